theorem dX0_init_0 : decode cX0_init 0 = .ok (.aload_n 0, 1) := by decide +kernel
theorem dX0_init_1 : decode cX0_init 1 = .ok (.invokespecial 1, 3) := by decide +kernel
theorem dX0_init_4 : decode cX0_init 4 = .ok (.aload_n 0, 1) := by decide +kernel
theorem dX0_init_5 : decode cX0_init 5 = .ok (.aload_n 1, 1) := by decide +kernel
theorem dX0_init_6 : decode cX0_init 6 = .ok (.putfield 7, 3) := by decide +kernel
theorem dX0_init_9 : decode cX0_init 9 = .ok (.return_, 1) := by decide +kernel
theorem dX0_hasTripped_0 : decode cX0_hasTripped 0 = .ok (.aload_n 0, 1) := by decide +kernel
theorem dX0_hasTripped_1 : decode cX0_hasTripped 1 = .ok (.getfield 13, 3) := by decide +kernel
theorem dX0_hasTripped_4 : decode cX0_hasTripped 4 = .ok (.iload_n 1, 1) := by decide +kernel
theorem dX0_hasTripped_5 : decode cX0_hasTripped 5 = .ok (.ishr, 1) := by decide +kernel
theorem dX0_hasTripped_6 : decode cX0_hasTripped 6 = .ok (.iconst 1, 1) := by decide +kernel
theorem dX0_hasTripped_7 : decode cX0_hasTripped 7 = .ok (.iand, 1) := by decide +kernel
theorem dX0_hasTripped_8 : decode cX0_hasTripped 8 = .ok (.ifCond .eq 7, 3) := by decide +kernel
theorem dX0_hasTripped_11 : decode cX0_hasTripped 11 = .ok (.iconst 1, 1) := by decide +kernel
theorem dX0_hasTripped_12 : decode cX0_hasTripped 12 = .ok (.goto 4, 3) := by decide +kernel
theorem dX0_hasTripped_15 : decode cX0_hasTripped 15 = .ok (.iconst 0, 1) := by decide +kernel
theorem dX0_hasTripped_16 : decode cX0_hasTripped 16 = .ok (.ireturn, 1) := by decide +kernel
theorem dX0_check_0 : decode cX0_check 0 = .ok (.iconst 0, 1) := by decide +kernel
theorem dX0_check_1 : decode cX0_check 1 = .ok (.istore 4, 2) := by decide +kernel
theorem dX0_check_3 : decode cX0_check 3 = .ok (.iconst 0, 1) := by decide +kernel
theorem dX0_check_4 : decode cX0_check 4 = .ok (.istore 5, 2) := by decide +kernel
theorem dX0_check_6 : decode cX0_check 6 = .ok (.iload 5, 2) := by decide +kernel
theorem dX0_check_8 : decode cX0_check 8 = .ok (.aload_n 0, 1) := by decide +kernel
theorem dX0_check_9 : decode cX0_check 9 = .ok (.getfield 7, 3) := by decide +kernel
theorem dX0_check_12 : decode cX0_check 12 = .ok (.arraylength, 1) := by decide +kernel
theorem dX0_check_13 : decode cX0_check 13 = .ok (.if_icmp .ge 79, 3) := by decide +kernel
theorem dX0_check_16 : decode cX0_check 16 = .ok (.iload 5, 2) := by decide +kernel
theorem dX0_check_18 : decode cX0_check 18 = .ok (.aload_n 1, 1) := by decide +kernel
theorem dX0_check_19 : decode cX0_check 19 = .ok (.arraylength, 1) := by decide +kernel
theorem dX0_check_20 : decode cX0_check 20 = .ok (.if_icmp .ge 72, 3) := by decide +kernel
theorem dX0_check_23 : decode cX0_check 23 = .ok (.aload_n 0, 1) := by decide +kernel
theorem dX0_check_24 : decode cX0_check 24 = .ok (.getfield 7, 3) := by decide +kernel
theorem dX0_check_27 : decode cX0_check 27 = .ok (.iload 5, 2) := by decide +kernel
theorem dX0_check_29 : decode cX0_check 29 = .ok (.aload_n 1, 1) := by decide +kernel
theorem dX0_check_30 : decode cX0_check 30 = .ok (.iload 5, 2) := by decide +kernel
theorem dX0_check_32 : decode cX0_check 32 = .ok (.iaload, 1) := by decide +kernel
theorem dX0_check_33 : decode cX0_check 33 = .ok (.iload_n 2, 1) := by decide +kernel
theorem dX0_check_34 : decode cX0_check 34 = .ok (.if_icmp .le 15, 3) := by decide +kernel
theorem dX0_check_37 : decode cX0_check 37 = .ok (.aload_n 0, 1) := by decide +kernel
theorem dX0_check_38 : decode cX0_check 38 = .ok (.getfield 7, 3) := by decide +kernel
theorem dX0_check_41 : decode cX0_check 41 = .ok (.iload 5, 2) := by decide +kernel
theorem dX0_check_43 : decode cX0_check 43 = .ok (.iaload, 1) := by decide +kernel
theorem dX0_check_44 : decode cX0_check 44 = .ok (.iconst 1, 1) := by decide +kernel
theorem dX0_check_45 : decode cX0_check 45 = .ok (.iadd, 1) := by decide +kernel
theorem dX0_check_46 : decode cX0_check 46 = .ok (.goto 4, 3) := by decide +kernel
theorem dX0_check_49 : decode cX0_check 49 = .ok (.iconst 0, 1) := by decide +kernel
theorem dX0_check_50 : decode cX0_check 50 = .ok (.iastore, 1) := by decide +kernel
theorem dX0_check_51 : decode cX0_check 51 = .ok (.aload_n 0, 1) := by decide +kernel
theorem dX0_check_52 : decode cX0_check 52 = .ok (.getfield 7, 3) := by decide +kernel
theorem dX0_check_55 : decode cX0_check 55 = .ok (.iload 5, 2) := by decide +kernel
theorem dX0_check_57 : decode cX0_check 57 = .ok (.iaload, 1) := by decide +kernel
theorem dX0_check_58 : decode cX0_check 58 = .ok (.iload_n 3, 1) := by decide +kernel
theorem dX0_check_59 : decode cX0_check 59 = .ok (.if_icmp .lt 27, 3) := by decide +kernel
theorem dX0_check_62 : decode cX0_check 62 = .ok (.aload_n 0, 1) := by decide +kernel
theorem dX0_check_63 : decode cX0_check 63 = .ok (.getfield 7, 3) := by decide +kernel
theorem dX0_check_66 : decode cX0_check 66 = .ok (.iload 5, 2) := by decide +kernel
theorem dX0_check_68 : decode cX0_check 68 = .ok (.iconst 0, 1) := by decide +kernel
theorem dX0_check_69 : decode cX0_check 69 = .ok (.iastore, 1) := by decide +kernel
theorem dX0_check_70 : decode cX0_check 70 = .ok (.aload_n 0, 1) := by decide +kernel
theorem dX0_check_71 : decode cX0_check 71 = .ok (.dup, 1) := by decide +kernel
theorem dX0_check_72 : decode cX0_check 72 = .ok (.getfield 13, 3) := by decide +kernel
theorem dX0_check_75 : decode cX0_check 75 = .ok (.iconst 1, 1) := by decide +kernel
theorem dX0_check_76 : decode cX0_check 76 = .ok (.iload 5, 2) := by decide +kernel
theorem dX0_check_78 : decode cX0_check 78 = .ok (.ishl, 1) := by decide +kernel
theorem dX0_check_79 : decode cX0_check 79 = .ok (.ior, 1) := by decide +kernel
theorem dX0_check_80 : decode cX0_check 80 = .ok (.putfield 13, 3) := by decide +kernel
theorem dX0_check_83 : decode cX0_check 83 = .ok (.iinc 4 1, 3) := by decide +kernel
theorem dX0_check_86 : decode cX0_check 86 = .ok (.iinc 5 1, 3) := by decide +kernel
theorem dX0_check_89 : decode cX0_check 89 = .ok (.goto (-83), 3) := by decide +kernel
theorem dX0_check_92 : decode cX0_check 92 = .ok (.iload 4, 2) := by decide +kernel
theorem dX0_check_94 : decode cX0_check 94 = .ok (.ireturn, 1) := by decide +kernel
theorem dX0_clearTrips_0 : decode cX0_clearTrips 0 = .ok (.aload_n 0, 1) := by decide +kernel
theorem dX0_clearTrips_1 : decode cX0_clearTrips 1 = .ok (.getfield 13, 3) := by decide +kernel
theorem dX0_clearTrips_4 : decode cX0_clearTrips 4 = .ok (.invokestatic 17, 3) := by decide +kernel
theorem dX0_clearTrips_7 : decode cX0_clearTrips 7 = .ok (.istore_n 1, 1) := by decide +kernel
theorem dX0_clearTrips_8 : decode cX0_clearTrips 8 = .ok (.aload_n 0, 1) := by decide +kernel
theorem dX0_clearTrips_9 : decode cX0_clearTrips 9 = .ok (.iconst 0, 1) := by decide +kernel
theorem dX0_clearTrips_10 : decode cX0_clearTrips 10 = .ok (.putfield 13, 3) := by decide +kernel
theorem dX0_clearTrips_13 : decode cX0_clearTrips 13 = .ok (.aload_n 0, 1) := by decide +kernel
theorem dX0_clearTrips_14 : decode cX0_clearTrips 14 = .ok (.getfield 7, 3) := by decide +kernel
theorem dX0_clearTrips_17 : decode cX0_clearTrips 17 = .ok (.invokestatic 23, 3) := by decide +kernel
theorem dX0_clearTrips_20 : decode cX0_clearTrips 20 = .ok (.iload_n 1, 1) := by decide +kernel
theorem dX0_clearTrips_21 : decode cX0_clearTrips 21 = .ok (.ireturn, 1) := by decide +kernel
theorem dX0_copyFrom_0 : decode cX0_copyFrom 0 = .ok (.aload_n 0, 1) := by decide +kernel
theorem dX0_copyFrom_1 : decode cX0_copyFrom 1 = .ok (.aload_n 1, 1) := by decide +kernel
theorem dX0_copyFrom_2 : decode cX0_copyFrom 2 = .ok (.getfield 13, 3) := by decide +kernel
theorem dX0_copyFrom_5 : decode cX0_copyFrom 5 = .ok (.putfield 13, 3) := by decide +kernel
theorem dX0_copyFrom_8 : decode cX0_copyFrom 8 = .ok (.aload_n 1, 1) := by decide +kernel
theorem dX0_copyFrom_9 : decode cX0_copyFrom 9 = .ok (.getfield 7, 3) := by decide +kernel
theorem dX0_copyFrom_12 : decode cX0_copyFrom 12 = .ok (.aload_n 0, 1) := by decide +kernel
theorem dX0_copyFrom_13 : decode cX0_copyFrom 13 = .ok (.getfield 7, 3) := by decide +kernel
theorem dX0_copyFrom_16 : decode cX0_copyFrom 16 = .ok (.invokestatic 29, 3) := by decide +kernel
theorem dX0_copyFrom_19 : decode cX0_copyFrom 19 = .ok (.return_, 1) := by decide +kernel
theorem dX1_init_0 : decode cX1_init 0 = .ok (.aload_n 0, 1) := by decide +kernel
theorem dX1_init_1 : decode cX1_init 1 = .ok (.invokespecial 3, 3) := by decide +kernel
theorem dX1_init_4 : decode cX1_init 4 = .ok (.aload_n 0, 1) := by decide +kernel
theorem dX1_init_5 : decode cX1_init 5 = .ok (.bipush 12, 2) := by decide +kernel
theorem dX1_init_7 : decode cX1_init 7 = .ok (.newarray .int, 2) := by decide +kernel
theorem dX1_init_9 : decode cX1_init 9 = .ok (.putfield 9, 3) := by decide +kernel
theorem dX1_init_12 : decode cX1_init 12 = .ok (.aload_n 0, 1) := by decide +kernel
theorem dX1_init_13 : decode cX1_init 13 = .ok (.bipush 12, 2) := by decide +kernel
theorem dX1_init_15 : decode cX1_init 15 = .ok (.newarray .int, 2) := by decide +kernel
theorem dX1_init_17 : decode cX1_init 17 = .ok (.putfield 15, 3) := by decide +kernel
theorem dX1_init_20 : decode cX1_init 20 = .ok (.return_, 1) := by decide +kernel
theorem dX1_start_0 : decode cX1_start 0 = .ok (.aload_n 0, 1) := by decide +kernel
theorem dX1_start_1 : decode cX1_start 1 = .ok (.iload_n 3, 1) := by decide +kernel
theorem dX1_start_2 : decode cX1_start 2 = .ok (.putfield 18, 3) := by decide +kernel
theorem dX1_start_5 : decode cX1_start 5 = .ok (.aload_n 0, 1) := by decide +kernel
theorem dX1_start_6 : decode cX1_start 6 = .ok (.iconst 0, 1) := by decide +kernel
theorem dX1_start_7 : decode cX1_start 7 = .ok (.putfield 22, 3) := by decide +kernel
theorem dX1_start_10 : decode cX1_start 10 = .ok (.aload_n 1, 1) := by decide +kernel
theorem dX1_start_11 : decode cX1_start 11 = .ok (.aload_n 0, 1) := by decide +kernel
theorem dX1_start_12 : decode cX1_start 12 = .ok (.getfield 9, 3) := by decide +kernel
theorem dX1_start_15 : decode cX1_start 15 = .ok (.invokestatic 25, 3) := by decide +kernel
theorem dX1_start_18 : decode cX1_start 18 = .ok (.aload_n 2, 1) := by decide +kernel
theorem dX1_start_19 : decode cX1_start 19 = .ok (.aload_n 0, 1) := by decide +kernel
theorem dX1_start_20 : decode cX1_start 20 = .ok (.getfield 15, 3) := by decide +kernel
theorem dX1_start_23 : decode cX1_start 23 = .ok (.invokestatic 25, 3) := by decide +kernel
theorem dX1_start_26 : decode cX1_start 26 = .ok (.return_, 1) := by decide +kernel
theorem dX1_ticksLeft_0 : decode cX1_ticksLeft 0 = .ok (.aload_n 0, 1) := by decide +kernel
theorem dX1_ticksLeft_1 : decode cX1_ticksLeft 1 = .ok (.getfield 18, 3) := by decide +kernel
theorem dX1_ticksLeft_4 : decode cX1_ticksLeft 4 = .ok (.aload_n 0, 1) := by decide +kernel
theorem dX1_ticksLeft_5 : decode cX1_ticksLeft 5 = .ok (.getfield 22, 3) := by decide +kernel
theorem dX1_ticksLeft_8 : decode cX1_ticksLeft 8 = .ok (.isub, 1) := by decide +kernel
theorem dX1_ticksLeft_9 : decode cX1_ticksLeft 9 = .ok (.ireturn, 1) := by decide +kernel
theorem dX1_step_0 : decode cX1_step 0 = .ok (.aload_n 0, 1) := by decide +kernel
theorem dX1_step_1 : decode cX1_step 1 = .ok (.getfield 18, 3) := by decide +kernel
theorem dX1_step_4 : decode cX1_step 4 = .ok (.ifCond .gt 4, 3) := by decide +kernel
theorem dX1_step_7 : decode cX1_step 7 = .ok (.return_, 1) := by decide +kernel
theorem dX1_step_8 : decode cX1_step 8 = .ok (.aload_n 0, 1) := by decide +kernel
theorem dX1_step_9 : decode cX1_step 9 = .ok (.dup, 1) := by decide +kernel
theorem dX1_step_10 : decode cX1_step 10 = .ok (.getfield 22, 3) := by decide +kernel
theorem dX1_step_13 : decode cX1_step 13 = .ok (.iconst 1, 1) := by decide +kernel
theorem dX1_step_14 : decode cX1_step 14 = .ok (.iadd, 1) := by decide +kernel
theorem dX1_step_15 : decode cX1_step 15 = .ok (.putfield 22, 3) := by decide +kernel
theorem dX1_step_18 : decode cX1_step 18 = .ok (.iconst 0, 1) := by decide +kernel
theorem dX1_step_19 : decode cX1_step 19 = .ok (.istore_n 2, 1) := by decide +kernel
theorem dX1_step_20 : decode cX1_step 20 = .ok (.iload_n 2, 1) := by decide +kernel
theorem dX1_step_21 : decode cX1_step 21 = .ok (.bipush 12, 2) := by decide +kernel
theorem dX1_step_23 : decode cX1_step 23 = .ok (.if_icmp .ge 48, 3) := by decide +kernel
theorem dX1_step_26 : decode cX1_step 26 = .ok (.iload_n 2, 1) := by decide +kernel
theorem dX1_step_27 : decode cX1_step 27 = .ok (.aload_n 1, 1) := by decide +kernel
theorem dX1_step_28 : decode cX1_step 28 = .ok (.arraylength, 1) := by decide +kernel
theorem dX1_step_29 : decode cX1_step 29 = .ok (.if_icmp .ge 42, 3) := by decide +kernel
theorem dX1_step_32 : decode cX1_step 32 = .ok (.aload_n 1, 1) := by decide +kernel
theorem dX1_step_33 : decode cX1_step 33 = .ok (.iload_n 2, 1) := by decide +kernel
theorem dX1_step_34 : decode cX1_step 34 = .ok (.aload_n 0, 1) := by decide +kernel
theorem dX1_step_35 : decode cX1_step 35 = .ok (.getfield 9, 3) := by decide +kernel
theorem dX1_step_38 : decode cX1_step 38 = .ok (.iload_n 2, 1) := by decide +kernel
theorem dX1_step_39 : decode cX1_step 39 = .ok (.iaload, 1) := by decide +kernel
theorem dX1_step_40 : decode cX1_step 40 = .ok (.aload_n 0, 1) := by decide +kernel
theorem dX1_step_41 : decode cX1_step 41 = .ok (.getfield 15, 3) := by decide +kernel
theorem dX1_step_44 : decode cX1_step 44 = .ok (.iload_n 2, 1) := by decide +kernel
theorem dX1_step_45 : decode cX1_step 45 = .ok (.iaload, 1) := by decide +kernel
theorem dX1_step_46 : decode cX1_step 46 = .ok (.aload_n 0, 1) := by decide +kernel
theorem dX1_step_47 : decode cX1_step 47 = .ok (.getfield 9, 3) := by decide +kernel
theorem dX1_step_50 : decode cX1_step 50 = .ok (.iload_n 2, 1) := by decide +kernel
theorem dX1_step_51 : decode cX1_step 51 = .ok (.iaload, 1) := by decide +kernel
theorem dX1_step_52 : decode cX1_step 52 = .ok (.isub, 1) := by decide +kernel
theorem dX1_step_53 : decode cX1_step 53 = .ok (.aload_n 0, 1) := by decide +kernel
theorem dX1_step_54 : decode cX1_step 54 = .ok (.getfield 22, 3) := by decide +kernel
theorem dX1_step_57 : decode cX1_step 57 = .ok (.imul, 1) := by decide +kernel
theorem dX1_step_58 : decode cX1_step 58 = .ok (.aload_n 0, 1) := by decide +kernel
theorem dX1_step_59 : decode cX1_step 59 = .ok (.getfield 18, 3) := by decide +kernel
theorem dX1_step_62 : decode cX1_step 62 = .ok (.idiv, 1) := by decide +kernel
theorem dX1_step_63 : decode cX1_step 63 = .ok (.iadd, 1) := by decide +kernel
theorem dX1_step_64 : decode cX1_step 64 = .ok (.iastore, 1) := by decide +kernel
theorem dX1_step_65 : decode cX1_step 65 = .ok (.iinc 2 1, 3) := by decide +kernel
theorem dX1_step_68 : decode cX1_step 68 = .ok (.goto (-48), 3) := by decide +kernel
theorem dX1_step_71 : decode cX1_step 71 = .ok (.aload_n 0, 1) := by decide +kernel
theorem dX1_step_72 : decode cX1_step 72 = .ok (.getfield 22, 3) := by decide +kernel
theorem dX1_step_75 : decode cX1_step 75 = .ok (.aload_n 0, 1) := by decide +kernel
theorem dX1_step_76 : decode cX1_step 76 = .ok (.getfield 18, 3) := by decide +kernel
theorem dX1_step_79 : decode cX1_step 79 = .ok (.if_icmp .lt 13, 3) := by decide +kernel
theorem dX1_step_82 : decode cX1_step 82 = .ok (.aload_n 0, 1) := by decide +kernel
theorem dX1_step_83 : decode cX1_step 83 = .ok (.iconst 0, 1) := by decide +kernel
theorem dX1_step_84 : decode cX1_step 84 = .ok (.putfield 18, 3) := by decide +kernel
theorem dX1_step_87 : decode cX1_step 87 = .ok (.aload_n 0, 1) := by decide +kernel
theorem dX1_step_88 : decode cX1_step 88 = .ok (.iconst 0, 1) := by decide +kernel
theorem dX1_step_89 : decode cX1_step 89 = .ok (.putfield 22, 3) := by decide +kernel
theorem dX1_step_92 : decode cX1_step 92 = .ok (.return_, 1) := by decide +kernel
theorem dX1_removeLamp_0 : decode cX1_removeLamp 0 = .ok (.aload_n 0, 1) := by decide +kernel
theorem dX1_removeLamp_1 : decode cX1_removeLamp 1 = .ok (.getfield 9, 3) := by decide +kernel
theorem dX1_removeLamp_4 : decode cX1_removeLamp 4 = .ok (.iload_n 1, 1) := by decide +kernel
theorem dX1_removeLamp_5 : decode cX1_removeLamp 5 = .ok (.invokestatic 29, 3) := by decide +kernel
theorem dX1_removeLamp_8 : decode cX1_removeLamp 8 = .ok (.aload_n 0, 1) := by decide +kernel
theorem dX1_removeLamp_9 : decode cX1_removeLamp 9 = .ok (.getfield 15, 3) := by decide +kernel
theorem dX1_removeLamp_12 : decode cX1_removeLamp 12 = .ok (.iload_n 1, 1) := by decide +kernel
theorem dX1_removeLamp_13 : decode cX1_removeLamp 13 = .ok (.invokestatic 29, 3) := by decide +kernel
theorem dX1_removeLamp_16 : decode cX1_removeLamp 16 = .ok (.return_, 1) := by decide +kernel
theorem dX1_copyFrom_0 : decode cX1_copyFrom 0 = .ok (.aload_n 0, 1) := by decide +kernel
theorem dX1_copyFrom_1 : decode cX1_copyFrom 1 = .ok (.aload_n 1, 1) := by decide +kernel
theorem dX1_copyFrom_2 : decode cX1_copyFrom 2 = .ok (.getfield 18, 3) := by decide +kernel
theorem dX1_copyFrom_5 : decode cX1_copyFrom 5 = .ok (.putfield 18, 3) := by decide +kernel
theorem dX1_copyFrom_8 : decode cX1_copyFrom 8 = .ok (.aload_n 0, 1) := by decide +kernel
theorem dX1_copyFrom_9 : decode cX1_copyFrom 9 = .ok (.aload_n 1, 1) := by decide +kernel
theorem dX1_copyFrom_10 : decode cX1_copyFrom 10 = .ok (.getfield 22, 3) := by decide +kernel
theorem dX1_copyFrom_13 : decode cX1_copyFrom 13 = .ok (.putfield 22, 3) := by decide +kernel
theorem dX1_copyFrom_16 : decode cX1_copyFrom 16 = .ok (.aload_n 1, 1) := by decide +kernel
theorem dX1_copyFrom_17 : decode cX1_copyFrom 17 = .ok (.getfield 9, 3) := by decide +kernel
theorem dX1_copyFrom_20 : decode cX1_copyFrom 20 = .ok (.aload_n 0, 1) := by decide +kernel
theorem dX1_copyFrom_21 : decode cX1_copyFrom 21 = .ok (.getfield 9, 3) := by decide +kernel
theorem dX1_copyFrom_24 : decode cX1_copyFrom 24 = .ok (.invokestatic 25, 3) := by decide +kernel
theorem dX1_copyFrom_27 : decode cX1_copyFrom 27 = .ok (.aload_n 1, 1) := by decide +kernel
theorem dX1_copyFrom_28 : decode cX1_copyFrom 28 = .ok (.getfield 15, 3) := by decide +kernel
theorem dX1_copyFrom_31 : decode cX1_copyFrom 31 = .ok (.aload_n 0, 1) := by decide +kernel
theorem dX1_copyFrom_32 : decode cX1_copyFrom 32 = .ok (.getfield 15, 3) := by decide +kernel
theorem dX1_copyFrom_35 : decode cX1_copyFrom 35 = .ok (.invokestatic 25, 3) := by decide +kernel
theorem dX1_copyFrom_38 : decode cX1_copyFrom 38 = .ok (.return_, 1) := by decide +kernel
theorem dX2_init_0 : decode cX2_init 0 = .ok (.aload_n 0, 1) := by decide +kernel
theorem dX2_init_1 : decode cX2_init 1 = .ok (.invokespecial 3, 3) := by decide +kernel
theorem dX2_init_4 : decode cX2_init 4 = .ok (.aload_n 0, 1) := by decide +kernel
theorem dX2_init_5 : decode cX2_init 5 = .ok (.bipush 6, 2) := by decide +kernel
theorem dX2_init_7 : decode cX2_init 7 = .ok (.anewarray 9, 3) := by decide +kernel
theorem dX2_init_10 : decode cX2_init 10 = .ok (.putfield 11, 3) := by decide +kernel
theorem dX2_init_13 : decode cX2_init 13 = .ok (.iconst 0, 1) := by decide +kernel
theorem dX2_init_14 : decode cX2_init 14 = .ok (.istore_n 1, 1) := by decide +kernel
theorem dX2_init_15 : decode cX2_init 15 = .ok (.iload_n 1, 1) := by decide +kernel
theorem dX2_init_16 : decode cX2_init 16 = .ok (.aload_n 0, 1) := by decide +kernel
theorem dX2_init_17 : decode cX2_init 17 = .ok (.getfield 11, 3) := by decide +kernel
theorem dX2_init_20 : decode cX2_init 20 = .ok (.arraylength, 1) := by decide +kernel
theorem dX2_init_21 : decode cX2_init 21 = .ok (.if_icmp .ge 22, 3) := by decide +kernel
theorem dX2_init_24 : decode cX2_init 24 = .ok (.aload_n 0, 1) := by decide +kernel
theorem dX2_init_25 : decode cX2_init 25 = .ok (.getfield 11, 3) := by decide +kernel
theorem dX2_init_28 : decode cX2_init 28 = .ok (.iload_n 1, 1) := by decide +kernel
theorem dX2_init_29 : decode cX2_init 29 = .ok (.new 9, 3) := by decide +kernel
theorem dX2_init_32 : decode cX2_init 32 = .ok (.dup, 1) := by decide +kernel
theorem dX2_init_33 : decode cX2_init 33 = .ok (.invokespecial 17, 3) := by decide +kernel
theorem dX2_init_36 : decode cX2_init 36 = .ok (.aastore, 1) := by decide +kernel
theorem dX2_init_37 : decode cX2_init 37 = .ok (.iinc 1 1, 3) := by decide +kernel
theorem dX2_init_40 : decode cX2_init 40 = .ok (.goto (-25), 3) := by decide +kernel
theorem dX2_init_43 : decode cX2_init 43 = .ok (.return_, 1) := by decide +kernel
theorem dX2_push_0 : decode cX2_push 0 = .ok (.aload_n 0, 1) := by decide +kernel
theorem dX2_push_1 : decode cX2_push 1 = .ok (.getfield 18, 3) := by decide +kernel
theorem dX2_push_4 : decode cX2_push 4 = .ok (.aload_n 0, 1) := by decide +kernel
theorem dX2_push_5 : decode cX2_push 5 = .ok (.getfield 11, 3) := by decide +kernel
theorem dX2_push_8 : decode cX2_push 8 = .ok (.arraylength, 1) := by decide +kernel
theorem dX2_push_9 : decode cX2_push 9 = .ok (.if_icmp .lt 7, 3) := by decide +kernel
theorem dX2_push_12 : decode cX2_push 12 = .ok (.aload_n 0, 1) := by decide +kernel
theorem dX2_push_13 : decode cX2_push 13 = .ok (.invokevirtual 22, 3) := by decide +kernel
theorem dX2_push_16 : decode cX2_push 16 = .ok (.aload_n 0, 1) := by decide +kernel
theorem dX2_push_17 : decode cX2_push 17 = .ok (.getfield 11, 3) := by decide +kernel
theorem dX2_push_20 : decode cX2_push 20 = .ok (.aload_n 0, 1) := by decide +kernel
theorem dX2_push_21 : decode cX2_push 21 = .ok (.getfield 18, 3) := by decide +kernel
theorem dX2_push_24 : decode cX2_push 24 = .ok (.aaload, 1) := by decide +kernel
theorem dX2_push_25 : decode cX2_push 25 = .ok (.aload_n 1, 1) := by decide +kernel
theorem dX2_push_26 : decode cX2_push 26 = .ok (.invokevirtual 25, 3) := by decide +kernel
theorem dX2_push_29 : decode cX2_push 29 = .ok (.aload_n 0, 1) := by decide +kernel
theorem dX2_push_30 : decode cX2_push 30 = .ok (.dup, 1) := by decide +kernel
theorem dX2_push_31 : decode cX2_push 31 = .ok (.getfield 18, 3) := by decide +kernel
theorem dX2_push_34 : decode cX2_push 34 = .ok (.iconst 1, 1) := by decide +kernel
theorem dX2_push_35 : decode cX2_push 35 = .ok (.iadd, 1) := by decide +kernel
theorem dX2_push_36 : decode cX2_push 36 = .ok (.putfield 18, 3) := by decide +kernel
theorem dX2_push_39 : decode cX2_push 39 = .ok (.return_, 1) := by decide +kernel
theorem dX2_pop_0 : decode cX2_pop 0 = .ok (.aload_n 0, 1) := by decide +kernel
theorem dX2_pop_1 : decode cX2_pop 1 = .ok (.getfield 18, 3) := by decide +kernel
theorem dX2_pop_4 : decode cX2_pop 4 = .ok (.ifCond .gt 5, 3) := by decide +kernel
theorem dX2_pop_7 : decode cX2_pop 7 = .ok (.iconst 0, 1) := by decide +kernel
theorem dX2_pop_8 : decode cX2_pop 8 = .ok (.ireturn, 1) := by decide +kernel
theorem dX2_pop_9 : decode cX2_pop 9 = .ok (.aload_n 0, 1) := by decide +kernel
theorem dX2_pop_10 : decode cX2_pop 10 = .ok (.dup, 1) := by decide +kernel
theorem dX2_pop_11 : decode cX2_pop 11 = .ok (.getfield 18, 3) := by decide +kernel
theorem dX2_pop_14 : decode cX2_pop 14 = .ok (.iconst 1, 1) := by decide +kernel
theorem dX2_pop_15 : decode cX2_pop 15 = .ok (.isub, 1) := by decide +kernel
theorem dX2_pop_16 : decode cX2_pop 16 = .ok (.putfield 18, 3) := by decide +kernel
theorem dX2_pop_19 : decode cX2_pop 19 = .ok (.aload_n 1, 1) := by decide +kernel
theorem dX2_pop_20 : decode cX2_pop 20 = .ok (.aload_n 0, 1) := by decide +kernel
theorem dX2_pop_21 : decode cX2_pop 21 = .ok (.getfield 11, 3) := by decide +kernel
theorem dX2_pop_24 : decode cX2_pop 24 = .ok (.aload_n 0, 1) := by decide +kernel
theorem dX2_pop_25 : decode cX2_pop 25 = .ok (.getfield 18, 3) := by decide +kernel
theorem dX2_pop_28 : decode cX2_pop 28 = .ok (.aaload, 1) := by decide +kernel
theorem dX2_pop_29 : decode cX2_pop 29 = .ok (.invokevirtual 25, 3) := by decide +kernel
theorem dX2_pop_32 : decode cX2_pop 32 = .ok (.iconst 1, 1) := by decide +kernel
theorem dX2_pop_33 : decode cX2_pop 33 = .ok (.ireturn, 1) := by decide +kernel
theorem dX2_dropOldest_0 : decode cX2_dropOldest 0 = .ok (.aload_n 0, 1) := by decide +kernel
theorem dX2_dropOldest_1 : decode cX2_dropOldest 1 = .ok (.getfield 11, 3) := by decide +kernel
theorem dX2_dropOldest_4 : decode cX2_dropOldest 4 = .ok (.iconst 0, 1) := by decide +kernel
theorem dX2_dropOldest_5 : decode cX2_dropOldest 5 = .ok (.aaload, 1) := by decide +kernel
theorem dX2_dropOldest_6 : decode cX2_dropOldest 6 = .ok (.astore_n 1, 1) := by decide +kernel
theorem dX2_dropOldest_7 : decode cX2_dropOldest 7 = .ok (.iconst 0, 1) := by decide +kernel
theorem dX2_dropOldest_8 : decode cX2_dropOldest 8 = .ok (.istore_n 2, 1) := by decide +kernel
theorem dX2_dropOldest_9 : decode cX2_dropOldest 9 = .ok (.iload_n 2, 1) := by decide +kernel
theorem dX2_dropOldest_10 : decode cX2_dropOldest 10 = .ok (.iconst 1, 1) := by decide +kernel
theorem dX2_dropOldest_11 : decode cX2_dropOldest 11 = .ok (.iadd, 1) := by decide +kernel
theorem dX2_dropOldest_12 : decode cX2_dropOldest 12 = .ok (.aload_n 0, 1) := by decide +kernel
theorem dX2_dropOldest_13 : decode cX2_dropOldest 13 = .ok (.getfield 11, 3) := by decide +kernel
theorem dX2_dropOldest_16 : decode cX2_dropOldest 16 = .ok (.arraylength, 1) := by decide +kernel
theorem dX2_dropOldest_17 : decode cX2_dropOldest 17 = .ok (.if_icmp .ge 23, 3) := by decide +kernel
theorem dX2_dropOldest_20 : decode cX2_dropOldest 20 = .ok (.aload_n 0, 1) := by decide +kernel
theorem dX2_dropOldest_21 : decode cX2_dropOldest 21 = .ok (.getfield 11, 3) := by decide +kernel
theorem dX2_dropOldest_24 : decode cX2_dropOldest 24 = .ok (.iload_n 2, 1) := by decide +kernel
theorem dX2_dropOldest_25 : decode cX2_dropOldest 25 = .ok (.aload_n 0, 1) := by decide +kernel
theorem dX2_dropOldest_26 : decode cX2_dropOldest 26 = .ok (.getfield 11, 3) := by decide +kernel
theorem dX2_dropOldest_29 : decode cX2_dropOldest 29 = .ok (.iload_n 2, 1) := by decide +kernel
theorem dX2_dropOldest_30 : decode cX2_dropOldest 30 = .ok (.iconst 1, 1) := by decide +kernel
theorem dX2_dropOldest_31 : decode cX2_dropOldest 31 = .ok (.iadd, 1) := by decide +kernel
theorem dX2_dropOldest_32 : decode cX2_dropOldest 32 = .ok (.aaload, 1) := by decide +kernel
theorem dX2_dropOldest_33 : decode cX2_dropOldest 33 = .ok (.aastore, 1) := by decide +kernel
theorem dX2_dropOldest_34 : decode cX2_dropOldest 34 = .ok (.iinc 2 1, 3) := by decide +kernel
theorem dX2_dropOldest_37 : decode cX2_dropOldest 37 = .ok (.goto (-28), 3) := by decide +kernel
theorem dX2_dropOldest_40 : decode cX2_dropOldest 40 = .ok (.aload_n 0, 1) := by decide +kernel
theorem dX2_dropOldest_41 : decode cX2_dropOldest 41 = .ok (.getfield 11, 3) := by decide +kernel
theorem dX2_dropOldest_44 : decode cX2_dropOldest 44 = .ok (.aload_n 0, 1) := by decide +kernel
theorem dX2_dropOldest_45 : decode cX2_dropOldest 45 = .ok (.getfield 11, 3) := by decide +kernel
theorem dX2_dropOldest_48 : decode cX2_dropOldest 48 = .ok (.arraylength, 1) := by decide +kernel
theorem dX2_dropOldest_49 : decode cX2_dropOldest 49 = .ok (.iconst 1, 1) := by decide +kernel
theorem dX2_dropOldest_50 : decode cX2_dropOldest 50 = .ok (.isub, 1) := by decide +kernel
theorem dX2_dropOldest_51 : decode cX2_dropOldest 51 = .ok (.aload_n 1, 1) := by decide +kernel
theorem dX2_dropOldest_52 : decode cX2_dropOldest 52 = .ok (.aastore, 1) := by decide +kernel
theorem dX2_dropOldest_53 : decode cX2_dropOldest 53 = .ok (.aload_n 0, 1) := by decide +kernel
theorem dX2_dropOldest_54 : decode cX2_dropOldest 54 = .ok (.aload_n 0, 1) := by decide +kernel
theorem dX2_dropOldest_55 : decode cX2_dropOldest 55 = .ok (.getfield 11, 3) := by decide +kernel
theorem dX2_dropOldest_58 : decode cX2_dropOldest 58 = .ok (.arraylength, 1) := by decide +kernel
theorem dX2_dropOldest_59 : decode cX2_dropOldest 59 = .ok (.iconst 1, 1) := by decide +kernel
theorem dX2_dropOldest_60 : decode cX2_dropOldest 60 = .ok (.isub, 1) := by decide +kernel
theorem dX2_dropOldest_61 : decode cX2_dropOldest 61 = .ok (.putfield 18, 3) := by decide +kernel
theorem dX2_dropOldest_64 : decode cX2_dropOldest 64 = .ok (.return_, 1) := by decide +kernel
theorem dX3_init_0 : decode cX3_init 0 = .ok (.aload_n 0, 1) := by decide +kernel
theorem dX3_init_1 : decode cX3_init 1 = .ok (.invokespecial 3, 3) := by decide +kernel
theorem dX3_init_4 : decode cX3_init 4 = .ok (.aload_n 0, 1) := by decide +kernel
theorem dX3_init_5 : decode cX3_init 5 = .ok (.bipush 12, 2) := by decide +kernel
theorem dX3_init_7 : decode cX3_init 7 = .ok (.newarray .int, 2) := by decide +kernel
theorem dX3_init_9 : decode cX3_init 9 = .ok (.putfield 9, 3) := by decide +kernel
theorem dX3_init_12 : decode cX3_init 12 = .ok (.aload_n 0, 1) := by decide +kernel
theorem dX3_init_13 : decode cX3_init 13 = .ok (.iconst 3, 1) := by decide +kernel
theorem dX3_init_14 : decode cX3_init 14 = .ok (.newarray .int, 2) := by decide +kernel
theorem dX3_init_16 : decode cX3_init 16 = .ok (.putfield 15, 3) := by decide +kernel
theorem dX3_init_19 : decode cX3_init 19 = .ok (.return_, 1) := by decide +kernel
theorem dX3_measureNow_0 : decode cX3_measureNow 0 = .ok (.aload_n 0, 1) := by decide +kernel
theorem dX3_measureNow_1 : decode cX3_measureNow 1 = .ok (.invokevirtual 18, 3) := by decide +kernel
theorem dX3_measureNow_4 : decode cX3_measureNow 4 = .ok (.iconst 0, 1) := by decide +kernel
theorem dX3_measureNow_5 : decode cX3_measureNow 5 = .ok (.istore_n 3, 1) := by decide +kernel
theorem dX3_measureNow_6 : decode cX3_measureNow 6 = .ok (.iload_n 3, 1) := by decide +kernel
theorem dX3_measureNow_7 : decode cX3_measureNow 7 = .ok (.aload_n 1, 1) := by decide +kernel
theorem dX3_measureNow_8 : decode cX3_measureNow 8 = .ok (.getfield 21, 3) := by decide +kernel
theorem dX3_measureNow_11 : decode cX3_measureNow 11 = .ok (.if_icmp .ge 21, 3) := by decide +kernel
theorem dX3_measureNow_14 : decode cX3_measureNow 14 = .ok (.aload_n 0, 1) := by decide +kernel
theorem dX3_measureNow_15 : decode cX3_measureNow 15 = .ok (.aload_n 1, 1) := by decide +kernel
theorem dX3_measureNow_16 : decode cX3_measureNow 16 = .ok (.iload_n 3, 1) := by decide +kernel
theorem dX3_measureNow_17 : decode cX3_measureNow 17 = .ok (.aload_n 1, 1) := by decide +kernel
theorem dX3_measureNow_18 : decode cX3_measureNow 18 = .ok (.iload_n 3, 1) := by decide +kernel
theorem dX3_measureNow_19 : decode cX3_measureNow 19 = .ok (.aload_n 2, 1) := by decide +kernel
theorem dX3_measureNow_20 : decode cX3_measureNow 20 = .ok (.invokevirtual 27, 3) := by decide +kernel
theorem dX3_measureNow_23 : decode cX3_measureNow 23 = .ok (.invokevirtual 31, 3) := by decide +kernel
theorem dX3_measureNow_26 : decode cX3_measureNow 26 = .ok (.iinc 3 1, 3) := by decide +kernel
theorem dX3_measureNow_29 : decode cX3_measureNow 29 = .ok (.goto (-23), 3) := by decide +kernel
theorem dX3_measureNow_32 : decode cX3_measureNow 32 = .ok (.return_, 1) := by decide +kernel
theorem dX3_measureCue_0 : decode cX3_measureCue 0 = .ok (.aload_n 0, 1) := by decide +kernel
theorem dX3_measureCue_1 : decode cX3_measureCue 1 = .ok (.invokevirtual 18, 3) := by decide +kernel
theorem dX3_measureCue_4 : decode cX3_measureCue 4 = .ok (.aload_n 1, 1) := by decide +kernel
theorem dX3_measureCue_5 : decode cX3_measureCue 5 = .ok (.iload_n 2, 1) := by decide +kernel
theorem dX3_measureCue_6 : decode cX3_measureCue 6 = .ok (.invokevirtual 35, 3) := by decide +kernel
theorem dX3_measureCue_9 : decode cX3_measureCue 9 = .ok (.ifCond .ne 4, 3) := by decide +kernel
theorem dX3_measureCue_12 : decode cX3_measureCue 12 = .ok (.return_, 1) := by decide +kernel
theorem dX3_measureCue_13 : decode cX3_measureCue 13 = .ok (.iconst 0, 1) := by decide +kernel
theorem dX3_measureCue_14 : decode cX3_measureCue 14 = .ok (.istore 4, 2) := by decide +kernel
theorem dX3_measureCue_16 : decode cX3_measureCue 16 = .ok (.iload 4, 2) := by decide +kernel
theorem dX3_measureCue_18 : decode cX3_measureCue 18 = .ok (.aload_n 1, 1) := by decide +kernel
theorem dX3_measureCue_19 : decode cX3_measureCue 19 = .ok (.getfield 21, 3) := by decide +kernel
theorem dX3_measureCue_22 : decode cX3_measureCue 22 = .ok (.if_icmp .ge 29, 3) := by decide +kernel
theorem dX3_measureCue_25 : decode cX3_measureCue 25 = .ok (.aload_n 0, 1) := by decide +kernel
theorem dX3_measureCue_26 : decode cX3_measureCue 26 = .ok (.aload_n 1, 1) := by decide +kernel
theorem dX3_measureCue_27 : decode cX3_measureCue 27 = .ok (.iload 4, 2) := by decide +kernel
theorem dX3_measureCue_29 : decode cX3_measureCue 29 = .ok (.aload_n 1, 1) := by decide +kernel
theorem dX3_measureCue_30 : decode cX3_measureCue 30 = .ok (.iload 4, 2) := by decide +kernel
theorem dX3_measureCue_32 : decode cX3_measureCue 32 = .ok (.aload_n 1, 1) := by decide +kernel
theorem dX3_measureCue_33 : decode cX3_measureCue 33 = .ok (.getfield 39, 3) := by decide +kernel
theorem dX3_measureCue_36 : decode cX3_measureCue 36 = .ok (.iload_n 2, 1) := by decide +kernel
theorem dX3_measureCue_37 : decode cX3_measureCue 37 = .ok (.aaload, 1) := by decide +kernel
theorem dX3_measureCue_38 : decode cX3_measureCue 38 = .ok (.aload_n 3, 1) := by decide +kernel
theorem dX3_measureCue_39 : decode cX3_measureCue 39 = .ok (.invokevirtual 43, 3) := by decide +kernel
theorem dX3_measureCue_42 : decode cX3_measureCue 42 = .ok (.invokevirtual 31, 3) := by decide +kernel
theorem dX3_measureCue_45 : decode cX3_measureCue 45 = .ok (.iinc 4 1, 3) := by decide +kernel
theorem dX3_measureCue_48 : decode cX3_measureCue 48 = .ok (.goto (-32), 3) := by decide +kernel
theorem dX3_measureCue_51 : decode cX3_measureCue 51 = .ok (.return_, 1) := by decide +kernel
theorem dX3_empty_0 : decode cX3_empty 0 = .ok (.aload_n 0, 1) := by decide +kernel
theorem dX3_empty_1 : decode cX3_empty 1 = .ok (.getfield 9, 3) := by decide +kernel
theorem dX3_empty_4 : decode cX3_empty 4 = .ok (.invokestatic 47, 3) := by decide +kernel
theorem dX3_empty_7 : decode cX3_empty 7 = .ok (.aload_n 0, 1) := by decide +kernel
theorem dX3_empty_8 : decode cX3_empty 8 = .ok (.getfield 15, 3) := by decide +kernel
theorem dX3_empty_11 : decode cX3_empty 11 = .ok (.invokestatic 47, 3) := by decide +kernel
theorem dX3_empty_14 : decode cX3_empty 14 = .ok (.return_, 1) := by decide +kernel
theorem dX3_sumOfPhases_0 : decode cX3_sumOfPhases 0 = .ok (.iconst 0, 1) := by decide +kernel
theorem dX3_sumOfPhases_1 : decode cX3_sumOfPhases 1 = .ok (.istore_n 1, 1) := by decide +kernel
theorem dX3_sumOfPhases_2 : decode cX3_sumOfPhases 2 = .ok (.aload_n 0, 1) := by decide +kernel
theorem dX3_sumOfPhases_3 : decode cX3_sumOfPhases 3 = .ok (.getfield 15, 3) := by decide +kernel
theorem dX3_sumOfPhases_6 : decode cX3_sumOfPhases 6 = .ok (.astore_n 2, 1) := by decide +kernel
theorem dX3_sumOfPhases_7 : decode cX3_sumOfPhases 7 = .ok (.aload_n 2, 1) := by decide +kernel
theorem dX3_sumOfPhases_8 : decode cX3_sumOfPhases 8 = .ok (.arraylength, 1) := by decide +kernel
theorem dX3_sumOfPhases_9 : decode cX3_sumOfPhases 9 = .ok (.istore_n 3, 1) := by decide +kernel
theorem dX3_sumOfPhases_10 : decode cX3_sumOfPhases 10 = .ok (.iconst 0, 1) := by decide +kernel
theorem dX3_sumOfPhases_11 : decode cX3_sumOfPhases 11 = .ok (.istore 4, 2) := by decide +kernel
theorem dX3_sumOfPhases_13 : decode cX3_sumOfPhases 13 = .ok (.iload 4, 2) := by decide +kernel
theorem dX3_sumOfPhases_15 : decode cX3_sumOfPhases 15 = .ok (.iload_n 3, 1) := by decide +kernel
theorem dX3_sumOfPhases_16 : decode cX3_sumOfPhases 16 = .ok (.if_icmp .ge 20, 3) := by decide +kernel
theorem dX3_sumOfPhases_19 : decode cX3_sumOfPhases 19 = .ok (.aload_n 2, 1) := by decide +kernel
theorem dX3_sumOfPhases_20 : decode cX3_sumOfPhases 20 = .ok (.iload 4, 2) := by decide +kernel
theorem dX3_sumOfPhases_22 : decode cX3_sumOfPhases 22 = .ok (.iaload, 1) := by decide +kernel
theorem dX3_sumOfPhases_23 : decode cX3_sumOfPhases 23 = .ok (.istore 5, 2) := by decide +kernel
theorem dX3_sumOfPhases_25 : decode cX3_sumOfPhases 25 = .ok (.iload_n 1, 1) := by decide +kernel
theorem dX3_sumOfPhases_26 : decode cX3_sumOfPhases 26 = .ok (.iload 5, 2) := by decide +kernel
theorem dX3_sumOfPhases_28 : decode cX3_sumOfPhases 28 = .ok (.iadd, 1) := by decide +kernel
theorem dX3_sumOfPhases_29 : decode cX3_sumOfPhases 29 = .ok (.istore_n 1, 1) := by decide +kernel
theorem dX3_sumOfPhases_30 : decode cX3_sumOfPhases 30 = .ok (.iinc 4 1, 3) := by decide +kernel
theorem dX3_sumOfPhases_33 : decode cX3_sumOfPhases 33 = .ok (.goto (-20), 3) := by decide +kernel
theorem dX3_sumOfPhases_36 : decode cX3_sumOfPhases 36 = .ok (.iload_n 1, 1) := by decide +kernel
theorem dX3_sumOfPhases_37 : decode cX3_sumOfPhases 37 = .ok (.ireturn, 1) := by decide +kernel
theorem dX3_add_0 : decode cX3_add 0 = .ok (.aload_n 1, 1) := by decide +kernel
theorem dX3_add_1 : decode cX3_add 1 = .ok (.iload_n 2, 1) := by decide +kernel
theorem dX3_add_2 : decode cX3_add 2 = .ok (.invokevirtual 51, 3) := by decide +kernel
theorem dX3_add_5 : decode cX3_add 5 = .ok (.istore 4, 2) := by decide +kernel
theorem dX3_add_7 : decode cX3_add 7 = .ok (.aload_n 1, 1) := by decide +kernel
theorem dX3_add_8 : decode cX3_add 8 = .ok (.iload 4, 2) := by decide +kernel
theorem dX3_add_10 : decode cX3_add 10 = .ok (.invokevirtual 55, 3) := by decide +kernel
theorem dX3_add_13 : decode cX3_add 13 = .ok (.istore 5, 2) := by decide +kernel
theorem dX3_add_15 : decode cX3_add 15 = .ok (.iload 4, 2) := by decide +kernel
theorem dX3_add_17 : decode cX3_add 17 = .ok (.invokestatic 58, 3) := by decide +kernel
theorem dX3_add_20 : decode cX3_add 20 = .ok (.ifCond .eq 33, 3) := by decide +kernel
theorem dX3_add_23 : decode cX3_add 23 = .ok (.iload 5, 2) := by decide +kernel
theorem dX3_add_25 : decode cX3_add 25 = .ok (.invokestatic 61, 3) := by decide +kernel
theorem dX3_add_28 : decode cX3_add 28 = .ok (.ifCond .eq 25, 3) := by decide +kernel
theorem dX3_add_31 : decode cX3_add 31 = .ok (.aload_n 0, 1) := by decide +kernel
theorem dX3_add_32 : decode cX3_add 32 = .ok (.getfield 9, 3) := by decide +kernel
theorem dX3_add_35 : decode cX3_add 35 = .ok (.iload 4, 2) := by decide +kernel
theorem dX3_add_37 : decode cX3_add 37 = .ok (.dup2, 1) := by decide +kernel
theorem dX3_add_38 : decode cX3_add 38 = .ok (.iaload, 1) := by decide +kernel
theorem dX3_add_39 : decode cX3_add 39 = .ok (.iload_n 3, 1) := by decide +kernel
theorem dX3_add_40 : decode cX3_add 40 = .ok (.iadd, 1) := by decide +kernel
theorem dX3_add_41 : decode cX3_add 41 = .ok (.iastore, 1) := by decide +kernel
theorem dX3_add_42 : decode cX3_add 42 = .ok (.aload_n 0, 1) := by decide +kernel
theorem dX3_add_43 : decode cX3_add 43 = .ok (.getfield 15, 3) := by decide +kernel
theorem dX3_add_46 : decode cX3_add 46 = .ok (.iload 5, 2) := by decide +kernel
theorem dX3_add_48 : decode cX3_add 48 = .ok (.dup2, 1) := by decide +kernel
theorem dX3_add_49 : decode cX3_add 49 = .ok (.iaload, 1) := by decide +kernel
theorem dX3_add_50 : decode cX3_add 50 = .ok (.iload_n 3, 1) := by decide +kernel
theorem dX3_add_51 : decode cX3_add 51 = .ok (.iadd, 1) := by decide +kernel
theorem dX3_add_52 : decode cX3_add 52 = .ok (.iastore, 1) := by decide +kernel
theorem dX3_add_53 : decode cX3_add 53 = .ok (.return_, 1) := by decide +kernel
theorem dX4_init_0 : decode cX4_init 0 = .ok (.aload_n 0, 1) := by decide +kernel
theorem dX4_init_1 : decode cX4_init 1 = .ok (.invokespecial 3, 3) := by decide +kernel
theorem dX4_init_4 : decode cX4_init 4 = .ok (.aload_n 0, 1) := by decide +kernel
theorem dX4_init_5 : decode cX4_init 5 = .ok (.new 9, 3) := by decide +kernel
theorem dX4_init_8 : decode cX4_init 8 = .ok (.dup, 1) := by decide +kernel
theorem dX4_init_9 : decode cX4_init 9 = .ok (.invokespecial 11, 3) := by decide +kernel
theorem dX4_init_12 : decode cX4_init 12 = .ok (.putfield 12, 3) := by decide +kernel
theorem dX4_init_15 : decode cX4_init 15 = .ok (.aload_n 0, 1) := by decide +kernel
theorem dX4_init_16 : decode cX4_init 16 = .ok (.bipush 60, 2) := by decide +kernel
theorem dX4_init_18 : decode cX4_init 18 = .ok (.newarray .int, 2) := by decide +kernel
theorem dX4_init_20 : decode cX4_init 20 = .ok (.putfield 18, 3) := by decide +kernel
theorem dX4_init_23 : decode cX4_init 23 = .ok (.aload_n 0, 1) := by decide +kernel
theorem dX4_init_24 : decode cX4_init 24 = .ok (.bipush 60, 2) := by decide +kernel
theorem dX4_init_26 : decode cX4_init 26 = .ok (.newarray .int, 2) := by decide +kernel
theorem dX4_init_28 : decode cX4_init 28 = .ok (.putfield 22, 3) := by decide +kernel
theorem dX4_init_31 : decode cX4_init 31 = .ok (.aload_n 0, 1) := by decide +kernel
theorem dX4_init_32 : decode cX4_init 32 = .ok (.bipush 60, 2) := by decide +kernel
theorem dX4_init_34 : decode cX4_init 34 = .ok (.newarray .int, 2) := by decide +kernel
theorem dX4_init_36 : decode cX4_init 36 = .ok (.putfield 25, 3) := by decide +kernel
theorem dX4_init_39 : decode cX4_init 39 = .ok (.aload_n 0, 1) := by decide +kernel
theorem dX4_init_40 : decode cX4_init 40 = .ok (.bipush 60, 2) := by decide +kernel
theorem dX4_init_42 : decode cX4_init 42 = .ok (.newarray .int, 2) := by decide +kernel
theorem dX4_init_44 : decode cX4_init 44 = .ok (.putfield 28, 3) := by decide +kernel
theorem dX4_init_47 : decode cX4_init 47 = .ok (.aload_n 0, 1) := by decide +kernel
theorem dX4_init_48 : decode cX4_init 48 = .ok (.bipush 60, 2) := by decide +kernel
theorem dX4_init_50 : decode cX4_init 50 = .ok (.newarray .int, 2) := by decide +kernel
theorem dX4_init_52 : decode cX4_init 52 = .ok (.putfield 31, 3) := by decide +kernel
theorem dX4_init_55 : decode cX4_init 55 = .ok (.aload_n 0, 1) := by decide +kernel
theorem dX4_init_56 : decode cX4_init 56 = .ok (.bipush 60, 2) := by decide +kernel
theorem dX4_init_58 : decode cX4_init 58 = .ok (.newarray .int, 2) := by decide +kernel
theorem dX4_init_60 : decode cX4_init 60 = .ok (.putfield 34, 3) := by decide +kernel
theorem dX4_init_63 : decode cX4_init 63 = .ok (.return_, 1) := by decide +kernel
theorem dX4_read_0 : decode cX4_read 0 = .ok (.aload_n 0, 1) := by decide +kernel
theorem dX4_read_1 : decode cX4_read 1 = .ok (.iconst 0, 1) := by decide +kernel
theorem dX4_read_2 : decode cX4_read 2 = .ok (.putfield 37, 3) := by decide +kernel
theorem dX4_read_5 : decode cX4_read 5 = .ok (.aload_n 0, 1) := by decide +kernel
theorem dX4_read_6 : decode cX4_read 6 = .ok (.iconst 0, 1) := by decide +kernel
theorem dX4_read_7 : decode cX4_read 7 = .ok (.putfield 41, 3) := by decide +kernel
theorem dX4_read_10 : decode cX4_read 10 = .ok (.aload_n 0, 1) := by decide +kernel
theorem dX4_read_11 : decode cX4_read 11 = .ok (.iconst 0, 1) := by decide +kernel
theorem dX4_read_12 : decode cX4_read 12 = .ok (.invokevirtual 44, 3) := by decide +kernel
theorem dX4_read_15 : decode cX4_read 15 = .ok (.iconst 0, 1) := by decide +kernel
theorem dX4_read_16 : decode cX4_read 16 = .ok (.istore_n 1, 1) := by decide +kernel
theorem dX4_read_17 : decode cX4_read 17 = .ok (.iload_n 1, 1) := by decide +kernel
theorem dX4_read_18 : decode cX4_read 18 = .ok (.bipush 60, 2) := by decide +kernel
theorem dX4_read_20 : decode cX4_read 20 = .ok (.if_icmp .ge 45, 3) := by decide +kernel
theorem dX4_read_23 : decode cX4_read 23 = .ok (.aload_n 0, 1) := by decide +kernel
theorem dX4_read_24 : decode cX4_read 24 = .ok (.invokevirtual 48, 3) := by decide +kernel
theorem dX4_read_27 : decode cX4_read 27 = .ok (.ifCond .ne 5, 3) := by decide +kernel
theorem dX4_read_30 : decode cX4_read 30 = .ok (.iconst 0, 1) := by decide +kernel
theorem dX4_read_31 : decode cX4_read 31 = .ok (.ireturn, 1) := by decide +kernel
theorem dX4_read_32 : decode cX4_read 32 = .ok (.aload_n 0, 1) := by decide +kernel
theorem dX4_read_33 : decode cX4_read 33 = .ok (.getfield 52, 3) := by decide +kernel
theorem dX4_read_36 : decode cX4_read 36 = .ok (.aload_n 0, 1) := by decide +kernel
theorem dX4_read_37 : decode cX4_read 37 = .ok (.getfield 12, 3) := by decide +kernel
theorem dX4_read_40 : decode cX4_read 40 = .ok (.getfield 55, 3) := by decide +kernel
theorem dX4_read_43 : decode cX4_read 43 = .ok (.if_icmp .lt 5, 3) := by decide +kernel
theorem dX4_read_46 : decode cX4_read 46 = .ok (.iconst 1, 1) := by decide +kernel
theorem dX4_read_47 : decode cX4_read 47 = .ok (.ireturn, 1) := by decide +kernel
theorem dX4_read_48 : decode cX4_read 48 = .ok (.aload_n 0, 1) := by decide +kernel
theorem dX4_read_49 : decode cX4_read 49 = .ok (.bipush 59, 2) := by decide +kernel
theorem dX4_read_51 : decode cX4_read 51 = .ok (.invokevirtual 58, 3) := by decide +kernel
theorem dX4_read_54 : decode cX4_read 54 = .ok (.ifCond .ne 5, 3) := by decide +kernel
theorem dX4_read_57 : decode cX4_read 57 = .ok (.iconst 0, 1) := by decide +kernel
theorem dX4_read_58 : decode cX4_read 58 = .ok (.ireturn, 1) := by decide +kernel
theorem dX4_read_59 : decode cX4_read 59 = .ok (.iinc 1 1, 3) := by decide +kernel
theorem dX4_read_62 : decode cX4_read 62 = .ok (.goto (-45), 3) := by decide +kernel
theorem dX4_read_65 : decode cX4_read 65 = .ok (.iconst 0, 1) := by decide +kernel
theorem dX4_read_66 : decode cX4_read 66 = .ok (.ireturn, 1) := by decide +kernel
theorem dX4_readOrder_0 : decode cX4_readOrder 0 = .ok (.aload_n 0, 1) := by decide +kernel
theorem dX4_readOrder_1 : decode cX4_readOrder 1 = .ok (.bipush 114, 2) := by decide +kernel
theorem dX4_readOrder_3 : decode cX4_readOrder 3 = .ok (.invokevirtual 58, 3) := by decide +kernel
theorem dX4_readOrder_6 : decode cX4_readOrder 6 = .ok (.ifCond .eq 8, 3) := by decide +kernel
theorem dX4_readOrder_9 : decode cX4_readOrder 9 = .ok (.aload_n 0, 1) := by decide +kernel
theorem dX4_readOrder_10 : decode cX4_readOrder 10 = .ok (.invokevirtual 62, 3) := by decide +kernel
theorem dX4_readOrder_13 : decode cX4_readOrder 13 = .ok (.ireturn, 1) := by decide +kernel
theorem dX4_readOrder_14 : decode cX4_readOrder 14 = .ok (.aload_n 0, 1) := by decide +kernel
theorem dX4_readOrder_15 : decode cX4_readOrder 15 = .ok (.bipush 103, 2) := by decide +kernel
theorem dX4_readOrder_17 : decode cX4_readOrder 17 = .ok (.invokevirtual 58, 3) := by decide +kernel
theorem dX4_readOrder_20 : decode cX4_readOrder 20 = .ok (.ifCond .eq 8, 3) := by decide +kernel
theorem dX4_readOrder_23 : decode cX4_readOrder 23 = .ok (.aload_n 0, 1) := by decide +kernel
theorem dX4_readOrder_24 : decode cX4_readOrder 24 = .ok (.invokevirtual 65, 3) := by decide +kernel
theorem dX4_readOrder_27 : decode cX4_readOrder 27 = .ok (.ireturn, 1) := by decide +kernel
theorem dX4_readOrder_28 : decode cX4_readOrder 28 = .ok (.aload_n 0, 1) := by decide +kernel
theorem dX4_readOrder_29 : decode cX4_readOrder 29 = .ok (.bipush 120, 2) := by decide +kernel
theorem dX4_readOrder_31 : decode cX4_readOrder 31 = .ok (.invokevirtual 58, 3) := by decide +kernel
theorem dX4_readOrder_34 : decode cX4_readOrder 34 = .ok (.ifCond .eq 11, 3) := by decide +kernel
theorem dX4_readOrder_37 : decode cX4_readOrder 37 = .ok (.aload_n 0, 1) := by decide +kernel
theorem dX4_readOrder_38 : decode cX4_readOrder 38 = .ok (.iconst 3, 1) := by decide +kernel
theorem dX4_readOrder_39 : decode cX4_readOrder 39 = .ok (.iconst 0, 1) := by decide +kernel
theorem dX4_readOrder_40 : decode cX4_readOrder 40 = .ok (.iconst 0, 1) := by decide +kernel
theorem dX4_readOrder_41 : decode cX4_readOrder 41 = .ok (.invokevirtual 68, 3) := by decide +kernel
theorem dX4_readOrder_44 : decode cX4_readOrder 44 = .ok (.ireturn, 1) := by decide +kernel
theorem dX4_readOrder_45 : decode cX4_readOrder 45 = .ok (.aload_n 0, 1) := by decide +kernel
theorem dX4_readOrder_46 : decode cX4_readOrder 46 = .ok (.invokevirtual 72, 3) := by decide +kernel
theorem dX4_readOrder_49 : decode cX4_readOrder 49 = .ok (.ireturn, 1) := by decide +kernel
theorem dX4_readRecord_0 : decode cX4_readRecord 0 = .ok (.aload_n 0, 1) := by decide +kernel
theorem dX4_readRecord_1 : decode cX4_readRecord 1 = .ok (.iconst 0, 1) := by decide +kernel
theorem dX4_readRecord_2 : decode cX4_readRecord 2 = .ok (.bipush 7, 2) := by decide +kernel
theorem dX4_readRecord_4 : decode cX4_readRecord 4 = .ok (.invokevirtual 75, 3) := by decide +kernel
theorem dX4_readRecord_7 : decode cX4_readRecord 7 = .ok (.istore_n 1, 1) := by decide +kernel
theorem dX4_readRecord_8 : decode cX4_readRecord 8 = .ok (.iload_n 1, 1) := by decide +kernel
theorem dX4_readRecord_9 : decode cX4_readRecord 9 = .ok (.bipush (-6), 2) := by decide +kernel
theorem dX4_readRecord_11 : decode cX4_readRecord 11 = .ok (.if_icmp .eq 12, 3) := by decide +kernel
theorem dX4_readRecord_14 : decode cX4_readRecord 14 = .ok (.aload_n 0, 1) := by decide +kernel
theorem dX4_readRecord_15 : decode cX4_readRecord 15 = .ok (.bipush 47, 2) := by decide +kernel
theorem dX4_readRecord_17 : decode cX4_readRecord 17 = .ok (.invokevirtual 58, 3) := by decide +kernel
theorem dX4_readRecord_20 : decode cX4_readRecord 20 = .ok (.ifCond .ne 5, 3) := by decide +kernel
theorem dX4_readRecord_23 : decode cX4_readRecord 23 = .ok (.iconst 0, 1) := by decide +kernel
theorem dX4_readRecord_24 : decode cX4_readRecord 24 = .ok (.ireturn, 1) := by decide +kernel
theorem dX4_readRecord_25 : decode cX4_readRecord 25 = .ok (.aload_n 0, 1) := by decide +kernel
theorem dX4_readRecord_26 : decode cX4_readRecord 26 = .ok (.iconst 1, 1) := by decide +kernel
theorem dX4_readRecord_27 : decode cX4_readRecord 27 = .ok (.bipush 50, 2) := by decide +kernel
theorem dX4_readRecord_29 : decode cX4_readRecord 29 = .ok (.invokevirtual 75, 3) := by decide +kernel
theorem dX4_readRecord_32 : decode cX4_readRecord 32 = .ok (.istore_n 2, 1) := by decide +kernel
theorem dX4_readRecord_33 : decode cX4_readRecord 33 = .ok (.iload_n 2, 1) := by decide +kernel
theorem dX4_readRecord_34 : decode cX4_readRecord 34 = .ok (.bipush (-6), 2) := by decide +kernel
theorem dX4_readRecord_36 : decode cX4_readRecord 36 = .ok (.if_icmp .eq 17, 3) := by decide +kernel
theorem dX4_readRecord_39 : decode cX4_readRecord 39 = .ok (.aload_n 0, 1) := by decide +kernel
theorem dX4_readRecord_40 : decode cX4_readRecord 40 = .ok (.iconst 1, 1) := by decide +kernel
theorem dX4_readRecord_41 : decode cX4_readRecord 41 = .ok (.iload_n 1, 1) := by decide +kernel
theorem dX4_readRecord_42 : decode cX4_readRecord 42 = .ok (.iload_n 2, 1) := by decide +kernel
theorem dX4_readRecord_43 : decode cX4_readRecord 43 = .ok (.invokevirtual 68, 3) := by decide +kernel
theorem dX4_readRecord_46 : decode cX4_readRecord 46 = .ok (.ifCond .eq 7, 3) := by decide +kernel
theorem dX4_readRecord_49 : decode cX4_readRecord 49 = .ok (.iconst 1, 1) := by decide +kernel
theorem dX4_readRecord_50 : decode cX4_readRecord 50 = .ok (.goto 4, 3) := by decide +kernel
theorem dX4_readRecord_53 : decode cX4_readRecord 53 = .ok (.iconst 0, 1) := by decide +kernel
theorem dX4_readRecord_54 : decode cX4_readRecord 54 = .ok (.ireturn, 1) := by decide +kernel
theorem dX4_readGo_0 : decode cX4_readGo 0 = .ok (.aload_n 0, 1) := by decide +kernel
theorem dX4_readGo_1 : decode cX4_readGo 1 = .ok (.iconst 0, 1) := by decide +kernel
theorem dX4_readGo_2 : decode cX4_readGo 2 = .ok (.bipush 7, 2) := by decide +kernel
theorem dX4_readGo_4 : decode cX4_readGo 4 = .ok (.invokevirtual 75, 3) := by decide +kernel
theorem dX4_readGo_7 : decode cX4_readGo 7 = .ok (.istore_n 1, 1) := by decide +kernel
theorem dX4_readGo_8 : decode cX4_readGo 8 = .ok (.iload_n 1, 1) := by decide +kernel
theorem dX4_readGo_9 : decode cX4_readGo 9 = .ok (.bipush (-6), 2) := by decide +kernel
theorem dX4_readGo_11 : decode cX4_readGo 11 = .ok (.if_icmp .eq 17, 3) := by decide +kernel
theorem dX4_readGo_14 : decode cX4_readGo 14 = .ok (.aload_n 0, 1) := by decide +kernel
theorem dX4_readGo_15 : decode cX4_readGo 15 = .ok (.iconst 2, 1) := by decide +kernel
theorem dX4_readGo_16 : decode cX4_readGo 16 = .ok (.iload_n 1, 1) := by decide +kernel
theorem dX4_readGo_17 : decode cX4_readGo 17 = .ok (.iconst 0, 1) := by decide +kernel
theorem dX4_readGo_18 : decode cX4_readGo 18 = .ok (.invokevirtual 68, 3) := by decide +kernel
theorem dX4_readGo_21 : decode cX4_readGo 21 = .ok (.ifCond .eq 7, 3) := by decide +kernel
theorem dX4_readGo_24 : decode cX4_readGo 24 = .ok (.iconst 1, 1) := by decide +kernel
theorem dX4_readGo_25 : decode cX4_readGo 25 = .ok (.goto 4, 3) := by decide +kernel
theorem dX4_readGo_28 : decode cX4_readGo 28 = .ok (.iconst 0, 1) := by decide +kernel
theorem dX4_readGo_29 : decode cX4_readGo 29 = .ok (.ireturn, 1) := by decide +kernel
theorem dX4_readLevels_0 : decode cX4_readLevels 0 = .ok (.iconst 1, 1) := by decide +kernel
theorem dX4_readLevels_1 : decode cX4_readLevels 1 = .ok (.istore_n 1, 1) := by decide +kernel
theorem dX4_readLevels_2 : decode cX4_readLevels 2 = .ok (.iconst 0, 1) := by decide +kernel
theorem dX4_readLevels_3 : decode cX4_readLevels 3 = .ok (.istore_n 2, 1) := by decide +kernel
theorem dX4_readLevels_4 : decode cX4_readLevels 4 = .ok (.iload_n 2, 1) := by decide +kernel
theorem dX4_readLevels_5 : decode cX4_readLevels 5 = .ok (.bipush 60, 2) := by decide +kernel
theorem dX4_readLevels_7 : decode cX4_readLevels 7 = .ok (.if_icmp .ge 29, 3) := by decide +kernel
theorem dX4_readLevels_10 : decode cX4_readLevels 10 = .ok (.iload_n 1, 1) := by decide +kernel
theorem dX4_readLevels_11 : decode cX4_readLevels 11 = .ok (.ifCond .eq 25, 3) := by decide +kernel
theorem dX4_readLevels_14 : decode cX4_readLevels 14 = .ok (.aload_n 0, 1) := by decide +kernel
theorem dX4_readLevels_15 : decode cX4_readLevels 15 = .ok (.invokevirtual 79, 3) := by decide +kernel
theorem dX4_readLevels_18 : decode cX4_readLevels 18 = .ok (.ifCond .ne 5, 3) := by decide +kernel
theorem dX4_readLevels_21 : decode cX4_readLevels 21 = .ok (.iconst 0, 1) := by decide +kernel
theorem dX4_readLevels_22 : decode cX4_readLevels 22 = .ok (.ireturn, 1) := by decide +kernel
theorem dX4_readLevels_23 : decode cX4_readLevels 23 = .ok (.aload_n 0, 1) := by decide +kernel
theorem dX4_readLevels_24 : decode cX4_readLevels 24 = .ok (.bipush 43, 2) := by decide +kernel
theorem dX4_readLevels_26 : decode cX4_readLevels 26 = .ok (.invokevirtual 58, 3) := by decide +kernel
theorem dX4_readLevels_29 : decode cX4_readLevels 29 = .ok (.istore_n 1, 1) := by decide +kernel
theorem dX4_readLevels_30 : decode cX4_readLevels 30 = .ok (.iinc 2 1, 3) := by decide +kernel
theorem dX4_readLevels_33 : decode cX4_readLevels 33 = .ok (.goto (-29), 3) := by decide +kernel
theorem dX4_readLevels_36 : decode cX4_readLevels 36 = .ok (.aload_n 0, 1) := by decide +kernel
theorem dX4_readLevels_37 : decode cX4_readLevels 37 = .ok (.bipush 64, 2) := by decide +kernel
theorem dX4_readLevels_39 : decode cX4_readLevels 39 = .ok (.invokevirtual 58, 3) := by decide +kernel
theorem dX4_readLevels_42 : decode cX4_readLevels 42 = .ok (.ifCond .ne 5, 3) := by decide +kernel
theorem dX4_readLevels_45 : decode cX4_readLevels 45 = .ok (.iconst 0, 1) := by decide +kernel
theorem dX4_readLevels_46 : decode cX4_readLevels 46 = .ok (.ireturn, 1) := by decide +kernel
theorem dX4_readLevels_47 : decode cX4_readLevels 47 = .ok (.aload_n 0, 1) := by decide +kernel
theorem dX4_readLevels_48 : decode cX4_readLevels 48 = .ok (.iconst 0, 1) := by decide +kernel
theorem dX4_readLevels_49 : decode cX4_readLevels 49 = .ok (.bipush 100, 2) := by decide +kernel
theorem dX4_readLevels_51 : decode cX4_readLevels 51 = .ok (.invokevirtual 75, 3) := by decide +kernel
theorem dX4_readLevels_54 : decode cX4_readLevels 54 = .ok (.istore_n 2, 1) := by decide +kernel
theorem dX4_readLevels_55 : decode cX4_readLevels 55 = .ok (.iload_n 2, 1) := by decide +kernel
theorem dX4_readLevels_56 : decode cX4_readLevels 56 = .ok (.bipush (-6), 2) := by decide +kernel
theorem dX4_readLevels_58 : decode cX4_readLevels 58 = .ok (.if_icmp .eq 17, 3) := by decide +kernel
theorem dX4_readLevels_61 : decode cX4_readLevels 61 = .ok (.aload_n 0, 1) := by decide +kernel
theorem dX4_readLevels_62 : decode cX4_readLevels 62 = .ok (.iconst 0, 1) := by decide +kernel
theorem dX4_readLevels_63 : decode cX4_readLevels 63 = .ok (.iload_n 2, 1) := by decide +kernel
theorem dX4_readLevels_64 : decode cX4_readLevels 64 = .ok (.iconst 0, 1) := by decide +kernel
theorem dX4_readLevels_65 : decode cX4_readLevels 65 = .ok (.invokevirtual 68, 3) := by decide +kernel
theorem dX4_readLevels_68 : decode cX4_readLevels 68 = .ok (.ifCond .eq 7, 3) := by decide +kernel
theorem dX4_readLevels_71 : decode cX4_readLevels 71 = .ok (.iconst 1, 1) := by decide +kernel
theorem dX4_readLevels_72 : decode cX4_readLevels 72 = .ok (.goto 4, 3) := by decide +kernel
theorem dX4_readLevels_75 : decode cX4_readLevels 75 = .ok (.iconst 0, 1) := by decide +kernel
theorem dX4_readLevels_76 : decode cX4_readLevels 76 = .ok (.ireturn, 1) := by decide +kernel
theorem dX4_readSpan_0 : decode cX4_readSpan 0 = .ok (.aload_n 0, 1) := by decide +kernel
theorem dX4_readSpan_1 : decode cX4_readSpan 1 = .ok (.iconst 0, 1) := by decide +kernel
theorem dX4_readSpan_2 : decode cX4_readSpan 2 = .ok (.bipush 11, 2) := by decide +kernel
theorem dX4_readSpan_4 : decode cX4_readSpan 4 = .ok (.invokevirtual 75, 3) := by decide +kernel
theorem dX4_readSpan_7 : decode cX4_readSpan 7 = .ok (.istore_n 1, 1) := by decide +kernel
theorem dX4_readSpan_8 : decode cX4_readSpan 8 = .ok (.iload_n 1, 1) := by decide +kernel
theorem dX4_readSpan_9 : decode cX4_readSpan 9 = .ok (.bipush (-6), 2) := by decide +kernel
theorem dX4_readSpan_11 : decode cX4_readSpan 11 = .ok (.if_icmp .ne 5, 3) := by decide +kernel
theorem dX4_readSpan_14 : decode cX4_readSpan 14 = .ok (.iconst 0, 1) := by decide +kernel
theorem dX4_readSpan_15 : decode cX4_readSpan 15 = .ok (.ireturn, 1) := by decide +kernel
theorem dX4_readSpan_16 : decode cX4_readSpan 16 = .ok (.aload_n 0, 1) := by decide +kernel
theorem dX4_readSpan_17 : decode cX4_readSpan 17 = .ok (.bipush 62, 2) := by decide +kernel
theorem dX4_readSpan_19 : decode cX4_readSpan 19 = .ok (.invokevirtual 58, 3) := by decide +kernel
theorem dX4_readSpan_22 : decode cX4_readSpan 22 = .ok (.ifCond .eq 13, 3) := by decide +kernel
theorem dX4_readSpan_25 : decode cX4_readSpan 25 = .ok (.aload_n 0, 1) := by decide +kernel
theorem dX4_readSpan_26 : decode cX4_readSpan 26 = .ok (.iconst 0, 1) := by decide +kernel
theorem dX4_readSpan_27 : decode cX4_readSpan 27 = .ok (.bipush 11, 2) := by decide +kernel
theorem dX4_readSpan_29 : decode cX4_readSpan 29 = .ok (.invokevirtual 75, 3) := by decide +kernel
theorem dX4_readSpan_32 : decode cX4_readSpan 32 = .ok (.goto 4, 3) := by decide +kernel
theorem dX4_readSpan_35 : decode cX4_readSpan 35 = .ok (.iload_n 1, 1) := by decide +kernel
theorem dX4_readSpan_36 : decode cX4_readSpan 36 = .ok (.istore_n 2, 1) := by decide +kernel
theorem dX4_readSpan_37 : decode cX4_readSpan 37 = .ok (.iload_n 2, 1) := by decide +kernel
theorem dX4_readSpan_38 : decode cX4_readSpan 38 = .ok (.bipush (-6), 2) := by decide +kernel
theorem dX4_readSpan_40 : decode cX4_readSpan 40 = .ok (.if_icmp .eq 12, 3) := by decide +kernel
theorem dX4_readSpan_43 : decode cX4_readSpan 43 = .ok (.aload_n 0, 1) := by decide +kernel
theorem dX4_readSpan_44 : decode cX4_readSpan 44 = .ok (.getfield 41, 3) := by decide +kernel
theorem dX4_readSpan_47 : decode cX4_readSpan 47 = .ok (.bipush 60, 2) := by decide +kernel
theorem dX4_readSpan_49 : decode cX4_readSpan 49 = .ok (.if_icmp .lt 5, 3) := by decide +kernel
theorem dX4_readSpan_52 : decode cX4_readSpan 52 = .ok (.iconst 0, 1) := by decide +kernel
theorem dX4_readSpan_53 : decode cX4_readSpan 53 = .ok (.ireturn, 1) := by decide +kernel
theorem dX4_readSpan_54 : decode cX4_readSpan 54 = .ok (.aload_n 0, 1) := by decide +kernel
theorem dX4_readSpan_55 : decode cX4_readSpan 55 = .ok (.getfield 31, 3) := by decide +kernel
theorem dX4_readSpan_58 : decode cX4_readSpan 58 = .ok (.aload_n 0, 1) := by decide +kernel
theorem dX4_readSpan_59 : decode cX4_readSpan 59 = .ok (.getfield 41, 3) := by decide +kernel
theorem dX4_readSpan_62 : decode cX4_readSpan 62 = .ok (.iload_n 1, 1) := by decide +kernel
theorem dX4_readSpan_63 : decode cX4_readSpan 63 = .ok (.iastore, 1) := by decide +kernel
theorem dX4_readSpan_64 : decode cX4_readSpan 64 = .ok (.aload_n 0, 1) := by decide +kernel
theorem dX4_readSpan_65 : decode cX4_readSpan 65 = .ok (.getfield 34, 3) := by decide +kernel
theorem dX4_readSpan_68 : decode cX4_readSpan 68 = .ok (.aload_n 0, 1) := by decide +kernel
theorem dX4_readSpan_69 : decode cX4_readSpan 69 = .ok (.getfield 41, 3) := by decide +kernel
theorem dX4_readSpan_72 : decode cX4_readSpan 72 = .ok (.iload_n 2, 1) := by decide +kernel
theorem dX4_readSpan_73 : decode cX4_readSpan 73 = .ok (.iastore, 1) := by decide +kernel
theorem dX4_readSpan_74 : decode cX4_readSpan 74 = .ok (.aload_n 0, 1) := by decide +kernel
theorem dX4_readSpan_75 : decode cX4_readSpan 75 = .ok (.dup, 1) := by decide +kernel
theorem dX4_readSpan_76 : decode cX4_readSpan 76 = .ok (.getfield 41, 3) := by decide +kernel
theorem dX4_readSpan_79 : decode cX4_readSpan 79 = .ok (.iconst 1, 1) := by decide +kernel
theorem dX4_readSpan_80 : decode cX4_readSpan 80 = .ok (.iadd, 1) := by decide +kernel
theorem dX4_readSpan_81 : decode cX4_readSpan 81 = .ok (.putfield 41, 3) := by decide +kernel
theorem dX4_readSpan_84 : decode cX4_readSpan 84 = .ok (.iconst 1, 1) := by decide +kernel
theorem dX4_readSpan_85 : decode cX4_readSpan 85 = .ok (.ireturn, 1) := by decide +kernel
theorem dX4_readNumber_0 : decode cX4_readNumber 0 = .ok (.aload_n 0, 1) := by decide +kernel
theorem dX4_readNumber_1 : decode cX4_readNumber 1 = .ok (.invokevirtual 82, 3) := by decide +kernel
theorem dX4_readNumber_4 : decode cX4_readNumber 4 = .ok (.istore_n 3, 1) := by decide +kernel
theorem dX4_readNumber_5 : decode cX4_readNumber 5 = .ok (.iload_n 3, 1) := by decide +kernel
theorem dX4_readNumber_6 : decode cX4_readNumber 6 = .ok (.iload_n 1, 1) := by decide +kernel
theorem dX4_readNumber_7 : decode cX4_readNumber 7 = .ok (.if_icmp .lt 8, 3) := by decide +kernel
theorem dX4_readNumber_10 : decode cX4_readNumber 10 = .ok (.iload_n 3, 1) := by decide +kernel
theorem dX4_readNumber_11 : decode cX4_readNumber 11 = .ok (.iload_n 2, 1) := by decide +kernel
theorem dX4_readNumber_12 : decode cX4_readNumber 12 = .ok (.if_icmp .le 6, 3) := by decide +kernel
theorem dX4_readNumber_15 : decode cX4_readNumber 15 = .ok (.bipush (-6), 2) := by decide +kernel
theorem dX4_readNumber_17 : decode cX4_readNumber 17 = .ok (.ireturn, 1) := by decide +kernel
theorem dX4_readNumber_18 : decode cX4_readNumber 18 = .ok (.aload_n 0, 1) := by decide +kernel
theorem dX4_readNumber_19 : decode cX4_readNumber 19 = .ok (.aload_n 0, 1) := by decide +kernel
theorem dX4_readNumber_20 : decode cX4_readNumber 20 = .ok (.getfield 52, 3) := by decide +kernel
theorem dX4_readNumber_23 : decode cX4_readNumber 23 = .ok (.iconst 1, 1) := by decide +kernel
theorem dX4_readNumber_24 : decode cX4_readNumber 24 = .ok (.iadd, 1) := by decide +kernel
theorem dX4_readNumber_25 : decode cX4_readNumber 25 = .ok (.invokevirtual 44, 3) := by decide +kernel
theorem dX4_readNumber_28 : decode cX4_readNumber 28 = .ok (.iconst 1, 1) := by decide +kernel
theorem dX4_readNumber_29 : decode cX4_readNumber 29 = .ok (.istore 4, 2) := by decide +kernel
theorem dX4_readNumber_31 : decode cX4_readNumber 31 = .ok (.iload 4, 2) := by decide +kernel
theorem dX4_readNumber_33 : decode cX4_readNumber 33 = .ok (.iconst 3, 1) := by decide +kernel
theorem dX4_readNumber_34 : decode cX4_readNumber 34 = .ok (.if_icmp .ge 57, 3) := by decide +kernel
theorem dX4_readNumber_37 : decode cX4_readNumber 37 = .ok (.iload_n 3, 1) := by decide +kernel
theorem dX4_readNumber_38 : decode cX4_readNumber 38 = .ok (.ifCond .le 53, 3) := by decide +kernel
theorem dX4_readNumber_41 : decode cX4_readNumber 41 = .ok (.aload_n 0, 1) := by decide +kernel
theorem dX4_readNumber_42 : decode cX4_readNumber 42 = .ok (.invokevirtual 82, 3) := by decide +kernel
theorem dX4_readNumber_45 : decode cX4_readNumber 45 = .ok (.istore 5, 2) := by decide +kernel
theorem dX4_readNumber_47 : decode cX4_readNumber 47 = .ok (.iload 5, 2) := by decide +kernel
theorem dX4_readNumber_49 : decode cX4_readNumber 49 = .ok (.bipush (-6), 2) := by decide +kernel
theorem dX4_readNumber_51 : decode cX4_readNumber 51 = .ok (.if_icmp .eq 14, 3) := by decide +kernel
theorem dX4_readNumber_54 : decode cX4_readNumber 54 = .ok (.iload_n 3, 1) := by decide +kernel
theorem dX4_readNumber_55 : decode cX4_readNumber 55 = .ok (.bipush 10, 2) := by decide +kernel
theorem dX4_readNumber_57 : decode cX4_readNumber 57 = .ok (.imul, 1) := by decide +kernel
theorem dX4_readNumber_58 : decode cX4_readNumber 58 = .ok (.iload 5, 2) := by decide +kernel
theorem dX4_readNumber_60 : decode cX4_readNumber 60 = .ok (.iadd, 1) := by decide +kernel
theorem dX4_readNumber_61 : decode cX4_readNumber 61 = .ok (.iload_n 2, 1) := by decide +kernel
theorem dX4_readNumber_62 : decode cX4_readNumber 62 = .ok (.if_icmp .le 5, 3) := by decide +kernel
theorem dX4_readNumber_65 : decode cX4_readNumber 65 = .ok (.iload_n 3, 1) := by decide +kernel
theorem dX4_readNumber_66 : decode cX4_readNumber 66 = .ok (.ireturn, 1) := by decide +kernel
theorem dX4_readNumber_67 : decode cX4_readNumber 67 = .ok (.iload_n 3, 1) := by decide +kernel
theorem dX4_readNumber_68 : decode cX4_readNumber 68 = .ok (.bipush 10, 2) := by decide +kernel
theorem dX4_readNumber_70 : decode cX4_readNumber 70 = .ok (.imul, 1) := by decide +kernel
theorem dX4_readNumber_71 : decode cX4_readNumber 71 = .ok (.iload 5, 2) := by decide +kernel
theorem dX4_readNumber_73 : decode cX4_readNumber 73 = .ok (.iadd, 1) := by decide +kernel
theorem dX4_readNumber_74 : decode cX4_readNumber 74 = .ok (.istore_n 3, 1) := by decide +kernel
theorem dX4_readNumber_75 : decode cX4_readNumber 75 = .ok (.aload_n 0, 1) := by decide +kernel
theorem dX4_readNumber_76 : decode cX4_readNumber 76 = .ok (.aload_n 0, 1) := by decide +kernel
theorem dX4_readNumber_77 : decode cX4_readNumber 77 = .ok (.getfield 52, 3) := by decide +kernel
theorem dX4_readNumber_80 : decode cX4_readNumber 80 = .ok (.iconst 1, 1) := by decide +kernel
theorem dX4_readNumber_81 : decode cX4_readNumber 81 = .ok (.iadd, 1) := by decide +kernel
theorem dX4_readNumber_82 : decode cX4_readNumber 82 = .ok (.invokevirtual 44, 3) := by decide +kernel
theorem dX4_readNumber_85 : decode cX4_readNumber 85 = .ok (.iinc 4 1, 3) := by decide +kernel
theorem dX4_readNumber_88 : decode cX4_readNumber 88 = .ok (.goto (-57), 3) := by decide +kernel
theorem dX4_readNumber_91 : decode cX4_readNumber 91 = .ok (.iload_n 3, 1) := by decide +kernel
theorem dX4_readNumber_92 : decode cX4_readNumber 92 = .ok (.ireturn, 1) := by decide +kernel
theorem dX4_digitHere_0 : decode cX4_digitHere 0 = .ok (.aload_n 0, 1) := by decide +kernel
theorem dX4_digitHere_1 : decode cX4_digitHere 1 = .ok (.getfield 86, 3) := by decide +kernel
theorem dX4_digitHere_4 : decode cX4_digitHere 4 = .ok (.bipush 48, 2) := by decide +kernel
theorem dX4_digitHere_6 : decode cX4_digitHere 6 = .ok (.if_icmp .lt 22, 3) := by decide +kernel
theorem dX4_digitHere_9 : decode cX4_digitHere 9 = .ok (.aload_n 0, 1) := by decide +kernel
theorem dX4_digitHere_10 : decode cX4_digitHere 10 = .ok (.getfield 86, 3) := by decide +kernel
theorem dX4_digitHere_13 : decode cX4_digitHere 13 = .ok (.bipush 57, 2) := by decide +kernel
theorem dX4_digitHere_15 : decode cX4_digitHere 15 = .ok (.if_icmp .gt 13, 3) := by decide +kernel
theorem dX4_digitHere_18 : decode cX4_digitHere 18 = .ok (.aload_n 0, 1) := by decide +kernel
theorem dX4_digitHere_19 : decode cX4_digitHere 19 = .ok (.getfield 86, 3) := by decide +kernel
theorem dX4_digitHere_22 : decode cX4_digitHere 22 = .ok (.bipush 48, 2) := by decide +kernel
theorem dX4_digitHere_24 : decode cX4_digitHere 24 = .ok (.isub, 1) := by decide +kernel
theorem dX4_digitHere_25 : decode cX4_digitHere 25 = .ok (.goto 5, 3) := by decide +kernel
theorem dX4_digitHere_28 : decode cX4_digitHere 28 = .ok (.bipush (-6), 2) := by decide +kernel
theorem dX4_digitHere_30 : decode cX4_digitHere 30 = .ok (.ireturn, 1) := by decide +kernel
theorem dX4_take_0 : decode cX4_take 0 = .ok (.aload_n 0, 1) := by decide +kernel
theorem dX4_take_1 : decode cX4_take 1 = .ok (.getfield 86, 3) := by decide +kernel
theorem dX4_take_4 : decode cX4_take 4 = .ok (.iload_n 1, 1) := by decide +kernel
theorem dX4_take_5 : decode cX4_take 5 = .ok (.if_icmp .eq 5, 3) := by decide +kernel
theorem dX4_take_8 : decode cX4_take 8 = .ok (.iconst 0, 1) := by decide +kernel
theorem dX4_take_9 : decode cX4_take 9 = .ok (.ireturn, 1) := by decide +kernel
theorem dX4_take_10 : decode cX4_take 10 = .ok (.aload_n 0, 1) := by decide +kernel
theorem dX4_take_11 : decode cX4_take 11 = .ok (.aload_n 0, 1) := by decide +kernel
theorem dX4_take_12 : decode cX4_take 12 = .ok (.getfield 52, 3) := by decide +kernel
theorem dX4_take_15 : decode cX4_take 15 = .ok (.iconst 1, 1) := by decide +kernel
theorem dX4_take_16 : decode cX4_take 16 = .ok (.iadd, 1) := by decide +kernel
theorem dX4_take_17 : decode cX4_take 17 = .ok (.invokevirtual 44, 3) := by decide +kernel
theorem dX4_take_20 : decode cX4_take 20 = .ok (.iconst 1, 1) := by decide +kernel
theorem dX4_take_21 : decode cX4_take 21 = .ok (.ireturn, 1) := by decide +kernel
theorem dX4_stepTo_0 : decode cX4_stepTo 0 = .ok (.aload_n 0, 1) := by decide +kernel
theorem dX4_stepTo_1 : decode cX4_stepTo 1 = .ok (.iload_n 1, 1) := by decide +kernel
theorem dX4_stepTo_2 : decode cX4_stepTo 2 = .ok (.putfield 52, 3) := by decide +kernel
theorem dX4_stepTo_5 : decode cX4_stepTo 5 = .ok (.aload_n 0, 1) := by decide +kernel
theorem dX4_stepTo_6 : decode cX4_stepTo 6 = .ok (.iload_n 1, 1) := by decide +kernel
theorem dX4_stepTo_7 : decode cX4_stepTo 7 = .ok (.ifCond .lt 32, 3) := by decide +kernel
theorem dX4_stepTo_10 : decode cX4_stepTo 10 = .ok (.iload_n 1, 1) := by decide +kernel
theorem dX4_stepTo_11 : decode cX4_stepTo 11 = .ok (.aload_n 0, 1) := by decide +kernel
theorem dX4_stepTo_12 : decode cX4_stepTo 12 = .ok (.getfield 12, 3) := by decide +kernel
theorem dX4_stepTo_15 : decode cX4_stepTo 15 = .ok (.getfield 55, 3) := by decide +kernel
theorem dX4_stepTo_18 : decode cX4_stepTo 18 = .ok (.if_icmp .ge 21, 3) := by decide +kernel
theorem dX4_stepTo_21 : decode cX4_stepTo 21 = .ok (.iload_n 1, 1) := by decide +kernel
theorem dX4_stepTo_22 : decode cX4_stepTo 22 = .ok (.bipush 60, 2) := by decide +kernel
theorem dX4_stepTo_24 : decode cX4_stepTo 24 = .ok (.if_icmp .ge 15, 3) := by decide +kernel
theorem dX4_stepTo_27 : decode cX4_stepTo 27 = .ok (.aload_n 0, 1) := by decide +kernel
theorem dX4_stepTo_28 : decode cX4_stepTo 28 = .ok (.getfield 12, 3) := by decide +kernel
theorem dX4_stepTo_31 : decode cX4_stepTo 31 = .ok (.getfield 89, 3) := by decide +kernel
theorem dX4_stepTo_34 : decode cX4_stepTo 34 = .ok (.iload_n 1, 1) := by decide +kernel
theorem dX4_stepTo_35 : decode cX4_stepTo 35 = .ok (.iaload, 1) := by decide +kernel
theorem dX4_stepTo_36 : decode cX4_stepTo 36 = .ok (.goto 5, 3) := by decide +kernel
theorem dX4_stepTo_39 : decode cX4_stepTo 39 = .ok (.bipush (-6), 2) := by decide +kernel
theorem dX4_stepTo_41 : decode cX4_stepTo 41 = .ok (.putfield 86, 3) := by decide +kernel
theorem dX4_stepTo_44 : decode cX4_stepTo 44 = .ok (.return_, 1) := by decide +kernel
theorem dX4_note_0 : decode cX4_note 0 = .ok (.aload_n 0, 1) := by decide +kernel
theorem dX4_note_1 : decode cX4_note 1 = .ok (.getfield 37, 3) := by decide +kernel
theorem dX4_note_4 : decode cX4_note 4 = .ok (.bipush 60, 2) := by decide +kernel
theorem dX4_note_6 : decode cX4_note 6 = .ok (.if_icmp .lt 5, 3) := by decide +kernel
theorem dX4_note_9 : decode cX4_note 9 = .ok (.iconst 0, 1) := by decide +kernel
theorem dX4_note_10 : decode cX4_note 10 = .ok (.ireturn, 1) := by decide +kernel
theorem dX4_note_11 : decode cX4_note 11 = .ok (.aload_n 0, 1) := by decide +kernel
theorem dX4_note_12 : decode cX4_note 12 = .ok (.getfield 18, 3) := by decide +kernel
theorem dX4_note_15 : decode cX4_note 15 = .ok (.aload_n 0, 1) := by decide +kernel
theorem dX4_note_16 : decode cX4_note 16 = .ok (.getfield 37, 3) := by decide +kernel
theorem dX4_note_19 : decode cX4_note 19 = .ok (.iload_n 1, 1) := by decide +kernel
theorem dX4_note_20 : decode cX4_note 20 = .ok (.iastore, 1) := by decide +kernel
theorem dX4_note_21 : decode cX4_note 21 = .ok (.aload_n 0, 1) := by decide +kernel
theorem dX4_note_22 : decode cX4_note 22 = .ok (.getfield 22, 3) := by decide +kernel
theorem dX4_note_25 : decode cX4_note 25 = .ok (.aload_n 0, 1) := by decide +kernel
theorem dX4_note_26 : decode cX4_note 26 = .ok (.getfield 37, 3) := by decide +kernel
theorem dX4_note_29 : decode cX4_note 29 = .ok (.iload_n 2, 1) := by decide +kernel
theorem dX4_note_30 : decode cX4_note 30 = .ok (.iastore, 1) := by decide +kernel
theorem dX4_note_31 : decode cX4_note 31 = .ok (.aload_n 0, 1) := by decide +kernel
theorem dX4_note_32 : decode cX4_note 32 = .ok (.getfield 25, 3) := by decide +kernel
theorem dX4_note_35 : decode cX4_note 35 = .ok (.aload_n 0, 1) := by decide +kernel
theorem dX4_note_36 : decode cX4_note 36 = .ok (.getfield 37, 3) := by decide +kernel
theorem dX4_note_39 : decode cX4_note 39 = .ok (.iload_n 3, 1) := by decide +kernel
theorem dX4_note_40 : decode cX4_note 40 = .ok (.iastore, 1) := by decide +kernel
theorem dX4_note_41 : decode cX4_note 41 = .ok (.aload_n 0, 1) := by decide +kernel
theorem dX4_note_42 : decode cX4_note 42 = .ok (.getfield 28, 3) := by decide +kernel
theorem dX4_note_45 : decode cX4_note 45 = .ok (.aload_n 0, 1) := by decide +kernel
theorem dX4_note_46 : decode cX4_note 46 = .ok (.getfield 37, 3) := by decide +kernel
theorem dX4_note_49 : decode cX4_note 49 = .ok (.aload_n 0, 1) := by decide +kernel
theorem dX4_note_50 : decode cX4_note 50 = .ok (.getfield 41, 3) := by decide +kernel
theorem dX4_note_53 : decode cX4_note 53 = .ok (.iastore, 1) := by decide +kernel
theorem dX4_note_54 : decode cX4_note 54 = .ok (.aload_n 0, 1) := by decide +kernel
theorem dX4_note_55 : decode cX4_note 55 = .ok (.dup, 1) := by decide +kernel
theorem dX4_note_56 : decode cX4_note 56 = .ok (.getfield 37, 3) := by decide +kernel
theorem dX4_note_59 : decode cX4_note 59 = .ok (.iconst 1, 1) := by decide +kernel
theorem dX4_note_60 : decode cX4_note 60 = .ok (.iadd, 1) := by decide +kernel
theorem dX4_note_61 : decode cX4_note 61 = .ok (.putfield 37, 3) := by decide +kernel
theorem dX4_note_64 : decode cX4_note 64 = .ok (.iconst 1, 1) := by decide +kernel
theorem dX4_note_65 : decode cX4_note 65 = .ok (.ireturn, 1) := by decide +kernel
theorem dX4_carryAllOut_0 : decode cX4_carryAllOut 0 = .ok (.iconst 0, 1) := by decide +kernel
theorem dX4_carryAllOut_1 : decode cX4_carryAllOut 1 = .ok (.istore_n 2, 1) := by decide +kernel
theorem dX4_carryAllOut_2 : decode cX4_carryAllOut 2 = .ok (.iload_n 2, 1) := by decide +kernel
theorem dX4_carryAllOut_3 : decode cX4_carryAllOut 3 = .ok (.aload_n 0, 1) := by decide +kernel
theorem dX4_carryAllOut_4 : decode cX4_carryAllOut 4 = .ok (.getfield 37, 3) := by decide +kernel
theorem dX4_carryAllOut_7 : decode cX4_carryAllOut 7 = .ok (.if_icmp .ge 26, 3) := by decide +kernel
theorem dX4_carryAllOut_10 : decode cX4_carryAllOut 10 = .ok (.iload_n 2, 1) := by decide +kernel
theorem dX4_carryAllOut_11 : decode cX4_carryAllOut 11 = .ok (.bipush 60, 2) := by decide +kernel
theorem dX4_carryAllOut_13 : decode cX4_carryAllOut 13 = .ok (.if_icmp .ge 20, 3) := by decide +kernel
theorem dX4_carryAllOut_16 : decode cX4_carryAllOut 16 = .ok (.aload_n 0, 1) := by decide +kernel
theorem dX4_carryAllOut_17 : decode cX4_carryAllOut 17 = .ok (.iload_n 2, 1) := by decide +kernel
theorem dX4_carryAllOut_18 : decode cX4_carryAllOut 18 = .ok (.aload_n 1, 1) := by decide +kernel
theorem dX4_carryAllOut_19 : decode cX4_carryAllOut 19 = .ok (.invokevirtual 92, 3) := by decide +kernel
theorem dX4_carryAllOut_22 : decode cX4_carryAllOut 22 = .ok (.ifCond .ne 5, 3) := by decide +kernel
theorem dX4_carryAllOut_25 : decode cX4_carryAllOut 25 = .ok (.iload_n 2, 1) := by decide +kernel
theorem dX4_carryAllOut_26 : decode cX4_carryAllOut 26 = .ok (.ireturn, 1) := by decide +kernel
theorem dX4_carryAllOut_27 : decode cX4_carryAllOut 27 = .ok (.iinc 2 1, 3) := by decide +kernel
theorem dX4_carryAllOut_30 : decode cX4_carryAllOut 30 = .ok (.goto (-28), 3) := by decide +kernel
theorem dX4_carryAllOut_33 : decode cX4_carryAllOut 33 = .ok (.aload_n 0, 1) := by decide +kernel
theorem dX4_carryAllOut_34 : decode cX4_carryAllOut 34 = .ok (.getfield 37, 3) := by decide +kernel
theorem dX4_carryAllOut_37 : decode cX4_carryAllOut 37 = .ok (.ireturn, 1) := by decide +kernel
theorem dX4_carryOneOut_0 : decode cX4_carryOneOut 0 = .ok (.aload_n 0, 1) := by decide +kernel
theorem dX4_carryOneOut_1 : decode cX4_carryOneOut 1 = .ok (.getfield 18, 3) := by decide +kernel
theorem dX4_carryOneOut_4 : decode cX4_carryOneOut 4 = .ok (.iload_n 1, 1) := by decide +kernel
theorem dX4_carryOneOut_5 : decode cX4_carryOneOut 5 = .ok (.iaload, 1) := by decide +kernel
theorem dX4_carryOneOut_6 : decode cX4_carryOneOut 6 = .ok (.tableswitch 63 0 2 #[26, 33, 51], 26) := by decide +kernel
theorem dX4_carryOneOut_32 : decode cX4_carryOneOut 32 = .ok (.aload_n 0, 1) := by decide +kernel
theorem dX4_carryOneOut_33 : decode cX4_carryOneOut 33 = .ok (.iload_n 1, 1) := by decide +kernel
theorem dX4_carryOneOut_34 : decode cX4_carryOneOut 34 = .ok (.aload_n 2, 1) := by decide +kernel
theorem dX4_carryOneOut_35 : decode cX4_carryOneOut 35 = .ok (.invokevirtual 96, 3) := by decide +kernel
theorem dX4_carryOneOut_38 : decode cX4_carryOneOut 38 = .ok (.ireturn, 1) := by decide +kernel
theorem dX4_carryOneOut_39 : decode cX4_carryOneOut 39 = .ok (.aload_n 2, 1) := by decide +kernel
theorem dX4_carryOneOut_40 : decode cX4_carryOneOut 40 = .ok (.aload_n 0, 1) := by decide +kernel
theorem dX4_carryOneOut_41 : decode cX4_carryOneOut 41 = .ok (.getfield 22, 3) := by decide +kernel
theorem dX4_carryOneOut_44 : decode cX4_carryOneOut 44 = .ok (.iload_n 1, 1) := by decide +kernel
theorem dX4_carryOneOut_45 : decode cX4_carryOneOut 45 = .ok (.iaload, 1) := by decide +kernel
theorem dX4_carryOneOut_46 : decode cX4_carryOneOut 46 = .ok (.aload_n 0, 1) := by decide +kernel
theorem dX4_carryOneOut_47 : decode cX4_carryOneOut 47 = .ok (.getfield 25, 3) := by decide +kernel
theorem dX4_carryOneOut_50 : decode cX4_carryOneOut 50 = .ok (.iload_n 1, 1) := by decide +kernel
theorem dX4_carryOneOut_51 : decode cX4_carryOneOut 51 = .ok (.iaload, 1) := by decide +kernel
theorem dX4_carryOneOut_52 : decode cX4_carryOneOut 52 = .ok (.invokevirtual 99, 3) := by decide +kernel
theorem dX4_carryOneOut_55 : decode cX4_carryOneOut 55 = .ok (.iconst 1, 1) := by decide +kernel
theorem dX4_carryOneOut_56 : decode cX4_carryOneOut 56 = .ok (.ireturn, 1) := by decide +kernel
theorem dX4_carryOneOut_57 : decode cX4_carryOneOut 57 = .ok (.aload_n 0, 1) := by decide +kernel
theorem dX4_carryOneOut_58 : decode cX4_carryOneOut 58 = .ok (.aload_n 0, 1) := by decide +kernel
theorem dX4_carryOneOut_59 : decode cX4_carryOneOut 59 = .ok (.getfield 22, 3) := by decide +kernel
theorem dX4_carryOneOut_62 : decode cX4_carryOneOut 62 = .ok (.iload_n 1, 1) := by decide +kernel
theorem dX4_carryOneOut_63 : decode cX4_carryOneOut 63 = .ok (.iaload, 1) := by decide +kernel
theorem dX4_carryOneOut_64 : decode cX4_carryOneOut 64 = .ok (.aload_n 2, 1) := by decide +kernel
theorem dX4_carryOneOut_65 : decode cX4_carryOneOut 65 = .ok (.invokevirtual 105, 3) := by decide +kernel
theorem dX4_carryOneOut_68 : decode cX4_carryOneOut 68 = .ok (.ireturn, 1) := by decide +kernel
theorem dX4_carryOneOut_69 : decode cX4_carryOneOut 69 = .ok (.aload_n 2, 1) := by decide +kernel
theorem dX4_carryOneOut_70 : decode cX4_carryOneOut 70 = .ok (.invokevirtual 108, 3) := by decide +kernel
theorem dX4_carryOneOut_73 : decode cX4_carryOneOut 73 = .ok (.pop, 1) := by decide +kernel
theorem dX4_carryOneOut_74 : decode cX4_carryOneOut 74 = .ok (.iconst 1, 1) := by decide +kernel
theorem dX4_carryOneOut_75 : decode cX4_carryOneOut 75 = .ok (.ireturn, 1) := by decide +kernel
theorem dX4_startRecorded_0 : decode cX4_startRecorded 0 = .ok (.aload_n 2, 1) := by decide +kernel
theorem dX4_startRecorded_1 : decode cX4_startRecorded 1 = .ok (.iload_n 1, 1) := by decide +kernel
theorem dX4_startRecorded_2 : decode cX4_startRecorded 2 = .ok (.invokevirtual 111, 3) := by decide +kernel
theorem dX4_startRecorded_5 : decode cX4_startRecorded 5 = .ok (.ifCond .ne 5, 3) := by decide +kernel
theorem dX4_startRecorded_8 : decode cX4_startRecorded 8 = .ok (.iconst 0, 1) := by decide +kernel
theorem dX4_startRecorded_9 : decode cX4_startRecorded 9 = .ok (.ireturn, 1) := by decide +kernel
theorem dX4_startRecorded_10 : decode cX4_startRecorded 10 = .ok (.aload_n 2, 1) := by decide +kernel
theorem dX4_startRecorded_11 : decode cX4_startRecorded 11 = .ok (.iload_n 1, 1) := by decide +kernel
theorem dX4_startRecorded_12 : decode cX4_startRecorded 12 = .ok (.aload_n 2, 1) := by decide +kernel
theorem dX4_startRecorded_13 : decode cX4_startRecorded 13 = .ok (.getfield 115, 3) := by decide +kernel
theorem dX4_startRecorded_16 : decode cX4_startRecorded 16 = .ok (.iload_n 1, 1) := by decide +kernel
theorem dX4_startRecorded_17 : decode cX4_startRecorded 17 = .ok (.iaload, 1) := by decide +kernel
theorem dX4_startRecorded_18 : decode cX4_startRecorded 18 = .ok (.invokevirtual 116, 3) := by decide +kernel
theorem dX4_startRecorded_21 : decode cX4_startRecorded 21 = .ok (.iconst 1, 1) := by decide +kernel
theorem dX4_startRecorded_22 : decode cX4_startRecorded 22 = .ok (.ireturn, 1) := by decide +kernel
theorem dX4_changeLevels_0 : decode cX4_changeLevels 0 = .ok (.iload_n 1, 1) := by decide +kernel
theorem dX4_changeLevels_1 : decode cX4_changeLevels 1 = .ok (.ifCond .le 14, 3) := by decide +kernel
theorem dX4_changeLevels_4 : decode cX4_changeLevels 4 = .ok (.aload_n 0, 1) := by decide +kernel
theorem dX4_changeLevels_5 : decode cX4_changeLevels 5 = .ok (.getfield 28, 3) := by decide +kernel
theorem dX4_changeLevels_8 : decode cX4_changeLevels 8 = .ok (.iload_n 1, 1) := by decide +kernel
theorem dX4_changeLevels_9 : decode cX4_changeLevels 9 = .ok (.iconst 1, 1) := by decide +kernel
theorem dX4_changeLevels_10 : decode cX4_changeLevels 10 = .ok (.isub, 1) := by decide +kernel
theorem dX4_changeLevels_11 : decode cX4_changeLevels 11 = .ok (.iaload, 1) := by decide +kernel
theorem dX4_changeLevels_12 : decode cX4_changeLevels 12 = .ok (.goto 4, 3) := by decide +kernel
theorem dX4_changeLevels_15 : decode cX4_changeLevels 15 = .ok (.iconst 0, 1) := by decide +kernel
theorem dX4_changeLevels_16 : decode cX4_changeLevels 16 = .ok (.istore_n 3, 1) := by decide +kernel
theorem dX4_changeLevels_17 : decode cX4_changeLevels 17 = .ok (.iload_n 3, 1) := by decide +kernel
theorem dX4_changeLevels_18 : decode cX4_changeLevels 18 = .ok (.istore 4, 2) := by decide +kernel
theorem dX4_changeLevels_20 : decode cX4_changeLevels 20 = .ok (.iload 4, 2) := by decide +kernel
theorem dX4_changeLevels_22 : decode cX4_changeLevels 22 = .ok (.aload_n 0, 1) := by decide +kernel
theorem dX4_changeLevels_23 : decode cX4_changeLevels 23 = .ok (.getfield 28, 3) := by decide +kernel
theorem dX4_changeLevels_26 : decode cX4_changeLevels 26 = .ok (.iload_n 1, 1) := by decide +kernel
theorem dX4_changeLevels_27 : decode cX4_changeLevels 27 = .ok (.iaload, 1) := by decide +kernel
theorem dX4_changeLevels_28 : decode cX4_changeLevels 28 = .ok (.if_icmp .ge 46, 3) := by decide +kernel
theorem dX4_changeLevels_31 : decode cX4_changeLevels 31 = .ok (.iload 4, 2) := by decide +kernel
theorem dX4_changeLevels_33 : decode cX4_changeLevels 33 = .ok (.bipush 60, 2) := by decide +kernel
theorem dX4_changeLevels_35 : decode cX4_changeLevels 35 = .ok (.if_icmp .ge 39, 3) := by decide +kernel
theorem dX4_changeLevels_38 : decode cX4_changeLevels 38 = .ok (.aload_n 0, 1) := by decide +kernel
theorem dX4_changeLevels_39 : decode cX4_changeLevels 39 = .ok (.aload_n 2, 1) := by decide +kernel
theorem dX4_changeLevels_40 : decode cX4_changeLevels 40 = .ok (.aload_n 0, 1) := by decide +kernel
theorem dX4_changeLevels_41 : decode cX4_changeLevels 41 = .ok (.getfield 31, 3) := by decide +kernel
theorem dX4_changeLevels_44 : decode cX4_changeLevels 44 = .ok (.iload 4, 2) := by decide +kernel
theorem dX4_changeLevels_46 : decode cX4_changeLevels 46 = .ok (.iaload, 1) := by decide +kernel
theorem dX4_changeLevels_47 : decode cX4_changeLevels 47 = .ok (.aload_n 0, 1) := by decide +kernel
theorem dX4_changeLevels_48 : decode cX4_changeLevels 48 = .ok (.getfield 34, 3) := by decide +kernel
theorem dX4_changeLevels_51 : decode cX4_changeLevels 51 = .ok (.iload 4, 2) := by decide +kernel
theorem dX4_changeLevels_53 : decode cX4_changeLevels 53 = .ok (.iaload, 1) := by decide +kernel
theorem dX4_changeLevels_54 : decode cX4_changeLevels 54 = .ok (.aload_n 0, 1) := by decide +kernel
theorem dX4_changeLevels_55 : decode cX4_changeLevels 55 = .ok (.getfield 22, 3) := by decide +kernel
theorem dX4_changeLevels_58 : decode cX4_changeLevels 58 = .ok (.iload_n 1, 1) := by decide +kernel
theorem dX4_changeLevels_59 : decode cX4_changeLevels 59 = .ok (.iaload, 1) := by decide +kernel
theorem dX4_changeLevels_60 : decode cX4_changeLevels 60 = .ok (.invokevirtual 119, 3) := by decide +kernel
theorem dX4_changeLevels_63 : decode cX4_changeLevels 63 = .ok (.ifCond .ne 5, 3) := by decide +kernel
theorem dX4_changeLevels_66 : decode cX4_changeLevels 66 = .ok (.iconst 0, 1) := by decide +kernel
theorem dX4_changeLevels_67 : decode cX4_changeLevels 67 = .ok (.ireturn, 1) := by decide +kernel
theorem dX4_changeLevels_68 : decode cX4_changeLevels 68 = .ok (.iinc 4 1, 3) := by decide +kernel
theorem dX4_changeLevels_71 : decode cX4_changeLevels 71 = .ok (.goto (-51), 3) := by decide +kernel
theorem dX4_changeLevels_74 : decode cX4_changeLevels 74 = .ok (.iconst 1, 1) := by decide +kernel
theorem dX4_changeLevels_75 : decode cX4_changeLevels 75 = .ok (.ireturn, 1) := by decide +kernel
theorem dX4_changeSpan_0 : decode cX4_changeSpan 0 = .ok (.iload_n 3, 1) := by decide +kernel
theorem dX4_changeSpan_1 : decode cX4_changeSpan 1 = .ok (.iload_n 2, 1) := by decide +kernel
theorem dX4_changeSpan_2 : decode cX4_changeSpan 2 = .ok (.if_icmp .ge 7, 3) := by decide +kernel
theorem dX4_changeSpan_5 : decode cX4_changeSpan 5 = .ok (.iconst (-1), 1) := by decide +kernel
theorem dX4_changeSpan_6 : decode cX4_changeSpan 6 = .ok (.goto 4, 3) := by decide +kernel
theorem dX4_changeSpan_9 : decode cX4_changeSpan 9 = .ok (.iconst 1, 1) := by decide +kernel
theorem dX4_changeSpan_10 : decode cX4_changeSpan 10 = .ok (.istore 5, 2) := by decide +kernel
theorem dX4_changeSpan_12 : decode cX4_changeSpan 12 = .ok (.iload_n 3, 1) := by decide +kernel
theorem dX4_changeSpan_13 : decode cX4_changeSpan 13 = .ok (.iload_n 2, 1) := by decide +kernel
theorem dX4_changeSpan_14 : decode cX4_changeSpan 14 = .ok (.isub, 1) := by decide +kernel
theorem dX4_changeSpan_15 : decode cX4_changeSpan 15 = .ok (.invokestatic 123, 3) := by decide +kernel
theorem dX4_changeSpan_18 : decode cX4_changeSpan 18 = .ok (.istore 6, 2) := by decide +kernel
theorem dX4_changeSpan_20 : decode cX4_changeSpan 20 = .ok (.iconst 0, 1) := by decide +kernel
theorem dX4_changeSpan_21 : decode cX4_changeSpan 21 = .ok (.istore 7, 2) := by decide +kernel
theorem dX4_changeSpan_23 : decode cX4_changeSpan 23 = .ok (.iload 7, 2) := by decide +kernel
theorem dX4_changeSpan_25 : decode cX4_changeSpan 25 = .ok (.iload 6, 2) := by decide +kernel
theorem dX4_changeSpan_27 : decode cX4_changeSpan 27 = .ok (.if_icmp .gt 45, 3) := by decide +kernel
theorem dX4_changeSpan_30 : decode cX4_changeSpan 30 = .ok (.iload 7, 2) := by decide +kernel
theorem dX4_changeSpan_32 : decode cX4_changeSpan 32 = .ok (.bipush 12, 2) := by decide +kernel
theorem dX4_changeSpan_34 : decode cX4_changeSpan 34 = .ok (.if_icmp .ge 38, 3) := by decide +kernel
theorem dX4_changeSpan_37 : decode cX4_changeSpan 37 = .ok (.iload_n 2, 1) := by decide +kernel
theorem dX4_changeSpan_38 : decode cX4_changeSpan 38 = .ok (.iload 7, 2) := by decide +kernel
theorem dX4_changeSpan_40 : decode cX4_changeSpan 40 = .ok (.iload 5, 2) := by decide +kernel
theorem dX4_changeSpan_42 : decode cX4_changeSpan 42 = .ok (.imul, 1) := by decide +kernel
theorem dX4_changeSpan_43 : decode cX4_changeSpan 43 = .ok (.iadd, 1) := by decide +kernel
theorem dX4_changeSpan_44 : decode cX4_changeSpan 44 = .ok (.istore 8, 2) := by decide +kernel
theorem dX4_changeSpan_46 : decode cX4_changeSpan 46 = .ok (.aload_n 1, 1) := by decide +kernel
theorem dX4_changeSpan_47 : decode cX4_changeSpan 47 = .ok (.iload 8, 2) := by decide +kernel
theorem dX4_changeSpan_49 : decode cX4_changeSpan 49 = .ok (.invokevirtual 129, 3) := by decide +kernel
theorem dX4_changeSpan_52 : decode cX4_changeSpan 52 = .ok (.ifCond .ne 5, 3) := by decide +kernel
theorem dX4_changeSpan_55 : decode cX4_changeSpan 55 = .ok (.iconst 0, 1) := by decide +kernel
theorem dX4_changeSpan_56 : decode cX4_changeSpan 56 = .ok (.ireturn, 1) := by decide +kernel
theorem dX4_changeSpan_57 : decode cX4_changeSpan 57 = .ok (.aload_n 1, 1) := by decide +kernel
theorem dX4_changeSpan_58 : decode cX4_changeSpan 58 = .ok (.getfield 132, 3) := by decide +kernel
theorem dX4_changeSpan_61 : decode cX4_changeSpan 61 = .ok (.iload 8, 2) := by decide +kernel
theorem dX4_changeSpan_63 : decode cX4_changeSpan 63 = .ok (.iload 4, 2) := by decide +kernel
theorem dX4_changeSpan_65 : decode cX4_changeSpan 65 = .ok (.iastore, 1) := by decide +kernel
theorem dX4_changeSpan_66 : decode cX4_changeSpan 66 = .ok (.iinc 7 1, 3) := by decide +kernel
theorem dX4_changeSpan_69 : decode cX4_changeSpan 69 = .ok (.goto (-46), 3) := by decide +kernel
theorem dX4_changeSpan_72 : decode cX4_changeSpan 72 = .ok (.iconst 1, 1) := by decide +kernel
theorem dX4_changeSpan_73 : decode cX4_changeSpan 73 = .ok (.ireturn, 1) := by decide +kernel
theorem dX5_init_0 : decode cX5_init 0 = .ok (.aload_n 0, 1) := by decide +kernel
theorem dX5_init_1 : decode cX5_init 1 = .ok (.invokespecial 3, 3) := by decide +kernel
theorem dX5_init_4 : decode cX5_init 4 = .ok (.aload_n 0, 1) := by decide +kernel
theorem dX5_init_5 : decode cX5_init 5 = .ok (.bipush 60, 2) := by decide +kernel
theorem dX5_init_7 : decode cX5_init 7 = .ok (.newarray .int, 2) := by decide +kernel
theorem dX5_init_9 : decode cX5_init 9 = .ok (.putfield 9, 3) := by decide +kernel
theorem dX5_init_12 : decode cX5_init 12 = .ok (.return_, 1) := by decide +kernel
theorem dX5_signsIn_0 : decode cX5_signsIn 0 = .ok (.iconst 0, 1) := by decide +kernel
theorem dX5_signsIn_1 : decode cX5_signsIn 1 = .ok (.istore_n 2, 1) := by decide +kernel
theorem dX5_signsIn_2 : decode cX5_signsIn 2 = .ok (.iload_n 2, 1) := by decide +kernel
theorem dX5_signsIn_3 : decode cX5_signsIn 3 = .ok (.bipush 8, 2) := by decide +kernel
theorem dX5_signsIn_5 : decode cX5_signsIn 5 = .ok (.if_icmp .ge 62, 3) := by decide +kernel
theorem dX5_signsIn_8 : decode cX5_signsIn 8 = .ok (.lload_n 0, 1) := by decide +kernel
theorem dX5_signsIn_9 : decode cX5_signsIn 9 = .ok (.bipush 8, 2) := by decide +kernel
theorem dX5_signsIn_11 : decode cX5_signsIn 11 = .ok (.iload_n 2, 1) := by decide +kernel
theorem dX5_signsIn_12 : decode cX5_signsIn 12 = .ok (.imul, 1) := by decide +kernel
theorem dX5_signsIn_13 : decode cX5_signsIn 13 = .ok (.lushr, 1) := by decide +kernel
theorem dX5_signsIn_14 : decode cX5_signsIn 14 = .ok (.lstore_n 3, 1) := by decide +kernel
theorem dX5_signsIn_15 : decode cX5_signsIn 15 = .ok (.lload_n 3, 1) := by decide +kernel
theorem dX5_signsIn_16 : decode cX5_signsIn 16 = .ok (.ldc2_w 15, 3) := by decide +kernel
theorem dX5_signsIn_19 : decode cX5_signsIn 19 = .ok (.land, 1) := by decide +kernel
theorem dX5_signsIn_20 : decode cX5_signsIn 20 = .ok (.lstore 5, 2) := by decide +kernel
theorem dX5_signsIn_22 : decode cX5_signsIn 22 = .ok (.lload 5, 2) := by decide +kernel
theorem dX5_signsIn_24 : decode cX5_signsIn 24 = .ok (.lconst 0, 1) := by decide +kernel
theorem dX5_signsIn_25 : decode cX5_signsIn 25 = .ok (.lcmp, 1) := by decide +kernel
theorem dX5_signsIn_26 : decode cX5_signsIn 26 = .ok (.ifCond .ne 15, 3) := by decide +kernel
theorem dX5_signsIn_29 : decode cX5_signsIn 29 = .ok (.lload_n 3, 1) := by decide +kernel
theorem dX5_signsIn_30 : decode cX5_signsIn 30 = .ok (.lconst 0, 1) := by decide +kernel
theorem dX5_signsIn_31 : decode cX5_signsIn 31 = .ok (.lcmp, 1) := by decide +kernel
theorem dX5_signsIn_32 : decode cX5_signsIn 32 = .ok (.ifCond .ne 7, 3) := by decide +kernel
theorem dX5_signsIn_35 : decode cX5_signsIn 35 = .ok (.iload_n 2, 1) := by decide +kernel
theorem dX5_signsIn_36 : decode cX5_signsIn 36 = .ok (.goto 4, 3) := by decide +kernel
theorem dX5_signsIn_39 : decode cX5_signsIn 39 = .ok (.iconst 0, 1) := by decide +kernel
theorem dX5_signsIn_40 : decode cX5_signsIn 40 = .ok (.ireturn, 1) := by decide +kernel
theorem dX5_signsIn_41 : decode cX5_signsIn 41 = .ok (.lload 5, 2) := by decide +kernel
theorem dX5_signsIn_43 : decode cX5_signsIn 43 = .ok (.ldc2_w 17, 3) := by decide +kernel
theorem dX5_signsIn_46 : decode cX5_signsIn 46 = .ok (.lcmp, 1) := by decide +kernel
theorem dX5_signsIn_47 : decode cX5_signsIn 47 = .ok (.ifCond .lt 12, 3) := by decide +kernel
theorem dX5_signsIn_50 : decode cX5_signsIn 50 = .ok (.lload 5, 2) := by decide +kernel
theorem dX5_signsIn_52 : decode cX5_signsIn 52 = .ok (.ldc2_w 19, 3) := by decide +kernel
theorem dX5_signsIn_55 : decode cX5_signsIn 55 = .ok (.lcmp, 1) := by decide +kernel
theorem dX5_signsIn_56 : decode cX5_signsIn 56 = .ok (.ifCond .le 5, 3) := by decide +kernel
theorem dX5_signsIn_59 : decode cX5_signsIn 59 = .ok (.iconst 0, 1) := by decide +kernel
theorem dX5_signsIn_60 : decode cX5_signsIn 60 = .ok (.ireturn, 1) := by decide +kernel
theorem dX5_signsIn_61 : decode cX5_signsIn 61 = .ok (.iinc 2 1, 3) := by decide +kernel
theorem dX5_signsIn_64 : decode cX5_signsIn 64 = .ok (.goto (-62), 3) := by decide +kernel
theorem dX5_signsIn_67 : decode cX5_signsIn 67 = .ok (.bipush 8, 2) := by decide +kernel
theorem dX5_signsIn_69 : decode cX5_signsIn 69 = .ok (.ireturn, 1) := by decide +kernel
theorem dX5_append_0 : decode cX5_append 0 = .ok (.iload_n 3, 1) := by decide +kernel
theorem dX5_append_1 : decode cX5_append 1 = .ok (.iconst 1, 1) := by decide +kernel
theorem dX5_append_2 : decode cX5_append 2 = .ok (.isub, 1) := by decide +kernel
theorem dX5_append_3 : decode cX5_append 3 = .ok (.istore 4, 2) := by decide +kernel
theorem dX5_append_5 : decode cX5_append 5 = .ok (.iload 4, 2) := by decide +kernel
theorem dX5_append_7 : decode cX5_append 7 = .ok (.ifCond .lt 52, 3) := by decide +kernel
theorem dX5_append_10 : decode cX5_append 10 = .ok (.aload_n 0, 1) := by decide +kernel
theorem dX5_append_11 : decode cX5_append 11 = .ok (.getfield 21, 3) := by decide +kernel
theorem dX5_append_14 : decode cX5_append 14 = .ok (.aload_n 0, 1) := by decide +kernel
theorem dX5_append_15 : decode cX5_append 15 = .ok (.getfield 9, 3) := by decide +kernel
theorem dX5_append_18 : decode cX5_append 18 = .ok (.arraylength, 1) := by decide +kernel
theorem dX5_append_19 : decode cX5_append 19 = .ok (.if_icmp .ge 40, 3) := by decide +kernel
theorem dX5_append_22 : decode cX5_append 22 = .ok (.aload_n 0, 1) := by decide +kernel
theorem dX5_append_23 : decode cX5_append 23 = .ok (.getfield 9, 3) := by decide +kernel
theorem dX5_append_26 : decode cX5_append 26 = .ok (.aload_n 0, 1) := by decide +kernel
theorem dX5_append_27 : decode cX5_append 27 = .ok (.getfield 21, 3) := by decide +kernel
theorem dX5_append_30 : decode cX5_append 30 = .ok (.lload_n 1, 1) := by decide +kernel
theorem dX5_append_31 : decode cX5_append 31 = .ok (.bipush 8, 2) := by decide +kernel
theorem dX5_append_33 : decode cX5_append 33 = .ok (.iload 4, 2) := by decide +kernel
theorem dX5_append_35 : decode cX5_append 35 = .ok (.imul, 1) := by decide +kernel
theorem dX5_append_36 : decode cX5_append 36 = .ok (.lushr, 1) := by decide +kernel
theorem dX5_append_37 : decode cX5_append 37 = .ok (.ldc2_w 15, 3) := by decide +kernel
theorem dX5_append_40 : decode cX5_append 40 = .ok (.land, 1) := by decide +kernel
theorem dX5_append_41 : decode cX5_append 41 = .ok (.l2i, 1) := by decide +kernel
theorem dX5_append_42 : decode cX5_append 42 = .ok (.iastore, 1) := by decide +kernel
theorem dX5_append_43 : decode cX5_append 43 = .ok (.aload_n 0, 1) := by decide +kernel
theorem dX5_append_44 : decode cX5_append 44 = .ok (.dup, 1) := by decide +kernel
theorem dX5_append_45 : decode cX5_append 45 = .ok (.getfield 21, 3) := by decide +kernel
theorem dX5_append_48 : decode cX5_append 48 = .ok (.iconst 1, 1) := by decide +kernel
theorem dX5_append_49 : decode cX5_append 49 = .ok (.iadd, 1) := by decide +kernel
theorem dX5_append_50 : decode cX5_append 50 = .ok (.putfield 21, 3) := by decide +kernel
theorem dX5_append_53 : decode cX5_append 53 = .ok (.iinc 4 (-1), 3) := by decide +kernel
theorem dX5_append_56 : decode cX5_append 56 = .ok (.goto (-51), 3) := by decide +kernel
theorem dX5_append_59 : decode cX5_append 59 = .ok (.return_, 1) := by decide +kernel
theorem dX6_init_0 : decode cX6_init 0 = .ok (.aload_n 0, 1) := by decide +kernel
theorem dX6_init_1 : decode cX6_init 1 = .ok (.invokespecial 3, 3) := by decide +kernel
theorem dX6_init_4 : decode cX6_init 4 = .ok (.aload_n 0, 1) := by decide +kernel
theorem dX6_init_5 : decode cX6_init 5 = .ok (.bipush 12, 2) := by decide +kernel
theorem dX6_init_7 : decode cX6_init 7 = .ok (.newarray .int, 2) := by decide +kernel
theorem dX6_init_9 : decode cX6_init 9 = .ok (.putfield 9, 3) := by decide +kernel
theorem dX6_init_12 : decode cX6_init 12 = .ok (.aload_n 0, 1) := by decide +kernel
theorem dX6_init_13 : decode cX6_init 13 = .ok (.bipush 12, 2) := by decide +kernel
theorem dX6_init_15 : decode cX6_init 15 = .ok (.newarray .int, 2) := by decide +kernel
theorem dX6_init_17 : decode cX6_init 17 = .ok (.putfield 15, 3) := by decide +kernel
theorem dX6_init_20 : decode cX6_init 20 = .ok (.aload_n 0, 1) := by decide +kernel
theorem dX6_init_21 : decode cX6_init 21 = .ok (.bipush 12, 2) := by decide +kernel
theorem dX6_init_23 : decode cX6_init 23 = .ok (.newarray .int, 2) := by decide +kernel
theorem dX6_init_25 : decode cX6_init 25 = .ok (.putfield 18, 3) := by decide +kernel
theorem dX6_init_28 : decode cX6_init 28 = .ok (.aload_n 0, 1) := by decide +kernel
theorem dX6_init_29 : decode cX6_init 29 = .ok (.bipush 12, 2) := by decide +kernel
theorem dX6_init_31 : decode cX6_init 31 = .ok (.newarray .int, 2) := by decide +kernel
theorem dX6_init_33 : decode cX6_init 33 = .ok (.putfield 21, 3) := by decide +kernel
theorem dX6_init_36 : decode cX6_init 36 = .ok (.aload_n 0, 1) := by decide +kernel
theorem dX6_init_37 : decode cX6_init 37 = .ok (.bipush 12, 2) := by decide +kernel
theorem dX6_init_39 : decode cX6_init 39 = .ok (.newarray .int, 2) := by decide +kernel
theorem dX6_init_41 : decode cX6_init 41 = .ok (.putfield 24, 3) := by decide +kernel
theorem dX6_init_44 : decode cX6_init 44 = .ok (.aload_n 0, 1) := by decide +kernel
theorem dX6_init_45 : decode cX6_init 45 = .ok (.bipush 8, 2) := by decide +kernel
theorem dX6_init_47 : decode cX6_init 47 = .ok (.newarray .int, 2) := by decide +kernel
theorem dX6_init_49 : decode cX6_init 49 = .ok (.putfield 27, 3) := by decide +kernel
theorem dX6_init_52 : decode cX6_init 52 = .ok (.aload_n 0, 1) := by decide +kernel
theorem dX6_init_53 : decode cX6_init 53 = .ok (.bipush 8, 2) := by decide +kernel
theorem dX6_init_55 : decode cX6_init 55 = .ok (.bipush 12, 2) := by decide +kernel
theorem dX6_init_57 : decode cX6_init 57 = .ok (.multianewarray 30 2, 4) := by decide +kernel
theorem dX6_init_61 : decode cX6_init 61 = .ok (.putfield 32, 3) := by decide +kernel
theorem dX6_init_64 : decode cX6_init 64 = .ok (.aload_n 0, 1) := by decide +kernel
theorem dX6_init_65 : decode cX6_init 65 = .ok (.new 35, 3) := by decide +kernel
theorem dX6_init_68 : decode cX6_init 68 = .ok (.dup, 1) := by decide +kernel
theorem dX6_init_69 : decode cX6_init 69 = .ok (.invokespecial 37, 3) := by decide +kernel
theorem dX6_init_72 : decode cX6_init 72 = .ok (.putfield 38, 3) := by decide +kernel
theorem dX6_init_75 : decode cX6_init 75 = .ok (.aload_n 0, 1) := by decide +kernel
theorem dX6_init_76 : decode cX6_init 76 = .ok (.new 42, 3) := by decide +kernel
theorem dX6_init_79 : decode cX6_init 79 = .ok (.dup, 1) := by decide +kernel
theorem dX6_init_80 : decode cX6_init 80 = .ok (.bipush 12, 2) := by decide +kernel
theorem dX6_init_82 : decode cX6_init 82 = .ok (.newarray .int, 2) := by decide +kernel
theorem dX6_init_84 : decode cX6_init 84 = .ok (.invokespecial 44, 3) := by decide +kernel
theorem dX6_init_87 : decode cX6_init 87 = .ok (.putfield 47, 3) := by decide +kernel
theorem dX6_init_90 : decode cX6_init 90 = .ok (.aload_n 0, 1) := by decide +kernel
theorem dX6_init_91 : decode cX6_init 91 = .ok (.new 42, 3) := by decide +kernel
theorem dX6_init_94 : decode cX6_init 94 = .ok (.dup, 1) := by decide +kernel
theorem dX6_init_95 : decode cX6_init 95 = .ok (.iconst 3, 1) := by decide +kernel
theorem dX6_init_96 : decode cX6_init 96 = .ok (.newarray .int, 2) := by decide +kernel
theorem dX6_init_98 : decode cX6_init 98 = .ok (.invokespecial 44, 3) := by decide +kernel
theorem dX6_init_101 : decode cX6_init 101 = .ok (.putfield 51, 3) := by decide +kernel
theorem dX6_init_104 : decode cX6_init 104 = .ok (.iconst 0, 1) := by decide +kernel
theorem dX6_init_105 : decode cX6_init 105 = .ok (.istore_n 1, 1) := by decide +kernel
theorem dX6_init_106 : decode cX6_init 106 = .ok (.iload_n 1, 1) := by decide +kernel
theorem dX6_init_107 : decode cX6_init 107 = .ok (.bipush 12, 2) := by decide +kernel
theorem dX6_init_109 : decode cX6_init 109 = .ok (.if_icmp .ge 18, 3) := by decide +kernel
theorem dX6_init_112 : decode cX6_init 112 = .ok (.aload_n 0, 1) := by decide +kernel
theorem dX6_init_113 : decode cX6_init 113 = .ok (.getfield 24, 3) := by decide +kernel
theorem dX6_init_116 : decode cX6_init 116 = .ok (.iload_n 1, 1) := by decide +kernel
theorem dX6_init_117 : decode cX6_init 117 = .ok (.iload_n 1, 1) := by decide +kernel
theorem dX6_init_118 : decode cX6_init 118 = .ok (.iconst 3, 1) := by decide +kernel
theorem dX6_init_119 : decode cX6_init 119 = .ok (.irem, 1) := by decide +kernel
theorem dX6_init_120 : decode cX6_init 120 = .ok (.iastore, 1) := by decide +kernel
theorem dX6_init_121 : decode cX6_init 121 = .ok (.iinc 1 1, 3) := by decide +kernel
theorem dX6_init_124 : decode cX6_init 124 = .ok (.goto (-18), 3) := by decide +kernel
theorem dX6_init_127 : decode cX6_init 127 = .ok (.return_, 1) := by decide +kernel
theorem dX6_copyFrom_0 : decode cX6_copyFrom 0 = .ok (.aload_n 0, 1) := by decide +kernel
theorem dX6_copyFrom_1 : decode cX6_copyFrom 1 = .ok (.aload_n 1, 1) := by decide +kernel
theorem dX6_copyFrom_2 : decode cX6_copyFrom 2 = .ok (.getfield 54, 3) := by decide +kernel
theorem dX6_copyFrom_5 : decode cX6_copyFrom 5 = .ok (.putfield 54, 3) := by decide +kernel
theorem dX6_copyFrom_8 : decode cX6_copyFrom 8 = .ok (.aload_n 0, 1) := by decide +kernel
theorem dX6_copyFrom_9 : decode cX6_copyFrom 9 = .ok (.aload_n 1, 1) := by decide +kernel
theorem dX6_copyFrom_10 : decode cX6_copyFrom 10 = .ok (.getfield 58, 3) := by decide +kernel
theorem dX6_copyFrom_13 : decode cX6_copyFrom 13 = .ok (.putfield 58, 3) := by decide +kernel
theorem dX6_copyFrom_16 : decode cX6_copyFrom 16 = .ok (.aload_n 0, 1) := by decide +kernel
theorem dX6_copyFrom_17 : decode cX6_copyFrom 17 = .ok (.aload_n 1, 1) := by decide +kernel
theorem dX6_copyFrom_18 : decode cX6_copyFrom 18 = .ok (.getfield 61, 3) := by decide +kernel
theorem dX6_copyFrom_21 : decode cX6_copyFrom 21 = .ok (.putfield 61, 3) := by decide +kernel
theorem dX6_copyFrom_24 : decode cX6_copyFrom 24 = .ok (.aload_n 1, 1) := by decide +kernel
theorem dX6_copyFrom_25 : decode cX6_copyFrom 25 = .ok (.getfield 9, 3) := by decide +kernel
theorem dX6_copyFrom_28 : decode cX6_copyFrom 28 = .ok (.aload_n 0, 1) := by decide +kernel
theorem dX6_copyFrom_29 : decode cX6_copyFrom 29 = .ok (.getfield 9, 3) := by decide +kernel
theorem dX6_copyFrom_32 : decode cX6_copyFrom 32 = .ok (.invokestatic 64, 3) := by decide +kernel
theorem dX6_copyFrom_35 : decode cX6_copyFrom 35 = .ok (.aload_n 1, 1) := by decide +kernel
theorem dX6_copyFrom_36 : decode cX6_copyFrom 36 = .ok (.getfield 15, 3) := by decide +kernel
theorem dX6_copyFrom_39 : decode cX6_copyFrom 39 = .ok (.aload_n 0, 1) := by decide +kernel
theorem dX6_copyFrom_40 : decode cX6_copyFrom 40 = .ok (.getfield 15, 3) := by decide +kernel
theorem dX6_copyFrom_43 : decode cX6_copyFrom 43 = .ok (.invokestatic 64, 3) := by decide +kernel
theorem dX6_copyFrom_46 : decode cX6_copyFrom 46 = .ok (.aload_n 1, 1) := by decide +kernel
theorem dX6_copyFrom_47 : decode cX6_copyFrom 47 = .ok (.getfield 18, 3) := by decide +kernel
theorem dX6_copyFrom_50 : decode cX6_copyFrom 50 = .ok (.aload_n 0, 1) := by decide +kernel
theorem dX6_copyFrom_51 : decode cX6_copyFrom 51 = .ok (.getfield 18, 3) := by decide +kernel
theorem dX6_copyFrom_54 : decode cX6_copyFrom 54 = .ok (.invokestatic 64, 3) := by decide +kernel
theorem dX6_copyFrom_57 : decode cX6_copyFrom 57 = .ok (.aload_n 1, 1) := by decide +kernel
theorem dX6_copyFrom_58 : decode cX6_copyFrom 58 = .ok (.getfield 21, 3) := by decide +kernel
theorem dX6_copyFrom_61 : decode cX6_copyFrom 61 = .ok (.aload_n 0, 1) := by decide +kernel
theorem dX6_copyFrom_62 : decode cX6_copyFrom 62 = .ok (.getfield 21, 3) := by decide +kernel
theorem dX6_copyFrom_65 : decode cX6_copyFrom 65 = .ok (.invokestatic 64, 3) := by decide +kernel
theorem dX6_copyFrom_68 : decode cX6_copyFrom 68 = .ok (.aload_n 1, 1) := by decide +kernel
theorem dX6_copyFrom_69 : decode cX6_copyFrom 69 = .ok (.getfield 24, 3) := by decide +kernel
theorem dX6_copyFrom_72 : decode cX6_copyFrom 72 = .ok (.aload_n 0, 1) := by decide +kernel
theorem dX6_copyFrom_73 : decode cX6_copyFrom 73 = .ok (.getfield 24, 3) := by decide +kernel
theorem dX6_copyFrom_76 : decode cX6_copyFrom 76 = .ok (.invokestatic 64, 3) := by decide +kernel
theorem dX6_copyFrom_79 : decode cX6_copyFrom 79 = .ok (.aload_n 1, 1) := by decide +kernel
theorem dX6_copyFrom_80 : decode cX6_copyFrom 80 = .ok (.getfield 27, 3) := by decide +kernel
theorem dX6_copyFrom_83 : decode cX6_copyFrom 83 = .ok (.aload_n 0, 1) := by decide +kernel
theorem dX6_copyFrom_84 : decode cX6_copyFrom 84 = .ok (.getfield 27, 3) := by decide +kernel
theorem dX6_copyFrom_87 : decode cX6_copyFrom 87 = .ok (.invokestatic 64, 3) := by decide +kernel
theorem dX6_copyFrom_90 : decode cX6_copyFrom 90 = .ok (.iconst 0, 1) := by decide +kernel
theorem dX6_copyFrom_91 : decode cX6_copyFrom 91 = .ok (.istore_n 2, 1) := by decide +kernel
theorem dX6_copyFrom_92 : decode cX6_copyFrom 92 = .ok (.iload_n 2, 1) := by decide +kernel
theorem dX6_copyFrom_93 : decode cX6_copyFrom 93 = .ok (.bipush 8, 2) := by decide +kernel
theorem dX6_copyFrom_95 : decode cX6_copyFrom 95 = .ok (.if_icmp .ge 24, 3) := by decide +kernel
theorem dX6_copyFrom_98 : decode cX6_copyFrom 98 = .ok (.aload_n 1, 1) := by decide +kernel
theorem dX6_copyFrom_99 : decode cX6_copyFrom 99 = .ok (.getfield 32, 3) := by decide +kernel
theorem dX6_copyFrom_102 : decode cX6_copyFrom 102 = .ok (.iload_n 2, 1) := by decide +kernel
theorem dX6_copyFrom_103 : decode cX6_copyFrom 103 = .ok (.aaload, 1) := by decide +kernel
theorem dX6_copyFrom_104 : decode cX6_copyFrom 104 = .ok (.aload_n 0, 1) := by decide +kernel
theorem dX6_copyFrom_105 : decode cX6_copyFrom 105 = .ok (.getfield 32, 3) := by decide +kernel
theorem dX6_copyFrom_108 : decode cX6_copyFrom 108 = .ok (.iload_n 2, 1) := by decide +kernel
theorem dX6_copyFrom_109 : decode cX6_copyFrom 109 = .ok (.aaload, 1) := by decide +kernel
theorem dX6_copyFrom_110 : decode cX6_copyFrom 110 = .ok (.invokestatic 64, 3) := by decide +kernel
theorem dX6_copyFrom_113 : decode cX6_copyFrom 113 = .ok (.iinc 2 1, 3) := by decide +kernel
theorem dX6_copyFrom_116 : decode cX6_copyFrom 116 = .ok (.goto (-24), 3) := by decide +kernel
theorem dX6_copyFrom_119 : decode cX6_copyFrom 119 = .ok (.aload_n 0, 1) := by decide +kernel
theorem dX6_copyFrom_120 : decode cX6_copyFrom 120 = .ok (.getfield 38, 3) := by decide +kernel
theorem dX6_copyFrom_123 : decode cX6_copyFrom 123 = .ok (.aload_n 1, 1) := by decide +kernel
theorem dX6_copyFrom_124 : decode cX6_copyFrom 124 = .ok (.getfield 38, 3) := by decide +kernel
theorem dX6_copyFrom_127 : decode cX6_copyFrom 127 = .ok (.invokevirtual 68, 3) := by decide +kernel
theorem dX6_copyFrom_130 : decode cX6_copyFrom 130 = .ok (.aload_n 0, 1) := by decide +kernel
theorem dX6_copyFrom_131 : decode cX6_copyFrom 131 = .ok (.getfield 47, 3) := by decide +kernel
theorem dX6_copyFrom_134 : decode cX6_copyFrom 134 = .ok (.aload_n 1, 1) := by decide +kernel
theorem dX6_copyFrom_135 : decode cX6_copyFrom 135 = .ok (.getfield 47, 3) := by decide +kernel
theorem dX6_copyFrom_138 : decode cX6_copyFrom 138 = .ok (.invokevirtual 72, 3) := by decide +kernel
theorem dX6_copyFrom_141 : decode cX6_copyFrom 141 = .ok (.aload_n 0, 1) := by decide +kernel
theorem dX6_copyFrom_142 : decode cX6_copyFrom 142 = .ok (.getfield 51, 3) := by decide +kernel
theorem dX6_copyFrom_145 : decode cX6_copyFrom 145 = .ok (.aload_n 1, 1) := by decide +kernel
theorem dX6_copyFrom_146 : decode cX6_copyFrom 146 = .ok (.getfield 51, 3) := by decide +kernel
theorem dX6_copyFrom_149 : decode cX6_copyFrom 149 = .ok (.invokevirtual 72, 3) := by decide +kernel
theorem dX6_copyFrom_152 : decode cX6_copyFrom 152 = .ok (.return_, 1) := by decide +kernel
theorem dX6_isOn_0 : decode cX6_isOn 0 = .ok (.iload_n 1, 1) := by decide +kernel
theorem dX6_isOn_1 : decode cX6_isOn 1 = .ok (.aload_n 0, 1) := by decide +kernel
theorem dX6_isOn_2 : decode cX6_isOn 2 = .ok (.getfield 54, 3) := by decide +kernel
theorem dX6_isOn_5 : decode cX6_isOn 5 = .ok (.aload_n 0, 1) := by decide +kernel
theorem dX6_isOn_6 : decode cX6_isOn 6 = .ok (.getfield 58, 3) := by decide +kernel
theorem dX6_isOn_9 : decode cX6_isOn 9 = .ok (.invokestatic 75, 3) := by decide +kernel
theorem dX6_isOn_12 : decode cX6_isOn 12 = .ok (.ireturn, 1) := by decide +kernel
theorem dX6_isFull_0 : decode cX6_isFull 0 = .ok (.aload_n 0, 1) := by decide +kernel
theorem dX6_isFull_1 : decode cX6_isFull 1 = .ok (.getfield 61, 3) := by decide +kernel
theorem dX6_isFull_4 : decode cX6_isFull 4 = .ok (.bipush 12, 2) := by decide +kernel
theorem dX6_isFull_6 : decode cX6_isFull 6 = .ok (.if_icmp .lt 7, 3) := by decide +kernel
theorem dX6_isFull_9 : decode cX6_isFull 9 = .ok (.iconst 1, 1) := by decide +kernel
theorem dX6_isFull_10 : decode cX6_isFull 10 = .ok (.goto 4, 3) := by decide +kernel
theorem dX6_isFull_13 : decode cX6_isFull 13 = .ok (.iconst 0, 1) := by decide +kernel
theorem dX6_isFull_14 : decode cX6_isFull 14 = .ok (.ireturn, 1) := by decide +kernel
theorem dX6_hasLamp_0 : decode cX6_hasLamp 0 = .ok (.iload_n 1, 1) := by decide +kernel
theorem dX6_hasLamp_1 : decode cX6_hasLamp 1 = .ok (.ifCond .lt 21, 3) := by decide +kernel
theorem dX6_hasLamp_4 : decode cX6_hasLamp 4 = .ok (.iload_n 1, 1) := by decide +kernel
theorem dX6_hasLamp_5 : decode cX6_hasLamp 5 = .ok (.aload_n 0, 1) := by decide +kernel
theorem dX6_hasLamp_6 : decode cX6_hasLamp 6 = .ok (.getfield 61, 3) := by decide +kernel
theorem dX6_hasLamp_9 : decode cX6_hasLamp 9 = .ok (.if_icmp .ge 13, 3) := by decide +kernel
theorem dX6_hasLamp_12 : decode cX6_hasLamp 12 = .ok (.iload_n 1, 1) := by decide +kernel
theorem dX6_hasLamp_13 : decode cX6_hasLamp 13 = .ok (.bipush 12, 2) := by decide +kernel
theorem dX6_hasLamp_15 : decode cX6_hasLamp 15 = .ok (.if_icmp .ge 7, 3) := by decide +kernel
theorem dX6_hasLamp_18 : decode cX6_hasLamp 18 = .ok (.iconst 1, 1) := by decide +kernel
theorem dX6_hasLamp_19 : decode cX6_hasLamp 19 = .ok (.goto 4, 3) := by decide +kernel
theorem dX6_hasLamp_22 : decode cX6_hasLamp 22 = .ok (.iconst 0, 1) := by decide +kernel
theorem dX6_hasLamp_23 : decode cX6_hasLamp 23 = .ok (.ireturn, 1) := by decide +kernel
theorem dX6_addLamp_0 : decode cX6_addLamp 0 = .ok (.aload_n 0, 1) := by decide +kernel
theorem dX6_addLamp_1 : decode cX6_addLamp 1 = .ok (.invokevirtual 79, 3) := by decide +kernel
theorem dX6_addLamp_4 : decode cX6_addLamp 4 = .ok (.ifCond .eq 6, 3) := by decide +kernel
theorem dX6_addLamp_7 : decode cX6_addLamp 7 = .ok (.bipush (-4), 2) := by decide +kernel
theorem dX6_addLamp_9 : decode cX6_addLamp 9 = .ok (.ireturn, 1) := by decide +kernel
theorem dX6_addLamp_10 : decode cX6_addLamp 10 = .ok (.aload_n 0, 1) := by decide +kernel
theorem dX6_addLamp_11 : decode cX6_addLamp 11 = .ok (.dup, 1) := by decide +kernel
theorem dX6_addLamp_12 : decode cX6_addLamp 12 = .ok (.getfield 61, 3) := by decide +kernel
theorem dX6_addLamp_15 : decode cX6_addLamp 15 = .ok (.dup_x1, 1) := by decide +kernel
theorem dX6_addLamp_16 : decode cX6_addLamp 16 = .ok (.iconst 1, 1) := by decide +kernel
theorem dX6_addLamp_17 : decode cX6_addLamp 17 = .ok (.iadd, 1) := by decide +kernel
theorem dX6_addLamp_18 : decode cX6_addLamp 18 = .ok (.putfield 61, 3) := by decide +kernel
theorem dX6_addLamp_21 : decode cX6_addLamp 21 = .ok (.istore_n 3, 1) := by decide +kernel
theorem dX6_addLamp_22 : decode cX6_addLamp 22 = .ok (.aload_n 0, 1) := by decide +kernel
theorem dX6_addLamp_23 : decode cX6_addLamp 23 = .ok (.getfield 9, 3) := by decide +kernel
theorem dX6_addLamp_26 : decode cX6_addLamp 26 = .ok (.iload_n 3, 1) := by decide +kernel
theorem dX6_addLamp_27 : decode cX6_addLamp 27 = .ok (.iload_n 1, 1) := by decide +kernel
theorem dX6_addLamp_28 : decode cX6_addLamp 28 = .ok (.iastore, 1) := by decide +kernel
theorem dX6_addLamp_29 : decode cX6_addLamp 29 = .ok (.aload_n 0, 1) := by decide +kernel
theorem dX6_addLamp_30 : decode cX6_addLamp 30 = .ok (.getfield 15, 3) := by decide +kernel
theorem dX6_addLamp_33 : decode cX6_addLamp 33 = .ok (.iload_n 3, 1) := by decide +kernel
theorem dX6_addLamp_34 : decode cX6_addLamp 34 = .ok (.iload_n 2, 1) := by decide +kernel
theorem dX6_addLamp_35 : decode cX6_addLamp 35 = .ok (.iastore, 1) := by decide +kernel
theorem dX6_addLamp_36 : decode cX6_addLamp 36 = .ok (.iload_n 3, 1) := by decide +kernel
theorem dX6_addLamp_37 : decode cX6_addLamp 37 = .ok (.ireturn, 1) := by decide +kernel
theorem dX6_removeLamp_0 : decode cX6_removeLamp 0 = .ok (.aload_n 0, 1) := by decide +kernel
theorem dX6_removeLamp_1 : decode cX6_removeLamp 1 = .ok (.iload_n 1, 1) := by decide +kernel
theorem dX6_removeLamp_2 : decode cX6_removeLamp 2 = .ok (.invokevirtual 83, 3) := by decide +kernel
theorem dX6_removeLamp_5 : decode cX6_removeLamp 5 = .ok (.ifCond .ne 8, 3) := by decide +kernel
theorem dX6_removeLamp_8 : decode cX6_removeLamp 8 = .ok (.aload_n 0, 1) := by decide +kernel
theorem dX6_removeLamp_9 : decode cX6_removeLamp 9 = .ok (.getfield 61, 3) := by decide +kernel
theorem dX6_removeLamp_12 : decode cX6_removeLamp 12 = .ok (.ireturn, 1) := by decide +kernel
theorem dX6_removeLamp_13 : decode cX6_removeLamp 13 = .ok (.aload_n 0, 1) := by decide +kernel
theorem dX6_removeLamp_14 : decode cX6_removeLamp 14 = .ok (.getfield 9, 3) := by decide +kernel
theorem dX6_removeLamp_17 : decode cX6_removeLamp 17 = .ok (.iload_n 1, 1) := by decide +kernel
theorem dX6_removeLamp_18 : decode cX6_removeLamp 18 = .ok (.invokestatic 87, 3) := by decide +kernel
theorem dX6_removeLamp_21 : decode cX6_removeLamp 21 = .ok (.aload_n 0, 1) := by decide +kernel
theorem dX6_removeLamp_22 : decode cX6_removeLamp 22 = .ok (.getfield 15, 3) := by decide +kernel
theorem dX6_removeLamp_25 : decode cX6_removeLamp 25 = .ok (.iload_n 1, 1) := by decide +kernel
theorem dX6_removeLamp_26 : decode cX6_removeLamp 26 = .ok (.invokestatic 87, 3) := by decide +kernel
theorem dX6_removeLamp_29 : decode cX6_removeLamp 29 = .ok (.aload_n 0, 1) := by decide +kernel
theorem dX6_removeLamp_30 : decode cX6_removeLamp 30 = .ok (.getfield 18, 3) := by decide +kernel
theorem dX6_removeLamp_33 : decode cX6_removeLamp 33 = .ok (.iload_n 1, 1) := by decide +kernel
theorem dX6_removeLamp_34 : decode cX6_removeLamp 34 = .ok (.invokestatic 87, 3) := by decide +kernel
theorem dX6_removeLamp_37 : decode cX6_removeLamp 37 = .ok (.aload_n 0, 1) := by decide +kernel
theorem dX6_removeLamp_38 : decode cX6_removeLamp 38 = .ok (.getfield 21, 3) := by decide +kernel
theorem dX6_removeLamp_41 : decode cX6_removeLamp 41 = .ok (.iload_n 1, 1) := by decide +kernel
theorem dX6_removeLamp_42 : decode cX6_removeLamp 42 = .ok (.invokestatic 87, 3) := by decide +kernel
theorem dX6_removeLamp_45 : decode cX6_removeLamp 45 = .ok (.aload_n 0, 1) := by decide +kernel
theorem dX6_removeLamp_46 : decode cX6_removeLamp 46 = .ok (.getfield 32, 3) := by decide +kernel
theorem dX6_removeLamp_49 : decode cX6_removeLamp 49 = .ok (.astore_n 2, 1) := by decide +kernel
theorem dX6_removeLamp_50 : decode cX6_removeLamp 50 = .ok (.aload_n 2, 1) := by decide +kernel
theorem dX6_removeLamp_51 : decode cX6_removeLamp 51 = .ok (.arraylength, 1) := by decide +kernel
theorem dX6_removeLamp_52 : decode cX6_removeLamp 52 = .ok (.istore_n 3, 1) := by decide +kernel
theorem dX6_removeLamp_53 : decode cX6_removeLamp 53 = .ok (.iconst 0, 1) := by decide +kernel
theorem dX6_removeLamp_54 : decode cX6_removeLamp 54 = .ok (.istore 4, 2) := by decide +kernel
theorem dX6_removeLamp_56 : decode cX6_removeLamp 56 = .ok (.iload 4, 2) := by decide +kernel
theorem dX6_removeLamp_58 : decode cX6_removeLamp 58 = .ok (.iload_n 3, 1) := by decide +kernel
theorem dX6_removeLamp_59 : decode cX6_removeLamp 59 = .ok (.if_icmp .ge 21, 3) := by decide +kernel
theorem dX6_removeLamp_62 : decode cX6_removeLamp 62 = .ok (.aload_n 2, 1) := by decide +kernel
theorem dX6_removeLamp_63 : decode cX6_removeLamp 63 = .ok (.iload 4, 2) := by decide +kernel
theorem dX6_removeLamp_65 : decode cX6_removeLamp 65 = .ok (.aaload, 1) := by decide +kernel
theorem dX6_removeLamp_66 : decode cX6_removeLamp 66 = .ok (.astore 5, 2) := by decide +kernel
theorem dX6_removeLamp_68 : decode cX6_removeLamp 68 = .ok (.aload 5, 2) := by decide +kernel
theorem dX6_removeLamp_70 : decode cX6_removeLamp 70 = .ok (.iload_n 1, 1) := by decide +kernel
theorem dX6_removeLamp_71 : decode cX6_removeLamp 71 = .ok (.invokestatic 87, 3) := by decide +kernel
theorem dX6_removeLamp_74 : decode cX6_removeLamp 74 = .ok (.iinc 4 1, 3) := by decide +kernel
theorem dX6_removeLamp_77 : decode cX6_removeLamp 77 = .ok (.goto (-21), 3) := by decide +kernel
theorem dX6_removeLamp_80 : decode cX6_removeLamp 80 = .ok (.aload_n 0, 1) := by decide +kernel
theorem dX6_removeLamp_81 : decode cX6_removeLamp 81 = .ok (.getfield 38, 3) := by decide +kernel
theorem dX6_removeLamp_84 : decode cX6_removeLamp 84 = .ok (.iload_n 1, 1) := by decide +kernel
theorem dX6_removeLamp_85 : decode cX6_removeLamp 85 = .ok (.invokevirtual 91, 3) := by decide +kernel
theorem dX6_removeLamp_88 : decode cX6_removeLamp 88 = .ok (.aload_n 0, 1) := by decide +kernel
theorem dX6_removeLamp_89 : decode cX6_removeLamp 89 = .ok (.dup, 1) := by decide +kernel
theorem dX6_removeLamp_90 : decode cX6_removeLamp 90 = .ok (.getfield 61, 3) := by decide +kernel
theorem dX6_removeLamp_93 : decode cX6_removeLamp 93 = .ok (.iconst 1, 1) := by decide +kernel
theorem dX6_removeLamp_94 : decode cX6_removeLamp 94 = .ok (.isub, 1) := by decide +kernel
theorem dX6_removeLamp_95 : decode cX6_removeLamp 95 = .ok (.putfield 61, 3) := by decide +kernel
theorem dX6_removeLamp_98 : decode cX6_removeLamp 98 = .ok (.aload_n 0, 1) := by decide +kernel
theorem dX6_removeLamp_99 : decode cX6_removeLamp 99 = .ok (.getfield 61, 3) := by decide +kernel
theorem dX6_removeLamp_102 : decode cX6_removeLamp 102 = .ok (.ireturn, 1) := by decide +kernel
theorem dX6_lampsOfType_0 : decode cX6_lampsOfType 0 = .ok (.iconst 0, 1) := by decide +kernel
theorem dX6_lampsOfType_1 : decode cX6_lampsOfType 1 = .ok (.istore_n 2, 1) := by decide +kernel
theorem dX6_lampsOfType_2 : decode cX6_lampsOfType 2 = .ok (.iconst 0, 1) := by decide +kernel
theorem dX6_lampsOfType_3 : decode cX6_lampsOfType 3 = .ok (.istore_n 3, 1) := by decide +kernel
theorem dX6_lampsOfType_4 : decode cX6_lampsOfType 4 = .ok (.iload_n 3, 1) := by decide +kernel
theorem dX6_lampsOfType_5 : decode cX6_lampsOfType 5 = .ok (.bipush 12, 2) := by decide +kernel
theorem dX6_lampsOfType_7 : decode cX6_lampsOfType 7 = .ok (.if_icmp .ge 30, 3) := by decide +kernel
theorem dX6_lampsOfType_10 : decode cX6_lampsOfType 10 = .ok (.aload_n 0, 1) := by decide +kernel
theorem dX6_lampsOfType_11 : decode cX6_lampsOfType 11 = .ok (.iload_n 3, 1) := by decide +kernel
theorem dX6_lampsOfType_12 : decode cX6_lampsOfType 12 = .ok (.invokevirtual 83, 3) := by decide +kernel
theorem dX6_lampsOfType_15 : decode cX6_lampsOfType 15 = .ok (.ifCond .eq 22, 3) := by decide +kernel
theorem dX6_lampsOfType_18 : decode cX6_lampsOfType 18 = .ok (.aload_n 0, 1) := by decide +kernel
theorem dX6_lampsOfType_19 : decode cX6_lampsOfType 19 = .ok (.getfield 9, 3) := by decide +kernel
theorem dX6_lampsOfType_22 : decode cX6_lampsOfType 22 = .ok (.iload_n 3, 1) := by decide +kernel
theorem dX6_lampsOfType_23 : decode cX6_lampsOfType 23 = .ok (.iaload, 1) := by decide +kernel
theorem dX6_lampsOfType_24 : decode cX6_lampsOfType 24 = .ok (.iload_n 1, 1) := by decide +kernel
theorem dX6_lampsOfType_25 : decode cX6_lampsOfType 25 = .ok (.if_icmp .ne 6, 3) := by decide +kernel
theorem dX6_lampsOfType_28 : decode cX6_lampsOfType 28 = .ok (.iinc 2 1, 3) := by decide +kernel
theorem dX6_lampsOfType_31 : decode cX6_lampsOfType 31 = .ok (.iinc 3 1, 3) := by decide +kernel
theorem dX6_lampsOfType_34 : decode cX6_lampsOfType 34 = .ok (.goto (-30), 3) := by decide +kernel
theorem dX6_lampsOfType_37 : decode cX6_lampsOfType 37 = .ok (.iload_n 2, 1) := by decide +kernel
theorem dX6_lampsOfType_38 : decode cX6_lampsOfType 38 = .ok (.ireturn, 1) := by decide +kernel
theorem dX6_lampsOn_0 : decode cX6_lampsOn 0 = .ok (.iconst 0, 1) := by decide +kernel
theorem dX6_lampsOn_1 : decode cX6_lampsOn 1 = .ok (.istore_n 2, 1) := by decide +kernel
theorem dX6_lampsOn_2 : decode cX6_lampsOn 2 = .ok (.iconst 0, 1) := by decide +kernel
theorem dX6_lampsOn_3 : decode cX6_lampsOn 3 = .ok (.istore_n 3, 1) := by decide +kernel
theorem dX6_lampsOn_4 : decode cX6_lampsOn 4 = .ok (.iload_n 3, 1) := by decide +kernel
theorem dX6_lampsOn_5 : decode cX6_lampsOn 5 = .ok (.bipush 12, 2) := by decide +kernel
theorem dX6_lampsOn_7 : decode cX6_lampsOn 7 = .ok (.if_icmp .ge 30, 3) := by decide +kernel
theorem dX6_lampsOn_10 : decode cX6_lampsOn 10 = .ok (.aload_n 0, 1) := by decide +kernel
theorem dX6_lampsOn_11 : decode cX6_lampsOn 11 = .ok (.iload_n 3, 1) := by decide +kernel
theorem dX6_lampsOn_12 : decode cX6_lampsOn 12 = .ok (.invokevirtual 83, 3) := by decide +kernel
theorem dX6_lampsOn_15 : decode cX6_lampsOn 15 = .ok (.ifCond .eq 22, 3) := by decide +kernel
theorem dX6_lampsOn_18 : decode cX6_lampsOn 18 = .ok (.aload_n 0, 1) := by decide +kernel
theorem dX6_lampsOn_19 : decode cX6_lampsOn 19 = .ok (.getfield 15, 3) := by decide +kernel
theorem dX6_lampsOn_22 : decode cX6_lampsOn 22 = .ok (.iload_n 3, 1) := by decide +kernel
theorem dX6_lampsOn_23 : decode cX6_lampsOn 23 = .ok (.iaload, 1) := by decide +kernel
theorem dX6_lampsOn_24 : decode cX6_lampsOn 24 = .ok (.iload_n 1, 1) := by decide +kernel
theorem dX6_lampsOn_25 : decode cX6_lampsOn 25 = .ok (.if_icmp .ne 6, 3) := by decide +kernel
theorem dX6_lampsOn_28 : decode cX6_lampsOn 28 = .ok (.iinc 2 1, 3) := by decide +kernel
theorem dX6_lampsOn_31 : decode cX6_lampsOn 31 = .ok (.iinc 3 1, 3) := by decide +kernel
theorem dX6_lampsOn_34 : decode cX6_lampsOn 34 = .ok (.goto (-30), 3) := by decide +kernel
theorem dX6_lampsOn_37 : decode cX6_lampsOn 37 = .ok (.iload_n 2, 1) := by decide +kernel
theorem dX6_lampsOn_38 : decode cX6_lampsOn 38 = .ok (.ireturn, 1) := by decide +kernel
theorem dX6_dimmersOn_0 : decode cX6_dimmersOn 0 = .ok (.iconst 0, 1) := by decide +kernel
theorem dX6_dimmersOn_1 : decode cX6_dimmersOn 1 = .ok (.istore_n 2, 1) := by decide +kernel
theorem dX6_dimmersOn_2 : decode cX6_dimmersOn 2 = .ok (.iconst 0, 1) := by decide +kernel
theorem dX6_dimmersOn_3 : decode cX6_dimmersOn 3 = .ok (.istore_n 3, 1) := by decide +kernel
theorem dX6_dimmersOn_4 : decode cX6_dimmersOn 4 = .ok (.iload_n 3, 1) := by decide +kernel
theorem dX6_dimmersOn_5 : decode cX6_dimmersOn 5 = .ok (.bipush 12, 2) := by decide +kernel
theorem dX6_dimmersOn_7 : decode cX6_dimmersOn 7 = .ok (.if_icmp .ge 25, 3) := by decide +kernel
theorem dX6_dimmersOn_10 : decode cX6_dimmersOn 10 = .ok (.aload_n 0, 1) := by decide +kernel
theorem dX6_dimmersOn_11 : decode cX6_dimmersOn 11 = .ok (.getfield 24, 3) := by decide +kernel
theorem dX6_dimmersOn_14 : decode cX6_dimmersOn 14 = .ok (.iload_n 3, 1) := by decide +kernel
theorem dX6_dimmersOn_15 : decode cX6_dimmersOn 15 = .ok (.iaload, 1) := by decide +kernel
theorem dX6_dimmersOn_16 : decode cX6_dimmersOn 16 = .ok (.iload_n 1, 1) := by decide +kernel
theorem dX6_dimmersOn_17 : decode cX6_dimmersOn 17 = .ok (.if_icmp .ne 9, 3) := by decide +kernel
theorem dX6_dimmersOn_20 : decode cX6_dimmersOn 20 = .ok (.iload_n 2, 1) := by decide +kernel
theorem dX6_dimmersOn_21 : decode cX6_dimmersOn 21 = .ok (.iconst 1, 1) := by decide +kernel
theorem dX6_dimmersOn_22 : decode cX6_dimmersOn 22 = .ok (.iload_n 3, 1) := by decide +kernel
theorem dX6_dimmersOn_23 : decode cX6_dimmersOn 23 = .ok (.ishl, 1) := by decide +kernel
theorem dX6_dimmersOn_24 : decode cX6_dimmersOn 24 = .ok (.ior, 1) := by decide +kernel
theorem dX6_dimmersOn_25 : decode cX6_dimmersOn 25 = .ok (.istore_n 2, 1) := by decide +kernel
theorem dX6_dimmersOn_26 : decode cX6_dimmersOn 26 = .ok (.iinc 3 1, 3) := by decide +kernel
theorem dX6_dimmersOn_29 : decode cX6_dimmersOn 29 = .ok (.goto (-25), 3) := by decide +kernel
theorem dX6_dimmersOn_32 : decode cX6_dimmersOn 32 = .ok (.iload_n 2, 1) := by decide +kernel
theorem dX6_dimmersOn_33 : decode cX6_dimmersOn 33 = .ok (.ireturn, 1) := by decide +kernel
theorem dX6_isRecorded_0 : decode cX6_isRecorded 0 = .ok (.iload_n 1, 1) := by decide +kernel
theorem dX6_isRecorded_1 : decode cX6_isRecorded 1 = .ok (.invokestatic 95, 3) := by decide +kernel
theorem dX6_isRecorded_4 : decode cX6_isRecorded 4 = .ok (.ifCond .eq 16, 3) := by decide +kernel
theorem dX6_isRecorded_7 : decode cX6_isRecorded 7 = .ok (.aload_n 0, 1) := by decide +kernel
theorem dX6_isRecorded_8 : decode cX6_isRecorded 8 = .ok (.getfield 27, 3) := by decide +kernel
theorem dX6_isRecorded_11 : decode cX6_isRecorded 11 = .ok (.iload_n 1, 1) := by decide +kernel
theorem dX6_isRecorded_12 : decode cX6_isRecorded 12 = .ok (.iaload, 1) := by decide +kernel
theorem dX6_isRecorded_13 : decode cX6_isRecorded 13 = .ok (.ifCond .le 7, 3) := by decide +kernel
theorem dX6_isRecorded_16 : decode cX6_isRecorded 16 = .ok (.iconst 1, 1) := by decide +kernel
theorem dX6_isRecorded_17 : decode cX6_isRecorded 17 = .ok (.goto 4, 3) := by decide +kernel
theorem dX6_isRecorded_20 : decode cX6_isRecorded 20 = .ok (.iconst 0, 1) := by decide +kernel
theorem dX6_isRecorded_21 : decode cX6_isRecorded 21 = .ok (.ireturn, 1) := by decide +kernel
theorem dX6_recordedCues_0 : decode cX6_recordedCues 0 = .ok (.iconst 0, 1) := by decide +kernel
theorem dX6_recordedCues_1 : decode cX6_recordedCues 1 = .ok (.istore_n 1, 1) := by decide +kernel
theorem dX6_recordedCues_2 : decode cX6_recordedCues 2 = .ok (.iconst 0, 1) := by decide +kernel
theorem dX6_recordedCues_3 : decode cX6_recordedCues 3 = .ok (.istore_n 2, 1) := by decide +kernel
theorem dX6_recordedCues_4 : decode cX6_recordedCues 4 = .ok (.iload_n 2, 1) := by decide +kernel
theorem dX6_recordedCues_5 : decode cX6_recordedCues 5 = .ok (.bipush 8, 2) := by decide +kernel
theorem dX6_recordedCues_7 : decode cX6_recordedCues 7 = .ok (.if_icmp .ge 23, 3) := by decide +kernel
theorem dX6_recordedCues_10 : decode cX6_recordedCues 10 = .ok (.aload_n 0, 1) := by decide +kernel
theorem dX6_recordedCues_11 : decode cX6_recordedCues 11 = .ok (.iload_n 2, 1) := by decide +kernel
theorem dX6_recordedCues_12 : decode cX6_recordedCues 12 = .ok (.invokevirtual 98, 3) := by decide +kernel
theorem dX6_recordedCues_15 : decode cX6_recordedCues 15 = .ok (.ifCond .eq 9, 3) := by decide +kernel
theorem dX6_recordedCues_18 : decode cX6_recordedCues 18 = .ok (.iload_n 1, 1) := by decide +kernel
theorem dX6_recordedCues_19 : decode cX6_recordedCues 19 = .ok (.iconst 1, 1) := by decide +kernel
theorem dX6_recordedCues_20 : decode cX6_recordedCues 20 = .ok (.iload_n 2, 1) := by decide +kernel
theorem dX6_recordedCues_21 : decode cX6_recordedCues 21 = .ok (.ishl, 1) := by decide +kernel
theorem dX6_recordedCues_22 : decode cX6_recordedCues 22 = .ok (.ior, 1) := by decide +kernel
theorem dX6_recordedCues_23 : decode cX6_recordedCues 23 = .ok (.istore_n 1, 1) := by decide +kernel
theorem dX6_recordedCues_24 : decode cX6_recordedCues 24 = .ok (.iinc 2 1, 3) := by decide +kernel
theorem dX6_recordedCues_27 : decode cX6_recordedCues 27 = .ok (.goto (-23), 3) := by decide +kernel
theorem dX6_recordedCues_30 : decode cX6_recordedCues 30 = .ok (.iload_n 1, 1) := by decide +kernel
theorem dX6_recordedCues_31 : decode cX6_recordedCues 31 = .ok (.ireturn, 1) := by decide +kernel
theorem dX6_recordCue_0 : decode cX6_recordCue 0 = .ok (.iload_n 1, 1) := by decide +kernel
theorem dX6_recordCue_1 : decode cX6_recordCue 1 = .ok (.invokestatic 95, 3) := by decide +kernel
theorem dX6_recordCue_4 : decode cX6_recordCue 4 = .ok (.ifCond .eq 23, 3) := by decide +kernel
theorem dX6_recordCue_7 : decode cX6_recordCue 7 = .ok (.aload_n 0, 1) := by decide +kernel
theorem dX6_recordCue_8 : decode cX6_recordCue 8 = .ok (.getfield 27, 3) := by decide +kernel
theorem dX6_recordCue_11 : decode cX6_recordCue 11 = .ok (.iload_n 1, 1) := by decide +kernel
theorem dX6_recordCue_12 : decode cX6_recordCue 12 = .ok (.iload_n 2, 1) := by decide +kernel
theorem dX6_recordCue_13 : decode cX6_recordCue 13 = .ok (.iastore, 1) := by decide +kernel
theorem dX6_recordCue_14 : decode cX6_recordCue 14 = .ok (.aload_n 0, 1) := by decide +kernel
theorem dX6_recordCue_15 : decode cX6_recordCue 15 = .ok (.getfield 18, 3) := by decide +kernel
theorem dX6_recordCue_18 : decode cX6_recordCue 18 = .ok (.aload_n 0, 1) := by decide +kernel
theorem dX6_recordCue_19 : decode cX6_recordCue 19 = .ok (.getfield 32, 3) := by decide +kernel
theorem dX6_recordCue_22 : decode cX6_recordCue 22 = .ok (.iload_n 1, 1) := by decide +kernel
theorem dX6_recordCue_23 : decode cX6_recordCue 23 = .ok (.aaload, 1) := by decide +kernel
theorem dX6_recordCue_24 : decode cX6_recordCue 24 = .ok (.invokestatic 64, 3) := by decide +kernel
theorem dX6_recordCue_27 : decode cX6_recordCue 27 = .ok (.return_, 1) := by decide +kernel
theorem dX6_startCue_0 : decode cX6_startCue 0 = .ok (.iload_n 1, 1) := by decide +kernel
theorem dX6_startCue_1 : decode cX6_startCue 1 = .ok (.invokestatic 95, 3) := by decide +kernel
theorem dX6_startCue_4 : decode cX6_startCue 4 = .ok (.ifCond .eq 21, 3) := by decide +kernel
theorem dX6_startCue_7 : decode cX6_startCue 7 = .ok (.aload_n 0, 1) := by decide +kernel
theorem dX6_startCue_8 : decode cX6_startCue 8 = .ok (.getfield 38, 3) := by decide +kernel
theorem dX6_startCue_11 : decode cX6_startCue 11 = .ok (.aload_n 0, 1) := by decide +kernel
theorem dX6_startCue_12 : decode cX6_startCue 12 = .ok (.getfield 21, 3) := by decide +kernel
theorem dX6_startCue_15 : decode cX6_startCue 15 = .ok (.aload_n 0, 1) := by decide +kernel
theorem dX6_startCue_16 : decode cX6_startCue 16 = .ok (.getfield 32, 3) := by decide +kernel
theorem dX6_startCue_19 : decode cX6_startCue 19 = .ok (.iload_n 1, 1) := by decide +kernel
theorem dX6_startCue_20 : decode cX6_startCue 20 = .ok (.aaload, 1) := by decide +kernel
theorem dX6_startCue_21 : decode cX6_startCue 21 = .ok (.iload_n 2, 1) := by decide +kernel
theorem dX6_startCue_22 : decode cX6_startCue 22 = .ok (.invokevirtual 101, 3) := by decide +kernel
theorem dX6_startCue_25 : decode cX6_startCue 25 = .ok (.return_, 1) := by decide +kernel
theorem dX6_clearTrips_0 : decode cX6_clearTrips 0 = .ok (.aload_n 0, 1) := by decide +kernel
theorem dX6_clearTrips_1 : decode cX6_clearTrips 1 = .ok (.getfield 47, 3) := by decide +kernel
theorem dX6_clearTrips_4 : decode cX6_clearTrips 4 = .ok (.invokevirtual 105, 3) := by decide +kernel
theorem dX6_clearTrips_7 : decode cX6_clearTrips 7 = .ok (.aload_n 0, 1) := by decide +kernel
theorem dX6_clearTrips_8 : decode cX6_clearTrips 8 = .ok (.getfield 51, 3) := by decide +kernel
theorem dX6_clearTrips_11 : decode cX6_clearTrips 11 = .ok (.invokevirtual 105, 3) := by decide +kernel
theorem dX6_clearTrips_14 : decode cX6_clearTrips 14 = .ok (.iadd, 1) := by decide +kernel
theorem dX6_clearTrips_15 : decode cX6_clearTrips 15 = .ok (.ireturn, 1) := by decide +kernel
theorem dX6_passTick_0 : decode cX6_passTick 0 = .ok (.aload_n 1, 1) := by decide +kernel
theorem dX6_passTick_1 : decode cX6_passTick 1 = .ok (.getfield 109, 3) := by decide +kernel
theorem dX6_passTick_4 : decode cX6_passTick 4 = .ok (.iconst 2, 1) := by decide +kernel
theorem dX6_passTick_5 : decode cX6_passTick 5 = .ok (.iaload, 1) := by decide +kernel
theorem dX6_passTick_6 : decode cX6_passTick 6 = .ok (.istore_n 3, 1) := by decide +kernel
theorem dX6_passTick_7 : decode cX6_passTick 7 = .ok (.aload_n 0, 1) := by decide +kernel
theorem dX6_passTick_8 : decode cX6_passTick 8 = .ok (.getfield 38, 3) := by decide +kernel
theorem dX6_passTick_11 : decode cX6_passTick 11 = .ok (.aload_n 0, 1) := by decide +kernel
theorem dX6_passTick_12 : decode cX6_passTick 12 = .ok (.getfield 21, 3) := by decide +kernel
theorem dX6_passTick_15 : decode cX6_passTick 15 = .ok (.invokevirtual 114, 3) := by decide +kernel
theorem dX6_passTick_18 : decode cX6_passTick 18 = .ok (.aload_n 2, 1) := by decide +kernel
theorem dX6_passTick_19 : decode cX6_passTick 19 = .ok (.aload_n 0, 1) := by decide +kernel
theorem dX6_passTick_20 : decode cX6_passTick 20 = .ok (.aload_n 1, 1) := by decide +kernel
theorem dX6_passTick_21 : decode cX6_passTick 21 = .ok (.getfield 117, 3) := by decide +kernel
theorem dX6_passTick_24 : decode cX6_passTick 24 = .ok (.invokevirtual 121, 3) := by decide +kernel
theorem dX6_passTick_27 : decode cX6_passTick 27 = .ok (.aload_n 0, 1) := by decide +kernel
theorem dX6_passTick_28 : decode cX6_passTick 28 = .ok (.getfield 47, 3) := by decide +kernel
theorem dX6_passTick_31 : decode cX6_passTick 31 = .ok (.aload_n 2, 1) := by decide +kernel
theorem dX6_passTick_32 : decode cX6_passTick 32 = .ok (.getfield 127, 3) := by decide +kernel
theorem dX6_passTick_35 : decode cX6_passTick 35 = .ok (.aload_n 1, 1) := by decide +kernel
theorem dX6_passTick_36 : decode cX6_passTick 36 = .ok (.getfield 109, 3) := by decide +kernel
theorem dX6_passTick_39 : decode cX6_passTick 39 = .ok (.iconst 0, 1) := by decide +kernel
theorem dX6_passTick_40 : decode cX6_passTick 40 = .ok (.iaload, 1) := by decide +kernel
theorem dX6_passTick_41 : decode cX6_passTick 41 = .ok (.iload_n 3, 1) := by decide +kernel
theorem dX6_passTick_42 : decode cX6_passTick 42 = .ok (.invokevirtual 130, 3) := by decide +kernel
theorem dX6_passTick_45 : decode cX6_passTick 45 = .ok (.istore 4, 2) := by decide +kernel
theorem dX6_passTick_47 : decode cX6_passTick 47 = .ok (.iload 4, 2) := by decide +kernel
theorem dX6_passTick_49 : decode cX6_passTick 49 = .ok (.ifCond .le 12, 3) := by decide +kernel
theorem dX6_passTick_52 : decode cX6_passTick 52 = .ok (.aload_n 2, 1) := by decide +kernel
theorem dX6_passTick_53 : decode cX6_passTick 53 = .ok (.aload_n 0, 1) := by decide +kernel
theorem dX6_passTick_54 : decode cX6_passTick 54 = .ok (.aload_n 1, 1) := by decide +kernel
theorem dX6_passTick_55 : decode cX6_passTick 55 = .ok (.getfield 117, 3) := by decide +kernel
theorem dX6_passTick_58 : decode cX6_passTick 58 = .ok (.invokevirtual 121, 3) := by decide +kernel
theorem dX6_passTick_61 : decode cX6_passTick 61 = .ok (.aload_n 0, 1) := by decide +kernel
theorem dX6_passTick_62 : decode cX6_passTick 62 = .ok (.getfield 51, 3) := by decide +kernel
theorem dX6_passTick_65 : decode cX6_passTick 65 = .ok (.aload_n 2, 1) := by decide +kernel
theorem dX6_passTick_66 : decode cX6_passTick 66 = .ok (.getfield 134, 3) := by decide +kernel
theorem dX6_passTick_69 : decode cX6_passTick 69 = .ok (.aload_n 1, 1) := by decide +kernel
theorem dX6_passTick_70 : decode cX6_passTick 70 = .ok (.getfield 109, 3) := by decide +kernel
theorem dX6_passTick_73 : decode cX6_passTick 73 = .ok (.iconst 1, 1) := by decide +kernel
theorem dX6_passTick_74 : decode cX6_passTick 74 = .ok (.iaload, 1) := by decide +kernel
theorem dX6_passTick_75 : decode cX6_passTick 75 = .ok (.iload_n 3, 1) := by decide +kernel
theorem dX6_passTick_76 : decode cX6_passTick 76 = .ok (.invokevirtual 130, 3) := by decide +kernel
theorem dX6_passTick_79 : decode cX6_passTick 79 = .ok (.istore 5, 2) := by decide +kernel
theorem dX6_passTick_81 : decode cX6_passTick 81 = .ok (.iload 5, 2) := by decide +kernel
theorem dX6_passTick_83 : decode cX6_passTick 83 = .ok (.ifCond .le 12, 3) := by decide +kernel
theorem dX6_passTick_86 : decode cX6_passTick 86 = .ok (.aload_n 2, 1) := by decide +kernel
theorem dX6_passTick_87 : decode cX6_passTick 87 = .ok (.aload_n 0, 1) := by decide +kernel
theorem dX6_passTick_88 : decode cX6_passTick 88 = .ok (.aload_n 1, 1) := by decide +kernel
theorem dX6_passTick_89 : decode cX6_passTick 89 = .ok (.getfield 117, 3) := by decide +kernel
theorem dX6_passTick_92 : decode cX6_passTick 92 = .ok (.invokevirtual 121, 3) := by decide +kernel
theorem dX6_passTick_95 : decode cX6_passTick 95 = .ok (.iload 4, 2) := by decide +kernel
theorem dX6_passTick_97 : decode cX6_passTick 97 = .ok (.iload 5, 2) := by decide +kernel
theorem dX6_passTick_99 : decode cX6_passTick 99 = .ok (.iadd, 1) := by decide +kernel
theorem dX6_passTick_100 : decode cX6_passTick 100 = .ok (.ireturn, 1) := by decide +kernel
theorem dX6_loadOfLamp_0 : decode cX6_loadOfLamp 0 = .ok (.aload_n 0, 1) := by decide +kernel
theorem dX6_loadOfLamp_1 : decode cX6_loadOfLamp 1 = .ok (.iload_n 1, 1) := by decide +kernel
theorem dX6_loadOfLamp_2 : decode cX6_loadOfLamp 2 = .ok (.invokevirtual 137, 3) := by decide +kernel
theorem dX6_loadOfLamp_5 : decode cX6_loadOfLamp 5 = .ok (.ifCond .eq 16, 3) := by decide +kernel
theorem dX6_loadOfLamp_8 : decode cX6_loadOfLamp 8 = .ok (.aload_n 0, 1) := by decide +kernel
theorem dX6_loadOfLamp_9 : decode cX6_loadOfLamp 9 = .ok (.iload_n 1, 1) := by decide +kernel
theorem dX6_loadOfLamp_10 : decode cX6_loadOfLamp 10 = .ok (.aload_n 0, 1) := by decide +kernel
theorem dX6_loadOfLamp_11 : decode cX6_loadOfLamp 11 = .ok (.getfield 21, 3) := by decide +kernel
theorem dX6_loadOfLamp_14 : decode cX6_loadOfLamp 14 = .ok (.aload_n 2, 1) := by decide +kernel
theorem dX6_loadOfLamp_15 : decode cX6_loadOfLamp 15 = .ok (.invokevirtual 140, 3) := by decide +kernel
theorem dX6_loadOfLamp_18 : decode cX6_loadOfLamp 18 = .ok (.goto 4, 3) := by decide +kernel
theorem dX6_loadOfLamp_21 : decode cX6_loadOfLamp 21 = .ok (.iconst 0, 1) := by decide +kernel
theorem dX6_loadOfLamp_22 : decode cX6_loadOfLamp 22 = .ok (.ireturn, 1) := by decide +kernel
theorem dX6_draw_0 : decode cX6_draw 0 = .ok (.aload_n 0, 1) := by decide +kernel
theorem dX6_draw_1 : decode cX6_draw 1 = .ok (.iload_n 1, 1) := by decide +kernel
theorem dX6_draw_2 : decode cX6_draw 2 = .ok (.invokevirtual 83, 3) := by decide +kernel
theorem dX6_draw_5 : decode cX6_draw 5 = .ok (.ifCond .eq 9, 3) := by decide +kernel
theorem dX6_draw_8 : decode cX6_draw 8 = .ok (.iload_n 1, 1) := by decide +kernel
theorem dX6_draw_9 : decode cX6_draw 9 = .ok (.aload_n 2, 1) := by decide +kernel
theorem dX6_draw_10 : decode cX6_draw 10 = .ok (.arraylength, 1) := by decide +kernel
theorem dX6_draw_11 : decode cX6_draw 11 = .ok (.if_icmp .lt 5, 3) := by decide +kernel
theorem dX6_draw_14 : decode cX6_draw 14 = .ok (.iconst 0, 1) := by decide +kernel
theorem dX6_draw_15 : decode cX6_draw 15 = .ok (.ireturn, 1) := by decide +kernel
theorem dX6_draw_16 : decode cX6_draw 16 = .ok (.aload_n 3, 1) := by decide +kernel
theorem dX6_draw_17 : decode cX6_draw 17 = .ok (.aload_n 0, 1) := by decide +kernel
theorem dX6_draw_18 : decode cX6_draw 18 = .ok (.getfield 9, 3) := by decide +kernel
theorem dX6_draw_21 : decode cX6_draw 21 = .ok (.iload_n 1, 1) := by decide +kernel
theorem dX6_draw_22 : decode cX6_draw 22 = .ok (.iaload, 1) := by decide +kernel
theorem dX6_draw_23 : decode cX6_draw 23 = .ok (.invokevirtual 144, 3) := by decide +kernel
theorem dX6_draw_26 : decode cX6_draw 26 = .ok (.aload_n 2, 1) := by decide +kernel
theorem dX6_draw_27 : decode cX6_draw 27 = .ok (.iload_n 1, 1) := by decide +kernel
theorem dX6_draw_28 : decode cX6_draw 28 = .ok (.iaload, 1) := by decide +kernel
theorem dX6_draw_29 : decode cX6_draw 29 = .ok (.imul, 1) := by decide +kernel
theorem dX6_draw_30 : decode cX6_draw 30 = .ok (.bipush 100, 2) := by decide +kernel
theorem dX6_draw_32 : decode cX6_draw 32 = .ok (.idiv, 1) := by decide +kernel
theorem dX6_draw_33 : decode cX6_draw 33 = .ok (.ireturn, 1) := by decide +kernel
theorem dX6_dimmerOf_0 : decode cX6_dimmerOf 0 = .ok (.iload_n 1, 1) := by decide +kernel
theorem dX6_dimmerOf_1 : decode cX6_dimmerOf 1 = .ok (.ifCond .lt 21, 3) := by decide +kernel
theorem dX6_dimmerOf_4 : decode cX6_dimmerOf 4 = .ok (.iload_n 1, 1) := by decide +kernel
theorem dX6_dimmerOf_5 : decode cX6_dimmerOf 5 = .ok (.aload_n 0, 1) := by decide +kernel
theorem dX6_dimmerOf_6 : decode cX6_dimmerOf 6 = .ok (.getfield 15, 3) := by decide +kernel
theorem dX6_dimmerOf_9 : decode cX6_dimmerOf 9 = .ok (.arraylength, 1) := by decide +kernel
theorem dX6_dimmerOf_10 : decode cX6_dimmerOf 10 = .ok (.if_icmp .ge 12, 3) := by decide +kernel
theorem dX6_dimmerOf_13 : decode cX6_dimmerOf 13 = .ok (.aload_n 0, 1) := by decide +kernel
theorem dX6_dimmerOf_14 : decode cX6_dimmerOf 14 = .ok (.getfield 15, 3) := by decide +kernel
theorem dX6_dimmerOf_17 : decode cX6_dimmerOf 17 = .ok (.iload_n 1, 1) := by decide +kernel
theorem dX6_dimmerOf_18 : decode cX6_dimmerOf 18 = .ok (.iaload, 1) := by decide +kernel
theorem dX6_dimmerOf_19 : decode cX6_dimmerOf 19 = .ok (.goto 5, 3) := by decide +kernel
theorem dX6_dimmerOf_22 : decode cX6_dimmerOf 22 = .ok (.bipush (-6), 2) := by decide +kernel
theorem dX6_dimmerOf_24 : decode cX6_dimmerOf 24 = .ok (.ireturn, 1) := by decide +kernel
theorem dX6_phaseOf_0 : decode cX6_phaseOf 0 = .ok (.iload_n 1, 1) := by decide +kernel
theorem dX6_phaseOf_1 : decode cX6_phaseOf 1 = .ok (.ifCond .lt 21, 3) := by decide +kernel
theorem dX6_phaseOf_4 : decode cX6_phaseOf 4 = .ok (.iload_n 1, 1) := by decide +kernel
theorem dX6_phaseOf_5 : decode cX6_phaseOf 5 = .ok (.aload_n 0, 1) := by decide +kernel
theorem dX6_phaseOf_6 : decode cX6_phaseOf 6 = .ok (.getfield 24, 3) := by decide +kernel
theorem dX6_phaseOf_9 : decode cX6_phaseOf 9 = .ok (.arraylength, 1) := by decide +kernel
theorem dX6_phaseOf_10 : decode cX6_phaseOf 10 = .ok (.if_icmp .ge 12, 3) := by decide +kernel
theorem dX6_phaseOf_13 : decode cX6_phaseOf 13 = .ok (.aload_n 0, 1) := by decide +kernel
theorem dX6_phaseOf_14 : decode cX6_phaseOf 14 = .ok (.getfield 24, 3) := by decide +kernel
theorem dX6_phaseOf_17 : decode cX6_phaseOf 17 = .ok (.iload_n 1, 1) := by decide +kernel
theorem dX6_phaseOf_18 : decode cX6_phaseOf 18 = .ok (.iaload, 1) := by decide +kernel
theorem dX6_phaseOf_19 : decode cX6_phaseOf 19 = .ok (.goto 5, 3) := by decide +kernel
theorem dX6_phaseOf_22 : decode cX6_phaseOf 22 = .ok (.bipush (-6), 2) := by decide +kernel
theorem dX6_phaseOf_24 : decode cX6_phaseOf 24 = .ok (.ireturn, 1) := by decide +kernel
theorem dX6_isFed_0 : decode cX6_isFed 0 = .ok (.aload_n 0, 1) := by decide +kernel
theorem dX6_isFed_1 : decode cX6_isFed 1 = .ok (.iload_n 1, 1) := by decide +kernel
theorem dX6_isFed_2 : decode cX6_isFed 2 = .ok (.invokevirtual 150, 3) := by decide +kernel
theorem dX6_isFed_5 : decode cX6_isFed 5 = .ok (.istore_n 2, 1) := by decide +kernel
theorem dX6_isFed_6 : decode cX6_isFed 6 = .ok (.iload_n 2, 1) := by decide +kernel
theorem dX6_isFed_7 : decode cX6_isFed 7 = .ok (.bipush (-6), 2) := by decide +kernel
theorem dX6_isFed_9 : decode cX6_isFed 9 = .ok (.if_icmp .eq 33, 3) := by decide +kernel
theorem dX6_isFed_12 : decode cX6_isFed 12 = .ok (.aload_n 0, 1) := by decide +kernel
theorem dX6_isFed_13 : decode cX6_isFed 13 = .ok (.getfield 47, 3) := by decide +kernel
theorem dX6_isFed_16 : decode cX6_isFed 16 = .ok (.iload_n 2, 1) := by decide +kernel
theorem dX6_isFed_17 : decode cX6_isFed 17 = .ok (.invokevirtual 153, 3) := by decide +kernel
theorem dX6_isFed_20 : decode cX6_isFed 20 = .ok (.ifCond .ne 22, 3) := by decide +kernel
theorem dX6_isFed_23 : decode cX6_isFed 23 = .ok (.aload_n 0, 1) := by decide +kernel
theorem dX6_isFed_24 : decode cX6_isFed 24 = .ok (.getfield 51, 3) := by decide +kernel
theorem dX6_isFed_27 : decode cX6_isFed 27 = .ok (.aload_n 0, 1) := by decide +kernel
theorem dX6_isFed_28 : decode cX6_isFed 28 = .ok (.iload_n 2, 1) := by decide +kernel
theorem dX6_isFed_29 : decode cX6_isFed 29 = .ok (.invokevirtual 156, 3) := by decide +kernel
theorem dX6_isFed_32 : decode cX6_isFed 32 = .ok (.invokevirtual 153, 3) := by decide +kernel
theorem dX6_isFed_35 : decode cX6_isFed 35 = .ok (.ifCond .ne 7, 3) := by decide +kernel
theorem dX6_isFed_38 : decode cX6_isFed 38 = .ok (.iconst 1, 1) := by decide +kernel
theorem dX6_isFed_39 : decode cX6_isFed 39 = .ok (.goto 4, 3) := by decide +kernel
theorem dX6_isFed_42 : decode cX6_isFed 42 = .ok (.iconst 0, 1) := by decide +kernel
theorem dX6_isFed_43 : decode cX6_isFed 43 = .ok (.ireturn, 1) := by decide +kernel
theorem dX6_spreadDimmers_0 : decode cX6_spreadDimmers 0 = .ok (.iconst 0, 1) := by decide +kernel
theorem dX6_spreadDimmers_1 : decode cX6_spreadDimmers 1 = .ok (.istore_n 3, 1) := by decide +kernel
theorem dX6_spreadDimmers_2 : decode cX6_spreadDimmers 2 = .ok (.iconst 0, 1) := by decide +kernel
theorem dX6_spreadDimmers_3 : decode cX6_spreadDimmers 3 = .ok (.istore 4, 2) := by decide +kernel
theorem dX6_spreadDimmers_5 : decode cX6_spreadDimmers 5 = .ok (.aload_n 2, 1) := by decide +kernel
theorem dX6_spreadDimmers_6 : decode cX6_spreadDimmers 6 = .ok (.invokestatic 159, 3) := by decide +kernel
theorem dX6_spreadDimmers_9 : decode cX6_spreadDimmers 9 = .ok (.iconst 0, 1) := by decide +kernel
theorem dX6_spreadDimmers_10 : decode cX6_spreadDimmers 10 = .ok (.istore 5, 2) := by decide +kernel
theorem dX6_spreadDimmers_12 : decode cX6_spreadDimmers 12 = .ok (.iload 5, 2) := by decide +kernel
theorem dX6_spreadDimmers_14 : decode cX6_spreadDimmers 14 = .ok (.bipush 12, 2) := by decide +kernel
theorem dX6_spreadDimmers_16 : decode cX6_spreadDimmers 16 = .ok (.if_icmp .ge 64, 3) := by decide +kernel
theorem dX6_spreadDimmers_19 : decode cX6_spreadDimmers 19 = .ok (.aload_n 1, 1) := by decide +kernel
theorem dX6_spreadDimmers_20 : decode cX6_spreadDimmers 20 = .ok (.iload_n 3, 1) := by decide +kernel
theorem dX6_spreadDimmers_21 : decode cX6_spreadDimmers 21 = .ok (.invokestatic 162, 3) := by decide +kernel
theorem dX6_spreadDimmers_24 : decode cX6_spreadDimmers 24 = .ok (.istore 6, 2) := by decide +kernel
theorem dX6_spreadDimmers_26 : decode cX6_spreadDimmers 26 = .ok (.aload_n 2, 1) := by decide +kernel
theorem dX6_spreadDimmers_27 : decode cX6_spreadDimmers 27 = .ok (.invokestatic 166, 3) := by decide +kernel
theorem dX6_spreadDimmers_30 : decode cX6_spreadDimmers 30 = .ok (.istore 7, 2) := by decide +kernel
theorem dX6_spreadDimmers_32 : decode cX6_spreadDimmers 32 = .ok (.aload_n 0, 1) := by decide +kernel
theorem dX6_spreadDimmers_33 : decode cX6_spreadDimmers 33 = .ok (.getfield 24, 3) := by decide +kernel
theorem dX6_spreadDimmers_36 : decode cX6_spreadDimmers 36 = .ok (.iload 6, 2) := by decide +kernel
theorem dX6_spreadDimmers_38 : decode cX6_spreadDimmers 38 = .ok (.iaload, 1) := by decide +kernel
theorem dX6_spreadDimmers_39 : decode cX6_spreadDimmers 39 = .ok (.iload 7, 2) := by decide +kernel
theorem dX6_spreadDimmers_41 : decode cX6_spreadDimmers 41 = .ok (.if_icmp .eq 6, 3) := by decide +kernel
theorem dX6_spreadDimmers_44 : decode cX6_spreadDimmers 44 = .ok (.iinc 4 1, 3) := by decide +kernel
theorem dX6_spreadDimmers_47 : decode cX6_spreadDimmers 47 = .ok (.aload_n 0, 1) := by decide +kernel
theorem dX6_spreadDimmers_48 : decode cX6_spreadDimmers 48 = .ok (.getfield 24, 3) := by decide +kernel
theorem dX6_spreadDimmers_51 : decode cX6_spreadDimmers 51 = .ok (.iload 6, 2) := by decide +kernel
theorem dX6_spreadDimmers_53 : decode cX6_spreadDimmers 53 = .ok (.iload 7, 2) := by decide +kernel
theorem dX6_spreadDimmers_55 : decode cX6_spreadDimmers 55 = .ok (.iastore, 1) := by decide +kernel
theorem dX6_spreadDimmers_56 : decode cX6_spreadDimmers 56 = .ok (.aload_n 2, 1) := by decide +kernel
theorem dX6_spreadDimmers_57 : decode cX6_spreadDimmers 57 = .ok (.iload 7, 2) := by decide +kernel
theorem dX6_spreadDimmers_59 : decode cX6_spreadDimmers 59 = .ok (.dup2, 1) := by decide +kernel
theorem dX6_spreadDimmers_60 : decode cX6_spreadDimmers 60 = .ok (.iaload, 1) := by decide +kernel
theorem dX6_spreadDimmers_61 : decode cX6_spreadDimmers 61 = .ok (.aload_n 1, 1) := by decide +kernel
theorem dX6_spreadDimmers_62 : decode cX6_spreadDimmers 62 = .ok (.iload 6, 2) := by decide +kernel
theorem dX6_spreadDimmers_64 : decode cX6_spreadDimmers 64 = .ok (.iaload, 1) := by decide +kernel
theorem dX6_spreadDimmers_65 : decode cX6_spreadDimmers 65 = .ok (.iadd, 1) := by decide +kernel
theorem dX6_spreadDimmers_66 : decode cX6_spreadDimmers 66 = .ok (.iastore, 1) := by decide +kernel
theorem dX6_spreadDimmers_67 : decode cX6_spreadDimmers 67 = .ok (.iload_n 3, 1) := by decide +kernel
theorem dX6_spreadDimmers_68 : decode cX6_spreadDimmers 68 = .ok (.iconst 1, 1) := by decide +kernel
theorem dX6_spreadDimmers_69 : decode cX6_spreadDimmers 69 = .ok (.iload 6, 2) := by decide +kernel
theorem dX6_spreadDimmers_71 : decode cX6_spreadDimmers 71 = .ok (.ishl, 1) := by decide +kernel
theorem dX6_spreadDimmers_72 : decode cX6_spreadDimmers 72 = .ok (.ior, 1) := by decide +kernel
theorem dX6_spreadDimmers_73 : decode cX6_spreadDimmers 73 = .ok (.istore_n 3, 1) := by decide +kernel
theorem dX6_spreadDimmers_74 : decode cX6_spreadDimmers 74 = .ok (.iinc 5 1, 3) := by decide +kernel
theorem dX6_spreadDimmers_77 : decode cX6_spreadDimmers 77 = .ok (.goto (-65), 3) := by decide +kernel
theorem dX6_spreadDimmers_80 : decode cX6_spreadDimmers 80 = .ok (.iload 4, 2) := by decide +kernel
theorem dX6_spreadDimmers_82 : decode cX6_spreadDimmers 82 = .ok (.ireturn, 1) := by decide +kernel
theorem dX6_heaviestLeft_0 : decode cX6_heaviestLeft 0 = .ok (.iconst 0, 1) := by decide +kernel
theorem dX6_heaviestLeft_1 : decode cX6_heaviestLeft 1 = .ok (.istore_n 2, 1) := by decide +kernel
theorem dX6_heaviestLeft_2 : decode cX6_heaviestLeft 2 = .ok (.iconst (-1), 1) := by decide +kernel
theorem dX6_heaviestLeft_3 : decode cX6_heaviestLeft 3 = .ok (.istore_n 3, 1) := by decide +kernel
theorem dX6_heaviestLeft_4 : decode cX6_heaviestLeft 4 = .ok (.iconst 0, 1) := by decide +kernel
theorem dX6_heaviestLeft_5 : decode cX6_heaviestLeft 5 = .ok (.istore 4, 2) := by decide +kernel
theorem dX6_heaviestLeft_7 : decode cX6_heaviestLeft 7 = .ok (.iload 4, 2) := by decide +kernel
theorem dX6_heaviestLeft_9 : decode cX6_heaviestLeft 9 = .ok (.aload_n 0, 1) := by decide +kernel
theorem dX6_heaviestLeft_10 : decode cX6_heaviestLeft 10 = .ok (.arraylength, 1) := by decide +kernel
theorem dX6_heaviestLeft_11 : decode cX6_heaviestLeft 11 = .ok (.if_icmp .ge 34, 3) := by decide +kernel
theorem dX6_heaviestLeft_14 : decode cX6_heaviestLeft 14 = .ok (.iload_n 1, 1) := by decide +kernel
theorem dX6_heaviestLeft_15 : decode cX6_heaviestLeft 15 = .ok (.iload 4, 2) := by decide +kernel
theorem dX6_heaviestLeft_17 : decode cX6_heaviestLeft 17 = .ok (.invokestatic 170, 3) := by decide +kernel
theorem dX6_heaviestLeft_20 : decode cX6_heaviestLeft 20 = .ok (.ifCond .ne 19, 3) := by decide +kernel
theorem dX6_heaviestLeft_23 : decode cX6_heaviestLeft 23 = .ok (.aload_n 0, 1) := by decide +kernel
theorem dX6_heaviestLeft_24 : decode cX6_heaviestLeft 24 = .ok (.iload 4, 2) := by decide +kernel
theorem dX6_heaviestLeft_26 : decode cX6_heaviestLeft 26 = .ok (.iaload, 1) := by decide +kernel
theorem dX6_heaviestLeft_27 : decode cX6_heaviestLeft 27 = .ok (.iload_n 3, 1) := by decide +kernel
theorem dX6_heaviestLeft_28 : decode cX6_heaviestLeft 28 = .ok (.if_icmp .le 11, 3) := by decide +kernel
theorem dX6_heaviestLeft_31 : decode cX6_heaviestLeft 31 = .ok (.aload_n 0, 1) := by decide +kernel
theorem dX6_heaviestLeft_32 : decode cX6_heaviestLeft 32 = .ok (.iload 4, 2) := by decide +kernel
theorem dX6_heaviestLeft_34 : decode cX6_heaviestLeft 34 = .ok (.iaload, 1) := by decide +kernel
theorem dX6_heaviestLeft_35 : decode cX6_heaviestLeft 35 = .ok (.istore_n 3, 1) := by decide +kernel
theorem dX6_heaviestLeft_36 : decode cX6_heaviestLeft 36 = .ok (.iload 4, 2) := by decide +kernel
theorem dX6_heaviestLeft_38 : decode cX6_heaviestLeft 38 = .ok (.istore_n 2, 1) := by decide +kernel
theorem dX6_heaviestLeft_39 : decode cX6_heaviestLeft 39 = .ok (.iinc 4 1, 3) := by decide +kernel
theorem dX6_heaviestLeft_42 : decode cX6_heaviestLeft 42 = .ok (.goto (-35), 3) := by decide +kernel
theorem dX6_heaviestLeft_45 : decode cX6_heaviestLeft 45 = .ok (.iload_n 2, 1) := by decide +kernel
theorem dX6_heaviestLeft_46 : decode cX6_heaviestLeft 46 = .ok (.ireturn, 1) := by decide +kernel
theorem dX6_lightest_0 : decode cX6_lightest 0 = .ok (.iconst 0, 1) := by decide +kernel
theorem dX6_lightest_1 : decode cX6_lightest 1 = .ok (.istore_n 1, 1) := by decide +kernel
theorem dX6_lightest_2 : decode cX6_lightest 2 = .ok (.iconst 1, 1) := by decide +kernel
theorem dX6_lightest_3 : decode cX6_lightest 3 = .ok (.istore_n 2, 1) := by decide +kernel
theorem dX6_lightest_4 : decode cX6_lightest 4 = .ok (.iload_n 2, 1) := by decide +kernel
theorem dX6_lightest_5 : decode cX6_lightest 5 = .ok (.aload_n 0, 1) := by decide +kernel
theorem dX6_lightest_6 : decode cX6_lightest 6 = .ok (.arraylength, 1) := by decide +kernel
theorem dX6_lightest_7 : decode cX6_lightest 7 = .ok (.if_icmp .ge 20, 3) := by decide +kernel
theorem dX6_lightest_10 : decode cX6_lightest 10 = .ok (.aload_n 0, 1) := by decide +kernel
theorem dX6_lightest_11 : decode cX6_lightest 11 = .ok (.iload_n 2, 1) := by decide +kernel
theorem dX6_lightest_12 : decode cX6_lightest 12 = .ok (.iaload, 1) := by decide +kernel
theorem dX6_lightest_13 : decode cX6_lightest 13 = .ok (.aload_n 0, 1) := by decide +kernel
theorem dX6_lightest_14 : decode cX6_lightest 14 = .ok (.iload_n 1, 1) := by decide +kernel
theorem dX6_lightest_15 : decode cX6_lightest 15 = .ok (.iaload, 1) := by decide +kernel
theorem dX6_lightest_16 : decode cX6_lightest 16 = .ok (.if_icmp .ge 5, 3) := by decide +kernel
theorem dX6_lightest_19 : decode cX6_lightest 19 = .ok (.iload_n 2, 1) := by decide +kernel
theorem dX6_lightest_20 : decode cX6_lightest 20 = .ok (.istore_n 1, 1) := by decide +kernel
theorem dX6_lightest_21 : decode cX6_lightest 21 = .ok (.iinc 2 1, 3) := by decide +kernel
theorem dX6_lightest_24 : decode cX6_lightest 24 = .ok (.goto (-20), 3) := by decide +kernel
theorem dX6_lightest_27 : decode cX6_lightest 27 = .ok (.iload_n 1, 1) := by decide +kernel
theorem dX6_lightest_28 : decode cX6_lightest 28 = .ok (.ireturn, 1) := by decide +kernel
theorem dX7_init_0 : decode cX7_init 0 = .ok (.aload_n 0, 1) := by decide +kernel
theorem dX7_init_1 : decode cX7_init 1 = .ok (.invokespecial 3, 3) := by decide +kernel
theorem dX7_init_4 : decode cX7_init 4 = .ok (.aload_n 0, 1) := by decide +kernel
theorem dX7_init_5 : decode cX7_init 5 = .ok (.getstatic 9, 3) := by decide +kernel
theorem dX7_init_8 : decode cX7_init 8 = .ok (.invokevirtual 13, 3) := by decide +kernel
theorem dX7_init_11 : decode cX7_init 11 = .ok (.checkcast 14, 3) := by decide +kernel
theorem dX7_init_14 : decode cX7_init 14 = .ok (.putfield 18, 3) := by decide +kernel
theorem dX7_init_17 : decode cX7_init 17 = .ok (.aload_n 0, 1) := by decide +kernel
theorem dX7_init_18 : decode cX7_init 18 = .ok (.new 23, 3) := by decide +kernel
theorem dX7_init_21 : decode cX7_init 21 = .ok (.dup, 1) := by decide +kernel
theorem dX7_init_22 : decode cX7_init 22 = .ok (.invokespecial 25, 3) := by decide +kernel
theorem dX7_init_25 : decode cX7_init 25 = .ok (.putfield 26, 3) := by decide +kernel
theorem dX7_init_28 : decode cX7_init 28 = .ok (.aload_n 0, 1) := by decide +kernel
theorem dX7_init_29 : decode cX7_init 29 = .ok (.iconst 3, 1) := by decide +kernel
theorem dX7_init_30 : decode cX7_init 30 = .ok (.anewarray 30, 3) := by decide +kernel
theorem dX7_init_33 : decode cX7_init 33 = .ok (.putfield 32, 3) := by decide +kernel
theorem dX7_init_36 : decode cX7_init 36 = .ok (.iconst 0, 1) := by decide +kernel
theorem dX7_init_37 : decode cX7_init 37 = .ok (.istore_n 1, 1) := by decide +kernel
theorem dX7_init_38 : decode cX7_init 38 = .ok (.iload_n 1, 1) := by decide +kernel
theorem dX7_init_39 : decode cX7_init 39 = .ok (.aload_n 0, 1) := by decide +kernel
theorem dX7_init_40 : decode cX7_init 40 = .ok (.getfield 32, 3) := by decide +kernel
theorem dX7_init_43 : decode cX7_init 43 = .ok (.arraylength, 1) := by decide +kernel
theorem dX7_init_44 : decode cX7_init 44 = .ok (.if_icmp .ge 22, 3) := by decide +kernel
theorem dX7_init_47 : decode cX7_init 47 = .ok (.aload_n 0, 1) := by decide +kernel
theorem dX7_init_48 : decode cX7_init 48 = .ok (.getfield 32, 3) := by decide +kernel
theorem dX7_init_51 : decode cX7_init 51 = .ok (.iload_n 1, 1) := by decide +kernel
theorem dX7_init_52 : decode cX7_init 52 = .ok (.new 30, 3) := by decide +kernel
theorem dX7_init_55 : decode cX7_init 55 = .ok (.dup, 1) := by decide +kernel
theorem dX7_init_56 : decode cX7_init 56 = .ok (.invokespecial 36, 3) := by decide +kernel
theorem dX7_init_59 : decode cX7_init 59 = .ok (.aastore, 1) := by decide +kernel
theorem dX7_init_60 : decode cX7_init 60 = .ok (.iinc 1 1, 3) := by decide +kernel
theorem dX7_init_63 : decode cX7_init 63 = .ok (.goto (-25), 3) := by decide +kernel
theorem dX7_init_66 : decode cX7_init 66 = .ok (.return_, 1) := by decide +kernel
theorem dX7_find_0 : decode cX7_find 0 = .ok (.iload_n 1, 1) := by decide +kernel
theorem dX7_find_1 : decode cX7_find 1 = .ok (.iconst 0, 1) := by decide +kernel
theorem dX7_find_2 : decode cX7_find 2 = .ok (.aload_n 0, 1) := by decide +kernel
theorem dX7_find_3 : decode cX7_find 3 = .ok (.getfield 32, 3) := by decide +kernel
theorem dX7_find_6 : decode cX7_find 6 = .ok (.arraylength, 1) := by decide +kernel
theorem dX7_find_7 : decode cX7_find 7 = .ok (.iconst 1, 1) := by decide +kernel
theorem dX7_find_8 : decode cX7_find 8 = .ok (.isub, 1) := by decide +kernel
theorem dX7_find_9 : decode cX7_find 9 = .ok (.invokestatic 37, 3) := by decide +kernel
theorem dX7_find_12 : decode cX7_find 12 = .ok (.ifCond .eq 12, 3) := by decide +kernel
theorem dX7_find_15 : decode cX7_find 15 = .ok (.aload_n 0, 1) := by decide +kernel
theorem dX7_find_16 : decode cX7_find 16 = .ok (.getfield 32, 3) := by decide +kernel
theorem dX7_find_19 : decode cX7_find 19 = .ok (.iload_n 1, 1) := by decide +kernel
theorem dX7_find_20 : decode cX7_find 20 = .ok (.aaload, 1) := by decide +kernel
theorem dX7_find_21 : decode cX7_find 21 = .ok (.goto 4, 3) := by decide +kernel
theorem dX7_find_24 : decode cX7_find 24 = .ok (.aconst_null, 1) := by decide +kernel
theorem dX7_find_25 : decode cX7_find 25 = .ok (.areturn, 1) := by decide +kernel
theorem dX7_copyFrom_0 : decode cX7_copyFrom 0 = .ok (.aload_n 1, 1) := by decide +kernel
theorem dX7_copyFrom_1 : decode cX7_copyFrom 1 = .ok (.getfield 18, 3) := by decide +kernel
theorem dX7_copyFrom_4 : decode cX7_copyFrom 4 = .ok (.aload_n 0, 1) := by decide +kernel
theorem dX7_copyFrom_5 : decode cX7_copyFrom 5 = .ok (.getfield 18, 3) := by decide +kernel
theorem dX7_copyFrom_8 : decode cX7_copyFrom 8 = .ok (.invokestatic 41, 3) := by decide +kernel
theorem dX7_copyFrom_11 : decode cX7_copyFrom 11 = .ok (.aload_n 0, 1) := by decide +kernel
theorem dX7_copyFrom_12 : decode cX7_copyFrom 12 = .ok (.getfield 26, 3) := by decide +kernel
theorem dX7_copyFrom_15 : decode cX7_copyFrom 15 = .ok (.aload_n 1, 1) := by decide +kernel
theorem dX7_copyFrom_16 : decode cX7_copyFrom 16 = .ok (.getfield 26, 3) := by decide +kernel
theorem dX7_copyFrom_19 : decode cX7_copyFrom 19 = .ok (.invokevirtual 45, 3) := by decide +kernel
theorem dX7_copyFrom_22 : decode cX7_copyFrom 22 = .ok (.iconst 0, 1) := by decide +kernel
theorem dX7_copyFrom_23 : decode cX7_copyFrom 23 = .ok (.istore_n 2, 1) := by decide +kernel
theorem dX7_copyFrom_24 : decode cX7_copyFrom 24 = .ok (.iload_n 2, 1) := by decide +kernel
theorem dX7_copyFrom_25 : decode cX7_copyFrom 25 = .ok (.aload_n 0, 1) := by decide +kernel
theorem dX7_copyFrom_26 : decode cX7_copyFrom 26 = .ok (.getfield 32, 3) := by decide +kernel
theorem dX7_copyFrom_29 : decode cX7_copyFrom 29 = .ok (.arraylength, 1) := by decide +kernel
theorem dX7_copyFrom_30 : decode cX7_copyFrom 30 = .ok (.if_icmp .ge 33, 3) := by decide +kernel
theorem dX7_copyFrom_33 : decode cX7_copyFrom 33 = .ok (.iload_n 2, 1) := by decide +kernel
theorem dX7_copyFrom_34 : decode cX7_copyFrom 34 = .ok (.aload_n 1, 1) := by decide +kernel
theorem dX7_copyFrom_35 : decode cX7_copyFrom 35 = .ok (.getfield 32, 3) := by decide +kernel
theorem dX7_copyFrom_38 : decode cX7_copyFrom 38 = .ok (.arraylength, 1) := by decide +kernel
theorem dX7_copyFrom_39 : decode cX7_copyFrom 39 = .ok (.if_icmp .ge 24, 3) := by decide +kernel
theorem dX7_copyFrom_42 : decode cX7_copyFrom 42 = .ok (.aload_n 0, 1) := by decide +kernel
theorem dX7_copyFrom_43 : decode cX7_copyFrom 43 = .ok (.getfield 32, 3) := by decide +kernel
theorem dX7_copyFrom_46 : decode cX7_copyFrom 46 = .ok (.iload_n 2, 1) := by decide +kernel
theorem dX7_copyFrom_47 : decode cX7_copyFrom 47 = .ok (.aaload, 1) := by decide +kernel
theorem dX7_copyFrom_48 : decode cX7_copyFrom 48 = .ok (.aload_n 1, 1) := by decide +kernel
theorem dX7_copyFrom_49 : decode cX7_copyFrom 49 = .ok (.getfield 32, 3) := by decide +kernel
theorem dX7_copyFrom_52 : decode cX7_copyFrom 52 = .ok (.iload_n 2, 1) := by decide +kernel
theorem dX7_copyFrom_53 : decode cX7_copyFrom 53 = .ok (.aaload, 1) := by decide +kernel
theorem dX7_copyFrom_54 : decode cX7_copyFrom 54 = .ok (.invokevirtual 49, 3) := by decide +kernel
theorem dX7_copyFrom_57 : decode cX7_copyFrom 57 = .ok (.iinc 2 1, 3) := by decide +kernel
theorem dX7_copyFrom_60 : decode cX7_copyFrom 60 = .ok (.goto (-36), 3) := by decide +kernel
theorem dX7_copyFrom_63 : decode cX7_copyFrom 63 = .ok (.return_, 1) := by decide +kernel
theorem dX7_allLamps_0 : decode cX7_allLamps 0 = .ok (.iconst 0, 1) := by decide +kernel
theorem dX7_allLamps_1 : decode cX7_allLamps 1 = .ok (.istore_n 1, 1) := by decide +kernel
theorem dX7_allLamps_2 : decode cX7_allLamps 2 = .ok (.aload_n 0, 1) := by decide +kernel
theorem dX7_allLamps_3 : decode cX7_allLamps 3 = .ok (.getfield 32, 3) := by decide +kernel
theorem dX7_allLamps_6 : decode cX7_allLamps 6 = .ok (.astore_n 2, 1) := by decide +kernel
theorem dX7_allLamps_7 : decode cX7_allLamps 7 = .ok (.aload_n 2, 1) := by decide +kernel
theorem dX7_allLamps_8 : decode cX7_allLamps 8 = .ok (.arraylength, 1) := by decide +kernel
theorem dX7_allLamps_9 : decode cX7_allLamps 9 = .ok (.istore_n 3, 1) := by decide +kernel
theorem dX7_allLamps_10 : decode cX7_allLamps 10 = .ok (.iconst 0, 1) := by decide +kernel
theorem dX7_allLamps_11 : decode cX7_allLamps 11 = .ok (.istore 4, 2) := by decide +kernel
theorem dX7_allLamps_13 : decode cX7_allLamps 13 = .ok (.iload 4, 2) := by decide +kernel
theorem dX7_allLamps_15 : decode cX7_allLamps 15 = .ok (.iload_n 3, 1) := by decide +kernel
theorem dX7_allLamps_16 : decode cX7_allLamps 16 = .ok (.if_icmp .ge 23, 3) := by decide +kernel
theorem dX7_allLamps_19 : decode cX7_allLamps 19 = .ok (.aload_n 2, 1) := by decide +kernel
theorem dX7_allLamps_20 : decode cX7_allLamps 20 = .ok (.iload 4, 2) := by decide +kernel
theorem dX7_allLamps_22 : decode cX7_allLamps 22 = .ok (.aaload, 1) := by decide +kernel
theorem dX7_allLamps_23 : decode cX7_allLamps 23 = .ok (.astore 5, 2) := by decide +kernel
theorem dX7_allLamps_25 : decode cX7_allLamps 25 = .ok (.iload_n 1, 1) := by decide +kernel
theorem dX7_allLamps_26 : decode cX7_allLamps 26 = .ok (.aload 5, 2) := by decide +kernel
theorem dX7_allLamps_28 : decode cX7_allLamps 28 = .ok (.getfield 52, 3) := by decide +kernel
theorem dX7_allLamps_31 : decode cX7_allLamps 31 = .ok (.iadd, 1) := by decide +kernel
theorem dX7_allLamps_32 : decode cX7_allLamps 32 = .ok (.istore_n 1, 1) := by decide +kernel
theorem dX7_allLamps_33 : decode cX7_allLamps 33 = .ok (.iinc 4 1, 3) := by decide +kernel
theorem dX7_allLamps_36 : decode cX7_allLamps 36 = .ok (.goto (-23), 3) := by decide +kernel
theorem dX7_allLamps_39 : decode cX7_allLamps 39 = .ok (.iload_n 1, 1) := by decide +kernel
theorem dX7_allLamps_40 : decode cX7_allLamps 40 = .ok (.ireturn, 1) := by decide +kernel
theorem dX7_needed_0 : decode cX7_needed 0 = .ok (.iconst 0, 1) := by decide +kernel
theorem dX7_needed_1 : decode cX7_needed 1 = .ok (.istore_n 3, 1) := by decide +kernel
theorem dX7_needed_2 : decode cX7_needed 2 = .ok (.aload_n 0, 1) := by decide +kernel
theorem dX7_needed_3 : decode cX7_needed 3 = .ok (.getfield 32, 3) := by decide +kernel
theorem dX7_needed_6 : decode cX7_needed 6 = .ok (.astore 4, 2) := by decide +kernel
theorem dX7_needed_8 : decode cX7_needed 8 = .ok (.aload 4, 2) := by decide +kernel
theorem dX7_needed_10 : decode cX7_needed 10 = .ok (.arraylength, 1) := by decide +kernel
theorem dX7_needed_11 : decode cX7_needed 11 = .ok (.istore 5, 2) := by decide +kernel
theorem dX7_needed_13 : decode cX7_needed 13 = .ok (.iconst 0, 1) := by decide +kernel
theorem dX7_needed_14 : decode cX7_needed 14 = .ok (.istore 6, 2) := by decide +kernel
theorem dX7_needed_16 : decode cX7_needed 16 = .ok (.iload 6, 2) := by decide +kernel
theorem dX7_needed_18 : decode cX7_needed 18 = .ok (.iload 5, 2) := by decide +kernel
theorem dX7_needed_20 : decode cX7_needed 20 = .ok (.if_icmp .ge 34, 3) := by decide +kernel
theorem dX7_needed_23 : decode cX7_needed 23 = .ok (.aload 4, 2) := by decide +kernel
theorem dX7_needed_25 : decode cX7_needed 25 = .ok (.iload 6, 2) := by decide +kernel
theorem dX7_needed_27 : decode cX7_needed 27 = .ok (.aaload, 1) := by decide +kernel
theorem dX7_needed_28 : decode cX7_needed 28 = .ok (.astore 7, 2) := by decide +kernel
theorem dX7_needed_30 : decode cX7_needed 30 = .ok (.aload 7, 2) := by decide +kernel
theorem dX7_needed_32 : decode cX7_needed 32 = .ok (.iload_n 2, 1) := by decide +kernel
theorem dX7_needed_33 : decode cX7_needed 33 = .ok (.invokevirtual 56, 3) := by decide +kernel
theorem dX7_needed_36 : decode cX7_needed 36 = .ok (.ifCond .eq 12, 3) := by decide +kernel
theorem dX7_needed_39 : decode cX7_needed 39 = .ok (.iload_n 3, 1) := by decide +kernel
theorem dX7_needed_40 : decode cX7_needed 40 = .ok (.aload 7, 2) := by decide +kernel
theorem dX7_needed_42 : decode cX7_needed 42 = .ok (.iload_n 1, 1) := by decide +kernel
theorem dX7_needed_43 : decode cX7_needed 43 = .ok (.invokevirtual 60, 3) := by decide +kernel
theorem dX7_needed_46 : decode cX7_needed 46 = .ok (.iadd, 1) := by decide +kernel
theorem dX7_needed_47 : decode cX7_needed 47 = .ok (.istore_n 3, 1) := by decide +kernel
theorem dX7_needed_48 : decode cX7_needed 48 = .ok (.iinc 6 1, 3) := by decide +kernel
theorem dX7_needed_51 : decode cX7_needed 51 = .ok (.goto (-35), 3) := by decide +kernel
theorem dX7_needed_54 : decode cX7_needed 54 = .ok (.iload_n 3, 1) := by decide +kernel
theorem dX7_needed_55 : decode cX7_needed 55 = .ok (.ireturn, 1) := by decide +kernel
theorem dX7_missing_0 : decode cX7_missing 0 = .ok (.iconst 0, 1) := by decide +kernel
theorem dX7_missing_1 : decode cX7_missing 1 = .ok (.aload_n 0, 1) := by decide +kernel
theorem dX7_missing_2 : decode cX7_missing 2 = .ok (.iload_n 1, 1) := by decide +kernel
theorem dX7_missing_3 : decode cX7_missing 3 = .ok (.iload_n 2, 1) := by decide +kernel
theorem dX7_missing_4 : decode cX7_missing 4 = .ok (.invokevirtual 64, 3) := by decide +kernel
theorem dX7_missing_7 : decode cX7_missing 7 = .ok (.aload_n 0, 1) := by decide +kernel
theorem dX7_missing_8 : decode cX7_missing 8 = .ok (.getfield 26, 3) := by decide +kernel
theorem dX7_missing_11 : decode cX7_missing 11 = .ok (.iload_n 1, 1) := by decide +kernel
theorem dX7_missing_12 : decode cX7_missing 12 = .ok (.invokevirtual 68, 3) := by decide +kernel
theorem dX7_missing_15 : decode cX7_missing 15 = .ok (.isub, 1) := by decide +kernel
theorem dX7_missing_16 : decode cX7_missing 16 = .ok (.invokestatic 71, 3) := by decide +kernel
theorem dX7_missing_19 : decode cX7_missing 19 = .ok (.ireturn, 1) := by decide +kernel
theorem dX7_cost_0 : decode cX7_cost 0 = .ok (.aload_n 0, 1) := by decide +kernel
theorem dX7_cost_1 : decode cX7_cost 1 = .ok (.getfield 26, 3) := by decide +kernel
theorem dX7_cost_4 : decode cX7_cost 4 = .ok (.iload_n 1, 1) := by decide +kernel
theorem dX7_cost_5 : decode cX7_cost 5 = .ok (.invokevirtual 76, 3) := by decide +kernel
theorem dX7_cost_8 : decode cX7_cost 8 = .ok (.aload_n 0, 1) := by decide +kernel
theorem dX7_cost_9 : decode cX7_cost 9 = .ok (.iload_n 1, 1) := by decide +kernel
theorem dX7_cost_10 : decode cX7_cost 10 = .ok (.iload_n 2, 1) := by decide +kernel
theorem dX7_cost_11 : decode cX7_cost 11 = .ok (.invokevirtual 64, 3) := by decide +kernel
theorem dX7_cost_14 : decode cX7_cost 14 = .ok (.aload_n 0, 1) := by decide +kernel
theorem dX7_cost_15 : decode cX7_cost 15 = .ok (.getfield 26, 3) := by decide +kernel
theorem dX7_cost_18 : decode cX7_cost 18 = .ok (.iload_n 1, 1) := by decide +kernel
theorem dX7_cost_19 : decode cX7_cost 19 = .ok (.invokevirtual 68, 3) := by decide +kernel
theorem dX7_cost_22 : decode cX7_cost 22 = .ok (.invokestatic 79, 3) := by decide +kernel
theorem dX7_cost_25 : decode cX7_cost 25 = .ok (.imul, 1) := by decide +kernel
theorem dX7_cost_26 : decode cX7_cost 26 = .ok (.ireturn, 1) := by decide +kernel
theorem dX7_wholeCost_0 : decode cX7_wholeCost 0 = .ok (.iconst 0, 1) := by decide +kernel
theorem dX7_wholeCost_1 : decode cX7_wholeCost 1 = .ok (.istore_n 1, 1) := by decide +kernel
theorem dX7_wholeCost_2 : decode cX7_wholeCost 2 = .ok (.iconst 0, 1) := by decide +kernel
theorem dX7_wholeCost_3 : decode cX7_wholeCost 3 = .ok (.istore_n 2, 1) := by decide +kernel
theorem dX7_wholeCost_4 : decode cX7_wholeCost 4 = .ok (.iload_n 2, 1) := by decide +kernel
theorem dX7_wholeCost_5 : decode cX7_wholeCost 5 = .ok (.aload_n 0, 1) := by decide +kernel
theorem dX7_wholeCost_6 : decode cX7_wholeCost 6 = .ok (.getfield 26, 3) := by decide +kernel
theorem dX7_wholeCost_9 : decode cX7_wholeCost 9 = .ok (.getfield 82, 3) := by decide +kernel
theorem dX7_wholeCost_12 : decode cX7_wholeCost 12 = .ok (.if_icmp .ge 32, 3) := by decide +kernel
theorem dX7_wholeCost_15 : decode cX7_wholeCost 15 = .ok (.iconst 0, 1) := by decide +kernel
theorem dX7_wholeCost_16 : decode cX7_wholeCost 16 = .ok (.istore_n 3, 1) := by decide +kernel
theorem dX7_wholeCost_17 : decode cX7_wholeCost 17 = .ok (.iload_n 3, 1) := by decide +kernel
theorem dX7_wholeCost_18 : decode cX7_wholeCost 18 = .ok (.bipush 7, 2) := by decide +kernel
theorem dX7_wholeCost_20 : decode cX7_wholeCost 20 = .ok (.if_icmp .ge 18, 3) := by decide +kernel
theorem dX7_wholeCost_23 : decode cX7_wholeCost 23 = .ok (.iload_n 1, 1) := by decide +kernel
theorem dX7_wholeCost_24 : decode cX7_wholeCost 24 = .ok (.aload_n 0, 1) := by decide +kernel
theorem dX7_wholeCost_25 : decode cX7_wholeCost 25 = .ok (.iload_n 2, 1) := by decide +kernel
theorem dX7_wholeCost_26 : decode cX7_wholeCost 26 = .ok (.iload_n 3, 1) := by decide +kernel
theorem dX7_wholeCost_27 : decode cX7_wholeCost 27 = .ok (.invokevirtual 85, 3) := by decide +kernel
theorem dX7_wholeCost_30 : decode cX7_wholeCost 30 = .ok (.iadd, 1) := by decide +kernel
theorem dX7_wholeCost_31 : decode cX7_wholeCost 31 = .ok (.istore_n 1, 1) := by decide +kernel
theorem dX7_wholeCost_32 : decode cX7_wholeCost 32 = .ok (.iinc 3 1, 3) := by decide +kernel
theorem dX7_wholeCost_35 : decode cX7_wholeCost 35 = .ok (.goto (-18), 3) := by decide +kernel
theorem dX7_wholeCost_38 : decode cX7_wholeCost 38 = .ok (.iinc 2 1, 3) := by decide +kernel
theorem dX7_wholeCost_41 : decode cX7_wholeCost 41 = .ok (.goto (-37), 3) := by decide +kernel
theorem dX7_wholeCost_44 : decode cX7_wholeCost 44 = .ok (.iload_n 1, 1) := by decide +kernel
theorem dX7_wholeCost_45 : decode cX7_wholeCost 45 = .ok (.ireturn, 1) := by decide +kernel
theorem dX7_allMissing_0 : decode cX7_allMissing 0 = .ok (.iconst 0, 1) := by decide +kernel
theorem dX7_allMissing_1 : decode cX7_allMissing 1 = .ok (.istore_n 1, 1) := by decide +kernel
theorem dX7_allMissing_2 : decode cX7_allMissing 2 = .ok (.iconst 0, 1) := by decide +kernel
theorem dX7_allMissing_3 : decode cX7_allMissing 3 = .ok (.istore_n 2, 1) := by decide +kernel
theorem dX7_allMissing_4 : decode cX7_allMissing 4 = .ok (.iload_n 2, 1) := by decide +kernel
theorem dX7_allMissing_5 : decode cX7_allMissing 5 = .ok (.aload_n 0, 1) := by decide +kernel
theorem dX7_allMissing_6 : decode cX7_allMissing 6 = .ok (.getfield 26, 3) := by decide +kernel
theorem dX7_allMissing_9 : decode cX7_allMissing 9 = .ok (.getfield 82, 3) := by decide +kernel
theorem dX7_allMissing_12 : decode cX7_allMissing 12 = .ok (.if_icmp .ge 32, 3) := by decide +kernel
theorem dX7_allMissing_15 : decode cX7_allMissing 15 = .ok (.iconst 0, 1) := by decide +kernel
theorem dX7_allMissing_16 : decode cX7_allMissing 16 = .ok (.istore_n 3, 1) := by decide +kernel
theorem dX7_allMissing_17 : decode cX7_allMissing 17 = .ok (.iload_n 3, 1) := by decide +kernel
theorem dX7_allMissing_18 : decode cX7_allMissing 18 = .ok (.bipush 7, 2) := by decide +kernel
theorem dX7_allMissing_20 : decode cX7_allMissing 20 = .ok (.if_icmp .ge 18, 3) := by decide +kernel
theorem dX7_allMissing_23 : decode cX7_allMissing 23 = .ok (.iload_n 1, 1) := by decide +kernel
theorem dX7_allMissing_24 : decode cX7_allMissing 24 = .ok (.aload_n 0, 1) := by decide +kernel
theorem dX7_allMissing_25 : decode cX7_allMissing 25 = .ok (.iload_n 2, 1) := by decide +kernel
theorem dX7_allMissing_26 : decode cX7_allMissing 26 = .ok (.iload_n 3, 1) := by decide +kernel
theorem dX7_allMissing_27 : decode cX7_allMissing 27 = .ok (.invokevirtual 88, 3) := by decide +kernel
theorem dX7_allMissing_30 : decode cX7_allMissing 30 = .ok (.iadd, 1) := by decide +kernel
theorem dX7_allMissing_31 : decode cX7_allMissing 31 = .ok (.istore_n 1, 1) := by decide +kernel
theorem dX7_allMissing_32 : decode cX7_allMissing 32 = .ok (.iinc 3 1, 3) := by decide +kernel
theorem dX7_allMissing_35 : decode cX7_allMissing 35 = .ok (.goto (-18), 3) := by decide +kernel
theorem dX7_allMissing_38 : decode cX7_allMissing 38 = .ok (.iinc 2 1, 3) := by decide +kernel
theorem dX7_allMissing_41 : decode cX7_allMissing 41 = .ok (.goto (-37), 3) := by decide +kernel
theorem dX7_allMissing_44 : decode cX7_allMissing 44 = .ok (.iload_n 1, 1) := by decide +kernel
theorem dX7_allMissing_45 : decode cX7_allMissing 45 = .ok (.ireturn, 1) := by decide +kernel
theorem dX7_busiestDay_0 : decode cX7_busiestDay 0 = .ok (.iconst 0, 1) := by decide +kernel
theorem dX7_busiestDay_1 : decode cX7_busiestDay 1 = .ok (.istore_n 1, 1) := by decide +kernel
theorem dX7_busiestDay_2 : decode cX7_busiestDay 2 = .ok (.iconst 0, 1) := by decide +kernel
theorem dX7_busiestDay_3 : decode cX7_busiestDay 3 = .ok (.istore_n 2, 1) := by decide +kernel
theorem dX7_busiestDay_4 : decode cX7_busiestDay 4 = .ok (.iconst 0, 1) := by decide +kernel
theorem dX7_busiestDay_5 : decode cX7_busiestDay 5 = .ok (.istore_n 3, 1) := by decide +kernel
theorem dX7_busiestDay_6 : decode cX7_busiestDay 6 = .ok (.iload_n 3, 1) := by decide +kernel
theorem dX7_busiestDay_7 : decode cX7_busiestDay 7 = .ok (.bipush 7, 2) := by decide +kernel
theorem dX7_busiestDay_9 : decode cX7_busiestDay 9 = .ok (.if_icmp .ge 27, 3) := by decide +kernel
theorem dX7_busiestDay_12 : decode cX7_busiestDay 12 = .ok (.aload_n 0, 1) := by decide +kernel
theorem dX7_busiestDay_13 : decode cX7_busiestDay 13 = .ok (.iload_n 3, 1) := by decide +kernel
theorem dX7_busiestDay_14 : decode cX7_busiestDay 14 = .ok (.invokevirtual 91, 3) := by decide +kernel
theorem dX7_busiestDay_17 : decode cX7_busiestDay 17 = .ok (.istore 4, 2) := by decide +kernel
theorem dX7_busiestDay_19 : decode cX7_busiestDay 19 = .ok (.iload 4, 2) := by decide +kernel
theorem dX7_busiestDay_21 : decode cX7_busiestDay 21 = .ok (.iload_n 2, 1) := by decide +kernel
theorem dX7_busiestDay_22 : decode cX7_busiestDay 22 = .ok (.if_icmp .le 8, 3) := by decide +kernel
theorem dX7_busiestDay_25 : decode cX7_busiestDay 25 = .ok (.iload 4, 2) := by decide +kernel
theorem dX7_busiestDay_27 : decode cX7_busiestDay 27 = .ok (.istore_n 2, 1) := by decide +kernel
theorem dX7_busiestDay_28 : decode cX7_busiestDay 28 = .ok (.iload_n 3, 1) := by decide +kernel
theorem dX7_busiestDay_29 : decode cX7_busiestDay 29 = .ok (.istore_n 1, 1) := by decide +kernel
theorem dX7_busiestDay_30 : decode cX7_busiestDay 30 = .ok (.iinc 3 1, 3) := by decide +kernel
theorem dX7_busiestDay_33 : decode cX7_busiestDay 33 = .ok (.goto (-27), 3) := by decide +kernel
theorem dX7_busiestDay_36 : decode cX7_busiestDay 36 = .ok (.iload_n 1, 1) := by decide +kernel
theorem dX7_busiestDay_37 : decode cX7_busiestDay 37 = .ok (.ireturn, 1) := by decide +kernel
theorem dX7_neededOn_0 : decode cX7_neededOn 0 = .ok (.iconst 0, 1) := by decide +kernel
theorem dX7_neededOn_1 : decode cX7_neededOn 1 = .ok (.istore_n 2, 1) := by decide +kernel
theorem dX7_neededOn_2 : decode cX7_neededOn 2 = .ok (.aload_n 0, 1) := by decide +kernel
theorem dX7_neededOn_3 : decode cX7_neededOn 3 = .ok (.getfield 32, 3) := by decide +kernel
theorem dX7_neededOn_6 : decode cX7_neededOn 6 = .ok (.astore_n 3, 1) := by decide +kernel
theorem dX7_neededOn_7 : decode cX7_neededOn 7 = .ok (.aload_n 3, 1) := by decide +kernel
theorem dX7_neededOn_8 : decode cX7_neededOn 8 = .ok (.arraylength, 1) := by decide +kernel
theorem dX7_neededOn_9 : decode cX7_neededOn 9 = .ok (.istore 4, 2) := by decide +kernel
theorem dX7_neededOn_11 : decode cX7_neededOn 11 = .ok (.iconst 0, 1) := by decide +kernel
theorem dX7_neededOn_12 : decode cX7_neededOn 12 = .ok (.istore 5, 2) := by decide +kernel
theorem dX7_neededOn_14 : decode cX7_neededOn 14 = .ok (.iload 5, 2) := by decide +kernel
theorem dX7_neededOn_16 : decode cX7_neededOn 16 = .ok (.iload 4, 2) := by decide +kernel
theorem dX7_neededOn_18 : decode cX7_neededOn 18 = .ok (.if_icmp .ge 32, 3) := by decide +kernel
theorem dX7_neededOn_21 : decode cX7_neededOn 21 = .ok (.aload_n 3, 1) := by decide +kernel
theorem dX7_neededOn_22 : decode cX7_neededOn 22 = .ok (.iload 5, 2) := by decide +kernel
theorem dX7_neededOn_24 : decode cX7_neededOn 24 = .ok (.aaload, 1) := by decide +kernel
theorem dX7_neededOn_25 : decode cX7_neededOn 25 = .ok (.astore 6, 2) := by decide +kernel
theorem dX7_neededOn_27 : decode cX7_neededOn 27 = .ok (.aload 6, 2) := by decide +kernel
theorem dX7_neededOn_29 : decode cX7_neededOn 29 = .ok (.iload_n 1, 1) := by decide +kernel
theorem dX7_neededOn_30 : decode cX7_neededOn 30 = .ok (.invokevirtual 56, 3) := by decide +kernel
theorem dX7_neededOn_33 : decode cX7_neededOn 33 = .ok (.ifCond .eq 11, 3) := by decide +kernel
theorem dX7_neededOn_36 : decode cX7_neededOn 36 = .ok (.iload_n 2, 1) := by decide +kernel
theorem dX7_neededOn_37 : decode cX7_neededOn 37 = .ok (.aload 6, 2) := by decide +kernel
theorem dX7_neededOn_39 : decode cX7_neededOn 39 = .ok (.getfield 52, 3) := by decide +kernel
theorem dX7_neededOn_42 : decode cX7_neededOn 42 = .ok (.iadd, 1) := by decide +kernel
theorem dX7_neededOn_43 : decode cX7_neededOn 43 = .ok (.istore_n 2, 1) := by decide +kernel
theorem dX7_neededOn_44 : decode cX7_neededOn 44 = .ok (.iinc 5 1, 3) := by decide +kernel
theorem dX7_neededOn_47 : decode cX7_neededOn 47 = .ok (.goto (-33), 3) := by decide +kernel
theorem dX7_neededOn_50 : decode cX7_neededOn 50 = .ok (.iload_n 2, 1) := by decide +kernel
theorem dX7_neededOn_51 : decode cX7_neededOn 51 = .ok (.ireturn, 1) := by decide +kernel
theorem dX8_init_0 : decode cX8_init 0 = .ok (.aload_n 0, 1) := by decide +kernel
theorem dX8_init_1 : decode cX8_init 1 = .ok (.invokespecial 3, 3) := by decide +kernel
theorem dX8_init_4 : decode cX8_init 4 = .ok (.aload_n 0, 1) := by decide +kernel
theorem dX8_init_5 : decode cX8_init 5 = .ok (.new 9, 3) := by decide +kernel
theorem dX8_init_8 : decode cX8_init 8 = .ok (.dup, 1) := by decide +kernel
theorem dX8_init_9 : decode cX8_init 9 = .ok (.invokespecial 11, 3) := by decide +kernel
theorem dX8_init_12 : decode cX8_init 12 = .ok (.putfield 12, 3) := by decide +kernel
theorem dX8_init_15 : decode cX8_init 15 = .ok (.return_, 1) := by decide +kernel
theorem dX8_playToTheEnd_0 : decode cX8_playToTheEnd 0 = .ok (.aload_n 2, 1) := by decide +kernel
theorem dX8_playToTheEnd_1 : decode cX8_playToTheEnd 1 = .ok (.iload_n 3, 1) := by decide +kernel
theorem dX8_playToTheEnd_2 : decode cX8_playToTheEnd 2 = .ok (.invokevirtual 18, 3) := by decide +kernel
theorem dX8_playToTheEnd_5 : decode cX8_playToTheEnd 5 = .ok (.ifCond .eq 12, 3) := by decide +kernel
theorem dX8_playToTheEnd_8 : decode cX8_playToTheEnd 8 = .ok (.aload_n 2, 1) := by decide +kernel
theorem dX8_playToTheEnd_9 : decode cX8_playToTheEnd 9 = .ok (.getfield 22, 3) := by decide +kernel
theorem dX8_playToTheEnd_12 : decode cX8_playToTheEnd 12 = .ok (.iload_n 3, 1) := by decide +kernel
theorem dX8_playToTheEnd_13 : decode cX8_playToTheEnd 13 = .ok (.iaload, 1) := by decide +kernel
theorem dX8_playToTheEnd_14 : decode cX8_playToTheEnd 14 = .ok (.goto 4, 3) := by decide +kernel
theorem dX8_playToTheEnd_17 : decode cX8_playToTheEnd 17 = .ok (.iconst 0, 1) := by decide +kernel
theorem dX8_playToTheEnd_18 : decode cX8_playToTheEnd 18 = .ok (.istore 5, 2) := by decide +kernel
theorem dX8_playToTheEnd_20 : decode cX8_playToTheEnd 20 = .ok (.aload_n 0, 1) := by decide +kernel
theorem dX8_playToTheEnd_21 : decode cX8_playToTheEnd 21 = .ok (.aload_n 2, 1) := by decide +kernel
theorem dX8_playToTheEnd_22 : decode cX8_playToTheEnd 22 = .ok (.iload_n 3, 1) := by decide +kernel
theorem dX8_playToTheEnd_23 : decode cX8_playToTheEnd 23 = .ok (.iload 5, 2) := by decide +kernel
theorem dX8_playToTheEnd_25 : decode cX8_playToTheEnd 25 = .ok (.invokevirtual 26, 3) := by decide +kernel
theorem dX8_playToTheEnd_28 : decode cX8_playToTheEnd 28 = .ok (.iconst 1, 1) := by decide +kernel
theorem dX8_playToTheEnd_29 : decode cX8_playToTheEnd 29 = .ok (.istore 6, 2) := by decide +kernel
theorem dX8_playToTheEnd_31 : decode cX8_playToTheEnd 31 = .ok (.iload 6, 2) := by decide +kernel
theorem dX8_playToTheEnd_33 : decode cX8_playToTheEnd 33 = .ok (.iload 5, 2) := by decide +kernel
theorem dX8_playToTheEnd_35 : decode cX8_playToTheEnd 35 = .ok (.aload_n 1, 1) := by decide +kernel
theorem dX8_playToTheEnd_36 : decode cX8_playToTheEnd 36 = .ok (.getfield 30, 3) := by decide +kernel
theorem dX8_playToTheEnd_39 : decode cX8_playToTheEnd 39 = .ok (.iconst 2, 1) := by decide +kernel
theorem dX8_playToTheEnd_40 : decode cX8_playToTheEnd 40 = .ok (.iaload, 1) := by decide +kernel
theorem dX8_playToTheEnd_41 : decode cX8_playToTheEnd 41 = .ok (.iadd, 1) := by decide +kernel
theorem dX8_playToTheEnd_42 : decode cX8_playToTheEnd 42 = .ok (.if_icmp .gt 90, 3) := by decide +kernel
theorem dX8_playToTheEnd_45 : decode cX8_playToTheEnd 45 = .ok (.aload_n 0, 1) := by decide +kernel
theorem dX8_playToTheEnd_46 : decode cX8_playToTheEnd 46 = .ok (.getfield 12, 3) := by decide +kernel
