theorem dX8_playToTheEnd_49 : decode cX8_playToTheEnd 49 = .ok (.aload_n 1, 1) := by decide +kernel
theorem dX8_playToTheEnd_50 : decode cX8_playToTheEnd 50 = .ok (.aload 4, 2) := by decide +kernel
theorem dX8_playToTheEnd_52 : decode cX8_playToTheEnd 52 = .ok (.invokevirtual 35, 3) := by decide +kernel
theorem dX8_playToTheEnd_55 : decode cX8_playToTheEnd 55 = .ok (.istore 7, 2) := by decide +kernel
theorem dX8_playToTheEnd_57 : decode cX8_playToTheEnd 57 = .ok (.iload 7, 2) := by decide +kernel
theorem dX8_playToTheEnd_59 : decode cX8_playToTheEnd 59 = .ok (.ifCond .le 18, 3) := by decide +kernel
theorem dX8_playToTheEnd_62 : decode cX8_playToTheEnd 62 = .ok (.aload_n 0, 1) := by decide +kernel
theorem dX8_playToTheEnd_63 : decode cX8_playToTheEnd 63 = .ok (.getfield 39, 3) := by decide +kernel
theorem dX8_playToTheEnd_66 : decode cX8_playToTheEnd 66 = .ok (.bipush (-6), 2) := by decide +kernel
theorem dX8_playToTheEnd_68 : decode cX8_playToTheEnd 68 = .ok (.if_icmp .ne 9, 3) := by decide +kernel
theorem dX8_playToTheEnd_71 : decode cX8_playToTheEnd 71 = .ok (.aload_n 0, 1) := by decide +kernel
theorem dX8_playToTheEnd_72 : decode cX8_playToTheEnd 72 = .ok (.iload 6, 2) := by decide +kernel
theorem dX8_playToTheEnd_74 : decode cX8_playToTheEnd 74 = .ok (.putfield 39, 3) := by decide +kernel
theorem dX8_playToTheEnd_77 : decode cX8_playToTheEnd 77 = .ok (.aload_n 0, 1) := by decide +kernel
theorem dX8_playToTheEnd_78 : decode cX8_playToTheEnd 78 = .ok (.dup, 1) := by decide +kernel
theorem dX8_playToTheEnd_79 : decode cX8_playToTheEnd 79 = .ok (.getfield 43, 3) := by decide +kernel
theorem dX8_playToTheEnd_82 : decode cX8_playToTheEnd 82 = .ok (.iload 7, 2) := by decide +kernel
theorem dX8_playToTheEnd_84 : decode cX8_playToTheEnd 84 = .ok (.iadd, 1) := by decide +kernel
theorem dX8_playToTheEnd_85 : decode cX8_playToTheEnd 85 = .ok (.putfield 43, 3) := by decide +kernel
theorem dX8_playToTheEnd_88 : decode cX8_playToTheEnd 88 = .ok (.aload_n 0, 1) := by decide +kernel
theorem dX8_playToTheEnd_89 : decode cX8_playToTheEnd 89 = .ok (.aload_n 0, 1) := by decide +kernel
theorem dX8_playToTheEnd_90 : decode cX8_playToTheEnd 90 = .ok (.getfield 46, 3) := by decide +kernel
theorem dX8_playToTheEnd_93 : decode cX8_playToTheEnd 93 = .ok (.aload 4, 2) := by decide +kernel
theorem dX8_playToTheEnd_95 : decode cX8_playToTheEnd 95 = .ok (.getfield 49, 3) := by decide +kernel
theorem dX8_playToTheEnd_98 : decode cX8_playToTheEnd 98 = .ok (.invokestatic 54, 3) := by decide +kernel
theorem dX8_playToTheEnd_101 : decode cX8_playToTheEnd 101 = .ok (.invokestatic 58, 3) := by decide +kernel
theorem dX8_playToTheEnd_104 : decode cX8_playToTheEnd 104 = .ok (.putfield 46, 3) := by decide +kernel
theorem dX8_playToTheEnd_107 : decode cX8_playToTheEnd 107 = .ok (.aload_n 0, 1) := by decide +kernel
theorem dX8_playToTheEnd_108 : decode cX8_playToTheEnd 108 = .ok (.aload_n 0, 1) := by decide +kernel
theorem dX8_playToTheEnd_109 : decode cX8_playToTheEnd 109 = .ok (.getfield 64, 3) := by decide +kernel
theorem dX8_playToTheEnd_112 : decode cX8_playToTheEnd 112 = .ok (.aload 4, 2) := by decide +kernel
theorem dX8_playToTheEnd_114 : decode cX8_playToTheEnd 114 = .ok (.getfield 67, 3) := by decide +kernel
theorem dX8_playToTheEnd_117 : decode cX8_playToTheEnd 117 = .ok (.invokestatic 54, 3) := by decide +kernel
theorem dX8_playToTheEnd_120 : decode cX8_playToTheEnd 120 = .ok (.invokestatic 58, 3) := by decide +kernel
theorem dX8_playToTheEnd_123 : decode cX8_playToTheEnd 123 = .ok (.putfield 64, 3) := by decide +kernel
theorem dX8_playToTheEnd_126 : decode cX8_playToTheEnd 126 = .ok (.iinc 6 1, 3) := by decide +kernel
theorem dX8_playToTheEnd_129 : decode cX8_playToTheEnd 129 = .ok (.goto (-98), 3) := by decide +kernel
theorem dX8_playToTheEnd_132 : decode cX8_playToTheEnd 132 = .ok (.return_, 1) := by decide +kernel
theorem dX8_isSafe_0 : decode cX8_isSafe 0 = .ok (.aload_n 0, 1) := by decide +kernel
theorem dX8_isSafe_1 : decode cX8_isSafe 1 = .ok (.aload_n 2, 1) := by decide +kernel
theorem dX8_isSafe_2 : decode cX8_isSafe 2 = .ok (.iload_n 3, 1) := by decide +kernel
theorem dX8_isSafe_3 : decode cX8_isSafe 3 = .ok (.iload 4, 2) := by decide +kernel
theorem dX8_isSafe_5 : decode cX8_isSafe 5 = .ok (.invokevirtual 26, 3) := by decide +kernel
theorem dX8_isSafe_8 : decode cX8_isSafe 8 = .ok (.iconst 1, 1) := by decide +kernel
theorem dX8_isSafe_9 : decode cX8_isSafe 9 = .ok (.istore 6, 2) := by decide +kernel
theorem dX8_isSafe_11 : decode cX8_isSafe 11 = .ok (.iload 6, 2) := by decide +kernel
theorem dX8_isSafe_13 : decode cX8_isSafe 13 = .ok (.iload 4, 2) := by decide +kernel
theorem dX8_isSafe_15 : decode cX8_isSafe 15 = .ok (.aload_n 1, 1) := by decide +kernel
theorem dX8_isSafe_16 : decode cX8_isSafe 16 = .ok (.getfield 30, 3) := by decide +kernel
theorem dX8_isSafe_19 : decode cX8_isSafe 19 = .ok (.iconst 2, 1) := by decide +kernel
theorem dX8_isSafe_20 : decode cX8_isSafe 20 = .ok (.iaload, 1) := by decide +kernel
theorem dX8_isSafe_21 : decode cX8_isSafe 21 = .ok (.iadd, 1) := by decide +kernel
theorem dX8_isSafe_22 : decode cX8_isSafe 22 = .ok (.if_icmp .gt 24, 3) := by decide +kernel
theorem dX8_isSafe_25 : decode cX8_isSafe 25 = .ok (.aload_n 0, 1) := by decide +kernel
theorem dX8_isSafe_26 : decode cX8_isSafe 26 = .ok (.getfield 12, 3) := by decide +kernel
theorem dX8_isSafe_29 : decode cX8_isSafe 29 = .ok (.aload_n 1, 1) := by decide +kernel
theorem dX8_isSafe_30 : decode cX8_isSafe 30 = .ok (.aload 5, 2) := by decide +kernel
theorem dX8_isSafe_32 : decode cX8_isSafe 32 = .ok (.invokevirtual 35, 3) := by decide +kernel
theorem dX8_isSafe_35 : decode cX8_isSafe 35 = .ok (.ifCond .le 5, 3) := by decide +kernel
theorem dX8_isSafe_38 : decode cX8_isSafe 38 = .ok (.iconst 0, 1) := by decide +kernel
theorem dX8_isSafe_39 : decode cX8_isSafe 39 = .ok (.ireturn, 1) := by decide +kernel
theorem dX8_isSafe_40 : decode cX8_isSafe 40 = .ok (.iinc 6 1, 3) := by decide +kernel
theorem dX8_isSafe_43 : decode cX8_isSafe 43 = .ok (.goto (-32), 3) := by decide +kernel
theorem dX8_isSafe_46 : decode cX8_isSafe 46 = .ok (.iconst 1, 1) := by decide +kernel
theorem dX8_isSafe_47 : decode cX8_isSafe 47 = .ok (.ireturn, 1) := by decide +kernel
theorem dX8_begin_0 : decode cX8_begin 0 = .ok (.aload_n 0, 1) := by decide +kernel
theorem dX8_begin_1 : decode cX8_begin 1 = .ok (.getfield 12, 3) := by decide +kernel
theorem dX8_begin_4 : decode cX8_begin 4 = .ok (.aload_n 1, 1) := by decide +kernel
theorem dX8_begin_5 : decode cX8_begin 5 = .ok (.invokevirtual 70, 3) := by decide +kernel
theorem dX8_begin_8 : decode cX8_begin 8 = .ok (.aload_n 0, 1) := by decide +kernel
theorem dX8_begin_9 : decode cX8_begin 9 = .ok (.getfield 12, 3) := by decide +kernel
theorem dX8_begin_12 : decode cX8_begin 12 = .ok (.iload_n 2, 1) := by decide +kernel
theorem dX8_begin_13 : decode cX8_begin 13 = .ok (.iload_n 3, 1) := by decide +kernel
theorem dX8_begin_14 : decode cX8_begin 14 = .ok (.invokevirtual 74, 3) := by decide +kernel
theorem dX8_begin_17 : decode cX8_begin 17 = .ok (.aload_n 0, 1) := by decide +kernel
theorem dX8_begin_18 : decode cX8_begin 18 = .ok (.iconst 0, 1) := by decide +kernel
theorem dX8_begin_19 : decode cX8_begin 19 = .ok (.putfield 43, 3) := by decide +kernel
theorem dX8_begin_22 : decode cX8_begin 22 = .ok (.aload_n 0, 1) := by decide +kernel
theorem dX8_begin_23 : decode cX8_begin 23 = .ok (.bipush (-6), 2) := by decide +kernel
theorem dX8_begin_25 : decode cX8_begin 25 = .ok (.putfield 39, 3) := by decide +kernel
theorem dX8_begin_28 : decode cX8_begin 28 = .ok (.aload_n 0, 1) := by decide +kernel
theorem dX8_begin_29 : decode cX8_begin 29 = .ok (.iconst 0, 1) := by decide +kernel
theorem dX8_begin_30 : decode cX8_begin 30 = .ok (.putfield 46, 3) := by decide +kernel
theorem dX8_begin_33 : decode cX8_begin 33 = .ok (.aload_n 0, 1) := by decide +kernel
theorem dX8_begin_34 : decode cX8_begin 34 = .ok (.iconst 0, 1) := by decide +kernel
theorem dX8_begin_35 : decode cX8_begin 35 = .ok (.putfield 64, 3) := by decide +kernel
theorem dX8_begin_38 : decode cX8_begin 38 = .ok (.return_, 1) := by decide +kernel
theorem dX9_init_0 : decode cX9_init 0 = .ok (.aload_n 0, 1) := by decide +kernel
theorem dX9_init_1 : decode cX9_init 1 = .ok (.invokespecial 3, 3) := by decide +kernel
theorem dX9_init_4 : decode cX9_init 4 = .ok (.aload_n 0, 1) := by decide +kernel
theorem dX9_init_5 : decode cX9_init 5 = .ok (.bipush 6, 2) := by decide +kernel
theorem dX9_init_7 : decode cX9_init 7 = .ok (.newarray .int, 2) := by decide +kernel
theorem dX9_init_9 : decode cX9_init 9 = .ok (.putfield 9, 3) := by decide +kernel
theorem dX9_init_12 : decode cX9_init 12 = .ok (.aload_n 0, 1) := by decide +kernel
theorem dX9_init_13 : decode cX9_init 13 = .ok (.bipush 6, 2) := by decide +kernel
theorem dX9_init_15 : decode cX9_init 15 = .ok (.newarray .int, 2) := by decide +kernel
theorem dX9_init_17 : decode cX9_init 17 = .ok (.putfield 15, 3) := by decide +kernel
theorem dX9_init_20 : decode cX9_init 20 = .ok (.aload_n 0, 1) := by decide +kernel
theorem dX9_init_21 : decode cX9_init 21 = .ok (.bipush 6, 2) := by decide +kernel
theorem dX9_init_23 : decode cX9_init 23 = .ok (.newarray .int, 2) := by decide +kernel
theorem dX9_init_25 : decode cX9_init 25 = .ok (.putfield 18, 3) := by decide +kernel
theorem dX9_init_28 : decode cX9_init 28 = .ok (.return_, 1) := by decide +kernel
theorem dX9_isFull_0 : decode cX9_isFull 0 = .ok (.aload_n 0, 1) := by decide +kernel
theorem dX9_isFull_1 : decode cX9_isFull 1 = .ok (.getfield 21, 3) := by decide +kernel
theorem dX9_isFull_4 : decode cX9_isFull 4 = .ok (.bipush 6, 2) := by decide +kernel
theorem dX9_isFull_6 : decode cX9_isFull 6 = .ok (.if_icmp .lt 7, 3) := by decide +kernel
theorem dX9_isFull_9 : decode cX9_isFull 9 = .ok (.iconst 1, 1) := by decide +kernel
theorem dX9_isFull_10 : decode cX9_isFull 10 = .ok (.goto 4, 3) := by decide +kernel
theorem dX9_isFull_13 : decode cX9_isFull 13 = .ok (.iconst 0, 1) := by decide +kernel
theorem dX9_isFull_14 : decode cX9_isFull 14 = .ok (.ireturn, 1) := by decide +kernel
theorem dX9_has_0 : decode cX9_has 0 = .ok (.iload_n 1, 1) := by decide +kernel
theorem dX9_has_1 : decode cX9_has 1 = .ok (.ifCond .lt 21, 3) := by decide +kernel
theorem dX9_has_4 : decode cX9_has 4 = .ok (.iload_n 1, 1) := by decide +kernel
theorem dX9_has_5 : decode cX9_has 5 = .ok (.aload_n 0, 1) := by decide +kernel
theorem dX9_has_6 : decode cX9_has 6 = .ok (.getfield 21, 3) := by decide +kernel
theorem dX9_has_9 : decode cX9_has 9 = .ok (.if_icmp .ge 13, 3) := by decide +kernel
theorem dX9_has_12 : decode cX9_has 12 = .ok (.iload_n 1, 1) := by decide +kernel
theorem dX9_has_13 : decode cX9_has 13 = .ok (.bipush 6, 2) := by decide +kernel
theorem dX9_has_15 : decode cX9_has 15 = .ok (.if_icmp .ge 7, 3) := by decide +kernel
theorem dX9_has_18 : decode cX9_has 18 = .ok (.iconst 1, 1) := by decide +kernel
theorem dX9_has_19 : decode cX9_has 19 = .ok (.goto 4, 3) := by decide +kernel
theorem dX9_has_22 : decode cX9_has 22 = .ok (.iconst 0, 1) := by decide +kernel
theorem dX9_has_23 : decode cX9_has 23 = .ok (.ireturn, 1) := by decide +kernel
theorem dX9_add_0 : decode cX9_add 0 = .ok (.aload_n 0, 1) := by decide +kernel
theorem dX9_add_1 : decode cX9_add 1 = .ok (.invokevirtual 25, 3) := by decide +kernel
theorem dX9_add_4 : decode cX9_add 4 = .ok (.ifCond .eq 6, 3) := by decide +kernel
theorem dX9_add_7 : decode cX9_add 7 = .ok (.bipush (-4), 2) := by decide +kernel
theorem dX9_add_9 : decode cX9_add 9 = .ok (.ireturn, 1) := by decide +kernel
theorem dX9_add_10 : decode cX9_add 10 = .ok (.aload_n 0, 1) := by decide +kernel
theorem dX9_add_11 : decode cX9_add 11 = .ok (.dup, 1) := by decide +kernel
theorem dX9_add_12 : decode cX9_add 12 = .ok (.getfield 21, 3) := by decide +kernel
theorem dX9_add_15 : decode cX9_add 15 = .ok (.dup_x1, 1) := by decide +kernel
theorem dX9_add_16 : decode cX9_add 16 = .ok (.iconst 1, 1) := by decide +kernel
theorem dX9_add_17 : decode cX9_add 17 = .ok (.iadd, 1) := by decide +kernel
theorem dX9_add_18 : decode cX9_add 18 = .ok (.putfield 21, 3) := by decide +kernel
theorem dX9_add_21 : decode cX9_add 21 = .ok (.istore 4, 2) := by decide +kernel
theorem dX9_add_23 : decode cX9_add 23 = .ok (.aload_n 0, 1) := by decide +kernel
theorem dX9_add_24 : decode cX9_add 24 = .ok (.getfield 9, 3) := by decide +kernel
theorem dX9_add_27 : decode cX9_add 27 = .ok (.iload 4, 2) := by decide +kernel
theorem dX9_add_29 : decode cX9_add 29 = .ok (.iload_n 1, 1) := by decide +kernel
theorem dX9_add_30 : decode cX9_add 30 = .ok (.iastore, 1) := by decide +kernel
theorem dX9_add_31 : decode cX9_add 31 = .ok (.aload_n 0, 1) := by decide +kernel
theorem dX9_add_32 : decode cX9_add 32 = .ok (.getfield 15, 3) := by decide +kernel
theorem dX9_add_35 : decode cX9_add 35 = .ok (.iload 4, 2) := by decide +kernel
theorem dX9_add_37 : decode cX9_add 37 = .ok (.iload_n 2, 1) := by decide +kernel
theorem dX9_add_38 : decode cX9_add 38 = .ok (.iastore, 1) := by decide +kernel
theorem dX9_add_39 : decode cX9_add 39 = .ok (.aload_n 0, 1) := by decide +kernel
theorem dX9_add_40 : decode cX9_add 40 = .ok (.getfield 18, 3) := by decide +kernel
theorem dX9_add_43 : decode cX9_add 43 = .ok (.iload 4, 2) := by decide +kernel
theorem dX9_add_45 : decode cX9_add 45 = .ok (.iload_n 3, 1) := by decide +kernel
theorem dX9_add_46 : decode cX9_add 46 = .ok (.iastore, 1) := by decide +kernel
theorem dX9_add_47 : decode cX9_add 47 = .ok (.iload 4, 2) := by decide +kernel
theorem dX9_add_49 : decode cX9_add 49 = .ok (.ireturn, 1) := by decide +kernel
theorem dX9_wattsOf_0 : decode cX9_wattsOf 0 = .ok (.iload_n 1, 1) := by decide +kernel
theorem dX9_wattsOf_1 : decode cX9_wattsOf 1 = .ok (.ifCond .lt 21, 3) := by decide +kernel
theorem dX9_wattsOf_4 : decode cX9_wattsOf 4 = .ok (.iload_n 1, 1) := by decide +kernel
theorem dX9_wattsOf_5 : decode cX9_wattsOf 5 = .ok (.aload_n 0, 1) := by decide +kernel
theorem dX9_wattsOf_6 : decode cX9_wattsOf 6 = .ok (.getfield 9, 3) := by decide +kernel
theorem dX9_wattsOf_9 : decode cX9_wattsOf 9 = .ok (.arraylength, 1) := by decide +kernel
theorem dX9_wattsOf_10 : decode cX9_wattsOf 10 = .ok (.if_icmp .ge 12, 3) := by decide +kernel
theorem dX9_wattsOf_13 : decode cX9_wattsOf 13 = .ok (.aload_n 0, 1) := by decide +kernel
theorem dX9_wattsOf_14 : decode cX9_wattsOf 14 = .ok (.getfield 9, 3) := by decide +kernel
theorem dX9_wattsOf_17 : decode cX9_wattsOf 17 = .ok (.iload_n 1, 1) := by decide +kernel
theorem dX9_wattsOf_18 : decode cX9_wattsOf 18 = .ok (.iaload, 1) := by decide +kernel
theorem dX9_wattsOf_19 : decode cX9_wattsOf 19 = .ok (.goto 4, 3) := by decide +kernel
theorem dX9_wattsOf_22 : decode cX9_wattsOf 22 = .ok (.iconst 0, 1) := by decide +kernel
theorem dX9_wattsOf_23 : decode cX9_wattsOf 23 = .ok (.ireturn, 1) := by decide +kernel
theorem dX9_stockOf_0 : decode cX9_stockOf 0 = .ok (.aload_n 0, 1) := by decide +kernel
theorem dX9_stockOf_1 : decode cX9_stockOf 1 = .ok (.iload_n 1, 1) := by decide +kernel
theorem dX9_stockOf_2 : decode cX9_stockOf 2 = .ok (.invokevirtual 29, 3) := by decide +kernel
theorem dX9_stockOf_5 : decode cX9_stockOf 5 = .ok (.ifCond .eq 12, 3) := by decide +kernel
theorem dX9_stockOf_8 : decode cX9_stockOf 8 = .ok (.aload_n 0, 1) := by decide +kernel
theorem dX9_stockOf_9 : decode cX9_stockOf 9 = .ok (.getfield 15, 3) := by decide +kernel
theorem dX9_stockOf_12 : decode cX9_stockOf 12 = .ok (.iload_n 1, 1) := by decide +kernel
theorem dX9_stockOf_13 : decode cX9_stockOf 13 = .ok (.iaload, 1) := by decide +kernel
theorem dX9_stockOf_14 : decode cX9_stockOf 14 = .ok (.goto 4, 3) := by decide +kernel
theorem dX9_stockOf_17 : decode cX9_stockOf 17 = .ok (.iconst 0, 1) := by decide +kernel
theorem dX9_stockOf_18 : decode cX9_stockOf 18 = .ok (.ireturn, 1) := by decide +kernel
theorem dX9_priceOf_0 : decode cX9_priceOf 0 = .ok (.aload_n 0, 1) := by decide +kernel
theorem dX9_priceOf_1 : decode cX9_priceOf 1 = .ok (.iload_n 1, 1) := by decide +kernel
theorem dX9_priceOf_2 : decode cX9_priceOf 2 = .ok (.invokevirtual 29, 3) := by decide +kernel
theorem dX9_priceOf_5 : decode cX9_priceOf 5 = .ok (.ifCond .eq 12, 3) := by decide +kernel
theorem dX9_priceOf_8 : decode cX9_priceOf 8 = .ok (.aload_n 0, 1) := by decide +kernel
theorem dX9_priceOf_9 : decode cX9_priceOf 9 = .ok (.getfield 18, 3) := by decide +kernel
theorem dX9_priceOf_12 : decode cX9_priceOf 12 = .ok (.iload_n 1, 1) := by decide +kernel
theorem dX9_priceOf_13 : decode cX9_priceOf 13 = .ok (.iaload, 1) := by decide +kernel
theorem dX9_priceOf_14 : decode cX9_priceOf 14 = .ok (.goto 4, 3) := by decide +kernel
theorem dX9_priceOf_17 : decode cX9_priceOf 17 = .ok (.iconst 0, 1) := by decide +kernel
theorem dX9_priceOf_18 : decode cX9_priceOf 18 = .ok (.ireturn, 1) := by decide +kernel
theorem dX9_copyFrom_0 : decode cX9_copyFrom 0 = .ok (.aload_n 0, 1) := by decide +kernel
theorem dX9_copyFrom_1 : decode cX9_copyFrom 1 = .ok (.aload_n 1, 1) := by decide +kernel
theorem dX9_copyFrom_2 : decode cX9_copyFrom 2 = .ok (.getfield 21, 3) := by decide +kernel
theorem dX9_copyFrom_5 : decode cX9_copyFrom 5 = .ok (.putfield 21, 3) := by decide +kernel
theorem dX9_copyFrom_8 : decode cX9_copyFrom 8 = .ok (.aload_n 1, 1) := by decide +kernel
theorem dX9_copyFrom_9 : decode cX9_copyFrom 9 = .ok (.getfield 9, 3) := by decide +kernel
theorem dX9_copyFrom_12 : decode cX9_copyFrom 12 = .ok (.aload_n 0, 1) := by decide +kernel
theorem dX9_copyFrom_13 : decode cX9_copyFrom 13 = .ok (.getfield 9, 3) := by decide +kernel
theorem dX9_copyFrom_16 : decode cX9_copyFrom 16 = .ok (.invokestatic 33, 3) := by decide +kernel
theorem dX9_copyFrom_19 : decode cX9_copyFrom 19 = .ok (.aload_n 1, 1) := by decide +kernel
theorem dX9_copyFrom_20 : decode cX9_copyFrom 20 = .ok (.getfield 15, 3) := by decide +kernel
theorem dX9_copyFrom_23 : decode cX9_copyFrom 23 = .ok (.aload_n 0, 1) := by decide +kernel
theorem dX9_copyFrom_24 : decode cX9_copyFrom 24 = .ok (.getfield 15, 3) := by decide +kernel
theorem dX9_copyFrom_27 : decode cX9_copyFrom 27 = .ok (.invokestatic 33, 3) := by decide +kernel
theorem dX9_copyFrom_30 : decode cX9_copyFrom 30 = .ok (.aload_n 1, 1) := by decide +kernel
theorem dX9_copyFrom_31 : decode cX9_copyFrom 31 = .ok (.getfield 18, 3) := by decide +kernel
theorem dX9_copyFrom_34 : decode cX9_copyFrom 34 = .ok (.aload_n 0, 1) := by decide +kernel
theorem dX9_copyFrom_35 : decode cX9_copyFrom 35 = .ok (.getfield 18, 3) := by decide +kernel
theorem dX9_copyFrom_38 : decode cX9_copyFrom 38 = .ok (.invokestatic 33, 3) := by decide +kernel
theorem dX9_copyFrom_41 : decode cX9_copyFrom 41 = .ok (.return_, 1) := by decide +kernel
theorem dX10_init_0 : decode cX10_init 0 = .ok (.aload_n 0, 1) := by decide +kernel
theorem dX10_init_1 : decode cX10_init 1 = .ok (.invokespecial 3, 3) := by decide +kernel
theorem dX10_init_4 : decode cX10_init 4 = .ok (.aload_n 0, 1) := by decide +kernel
theorem dX10_init_5 : decode cX10_init 5 = .ok (.new 9, 3) := by decide +kernel
theorem dX10_init_8 : decode cX10_init 8 = .ok (.dup, 1) := by decide +kernel
theorem dX10_init_9 : decode cX10_init 9 = .ok (.invokespecial 11, 3) := by decide +kernel
theorem dX10_init_12 : decode cX10_init 12 = .ok (.putfield 12, 3) := by decide +kernel
theorem dX10_init_15 : decode cX10_init 15 = .ok (.aload_n 0, 1) := by decide +kernel
theorem dX10_init_16 : decode cX10_init 16 = .ok (.new 9, 3) := by decide +kernel
theorem dX10_init_19 : decode cX10_init 19 = .ok (.dup, 1) := by decide +kernel
theorem dX10_init_20 : decode cX10_init 20 = .ok (.invokespecial 11, 3) := by decide +kernel
theorem dX10_init_23 : decode cX10_init 23 = .ok (.putfield 18, 3) := by decide +kernel
theorem dX10_init_26 : decode cX10_init 26 = .ok (.return_, 1) := by decide +kernel
theorem dX10_measure_0 : decode cX10_measure 0 = .ok (.aload_n 0, 1) := by decide +kernel
theorem dX10_measure_1 : decode cX10_measure 1 = .ok (.getfield 12, 3) := by decide +kernel
theorem dX10_measure_4 : decode cX10_measure 4 = .ok (.invokevirtual 21, 3) := by decide +kernel
theorem dX10_measure_7 : decode cX10_measure 7 = .ok (.iconst 0, 1) := by decide +kernel
theorem dX10_measure_8 : decode cX10_measure 8 = .ok (.istore_n 3, 1) := by decide +kernel
theorem dX10_measure_9 : decode cX10_measure 9 = .ok (.iload_n 3, 1) := by decide +kernel
theorem dX10_measure_10 : decode cX10_measure 10 = .ok (.bipush 8, 2) := by decide +kernel
theorem dX10_measure_12 : decode cX10_measure 12 = .ok (.if_icmp .ge 53, 3) := by decide +kernel
theorem dX10_measure_15 : decode cX10_measure 15 = .ok (.aload_n 0, 1) := by decide +kernel
theorem dX10_measure_16 : decode cX10_measure 16 = .ok (.getfield 18, 3) := by decide +kernel
theorem dX10_measure_19 : decode cX10_measure 19 = .ok (.aload_n 1, 1) := by decide +kernel
theorem dX10_measure_20 : decode cX10_measure 20 = .ok (.iload_n 3, 1) := by decide +kernel
theorem dX10_measure_21 : decode cX10_measure 21 = .ok (.aload_n 2, 1) := by decide +kernel
theorem dX10_measure_22 : decode cX10_measure 22 = .ok (.invokevirtual 24, 3) := by decide +kernel
theorem dX10_measure_25 : decode cX10_measure 25 = .ok (.aload_n 0, 1) := by decide +kernel
theorem dX10_measure_26 : decode cX10_measure 26 = .ok (.getfield 12, 3) := by decide +kernel
theorem dX10_measure_29 : decode cX10_measure 29 = .ok (.getfield 28, 3) := by decide +kernel
theorem dX10_measure_32 : decode cX10_measure 32 = .ok (.aload_n 0, 1) := by decide +kernel
theorem dX10_measure_33 : decode cX10_measure 33 = .ok (.getfield 18, 3) := by decide +kernel
theorem dX10_measure_36 : decode cX10_measure 36 = .ok (.getfield 28, 3) := by decide +kernel
theorem dX10_measure_39 : decode cX10_measure 39 = .ok (.invokestatic 32, 3) := by decide +kernel
theorem dX10_measure_42 : decode cX10_measure 42 = .ok (.aload_n 0, 1) := by decide +kernel
theorem dX10_measure_43 : decode cX10_measure 43 = .ok (.getfield 12, 3) := by decide +kernel
theorem dX10_measure_46 : decode cX10_measure 46 = .ok (.getfield 36, 3) := by decide +kernel
theorem dX10_measure_49 : decode cX10_measure 49 = .ok (.aload_n 0, 1) := by decide +kernel
theorem dX10_measure_50 : decode cX10_measure 50 = .ok (.getfield 18, 3) := by decide +kernel
theorem dX10_measure_53 : decode cX10_measure 53 = .ok (.getfield 36, 3) := by decide +kernel
theorem dX10_measure_56 : decode cX10_measure 56 = .ok (.invokestatic 32, 3) := by decide +kernel
theorem dX10_measure_59 : decode cX10_measure 59 = .ok (.iinc 3 1, 3) := by decide +kernel
theorem dX10_measure_62 : decode cX10_measure 62 = .ok (.goto (-53), 3) := by decide +kernel
theorem dX10_measure_65 : decode cX10_measure 65 = .ok (.return_, 1) := by decide +kernel
theorem dX11_init_0 : decode cX11_init 0 = .ok (.aload_n 0, 1) := by decide +kernel
theorem dX11_init_1 : decode cX11_init 1 = .ok (.invokespecial 1, 3) := by decide +kernel
theorem dX11_init_4 : decode cX11_init 4 = .ok (.aload_n 0, 1) := by decide +kernel
theorem dX11_init_5 : decode cX11_init 5 = .ok (.new 7, 3) := by decide +kernel
theorem dX11_init_8 : decode cX11_init 8 = .ok (.dup, 1) := by decide +kernel
theorem dX11_init_9 : decode cX11_init 9 = .ok (.invokespecial 9, 3) := by decide +kernel
theorem dX11_init_12 : decode cX11_init 12 = .ok (.putfield 10, 3) := by decide +kernel
theorem dX11_init_15 : decode cX11_init 15 = .ok (.aload_n 0, 1) := by decide +kernel
theorem dX11_init_16 : decode cX11_init 16 = .ok (.new 16, 3) := by decide +kernel
theorem dX11_init_19 : decode cX11_init 19 = .ok (.dup, 1) := by decide +kernel
theorem dX11_init_20 : decode cX11_init 20 = .ok (.invokespecial 18, 3) := by decide +kernel
theorem dX11_init_23 : decode cX11_init 23 = .ok (.putfield 19, 3) := by decide +kernel
theorem dX11_init_26 : decode cX11_init 26 = .ok (.aload_n 0, 1) := by decide +kernel
theorem dX11_init_27 : decode cX11_init 27 = .ok (.iconst 2, 1) := by decide +kernel
theorem dX11_init_28 : decode cX11_init 28 = .ok (.anewarray 7, 3) := by decide +kernel
theorem dX11_init_31 : decode cX11_init 31 = .ok (.putfield 23, 3) := by decide +kernel
theorem dX11_init_34 : decode cX11_init 34 = .ok (.aload_n 0, 1) := by decide +kernel
theorem dX11_init_35 : decode cX11_init 35 = .ok (.new 27, 3) := by decide +kernel
theorem dX11_init_38 : decode cX11_init 38 = .ok (.dup, 1) := by decide +kernel
theorem dX11_init_39 : decode cX11_init 39 = .ok (.invokespecial 29, 3) := by decide +kernel
theorem dX11_init_42 : decode cX11_init 42 = .ok (.putfield 30, 3) := by decide +kernel
theorem dX11_init_45 : decode cX11_init 45 = .ok (.aload_n 0, 1) := by decide +kernel
theorem dX11_init_46 : decode cX11_init 46 = .ok (.aload_n 0, 1) := by decide +kernel
theorem dX11_init_47 : decode cX11_init 47 = .ok (.getfield 30, 3) := by decide +kernel
theorem dX11_init_50 : decode cX11_init 50 = .ok (.getfield 34, 3) := by decide +kernel
theorem dX11_init_53 : decode cX11_init 53 = .ok (.putfield 38, 3) := by decide +kernel
theorem dX11_init_56 : decode cX11_init 56 = .ok (.aload_n 0, 1) := by decide +kernel
theorem dX11_init_57 : decode cX11_init 57 = .ok (.new 39, 3) := by decide +kernel
theorem dX11_init_60 : decode cX11_init 60 = .ok (.dup, 1) := by decide +kernel
theorem dX11_init_61 : decode cX11_init 61 = .ok (.invokespecial 41, 3) := by decide +kernel
theorem dX11_init_64 : decode cX11_init 64 = .ok (.putfield 42, 3) := by decide +kernel
theorem dX11_init_67 : decode cX11_init 67 = .ok (.aload_n 0, 1) := by decide +kernel
theorem dX11_init_68 : decode cX11_init 68 = .ok (.new 46, 3) := by decide +kernel
theorem dX11_init_71 : decode cX11_init 71 = .ok (.dup, 1) := by decide +kernel
theorem dX11_init_72 : decode cX11_init 72 = .ok (.invokespecial 48, 3) := by decide +kernel
theorem dX11_init_75 : decode cX11_init 75 = .ok (.putfield 49, 3) := by decide +kernel
theorem dX11_init_78 : decode cX11_init 78 = .ok (.aload_n 0, 1) := by decide +kernel
theorem dX11_init_79 : decode cX11_init 79 = .ok (.new 53, 3) := by decide +kernel
theorem dX11_init_82 : decode cX11_init 82 = .ok (.dup, 1) := by decide +kernel
theorem dX11_init_83 : decode cX11_init 83 = .ok (.invokespecial 55, 3) := by decide +kernel
theorem dX11_init_86 : decode cX11_init 86 = .ok (.putfield 56, 3) := by decide +kernel
theorem dX11_init_89 : decode cX11_init 89 = .ok (.iconst 0, 1) := by decide +kernel
theorem dX11_init_90 : decode cX11_init 90 = .ok (.istore_n 1, 1) := by decide +kernel
theorem dX11_init_91 : decode cX11_init 91 = .ok (.iload_n 1, 1) := by decide +kernel
theorem dX11_init_92 : decode cX11_init 92 = .ok (.aload_n 0, 1) := by decide +kernel
theorem dX11_init_93 : decode cX11_init 93 = .ok (.getfield 23, 3) := by decide +kernel
theorem dX11_init_96 : decode cX11_init 96 = .ok (.arraylength, 1) := by decide +kernel
theorem dX11_init_97 : decode cX11_init 97 = .ok (.if_icmp .ge 22, 3) := by decide +kernel
theorem dX11_init_100 : decode cX11_init 100 = .ok (.aload_n 0, 1) := by decide +kernel
theorem dX11_init_101 : decode cX11_init 101 = .ok (.getfield 23, 3) := by decide +kernel
theorem dX11_init_104 : decode cX11_init 104 = .ok (.iload_n 1, 1) := by decide +kernel
theorem dX11_init_105 : decode cX11_init 105 = .ok (.new 7, 3) := by decide +kernel
theorem dX11_init_108 : decode cX11_init 108 = .ok (.dup, 1) := by decide +kernel
theorem dX11_init_109 : decode cX11_init 109 = .ok (.invokespecial 9, 3) := by decide +kernel
theorem dX11_init_112 : decode cX11_init 112 = .ok (.aastore, 1) := by decide +kernel
theorem dX11_init_113 : decode cX11_init 113 = .ok (.iinc 1 1, 3) := by decide +kernel
theorem dX11_init_116 : decode cX11_init 116 = .ok (.goto (-25), 3) := by decide +kernel
theorem dX11_init_119 : decode cX11_init 119 = .ok (.return_, 1) := by decide +kernel
theorem dX11_set_0 : decode cX11_set 0 = .ok (.iload_n 1, 1) := by decide +kernel
theorem dX11_set_1 : decode cX11_set 1 = .ok (.iconst 0, 1) := by decide +kernel
theorem dX11_set_2 : decode cX11_set 2 = .ok (.getstatic 60, 3) := by decide +kernel
theorem dX11_set_5 : decode cX11_set 5 = .ok (.arraylength, 1) := by decide +kernel
theorem dX11_set_6 : decode cX11_set 6 = .ok (.iconst 1, 1) := by decide +kernel
theorem dX11_set_7 : decode cX11_set 7 = .ok (.isub, 1) := by decide +kernel
theorem dX11_set_8 : decode cX11_set 8 = .ok (.invokestatic 64, 3) := by decide +kernel
theorem dX11_set_11 : decode cX11_set 11 = .ok (.ifCond .eq 20, 3) := by decide +kernel
theorem dX11_set_14 : decode cX11_set 14 = .ok (.iload_n 2, 1) := by decide +kernel
theorem dX11_set_15 : decode cX11_set 15 = .ok (.getstatic 60, 3) := by decide +kernel
theorem dX11_set_18 : decode cX11_set 18 = .ok (.iload_n 1, 1) := by decide +kernel
theorem dX11_set_19 : decode cX11_set 19 = .ok (.iaload, 1) := by decide +kernel
theorem dX11_set_20 : decode cX11_set 20 = .ok (.getstatic 68, 3) := by decide +kernel
theorem dX11_set_23 : decode cX11_set 23 = .ok (.iload_n 1, 1) := by decide +kernel
theorem dX11_set_24 : decode cX11_set 24 = .ok (.iaload, 1) := by decide +kernel
theorem dX11_set_25 : decode cX11_set 25 = .ok (.invokestatic 64, 3) := by decide +kernel
theorem dX11_set_28 : decode cX11_set 28 = .ok (.ifCond .ne 6, 3) := by decide +kernel
theorem dX11_set_31 : decode cX11_set 31 = .ok (.bipush (-2), 2) := by decide +kernel
theorem dX11_set_33 : decode cX11_set 33 = .ok (.ireturn, 1) := by decide +kernel
theorem dX11_set_34 : decode cX11_set 34 = .ok (.aload_n 0, 1) := by decide +kernel
theorem dX11_set_35 : decode cX11_set 35 = .ok (.getfield 19, 3) := by decide +kernel
theorem dX11_set_38 : decode cX11_set 38 = .ok (.aload_n 0, 1) := by decide +kernel
theorem dX11_set_39 : decode cX11_set 39 = .ok (.getfield 10, 3) := by decide +kernel
theorem dX11_set_42 : decode cX11_set 42 = .ok (.invokevirtual 71, 3) := by decide +kernel
theorem dX11_set_45 : decode cX11_set 45 = .ok (.aload_n 0, 1) := by decide +kernel
theorem dX11_set_46 : decode cX11_set 46 = .ok (.getfield 10, 3) := by decide +kernel
theorem dX11_set_49 : decode cX11_set 49 = .ok (.getfield 75, 3) := by decide +kernel
theorem dX11_set_52 : decode cX11_set 52 = .ok (.iload_n 1, 1) := by decide +kernel
theorem dX11_set_53 : decode cX11_set 53 = .ok (.iaload, 1) := by decide +kernel
theorem dX11_set_54 : decode cX11_set 54 = .ok (.istore_n 3, 1) := by decide +kernel
theorem dX11_set_55 : decode cX11_set 55 = .ok (.aload_n 0, 1) := by decide +kernel
theorem dX11_set_56 : decode cX11_set 56 = .ok (.getfield 10, 3) := by decide +kernel
theorem dX11_set_59 : decode cX11_set 59 = .ok (.getfield 75, 3) := by decide +kernel
theorem dX11_set_62 : decode cX11_set 62 = .ok (.iload_n 1, 1) := by decide +kernel
theorem dX11_set_63 : decode cX11_set 63 = .ok (.iload_n 2, 1) := by decide +kernel
theorem dX11_set_64 : decode cX11_set 64 = .ok (.iastore, 1) := by decide +kernel
theorem dX11_set_65 : decode cX11_set 65 = .ok (.iload_n 3, 1) := by decide +kernel
theorem dX11_set_66 : decode cX11_set 66 = .ok (.ireturn, 1) := by decide +kernel
theorem dX11_type_0 : decode cX11_type 0 = .ok (.iload_n 1, 1) := by decide +kernel
theorem dX11_type_1 : decode cX11_type 1 = .ok (.bipush 100, 2) := by decide +kernel
theorem dX11_type_3 : decode cX11_type 3 = .ok (.sipush 2000, 3) := by decide +kernel
theorem dX11_type_6 : decode cX11_type 6 = .ok (.invokestatic 64, 3) := by decide +kernel
theorem dX11_type_9 : decode cX11_type 9 = .ok (.ifCond .eq 23, 3) := by decide +kernel
theorem dX11_type_12 : decode cX11_type 12 = .ok (.iload_n 2, 1) := by decide +kernel
theorem dX11_type_13 : decode cX11_type 13 = .ok (.iconst 0, 1) := by decide +kernel
theorem dX11_type_14 : decode cX11_type 14 = .ok (.bipush 20, 2) := by decide +kernel
theorem dX11_type_16 : decode cX11_type 16 = .ok (.invokestatic 64, 3) := by decide +kernel
theorem dX11_type_19 : decode cX11_type 19 = .ok (.ifCond .eq 13, 3) := by decide +kernel
theorem dX11_type_22 : decode cX11_type 22 = .ok (.iload_n 3, 1) := by decide +kernel
theorem dX11_type_23 : decode cX11_type 23 = .ok (.iconst 0, 1) := by decide +kernel
theorem dX11_type_24 : decode cX11_type 24 = .ok (.bipush 50, 2) := by decide +kernel
theorem dX11_type_26 : decode cX11_type 26 = .ok (.invokestatic 64, 3) := by decide +kernel
theorem dX11_type_29 : decode cX11_type 29 = .ok (.ifCond .ne 6, 3) := by decide +kernel
theorem dX11_type_32 : decode cX11_type 32 = .ok (.bipush (-2), 2) := by decide +kernel
theorem dX11_type_34 : decode cX11_type 34 = .ok (.ireturn, 1) := by decide +kernel
theorem dX11_type_35 : decode cX11_type 35 = .ok (.aload_n 0, 1) := by decide +kernel
theorem dX11_type_36 : decode cX11_type 36 = .ok (.getfield 10, 3) := by decide +kernel
theorem dX11_type_39 : decode cX11_type 39 = .ok (.getfield 78, 3) := by decide +kernel
theorem dX11_type_42 : decode cX11_type 42 = .ok (.invokevirtual 82, 3) := by decide +kernel
theorem dX11_type_45 : decode cX11_type 45 = .ok (.ifCond .eq 6, 3) := by decide +kernel
theorem dX11_type_48 : decode cX11_type 48 = .ok (.bipush (-4), 2) := by decide +kernel
theorem dX11_type_50 : decode cX11_type 50 = .ok (.ireturn, 1) := by decide +kernel
theorem dX11_type_51 : decode cX11_type 51 = .ok (.aload_n 0, 1) := by decide +kernel
theorem dX11_type_52 : decode cX11_type 52 = .ok (.getfield 19, 3) := by decide +kernel
theorem dX11_type_55 : decode cX11_type 55 = .ok (.aload_n 0, 1) := by decide +kernel
theorem dX11_type_56 : decode cX11_type 56 = .ok (.getfield 10, 3) := by decide +kernel
theorem dX11_type_59 : decode cX11_type 59 = .ok (.invokevirtual 71, 3) := by decide +kernel
theorem dX11_type_62 : decode cX11_type 62 = .ok (.aload_n 0, 1) := by decide +kernel
theorem dX11_type_63 : decode cX11_type 63 = .ok (.getfield 10, 3) := by decide +kernel
theorem dX11_type_66 : decode cX11_type 66 = .ok (.getfield 78, 3) := by decide +kernel
theorem dX11_type_69 : decode cX11_type 69 = .ok (.iload_n 1, 1) := by decide +kernel
theorem dX11_type_70 : decode cX11_type 70 = .ok (.iload_n 2, 1) := by decide +kernel
theorem dX11_type_71 : decode cX11_type 71 = .ok (.iload_n 3, 1) := by decide +kernel
theorem dX11_type_72 : decode cX11_type 72 = .ok (.invokevirtual 88, 3) := by decide +kernel
theorem dX11_type_75 : decode cX11_type 75 = .ok (.ireturn, 1) := by decide +kernel
theorem dX11_days_0 : decode cX11_days 0 = .ok (.aload_n 0, 1) := by decide +kernel
theorem dX11_days_1 : decode cX11_days 1 = .ok (.getfield 10, 3) := by decide +kernel
theorem dX11_days_4 : decode cX11_days 4 = .ok (.iload_n 1, 1) := by decide +kernel
theorem dX11_days_5 : decode cX11_days 5 = .ok (.invokevirtual 92, 3) := by decide +kernel
theorem dX11_days_8 : decode cX11_days 8 = .ok (.astore 4, 2) := by decide +kernel
theorem dX11_days_10 : decode cX11_days 10 = .ok (.aload 4, 2) := by decide +kernel
theorem dX11_days_12 : decode cX11_days 12 = .ok (.ifnonnull 5, 3) := by decide +kernel
theorem dX11_days_15 : decode cX11_days 15 = .ok (.iconst (-1), 1) := by decide +kernel
theorem dX11_days_16 : decode cX11_days 16 = .ok (.ireturn, 1) := by decide +kernel
theorem dX11_days_17 : decode cX11_days 17 = .ok (.iload_n 2, 1) := by decide +kernel
theorem dX11_days_18 : decode cX11_days 18 = .ok (.iload_n 3, 1) := by decide +kernel
theorem dX11_days_19 : decode cX11_days 19 = .ok (.invokestatic 96, 3) := by decide +kernel
theorem dX11_days_22 : decode cX11_days 22 = .ok (.ifCond .ne 6, 3) := by decide +kernel
theorem dX11_days_25 : decode cX11_days 25 = .ok (.bipush (-2), 2) := by decide +kernel
theorem dX11_days_27 : decode cX11_days 27 = .ok (.ireturn, 1) := by decide +kernel
theorem dX11_days_28 : decode cX11_days 28 = .ok (.aload_n 0, 1) := by decide +kernel
theorem dX11_days_29 : decode cX11_days 29 = .ok (.getfield 19, 3) := by decide +kernel
theorem dX11_days_32 : decode cX11_days 32 = .ok (.aload_n 0, 1) := by decide +kernel
theorem dX11_days_33 : decode cX11_days 33 = .ok (.getfield 10, 3) := by decide +kernel
theorem dX11_days_36 : decode cX11_days 36 = .ok (.invokevirtual 71, 3) := by decide +kernel
theorem dX11_days_39 : decode cX11_days 39 = .ok (.aload 4, 2) := by decide +kernel
theorem dX11_days_41 : decode cX11_days 41 = .ok (.getfield 100, 3) := by decide +kernel
theorem dX11_days_44 : decode cX11_days 44 = .ok (.aload 4, 2) := by decide +kernel
theorem dX11_days_46 : decode cX11_days 46 = .ok (.getfield 106, 3) := by decide +kernel
theorem dX11_days_49 : decode cX11_days 49 = .ok (.isub, 1) := by decide +kernel
theorem dX11_days_50 : decode cX11_days 50 = .ok (.iconst 1, 1) := by decide +kernel
theorem dX11_days_51 : decode cX11_days 51 = .ok (.iadd, 1) := by decide +kernel
theorem dX11_days_52 : decode cX11_days 52 = .ok (.istore 5, 2) := by decide +kernel
theorem dX11_days_54 : decode cX11_days 54 = .ok (.aload 4, 2) := by decide +kernel
theorem dX11_days_56 : decode cX11_days 56 = .ok (.iload_n 2, 1) := by decide +kernel
theorem dX11_days_57 : decode cX11_days 57 = .ok (.putfield 106, 3) := by decide +kernel
theorem dX11_days_60 : decode cX11_days 60 = .ok (.aload 4, 2) := by decide +kernel
theorem dX11_days_62 : decode cX11_days 62 = .ok (.iload_n 3, 1) := by decide +kernel
theorem dX11_days_63 : decode cX11_days 63 = .ok (.putfield 100, 3) := by decide +kernel
theorem dX11_days_66 : decode cX11_days 66 = .ok (.iload 5, 2) := by decide +kernel
theorem dX11_days_68 : decode cX11_days 68 = .ok (.ireturn, 1) := by decide +kernel
theorem dX11_hang_0 : decode cX11_hang 0 = .ok (.aload_n 0, 1) := by decide +kernel
theorem dX11_hang_1 : decode cX11_hang 1 = .ok (.getfield 10, 3) := by decide +kernel
theorem dX11_hang_4 : decode cX11_hang 4 = .ok (.iload_n 1, 1) := by decide +kernel
theorem dX11_hang_5 : decode cX11_hang 5 = .ok (.invokevirtual 92, 3) := by decide +kernel
theorem dX11_hang_8 : decode cX11_hang 8 = .ok (.astore 4, 2) := by decide +kernel
theorem dX11_hang_10 : decode cX11_hang 10 = .ok (.aload 4, 2) := by decide +kernel
theorem dX11_hang_12 : decode cX11_hang 12 = .ok (.ifnull 24, 3) := by decide +kernel
theorem dX11_hang_15 : decode cX11_hang 15 = .ok (.aload_n 0, 1) := by decide +kernel
theorem dX11_hang_16 : decode cX11_hang 16 = .ok (.getfield 10, 3) := by decide +kernel
theorem dX11_hang_19 : decode cX11_hang 19 = .ok (.getfield 78, 3) := by decide +kernel
theorem dX11_hang_22 : decode cX11_hang 22 = .ok (.iload_n 2, 1) := by decide +kernel
theorem dX11_hang_23 : decode cX11_hang 23 = .ok (.invokevirtual 109, 3) := by decide +kernel
theorem dX11_hang_26 : decode cX11_hang 26 = .ok (.ifCond .eq 10, 3) := by decide +kernel
theorem dX11_hang_29 : decode cX11_hang 29 = .ok (.iload_n 3, 1) := by decide +kernel
theorem dX11_hang_30 : decode cX11_hang 30 = .ok (.invokestatic 113, 3) := by decide +kernel
theorem dX11_hang_33 : decode cX11_hang 33 = .ok (.ifCond .ne 5, 3) := by decide +kernel
theorem dX11_hang_36 : decode cX11_hang 36 = .ok (.iconst (-1), 1) := by decide +kernel
theorem dX11_hang_37 : decode cX11_hang 37 = .ok (.ireturn, 1) := by decide +kernel
theorem dX11_hang_38 : decode cX11_hang 38 = .ok (.aload 4, 2) := by decide +kernel
theorem dX11_hang_40 : decode cX11_hang 40 = .ok (.invokevirtual 116, 3) := by decide +kernel
theorem dX11_hang_43 : decode cX11_hang 43 = .ok (.ifCond .eq 6, 3) := by decide +kernel
theorem dX11_hang_46 : decode cX11_hang 46 = .ok (.bipush (-4), 2) := by decide +kernel
theorem dX11_hang_48 : decode cX11_hang 48 = .ok (.ireturn, 1) := by decide +kernel
theorem dX11_hang_49 : decode cX11_hang 49 = .ok (.aload_n 0, 1) := by decide +kernel
theorem dX11_hang_50 : decode cX11_hang 50 = .ok (.getfield 19, 3) := by decide +kernel
theorem dX11_hang_53 : decode cX11_hang 53 = .ok (.aload_n 0, 1) := by decide +kernel
theorem dX11_hang_54 : decode cX11_hang 54 = .ok (.getfield 10, 3) := by decide +kernel
theorem dX11_hang_57 : decode cX11_hang 57 = .ok (.invokevirtual 71, 3) := by decide +kernel
theorem dX11_hang_60 : decode cX11_hang 60 = .ok (.aload 4, 2) := by decide +kernel
theorem dX11_hang_62 : decode cX11_hang 62 = .ok (.iload_n 2, 1) := by decide +kernel
theorem dX11_hang_63 : decode cX11_hang 63 = .ok (.iload_n 3, 1) := by decide +kernel
theorem dX11_hang_64 : decode cX11_hang 64 = .ok (.invokevirtual 117, 3) := by decide +kernel
theorem dX11_hang_67 : decode cX11_hang 67 = .ok (.ireturn, 1) := by decide +kernel
theorem dX11_takeDown_0 : decode cX11_takeDown 0 = .ok (.aload_n 0, 1) := by decide +kernel
theorem dX11_takeDown_1 : decode cX11_takeDown 1 = .ok (.getfield 10, 3) := by decide +kernel
theorem dX11_takeDown_4 : decode cX11_takeDown 4 = .ok (.iload_n 1, 1) := by decide +kernel
theorem dX11_takeDown_5 : decode cX11_takeDown 5 = .ok (.invokevirtual 92, 3) := by decide +kernel
theorem dX11_takeDown_8 : decode cX11_takeDown 8 = .ok (.astore_n 3, 1) := by decide +kernel
theorem dX11_takeDown_9 : decode cX11_takeDown 9 = .ok (.aload_n 3, 1) := by decide +kernel
theorem dX11_takeDown_10 : decode cX11_takeDown 10 = .ok (.ifnull 11, 3) := by decide +kernel
theorem dX11_takeDown_13 : decode cX11_takeDown 13 = .ok (.aload_n 3, 1) := by decide +kernel
theorem dX11_takeDown_14 : decode cX11_takeDown 14 = .ok (.iload_n 2, 1) := by decide +kernel
theorem dX11_takeDown_15 : decode cX11_takeDown 15 = .ok (.invokevirtual 121, 3) := by decide +kernel
theorem dX11_takeDown_18 : decode cX11_takeDown 18 = .ok (.ifCond .ne 5, 3) := by decide +kernel
theorem dX11_takeDown_21 : decode cX11_takeDown 21 = .ok (.iconst (-1), 1) := by decide +kernel
theorem dX11_takeDown_22 : decode cX11_takeDown 22 = .ok (.ireturn, 1) := by decide +kernel
theorem dX11_takeDown_23 : decode cX11_takeDown 23 = .ok (.aload_n 0, 1) := by decide +kernel
theorem dX11_takeDown_24 : decode cX11_takeDown 24 = .ok (.getfield 19, 3) := by decide +kernel
theorem dX11_takeDown_27 : decode cX11_takeDown 27 = .ok (.aload_n 0, 1) := by decide +kernel
theorem dX11_takeDown_28 : decode cX11_takeDown 28 = .ok (.getfield 10, 3) := by decide +kernel
theorem dX11_takeDown_31 : decode cX11_takeDown 31 = .ok (.invokevirtual 71, 3) := by decide +kernel
theorem dX11_takeDown_34 : decode cX11_takeDown 34 = .ok (.aload_n 3, 1) := by decide +kernel
theorem dX11_takeDown_35 : decode cX11_takeDown 35 = .ok (.iload_n 2, 1) := by decide +kernel
theorem dX11_takeDown_36 : decode cX11_takeDown 36 = .ok (.invokevirtual 124, 3) := by decide +kernel
theorem dX11_takeDown_39 : decode cX11_takeDown 39 = .ok (.ireturn, 1) := by decide +kernel
theorem dX11_patch_0 : decode cX11_patch 0 = .ok (.aload_n 0, 1) := by decide +kernel
theorem dX11_patch_1 : decode cX11_patch 1 = .ok (.getfield 10, 3) := by decide +kernel
theorem dX11_patch_4 : decode cX11_patch 4 = .ok (.iload_n 1, 1) := by decide +kernel
theorem dX11_patch_5 : decode cX11_patch 5 = .ok (.invokevirtual 92, 3) := by decide +kernel
theorem dX11_patch_8 : decode cX11_patch 8 = .ok (.astore 4, 2) := by decide +kernel
theorem dX11_patch_10 : decode cX11_patch 10 = .ok (.aload 4, 2) := by decide +kernel
theorem dX11_patch_12 : decode cX11_patch 12 = .ok (.ifnull 19, 3) := by decide +kernel
theorem dX11_patch_15 : decode cX11_patch 15 = .ok (.aload 4, 2) := by decide +kernel
theorem dX11_patch_17 : decode cX11_patch 17 = .ok (.iload_n 2, 1) := by decide +kernel
theorem dX11_patch_18 : decode cX11_patch 18 = .ok (.invokevirtual 121, 3) := by decide +kernel
theorem dX11_patch_21 : decode cX11_patch 21 = .ok (.ifCond .eq 10, 3) := by decide +kernel
theorem dX11_patch_24 : decode cX11_patch 24 = .ok (.iload_n 3, 1) := by decide +kernel
theorem dX11_patch_25 : decode cX11_patch 25 = .ok (.invokestatic 113, 3) := by decide +kernel
theorem dX11_patch_28 : decode cX11_patch 28 = .ok (.ifCond .ne 5, 3) := by decide +kernel
theorem dX11_patch_31 : decode cX11_patch 31 = .ok (.iconst (-1), 1) := by decide +kernel
theorem dX11_patch_32 : decode cX11_patch 32 = .ok (.ireturn, 1) := by decide +kernel
theorem dX11_patch_33 : decode cX11_patch 33 = .ok (.aload_n 0, 1) := by decide +kernel
theorem dX11_patch_34 : decode cX11_patch 34 = .ok (.getfield 19, 3) := by decide +kernel
theorem dX11_patch_37 : decode cX11_patch 37 = .ok (.aload_n 0, 1) := by decide +kernel
theorem dX11_patch_38 : decode cX11_patch 38 = .ok (.getfield 10, 3) := by decide +kernel
theorem dX11_patch_41 : decode cX11_patch 41 = .ok (.invokevirtual 71, 3) := by decide +kernel
theorem dX11_patch_44 : decode cX11_patch 44 = .ok (.aload 4, 2) := by decide +kernel
theorem dX11_patch_46 : decode cX11_patch 46 = .ok (.getfield 128, 3) := by decide +kernel
theorem dX11_patch_49 : decode cX11_patch 49 = .ok (.iload_n 2, 1) := by decide +kernel
theorem dX11_patch_50 : decode cX11_patch 50 = .ok (.iaload, 1) := by decide +kernel
theorem dX11_patch_51 : decode cX11_patch 51 = .ok (.istore 5, 2) := by decide +kernel
theorem dX11_patch_53 : decode cX11_patch 53 = .ok (.aload 4, 2) := by decide +kernel
theorem dX11_patch_55 : decode cX11_patch 55 = .ok (.getfield 128, 3) := by decide +kernel
theorem dX11_patch_58 : decode cX11_patch 58 = .ok (.iload_n 2, 1) := by decide +kernel
theorem dX11_patch_59 : decode cX11_patch 59 = .ok (.iload_n 3, 1) := by decide +kernel
theorem dX11_patch_60 : decode cX11_patch 60 = .ok (.iastore, 1) := by decide +kernel
theorem dX11_patch_61 : decode cX11_patch 61 = .ok (.iload 5, 2) := by decide +kernel
theorem dX11_patch_63 : decode cX11_patch 63 = .ok (.ireturn, 1) := by decide +kernel
theorem dX11_feed_0 : decode cX11_feed 0 = .ok (.aload_n 0, 1) := by decide +kernel
theorem dX11_feed_1 : decode cX11_feed 1 = .ok (.getfield 10, 3) := by decide +kernel
theorem dX11_feed_4 : decode cX11_feed 4 = .ok (.iload_n 1, 1) := by decide +kernel
theorem dX11_feed_5 : decode cX11_feed 5 = .ok (.invokevirtual 92, 3) := by decide +kernel
theorem dX11_feed_8 : decode cX11_feed 8 = .ok (.astore 4, 2) := by decide +kernel
theorem dX11_feed_10 : decode cX11_feed 10 = .ok (.aload 4, 2) := by decide +kernel
theorem dX11_feed_12 : decode cX11_feed 12 = .ok (.ifnull 17, 3) := by decide +kernel
theorem dX11_feed_15 : decode cX11_feed 15 = .ok (.iload_n 2, 1) := by decide +kernel
theorem dX11_feed_16 : decode cX11_feed 16 = .ok (.invokestatic 131, 3) := by decide +kernel
theorem dX11_feed_19 : decode cX11_feed 19 = .ok (.ifCond .eq 10, 3) := by decide +kernel
theorem dX11_feed_22 : decode cX11_feed 22 = .ok (.iload_n 3, 1) := by decide +kernel
theorem dX11_feed_23 : decode cX11_feed 23 = .ok (.invokestatic 134, 3) := by decide +kernel
theorem dX11_feed_26 : decode cX11_feed 26 = .ok (.ifCond .ne 5, 3) := by decide +kernel
theorem dX11_feed_29 : decode cX11_feed 29 = .ok (.iconst (-1), 1) := by decide +kernel
theorem dX11_feed_30 : decode cX11_feed 30 = .ok (.ireturn, 1) := by decide +kernel
theorem dX11_feed_31 : decode cX11_feed 31 = .ok (.aload_n 0, 1) := by decide +kernel
theorem dX11_feed_32 : decode cX11_feed 32 = .ok (.getfield 19, 3) := by decide +kernel
theorem dX11_feed_35 : decode cX11_feed 35 = .ok (.aload_n 0, 1) := by decide +kernel
theorem dX11_feed_36 : decode cX11_feed 36 = .ok (.getfield 10, 3) := by decide +kernel
theorem dX11_feed_39 : decode cX11_feed 39 = .ok (.invokevirtual 71, 3) := by decide +kernel
theorem dX11_feed_42 : decode cX11_feed 42 = .ok (.aload 4, 2) := by decide +kernel
theorem dX11_feed_44 : decode cX11_feed 44 = .ok (.getfield 137, 3) := by decide +kernel
theorem dX11_feed_47 : decode cX11_feed 47 = .ok (.iload_n 2, 1) := by decide +kernel
theorem dX11_feed_48 : decode cX11_feed 48 = .ok (.iaload, 1) := by decide +kernel
theorem dX11_feed_49 : decode cX11_feed 49 = .ok (.istore 5, 2) := by decide +kernel
theorem dX11_feed_51 : decode cX11_feed 51 = .ok (.aload 4, 2) := by decide +kernel
theorem dX11_feed_53 : decode cX11_feed 53 = .ok (.getfield 137, 3) := by decide +kernel
theorem dX11_feed_56 : decode cX11_feed 56 = .ok (.iload_n 2, 1) := by decide +kernel
theorem dX11_feed_57 : decode cX11_feed 57 = .ok (.iload_n 3, 1) := by decide +kernel
theorem dX11_feed_58 : decode cX11_feed 58 = .ok (.iastore, 1) := by decide +kernel
theorem dX11_feed_59 : decode cX11_feed 59 = .ok (.iload 5, 2) := by decide +kernel
theorem dX11_feed_61 : decode cX11_feed 61 = .ok (.ireturn, 1) := by decide +kernel
theorem dX11_spread_0 : decode cX11_spread 0 = .ok (.aload_n 0, 1) := by decide +kernel
theorem dX11_spread_1 : decode cX11_spread 1 = .ok (.getfield 10, 3) := by decide +kernel
theorem dX11_spread_4 : decode cX11_spread 4 = .ok (.iload_n 1, 1) := by decide +kernel
theorem dX11_spread_5 : decode cX11_spread 5 = .ok (.invokevirtual 92, 3) := by decide +kernel
theorem dX11_spread_8 : decode cX11_spread 8 = .ok (.astore_n 2, 1) := by decide +kernel
theorem dX11_spread_9 : decode cX11_spread 9 = .ok (.aload_n 2, 1) := by decide +kernel
theorem dX11_spread_10 : decode cX11_spread 10 = .ok (.ifnonnull 5, 3) := by decide +kernel
theorem dX11_spread_13 : decode cX11_spread 13 = .ok (.iconst (-1), 1) := by decide +kernel
theorem dX11_spread_14 : decode cX11_spread 14 = .ok (.ireturn, 1) := by decide +kernel
theorem dX11_spread_15 : decode cX11_spread 15 = .ok (.aload_n 0, 1) := by decide +kernel
theorem dX11_spread_16 : decode cX11_spread 16 = .ok (.getfield 19, 3) := by decide +kernel
theorem dX11_spread_19 : decode cX11_spread 19 = .ok (.aload_n 0, 1) := by decide +kernel
theorem dX11_spread_20 : decode cX11_spread 20 = .ok (.getfield 10, 3) := by decide +kernel
theorem dX11_spread_23 : decode cX11_spread 23 = .ok (.invokevirtual 71, 3) := by decide +kernel
theorem dX11_spread_26 : decode cX11_spread 26 = .ok (.aload_n 0, 1) := by decide +kernel
theorem dX11_spread_27 : decode cX11_spread 27 = .ok (.getfield 49, 3) := by decide +kernel
theorem dX11_spread_30 : decode cX11_spread 30 = .ok (.aload_n 2, 1) := by decide +kernel
theorem dX11_spread_31 : decode cX11_spread 31 = .ok (.aload_n 0, 1) := by decide +kernel
theorem dX11_spread_32 : decode cX11_spread 32 = .ok (.getfield 10, 3) := by decide +kernel
theorem dX11_spread_35 : decode cX11_spread 35 = .ok (.getfield 78, 3) := by decide +kernel
theorem dX11_spread_38 : decode cX11_spread 38 = .ok (.invokevirtual 140, 3) := by decide +kernel
theorem dX11_spread_41 : decode cX11_spread 41 = .ok (.aload_n 2, 1) := by decide +kernel
theorem dX11_spread_42 : decode cX11_spread 42 = .ok (.aload_n 0, 1) := by decide +kernel
theorem dX11_spread_43 : decode cX11_spread 43 = .ok (.getfield 49, 3) := by decide +kernel
theorem dX11_spread_46 : decode cX11_spread 46 = .ok (.getfield 144, 3) := by decide +kernel
theorem dX11_spread_49 : decode cX11_spread 49 = .ok (.getfield 145, 3) := by decide +kernel
theorem dX11_spread_52 : decode cX11_spread 52 = .ok (.aload_n 0, 1) := by decide +kernel
theorem dX11_spread_53 : decode cX11_spread 53 = .ok (.getfield 49, 3) := by decide +kernel
theorem dX11_spread_56 : decode cX11_spread 56 = .ok (.getfield 144, 3) := by decide +kernel
theorem dX11_spread_59 : decode cX11_spread 59 = .ok (.getfield 148, 3) := by decide +kernel
theorem dX11_spread_62 : decode cX11_spread 62 = .ok (.invokevirtual 151, 3) := by decide +kernel
theorem dX11_spread_65 : decode cX11_spread 65 = .ok (.ireturn, 1) := by decide +kernel
theorem dX11_at_0 : decode cX11_at 0 = .ok (.aload_n 0, 1) := by decide +kernel
theorem dX11_at_1 : decode cX11_at 1 = .ok (.getfield 10, 3) := by decide +kernel
theorem dX11_at_4 : decode cX11_at 4 = .ok (.iload_n 1, 1) := by decide +kernel
theorem dX11_at_5 : decode cX11_at 5 = .ok (.invokevirtual 92, 3) := by decide +kernel
theorem dX11_at_8 : decode cX11_at 8 = .ok (.astore 4, 2) := by decide +kernel
theorem dX11_at_10 : decode cX11_at 10 = .ok (.aload 4, 2) := by decide +kernel
theorem dX11_at_12 : decode cX11_at 12 = .ok (.ifnull 12, 3) := by decide +kernel
theorem dX11_at_15 : decode cX11_at 15 = .ok (.aload 4, 2) := by decide +kernel
theorem dX11_at_17 : decode cX11_at 17 = .ok (.iload_n 2, 1) := by decide +kernel
theorem dX11_at_18 : decode cX11_at 18 = .ok (.invokevirtual 121, 3) := by decide +kernel
theorem dX11_at_21 : decode cX11_at 21 = .ok (.ifCond .ne 5, 3) := by decide +kernel
theorem dX11_at_24 : decode cX11_at 24 = .ok (.iconst (-1), 1) := by decide +kernel
theorem dX11_at_25 : decode cX11_at 25 = .ok (.ireturn, 1) := by decide +kernel
theorem dX11_at_26 : decode cX11_at 26 = .ok (.iload_n 3, 1) := by decide +kernel
theorem dX11_at_27 : decode cX11_at 27 = .ok (.iconst 0, 1) := by decide +kernel
theorem dX11_at_28 : decode cX11_at 28 = .ok (.bipush 100, 2) := by decide +kernel
theorem dX11_at_30 : decode cX11_at 30 = .ok (.invokestatic 64, 3) := by decide +kernel
theorem dX11_at_33 : decode cX11_at 33 = .ok (.ifCond .ne 6, 3) := by decide +kernel
theorem dX11_at_36 : decode cX11_at 36 = .ok (.bipush (-2), 2) := by decide +kernel
theorem dX11_at_38 : decode cX11_at 38 = .ok (.ireturn, 1) := by decide +kernel
theorem dX11_at_39 : decode cX11_at 39 = .ok (.aload_n 0, 1) := by decide +kernel
theorem dX11_at_40 : decode cX11_at 40 = .ok (.getfield 19, 3) := by decide +kernel
theorem dX11_at_43 : decode cX11_at 43 = .ok (.aload_n 0, 1) := by decide +kernel
theorem dX11_at_44 : decode cX11_at 44 = .ok (.getfield 10, 3) := by decide +kernel
theorem dX11_at_47 : decode cX11_at 47 = .ok (.invokevirtual 71, 3) := by decide +kernel
theorem dX11_at_50 : decode cX11_at 50 = .ok (.aload 4, 2) := by decide +kernel
theorem dX11_at_52 : decode cX11_at 52 = .ok (.getfield 155, 3) := by decide +kernel
theorem dX11_at_55 : decode cX11_at 55 = .ok (.iload_n 2, 1) := by decide +kernel
theorem dX11_at_56 : decode cX11_at 56 = .ok (.iaload, 1) := by decide +kernel
theorem dX11_at_57 : decode cX11_at 57 = .ok (.istore 5, 2) := by decide +kernel
theorem dX11_at_59 : decode cX11_at 59 = .ok (.aload 4, 2) := by decide +kernel
theorem dX11_at_61 : decode cX11_at 61 = .ok (.getfield 155, 3) := by decide +kernel
theorem dX11_at_64 : decode cX11_at 64 = .ok (.iload_n 2, 1) := by decide +kernel
theorem dX11_at_65 : decode cX11_at 65 = .ok (.iload_n 3, 1) := by decide +kernel
theorem dX11_at_66 : decode cX11_at 66 = .ok (.iastore, 1) := by decide +kernel
theorem dX11_at_67 : decode cX11_at 67 = .ok (.iload 5, 2) := by decide +kernel
theorem dX11_at_69 : decode cX11_at 69 = .ok (.ireturn, 1) := by decide +kernel
theorem dX11_record_0 : decode cX11_record 0 = .ok (.aload_n 0, 1) := by decide +kernel
theorem dX11_record_1 : decode cX11_record 1 = .ok (.getfield 10, 3) := by decide +kernel
theorem dX11_record_4 : decode cX11_record 4 = .ok (.iload_n 1, 1) := by decide +kernel
theorem dX11_record_5 : decode cX11_record 5 = .ok (.invokevirtual 92, 3) := by decide +kernel
theorem dX11_record_8 : decode cX11_record 8 = .ok (.astore 4, 2) := by decide +kernel
theorem dX11_record_10 : decode cX11_record 10 = .ok (.aload 4, 2) := by decide +kernel
theorem dX11_record_12 : decode cX11_record 12 = .ok (.ifnull 10, 3) := by decide +kernel
theorem dX11_record_15 : decode cX11_record 15 = .ok (.iload_n 2, 1) := by decide +kernel
theorem dX11_record_16 : decode cX11_record 16 = .ok (.invokestatic 158, 3) := by decide +kernel
theorem dX11_record_19 : decode cX11_record 19 = .ok (.ifCond .ne 5, 3) := by decide +kernel
theorem dX11_record_22 : decode cX11_record 22 = .ok (.iconst (-1), 1) := by decide +kernel
theorem dX11_record_23 : decode cX11_record 23 = .ok (.ireturn, 1) := by decide +kernel
theorem dX11_record_24 : decode cX11_record 24 = .ok (.iload_n 3, 1) := by decide +kernel
theorem dX11_record_25 : decode cX11_record 25 = .ok (.iconst 1, 1) := by decide +kernel
theorem dX11_record_26 : decode cX11_record 26 = .ok (.bipush 50, 2) := by decide +kernel
theorem dX11_record_28 : decode cX11_record 28 = .ok (.invokestatic 64, 3) := by decide +kernel
theorem dX11_record_31 : decode cX11_record 31 = .ok (.ifCond .ne 6, 3) := by decide +kernel
theorem dX11_record_34 : decode cX11_record 34 = .ok (.bipush (-2), 2) := by decide +kernel
theorem dX11_record_36 : decode cX11_record 36 = .ok (.ireturn, 1) := by decide +kernel
theorem dX11_record_37 : decode cX11_record 37 = .ok (.aload_n 0, 1) := by decide +kernel
theorem dX11_record_38 : decode cX11_record 38 = .ok (.getfield 19, 3) := by decide +kernel
theorem dX11_record_41 : decode cX11_record 41 = .ok (.aload_n 0, 1) := by decide +kernel
theorem dX11_record_42 : decode cX11_record 42 = .ok (.getfield 10, 3) := by decide +kernel
theorem dX11_record_45 : decode cX11_record 45 = .ok (.invokevirtual 71, 3) := by decide +kernel
theorem dX11_record_48 : decode cX11_record 48 = .ok (.aload 4, 2) := by decide +kernel
theorem dX11_record_50 : decode cX11_record 50 = .ok (.iload_n 2, 1) := by decide +kernel
theorem dX11_record_51 : decode cX11_record 51 = .ok (.iload_n 3, 1) := by decide +kernel
theorem dX11_record_52 : decode cX11_record 52 = .ok (.invokevirtual 161, 3) := by decide +kernel
theorem dX11_record_55 : decode cX11_record 55 = .ok (.aload 4, 2) := by decide +kernel
theorem dX11_record_57 : decode cX11_record 57 = .ok (.invokevirtual 165, 3) := by decide +kernel
theorem dX11_record_60 : decode cX11_record 60 = .ok (.invokestatic 169, 3) := by decide +kernel
theorem dX11_record_63 : decode cX11_record 63 = .ok (.ireturn, 1) := by decide +kernel
theorem dX11_go_0 : decode cX11_go 0 = .ok (.aload_n 0, 1) := by decide +kernel
theorem dX11_go_1 : decode cX11_go 1 = .ok (.getfield 10, 3) := by decide +kernel
theorem dX11_go_4 : decode cX11_go 4 = .ok (.iload_n 1, 1) := by decide +kernel
theorem dX11_go_5 : decode cX11_go 5 = .ok (.invokevirtual 92, 3) := by decide +kernel
theorem dX11_go_8 : decode cX11_go 8 = .ok (.astore_n 3, 1) := by decide +kernel
theorem dX11_go_9 : decode cX11_go 9 = .ok (.aload_n 3, 1) := by decide +kernel
theorem dX11_go_10 : decode cX11_go 10 = .ok (.ifnull 10, 3) := by decide +kernel
theorem dX11_go_13 : decode cX11_go 13 = .ok (.iload_n 2, 1) := by decide +kernel
theorem dX11_go_14 : decode cX11_go 14 = .ok (.invokestatic 158, 3) := by decide +kernel
theorem dX11_go_17 : decode cX11_go 17 = .ok (.ifCond .ne 5, 3) := by decide +kernel
theorem dX11_go_20 : decode cX11_go 20 = .ok (.iconst (-1), 1) := by decide +kernel
theorem dX11_go_21 : decode cX11_go 21 = .ok (.ireturn, 1) := by decide +kernel
theorem dX11_go_22 : decode cX11_go 22 = .ok (.aload_n 3, 1) := by decide +kernel
theorem dX11_go_23 : decode cX11_go 23 = .ok (.iload_n 2, 1) := by decide +kernel
theorem dX11_go_24 : decode cX11_go 24 = .ok (.invokevirtual 174, 3) := by decide +kernel
theorem dX11_go_27 : decode cX11_go 27 = .ok (.ifCond .ne 6, 3) := by decide +kernel
theorem dX11_go_30 : decode cX11_go 30 = .ok (.bipush (-5), 2) := by decide +kernel
theorem dX11_go_32 : decode cX11_go 32 = .ok (.ireturn, 1) := by decide +kernel
theorem dX11_go_33 : decode cX11_go 33 = .ok (.aload_n 0, 1) := by decide +kernel
theorem dX11_go_34 : decode cX11_go 34 = .ok (.getfield 19, 3) := by decide +kernel
theorem dX11_go_37 : decode cX11_go 37 = .ok (.aload_n 0, 1) := by decide +kernel
theorem dX11_go_38 : decode cX11_go 38 = .ok (.getfield 10, 3) := by decide +kernel
theorem dX11_go_41 : decode cX11_go 41 = .ok (.invokevirtual 71, 3) := by decide +kernel
theorem dX11_go_44 : decode cX11_go 44 = .ok (.aload_n 3, 1) := by decide +kernel
theorem dX11_go_45 : decode cX11_go 45 = .ok (.iload_n 2, 1) := by decide +kernel
theorem dX11_go_46 : decode cX11_go 46 = .ok (.aload_n 3, 1) := by decide +kernel
theorem dX11_go_47 : decode cX11_go 47 = .ok (.getfield 177, 3) := by decide +kernel
theorem dX11_go_50 : decode cX11_go 50 = .ok (.iload_n 2, 1) := by decide +kernel
theorem dX11_go_51 : decode cX11_go 51 = .ok (.iaload, 1) := by decide +kernel
theorem dX11_go_52 : decode cX11_go 52 = .ok (.invokevirtual 180, 3) := by decide +kernel
theorem dX11_go_55 : decode cX11_go 55 = .ok (.aload_n 3, 1) := by decide +kernel
theorem dX11_go_56 : decode cX11_go 56 = .ok (.getfield 177, 3) := by decide +kernel
theorem dX11_go_59 : decode cX11_go 59 = .ok (.iload_n 2, 1) := by decide +kernel
theorem dX11_go_60 : decode cX11_go 60 = .ok (.iaload, 1) := by decide +kernel
theorem dX11_go_61 : decode cX11_go 61 = .ok (.ireturn, 1) := by decide +kernel
theorem dX11_reset_0 : decode cX11_reset 0 = .ok (.aload_n 0, 1) := by decide +kernel
theorem dX11_reset_1 : decode cX11_reset 1 = .ok (.getfield 10, 3) := by decide +kernel
theorem dX11_reset_4 : decode cX11_reset 4 = .ok (.iload_n 1, 1) := by decide +kernel
theorem dX11_reset_5 : decode cX11_reset 5 = .ok (.invokevirtual 92, 3) := by decide +kernel
theorem dX11_reset_8 : decode cX11_reset 8 = .ok (.astore_n 2, 1) := by decide +kernel
theorem dX11_reset_9 : decode cX11_reset 9 = .ok (.aload_n 2, 1) := by decide +kernel
theorem dX11_reset_10 : decode cX11_reset 10 = .ok (.ifnonnull 5, 3) := by decide +kernel
theorem dX11_reset_13 : decode cX11_reset 13 = .ok (.iconst (-1), 1) := by decide +kernel
theorem dX11_reset_14 : decode cX11_reset 14 = .ok (.ireturn, 1) := by decide +kernel
theorem dX11_reset_15 : decode cX11_reset 15 = .ok (.aload_n 0, 1) := by decide +kernel
theorem dX11_reset_16 : decode cX11_reset 16 = .ok (.getfield 19, 3) := by decide +kernel
theorem dX11_reset_19 : decode cX11_reset 19 = .ok (.aload_n 0, 1) := by decide +kernel
theorem dX11_reset_20 : decode cX11_reset 20 = .ok (.getfield 10, 3) := by decide +kernel
theorem dX11_reset_23 : decode cX11_reset 23 = .ok (.invokevirtual 71, 3) := by decide +kernel
theorem dX11_reset_26 : decode cX11_reset 26 = .ok (.aload_n 2, 1) := by decide +kernel
theorem dX11_reset_27 : decode cX11_reset 27 = .ok (.invokevirtual 183, 3) := by decide +kernel
theorem dX11_reset_30 : decode cX11_reset 30 = .ok (.ireturn, 1) := by decide +kernel
theorem dX11_tick_0 : decode cX11_tick 0 = .ok (.iload_n 1, 1) := by decide +kernel
theorem dX11_tick_1 : decode cX11_tick 1 = .ok (.iconst 1, 1) := by decide +kernel
theorem dX11_tick_2 : decode cX11_tick 2 = .ok (.bipush 100, 2) := by decide +kernel
theorem dX11_tick_4 : decode cX11_tick 4 = .ok (.invokestatic 64, 3) := by decide +kernel
theorem dX11_tick_7 : decode cX11_tick 7 = .ok (.ifCond .ne 6, 3) := by decide +kernel
theorem dX11_tick_10 : decode cX11_tick 10 = .ok (.bipush (-2), 2) := by decide +kernel
theorem dX11_tick_12 : decode cX11_tick 12 = .ok (.ireturn, 1) := by decide +kernel
theorem dX11_tick_13 : decode cX11_tick 13 = .ok (.aload_n 0, 1) := by decide +kernel
theorem dX11_tick_14 : decode cX11_tick 14 = .ok (.getfield 19, 3) := by decide +kernel
theorem dX11_tick_17 : decode cX11_tick 17 = .ok (.aload_n 0, 1) := by decide +kernel
theorem dX11_tick_18 : decode cX11_tick 18 = .ok (.getfield 10, 3) := by decide +kernel
theorem dX11_tick_21 : decode cX11_tick 21 = .ok (.invokevirtual 71, 3) := by decide +kernel
theorem dX11_tick_24 : decode cX11_tick 24 = .ok (.iconst 0, 1) := by decide +kernel
theorem dX11_tick_25 : decode cX11_tick 25 = .ok (.istore_n 2, 1) := by decide +kernel
theorem dX11_tick_26 : decode cX11_tick 26 = .ok (.iconst 0, 1) := by decide +kernel
theorem dX11_tick_27 : decode cX11_tick 27 = .ok (.istore_n 3, 1) := by decide +kernel
theorem dX11_tick_28 : decode cX11_tick 28 = .ok (.iload_n 3, 1) := by decide +kernel
theorem dX11_tick_29 : decode cX11_tick 29 = .ok (.iload_n 1, 1) := by decide +kernel
theorem dX11_tick_30 : decode cX11_tick 30 = .ok (.if_icmp .ge 62, 3) := by decide +kernel
theorem dX11_tick_33 : decode cX11_tick 33 = .ok (.aload_n 0, 1) := by decide +kernel
theorem dX11_tick_34 : decode cX11_tick 34 = .ok (.getfield 10, 3) := by decide +kernel
theorem dX11_tick_37 : decode cX11_tick 37 = .ok (.getfield 186, 3) := by decide +kernel
theorem dX11_tick_40 : decode cX11_tick 40 = .ok (.astore 4, 2) := by decide +kernel
theorem dX11_tick_42 : decode cX11_tick 42 = .ok (.aload 4, 2) := by decide +kernel
theorem dX11_tick_44 : decode cX11_tick 44 = .ok (.arraylength, 1) := by decide +kernel
theorem dX11_tick_45 : decode cX11_tick 45 = .ok (.istore 5, 2) := by decide +kernel
theorem dX11_tick_47 : decode cX11_tick 47 = .ok (.iconst 0, 1) := by decide +kernel
theorem dX11_tick_48 : decode cX11_tick 48 = .ok (.istore 6, 2) := by decide +kernel
theorem dX11_tick_50 : decode cX11_tick 50 = .ok (.iload 6, 2) := by decide +kernel
theorem dX11_tick_52 : decode cX11_tick 52 = .ok (.iload 5, 2) := by decide +kernel
theorem dX11_tick_54 : decode cX11_tick 54 = .ok (.if_icmp .ge 32, 3) := by decide +kernel
theorem dX11_tick_57 : decode cX11_tick 57 = .ok (.aload 4, 2) := by decide +kernel
theorem dX11_tick_59 : decode cX11_tick 59 = .ok (.iload 6, 2) := by decide +kernel
theorem dX11_tick_61 : decode cX11_tick 61 = .ok (.aaload, 1) := by decide +kernel
theorem dX11_tick_62 : decode cX11_tick 62 = .ok (.astore 7, 2) := by decide +kernel
theorem dX11_tick_64 : decode cX11_tick 64 = .ok (.iload_n 2, 1) := by decide +kernel
theorem dX11_tick_65 : decode cX11_tick 65 = .ok (.aload 7, 2) := by decide +kernel
theorem dX11_tick_67 : decode cX11_tick 67 = .ok (.aload_n 0, 1) := by decide +kernel
theorem dX11_tick_68 : decode cX11_tick 68 = .ok (.getfield 10, 3) := by decide +kernel
theorem dX11_tick_71 : decode cX11_tick 71 = .ok (.aload_n 0, 1) := by decide +kernel
theorem dX11_tick_72 : decode cX11_tick 72 = .ok (.getfield 42, 3) := by decide +kernel
theorem dX11_tick_75 : decode cX11_tick 75 = .ok (.invokevirtual 190, 3) := by decide +kernel
theorem dX11_tick_78 : decode cX11_tick 78 = .ok (.iadd, 1) := by decide +kernel
theorem dX11_tick_79 : decode cX11_tick 79 = .ok (.istore_n 2, 1) := by decide +kernel
theorem dX11_tick_80 : decode cX11_tick 80 = .ok (.iinc 6 1, 3) := by decide +kernel
theorem dX11_tick_83 : decode cX11_tick 83 = .ok (.goto (-33), 3) := by decide +kernel
theorem dX11_tick_86 : decode cX11_tick 86 = .ok (.iinc 3 1, 3) := by decide +kernel
theorem dX11_tick_89 : decode cX11_tick 89 = .ok (.goto (-61), 3) := by decide +kernel
theorem dX11_tick_92 : decode cX11_tick 92 = .ok (.iload_n 2, 1) := by decide +kernel
theorem dX11_tick_93 : decode cX11_tick 93 = .ok (.ireturn, 1) := by decide +kernel
theorem dX11_carryOut_0 : decode cX11_carryOut 0 = .ok (.aload_n 0, 1) := by decide +kernel
theorem dX11_carryOut_1 : decode cX11_carryOut 1 = .ok (.getfield 10, 3) := by decide +kernel
theorem dX11_carryOut_4 : decode cX11_carryOut 4 = .ok (.iload_n 1, 1) := by decide +kernel
theorem dX11_carryOut_5 : decode cX11_carryOut 5 = .ok (.invokevirtual 92, 3) := by decide +kernel
theorem dX11_carryOut_8 : decode cX11_carryOut 8 = .ok (.astore_n 2, 1) := by decide +kernel
theorem dX11_carryOut_9 : decode cX11_carryOut 9 = .ok (.aload_n 2, 1) := by decide +kernel
theorem dX11_carryOut_10 : decode cX11_carryOut 10 = .ok (.ifnonnull 5, 3) := by decide +kernel
theorem dX11_carryOut_13 : decode cX11_carryOut 13 = .ok (.iconst (-1), 1) := by decide +kernel
theorem dX11_carryOut_14 : decode cX11_carryOut 14 = .ok (.ireturn, 1) := by decide +kernel
theorem dX11_carryOut_15 : decode cX11_carryOut 15 = .ok (.aload_n 0, 1) := by decide +kernel
theorem dX11_carryOut_16 : decode cX11_carryOut 16 = .ok (.getfield 30, 3) := by decide +kernel
theorem dX11_carryOut_19 : decode cX11_carryOut 19 = .ok (.invokevirtual 194, 3) := by decide +kernel
theorem dX11_carryOut_22 : decode cX11_carryOut 22 = .ok (.ifCond .ne 6, 3) := by decide +kernel
theorem dX11_carryOut_25 : decode cX11_carryOut 25 = .ok (.bipush (-3), 2) := by decide +kernel
theorem dX11_carryOut_27 : decode cX11_carryOut 27 = .ok (.ireturn, 1) := by decide +kernel
theorem dX11_carryOut_28 : decode cX11_carryOut 28 = .ok (.aload_n 0, 1) := by decide +kernel
theorem dX11_carryOut_29 : decode cX11_carryOut 29 = .ok (.getfield 19, 3) := by decide +kernel
theorem dX11_carryOut_32 : decode cX11_carryOut 32 = .ok (.aload_n 0, 1) := by decide +kernel
theorem dX11_carryOut_33 : decode cX11_carryOut 33 = .ok (.getfield 10, 3) := by decide +kernel
theorem dX11_carryOut_36 : decode cX11_carryOut 36 = .ok (.invokevirtual 71, 3) := by decide +kernel
theorem dX11_carryOut_39 : decode cX11_carryOut 39 = .ok (.aload_n 0, 1) := by decide +kernel
theorem dX11_carryOut_40 : decode cX11_carryOut 40 = .ok (.getfield 38, 3) := by decide +kernel
theorem dX11_carryOut_43 : decode cX11_carryOut 43 = .ok (.iconst 0, 1) := by decide +kernel
theorem dX11_carryOut_44 : decode cX11_carryOut 44 = .ok (.putfield 197, 3) := by decide +kernel
theorem dX11_carryOut_47 : decode cX11_carryOut 47 = .ok (.aload_n 0, 1) := by decide +kernel
theorem dX11_carryOut_48 : decode cX11_carryOut 48 = .ok (.getfield 30, 3) := by decide +kernel
theorem dX11_carryOut_51 : decode cX11_carryOut 51 = .ok (.aload_n 2, 1) := by decide +kernel
theorem dX11_carryOut_52 : decode cX11_carryOut 52 = .ok (.invokevirtual 202, 3) := by decide +kernel
theorem dX11_carryOut_55 : decode cX11_carryOut 55 = .ok (.ireturn, 1) := by decide +kernel
theorem dX11_lamp_0 : decode cX11_lamp 0 = .ok (.aload_n 0, 1) := by decide +kernel
theorem dX11_lamp_1 : decode cX11_lamp 1 = .ok (.getfield 10, 3) := by decide +kernel
theorem dX11_lamp_4 : decode cX11_lamp 4 = .ok (.iload_n 1, 1) := by decide +kernel
theorem dX11_lamp_5 : decode cX11_lamp 5 = .ok (.invokevirtual 92, 3) := by decide +kernel
theorem dX11_lamp_8 : decode cX11_lamp 8 = .ok (.astore 4, 2) := by decide +kernel
theorem dX11_lamp_10 : decode cX11_lamp 10 = .ok (.aload 4, 2) := by decide +kernel
theorem dX11_lamp_12 : decode cX11_lamp 12 = .ok (.ifnull 12, 3) := by decide +kernel
theorem dX11_lamp_15 : decode cX11_lamp 15 = .ok (.aload 4, 2) := by decide +kernel
theorem dX11_lamp_17 : decode cX11_lamp 17 = .ok (.iload_n 2, 1) := by decide +kernel
theorem dX11_lamp_18 : decode cX11_lamp 18 = .ok (.invokevirtual 121, 3) := by decide +kernel
theorem dX11_lamp_21 : decode cX11_lamp 21 = .ok (.ifCond .ne 5, 3) := by decide +kernel
theorem dX11_lamp_24 : decode cX11_lamp 24 = .ok (.iconst (-1), 1) := by decide +kernel
theorem dX11_lamp_25 : decode cX11_lamp 25 = .ok (.ireturn, 1) := by decide +kernel
theorem dX11_lamp_26 : decode cX11_lamp 26 = .ok (.iload_n 3, 1) := by decide +kernel
theorem dX11_lamp_27 : decode cX11_lamp 27 = .ok (.tableswitch 79 0 4 #[33, 41, 49, 57, 65], 33) := by decide +kernel
theorem dX11_lamp_60 : decode cX11_lamp 60 = .ok (.aload 4, 2) := by decide +kernel
theorem dX11_lamp_62 : decode cX11_lamp 62 = .ok (.getfield 206, 3) := by decide +kernel
theorem dX11_lamp_65 : decode cX11_lamp 65 = .ok (.iload_n 2, 1) := by decide +kernel
theorem dX11_lamp_66 : decode cX11_lamp 66 = .ok (.iaload, 1) := by decide +kernel
theorem dX11_lamp_67 : decode cX11_lamp 67 = .ok (.ireturn, 1) := by decide +kernel
theorem dX11_lamp_68 : decode cX11_lamp 68 = .ok (.aload 4, 2) := by decide +kernel
theorem dX11_lamp_70 : decode cX11_lamp 70 = .ok (.getfield 128, 3) := by decide +kernel
theorem dX11_lamp_73 : decode cX11_lamp 73 = .ok (.iload_n 2, 1) := by decide +kernel
theorem dX11_lamp_74 : decode cX11_lamp 74 = .ok (.iaload, 1) := by decide +kernel
theorem dX11_lamp_75 : decode cX11_lamp 75 = .ok (.ireturn, 1) := by decide +kernel
theorem dX11_lamp_76 : decode cX11_lamp 76 = .ok (.aload 4, 2) := by decide +kernel
theorem dX11_lamp_78 : decode cX11_lamp 78 = .ok (.getfield 155, 3) := by decide +kernel
theorem dX11_lamp_81 : decode cX11_lamp 81 = .ok (.iload_n 2, 1) := by decide +kernel
theorem dX11_lamp_82 : decode cX11_lamp 82 = .ok (.iaload, 1) := by decide +kernel
theorem dX11_lamp_83 : decode cX11_lamp 83 = .ok (.ireturn, 1) := by decide +kernel
theorem dX11_lamp_84 : decode cX11_lamp 84 = .ok (.aload 4, 2) := by decide +kernel
theorem dX11_lamp_86 : decode cX11_lamp 86 = .ok (.getfield 209, 3) := by decide +kernel
theorem dX11_lamp_89 : decode cX11_lamp 89 = .ok (.iload_n 2, 1) := by decide +kernel
theorem dX11_lamp_90 : decode cX11_lamp 90 = .ok (.iaload, 1) := by decide +kernel
theorem dX11_lamp_91 : decode cX11_lamp 91 = .ok (.ireturn, 1) := by decide +kernel
theorem dX11_lamp_92 : decode cX11_lamp 92 = .ok (.aload 4, 2) := by decide +kernel
theorem dX11_lamp_94 : decode cX11_lamp 94 = .ok (.iload_n 2, 1) := by decide +kernel
theorem dX11_lamp_95 : decode cX11_lamp 95 = .ok (.aload_n 0, 1) := by decide +kernel
theorem dX11_lamp_96 : decode cX11_lamp 96 = .ok (.getfield 10, 3) := by decide +kernel
theorem dX11_lamp_99 : decode cX11_lamp 99 = .ok (.getfield 78, 3) := by decide +kernel
theorem dX11_lamp_102 : decode cX11_lamp 102 = .ok (.invokevirtual 212, 3) := by decide +kernel
theorem dX11_lamp_105 : decode cX11_lamp 105 = .ok (.ireturn, 1) := by decide +kernel
theorem dX11_lamp_106 : decode cX11_lamp 106 = .ok (.bipush (-2), 2) := by decide +kernel
theorem dX11_lamp_108 : decode cX11_lamp 108 = .ok (.ireturn, 1) := by decide +kernel
theorem dX11_dimmer_0 : decode cX11_dimmer 0 = .ok (.aload_n 0, 1) := by decide +kernel
theorem dX11_dimmer_1 : decode cX11_dimmer 1 = .ok (.getfield 10, 3) := by decide +kernel
theorem dX11_dimmer_4 : decode cX11_dimmer 4 = .ok (.iload_n 1, 1) := by decide +kernel
theorem dX11_dimmer_5 : decode cX11_dimmer 5 = .ok (.invokevirtual 92, 3) := by decide +kernel
theorem dX11_dimmer_8 : decode cX11_dimmer 8 = .ok (.astore 4, 2) := by decide +kernel
theorem dX11_dimmer_10 : decode cX11_dimmer 10 = .ok (.aload 4, 2) := by decide +kernel
theorem dX11_dimmer_12 : decode cX11_dimmer 12 = .ok (.ifnull 10, 3) := by decide +kernel
theorem dX11_dimmer_15 : decode cX11_dimmer 15 = .ok (.iload_n 2, 1) := by decide +kernel
theorem dX11_dimmer_16 : decode cX11_dimmer 16 = .ok (.invokestatic 131, 3) := by decide +kernel
theorem dX11_dimmer_19 : decode cX11_dimmer 19 = .ok (.ifCond .ne 5, 3) := by decide +kernel
theorem dX11_dimmer_22 : decode cX11_dimmer 22 = .ok (.iconst (-1), 1) := by decide +kernel
theorem dX11_dimmer_23 : decode cX11_dimmer 23 = .ok (.ireturn, 1) := by decide +kernel
theorem dX11_dimmer_24 : decode cX11_dimmer 24 = .ok (.iload_n 3, 1) := by decide +kernel
theorem dX11_dimmer_25 : decode cX11_dimmer 25 = .ok (.tableswitch 138 0 5 #[39, 47, 73, 91, 102, 109], 39) := by decide +kernel
theorem dX11_dimmer_64 : decode cX11_dimmer 64 = .ok (.aload 4, 2) := by decide +kernel
theorem dX11_dimmer_66 : decode cX11_dimmer 66 = .ok (.getfield 137, 3) := by decide +kernel
theorem dX11_dimmer_69 : decode cX11_dimmer 69 = .ok (.iload_n 2, 1) := by decide +kernel
theorem dX11_dimmer_70 : decode cX11_dimmer 70 = .ok (.iaload, 1) := by decide +kernel
theorem dX11_dimmer_71 : decode cX11_dimmer 71 = .ok (.ireturn, 1) := by decide +kernel
theorem dX11_dimmer_72 : decode cX11_dimmer 72 = .ok (.aload_n 0, 1) := by decide +kernel
theorem dX11_dimmer_73 : decode cX11_dimmer 73 = .ok (.getfield 42, 3) := by decide +kernel
theorem dX11_dimmer_76 : decode cX11_dimmer 76 = .ok (.aload 4, 2) := by decide +kernel
theorem dX11_dimmer_78 : decode cX11_dimmer 78 = .ok (.aload_n 0, 1) := by decide +kernel
theorem dX11_dimmer_79 : decode cX11_dimmer 79 = .ok (.getfield 10, 3) := by decide +kernel
theorem dX11_dimmer_82 : decode cX11_dimmer 82 = .ok (.getfield 78, 3) := by decide +kernel
theorem dX11_dimmer_85 : decode cX11_dimmer 85 = .ok (.invokevirtual 216, 3) := by decide +kernel
theorem dX11_dimmer_88 : decode cX11_dimmer 88 = .ok (.aload_n 0, 1) := by decide +kernel
theorem dX11_dimmer_89 : decode cX11_dimmer 89 = .ok (.getfield 42, 3) := by decide +kernel
theorem dX11_dimmer_92 : decode cX11_dimmer 92 = .ok (.getfield 145, 3) := by decide +kernel
theorem dX11_dimmer_95 : decode cX11_dimmer 95 = .ok (.iload_n 2, 1) := by decide +kernel
theorem dX11_dimmer_96 : decode cX11_dimmer 96 = .ok (.iaload, 1) := by decide +kernel
theorem dX11_dimmer_97 : decode cX11_dimmer 97 = .ok (.ireturn, 1) := by decide +kernel
theorem dX11_dimmer_98 : decode cX11_dimmer 98 = .ok (.aload 4, 2) := by decide +kernel
theorem dX11_dimmer_100 : decode cX11_dimmer 100 = .ok (.getfield 219, 3) := by decide +kernel
theorem dX11_dimmer_103 : decode cX11_dimmer 103 = .ok (.iload_n 2, 1) := by decide +kernel
theorem dX11_dimmer_104 : decode cX11_dimmer 104 = .ok (.invokevirtual 223, 3) := by decide +kernel
theorem dX11_dimmer_107 : decode cX11_dimmer 107 = .ok (.ifCond .eq 7, 3) := by decide +kernel
theorem dX11_dimmer_110 : decode cX11_dimmer 110 = .ok (.iconst 1, 1) := by decide +kernel
theorem dX11_dimmer_111 : decode cX11_dimmer 111 = .ok (.goto 4, 3) := by decide +kernel
theorem dX11_dimmer_114 : decode cX11_dimmer 114 = .ok (.iconst 0, 1) := by decide +kernel
theorem dX11_dimmer_115 : decode cX11_dimmer 115 = .ok (.ireturn, 1) := by decide +kernel
theorem dX11_dimmer_116 : decode cX11_dimmer 116 = .ok (.aload 4, 2) := by decide +kernel
theorem dX11_dimmer_118 : decode cX11_dimmer 118 = .ok (.getfield 219, 3) := by decide +kernel
theorem dX11_dimmer_121 : decode cX11_dimmer 121 = .ok (.getfield 228, 3) := by decide +kernel
theorem dX11_dimmer_124 : decode cX11_dimmer 124 = .ok (.iload_n 2, 1) := by decide +kernel
theorem dX11_dimmer_125 : decode cX11_dimmer 125 = .ok (.iaload, 1) := by decide +kernel
theorem dX11_dimmer_126 : decode cX11_dimmer 126 = .ok (.ireturn, 1) := by decide +kernel
theorem dX11_dimmer_127 : decode cX11_dimmer 127 = .ok (.aload 4, 2) := by decide +kernel
theorem dX11_dimmer_129 : decode cX11_dimmer 129 = .ok (.iload_n 2, 1) := by decide +kernel
theorem dX11_dimmer_130 : decode cX11_dimmer 130 = .ok (.invokevirtual 231, 3) := by decide +kernel
theorem dX11_dimmer_133 : decode cX11_dimmer 133 = .ok (.ireturn, 1) := by decide +kernel
theorem dX11_dimmer_134 : decode cX11_dimmer 134 = .ok (.aload_n 0, 1) := by decide +kernel
theorem dX11_dimmer_135 : decode cX11_dimmer 135 = .ok (.getfield 49, 3) := by decide +kernel
theorem dX11_dimmer_138 : decode cX11_dimmer 138 = .ok (.aload 4, 2) := by decide +kernel
theorem dX11_dimmer_140 : decode cX11_dimmer 140 = .ok (.aload_n 0, 1) := by decide +kernel
theorem dX11_dimmer_141 : decode cX11_dimmer 141 = .ok (.getfield 10, 3) := by decide +kernel
theorem dX11_dimmer_144 : decode cX11_dimmer 144 = .ok (.getfield 78, 3) := by decide +kernel
theorem dX11_dimmer_147 : decode cX11_dimmer 147 = .ok (.invokevirtual 140, 3) := by decide +kernel
theorem dX11_dimmer_150 : decode cX11_dimmer 150 = .ok (.aload_n 0, 1) := by decide +kernel
theorem dX11_dimmer_151 : decode cX11_dimmer 151 = .ok (.getfield 49, 3) := by decide +kernel
theorem dX11_dimmer_154 : decode cX11_dimmer 154 = .ok (.getfield 144, 3) := by decide +kernel
theorem dX11_dimmer_157 : decode cX11_dimmer 157 = .ok (.getfield 145, 3) := by decide +kernel
theorem dX11_dimmer_160 : decode cX11_dimmer 160 = .ok (.iload_n 2, 1) := by decide +kernel
theorem dX11_dimmer_161 : decode cX11_dimmer 161 = .ok (.iaload, 1) := by decide +kernel
theorem dX11_dimmer_162 : decode cX11_dimmer 162 = .ok (.ireturn, 1) := by decide +kernel
theorem dX11_dimmer_163 : decode cX11_dimmer 163 = .ok (.bipush (-2), 2) := by decide +kernel
theorem dX11_dimmer_165 : decode cX11_dimmer 165 = .ok (.ireturn, 1) := by decide +kernel
theorem dX11_phase_0 : decode cX11_phase 0 = .ok (.aload_n 0, 1) := by decide +kernel
theorem dX11_phase_1 : decode cX11_phase 1 = .ok (.getfield 10, 3) := by decide +kernel
theorem dX11_phase_4 : decode cX11_phase 4 = .ok (.iload_n 1, 1) := by decide +kernel
theorem dX11_phase_5 : decode cX11_phase 5 = .ok (.invokevirtual 92, 3) := by decide +kernel
theorem dX11_phase_8 : decode cX11_phase 8 = .ok (.astore 4, 2) := by decide +kernel
theorem dX11_phase_10 : decode cX11_phase 10 = .ok (.aload 4, 2) := by decide +kernel
theorem dX11_phase_12 : decode cX11_phase 12 = .ok (.ifnull 10, 3) := by decide +kernel
theorem dX11_phase_15 : decode cX11_phase 15 = .ok (.iload_n 2, 1) := by decide +kernel
theorem dX11_phase_16 : decode cX11_phase 16 = .ok (.invokestatic 134, 3) := by decide +kernel
theorem dX11_phase_19 : decode cX11_phase 19 = .ok (.ifCond .ne 5, 3) := by decide +kernel
theorem dX11_phase_22 : decode cX11_phase 22 = .ok (.iconst (-1), 1) := by decide +kernel
theorem dX11_phase_23 : decode cX11_phase 23 = .ok (.ireturn, 1) := by decide +kernel
theorem dX11_phase_24 : decode cX11_phase 24 = .ok (.iload_n 3, 1) := by decide +kernel
theorem dX11_phase_25 : decode cX11_phase 25 = .ok (.tableswitch 126 0 4 #[35, 61, 79, 90, 97], 35) := by decide +kernel
theorem dX11_phase_60 : decode cX11_phase 60 = .ok (.aload_n 0, 1) := by decide +kernel
theorem dX11_phase_61 : decode cX11_phase 61 = .ok (.getfield 42, 3) := by decide +kernel
theorem dX11_phase_64 : decode cX11_phase 64 = .ok (.aload 4, 2) := by decide +kernel
theorem dX11_phase_66 : decode cX11_phase 66 = .ok (.aload_n 0, 1) := by decide +kernel
theorem dX11_phase_67 : decode cX11_phase 67 = .ok (.getfield 10, 3) := by decide +kernel
theorem dX11_phase_70 : decode cX11_phase 70 = .ok (.getfield 78, 3) := by decide +kernel
theorem dX11_phase_73 : decode cX11_phase 73 = .ok (.invokevirtual 216, 3) := by decide +kernel
theorem dX11_phase_76 : decode cX11_phase 76 = .ok (.aload_n 0, 1) := by decide +kernel
theorem dX11_phase_77 : decode cX11_phase 77 = .ok (.getfield 42, 3) := by decide +kernel
theorem dX11_phase_80 : decode cX11_phase 80 = .ok (.getfield 148, 3) := by decide +kernel
theorem dX11_phase_83 : decode cX11_phase 83 = .ok (.iload_n 2, 1) := by decide +kernel
theorem dX11_phase_84 : decode cX11_phase 84 = .ok (.iaload, 1) := by decide +kernel
theorem dX11_phase_85 : decode cX11_phase 85 = .ok (.ireturn, 1) := by decide +kernel
theorem dX11_phase_86 : decode cX11_phase 86 = .ok (.aload 4, 2) := by decide +kernel
theorem dX11_phase_88 : decode cX11_phase 88 = .ok (.getfield 234, 3) := by decide +kernel
theorem dX11_phase_91 : decode cX11_phase 91 = .ok (.iload_n 2, 1) := by decide +kernel
theorem dX11_phase_92 : decode cX11_phase 92 = .ok (.invokevirtual 223, 3) := by decide +kernel
theorem dX11_phase_95 : decode cX11_phase 95 = .ok (.ifCond .eq 7, 3) := by decide +kernel
theorem dX11_phase_98 : decode cX11_phase 98 = .ok (.iconst 1, 1) := by decide +kernel
theorem dX11_phase_99 : decode cX11_phase 99 = .ok (.goto 4, 3) := by decide +kernel
theorem dX11_phase_102 : decode cX11_phase 102 = .ok (.iconst 0, 1) := by decide +kernel
theorem dX11_phase_103 : decode cX11_phase 103 = .ok (.ireturn, 1) := by decide +kernel
theorem dX11_phase_104 : decode cX11_phase 104 = .ok (.aload 4, 2) := by decide +kernel
theorem dX11_phase_106 : decode cX11_phase 106 = .ok (.getfield 234, 3) := by decide +kernel
theorem dX11_phase_109 : decode cX11_phase 109 = .ok (.getfield 228, 3) := by decide +kernel
theorem dX11_phase_112 : decode cX11_phase 112 = .ok (.iload_n 2, 1) := by decide +kernel
theorem dX11_phase_113 : decode cX11_phase 113 = .ok (.iaload, 1) := by decide +kernel
theorem dX11_phase_114 : decode cX11_phase 114 = .ok (.ireturn, 1) := by decide +kernel
theorem dX11_phase_115 : decode cX11_phase 115 = .ok (.aload 4, 2) := by decide +kernel
theorem dX11_phase_117 : decode cX11_phase 117 = .ok (.iload_n 2, 1) := by decide +kernel
theorem dX11_phase_118 : decode cX11_phase 118 = .ok (.invokevirtual 237, 3) := by decide +kernel
theorem dX11_phase_121 : decode cX11_phase 121 = .ok (.ireturn, 1) := by decide +kernel
theorem dX11_phase_122 : decode cX11_phase 122 = .ok (.aload_n 0, 1) := by decide +kernel
theorem dX11_phase_123 : decode cX11_phase 123 = .ok (.getfield 49, 3) := by decide +kernel
theorem dX11_phase_126 : decode cX11_phase 126 = .ok (.aload 4, 2) := by decide +kernel
theorem dX11_phase_128 : decode cX11_phase 128 = .ok (.aload_n 0, 1) := by decide +kernel
theorem dX11_phase_129 : decode cX11_phase 129 = .ok (.getfield 10, 3) := by decide +kernel
theorem dX11_phase_132 : decode cX11_phase 132 = .ok (.getfield 78, 3) := by decide +kernel
theorem dX11_phase_135 : decode cX11_phase 135 = .ok (.invokevirtual 140, 3) := by decide +kernel
theorem dX11_phase_138 : decode cX11_phase 138 = .ok (.aload_n 0, 1) := by decide +kernel
theorem dX11_phase_139 : decode cX11_phase 139 = .ok (.getfield 49, 3) := by decide +kernel
theorem dX11_phase_142 : decode cX11_phase 142 = .ok (.getfield 144, 3) := by decide +kernel
theorem dX11_phase_145 : decode cX11_phase 145 = .ok (.getfield 148, 3) := by decide +kernel
theorem dX11_phase_148 : decode cX11_phase 148 = .ok (.iload_n 2, 1) := by decide +kernel
theorem dX11_phase_149 : decode cX11_phase 149 = .ok (.iaload, 1) := by decide +kernel
theorem dX11_phase_150 : decode cX11_phase 150 = .ok (.ireturn, 1) := by decide +kernel
theorem dX11_phase_151 : decode cX11_phase 151 = .ok (.bipush (-2), 2) := by decide +kernel
theorem dX11_phase_153 : decode cX11_phase 153 = .ok (.ireturn, 1) := by decide +kernel
theorem dX11_cue_0 : decode cX11_cue 0 = .ok (.aload_n 0, 1) := by decide +kernel
theorem dX11_cue_1 : decode cX11_cue 1 = .ok (.getfield 10, 3) := by decide +kernel
theorem dX11_cue_4 : decode cX11_cue 4 = .ok (.iload_n 1, 1) := by decide +kernel
theorem dX11_cue_5 : decode cX11_cue 5 = .ok (.invokevirtual 92, 3) := by decide +kernel
theorem dX11_cue_8 : decode cX11_cue 8 = .ok (.astore 4, 2) := by decide +kernel
theorem dX11_cue_10 : decode cX11_cue 10 = .ok (.aload 4, 2) := by decide +kernel
theorem dX11_cue_12 : decode cX11_cue 12 = .ok (.ifnull 10, 3) := by decide +kernel
theorem dX11_cue_15 : decode cX11_cue 15 = .ok (.iload_n 2, 1) := by decide +kernel
theorem dX11_cue_16 : decode cX11_cue 16 = .ok (.invokestatic 158, 3) := by decide +kernel
theorem dX11_cue_19 : decode cX11_cue 19 = .ok (.ifCond .ne 5, 3) := by decide +kernel
theorem dX11_cue_22 : decode cX11_cue 22 = .ok (.iconst (-1), 1) := by decide +kernel
theorem dX11_cue_23 : decode cX11_cue 23 = .ok (.ireturn, 1) := by decide +kernel
theorem dX11_cue_24 : decode cX11_cue 24 = .ok (.iload_n 3, 1) := by decide +kernel
theorem dX11_cue_25 : decode cX11_cue 25 = .ok (.tableswitch 75 0 2 #[27, 42, 50], 27) := by decide +kernel
theorem dX11_cue_52 : decode cX11_cue 52 = .ok (.aload 4, 2) := by decide +kernel
theorem dX11_cue_54 : decode cX11_cue 54 = .ok (.iload_n 2, 1) := by decide +kernel
theorem dX11_cue_55 : decode cX11_cue 55 = .ok (.invokevirtual 174, 3) := by decide +kernel
theorem dX11_cue_58 : decode cX11_cue 58 = .ok (.ifCond .eq 7, 3) := by decide +kernel
theorem dX11_cue_61 : decode cX11_cue 61 = .ok (.iconst 1, 1) := by decide +kernel
theorem dX11_cue_62 : decode cX11_cue 62 = .ok (.goto 4, 3) := by decide +kernel
theorem dX11_cue_65 : decode cX11_cue 65 = .ok (.iconst 0, 1) := by decide +kernel
theorem dX11_cue_66 : decode cX11_cue 66 = .ok (.ireturn, 1) := by decide +kernel
theorem dX11_cue_67 : decode cX11_cue 67 = .ok (.aload 4, 2) := by decide +kernel
theorem dX11_cue_69 : decode cX11_cue 69 = .ok (.getfield 177, 3) := by decide +kernel
theorem dX11_cue_72 : decode cX11_cue 72 = .ok (.iload_n 2, 1) := by decide +kernel
theorem dX11_cue_73 : decode cX11_cue 73 = .ok (.iaload, 1) := by decide +kernel
theorem dX11_cue_74 : decode cX11_cue 74 = .ok (.ireturn, 1) := by decide +kernel
theorem dX11_cue_75 : decode cX11_cue 75 = .ok (.aload_n 0, 1) := by decide +kernel
theorem dX11_cue_76 : decode cX11_cue 76 = .ok (.getfield 42, 3) := by decide +kernel
theorem dX11_cue_79 : decode cX11_cue 79 = .ok (.aload 4, 2) := by decide +kernel
theorem dX11_cue_81 : decode cX11_cue 81 = .ok (.iload_n 2, 1) := by decide +kernel
theorem dX11_cue_82 : decode cX11_cue 82 = .ok (.aload_n 0, 1) := by decide +kernel
theorem dX11_cue_83 : decode cX11_cue 83 = .ok (.getfield 10, 3) := by decide +kernel
theorem dX11_cue_86 : decode cX11_cue 86 = .ok (.getfield 78, 3) := by decide +kernel
theorem dX11_cue_89 : decode cX11_cue 89 = .ok (.invokevirtual 240, 3) := by decide +kernel
theorem dX11_cue_92 : decode cX11_cue 92 = .ok (.aload_n 0, 1) := by decide +kernel
theorem dX11_cue_93 : decode cX11_cue 93 = .ok (.getfield 42, 3) := by decide +kernel
theorem dX11_cue_96 : decode cX11_cue 96 = .ok (.invokevirtual 244, 3) := by decide +kernel
theorem dX11_cue_99 : decode cX11_cue 99 = .ok (.ireturn, 1) := by decide +kernel
theorem dX11_cue_100 : decode cX11_cue 100 = .ok (.bipush (-2), 2) := by decide +kernel
theorem dX11_cue_102 : decode cX11_cue 102 = .ok (.ireturn, 1) := by decide +kernel
theorem dX11_inCue_0 : decode cX11_inCue 0 = .ok (.aload_n 0, 1) := by decide +kernel
theorem dX11_inCue_1 : decode cX11_inCue 1 = .ok (.getfield 10, 3) := by decide +kernel
theorem dX11_inCue_4 : decode cX11_inCue 4 = .ok (.iload_n 1, 1) := by decide +kernel
theorem dX11_inCue_5 : decode cX11_inCue 5 = .ok (.invokevirtual 92, 3) := by decide +kernel
theorem dX11_inCue_8 : decode cX11_inCue 8 = .ok (.astore 4, 2) := by decide +kernel
theorem dX11_inCue_10 : decode cX11_inCue 10 = .ok (.aload 4, 2) := by decide +kernel
theorem dX11_inCue_12 : decode cX11_inCue 12 = .ok (.ifnull 19, 3) := by decide +kernel
theorem dX11_inCue_15 : decode cX11_inCue 15 = .ok (.iload_n 2, 1) := by decide +kernel
theorem dX11_inCue_16 : decode cX11_inCue 16 = .ok (.invokestatic 158, 3) := by decide +kernel
theorem dX11_inCue_19 : decode cX11_inCue 19 = .ok (.ifCond .eq 12, 3) := by decide +kernel
theorem dX11_inCue_22 : decode cX11_inCue 22 = .ok (.aload 4, 2) := by decide +kernel
theorem dX11_inCue_24 : decode cX11_inCue 24 = .ok (.iload_n 3, 1) := by decide +kernel
theorem dX11_inCue_25 : decode cX11_inCue 25 = .ok (.invokevirtual 121, 3) := by decide +kernel
theorem dX11_inCue_28 : decode cX11_inCue 28 = .ok (.ifCond .ne 5, 3) := by decide +kernel
theorem dX11_inCue_31 : decode cX11_inCue 31 = .ok (.iconst (-1), 1) := by decide +kernel
theorem dX11_inCue_32 : decode cX11_inCue 32 = .ok (.ireturn, 1) := by decide +kernel
theorem dX11_inCue_33 : decode cX11_inCue 33 = .ok (.aload 4, 2) := by decide +kernel
theorem dX11_inCue_35 : decode cX11_inCue 35 = .ok (.iload_n 2, 1) := by decide +kernel
theorem dX11_inCue_36 : decode cX11_inCue 36 = .ok (.invokevirtual 174, 3) := by decide +kernel
theorem dX11_inCue_39 : decode cX11_inCue 39 = .ok (.ifCond .eq 15, 3) := by decide +kernel
theorem dX11_inCue_42 : decode cX11_inCue 42 = .ok (.aload 4, 2) := by decide +kernel
theorem dX11_inCue_44 : decode cX11_inCue 44 = .ok (.getfield 247, 3) := by decide +kernel
theorem dX11_inCue_47 : decode cX11_inCue 47 = .ok (.iload_n 2, 1) := by decide +kernel
theorem dX11_inCue_48 : decode cX11_inCue 48 = .ok (.aaload, 1) := by decide +kernel
theorem dX11_inCue_49 : decode cX11_inCue 49 = .ok (.iload_n 3, 1) := by decide +kernel
theorem dX11_inCue_50 : decode cX11_inCue 50 = .ok (.iaload, 1) := by decide +kernel
theorem dX11_inCue_51 : decode cX11_inCue 51 = .ok (.goto 5, 3) := by decide +kernel
theorem dX11_inCue_54 : decode cX11_inCue 54 = .ok (.bipush (-6), 2) := by decide +kernel
theorem dX11_inCue_56 : decode cX11_inCue 56 = .ok (.ireturn, 1) := by decide +kernel
theorem dX11_of_0 : decode cX11_of 0 = .ok (.aload_n 0, 1) := by decide +kernel
theorem dX11_of_1 : decode cX11_of 1 = .ok (.getfield 10, 3) := by decide +kernel
theorem dX11_of_4 : decode cX11_of 4 = .ok (.iload_n 1, 1) := by decide +kernel
theorem dX11_of_5 : decode cX11_of 5 = .ok (.invokevirtual 92, 3) := by decide +kernel
theorem dX11_of_8 : decode cX11_of 8 = .ok (.astore_n 3, 1) := by decide +kernel
theorem dX11_of_9 : decode cX11_of 9 = .ok (.aload_n 3, 1) := by decide +kernel
theorem dX11_of_10 : decode cX11_of 10 = .ok (.ifnonnull 5, 3) := by decide +kernel
theorem dX11_of_13 : decode cX11_of 13 = .ok (.iconst (-1), 1) := by decide +kernel
theorem dX11_of_14 : decode cX11_of 14 = .ok (.ireturn, 1) := by decide +kernel
theorem dX11_of_15 : decode cX11_of 15 = .ok (.iload_n 2, 1) := by decide +kernel
theorem dX11_of_16 : decode cX11_of 16 = .ok (.tableswitch 156 0 8 #[52, 57, 62, 67, 72, 80, 103, 111, 119], 52) := by decide +kernel
theorem dX11_of_68 : decode cX11_of 68 = .ok (.aload_n 3, 1) := by decide +kernel
theorem dX11_of_69 : decode cX11_of 69 = .ok (.getfield 106, 3) := by decide +kernel
theorem dX11_of_72 : decode cX11_of 72 = .ok (.ireturn, 1) := by decide +kernel
theorem dX11_of_73 : decode cX11_of 73 = .ok (.aload_n 3, 1) := by decide +kernel
theorem dX11_of_74 : decode cX11_of 74 = .ok (.getfield 100, 3) := by decide +kernel
theorem dX11_of_77 : decode cX11_of 77 = .ok (.ireturn, 1) := by decide +kernel
theorem dX11_of_78 : decode cX11_of 78 = .ok (.aload_n 3, 1) := by decide +kernel
theorem dX11_of_79 : decode cX11_of 79 = .ok (.getfield 251, 3) := by decide +kernel
theorem dX11_of_82 : decode cX11_of 82 = .ok (.ireturn, 1) := by decide +kernel
theorem dX11_of_83 : decode cX11_of 83 = .ok (.aload_n 3, 1) := by decide +kernel
theorem dX11_of_84 : decode cX11_of 84 = .ok (.invokevirtual 165, 3) := by decide +kernel
theorem dX11_of_87 : decode cX11_of 87 = .ok (.ireturn, 1) := by decide +kernel
theorem dX11_of_88 : decode cX11_of 88 = .ok (.aload_n 3, 1) := by decide +kernel
theorem dX11_of_89 : decode cX11_of 89 = .ok (.getfield 254, 3) := by decide +kernel
theorem dX11_of_92 : decode cX11_of 92 = .ok (.invokevirtual 258, 3) := by decide +kernel
theorem dX11_of_95 : decode cX11_of 95 = .ok (.ireturn, 1) := by decide +kernel
theorem dX11_of_96 : decode cX11_of 96 = .ok (.aload_n 0, 1) := by decide +kernel
theorem dX11_of_97 : decode cX11_of 97 = .ok (.getfield 42, 3) := by decide +kernel
theorem dX11_of_100 : decode cX11_of 100 = .ok (.aload_n 3, 1) := by decide +kernel
theorem dX11_of_101 : decode cX11_of 101 = .ok (.aload_n 0, 1) := by decide +kernel
theorem dX11_of_102 : decode cX11_of 102 = .ok (.getfield 10, 3) := by decide +kernel
theorem dX11_of_105 : decode cX11_of 105 = .ok (.getfield 78, 3) := by decide +kernel
theorem dX11_of_108 : decode cX11_of 108 = .ok (.invokevirtual 216, 3) := by decide +kernel
theorem dX11_of_111 : decode cX11_of 111 = .ok (.aload_n 0, 1) := by decide +kernel
theorem dX11_of_112 : decode cX11_of 112 = .ok (.getfield 42, 3) := by decide +kernel
theorem dX11_of_115 : decode cX11_of 115 = .ok (.invokevirtual 244, 3) := by decide +kernel
theorem dX11_of_118 : decode cX11_of 118 = .ok (.ireturn, 1) := by decide +kernel
theorem dX11_of_119 : decode cX11_of 119 = .ok (.aload_n 3, 1) := by decide +kernel
theorem dX11_of_120 : decode cX11_of 120 = .ok (.getfield 219, 3) := by decide +kernel
theorem dX11_of_123 : decode cX11_of 123 = .ok (.getfield 263, 3) := by decide +kernel
theorem dX11_of_126 : decode cX11_of 126 = .ok (.ireturn, 1) := by decide +kernel
theorem dX11_of_127 : decode cX11_of 127 = .ok (.aload_n 3, 1) := by decide +kernel
theorem dX11_of_128 : decode cX11_of 128 = .ok (.getfield 234, 3) := by decide +kernel
theorem dX11_of_131 : decode cX11_of 131 = .ok (.getfield 263, 3) := by decide +kernel
theorem dX11_of_134 : decode cX11_of 134 = .ok (.ireturn, 1) := by decide +kernel
theorem dX11_of_135 : decode cX11_of 135 = .ok (.aload_n 0, 1) := by decide +kernel
theorem dX11_of_136 : decode cX11_of 136 = .ok (.getfield 42, 3) := by decide +kernel
theorem dX11_of_139 : decode cX11_of 139 = .ok (.aload_n 3, 1) := by decide +kernel
theorem dX11_of_140 : decode cX11_of 140 = .ok (.aload_n 0, 1) := by decide +kernel
theorem dX11_of_141 : decode cX11_of 141 = .ok (.getfield 10, 3) := by decide +kernel
theorem dX11_of_144 : decode cX11_of 144 = .ok (.getfield 78, 3) := by decide +kernel
theorem dX11_of_147 : decode cX11_of 147 = .ok (.invokevirtual 216, 3) := by decide +kernel
theorem dX11_of_150 : decode cX11_of 150 = .ok (.aload_n 0, 1) := by decide +kernel
theorem dX11_of_151 : decode cX11_of 151 = .ok (.getfield 42, 3) := by decide +kernel
theorem dX11_of_154 : decode cX11_of 154 = .ok (.getfield 148, 3) := by decide +kernel
theorem dX11_of_157 : decode cX11_of 157 = .ok (.invokestatic 266, 3) := by decide +kernel
theorem dX11_of_160 : decode cX11_of 160 = .ok (.aload_n 0, 1) := by decide +kernel
theorem dX11_of_161 : decode cX11_of 161 = .ok (.getfield 42, 3) := by decide +kernel
theorem dX11_of_164 : decode cX11_of 164 = .ok (.getfield 148, 3) := by decide +kernel
theorem dX11_of_167 : decode cX11_of 167 = .ok (.invokestatic 270, 3) := by decide +kernel
theorem dX11_of_170 : decode cX11_of 170 = .ok (.isub, 1) := by decide +kernel
theorem dX11_of_171 : decode cX11_of 171 = .ok (.ireturn, 1) := by decide +kernel
theorem dX11_of_172 : decode cX11_of 172 = .ok (.bipush (-2), 2) := by decide +kernel
theorem dX11_of_174 : decode cX11_of 174 = .ok (.ireturn, 1) := by decide +kernel
theorem dX11_hire_0 : decode cX11_hire 0 = .ok (.aload_n 0, 1) := by decide +kernel
theorem dX11_hire_1 : decode cX11_hire 1 = .ok (.getfield 10, 3) := by decide +kernel
theorem dX11_hire_4 : decode cX11_hire 4 = .ok (.getfield 78, 3) := by decide +kernel
theorem dX11_hire_7 : decode cX11_hire 7 = .ok (.iload_n 1, 1) := by decide +kernel
theorem dX11_hire_8 : decode cX11_hire 8 = .ok (.invokevirtual 109, 3) := by decide +kernel
theorem dX11_hire_11 : decode cX11_hire 11 = .ok (.ifCond .ne 5, 3) := by decide +kernel
theorem dX11_hire_14 : decode cX11_hire 14 = .ok (.iconst (-1), 1) := by decide +kernel
theorem dX11_hire_15 : decode cX11_hire 15 = .ok (.ireturn, 1) := by decide +kernel
theorem dX11_hire_16 : decode cX11_hire 16 = .ok (.iload_n 2, 1) := by decide +kernel
theorem dX11_hire_17 : decode cX11_hire 17 = .ok (.iconst 0, 1) := by decide +kernel
theorem dX11_hire_18 : decode cX11_hire 18 = .ok (.bipush 6, 2) := by decide +kernel
theorem dX11_hire_20 : decode cX11_hire 20 = .ok (.invokestatic 64, 3) := by decide +kernel
theorem dX11_hire_23 : decode cX11_hire 23 = .ok (.ifCond .ne 6, 3) := by decide +kernel
theorem dX11_hire_26 : decode cX11_hire 26 = .ok (.bipush (-2), 2) := by decide +kernel
theorem dX11_hire_28 : decode cX11_hire 28 = .ok (.ireturn, 1) := by decide +kernel
theorem dX11_hire_29 : decode cX11_hire 29 = .ok (.iload_n 3, 1) := by decide +kernel
theorem dX11_hire_30 : decode cX11_hire 30 = .ok (.tableswitch 56 0 2 #[26, 36, 46], 26) := by decide +kernel
theorem dX11_hire_56 : decode cX11_hire 56 = .ok (.aload_n 0, 1) := by decide +kernel
theorem dX11_hire_57 : decode cX11_hire 57 = .ok (.getfield 10, 3) := by decide +kernel
theorem dX11_hire_60 : decode cX11_hire 60 = .ok (.iload_n 1, 1) := by decide +kernel
theorem dX11_hire_61 : decode cX11_hire 61 = .ok (.iload_n 2, 1) := by decide +kernel
theorem dX11_hire_62 : decode cX11_hire 62 = .ok (.invokevirtual 273, 3) := by decide +kernel
theorem dX11_hire_65 : decode cX11_hire 65 = .ok (.ireturn, 1) := by decide +kernel
theorem dX11_hire_66 : decode cX11_hire 66 = .ok (.aload_n 0, 1) := by decide +kernel
theorem dX11_hire_67 : decode cX11_hire 67 = .ok (.getfield 10, 3) := by decide +kernel
theorem dX11_hire_70 : decode cX11_hire 70 = .ok (.iload_n 1, 1) := by decide +kernel
theorem dX11_hire_71 : decode cX11_hire 71 = .ok (.iload_n 2, 1) := by decide +kernel
theorem dX11_hire_72 : decode cX11_hire 72 = .ok (.invokevirtual 276, 3) := by decide +kernel
theorem dX11_hire_75 : decode cX11_hire 75 = .ok (.ireturn, 1) := by decide +kernel
theorem dX11_hire_76 : decode cX11_hire 76 = .ok (.aload_n 0, 1) := by decide +kernel
theorem dX11_hire_77 : decode cX11_hire 77 = .ok (.getfield 10, 3) := by decide +kernel
theorem dX11_hire_80 : decode cX11_hire 80 = .ok (.iload_n 1, 1) := by decide +kernel
theorem dX11_hire_81 : decode cX11_hire 81 = .ok (.iload_n 2, 1) := by decide +kernel
theorem dX11_hire_82 : decode cX11_hire 82 = .ok (.invokevirtual 279, 3) := by decide +kernel
theorem dX11_hire_85 : decode cX11_hire 85 = .ok (.ireturn, 1) := by decide +kernel
theorem dX11_hire_86 : decode cX11_hire 86 = .ok (.bipush (-2), 2) := by decide +kernel
theorem dX11_hire_88 : decode cX11_hire 88 = .ok (.ireturn, 1) := by decide +kernel
theorem dX11_count_0 : decode cX11_count 0 = .ok (.iload_n 1, 1) := by decide +kernel
theorem dX11_count_1 : decode cX11_count 1 = .ok (.tableswitch 132 0 8 #[51, 62, 70, 78, 86, 96, 106, 116, 124], 51) := by decide +kernel
theorem dX11_count_52 : decode cX11_count 52 = .ok (.aload_n 0, 1) := by decide +kernel
theorem dX11_count_53 : decode cX11_count 53 = .ok (.getfield 10, 3) := by decide +kernel
theorem dX11_count_56 : decode cX11_count 56 = .ok (.getfield 78, 3) := by decide +kernel
theorem dX11_count_59 : decode cX11_count 59 = .ok (.getfield 282, 3) := by decide +kernel
theorem dX11_count_62 : decode cX11_count 62 = .ok (.ireturn, 1) := by decide +kernel
theorem dX11_count_63 : decode cX11_count 63 = .ok (.aload_n 0, 1) := by decide +kernel
theorem dX11_count_64 : decode cX11_count 64 = .ok (.getfield 10, 3) := by decide +kernel
theorem dX11_count_67 : decode cX11_count 67 = .ok (.invokevirtual 285, 3) := by decide +kernel
theorem dX11_count_70 : decode cX11_count 70 = .ok (.ireturn, 1) := by decide +kernel
theorem dX11_count_71 : decode cX11_count 71 = .ok (.aload_n 0, 1) := by decide +kernel
theorem dX11_count_72 : decode cX11_count 72 = .ok (.getfield 10, 3) := by decide +kernel
theorem dX11_count_75 : decode cX11_count 75 = .ok (.invokevirtual 288, 3) := by decide +kernel
theorem dX11_count_78 : decode cX11_count 78 = .ok (.ireturn, 1) := by decide +kernel
theorem dX11_count_79 : decode cX11_count 79 = .ok (.aload_n 0, 1) := by decide +kernel
theorem dX11_count_80 : decode cX11_count 80 = .ok (.getfield 10, 3) := by decide +kernel
theorem dX11_count_83 : decode cX11_count 83 = .ok (.invokevirtual 291, 3) := by decide +kernel
theorem dX11_count_86 : decode cX11_count 86 = .ok (.ireturn, 1) := by decide +kernel
theorem dX11_count_87 : decode cX11_count 87 = .ok (.aload_n 0, 1) := by decide +kernel
theorem dX11_count_88 : decode cX11_count 88 = .ok (.getfield 10, 3) := by decide +kernel
theorem dX11_count_91 : decode cX11_count 91 = .ok (.getfield 75, 3) := by decide +kernel
theorem dX11_count_94 : decode cX11_count 94 = .ok (.iconst 0, 1) := by decide +kernel
theorem dX11_count_95 : decode cX11_count 95 = .ok (.iaload, 1) := by decide +kernel
theorem dX11_count_96 : decode cX11_count 96 = .ok (.ireturn, 1) := by decide +kernel
theorem dX11_count_97 : decode cX11_count 97 = .ok (.aload_n 0, 1) := by decide +kernel
theorem dX11_count_98 : decode cX11_count 98 = .ok (.getfield 10, 3) := by decide +kernel
theorem dX11_count_101 : decode cX11_count 101 = .ok (.getfield 75, 3) := by decide +kernel
theorem dX11_count_104 : decode cX11_count 104 = .ok (.iconst 1, 1) := by decide +kernel
theorem dX11_count_105 : decode cX11_count 105 = .ok (.iaload, 1) := by decide +kernel
theorem dX11_count_106 : decode cX11_count 106 = .ok (.ireturn, 1) := by decide +kernel
theorem dX11_count_107 : decode cX11_count 107 = .ok (.aload_n 0, 1) := by decide +kernel
theorem dX11_count_108 : decode cX11_count 108 = .ok (.getfield 10, 3) := by decide +kernel
theorem dX11_count_111 : decode cX11_count 111 = .ok (.getfield 75, 3) := by decide +kernel
theorem dX11_count_114 : decode cX11_count 114 = .ok (.iconst 2, 1) := by decide +kernel
theorem dX11_count_115 : decode cX11_count 115 = .ok (.iaload, 1) := by decide +kernel
theorem dX11_count_116 : decode cX11_count 116 = .ok (.ireturn, 1) := by decide +kernel
theorem dX11_count_117 : decode cX11_count 117 = .ok (.aload_n 0, 1) := by decide +kernel
theorem dX11_count_118 : decode cX11_count 118 = .ok (.getfield 38, 3) := by decide +kernel
theorem dX11_count_121 : decode cX11_count 121 = .ok (.getfield 197, 3) := by decide +kernel
theorem dX11_count_124 : decode cX11_count 124 = .ok (.ireturn, 1) := by decide +kernel
theorem dX11_count_125 : decode cX11_count 125 = .ok (.aload_n 0, 1) := by decide +kernel
theorem dX11_count_126 : decode cX11_count 126 = .ok (.getfield 19, 3) := by decide +kernel
theorem dX11_count_129 : decode cX11_count 129 = .ok (.getfield 294, 3) := by decide +kernel
theorem dX11_count_132 : decode cX11_count 132 = .ok (.ireturn, 1) := by decide +kernel
theorem dX11_count_133 : decode cX11_count 133 = .ok (.bipush (-2), 2) := by decide +kernel
theorem dX11_count_135 : decode cX11_count 135 = .ok (.ireturn, 1) := by decide +kernel
theorem dX11_ifGo_0 : decode cX11_ifGo 0 = .ok (.aload_n 0, 1) := by decide +kernel
theorem dX11_ifGo_1 : decode cX11_ifGo 1 = .ok (.getfield 10, 3) := by decide +kernel
theorem dX11_ifGo_4 : decode cX11_ifGo 4 = .ok (.iload_n 1, 1) := by decide +kernel
theorem dX11_ifGo_5 : decode cX11_ifGo 5 = .ok (.invokevirtual 92, 3) := by decide +kernel
theorem dX11_ifGo_8 : decode cX11_ifGo 8 = .ok (.astore 4, 2) := by decide +kernel
theorem dX11_ifGo_10 : decode cX11_ifGo 10 = .ok (.aload 4, 2) := by decide +kernel
theorem dX11_ifGo_12 : decode cX11_ifGo 12 = .ok (.ifnull 10, 3) := by decide +kernel
theorem dX11_ifGo_15 : decode cX11_ifGo 15 = .ok (.iload_n 2, 1) := by decide +kernel
theorem dX11_ifGo_16 : decode cX11_ifGo 16 = .ok (.invokestatic 158, 3) := by decide +kernel
theorem dX11_ifGo_19 : decode cX11_ifGo 19 = .ok (.ifCond .ne 5, 3) := by decide +kernel
theorem dX11_ifGo_22 : decode cX11_ifGo 22 = .ok (.iconst (-1), 1) := by decide +kernel
theorem dX11_ifGo_23 : decode cX11_ifGo 23 = .ok (.ireturn, 1) := by decide +kernel
theorem dX11_ifGo_24 : decode cX11_ifGo 24 = .ok (.iload_n 3, 1) := by decide +kernel
theorem dX11_ifGo_25 : decode cX11_ifGo 25 = .ok (.iconst 0, 1) := by decide +kernel
theorem dX11_ifGo_26 : decode cX11_ifGo 26 = .ok (.iconst 3, 1) := by decide +kernel
theorem dX11_ifGo_27 : decode cX11_ifGo 27 = .ok (.invokestatic 64, 3) := by decide +kernel
theorem dX11_ifGo_30 : decode cX11_ifGo 30 = .ok (.ifCond .ne 6, 3) := by decide +kernel
theorem dX11_ifGo_33 : decode cX11_ifGo 33 = .ok (.bipush (-2), 2) := by decide +kernel
theorem dX11_ifGo_35 : decode cX11_ifGo 35 = .ok (.ireturn, 1) := by decide +kernel
theorem dX11_ifGo_36 : decode cX11_ifGo 36 = .ok (.aload 4, 2) := by decide +kernel
theorem dX11_ifGo_38 : decode cX11_ifGo 38 = .ok (.iload_n 2, 1) := by decide +kernel
theorem dX11_ifGo_39 : decode cX11_ifGo 39 = .ok (.invokevirtual 174, 3) := by decide +kernel
theorem dX11_ifGo_42 : decode cX11_ifGo 42 = .ok (.ifCond .ne 6, 3) := by decide +kernel
theorem dX11_ifGo_45 : decode cX11_ifGo 45 = .ok (.bipush (-5), 2) := by decide +kernel
theorem dX11_ifGo_47 : decode cX11_ifGo 47 = .ok (.ireturn, 1) := by decide +kernel
theorem dX11_ifGo_48 : decode cX11_ifGo 48 = .ok (.aload_n 0, 1) := by decide +kernel
theorem dX11_ifGo_49 : decode cX11_ifGo 49 = .ok (.getfield 56, 3) := by decide +kernel
theorem dX11_ifGo_52 : decode cX11_ifGo 52 = .ok (.aload_n 0, 1) := by decide +kernel
theorem dX11_ifGo_53 : decode cX11_ifGo 53 = .ok (.getfield 10, 3) := by decide +kernel
theorem dX11_ifGo_56 : decode cX11_ifGo 56 = .ok (.aload 4, 2) := by decide +kernel
theorem dX11_ifGo_58 : decode cX11_ifGo 58 = .ok (.iload_n 2, 1) := by decide +kernel
theorem dX11_ifGo_59 : decode cX11_ifGo 59 = .ok (.aload_n 0, 1) := by decide +kernel
theorem dX11_ifGo_60 : decode cX11_ifGo 60 = .ok (.getfield 42, 3) := by decide +kernel
theorem dX11_ifGo_63 : decode cX11_ifGo 63 = .ok (.invokevirtual 297, 3) := by decide +kernel
theorem dX11_ifGo_66 : decode cX11_ifGo 66 = .ok (.iload_n 3, 1) := by decide +kernel
theorem dX11_ifGo_67 : decode cX11_ifGo 67 = .ok (.tableswitch 49 0 2 #[25, 33, 41], 25) := by decide +kernel
theorem dX11_ifGo_92 : decode cX11_ifGo 92 = .ok (.aload_n 0, 1) := by decide +kernel
theorem dX11_ifGo_93 : decode cX11_ifGo 93 = .ok (.getfield 56, 3) := by decide +kernel
theorem dX11_ifGo_96 : decode cX11_ifGo 96 = .ok (.getfield 301, 3) := by decide +kernel
theorem dX11_ifGo_99 : decode cX11_ifGo 99 = .ok (.ireturn, 1) := by decide +kernel
theorem dX11_ifGo_100 : decode cX11_ifGo 100 = .ok (.aload_n 0, 1) := by decide +kernel
theorem dX11_ifGo_101 : decode cX11_ifGo 101 = .ok (.getfield 56, 3) := by decide +kernel
theorem dX11_ifGo_104 : decode cX11_ifGo 104 = .ok (.getfield 304, 3) := by decide +kernel
theorem dX11_ifGo_107 : decode cX11_ifGo 107 = .ok (.ireturn, 1) := by decide +kernel
theorem dX11_ifGo_108 : decode cX11_ifGo 108 = .ok (.aload_n 0, 1) := by decide +kernel
theorem dX11_ifGo_109 : decode cX11_ifGo 109 = .ok (.getfield 56, 3) := by decide +kernel
theorem dX11_ifGo_112 : decode cX11_ifGo 112 = .ok (.getfield 307, 3) := by decide +kernel
theorem dX11_ifGo_115 : decode cX11_ifGo 115 = .ok (.ireturn, 1) := by decide +kernel
theorem dX11_ifGo_116 : decode cX11_ifGo 116 = .ok (.aload_n 0, 1) := by decide +kernel
theorem dX11_ifGo_117 : decode cX11_ifGo 117 = .ok (.getfield 56, 3) := by decide +kernel
theorem dX11_ifGo_120 : decode cX11_ifGo 120 = .ok (.getfield 310, 3) := by decide +kernel
theorem dX11_ifGo_123 : decode cX11_ifGo 123 = .ok (.ireturn, 1) := by decide +kernel
theorem dX11_safeTicks_0 : decode cX11_safeTicks 0 = .ok (.aload_n 0, 1) := by decide +kernel
theorem dX11_safeTicks_1 : decode cX11_safeTicks 1 = .ok (.getfield 10, 3) := by decide +kernel
theorem dX11_safeTicks_4 : decode cX11_safeTicks 4 = .ok (.iload_n 1, 1) := by decide +kernel
theorem dX11_safeTicks_5 : decode cX11_safeTicks 5 = .ok (.invokevirtual 92, 3) := by decide +kernel
theorem dX11_safeTicks_8 : decode cX11_safeTicks 8 = .ok (.astore_n 3, 1) := by decide +kernel
theorem dX11_safeTicks_9 : decode cX11_safeTicks 9 = .ok (.aload_n 3, 1) := by decide +kernel
theorem dX11_safeTicks_10 : decode cX11_safeTicks 10 = .ok (.ifnull 10, 3) := by decide +kernel
theorem dX11_safeTicks_13 : decode cX11_safeTicks 13 = .ok (.iload_n 2, 1) := by decide +kernel
theorem dX11_safeTicks_14 : decode cX11_safeTicks 14 = .ok (.invokestatic 158, 3) := by decide +kernel
theorem dX11_safeTicks_17 : decode cX11_safeTicks 17 = .ok (.ifCond .ne 5, 3) := by decide +kernel
theorem dX11_safeTicks_20 : decode cX11_safeTicks 20 = .ok (.iconst (-1), 1) := by decide +kernel
theorem dX11_safeTicks_21 : decode cX11_safeTicks 21 = .ok (.ireturn, 1) := by decide +kernel
theorem dX11_safeTicks_22 : decode cX11_safeTicks 22 = .ok (.aload_n 3, 1) := by decide +kernel
theorem dX11_safeTicks_23 : decode cX11_safeTicks 23 = .ok (.iload_n 2, 1) := by decide +kernel
theorem dX11_safeTicks_24 : decode cX11_safeTicks 24 = .ok (.invokevirtual 174, 3) := by decide +kernel
theorem dX11_safeTicks_27 : decode cX11_safeTicks 27 = .ok (.ifCond .ne 6, 3) := by decide +kernel
theorem dX11_safeTicks_30 : decode cX11_safeTicks 30 = .ok (.bipush (-5), 2) := by decide +kernel
theorem dX11_safeTicks_32 : decode cX11_safeTicks 32 = .ok (.ireturn, 1) := by decide +kernel
theorem dX11_safeTicks_33 : decode cX11_safeTicks 33 = .ok (.iconst 1, 1) := by decide +kernel
theorem dX11_safeTicks_34 : decode cX11_safeTicks 34 = .ok (.istore 4, 2) := by decide +kernel
theorem dX11_safeTicks_36 : decode cX11_safeTicks 36 = .ok (.iload 4, 2) := by decide +kernel
theorem dX11_safeTicks_38 : decode cX11_safeTicks 38 = .ok (.bipush 50, 2) := by decide +kernel
theorem dX11_safeTicks_40 : decode cX11_safeTicks 40 = .ok (.if_icmp .gt 34, 3) := by decide +kernel
theorem dX11_safeTicks_43 : decode cX11_safeTicks 43 = .ok (.aload_n 0, 1) := by decide +kernel
theorem dX11_safeTicks_44 : decode cX11_safeTicks 44 = .ok (.getfield 56, 3) := by decide +kernel
theorem dX11_safeTicks_47 : decode cX11_safeTicks 47 = .ok (.aload_n 0, 1) := by decide +kernel
theorem dX11_safeTicks_48 : decode cX11_safeTicks 48 = .ok (.getfield 10, 3) := by decide +kernel
theorem dX11_safeTicks_51 : decode cX11_safeTicks 51 = .ok (.aload_n 3, 1) := by decide +kernel
theorem dX11_safeTicks_52 : decode cX11_safeTicks 52 = .ok (.iload_n 2, 1) := by decide +kernel
theorem dX11_safeTicks_53 : decode cX11_safeTicks 53 = .ok (.iload 4, 2) := by decide +kernel
theorem dX11_safeTicks_55 : decode cX11_safeTicks 55 = .ok (.aload_n 0, 1) := by decide +kernel
theorem dX11_safeTicks_56 : decode cX11_safeTicks 56 = .ok (.getfield 42, 3) := by decide +kernel
theorem dX11_safeTicks_59 : decode cX11_safeTicks 59 = .ok (.invokevirtual 313, 3) := by decide +kernel
theorem dX11_safeTicks_62 : decode cX11_safeTicks 62 = .ok (.ifCond .eq 6, 3) := by decide +kernel
theorem dX11_safeTicks_65 : decode cX11_safeTicks 65 = .ok (.iload 4, 2) := by decide +kernel
theorem dX11_safeTicks_67 : decode cX11_safeTicks 67 = .ok (.ireturn, 1) := by decide +kernel
theorem dX11_safeTicks_68 : decode cX11_safeTicks 68 = .ok (.iinc 4 1, 3) := by decide +kernel
theorem dX11_safeTicks_71 : decode cX11_safeTicks 71 = .ok (.goto (-35), 3) := by decide +kernel
theorem dX11_safeTicks_74 : decode cX11_safeTicks 74 = .ok (.bipush (-6), 2) := by decide +kernel
theorem dX11_safeTicks_76 : decode cX11_safeTicks 76 = .ok (.ireturn, 1) := by decide +kernel
theorem dX11_bestFeed_0 : decode cX11_bestFeed 0 = .ok (.aload_n 0, 1) := by decide +kernel
theorem dX11_bestFeed_1 : decode cX11_bestFeed 1 = .ok (.getfield 10, 3) := by decide +kernel
theorem dX11_bestFeed_4 : decode cX11_bestFeed 4 = .ok (.iload_n 1, 1) := by decide +kernel
theorem dX11_bestFeed_5 : decode cX11_bestFeed 5 = .ok (.invokevirtual 92, 3) := by decide +kernel
theorem dX11_bestFeed_8 : decode cX11_bestFeed 8 = .ok (.astore_n 3, 1) := by decide +kernel
theorem dX11_bestFeed_9 : decode cX11_bestFeed 9 = .ok (.aload_n 3, 1) := by decide +kernel
theorem dX11_bestFeed_10 : decode cX11_bestFeed 10 = .ok (.ifnull 10, 3) := by decide +kernel
theorem dX11_bestFeed_13 : decode cX11_bestFeed 13 = .ok (.iload_n 2, 1) := by decide +kernel
theorem dX11_bestFeed_14 : decode cX11_bestFeed 14 = .ok (.invokestatic 131, 3) := by decide +kernel
theorem dX11_bestFeed_17 : decode cX11_bestFeed 17 = .ok (.ifCond .ne 5, 3) := by decide +kernel
theorem dX11_bestFeed_20 : decode cX11_bestFeed 20 = .ok (.iconst (-1), 1) := by decide +kernel
theorem dX11_bestFeed_21 : decode cX11_bestFeed 21 = .ok (.ireturn, 1) := by decide +kernel
theorem dX11_bestFeed_22 : decode cX11_bestFeed 22 = .ok (.aload_n 3, 1) := by decide +kernel
theorem dX11_bestFeed_23 : decode cX11_bestFeed 23 = .ok (.getfield 137, 3) := by decide +kernel
theorem dX11_bestFeed_26 : decode cX11_bestFeed 26 = .ok (.iload_n 2, 1) := by decide +kernel
theorem dX11_bestFeed_27 : decode cX11_bestFeed 27 = .ok (.iaload, 1) := by decide +kernel
theorem dX11_bestFeed_28 : decode cX11_bestFeed 28 = .ok (.istore 4, 2) := by decide +kernel
theorem dX11_bestFeed_30 : decode cX11_bestFeed 30 = .ok (.iconst 0, 1) := by decide +kernel
theorem dX11_bestFeed_31 : decode cX11_bestFeed 31 = .ok (.istore 5, 2) := by decide +kernel
theorem dX11_bestFeed_33 : decode cX11_bestFeed 33 = .ok (.iconst 0, 1) := by decide +kernel
theorem dX11_bestFeed_34 : decode cX11_bestFeed 34 = .ok (.istore 6, 2) := by decide +kernel
theorem dX11_bestFeed_36 : decode cX11_bestFeed 36 = .ok (.iconst 0, 1) := by decide +kernel
theorem dX11_bestFeed_37 : decode cX11_bestFeed 37 = .ok (.istore 7, 2) := by decide +kernel
theorem dX11_bestFeed_39 : decode cX11_bestFeed 39 = .ok (.iload 7, 2) := by decide +kernel
theorem dX11_bestFeed_41 : decode cX11_bestFeed 41 = .ok (.iconst 3, 1) := by decide +kernel
theorem dX11_bestFeed_42 : decode cX11_bestFeed 42 = .ok (.if_icmp .ge 67, 3) := by decide +kernel
theorem dX11_bestFeed_45 : decode cX11_bestFeed 45 = .ok (.aload_n 3, 1) := by decide +kernel
theorem dX11_bestFeed_46 : decode cX11_bestFeed 46 = .ok (.getfield 137, 3) := by decide +kernel
theorem dX11_bestFeed_49 : decode cX11_bestFeed 49 = .ok (.iload_n 2, 1) := by decide +kernel
theorem dX11_bestFeed_50 : decode cX11_bestFeed 50 = .ok (.iload 7, 2) := by decide +kernel
theorem dX11_bestFeed_52 : decode cX11_bestFeed 52 = .ok (.iastore, 1) := by decide +kernel
theorem dX11_bestFeed_53 : decode cX11_bestFeed 53 = .ok (.aload_n 0, 1) := by decide +kernel
theorem dX11_bestFeed_54 : decode cX11_bestFeed 54 = .ok (.getfield 49, 3) := by decide +kernel
theorem dX11_bestFeed_57 : decode cX11_bestFeed 57 = .ok (.aload_n 3, 1) := by decide +kernel
theorem dX11_bestFeed_58 : decode cX11_bestFeed 58 = .ok (.aload_n 0, 1) := by decide +kernel
theorem dX11_bestFeed_59 : decode cX11_bestFeed 59 = .ok (.getfield 10, 3) := by decide +kernel
theorem dX11_bestFeed_62 : decode cX11_bestFeed 62 = .ok (.getfield 78, 3) := by decide +kernel
theorem dX11_bestFeed_65 : decode cX11_bestFeed 65 = .ok (.invokevirtual 140, 3) := by decide +kernel
theorem dX11_bestFeed_68 : decode cX11_bestFeed 68 = .ok (.aload_n 0, 1) := by decide +kernel
theorem dX11_bestFeed_69 : decode cX11_bestFeed 69 = .ok (.getfield 49, 3) := by decide +kernel
theorem dX11_bestFeed_72 : decode cX11_bestFeed 72 = .ok (.getfield 144, 3) := by decide +kernel
theorem dX11_bestFeed_75 : decode cX11_bestFeed 75 = .ok (.getfield 148, 3) := by decide +kernel
theorem dX11_bestFeed_78 : decode cX11_bestFeed 78 = .ok (.invokestatic 266, 3) := by decide +kernel
theorem dX11_bestFeed_81 : decode cX11_bestFeed 81 = .ok (.istore 8, 2) := by decide +kernel
theorem dX11_bestFeed_83 : decode cX11_bestFeed 83 = .ok (.iload 7, 2) := by decide +kernel
theorem dX11_bestFeed_85 : decode cX11_bestFeed 85 = .ok (.ifCond .eq 10, 3) := by decide +kernel
theorem dX11_bestFeed_88 : decode cX11_bestFeed 88 = .ok (.iload 8, 2) := by decide +kernel
theorem dX11_bestFeed_90 : decode cX11_bestFeed 90 = .ok (.iload 6, 2) := by decide +kernel
theorem dX11_bestFeed_92 : decode cX11_bestFeed 92 = .ok (.if_icmp .ge 11, 3) := by decide +kernel
theorem dX11_bestFeed_95 : decode cX11_bestFeed 95 = .ok (.iload 8, 2) := by decide +kernel
theorem dX11_bestFeed_97 : decode cX11_bestFeed 97 = .ok (.istore 6, 2) := by decide +kernel
theorem dX11_bestFeed_99 : decode cX11_bestFeed 99 = .ok (.iload 7, 2) := by decide +kernel
theorem dX11_bestFeed_101 : decode cX11_bestFeed 101 = .ok (.istore 5, 2) := by decide +kernel
theorem dX11_bestFeed_103 : decode cX11_bestFeed 103 = .ok (.iinc 7 1, 3) := by decide +kernel
theorem dX11_bestFeed_106 : decode cX11_bestFeed 106 = .ok (.goto (-67), 3) := by decide +kernel
theorem dX11_bestFeed_109 : decode cX11_bestFeed 109 = .ok (.aload_n 3, 1) := by decide +kernel
theorem dX11_bestFeed_110 : decode cX11_bestFeed 110 = .ok (.getfield 137, 3) := by decide +kernel
theorem dX11_bestFeed_113 : decode cX11_bestFeed 113 = .ok (.iload_n 2, 1) := by decide +kernel
theorem dX11_bestFeed_114 : decode cX11_bestFeed 114 = .ok (.iload 4, 2) := by decide +kernel
theorem dX11_bestFeed_116 : decode cX11_bestFeed 116 = .ok (.iastore, 1) := by decide +kernel
theorem dX11_bestFeed_117 : decode cX11_bestFeed 117 = .ok (.iload 5, 2) := by decide +kernel
theorem dX11_bestFeed_119 : decode cX11_bestFeed 119 = .ok (.ireturn, 1) := by decide +kernel
theorem dX11_ifDays_0 : decode cX11_ifDays 0 = .ok (.aload_n 0, 1) := by decide +kernel
theorem dX11_ifDays_1 : decode cX11_ifDays 1 = .ok (.getfield 10, 3) := by decide +kernel
theorem dX11_ifDays_4 : decode cX11_ifDays 4 = .ok (.iload_n 1, 1) := by decide +kernel
theorem dX11_ifDays_5 : decode cX11_ifDays 5 = .ok (.invokevirtual 92, 3) := by decide +kernel
theorem dX11_ifDays_8 : decode cX11_ifDays 8 = .ok (.astore 4, 2) := by decide +kernel
theorem dX11_ifDays_10 : decode cX11_ifDays 10 = .ok (.aload 4, 2) := by decide +kernel
theorem dX11_ifDays_12 : decode cX11_ifDays 12 = .ok (.ifnonnull 5, 3) := by decide +kernel
theorem dX11_ifDays_15 : decode cX11_ifDays 15 = .ok (.iconst (-1), 1) := by decide +kernel
theorem dX11_ifDays_16 : decode cX11_ifDays 16 = .ok (.ireturn, 1) := by decide +kernel
theorem dX11_ifDays_17 : decode cX11_ifDays 17 = .ok (.iload_n 2, 1) := by decide +kernel
theorem dX11_ifDays_18 : decode cX11_ifDays 18 = .ok (.iload_n 3, 1) := by decide +kernel
theorem dX11_ifDays_19 : decode cX11_ifDays 19 = .ok (.invokestatic 96, 3) := by decide +kernel
theorem dX11_ifDays_22 : decode cX11_ifDays 22 = .ok (.ifCond .ne 6, 3) := by decide +kernel
theorem dX11_ifDays_25 : decode cX11_ifDays 25 = .ok (.bipush (-2), 2) := by decide +kernel
theorem dX11_ifDays_27 : decode cX11_ifDays 27 = .ok (.ireturn, 1) := by decide +kernel
theorem dX11_ifDays_28 : decode cX11_ifDays 28 = .ok (.aload 4, 2) := by decide +kernel
theorem dX11_ifDays_30 : decode cX11_ifDays 30 = .ok (.getfield 106, 3) := by decide +kernel
theorem dX11_ifDays_33 : decode cX11_ifDays 33 = .ok (.istore 5, 2) := by decide +kernel
theorem dX11_ifDays_35 : decode cX11_ifDays 35 = .ok (.aload 4, 2) := by decide +kernel
theorem dX11_ifDays_37 : decode cX11_ifDays 37 = .ok (.getfield 100, 3) := by decide +kernel
theorem dX11_ifDays_40 : decode cX11_ifDays 40 = .ok (.istore 6, 2) := by decide +kernel
theorem dX11_ifDays_42 : decode cX11_ifDays 42 = .ok (.aload 4, 2) := by decide +kernel
theorem dX11_ifDays_44 : decode cX11_ifDays 44 = .ok (.iload_n 2, 1) := by decide +kernel
theorem dX11_ifDays_45 : decode cX11_ifDays 45 = .ok (.putfield 106, 3) := by decide +kernel
theorem dX11_ifDays_48 : decode cX11_ifDays 48 = .ok (.aload 4, 2) := by decide +kernel
theorem dX11_ifDays_50 : decode cX11_ifDays 50 = .ok (.iload_n 3, 1) := by decide +kernel
theorem dX11_ifDays_51 : decode cX11_ifDays 51 = .ok (.putfield 100, 3) := by decide +kernel
theorem dX11_ifDays_54 : decode cX11_ifDays 54 = .ok (.aload_n 0, 1) := by decide +kernel
theorem dX11_ifDays_55 : decode cX11_ifDays 55 = .ok (.getfield 10, 3) := by decide +kernel
theorem dX11_ifDays_58 : decode cX11_ifDays 58 = .ok (.invokevirtual 288, 3) := by decide +kernel
theorem dX11_ifDays_61 : decode cX11_ifDays 61 = .ok (.istore 7, 2) := by decide +kernel
theorem dX11_ifDays_63 : decode cX11_ifDays 63 = .ok (.aload 4, 2) := by decide +kernel
theorem dX11_ifDays_65 : decode cX11_ifDays 65 = .ok (.iload 5, 2) := by decide +kernel
theorem dX11_ifDays_67 : decode cX11_ifDays 67 = .ok (.putfield 106, 3) := by decide +kernel
theorem dX11_ifDays_70 : decode cX11_ifDays 70 = .ok (.aload 4, 2) := by decide +kernel
theorem dX11_ifDays_72 : decode cX11_ifDays 72 = .ok (.iload 6, 2) := by decide +kernel
theorem dX11_ifDays_74 : decode cX11_ifDays 74 = .ok (.putfield 100, 3) := by decide +kernel
theorem dX11_ifDays_77 : decode cX11_ifDays 77 = .ok (.iload 7, 2) := by decide +kernel
theorem dX11_ifDays_79 : decode cX11_ifDays 79 = .ok (.ireturn, 1) := by decide +kernel
theorem dX11_put_0 : decode cX11_put 0 = .ok (.lload_n 1, 1) := by decide +kernel
theorem dX11_put_1 : decode cX11_put 1 = .ok (.invokestatic 317, 3) := by decide +kernel
theorem dX11_put_4 : decode cX11_put 4 = .ok (.istore_n 3, 1) := by decide +kernel
theorem dX11_put_5 : decode cX11_put 5 = .ok (.iload_n 3, 1) := by decide +kernel
theorem dX11_put_6 : decode cX11_put 6 = .ok (.ifCond .ne 6, 3) := by decide +kernel
theorem dX11_put_9 : decode cX11_put 9 = .ok (.bipush (-2), 2) := by decide +kernel
theorem dX11_put_11 : decode cX11_put 11 = .ok (.ireturn, 1) := by decide +kernel
theorem dX11_put_12 : decode cX11_put 12 = .ok (.aload_n 0, 1) := by decide +kernel
theorem dX11_put_13 : decode cX11_put 13 = .ok (.getfield 38, 3) := by decide +kernel
theorem dX11_put_16 : decode cX11_put 16 = .ok (.getfield 197, 3) := by decide +kernel
theorem dX11_put_19 : decode cX11_put 19 = .ok (.iload_n 3, 1) := by decide +kernel
theorem dX11_put_20 : decode cX11_put 20 = .ok (.iadd, 1) := by decide +kernel
theorem dX11_put_21 : decode cX11_put 21 = .ok (.bipush 60, 2) := by decide +kernel
theorem dX11_put_23 : decode cX11_put 23 = .ok (.if_icmp .le 6, 3) := by decide +kernel
theorem dX11_put_26 : decode cX11_put 26 = .ok (.bipush (-4), 2) := by decide +kernel
theorem dX11_put_28 : decode cX11_put 28 = .ok (.ireturn, 1) := by decide +kernel
theorem dX11_put_29 : decode cX11_put 29 = .ok (.aload_n 0, 1) := by decide +kernel
theorem dX11_put_30 : decode cX11_put 30 = .ok (.getfield 38, 3) := by decide +kernel
theorem dX11_put_33 : decode cX11_put 33 = .ok (.lload_n 1, 1) := by decide +kernel
theorem dX11_put_34 : decode cX11_put 34 = .ok (.iload_n 3, 1) := by decide +kernel
theorem dX11_put_35 : decode cX11_put 35 = .ok (.invokevirtual 321, 3) := by decide +kernel
theorem dX11_put_38 : decode cX11_put 38 = .ok (.aload_n 0, 1) := by decide +kernel
theorem dX11_put_39 : decode cX11_put 39 = .ok (.getfield 38, 3) := by decide +kernel
theorem dX11_put_42 : decode cX11_put 42 = .ok (.getfield 197, 3) := by decide +kernel
theorem dX11_put_45 : decode cX11_put 45 = .ok (.ireturn, 1) := by decide +kernel
theorem dX11_wipe_0 : decode cX11_wipe 0 = .ok (.aload_n 0, 1) := by decide +kernel
theorem dX11_wipe_1 : decode cX11_wipe 1 = .ok (.getfield 38, 3) := by decide +kernel
theorem dX11_wipe_4 : decode cX11_wipe 4 = .ok (.getfield 197, 3) := by decide +kernel
theorem dX11_wipe_7 : decode cX11_wipe 7 = .ok (.istore_n 1, 1) := by decide +kernel
theorem dX11_wipe_8 : decode cX11_wipe 8 = .ok (.aload_n 0, 1) := by decide +kernel
theorem dX11_wipe_9 : decode cX11_wipe 9 = .ok (.getfield 38, 3) := by decide +kernel
theorem dX11_wipe_12 : decode cX11_wipe 12 = .ok (.iconst 0, 1) := by decide +kernel
theorem dX11_wipe_13 : decode cX11_wipe 13 = .ok (.putfield 197, 3) := by decide +kernel
theorem dX11_wipe_16 : decode cX11_wipe 16 = .ok (.iload_n 1, 1) := by decide +kernel
theorem dX11_wipe_17 : decode cX11_wipe 17 = .ok (.ireturn, 1) := by decide +kernel
theorem dX11_fault_0 : decode cX11_fault 0 = .ok (.aload_n 0, 1) := by decide +kernel
theorem dX11_fault_1 : decode cX11_fault 1 = .ok (.getfield 30, 3) := by decide +kernel
theorem dX11_fault_4 : decode cX11_fault 4 = .ok (.invokevirtual 194, 3) := by decide +kernel
theorem dX11_fault_7 : decode cX11_fault 7 = .ok (.ifCond .eq 8, 3) := by decide +kernel
theorem dX11_fault_10 : decode cX11_fault 10 = .ok (.bipush (-6), 2) := by decide +kernel
theorem dX11_fault_12 : decode cX11_fault 12 = .ok (.goto 10, 3) := by decide +kernel
theorem dX11_fault_15 : decode cX11_fault 15 = .ok (.aload_n 0, 1) := by decide +kernel
theorem dX11_fault_16 : decode cX11_fault 16 = .ok (.getfield 30, 3) := by decide +kernel
theorem dX11_fault_19 : decode cX11_fault 19 = .ok (.getfield 325, 3) := by decide +kernel
theorem dX11_fault_22 : decode cX11_fault 22 = .ok (.ireturn, 1) := by decide +kernel
theorem dX11_undo_0 : decode cX11_undo 0 = .ok (.aload_n 0, 1) := by decide +kernel
theorem dX11_undo_1 : decode cX11_undo 1 = .ok (.getfield 19, 3) := by decide +kernel
theorem dX11_undo_4 : decode cX11_undo 4 = .ok (.aload_n 0, 1) := by decide +kernel
theorem dX11_undo_5 : decode cX11_undo 5 = .ok (.getfield 10, 3) := by decide +kernel
theorem dX11_undo_8 : decode cX11_undo 8 = .ok (.invokevirtual 328, 3) := by decide +kernel
theorem dX11_undo_11 : decode cX11_undo 11 = .ok (.ifCond .eq 13, 3) := by decide +kernel
theorem dX11_undo_14 : decode cX11_undo 14 = .ok (.aload_n 0, 1) := by decide +kernel
theorem dX11_undo_15 : decode cX11_undo 15 = .ok (.getfield 19, 3) := by decide +kernel
theorem dX11_undo_18 : decode cX11_undo 18 = .ok (.getfield 294, 3) := by decide +kernel
theorem dX11_undo_21 : decode cX11_undo 21 = .ok (.goto 5, 3) := by decide +kernel
theorem dX11_undo_24 : decode cX11_undo 24 = .ok (.bipush (-5), 2) := by decide +kernel
theorem dX11_undo_26 : decode cX11_undo 26 = .ok (.ireturn, 1) := by decide +kernel
theorem dX11_save_0 : decode cX11_save 0 = .ok (.iload_n 1, 1) := by decide +kernel
theorem dX11_save_1 : decode cX11_save 1 = .ok (.iconst 0, 1) := by decide +kernel
theorem dX11_save_2 : decode cX11_save 2 = .ok (.iconst 1, 1) := by decide +kernel
theorem dX11_save_3 : decode cX11_save 3 = .ok (.invokestatic 64, 3) := by decide +kernel
theorem dX11_save_6 : decode cX11_save 6 = .ok (.ifCond .ne 6, 3) := by decide +kernel
theorem dX11_save_9 : decode cX11_save 9 = .ok (.bipush (-2), 2) := by decide +kernel
theorem dX11_save_11 : decode cX11_save 11 = .ok (.ireturn, 1) := by decide +kernel
theorem dX11_save_12 : decode cX11_save 12 = .ok (.aload_n 0, 1) := by decide +kernel
theorem dX11_save_13 : decode cX11_save 13 = .ok (.getfield 23, 3) := by decide +kernel
theorem dX11_save_16 : decode cX11_save 16 = .ok (.iload_n 1, 1) := by decide +kernel
theorem dX11_save_17 : decode cX11_save 17 = .ok (.aaload, 1) := by decide +kernel
theorem dX11_save_18 : decode cX11_save 18 = .ok (.aload_n 0, 1) := by decide +kernel
theorem dX11_save_19 : decode cX11_save 19 = .ok (.getfield 10, 3) := by decide +kernel
theorem dX11_save_22 : decode cX11_save 22 = .ok (.invokevirtual 332, 3) := by decide +kernel
theorem dX11_save_25 : decode cX11_save 25 = .ok (.aload_n 0, 1) := by decide +kernel
theorem dX11_save_26 : decode cX11_save 26 = .ok (.dup, 1) := by decide +kernel
theorem dX11_save_27 : decode cX11_save 27 = .ok (.getfield 335, 3) := by decide +kernel
theorem dX11_save_30 : decode cX11_save 30 = .ok (.iconst 1, 1) := by decide +kernel
theorem dX11_save_31 : decode cX11_save 31 = .ok (.iload_n 1, 1) := by decide +kernel
theorem dX11_save_32 : decode cX11_save 32 = .ok (.ishl, 1) := by decide +kernel
theorem dX11_save_33 : decode cX11_save 33 = .ok (.ior, 1) := by decide +kernel
theorem dX11_save_34 : decode cX11_save 34 = .ok (.putfield 335, 3) := by decide +kernel
theorem dX11_save_37 : decode cX11_save 37 = .ok (.aload_n 0, 1) := by decide +kernel
theorem dX11_save_38 : decode cX11_save 38 = .ok (.getfield 10, 3) := by decide +kernel
theorem dX11_save_41 : decode cX11_save 41 = .ok (.invokevirtual 338, 3) := by decide +kernel
theorem dX11_save_44 : decode cX11_save 44 = .ok (.ireturn, 1) := by decide +kernel
theorem dX11_restore_0 : decode cX11_restore 0 = .ok (.iload_n 1, 1) := by decide +kernel
theorem dX11_restore_1 : decode cX11_restore 1 = .ok (.iconst 0, 1) := by decide +kernel
theorem dX11_restore_2 : decode cX11_restore 2 = .ok (.iconst 1, 1) := by decide +kernel
theorem dX11_restore_3 : decode cX11_restore 3 = .ok (.invokestatic 64, 3) := by decide +kernel
theorem dX11_restore_6 : decode cX11_restore 6 = .ok (.ifCond .ne 6, 3) := by decide +kernel
theorem dX11_restore_9 : decode cX11_restore 9 = .ok (.bipush (-2), 2) := by decide +kernel
theorem dX11_restore_11 : decode cX11_restore 11 = .ok (.ireturn, 1) := by decide +kernel
theorem dX11_restore_12 : decode cX11_restore 12 = .ok (.aload_n 0, 1) := by decide +kernel
theorem dX11_restore_13 : decode cX11_restore 13 = .ok (.getfield 335, 3) := by decide +kernel
theorem dX11_restore_16 : decode cX11_restore 16 = .ok (.iload_n 1, 1) := by decide +kernel
theorem dX11_restore_17 : decode cX11_restore 17 = .ok (.invokestatic 341, 3) := by decide +kernel
theorem dX11_restore_20 : decode cX11_restore 20 = .ok (.ifCond .ne 6, 3) := by decide +kernel
theorem dX11_restore_23 : decode cX11_restore 23 = .ok (.bipush (-5), 2) := by decide +kernel
theorem dX11_restore_25 : decode cX11_restore 25 = .ok (.ireturn, 1) := by decide +kernel
theorem dX11_restore_26 : decode cX11_restore 26 = .ok (.aload_n 0, 1) := by decide +kernel
theorem dX11_restore_27 : decode cX11_restore 27 = .ok (.getfield 19, 3) := by decide +kernel
theorem dX11_restore_30 : decode cX11_restore 30 = .ok (.aload_n 0, 1) := by decide +kernel
theorem dX11_restore_31 : decode cX11_restore 31 = .ok (.getfield 10, 3) := by decide +kernel
theorem dX11_restore_34 : decode cX11_restore 34 = .ok (.invokevirtual 71, 3) := by decide +kernel
theorem dX11_restore_37 : decode cX11_restore 37 = .ok (.aload_n 0, 1) := by decide +kernel
theorem dX11_restore_38 : decode cX11_restore 38 = .ok (.getfield 10, 3) := by decide +kernel
theorem dX11_restore_41 : decode cX11_restore 41 = .ok (.aload_n 0, 1) := by decide +kernel
theorem dX11_restore_42 : decode cX11_restore 42 = .ok (.getfield 23, 3) := by decide +kernel
theorem dX11_restore_45 : decode cX11_restore 45 = .ok (.iload_n 1, 1) := by decide +kernel
theorem dX11_restore_46 : decode cX11_restore 46 = .ok (.aaload, 1) := by decide +kernel
theorem dX11_restore_47 : decode cX11_restore 47 = .ok (.invokevirtual 332, 3) := by decide +kernel
theorem dX11_restore_50 : decode cX11_restore 50 = .ok (.aload_n 0, 1) := by decide +kernel
theorem dX11_restore_51 : decode cX11_restore 51 = .ok (.getfield 10, 3) := by decide +kernel
theorem dX11_restore_54 : decode cX11_restore 54 = .ok (.invokevirtual 338, 3) := by decide +kernel
theorem dX11_restore_57 : decode cX11_restore 57 = .ok (.ireturn, 1) := by decide +kernel
theorem dX11_isIn_0 : decode cX11_isIn 0 = .ok (.iload_n 0, 1) := by decide +kernel
theorem dX11_isIn_1 : decode cX11_isIn 1 = .ok (.iload_n 1, 1) := by decide +kernel
theorem dX11_isIn_2 : decode cX11_isIn 2 = .ok (.if_icmp .lt 12, 3) := by decide +kernel
theorem dX11_isIn_5 : decode cX11_isIn 5 = .ok (.iload_n 0, 1) := by decide +kernel
theorem dX11_isIn_6 : decode cX11_isIn 6 = .ok (.iload_n 2, 1) := by decide +kernel
theorem dX11_isIn_7 : decode cX11_isIn 7 = .ok (.if_icmp .gt 7, 3) := by decide +kernel
theorem dX11_isIn_10 : decode cX11_isIn 10 = .ok (.iconst 1, 1) := by decide +kernel
theorem dX11_isIn_11 : decode cX11_isIn 11 = .ok (.goto 4, 3) := by decide +kernel
theorem dX11_isIn_14 : decode cX11_isIn 14 = .ok (.iconst 0, 1) := by decide +kernel
theorem dX11_isIn_15 : decode cX11_isIn 15 = .ok (.ireturn, 1) := by decide +kernel
theorem dX11_isDimmer_0 : decode cX11_isDimmer 0 = .ok (.iload_n 0, 1) := by decide +kernel
theorem dX11_isDimmer_1 : decode cX11_isDimmer 1 = .ok (.iconst 0, 1) := by decide +kernel
theorem dX11_isDimmer_2 : decode cX11_isDimmer 2 = .ok (.bipush 11, 2) := by decide +kernel
theorem dX11_isDimmer_4 : decode cX11_isDimmer 4 = .ok (.invokestatic 64, 3) := by decide +kernel
theorem dX11_isDimmer_7 : decode cX11_isDimmer 7 = .ok (.ireturn, 1) := by decide +kernel
theorem dX11_isDimmerOrNone_0 : decode cX11_isDimmerOrNone 0 = .ok (.iload_n 0, 1) := by decide +kernel
theorem dX11_isDimmerOrNone_1 : decode cX11_isDimmerOrNone 1 = .ok (.bipush (-6), 2) := by decide +kernel
theorem dX11_isDimmerOrNone_3 : decode cX11_isDimmerOrNone 3 = .ok (.if_icmp .eq 10, 3) := by decide +kernel
theorem dX11_isDimmerOrNone_6 : decode cX11_isDimmerOrNone 6 = .ok (.iload_n 0, 1) := by decide +kernel
theorem dX11_isDimmerOrNone_7 : decode cX11_isDimmerOrNone 7 = .ok (.invokestatic 131, 3) := by decide +kernel
theorem dX11_isDimmerOrNone_10 : decode cX11_isDimmerOrNone 10 = .ok (.ifCond .eq 7, 3) := by decide +kernel
theorem dX11_isDimmerOrNone_13 : decode cX11_isDimmerOrNone 13 = .ok (.iconst 1, 1) := by decide +kernel
theorem dX11_isDimmerOrNone_14 : decode cX11_isDimmerOrNone 14 = .ok (.goto 4, 3) := by decide +kernel
theorem dX11_isDimmerOrNone_17 : decode cX11_isDimmerOrNone 17 = .ok (.iconst 0, 1) := by decide +kernel
theorem dX11_isDimmerOrNone_18 : decode cX11_isDimmerOrNone 18 = .ok (.ireturn, 1) := by decide +kernel
theorem dX11_isPhase_0 : decode cX11_isPhase 0 = .ok (.iload_n 0, 1) := by decide +kernel
theorem dX11_isPhase_1 : decode cX11_isPhase 1 = .ok (.iconst 0, 1) := by decide +kernel
theorem dX11_isPhase_2 : decode cX11_isPhase 2 = .ok (.iconst 2, 1) := by decide +kernel
theorem dX11_isPhase_3 : decode cX11_isPhase 3 = .ok (.invokestatic 64, 3) := by decide +kernel
theorem dX11_isPhase_6 : decode cX11_isPhase 6 = .ok (.ireturn, 1) := by decide +kernel
theorem dX11_isCue_0 : decode cX11_isCue 0 = .ok (.iload_n 0, 1) := by decide +kernel
theorem dX11_isCue_1 : decode cX11_isCue 1 = .ok (.iconst 0, 1) := by decide +kernel
theorem dX11_isCue_2 : decode cX11_isCue 2 = .ok (.bipush 7, 2) := by decide +kernel
theorem dX11_isCue_4 : decode cX11_isCue 4 = .ok (.invokestatic 64, 3) := by decide +kernel
theorem dX11_isCue_7 : decode cX11_isCue 7 = .ok (.ireturn, 1) := by decide +kernel
theorem dX11_areDays_0 : decode cX11_areDays 0 = .ok (.iload_n 0, 1) := by decide +kernel
theorem dX11_areDays_1 : decode cX11_areDays 1 = .ok (.iconst 0, 1) := by decide +kernel
theorem dX11_areDays_2 : decode cX11_areDays 2 = .ok (.bipush 6, 2) := by decide +kernel
theorem dX11_areDays_4 : decode cX11_areDays 4 = .ok (.invokestatic 64, 3) := by decide +kernel
theorem dX11_areDays_7 : decode cX11_areDays 7 = .ok (.ifCond .eq 17, 3) := by decide +kernel
theorem dX11_areDays_10 : decode cX11_areDays 10 = .ok (.iload_n 1, 1) := by decide +kernel
theorem dX11_areDays_11 : decode cX11_areDays 11 = .ok (.iload_n 0, 1) := by decide +kernel
theorem dX11_areDays_12 : decode cX11_areDays 12 = .ok (.bipush 6, 2) := by decide +kernel
theorem dX11_areDays_14 : decode cX11_areDays 14 = .ok (.invokestatic 64, 3) := by decide +kernel
theorem dX11_areDays_17 : decode cX11_areDays 17 = .ok (.ifCond .eq 7, 3) := by decide +kernel
theorem dX11_areDays_20 : decode cX11_areDays 20 = .ok (.iconst 1, 1) := by decide +kernel
theorem dX11_areDays_21 : decode cX11_areDays 21 = .ok (.goto 4, 3) := by decide +kernel
theorem dX11_areDays_24 : decode cX11_areDays 24 = .ok (.iconst 0, 1) := by decide +kernel
theorem dX11_areDays_25 : decode cX11_areDays 25 = .ok (.ireturn, 1) := by decide +kernel
theorem dX11_hasBit_0 : decode cX11_hasBit 0 = .ok (.iload_n 0, 1) := by decide +kernel
theorem dX11_hasBit_1 : decode cX11_hasBit 1 = .ok (.iload_n 1, 1) := by decide +kernel
theorem dX11_hasBit_2 : decode cX11_hasBit 2 = .ok (.ishr, 1) := by decide +kernel
theorem dX11_hasBit_3 : decode cX11_hasBit 3 = .ok (.iconst 1, 1) := by decide +kernel
theorem dX11_hasBit_4 : decode cX11_hasBit 4 = .ok (.iand, 1) := by decide +kernel
theorem dX11_hasBit_5 : decode cX11_hasBit 5 = .ok (.ifCond .eq 7, 3) := by decide +kernel
theorem dX11_hasBit_8 : decode cX11_hasBit 8 = .ok (.iconst 1, 1) := by decide +kernel
theorem dX11_hasBit_9 : decode cX11_hasBit 9 = .ok (.goto 4, 3) := by decide +kernel
theorem dX11_hasBit_12 : decode cX11_hasBit 12 = .ok (.iconst 0, 1) := by decide +kernel
theorem dX11_hasBit_13 : decode cX11_hasBit 13 = .ok (.ireturn, 1) := by decide +kernel
theorem dX11_greatest_0 : decode cX11_greatest 0 = .ok (.iconst 0, 1) := by decide +kernel
theorem dX11_greatest_1 : decode cX11_greatest 1 = .ok (.istore_n 1, 1) := by decide +kernel
theorem dX11_greatest_2 : decode cX11_greatest 2 = .ok (.aload_n 0, 1) := by decide +kernel
theorem dX11_greatest_3 : decode cX11_greatest 3 = .ok (.astore_n 2, 1) := by decide +kernel
theorem dX11_greatest_4 : decode cX11_greatest 4 = .ok (.aload_n 2, 1) := by decide +kernel
theorem dX11_greatest_5 : decode cX11_greatest 5 = .ok (.arraylength, 1) := by decide +kernel
theorem dX11_greatest_6 : decode cX11_greatest 6 = .ok (.istore_n 3, 1) := by decide +kernel
theorem dX11_greatest_7 : decode cX11_greatest 7 = .ok (.iconst 0, 1) := by decide +kernel
theorem dX11_greatest_8 : decode cX11_greatest 8 = .ok (.istore 4, 2) := by decide +kernel
theorem dX11_greatest_10 : decode cX11_greatest 10 = .ok (.iload 4, 2) := by decide +kernel
theorem dX11_greatest_12 : decode cX11_greatest 12 = .ok (.iload_n 3, 1) := by decide +kernel
theorem dX11_greatest_13 : decode cX11_greatest 13 = .ok (.if_icmp .ge 22, 3) := by decide +kernel
theorem dX11_greatest_16 : decode cX11_greatest 16 = .ok (.aload_n 2, 1) := by decide +kernel
theorem dX11_greatest_17 : decode cX11_greatest 17 = .ok (.iload 4, 2) := by decide +kernel
theorem dX11_greatest_19 : decode cX11_greatest 19 = .ok (.iaload, 1) := by decide +kernel
theorem dX11_greatest_20 : decode cX11_greatest 20 = .ok (.istore 5, 2) := by decide +kernel
theorem dX11_greatest_22 : decode cX11_greatest 22 = .ok (.iload_n 1, 1) := by decide +kernel
theorem dX11_greatest_23 : decode cX11_greatest 23 = .ok (.iload 5, 2) := by decide +kernel
theorem dX11_greatest_25 : decode cX11_greatest 25 = .ok (.invokestatic 344, 3) := by decide +kernel
theorem dX11_greatest_28 : decode cX11_greatest 28 = .ok (.istore_n 1, 1) := by decide +kernel
theorem dX11_greatest_29 : decode cX11_greatest 29 = .ok (.iinc 4 1, 3) := by decide +kernel
theorem dX11_greatest_32 : decode cX11_greatest 32 = .ok (.goto (-22), 3) := by decide +kernel
theorem dX11_greatest_35 : decode cX11_greatest 35 = .ok (.iload_n 1, 1) := by decide +kernel
theorem dX11_greatest_36 : decode cX11_greatest 36 = .ok (.ireturn, 1) := by decide +kernel
theorem dX11_least_0 : decode cX11_least 0 = .ok (.aload_n 0, 1) := by decide +kernel
theorem dX11_least_1 : decode cX11_least 1 = .ok (.arraylength, 1) := by decide +kernel
theorem dX11_least_2 : decode cX11_least 2 = .ok (.ifCond .le 9, 3) := by decide +kernel
theorem dX11_least_5 : decode cX11_least 5 = .ok (.aload_n 0, 1) := by decide +kernel
theorem dX11_least_6 : decode cX11_least 6 = .ok (.iconst 0, 1) := by decide +kernel
theorem dX11_least_7 : decode cX11_least 7 = .ok (.iaload, 1) := by decide +kernel
theorem dX11_least_8 : decode cX11_least 8 = .ok (.goto 4, 3) := by decide +kernel
theorem dX11_least_11 : decode cX11_least 11 = .ok (.iconst 0, 1) := by decide +kernel
theorem dX11_least_12 : decode cX11_least 12 = .ok (.istore_n 1, 1) := by decide +kernel
theorem dX11_least_13 : decode cX11_least 13 = .ok (.aload_n 0, 1) := by decide +kernel
theorem dX11_least_14 : decode cX11_least 14 = .ok (.astore_n 2, 1) := by decide +kernel
theorem dX11_least_15 : decode cX11_least 15 = .ok (.aload_n 2, 1) := by decide +kernel
theorem dX11_least_16 : decode cX11_least 16 = .ok (.arraylength, 1) := by decide +kernel
theorem dX11_least_17 : decode cX11_least 17 = .ok (.istore_n 3, 1) := by decide +kernel
theorem dX11_least_18 : decode cX11_least 18 = .ok (.iconst 0, 1) := by decide +kernel
theorem dX11_least_19 : decode cX11_least 19 = .ok (.istore 4, 2) := by decide +kernel
theorem dX11_least_21 : decode cX11_least 21 = .ok (.iload 4, 2) := by decide +kernel
theorem dX11_least_23 : decode cX11_least 23 = .ok (.iload_n 3, 1) := by decide +kernel
theorem dX11_least_24 : decode cX11_least 24 = .ok (.if_icmp .ge 22, 3) := by decide +kernel
theorem dX11_least_27 : decode cX11_least 27 = .ok (.aload_n 2, 1) := by decide +kernel
theorem dX11_least_28 : decode cX11_least 28 = .ok (.iload 4, 2) := by decide +kernel
theorem dX11_least_30 : decode cX11_least 30 = .ok (.iaload, 1) := by decide +kernel
theorem dX11_least_31 : decode cX11_least 31 = .ok (.istore 5, 2) := by decide +kernel
theorem dX11_least_33 : decode cX11_least 33 = .ok (.iload_n 1, 1) := by decide +kernel
theorem dX11_least_34 : decode cX11_least 34 = .ok (.iload 5, 2) := by decide +kernel
theorem dX11_least_36 : decode cX11_least 36 = .ok (.invokestatic 349, 3) := by decide +kernel
theorem dX11_least_39 : decode cX11_least 39 = .ok (.istore_n 1, 1) := by decide +kernel
theorem dX11_least_40 : decode cX11_least 40 = .ok (.iinc 4 1, 3) := by decide +kernel
theorem dX11_least_43 : decode cX11_least 43 = .ok (.goto (-22), 3) := by decide +kernel
theorem dX11_least_46 : decode cX11_least 46 = .ok (.iload_n 1, 1) := by decide +kernel
theorem dX11_least_47 : decode cX11_least 47 = .ok (.ireturn, 1) := by decide +kernel
theorem dX11_clear_0 : decode cX11_clear 0 = .ok (.iconst 0, 1) := by decide +kernel
theorem dX11_clear_1 : decode cX11_clear 1 = .ok (.istore_n 1, 1) := by decide +kernel
theorem dX11_clear_2 : decode cX11_clear 2 = .ok (.iload_n 1, 1) := by decide +kernel
theorem dX11_clear_3 : decode cX11_clear 3 = .ok (.aload_n 0, 1) := by decide +kernel
theorem dX11_clear_4 : decode cX11_clear 4 = .ok (.arraylength, 1) := by decide +kernel
theorem dX11_clear_5 : decode cX11_clear 5 = .ok (.if_icmp .ge 13, 3) := by decide +kernel
theorem dX11_clear_8 : decode cX11_clear 8 = .ok (.aload_n 0, 1) := by decide +kernel
theorem dX11_clear_9 : decode cX11_clear 9 = .ok (.iload_n 1, 1) := by decide +kernel
theorem dX11_clear_10 : decode cX11_clear 10 = .ok (.iconst 0, 1) := by decide +kernel
theorem dX11_clear_11 : decode cX11_clear 11 = .ok (.iastore, 1) := by decide +kernel
theorem dX11_clear_12 : decode cX11_clear 12 = .ok (.iinc 1 1, 3) := by decide +kernel
theorem dX11_clear_15 : decode cX11_clear 15 = .ok (.goto (-13), 3) := by decide +kernel
theorem dX11_clear_18 : decode cX11_clear 18 = .ok (.return_, 1) := by decide +kernel
theorem dX11_copy_0 : decode cX11_copy 0 = .ok (.iconst 0, 1) := by decide +kernel
theorem dX11_copy_1 : decode cX11_copy 1 = .ok (.istore_n 2, 1) := by decide +kernel
theorem dX11_copy_2 : decode cX11_copy 2 = .ok (.iload_n 2, 1) := by decide +kernel
theorem dX11_copy_3 : decode cX11_copy 3 = .ok (.aload_n 0, 1) := by decide +kernel
theorem dX11_copy_4 : decode cX11_copy 4 = .ok (.arraylength, 1) := by decide +kernel
theorem dX11_copy_5 : decode cX11_copy 5 = .ok (.if_icmp .ge 21, 3) := by decide +kernel
theorem dX11_copy_8 : decode cX11_copy 8 = .ok (.iload_n 2, 1) := by decide +kernel
theorem dX11_copy_9 : decode cX11_copy 9 = .ok (.aload_n 1, 1) := by decide +kernel
theorem dX11_copy_10 : decode cX11_copy 10 = .ok (.arraylength, 1) := by decide +kernel
theorem dX11_copy_11 : decode cX11_copy 11 = .ok (.if_icmp .ge 15, 3) := by decide +kernel
theorem dX11_copy_14 : decode cX11_copy 14 = .ok (.aload_n 1, 1) := by decide +kernel
theorem dX11_copy_15 : decode cX11_copy 15 = .ok (.iload_n 2, 1) := by decide +kernel
theorem dX11_copy_16 : decode cX11_copy 16 = .ok (.aload_n 0, 1) := by decide +kernel
theorem dX11_copy_17 : decode cX11_copy 17 = .ok (.iload_n 2, 1) := by decide +kernel
theorem dX11_copy_18 : decode cX11_copy 18 = .ok (.iaload, 1) := by decide +kernel
theorem dX11_copy_19 : decode cX11_copy 19 = .ok (.iastore, 1) := by decide +kernel
theorem dX11_copy_20 : decode cX11_copy 20 = .ok (.iinc 2 1, 3) := by decide +kernel
theorem dX11_copy_23 : decode cX11_copy 23 = .ok (.goto (-21), 3) := by decide +kernel
theorem dX11_copy_26 : decode cX11_copy 26 = .ok (.return_, 1) := by decide +kernel
theorem dX11_closeGap_0 : decode cX11_closeGap 0 = .ok (.iload_n 1, 1) := by decide +kernel
theorem dX11_closeGap_1 : decode cX11_closeGap 1 = .ok (.iconst 0, 1) := by decide +kernel
theorem dX11_closeGap_2 : decode cX11_closeGap 2 = .ok (.invokestatic 344, 3) := by decide +kernel
theorem dX11_closeGap_5 : decode cX11_closeGap 5 = .ok (.istore_n 2, 1) := by decide +kernel
theorem dX11_closeGap_6 : decode cX11_closeGap 6 = .ok (.iload_n 2, 1) := by decide +kernel
theorem dX11_closeGap_7 : decode cX11_closeGap 7 = .ok (.aload_n 0, 1) := by decide +kernel
theorem dX11_closeGap_8 : decode cX11_closeGap 8 = .ok (.arraylength, 1) := by decide +kernel
theorem dX11_closeGap_9 : decode cX11_closeGap 9 = .ok (.if_icmp .ge 29, 3) := by decide +kernel
theorem dX11_closeGap_12 : decode cX11_closeGap 12 = .ok (.aload_n 0, 1) := by decide +kernel
theorem dX11_closeGap_13 : decode cX11_closeGap 13 = .ok (.iload_n 2, 1) := by decide +kernel
theorem dX11_closeGap_14 : decode cX11_closeGap 14 = .ok (.iload_n 2, 1) := by decide +kernel
theorem dX11_closeGap_15 : decode cX11_closeGap 15 = .ok (.iconst 1, 1) := by decide +kernel
theorem dX11_closeGap_16 : decode cX11_closeGap 16 = .ok (.iadd, 1) := by decide +kernel
theorem dX11_closeGap_17 : decode cX11_closeGap 17 = .ok (.aload_n 0, 1) := by decide +kernel
theorem dX11_closeGap_18 : decode cX11_closeGap 18 = .ok (.arraylength, 1) := by decide +kernel
theorem dX11_closeGap_19 : decode cX11_closeGap 19 = .ok (.if_icmp .ge 11, 3) := by decide +kernel
theorem dX11_closeGap_22 : decode cX11_closeGap 22 = .ok (.aload_n 0, 1) := by decide +kernel
theorem dX11_closeGap_23 : decode cX11_closeGap 23 = .ok (.iload_n 2, 1) := by decide +kernel
theorem dX11_closeGap_24 : decode cX11_closeGap 24 = .ok (.iconst 1, 1) := by decide +kernel
theorem dX11_closeGap_25 : decode cX11_closeGap 25 = .ok (.iadd, 1) := by decide +kernel
theorem dX11_closeGap_26 : decode cX11_closeGap 26 = .ok (.iaload, 1) := by decide +kernel
theorem dX11_closeGap_27 : decode cX11_closeGap 27 = .ok (.goto 4, 3) := by decide +kernel
theorem dX11_closeGap_30 : decode cX11_closeGap 30 = .ok (.iconst 0, 1) := by decide +kernel
theorem dX11_closeGap_31 : decode cX11_closeGap 31 = .ok (.iastore, 1) := by decide +kernel
theorem dX11_closeGap_32 : decode cX11_closeGap 32 = .ok (.iinc 2 1, 3) := by decide +kernel
theorem dX11_closeGap_35 : decode cX11_closeGap 35 = .ok (.goto (-29), 3) := by decide +kernel
theorem dX11_closeGap_38 : decode cX11_closeGap 38 = .ok (.return_, 1) := by decide +kernel
theorem dX11_raise_0 : decode cX11_raise 0 = .ok (.iconst 0, 1) := by decide +kernel
theorem dX11_raise_1 : decode cX11_raise 1 = .ok (.istore_n 2, 1) := by decide +kernel
theorem dX11_raise_2 : decode cX11_raise 2 = .ok (.iload_n 2, 1) := by decide +kernel
theorem dX11_raise_3 : decode cX11_raise 3 = .ok (.aload_n 0, 1) := by decide +kernel
theorem dX11_raise_4 : decode cX11_raise 4 = .ok (.arraylength, 1) := by decide +kernel
theorem dX11_raise_5 : decode cX11_raise 5 = .ok (.if_icmp .ge 27, 3) := by decide +kernel
theorem dX11_raise_8 : decode cX11_raise 8 = .ok (.iload_n 2, 1) := by decide +kernel
theorem dX11_raise_9 : decode cX11_raise 9 = .ok (.aload_n 1, 1) := by decide +kernel
theorem dX11_raise_10 : decode cX11_raise 10 = .ok (.arraylength, 1) := by decide +kernel
theorem dX11_raise_11 : decode cX11_raise 11 = .ok (.if_icmp .ge 21, 3) := by decide +kernel
theorem dX11_raise_14 : decode cX11_raise 14 = .ok (.aload_n 0, 1) := by decide +kernel
theorem dX11_raise_15 : decode cX11_raise 15 = .ok (.iload_n 2, 1) := by decide +kernel
theorem dX11_raise_16 : decode cX11_raise 16 = .ok (.aload_n 0, 1) := by decide +kernel
theorem dX11_raise_17 : decode cX11_raise 17 = .ok (.iload_n 2, 1) := by decide +kernel
theorem dX11_raise_18 : decode cX11_raise 18 = .ok (.iaload, 1) := by decide +kernel
theorem dX11_raise_19 : decode cX11_raise 19 = .ok (.aload_n 1, 1) := by decide +kernel
theorem dX11_raise_20 : decode cX11_raise 20 = .ok (.iload_n 2, 1) := by decide +kernel
theorem dX11_raise_21 : decode cX11_raise 21 = .ok (.iaload, 1) := by decide +kernel
theorem dX11_raise_22 : decode cX11_raise 22 = .ok (.invokestatic 344, 3) := by decide +kernel
theorem dX11_raise_25 : decode cX11_raise 25 = .ok (.iastore, 1) := by decide +kernel
theorem dX11_raise_26 : decode cX11_raise 26 = .ok (.iinc 2 1, 3) := by decide +kernel
theorem dX11_raise_29 : decode cX11_raise 29 = .ok (.goto (-27), 3) := by decide +kernel
theorem dX11_raise_32 : decode cX11_raise 32 = .ok (.return_, 1) := by decide +kernel
theorem dX12_init_0 : decode cX12_init 0 = .ok (.aload_n 0, 1) := by decide +kernel
theorem dX12_init_1 : decode cX12_init 1 = .ok (.invokespecial 1, 3) := by decide +kernel
theorem dX12_init_4 : decode cX12_init 4 = .ok (.aload_n 0, 1) := by decide +kernel
theorem dX12_init_5 : decode cX12_init 5 = .ok (.sipush 691, 3) := by decide +kernel
theorem dX12_init_8 : decode cX12_init 8 = .ok (.newarray .int, 2) := by decide +kernel
theorem dX12_init_10 : decode cX12_init 10 = .ok (.putfield 7, 3) := by decide +kernel
theorem dX12_init_13 : decode cX12_init 13 = .ok (.aload_n 0, 1) := by decide +kernel
theorem dX12_init_14 : decode cX12_init 14 = .ok (.sipush 691, 3) := by decide +kernel
theorem dX12_init_17 : decode cX12_init 17 = .ok (.newarray .int, 2) := by decide +kernel
theorem dX12_init_19 : decode cX12_init 19 = .ok (.putfield 13, 3) := by decide +kernel
theorem dX12_init_22 : decode cX12_init 22 = .ok (.aload_n 0, 1) := by decide +kernel
theorem dX12_init_23 : decode cX12_init 23 = .ok (.sipush 4146, 3) := by decide +kernel
theorem dX12_init_26 : decode cX12_init 26 = .ok (.newarray .int, 2) := by decide +kernel
theorem dX12_init_28 : decode cX12_init 28 = .ok (.putfield 16, 3) := by decide +kernel
theorem dX12_init_31 : decode cX12_init 31 = .ok (.aload_n 0, 1) := by decide +kernel
theorem dX12_init_32 : decode cX12_init 32 = .ok (.sipush 1382, 3) := by decide +kernel
theorem dX12_init_35 : decode cX12_init 35 = .ok (.newarray .int, 2) := by decide +kernel
theorem dX12_init_37 : decode cX12_init 37 = .ok (.putfield 19, 3) := by decide +kernel
theorem dX12_init_40 : decode cX12_init 40 = .ok (.aload_n 0, 1) := by decide +kernel
theorem dX12_init_41 : decode cX12_init 41 = .ok (.iconst 2, 1) := by decide +kernel
theorem dX12_init_42 : decode cX12_init 42 = .ok (.newarray .boolean, 2) := by decide +kernel
theorem dX12_init_44 : decode cX12_init 44 = .ok (.putfield 22, 3) := by decide +kernel
theorem dX12_init_47 : decode cX12_init 47 = .ok (.aload_n 0, 1) := by decide +kernel
theorem dX12_init_48 : decode cX12_init 48 = .ok (.bipush 60, 2) := by decide +kernel
theorem dX12_init_50 : decode cX12_init 50 = .ok (.newarray .int, 2) := by decide +kernel
theorem dX12_init_52 : decode cX12_init 52 = .ok (.putfield 26, 3) := by decide +kernel
theorem dX12_init_55 : decode cX12_init 55 = .ok (.aload_n 0, 1) := by decide +kernel
theorem dX12_init_56 : decode cX12_init 56 = .ok (.bipush 12, 2) := by decide +kernel
theorem dX12_init_58 : decode cX12_init 58 = .ok (.newarray .int, 2) := by decide +kernel
theorem dX12_init_60 : decode cX12_init 60 = .ok (.putfield 29, 3) := by decide +kernel
theorem dX12_init_63 : decode cX12_init 63 = .ok (.aload_n 0, 1) := by decide +kernel
theorem dX12_init_64 : decode cX12_init 64 = .ok (.iconst 3, 1) := by decide +kernel
theorem dX12_init_65 : decode cX12_init 65 = .ok (.newarray .int, 2) := by decide +kernel
theorem dX12_init_67 : decode cX12_init 67 = .ok (.putfield 32, 3) := by decide +kernel
theorem dX12_init_70 : decode cX12_init 70 = .ok (.aload_n 0, 1) := by decide +kernel
theorem dX12_init_71 : decode cX12_init 71 = .ok (.bipush 62, 2) := by decide +kernel
theorem dX12_init_73 : decode cX12_init 73 = .ok (.newarray .int, 2) := by decide +kernel
theorem dX12_init_75 : decode cX12_init 75 = .ok (.putfield 35, 3) := by decide +kernel
theorem dX12_init_78 : decode cX12_init 78 = .ok (.aload_n 0, 1) := by decide +kernel
theorem dX12_init_79 : decode cX12_init 79 = .ok (.getfield 7, 3) := by decide +kernel
theorem dX12_init_82 : decode cX12_init 82 = .ok (.iconst 0, 1) := by decide +kernel
theorem dX12_init_83 : decode cX12_init 83 = .ok (.sipush 2400, 3) := by decide +kernel
theorem dX12_init_86 : decode cX12_init 86 = .ok (.iastore, 1) := by decide +kernel
theorem dX12_init_87 : decode cX12_init 87 = .ok (.aload_n 0, 1) := by decide +kernel
theorem dX12_init_88 : decode cX12_init 88 = .ok (.getfield 7, 3) := by decide +kernel
theorem dX12_init_91 : decode cX12_init 91 = .ok (.iconst 1, 1) := by decide +kernel
theorem dX12_init_92 : decode cX12_init 92 = .ok (.sipush 7000, 3) := by decide +kernel
theorem dX12_init_95 : decode cX12_init 95 = .ok (.iastore, 1) := by decide +kernel
theorem dX12_init_96 : decode cX12_init 96 = .ok (.aload_n 0, 1) := by decide +kernel
theorem dX12_init_97 : decode cX12_init 97 = .ok (.getfield 7, 3) := by decide +kernel
theorem dX12_init_100 : decode cX12_init 100 = .ok (.iconst 2, 1) := by decide +kernel
theorem dX12_init_101 : decode cX12_init 101 = .ok (.iconst 3, 1) := by decide +kernel
theorem dX12_init_102 : decode cX12_init 102 = .ok (.iastore, 1) := by decide +kernel
theorem dX12_init_103 : decode cX12_init 103 = .ok (.iconst 0, 1) := by decide +kernel
theorem dX12_init_104 : decode cX12_init 104 = .ok (.istore_n 1, 1) := by decide +kernel
theorem dX12_init_105 : decode cX12_init 105 = .ok (.iload_n 1, 1) := by decide +kernel
theorem dX12_init_106 : decode cX12_init 106 = .ok (.bipush 36, 2) := by decide +kernel
theorem dX12_init_108 : decode cX12_init 108 = .ok (.if_icmp .ge 34, 3) := by decide +kernel
theorem dX12_init_111 : decode cX12_init 111 = .ok (.aload_n 0, 1) := by decide +kernel
theorem dX12_init_112 : decode cX12_init 112 = .ok (.getfield 7, 3) := by decide +kernel
theorem dX12_init_115 : decode cX12_init 115 = .ok (.iload_n 1, 1) := by decide +kernel
theorem dX12_init_116 : decode cX12_init 116 = .ok (.bipush 12, 2) := by decide +kernel
theorem dX12_init_118 : decode cX12_init 118 = .ok (.idiv, 1) := by decide +kernel
theorem dX12_init_119 : decode cX12_init 119 = .ok (.bipush 75, 2) := by decide +kernel
theorem dX12_init_121 : decode cX12_init 121 = .ok (.iload_n 1, 1) := by decide +kernel
theorem dX12_init_122 : decode cX12_init 122 = .ok (.bipush 12, 2) := by decide +kernel
theorem dX12_init_124 : decode cX12_init 124 = .ok (.irem, 1) := by decide +kernel
theorem dX12_init_125 : decode cX12_init 125 = .ok (.iadd, 1) := by decide +kernel
theorem dX12_init_126 : decode cX12_init 126 = .ok (.invokestatic 38, 3) := by decide +kernel
theorem dX12_init_129 : decode cX12_init 129 = .ok (.iload_n 1, 1) := by decide +kernel
theorem dX12_init_130 : decode cX12_init 130 = .ok (.bipush 12, 2) := by decide +kernel
theorem dX12_init_132 : decode cX12_init 132 = .ok (.irem, 1) := by decide +kernel
theorem dX12_init_133 : decode cX12_init 133 = .ok (.iconst 3, 1) := by decide +kernel
theorem dX12_init_134 : decode cX12_init 134 = .ok (.irem, 1) := by decide +kernel
theorem dX12_init_135 : decode cX12_init 135 = .ok (.iastore, 1) := by decide +kernel
theorem dX12_init_136 : decode cX12_init 136 = .ok (.iinc 1 1, 3) := by decide +kernel
theorem dX12_init_139 : decode cX12_init 139 = .ok (.goto (-34), 3) := by decide +kernel
theorem dX12_init_142 : decode cX12_init 142 = .ok (.return_, 1) := by decide +kernel
theorem dX12_in_0 : decode cX12_in 0 = .ok (.iload_n 0, 1) := by decide +kernel
theorem dX12_in_1 : decode cX12_in 1 = .ok (.iload_n 1, 1) := by decide +kernel
theorem dX12_in_2 : decode cX12_in 2 = .ok (.if_icmp .lt 12, 3) := by decide +kernel
theorem dX12_in_5 : decode cX12_in 5 = .ok (.iload_n 0, 1) := by decide +kernel
theorem dX12_in_6 : decode cX12_in 6 = .ok (.iload_n 2, 1) := by decide +kernel
theorem dX12_in_7 : decode cX12_in 7 = .ok (.if_icmp .gt 7, 3) := by decide +kernel
theorem dX12_in_10 : decode cX12_in 10 = .ok (.iconst 1, 1) := by decide +kernel
theorem dX12_in_11 : decode cX12_in 11 = .ok (.goto 4, 3) := by decide +kernel
theorem dX12_in_14 : decode cX12_in 14 = .ok (.iconst 0, 1) := by decide +kernel
theorem dX12_in_15 : decode cX12_in 15 = .ok (.ireturn, 1) := by decide +kernel
theorem dX12_at1_0 : decode cX12_at1 0 = .ok (.bipush 22, 2) := by decide +kernel
theorem dX12_at1_2 : decode cX12_at1 2 = .ok (.sipush 223, 3) := by decide +kernel
theorem dX12_at1_5 : decode cX12_at1 5 = .ok (.iload_n 0, 1) := by decide +kernel
theorem dX12_at1_6 : decode cX12_at1 6 = .ok (.imul, 1) := by decide +kernel
theorem dX12_at1_7 : decode cX12_at1 7 = .ok (.iadd, 1) := by decide +kernel
theorem dX12_at1_8 : decode cX12_at1 8 = .ok (.iload_n 1, 1) := by decide +kernel
theorem dX12_at1_9 : decode cX12_at1 9 = .ok (.iadd, 1) := by decide +kernel
theorem dX12_at1_10 : decode cX12_at1 10 = .ok (.ireturn, 1) := by decide +kernel
theorem dX12_ofLamp_0 : decode cX12_ofLamp 0 = .ok (.iload_n 0, 1) := by decide +kernel
theorem dX12_ofLamp_1 : decode cX12_ofLamp 1 = .ok (.iconst 3, 1) := by decide +kernel
theorem dX12_ofLamp_2 : decode cX12_ofLamp 2 = .ok (.bipush 6, 2) := by decide +kernel
theorem dX12_ofLamp_4 : decode cX12_ofLamp 4 = .ok (.iload_n 1, 1) := by decide +kernel
theorem dX12_ofLamp_5 : decode cX12_ofLamp 5 = .ok (.imul, 1) := by decide +kernel
theorem dX12_ofLamp_6 : decode cX12_ofLamp 6 = .ok (.iadd, 1) := by decide +kernel
theorem dX12_ofLamp_7 : decode cX12_ofLamp 7 = .ok (.iload_n 2, 1) := by decide +kernel
theorem dX12_ofLamp_8 : decode cX12_ofLamp 8 = .ok (.iadd, 1) := by decide +kernel
theorem dX12_ofLamp_9 : decode cX12_ofLamp 9 = .ok (.invokestatic 38, 3) := by decide +kernel
theorem dX12_ofLamp_12 : decode cX12_ofLamp 12 = .ok (.ireturn, 1) := by decide +kernel
theorem dX12_ofCue_0 : decode cX12_ofCue 0 = .ok (.iload_n 0, 1) := by decide +kernel
theorem dX12_ofCue_1 : decode cX12_ofCue 1 = .ok (.bipush 117, 2) := by decide +kernel
theorem dX12_ofCue_3 : decode cX12_ofCue 3 = .ok (.bipush 13, 2) := by decide +kernel
theorem dX12_ofCue_5 : decode cX12_ofCue 5 = .ok (.iload_n 1, 1) := by decide +kernel
theorem dX12_ofCue_6 : decode cX12_ofCue 6 = .ok (.imul, 1) := by decide +kernel
theorem dX12_ofCue_7 : decode cX12_ofCue 7 = .ok (.iadd, 1) := by decide +kernel
theorem dX12_ofCue_8 : decode cX12_ofCue 8 = .ok (.invokestatic 38, 3) := by decide +kernel
theorem dX12_ofCue_11 : decode cX12_ofCue 11 = .ok (.ireturn, 1) := by decide +kernel
theorem dX12_isPremiere_0 : decode cX12_isPremiere 0 = .ok (.iload_n 0, 1) := by decide +kernel
theorem dX12_isPremiere_1 : decode cX12_isPremiere 1 = .ok (.iconst 0, 1) := by decide +kernel
theorem dX12_isPremiere_2 : decode cX12_isPremiere 2 = .ok (.iconst 2, 1) := by decide +kernel
theorem dX12_isPremiere_3 : decode cX12_isPremiere 3 = .ok (.invokestatic 42, 3) := by decide +kernel
theorem dX12_isPremiere_6 : decode cX12_isPremiere 6 = .ok (.ireturn, 1) := by decide +kernel
theorem dX12_isLamp_0 : decode cX12_isLamp 0 = .ok (.iload_n 1, 1) := by decide +kernel
theorem dX12_isLamp_1 : decode cX12_isLamp 1 = .ok (.invokestatic 46, 3) := by decide +kernel
theorem dX12_isLamp_4 : decode cX12_isLamp 4 = .ok (.ifCond .eq 27, 3) := by decide +kernel
theorem dX12_isLamp_7 : decode cX12_isLamp 7 = .ok (.iload_n 2, 1) := by decide +kernel
theorem dX12_isLamp_8 : decode cX12_isLamp 8 = .ok (.iconst 0, 1) := by decide +kernel
theorem dX12_isLamp_9 : decode cX12_isLamp 9 = .ok (.aload_n 0, 1) := by decide +kernel
theorem dX12_isLamp_10 : decode cX12_isLamp 10 = .ok (.getfield 7, 3) := by decide +kernel
theorem dX12_isLamp_13 : decode cX12_isLamp 13 = .ok (.iload_n 1, 1) := by decide +kernel
theorem dX12_isLamp_14 : decode cX12_isLamp 14 = .ok (.iconst 2, 1) := by decide +kernel
theorem dX12_isLamp_15 : decode cX12_isLamp 15 = .ok (.invokestatic 38, 3) := by decide +kernel
theorem dX12_isLamp_18 : decode cX12_isLamp 18 = .ok (.iaload, 1) := by decide +kernel
theorem dX12_isLamp_19 : decode cX12_isLamp 19 = .ok (.iconst 1, 1) := by decide +kernel
theorem dX12_isLamp_20 : decode cX12_isLamp 20 = .ok (.isub, 1) := by decide +kernel
theorem dX12_isLamp_21 : decode cX12_isLamp 21 = .ok (.invokestatic 42, 3) := by decide +kernel
theorem dX12_isLamp_24 : decode cX12_isLamp 24 = .ok (.ifCond .eq 7, 3) := by decide +kernel
theorem dX12_isLamp_27 : decode cX12_isLamp 27 = .ok (.iconst 1, 1) := by decide +kernel
theorem dX12_isLamp_28 : decode cX12_isLamp 28 = .ok (.goto 4, 3) := by decide +kernel
theorem dX12_isLamp_31 : decode cX12_isLamp 31 = .ok (.iconst 0, 1) := by decide +kernel
theorem dX12_isLamp_32 : decode cX12_isLamp 32 = .ok (.ireturn, 1) := by decide +kernel
theorem dX12_isDimmer_0 : decode cX12_isDimmer 0 = .ok (.iload_n 0, 1) := by decide +kernel
theorem dX12_isDimmer_1 : decode cX12_isDimmer 1 = .ok (.iconst 0, 1) := by decide +kernel
theorem dX12_isDimmer_2 : decode cX12_isDimmer 2 = .ok (.bipush 11, 2) := by decide +kernel
theorem dX12_isDimmer_4 : decode cX12_isDimmer 4 = .ok (.invokestatic 42, 3) := by decide +kernel
theorem dX12_isDimmer_7 : decode cX12_isDimmer 7 = .ok (.ireturn, 1) := by decide +kernel
theorem dX12_know_0 : decode cX12_know 0 = .ok (.aload_n 0, 1) := by decide +kernel
theorem dX12_know_1 : decode cX12_know 1 = .ok (.getfield 50, 3) := by decide +kernel
theorem dX12_know_4 : decode cX12_know 4 = .ok (.bipush 6, 2) := by decide +kernel
theorem dX12_know_6 : decode cX12_know 6 = .ok (.if_icmp .ne 44, 3) := by decide +kernel
theorem dX12_know_9 : decode cX12_know 9 = .ok (.iconst 0, 1) := by decide +kernel
theorem dX12_know_10 : decode cX12_know 10 = .ok (.istore_n 1, 1) := by decide +kernel
theorem dX12_know_11 : decode cX12_know 11 = .ok (.iload_n 1, 1) := by decide +kernel
theorem dX12_know_12 : decode cX12_know 12 = .ok (.sipush 3455, 3) := by decide +kernel
theorem dX12_know_15 : decode cX12_know 15 = .ok (.if_icmp .ge 25, 3) := by decide +kernel
theorem dX12_know_18 : decode cX12_know 18 = .ok (.aload_n 0, 1) := by decide +kernel
theorem dX12_know_19 : decode cX12_know 19 = .ok (.getfield 16, 3) := by decide +kernel
theorem dX12_know_22 : decode cX12_know 22 = .ok (.iload_n 1, 1) := by decide +kernel
theorem dX12_know_23 : decode cX12_know 23 = .ok (.aload_n 0, 1) := by decide +kernel
theorem dX12_know_24 : decode cX12_know 24 = .ok (.getfield 16, 3) := by decide +kernel
theorem dX12_know_27 : decode cX12_know 27 = .ok (.sipush 691, 3) := by decide +kernel
theorem dX12_know_30 : decode cX12_know 30 = .ok (.iload_n 1, 1) := by decide +kernel
theorem dX12_know_31 : decode cX12_know 31 = .ok (.iadd, 1) := by decide +kernel
theorem dX12_know_32 : decode cX12_know 32 = .ok (.iaload, 1) := by decide +kernel
theorem dX12_know_33 : decode cX12_know 33 = .ok (.iastore, 1) := by decide +kernel
theorem dX12_know_34 : decode cX12_know 34 = .ok (.iinc 1 1, 3) := by decide +kernel
theorem dX12_know_37 : decode cX12_know 37 = .ok (.goto (-26), 3) := by decide +kernel
theorem dX12_know_40 : decode cX12_know 40 = .ok (.aload_n 0, 1) := by decide +kernel
theorem dX12_know_41 : decode cX12_know 41 = .ok (.dup, 1) := by decide +kernel
theorem dX12_know_42 : decode cX12_know 42 = .ok (.getfield 50, 3) := by decide +kernel
theorem dX12_know_45 : decode cX12_know 45 = .ok (.iconst 1, 1) := by decide +kernel
theorem dX12_know_46 : decode cX12_know 46 = .ok (.isub, 1) := by decide +kernel
theorem dX12_know_47 : decode cX12_know 47 = .ok (.putfield 50, 3) := by decide +kernel
theorem dX12_know_50 : decode cX12_know 50 = .ok (.iconst 0, 1) := by decide +kernel
theorem dX12_know_51 : decode cX12_know 51 = .ok (.istore_n 1, 1) := by decide +kernel
theorem dX12_know_52 : decode cX12_know 52 = .ok (.iload_n 1, 1) := by decide +kernel
theorem dX12_know_53 : decode cX12_know 53 = .ok (.sipush 691, 3) := by decide +kernel
theorem dX12_know_56 : decode cX12_know 56 = .ok (.if_icmp .ge 30, 3) := by decide +kernel
theorem dX12_know_59 : decode cX12_know 59 = .ok (.aload_n 0, 1) := by decide +kernel
theorem dX12_know_60 : decode cX12_know 60 = .ok (.getfield 16, 3) := by decide +kernel
theorem dX12_know_63 : decode cX12_know 63 = .ok (.sipush 691, 3) := by decide +kernel
theorem dX12_know_66 : decode cX12_know 66 = .ok (.aload_n 0, 1) := by decide +kernel
theorem dX12_know_67 : decode cX12_know 67 = .ok (.getfield 50, 3) := by decide +kernel
theorem dX12_know_70 : decode cX12_know 70 = .ok (.imul, 1) := by decide +kernel
theorem dX12_know_71 : decode cX12_know 71 = .ok (.iload_n 1, 1) := by decide +kernel
theorem dX12_know_72 : decode cX12_know 72 = .ok (.iadd, 1) := by decide +kernel
theorem dX12_know_73 : decode cX12_know 73 = .ok (.aload_n 0, 1) := by decide +kernel
theorem dX12_know_74 : decode cX12_know 74 = .ok (.getfield 7, 3) := by decide +kernel
theorem dX12_know_77 : decode cX12_know 77 = .ok (.iload_n 1, 1) := by decide +kernel
theorem dX12_know_78 : decode cX12_know 78 = .ok (.iaload, 1) := by decide +kernel
theorem dX12_know_79 : decode cX12_know 79 = .ok (.iastore, 1) := by decide +kernel
theorem dX12_know_80 : decode cX12_know 80 = .ok (.iinc 1 1, 3) := by decide +kernel
theorem dX12_know_83 : decode cX12_know 83 = .ok (.goto (-31), 3) := by decide +kernel
theorem dX12_know_86 : decode cX12_know 86 = .ok (.aload_n 0, 1) := by decide +kernel
theorem dX12_know_87 : decode cX12_know 87 = .ok (.dup, 1) := by decide +kernel
theorem dX12_know_88 : decode cX12_know 88 = .ok (.getfield 50, 3) := by decide +kernel
theorem dX12_know_91 : decode cX12_know 91 = .ok (.iconst 1, 1) := by decide +kernel
theorem dX12_know_92 : decode cX12_know 92 = .ok (.iadd, 1) := by decide +kernel
theorem dX12_know_93 : decode cX12_know 93 = .ok (.putfield 50, 3) := by decide +kernel
theorem dX12_know_96 : decode cX12_know 96 = .ok (.return_, 1) := by decide +kernel
theorem dX12_putAside_0 : decode cX12_putAside 0 = .ok (.iconst 0, 1) := by decide +kernel
theorem dX12_putAside_1 : decode cX12_putAside 1 = .ok (.istore_n 1, 1) := by decide +kernel
theorem dX12_putAside_2 : decode cX12_putAside 2 = .ok (.iload_n 1, 1) := by decide +kernel
theorem dX12_putAside_3 : decode cX12_putAside 3 = .ok (.sipush 691, 3) := by decide +kernel
theorem dX12_putAside_6 : decode cX12_putAside 6 = .ok (.if_icmp .ge 21, 3) := by decide +kernel
theorem dX12_putAside_9 : decode cX12_putAside 9 = .ok (.aload_n 0, 1) := by decide +kernel
theorem dX12_putAside_10 : decode cX12_putAside 10 = .ok (.getfield 13, 3) := by decide +kernel
theorem dX12_putAside_13 : decode cX12_putAside 13 = .ok (.iload_n 1, 1) := by decide +kernel
theorem dX12_putAside_14 : decode cX12_putAside 14 = .ok (.aload_n 0, 1) := by decide +kernel
theorem dX12_putAside_15 : decode cX12_putAside 15 = .ok (.getfield 7, 3) := by decide +kernel
theorem dX12_putAside_18 : decode cX12_putAside 18 = .ok (.iload_n 1, 1) := by decide +kernel
theorem dX12_putAside_19 : decode cX12_putAside 19 = .ok (.iaload, 1) := by decide +kernel
theorem dX12_putAside_20 : decode cX12_putAside 20 = .ok (.iastore, 1) := by decide +kernel
theorem dX12_putAside_21 : decode cX12_putAside 21 = .ok (.iinc 1 1, 3) := by decide +kernel
theorem dX12_putAside_24 : decode cX12_putAside 24 = .ok (.goto (-22), 3) := by decide +kernel
theorem dX12_putAside_27 : decode cX12_putAside 27 = .ok (.return_, 1) := by decide +kernel
theorem dX12_putBack_0 : decode cX12_putBack 0 = .ok (.iconst 0, 1) := by decide +kernel
theorem dX12_putBack_1 : decode cX12_putBack 1 = .ok (.istore_n 1, 1) := by decide +kernel
theorem dX12_putBack_2 : decode cX12_putBack 2 = .ok (.iload_n 1, 1) := by decide +kernel
theorem dX12_putBack_3 : decode cX12_putBack 3 = .ok (.sipush 691, 3) := by decide +kernel
theorem dX12_putBack_6 : decode cX12_putBack 6 = .ok (.if_icmp .ge 21, 3) := by decide +kernel
theorem dX12_putBack_9 : decode cX12_putBack 9 = .ok (.aload_n 0, 1) := by decide +kernel
theorem dX12_putBack_10 : decode cX12_putBack 10 = .ok (.getfield 7, 3) := by decide +kernel
theorem dX12_putBack_13 : decode cX12_putBack 13 = .ok (.iload_n 1, 1) := by decide +kernel
theorem dX12_putBack_14 : decode cX12_putBack 14 = .ok (.aload_n 0, 1) := by decide +kernel
theorem dX12_putBack_15 : decode cX12_putBack 15 = .ok (.getfield 13, 3) := by decide +kernel
theorem dX12_putBack_18 : decode cX12_putBack 18 = .ok (.iload_n 1, 1) := by decide +kernel
theorem dX12_putBack_19 : decode cX12_putBack 19 = .ok (.iaload, 1) := by decide +kernel
theorem dX12_putBack_20 : decode cX12_putBack 20 = .ok (.iastore, 1) := by decide +kernel
theorem dX12_putBack_21 : decode cX12_putBack 21 = .ok (.iinc 1 1, 3) := by decide +kernel
theorem dX12_putBack_24 : decode cX12_putBack 24 = .ok (.goto (-22), 3) := by decide +kernel
theorem dX12_putBack_27 : decode cX12_putBack 27 = .ok (.return_, 1) := by decide +kernel
theorem dX12_watts_0 : decode cX12_watts 0 = .ok (.aload_n 0, 1) := by decide +kernel
theorem dX12_watts_1 : decode cX12_watts 1 = .ok (.getfield 7, 3) := by decide +kernel
theorem dX12_watts_4 : decode cX12_watts 4 = .ok (.iconst 4, 1) := by decide +kernel
theorem dX12_watts_5 : decode cX12_watts 5 = .ok (.iconst 3, 1) := by decide +kernel
theorem dX12_watts_6 : decode cX12_watts 6 = .ok (.aload_n 0, 1) := by decide +kernel
theorem dX12_watts_7 : decode cX12_watts 7 = .ok (.getfield 7, 3) := by decide +kernel
theorem dX12_watts_10 : decode cX12_watts 10 = .ok (.iload_n 1, 1) := by decide +kernel
theorem dX12_watts_11 : decode cX12_watts 11 = .ok (.iload_n 2, 1) := by decide +kernel
theorem dX12_watts_12 : decode cX12_watts 12 = .ok (.iconst 0, 1) := by decide +kernel
theorem dX12_watts_13 : decode cX12_watts 13 = .ok (.invokestatic 54, 3) := by decide +kernel
theorem dX12_watts_16 : decode cX12_watts 16 = .ok (.iaload, 1) := by decide +kernel
theorem dX12_watts_17 : decode cX12_watts 17 = .ok (.imul, 1) := by decide +kernel
theorem dX12_watts_18 : decode cX12_watts 18 = .ok (.iadd, 1) := by decide +kernel
theorem dX12_watts_19 : decode cX12_watts 19 = .ok (.iaload, 1) := by decide +kernel
theorem dX12_watts_20 : decode cX12_watts 20 = .ok (.iload_n 3, 1) := by decide +kernel
theorem dX12_watts_21 : decode cX12_watts 21 = .ok (.imul, 1) := by decide +kernel
theorem dX12_watts_22 : decode cX12_watts 22 = .ok (.bipush 100, 2) := by decide +kernel
theorem dX12_watts_24 : decode cX12_watts 24 = .ok (.idiv, 1) := by decide +kernel
theorem dX12_watts_25 : decode cX12_watts 25 = .ok (.ireturn, 1) := by decide +kernel
theorem dX12_loadOfLamp_0 : decode cX12_loadOfLamp 0 = .ok (.aload_n 0, 1) := by decide +kernel
theorem dX12_loadOfLamp_1 : decode cX12_loadOfLamp 1 = .ok (.getfield 7, 3) := by decide +kernel
theorem dX12_loadOfLamp_4 : decode cX12_loadOfLamp 4 = .ok (.iload_n 1, 1) := by decide +kernel
theorem dX12_loadOfLamp_5 : decode cX12_loadOfLamp 5 = .ok (.iload_n 2, 1) := by decide +kernel
theorem dX12_loadOfLamp_6 : decode cX12_loadOfLamp 6 = .ok (.iconst 1, 1) := by decide +kernel
theorem dX12_loadOfLamp_7 : decode cX12_loadOfLamp 7 = .ok (.invokestatic 54, 3) := by decide +kernel
theorem dX12_loadOfLamp_10 : decode cX12_loadOfLamp 10 = .ok (.iaload, 1) := by decide +kernel
theorem dX12_loadOfLamp_11 : decode cX12_loadOfLamp 11 = .ok (.istore_n 3, 1) := by decide +kernel
theorem dX12_loadOfLamp_12 : decode cX12_loadOfLamp 12 = .ok (.iload_n 3, 1) := by decide +kernel
theorem dX12_loadOfLamp_13 : decode cX12_loadOfLamp 13 = .ok (.bipush (-6), 2) := by decide +kernel
theorem dX12_loadOfLamp_15 : decode cX12_loadOfLamp 15 = .ok (.if_icmp .eq 49, 3) := by decide +kernel
theorem dX12_loadOfLamp_18 : decode cX12_loadOfLamp 18 = .ok (.aload_n 0, 1) := by decide +kernel
theorem dX12_loadOfLamp_19 : decode cX12_loadOfLamp 19 = .ok (.getfield 7, 3) := by decide +kernel
theorem dX12_loadOfLamp_22 : decode cX12_loadOfLamp 22 = .ok (.iload_n 1, 1) := by decide +kernel
theorem dX12_loadOfLamp_23 : decode cX12_loadOfLamp 23 = .ok (.bipush 87, 2) := by decide +kernel
theorem dX12_loadOfLamp_25 : decode cX12_loadOfLamp 25 = .ok (.iload_n 3, 1) := by decide +kernel
theorem dX12_loadOfLamp_26 : decode cX12_loadOfLamp 26 = .ok (.iadd, 1) := by decide +kernel
theorem dX12_loadOfLamp_27 : decode cX12_loadOfLamp 27 = .ok (.invokestatic 38, 3) := by decide +kernel
theorem dX12_loadOfLamp_30 : decode cX12_loadOfLamp 30 = .ok (.iaload, 1) := by decide +kernel
theorem dX12_loadOfLamp_31 : decode cX12_loadOfLamp 31 = .ok (.iconst 1, 1) := by decide +kernel
theorem dX12_loadOfLamp_32 : decode cX12_loadOfLamp 32 = .ok (.if_icmp .eq 32, 3) := by decide +kernel
theorem dX12_loadOfLamp_35 : decode cX12_loadOfLamp 35 = .ok (.aload_n 0, 1) := by decide +kernel
theorem dX12_loadOfLamp_36 : decode cX12_loadOfLamp 36 = .ok (.getfield 7, 3) := by decide +kernel
theorem dX12_loadOfLamp_39 : decode cX12_loadOfLamp 39 = .ok (.iload_n 1, 1) := by decide +kernel
theorem dX12_loadOfLamp_40 : decode cX12_loadOfLamp 40 = .ok (.bipush 99, 2) := by decide +kernel
theorem dX12_loadOfLamp_42 : decode cX12_loadOfLamp 42 = .ok (.aload_n 0, 1) := by decide +kernel
theorem dX12_loadOfLamp_43 : decode cX12_loadOfLamp 43 = .ok (.getfield 7, 3) := by decide +kernel
theorem dX12_loadOfLamp_46 : decode cX12_loadOfLamp 46 = .ok (.iload_n 1, 1) := by decide +kernel
theorem dX12_loadOfLamp_47 : decode cX12_loadOfLamp 47 = .ok (.bipush 75, 2) := by decide +kernel
theorem dX12_loadOfLamp_49 : decode cX12_loadOfLamp 49 = .ok (.iload_n 3, 1) := by decide +kernel
theorem dX12_loadOfLamp_50 : decode cX12_loadOfLamp 50 = .ok (.iadd, 1) := by decide +kernel
theorem dX12_loadOfLamp_51 : decode cX12_loadOfLamp 51 = .ok (.invokestatic 38, 3) := by decide +kernel
theorem dX12_loadOfLamp_54 : decode cX12_loadOfLamp 54 = .ok (.iaload, 1) := by decide +kernel
theorem dX12_loadOfLamp_55 : decode cX12_loadOfLamp 55 = .ok (.iadd, 1) := by decide +kernel
theorem dX12_loadOfLamp_56 : decode cX12_loadOfLamp 56 = .ok (.invokestatic 38, 3) := by decide +kernel
theorem dX12_loadOfLamp_59 : decode cX12_loadOfLamp 59 = .ok (.iaload, 1) := by decide +kernel
theorem dX12_loadOfLamp_60 : decode cX12_loadOfLamp 60 = .ok (.iconst 1, 1) := by decide +kernel
theorem dX12_loadOfLamp_61 : decode cX12_loadOfLamp 61 = .ok (.if_icmp .ne 5, 3) := by decide +kernel
theorem dX12_loadOfLamp_64 : decode cX12_loadOfLamp 64 = .ok (.iconst 0, 1) := by decide +kernel
theorem dX12_loadOfLamp_65 : decode cX12_loadOfLamp 65 = .ok (.ireturn, 1) := by decide +kernel
theorem dX12_loadOfLamp_66 : decode cX12_loadOfLamp 66 = .ok (.aload_n 0, 1) := by decide +kernel
theorem dX12_loadOfLamp_67 : decode cX12_loadOfLamp 67 = .ok (.iload_n 1, 1) := by decide +kernel
theorem dX12_loadOfLamp_68 : decode cX12_loadOfLamp 68 = .ok (.iload_n 2, 1) := by decide +kernel
theorem dX12_loadOfLamp_69 : decode cX12_loadOfLamp 69 = .ok (.aload_n 0, 1) := by decide +kernel
theorem dX12_loadOfLamp_70 : decode cX12_loadOfLamp 70 = .ok (.getfield 7, 3) := by decide +kernel
theorem dX12_loadOfLamp_73 : decode cX12_loadOfLamp 73 = .ok (.iload_n 1, 1) := by decide +kernel
theorem dX12_loadOfLamp_74 : decode cX12_loadOfLamp 74 = .ok (.iload_n 2, 1) := by decide +kernel
theorem dX12_loadOfLamp_75 : decode cX12_loadOfLamp 75 = .ok (.iconst 3, 1) := by decide +kernel
theorem dX12_loadOfLamp_76 : decode cX12_loadOfLamp 76 = .ok (.invokestatic 54, 3) := by decide +kernel
theorem dX12_loadOfLamp_79 : decode cX12_loadOfLamp 79 = .ok (.iaload, 1) := by decide +kernel
theorem dX12_loadOfLamp_80 : decode cX12_loadOfLamp 80 = .ok (.invokevirtual 58, 3) := by decide +kernel
theorem dX12_loadOfLamp_83 : decode cX12_loadOfLamp 83 = .ok (.ireturn, 1) := by decide +kernel
theorem dX12_load_0 : decode cX12_load 0 = .ok (.iconst 0, 1) := by decide +kernel
theorem dX12_load_1 : decode cX12_load 1 = .ok (.istore_n 3, 1) := by decide +kernel
theorem dX12_load_2 : decode cX12_load 2 = .ok (.iconst 0, 1) := by decide +kernel
theorem dX12_load_3 : decode cX12_load 3 = .ok (.istore 4, 2) := by decide +kernel
theorem dX12_load_5 : decode cX12_load 5 = .ok (.iload 4, 2) := by decide +kernel
theorem dX12_load_7 : decode cX12_load 7 = .ok (.aload_n 0, 1) := by decide +kernel
theorem dX12_load_8 : decode cX12_load 8 = .ok (.getfield 7, 3) := by decide +kernel
theorem dX12_load_11 : decode cX12_load 11 = .ok (.iload_n 1, 1) := by decide +kernel
theorem dX12_load_12 : decode cX12_load 12 = .ok (.iconst 2, 1) := by decide +kernel
theorem dX12_load_13 : decode cX12_load 13 = .ok (.invokestatic 38, 3) := by decide +kernel
theorem dX12_load_16 : decode cX12_load 16 = .ok (.iaload, 1) := by decide +kernel
theorem dX12_load_17 : decode cX12_load 17 = .ok (.if_icmp .ge 83, 3) := by decide +kernel
theorem dX12_load_20 : decode cX12_load 20 = .ok (.aload_n 0, 1) := by decide +kernel
theorem dX12_load_21 : decode cX12_load 21 = .ok (.getfield 7, 3) := by decide +kernel
theorem dX12_load_24 : decode cX12_load 24 = .ok (.iload_n 1, 1) := by decide +kernel
theorem dX12_load_25 : decode cX12_load 25 = .ok (.iload 4, 2) := by decide +kernel
theorem dX12_load_27 : decode cX12_load 27 = .ok (.iconst 1, 1) := by decide +kernel
theorem dX12_load_28 : decode cX12_load 28 = .ok (.invokestatic 54, 3) := by decide +kernel
theorem dX12_load_31 : decode cX12_load 31 = .ok (.iaload, 1) := by decide +kernel
theorem dX12_load_32 : decode cX12_load 32 = .ok (.istore 5, 2) := by decide +kernel
theorem dX12_load_34 : decode cX12_load 34 = .ok (.iload 5, 2) := by decide +kernel
theorem dX12_load_36 : decode cX12_load 36 = .ok (.bipush (-6), 2) := by decide +kernel
theorem dX12_load_38 : decode cX12_load 38 = .ok (.if_icmp .eq 34, 3) := by decide +kernel
theorem dX12_load_41 : decode cX12_load 41 = .ok (.iload_n 2, 1) := by decide +kernel
theorem dX12_load_42 : decode cX12_load 42 = .ok (.iload 5, 2) := by decide +kernel
theorem dX12_load_44 : decode cX12_load 44 = .ok (.if_icmp .eq 24, 3) := by decide +kernel
theorem dX12_load_47 : decode cX12_load 47 = .ok (.iload_n 2, 1) := by decide +kernel
theorem dX12_load_48 : decode cX12_load 48 = .ok (.bipush 12, 2) := by decide +kernel
theorem dX12_load_50 : decode cX12_load 50 = .ok (.aload_n 0, 1) := by decide +kernel
theorem dX12_load_51 : decode cX12_load 51 = .ok (.getfield 7, 3) := by decide +kernel
theorem dX12_load_54 : decode cX12_load 54 = .ok (.iload_n 1, 1) := by decide +kernel
theorem dX12_load_55 : decode cX12_load 55 = .ok (.bipush 75, 2) := by decide +kernel
