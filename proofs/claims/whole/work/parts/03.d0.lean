theorem dX0_init_0 : decode cX0_init 0 = .ok (.aload_n 0, 1) := by decide +kernel
theorem dX0_init_1 : decode cX0_init 1 = .ok (.invokespecial 3, 3) := by decide +kernel
theorem dX0_init_4 : decode cX0_init 4 = .ok (.aload_n 0, 1) := by decide +kernel
theorem dX0_init_5 : decode cX0_init 5 = .ok (.bipush 6, 2) := by decide +kernel
theorem dX0_init_7 : decode cX0_init 7 = .ok (.anewarray 9, 3) := by decide +kernel
theorem dX0_init_10 : decode cX0_init 10 = .ok (.putfield 11, 3) := by decide +kernel
theorem dX0_init_13 : decode cX0_init 13 = .ok (.aload_n 0, 1) := by decide +kernel
theorem dX0_init_14 : decode cX0_init 14 = .ok (.iconst 0, 1) := by decide +kernel
theorem dX0_init_15 : decode cX0_init 15 = .ok (.putfield 17, 3) := by decide +kernel
theorem dX0_init_18 : decode cX0_init 18 = .ok (.aload_n 0, 1) := by decide +kernel
theorem dX0_init_19 : decode cX0_init 19 = .ok (.iconst 0, 1) := by decide +kernel
theorem dX0_init_20 : decode cX0_init 20 = .ok (.putfield 21, 3) := by decide +kernel
theorem dX0_init_23 : decode cX0_init 23 = .ok (.iconst 0, 1) := by decide +kernel
theorem dX0_init_24 : decode cX0_init 24 = .ok (.istore_n 1, 1) := by decide +kernel
theorem dX0_init_25 : decode cX0_init 25 = .ok (.iload_n 1, 1) := by decide +kernel
theorem dX0_init_26 : decode cX0_init 26 = .ok (.bipush 6, 2) := by decide +kernel
theorem dX0_init_28 : decode cX0_init 28 = .ok (.if_icmp .ge 22, 3) := by decide +kernel
theorem dX0_init_31 : decode cX0_init 31 = .ok (.aload_n 0, 1) := by decide +kernel
theorem dX0_init_32 : decode cX0_init 32 = .ok (.getfield 11, 3) := by decide +kernel
theorem dX0_init_35 : decode cX0_init 35 = .ok (.iload_n 1, 1) := by decide +kernel
theorem dX0_init_36 : decode cX0_init 36 = .ok (.new 9, 3) := by decide +kernel
theorem dX0_init_39 : decode cX0_init 39 = .ok (.dup, 1) := by decide +kernel
theorem dX0_init_40 : decode cX0_init 40 = .ok (.invokespecial 24, 3) := by decide +kernel
theorem dX0_init_43 : decode cX0_init 43 = .ok (.aastore, 1) := by decide +kernel
theorem dX0_init_44 : decode cX0_init 44 = .ok (.iinc 1 1, 3) := by decide +kernel
theorem dX0_init_47 : decode cX0_init 47 = .ok (.goto (-22), 3) := by decide +kernel
theorem dX0_init_50 : decode cX0_init 50 = .ok (.return_, 1) := by decide +kernel
theorem dX0_remember_0 : decode cX0_remember 0 = .ok (.aload_n 0, 1) := by decide +kernel
theorem dX0_remember_1 : decode cX0_remember 1 = .ok (.getfield 11, 3) := by decide +kernel
theorem dX0_remember_4 : decode cX0_remember 4 = .ok (.aload_n 0, 1) := by decide +kernel
theorem dX0_remember_5 : decode cX0_remember 5 = .ok (.getfield 17, 3) := by decide +kernel
theorem dX0_remember_8 : decode cX0_remember 8 = .ok (.aaload, 1) := by decide +kernel
theorem dX0_remember_9 : decode cX0_remember 9 = .ok (.aload_n 1, 1) := by decide +kernel
theorem dX0_remember_10 : decode cX0_remember 10 = .ok (.invokevirtual 25, 3) := by decide +kernel
theorem dX0_remember_13 : decode cX0_remember 13 = .ok (.aload_n 0, 1) := by decide +kernel
theorem dX0_remember_14 : decode cX0_remember 14 = .ok (.aload_n 0, 1) := by decide +kernel
theorem dX0_remember_15 : decode cX0_remember 15 = .ok (.getfield 17, 3) := by decide +kernel
theorem dX0_remember_18 : decode cX0_remember 18 = .ok (.iconst 1, 1) := by decide +kernel
theorem dX0_remember_19 : decode cX0_remember 19 = .ok (.iadd, 1) := by decide +kernel
theorem dX0_remember_20 : decode cX0_remember 20 = .ok (.bipush 6, 2) := by decide +kernel
theorem dX0_remember_22 : decode cX0_remember 22 = .ok (.irem, 1) := by decide +kernel
theorem dX0_remember_23 : decode cX0_remember 23 = .ok (.putfield 17, 3) := by decide +kernel
theorem dX0_remember_26 : decode cX0_remember 26 = .ok (.aload_n 0, 1) := by decide +kernel
theorem dX0_remember_27 : decode cX0_remember 27 = .ok (.aload_n 0, 1) := by decide +kernel
theorem dX0_remember_28 : decode cX0_remember 28 = .ok (.getfield 21, 3) := by decide +kernel
theorem dX0_remember_31 : decode cX0_remember 31 = .ok (.iconst 1, 1) := by decide +kernel
theorem dX0_remember_32 : decode cX0_remember 32 = .ok (.iadd, 1) := by decide +kernel
theorem dX0_remember_33 : decode cX0_remember 33 = .ok (.bipush 6, 2) := by decide +kernel
theorem dX0_remember_35 : decode cX0_remember 35 = .ok (.invokestatic 29, 3) := by decide +kernel
theorem dX0_remember_38 : decode cX0_remember 38 = .ok (.putfield 21, 3) := by decide +kernel
theorem dX0_remember_41 : decode cX0_remember 41 = .ok (.return_, 1) := by decide +kernel
theorem dX0_restore_0 : decode cX0_restore 0 = .ok (.aload_n 0, 1) := by decide +kernel
theorem dX0_restore_1 : decode cX0_restore 1 = .ok (.getfield 21, 3) := by decide +kernel
theorem dX0_restore_4 : decode cX0_restore 4 = .ok (.ifCond .ne 4, 3) := by decide +kernel
theorem dX0_restore_7 : decode cX0_restore 7 = .ok (.return_, 1) := by decide +kernel
theorem dX0_restore_8 : decode cX0_restore 8 = .ok (.aload_n 0, 1) := by decide +kernel
theorem dX0_restore_9 : decode cX0_restore 9 = .ok (.aload_n 0, 1) := by decide +kernel
theorem dX0_restore_10 : decode cX0_restore 10 = .ok (.getfield 17, 3) := by decide +kernel
theorem dX0_restore_13 : decode cX0_restore 13 = .ok (.bipush 6, 2) := by decide +kernel
theorem dX0_restore_15 : decode cX0_restore 15 = .ok (.iadd, 1) := by decide +kernel
theorem dX0_restore_16 : decode cX0_restore 16 = .ok (.iconst 1, 1) := by decide +kernel
theorem dX0_restore_17 : decode cX0_restore 17 = .ok (.isub, 1) := by decide +kernel
theorem dX0_restore_18 : decode cX0_restore 18 = .ok (.bipush 6, 2) := by decide +kernel
theorem dX0_restore_20 : decode cX0_restore 20 = .ok (.irem, 1) := by decide +kernel
theorem dX0_restore_21 : decode cX0_restore 21 = .ok (.putfield 17, 3) := by decide +kernel
theorem dX0_restore_24 : decode cX0_restore 24 = .ok (.aload_n 0, 1) := by decide +kernel
theorem dX0_restore_25 : decode cX0_restore 25 = .ok (.dup, 1) := by decide +kernel
theorem dX0_restore_26 : decode cX0_restore 26 = .ok (.getfield 21, 3) := by decide +kernel
theorem dX0_restore_29 : decode cX0_restore 29 = .ok (.iconst 1, 1) := by decide +kernel
theorem dX0_restore_30 : decode cX0_restore 30 = .ok (.isub, 1) := by decide +kernel
theorem dX0_restore_31 : decode cX0_restore 31 = .ok (.putfield 21, 3) := by decide +kernel
theorem dX0_restore_34 : decode cX0_restore 34 = .ok (.aload_n 1, 1) := by decide +kernel
theorem dX0_restore_35 : decode cX0_restore 35 = .ok (.aload_n 0, 1) := by decide +kernel
theorem dX0_restore_36 : decode cX0_restore 36 = .ok (.getfield 11, 3) := by decide +kernel
theorem dX0_restore_39 : decode cX0_restore 39 = .ok (.aload_n 0, 1) := by decide +kernel
theorem dX0_restore_40 : decode cX0_restore 40 = .ok (.getfield 17, 3) := by decide +kernel
theorem dX0_restore_43 : decode cX0_restore 43 = .ok (.aaload, 1) := by decide +kernel
theorem dX0_restore_44 : decode cX0_restore 44 = .ok (.invokevirtual 25, 3) := by decide +kernel
theorem dX0_restore_47 : decode cX0_restore 47 = .ok (.return_, 1) := by decide +kernel
theorem dX1_init_0 : decode cX1_init 0 = .ok (.aload_n 0, 1) := by decide +kernel
theorem dX1_init_1 : decode cX1_init 1 = .ok (.invokespecial 3, 3) := by decide +kernel
theorem dX1_init_4 : decode cX1_init 4 = .ok (.aload_n 0, 1) := by decide +kernel
theorem dX1_init_5 : decode cX1_init 5 = .ok (.bipush 6, 2) := by decide +kernel
theorem dX1_init_7 : decode cX1_init 7 = .ok (.newarray .int, 2) := by decide +kernel
theorem dX1_init_9 : decode cX1_init 9 = .ok (.putfield 9, 3) := by decide +kernel
theorem dX1_init_12 : decode cX1_init 12 = .ok (.aload_n 0, 1) := by decide +kernel
theorem dX1_init_13 : decode cX1_init 13 = .ok (.iconst 0, 1) := by decide +kernel
theorem dX1_init_14 : decode cX1_init 14 = .ok (.putfield 15, 3) := by decide +kernel
theorem dX1_init_17 : decode cX1_init 17 = .ok (.aload_n 0, 1) := by decide +kernel
theorem dX1_init_18 : decode cX1_init 18 = .ok (.iconst 0, 1) := by decide +kernel
theorem dX1_init_19 : decode cX1_init 19 = .ok (.putfield 19, 3) := by decide +kernel
theorem dX1_init_22 : decode cX1_init 22 = .ok (.aload_n 0, 1) := by decide +kernel
theorem dX1_init_23 : decode cX1_init 23 = .ok (.iconst 0, 1) := by decide +kernel
theorem dX1_init_24 : decode cX1_init 24 = .ok (.putfield 23, 3) := by decide +kernel
theorem dX1_init_27 : decode cX1_init 27 = .ok (.aload_n 0, 1) := by decide +kernel
theorem dX1_init_28 : decode cX1_init 28 = .ok (.iconst 0, 1) := by decide +kernel
theorem dX1_init_29 : decode cX1_init 29 = .ok (.putfield 26, 3) := by decide +kernel
theorem dX1_init_32 : decode cX1_init 32 = .ok (.return_, 1) := by decide +kernel
theorem dX1_run_0 : decode cX1_run 0 = .ok (.aload_n 0, 1) := by decide +kernel
theorem dX1_run_1 : decode cX1_run 1 = .ok (.iconst 0, 1) := by decide +kernel
theorem dX1_run_2 : decode cX1_run 2 = .ok (.putfield 19, 3) := by decide +kernel
theorem dX1_run_5 : decode cX1_run 5 = .ok (.aload_n 0, 1) := by decide +kernel
theorem dX1_run_6 : decode cX1_run 6 = .ok (.iconst 0, 1) := by decide +kernel
theorem dX1_run_7 : decode cX1_run 7 = .ok (.putfield 23, 3) := by decide +kernel
theorem dX1_run_10 : decode cX1_run 10 = .ok (.aload_n 0, 1) := by decide +kernel
theorem dX1_run_11 : decode cX1_run 11 = .ok (.iconst 0, 1) := by decide +kernel
theorem dX1_run_12 : decode cX1_run 12 = .ok (.putfield 26, 3) := by decide +kernel
theorem dX1_run_15 : decode cX1_run 15 = .ok (.aload_n 0, 1) := by decide +kernel
theorem dX1_run_16 : decode cX1_run 16 = .ok (.aload_n 1, 1) := by decide +kernel
theorem dX1_run_17 : decode cX1_run 17 = .ok (.invokevirtual 29, 3) := by decide +kernel
theorem dX1_run_20 : decode cX1_run 20 = .ok (.putfield 15, 3) := by decide +kernel
theorem dX1_run_23 : decode cX1_run 23 = .ok (.aload_n 0, 1) := by decide +kernel
theorem dX1_run_24 : decode cX1_run 24 = .ok (.aload_n 1, 1) := by decide +kernel
theorem dX1_run_25 : decode cX1_run 25 = .ok (.iconst 0, 1) := by decide +kernel
theorem dX1_run_26 : decode cX1_run 26 = .ok (.iconst 0, 1) := by decide +kernel
theorem dX1_run_27 : decode cX1_run 27 = .ok (.iconst 1, 1) := by decide +kernel
theorem dX1_run_28 : decode cX1_run 28 = .ok (.invokestatic 34, 3) := by decide +kernel
theorem dX1_run_31 : decode cX1_run 31 = .ok (.return_, 1) := by decide +kernel
theorem dX1_inkAt_0 : decode cX1_inkAt 0 = .ok (.aload_n 0, 1) := by decide +kernel
theorem dX1_inkAt_1 : decode cX1_inkAt 1 = .ok (.getfield 26, 3) := by decide +kernel
theorem dX1_inkAt_4 : decode cX1_inkAt 4 = .ok (.iconst 3, 1) := by decide +kernel
theorem dX1_inkAt_5 : decode cX1_inkAt 5 = .ok (.iload_n 2, 1) := by decide +kernel
theorem dX1_inkAt_6 : decode cX1_inkAt 6 = .ok (.iconst 1, 1) := by decide +kernel
theorem dX1_inkAt_7 : decode cX1_inkAt 7 = .ok (.isub, 1) := by decide +kernel
theorem dX1_inkAt_8 : decode cX1_inkAt 8 = .ok (.iload_n 1, 1) := by decide +kernel
theorem dX1_inkAt_9 : decode cX1_inkAt 9 = .ok (.isub, 1) := by decide +kernel
theorem dX1_inkAt_10 : decode cX1_inkAt 10 = .ok (.imul, 1) := by decide +kernel
theorem dX1_inkAt_11 : decode cX1_inkAt 11 = .ok (.ishr, 1) := by decide +kernel
theorem dX1_inkAt_12 : decode cX1_inkAt 12 = .ok (.bipush 7, 2) := by decide +kernel
theorem dX1_inkAt_14 : decode cX1_inkAt 14 = .ok (.iand, 1) := by decide +kernel
theorem dX1_inkAt_15 : decode cX1_inkAt 15 = .ok (.ireturn, 1) := by decide +kernel
theorem dX1_grow_0 : decode cX1_grow 0 = .ok (.aload_n 0, 1) := by decide +kernel
theorem dX1_grow_1 : decode cX1_grow 1 = .ok (.getfield 15, 3) := by decide +kernel
theorem dX1_grow_4 : decode cX1_grow 4 = .ok (.iload 4, 2) := by decide +kernel
theorem dX1_grow_6 : decode cX1_grow 6 = .ok (.iconst (-1), 1) := by decide +kernel
theorem dX1_grow_7 : decode cX1_grow 7 = .ok (.ixor, 1) := by decide +kernel
theorem dX1_grow_8 : decode cX1_grow 8 = .ok (.iand, 1) := by decide +kernel
theorem dX1_grow_9 : decode cX1_grow 9 = .ok (.ifCond .ne 14, 3) := by decide +kernel
theorem dX1_grow_12 : decode cX1_grow 12 = .ok (.aload_n 0, 1) := by decide +kernel
theorem dX1_grow_13 : decode cX1_grow 13 = .ok (.aload_n 1, 1) := by decide +kernel
theorem dX1_grow_14 : decode cX1_grow 14 = .ok (.getfield 38, 3) := by decide +kernel
theorem dX1_grow_17 : decode cX1_grow 17 = .ok (.iload_n 2, 1) := by decide +kernel
theorem dX1_grow_18 : decode cX1_grow 18 = .ok (.iload_n 3, 1) := by decide +kernel
theorem dX1_grow_19 : decode cX1_grow 19 = .ok (.invokevirtual 41, 3) := by decide +kernel
theorem dX1_grow_22 : decode cX1_grow 22 = .ok (.return_, 1) := by decide +kernel
theorem dX1_grow_23 : decode cX1_grow 23 = .ok (.iload_n 2, 1) := by decide +kernel
theorem dX1_grow_24 : decode cX1_grow 24 = .ok (.aload_n 1, 1) := by decide +kernel
theorem dX1_grow_25 : decode cX1_grow 25 = .ok (.getfield 38, 3) := by decide +kernel
theorem dX1_grow_28 : decode cX1_grow 28 = .ok (.if_icmp .ge 18, 3) := by decide +kernel
theorem dX1_grow_31 : decode cX1_grow 31 = .ok (.aload_n 0, 1) := by decide +kernel
theorem dX1_grow_32 : decode cX1_grow 32 = .ok (.getfield 19, 3) := by decide +kernel
theorem dX1_grow_35 : decode cX1_grow 35 = .ok (.ifCond .eq 12, 3) := by decide +kernel
theorem dX1_grow_38 : decode cX1_grow 38 = .ok (.iload_n 2, 1) := by decide +kernel
theorem dX1_grow_39 : decode cX1_grow 39 = .ok (.aload_n 0, 1) := by decide +kernel
theorem dX1_grow_40 : decode cX1_grow 40 = .ok (.getfield 23, 3) := by decide +kernel
theorem dX1_grow_43 : decode cX1_grow 43 = .ok (.if_icmp .lt 4, 3) := by decide +kernel
theorem dX1_grow_46 : decode cX1_grow 46 = .ok (.return_, 1) := by decide +kernel
theorem dX1_grow_47 : decode cX1_grow 47 = .ok (.iconst 0, 1) := by decide +kernel
theorem dX1_grow_48 : decode cX1_grow 48 = .ok (.istore 5, 2) := by decide +kernel
theorem dX1_grow_50 : decode cX1_grow 50 = .ok (.iload 5, 2) := by decide +kernel
theorem dX1_grow_52 : decode cX1_grow 52 = .ok (.aload_n 1, 1) := by decide +kernel
theorem dX1_grow_53 : decode cX1_grow 53 = .ok (.getfield 38, 3) := by decide +kernel
theorem dX1_grow_56 : decode cX1_grow 56 = .ok (.if_icmp .ge 55, 3) := by decide +kernel
theorem dX1_grow_59 : decode cX1_grow 59 = .ok (.iload_n 3, 1) := by decide +kernel
theorem dX1_grow_60 : decode cX1_grow 60 = .ok (.iload 5, 2) := by decide +kernel
theorem dX1_grow_62 : decode cX1_grow 62 = .ok (.ishr, 1) := by decide +kernel
theorem dX1_grow_63 : decode cX1_grow 63 = .ok (.iconst 1, 1) := by decide +kernel
theorem dX1_grow_64 : decode cX1_grow 64 = .ok (.iand, 1) := by decide +kernel
theorem dX1_grow_65 : decode cX1_grow 65 = .ok (.ifCond .ne 40, 3) := by decide +kernel
theorem dX1_grow_68 : decode cX1_grow 68 = .ok (.aload_n 0, 1) := by decide +kernel
theorem dX1_grow_69 : decode cX1_grow 69 = .ok (.getfield 9, 3) := by decide +kernel
theorem dX1_grow_72 : decode cX1_grow 72 = .ok (.iload_n 2, 1) := by decide +kernel
theorem dX1_grow_73 : decode cX1_grow 73 = .ok (.iload 5, 2) := by decide +kernel
theorem dX1_grow_75 : decode cX1_grow 75 = .ok (.iastore, 1) := by decide +kernel
theorem dX1_grow_76 : decode cX1_grow 76 = .ok (.iload 4, 2) := by decide +kernel
theorem dX1_grow_78 : decode cX1_grow 78 = .ok (.aload_n 1, 1) := by decide +kernel
theorem dX1_grow_79 : decode cX1_grow 79 = .ok (.iload 4, 2) := by decide +kernel
theorem dX1_grow_81 : decode cX1_grow 81 = .ok (.iload 5, 2) := by decide +kernel
theorem dX1_grow_83 : decode cX1_grow 83 = .ok (.invokevirtual 45, 3) := by decide +kernel
theorem dX1_grow_86 : decode cX1_grow 86 = .ok (.ior, 1) := by decide +kernel
theorem dX1_grow_87 : decode cX1_grow 87 = .ok (.istore 6, 2) := by decide +kernel
theorem dX1_grow_89 : decode cX1_grow 89 = .ok (.aload_n 0, 1) := by decide +kernel
theorem dX1_grow_90 : decode cX1_grow 90 = .ok (.aload_n 1, 1) := by decide +kernel
theorem dX1_grow_91 : decode cX1_grow 91 = .ok (.iload_n 2, 1) := by decide +kernel
theorem dX1_grow_92 : decode cX1_grow 92 = .ok (.iconst 1, 1) := by decide +kernel
theorem dX1_grow_93 : decode cX1_grow 93 = .ok (.iadd, 1) := by decide +kernel
theorem dX1_grow_94 : decode cX1_grow 94 = .ok (.iload_n 3, 1) := by decide +kernel
theorem dX1_grow_95 : decode cX1_grow 95 = .ok (.iconst 1, 1) := by decide +kernel
theorem dX1_grow_96 : decode cX1_grow 96 = .ok (.iload 5, 2) := by decide +kernel
theorem dX1_grow_98 : decode cX1_grow 98 = .ok (.ishl, 1) := by decide +kernel
theorem dX1_grow_99 : decode cX1_grow 99 = .ok (.ior, 1) := by decide +kernel
theorem dX1_grow_100 : decode cX1_grow 100 = .ok (.iload 6, 2) := by decide +kernel
theorem dX1_grow_102 : decode cX1_grow 102 = .ok (.invokestatic 34, 3) := by decide +kernel
theorem dX1_grow_105 : decode cX1_grow 105 = .ok (.iinc 5 1, 3) := by decide +kernel
theorem dX1_grow_108 : decode cX1_grow 108 = .ok (.goto (-58), 3) := by decide +kernel
theorem dX1_grow_111 : decode cX1_grow 111 = .ok (.return_, 1) := by decide +kernel
theorem dX1_settle_0 : decode cX1_settle 0 = .ok (.aload_n 0, 1) := by decide +kernel
theorem dX1_settle_1 : decode cX1_settle 1 = .ok (.iload_n 1, 1) := by decide +kernel
theorem dX1_settle_2 : decode cX1_settle 2 = .ok (.iload_n 2, 1) := by decide +kernel
theorem dX1_settle_3 : decode cX1_settle 3 = .ok (.iload_n 3, 1) := by decide +kernel
theorem dX1_settle_4 : decode cX1_settle 4 = .ok (.invokevirtual 49, 3) := by decide +kernel
theorem dX1_settle_7 : decode cX1_settle 7 = .ok (.istore 4, 2) := by decide +kernel
theorem dX1_settle_9 : decode cX1_settle 9 = .ok (.aload_n 0, 1) := by decide +kernel
theorem dX1_settle_10 : decode cX1_settle 10 = .ok (.getfield 19, 3) := by decide +kernel
theorem dX1_settle_13 : decode cX1_settle 13 = .ok (.ifCond .eq 28, 3) := by decide +kernel
theorem dX1_settle_16 : decode cX1_settle 16 = .ok (.iload_n 2, 1) := by decide +kernel
theorem dX1_settle_17 : decode cX1_settle 17 = .ok (.aload_n 0, 1) := by decide +kernel
theorem dX1_settle_18 : decode cX1_settle 18 = .ok (.getfield 23, 3) := by decide +kernel
theorem dX1_settle_21 : decode cX1_settle 21 = .ok (.if_icmp .lt 20, 3) := by decide +kernel
theorem dX1_settle_24 : decode cX1_settle 24 = .ok (.iload_n 2, 1) := by decide +kernel
theorem dX1_settle_25 : decode cX1_settle 25 = .ok (.aload_n 0, 1) := by decide +kernel
theorem dX1_settle_26 : decode cX1_settle 26 = .ok (.getfield 23, 3) := by decide +kernel
theorem dX1_settle_29 : decode cX1_settle 29 = .ok (.if_icmp .ne 28, 3) := by decide +kernel
theorem dX1_settle_32 : decode cX1_settle 32 = .ok (.iload 4, 2) := by decide +kernel
theorem dX1_settle_34 : decode cX1_settle 34 = .ok (.aload_n 0, 1) := by decide +kernel
theorem dX1_settle_35 : decode cX1_settle 35 = .ok (.getfield 26, 3) := by decide +kernel
theorem dX1_settle_38 : decode cX1_settle 38 = .ok (.if_icmp .ge 19, 3) := by decide +kernel
theorem dX1_settle_41 : decode cX1_settle 41 = .ok (.aload_n 0, 1) := by decide +kernel
theorem dX1_settle_42 : decode cX1_settle 42 = .ok (.iconst 1, 1) := by decide +kernel
theorem dX1_settle_43 : decode cX1_settle 43 = .ok (.putfield 19, 3) := by decide +kernel
theorem dX1_settle_46 : decode cX1_settle 46 = .ok (.aload_n 0, 1) := by decide +kernel
theorem dX1_settle_47 : decode cX1_settle 47 = .ok (.iload_n 2, 1) := by decide +kernel
theorem dX1_settle_48 : decode cX1_settle 48 = .ok (.putfield 23, 3) := by decide +kernel
theorem dX1_settle_51 : decode cX1_settle 51 = .ok (.aload_n 0, 1) := by decide +kernel
theorem dX1_settle_52 : decode cX1_settle 52 = .ok (.iload 4, 2) := by decide +kernel
theorem dX1_settle_54 : decode cX1_settle 54 = .ok (.putfield 26, 3) := by decide +kernel
theorem dX1_settle_57 : decode cX1_settle 57 = .ok (.return_, 1) := by decide +kernel
theorem dX1_earliestRow_0 : decode cX1_earliestRow 0 = .ok (.iconst 0, 1) := by decide +kernel
theorem dX1_earliestRow_1 : decode cX1_earliestRow 1 = .ok (.istore 4, 2) := by decide +kernel
theorem dX1_earliestRow_3 : decode cX1_earliestRow 3 = .ok (.iconst 0, 1) := by decide +kernel
theorem dX1_earliestRow_4 : decode cX1_earliestRow 4 = .ok (.istore 5, 2) := by decide +kernel
theorem dX1_earliestRow_6 : decode cX1_earliestRow 6 = .ok (.iconst 0, 1) := by decide +kernel
theorem dX1_earliestRow_7 : decode cX1_earliestRow 7 = .ok (.istore 6, 2) := by decide +kernel
theorem dX1_earliestRow_9 : decode cX1_earliestRow 9 = .ok (.iload 6, 2) := by decide +kernel
theorem dX1_earliestRow_11 : decode cX1_earliestRow 11 = .ok (.iload_n 1, 1) := by decide +kernel
theorem dX1_earliestRow_12 : decode cX1_earliestRow 12 = .ok (.if_icmp .ge 65, 3) := by decide +kernel
theorem dX1_earliestRow_15 : decode cX1_earliestRow 15 = .ok (.iload_n 3, 1) := by decide +kernel
theorem dX1_earliestRow_16 : decode cX1_earliestRow 16 = .ok (.iload 6, 2) := by decide +kernel
theorem dX1_earliestRow_18 : decode cX1_earliestRow 18 = .ok (.ishr, 1) := by decide +kernel
theorem dX1_earliestRow_19 : decode cX1_earliestRow 19 = .ok (.iconst 1, 1) := by decide +kernel
theorem dX1_earliestRow_20 : decode cX1_earliestRow 20 = .ok (.iand, 1) := by decide +kernel
theorem dX1_earliestRow_21 : decode cX1_earliestRow 21 = .ok (.ifCond .ne 50, 3) := by decide +kernel
theorem dX1_earliestRow_24 : decode cX1_earliestRow 24 = .ok (.iload 5, 2) := by decide +kernel
theorem dX1_earliestRow_26 : decode cX1_earliestRow 26 = .ok (.iload_n 2, 1) := by decide +kernel
theorem dX1_earliestRow_27 : decode cX1_earliestRow 27 = .ok (.if_icmp .ge 35, 3) := by decide +kernel
theorem dX1_earliestRow_30 : decode cX1_earliestRow 30 = .ok (.aload_n 0, 1) := by decide +kernel
theorem dX1_earliestRow_31 : decode cX1_earliestRow 31 = .ok (.getfield 9, 3) := by decide +kernel
theorem dX1_earliestRow_34 : decode cX1_earliestRow 34 = .ok (.iload 5, 2) := by decide +kernel
theorem dX1_earliestRow_36 : decode cX1_earliestRow 36 = .ok (.iaload, 1) := by decide +kernel
theorem dX1_earliestRow_37 : decode cX1_earliestRow 37 = .ok (.iload 6, 2) := by decide +kernel
theorem dX1_earliestRow_39 : decode cX1_earliestRow 39 = .ok (.if_icmp .ge 23, 3) := by decide +kernel
theorem dX1_earliestRow_42 : decode cX1_earliestRow 42 = .ok (.iload 4, 2) := by decide +kernel
theorem dX1_earliestRow_44 : decode cX1_earliestRow 44 = .ok (.iconst 3, 1) := by decide +kernel
theorem dX1_earliestRow_45 : decode cX1_earliestRow 45 = .ok (.ishl, 1) := by decide +kernel
theorem dX1_earliestRow_46 : decode cX1_earliestRow 46 = .ok (.aload_n 0, 1) := by decide +kernel
theorem dX1_earliestRow_47 : decode cX1_earliestRow 47 = .ok (.getfield 9, 3) := by decide +kernel
theorem dX1_earliestRow_50 : decode cX1_earliestRow 50 = .ok (.iload 5, 2) := by decide +kernel
theorem dX1_earliestRow_52 : decode cX1_earliestRow 52 = .ok (.iaload, 1) := by decide +kernel
theorem dX1_earliestRow_53 : decode cX1_earliestRow 53 = .ok (.ior, 1) := by decide +kernel
theorem dX1_earliestRow_54 : decode cX1_earliestRow 54 = .ok (.istore 4, 2) := by decide +kernel
theorem dX1_earliestRow_56 : decode cX1_earliestRow 56 = .ok (.iinc 5 1, 3) := by decide +kernel
theorem dX1_earliestRow_59 : decode cX1_earliestRow 59 = .ok (.goto (-35), 3) := by decide +kernel
theorem dX1_earliestRow_62 : decode cX1_earliestRow 62 = .ok (.iload 4, 2) := by decide +kernel
theorem dX1_earliestRow_64 : decode cX1_earliestRow 64 = .ok (.iconst 3, 1) := by decide +kernel
theorem dX1_earliestRow_65 : decode cX1_earliestRow 65 = .ok (.ishl, 1) := by decide +kernel
theorem dX1_earliestRow_66 : decode cX1_earliestRow 66 = .ok (.iload 6, 2) := by decide +kernel
theorem dX1_earliestRow_68 : decode cX1_earliestRow 68 = .ok (.ior, 1) := by decide +kernel
theorem dX1_earliestRow_69 : decode cX1_earliestRow 69 = .ok (.istore 4, 2) := by decide +kernel
theorem dX1_earliestRow_71 : decode cX1_earliestRow 71 = .ok (.iinc 6 1, 3) := by decide +kernel
theorem dX1_earliestRow_74 : decode cX1_earliestRow 74 = .ok (.goto (-65), 3) := by decide +kernel
theorem dX1_earliestRow_77 : decode cX1_earliestRow 77 = .ok (.iload 5, 2) := by decide +kernel
theorem dX1_earliestRow_79 : decode cX1_earliestRow 79 = .ok (.istore 6, 2) := by decide +kernel
theorem dX1_earliestRow_81 : decode cX1_earliestRow 81 = .ok (.iload 6, 2) := by decide +kernel
theorem dX1_earliestRow_83 : decode cX1_earliestRow 83 = .ok (.iload_n 2, 1) := by decide +kernel
theorem dX1_earliestRow_84 : decode cX1_earliestRow 84 = .ok (.if_icmp .ge 23, 3) := by decide +kernel
theorem dX1_earliestRow_87 : decode cX1_earliestRow 87 = .ok (.iload 4, 2) := by decide +kernel
theorem dX1_earliestRow_89 : decode cX1_earliestRow 89 = .ok (.iconst 3, 1) := by decide +kernel
theorem dX1_earliestRow_90 : decode cX1_earliestRow 90 = .ok (.ishl, 1) := by decide +kernel
theorem dX1_earliestRow_91 : decode cX1_earliestRow 91 = .ok (.aload_n 0, 1) := by decide +kernel
theorem dX1_earliestRow_92 : decode cX1_earliestRow 92 = .ok (.getfield 9, 3) := by decide +kernel
theorem dX1_earliestRow_95 : decode cX1_earliestRow 95 = .ok (.iload 6, 2) := by decide +kernel
theorem dX1_earliestRow_97 : decode cX1_earliestRow 97 = .ok (.iaload, 1) := by decide +kernel
theorem dX1_earliestRow_98 : decode cX1_earliestRow 98 = .ok (.ior, 1) := by decide +kernel
theorem dX1_earliestRow_99 : decode cX1_earliestRow 99 = .ok (.istore 4, 2) := by decide +kernel
theorem dX1_earliestRow_101 : decode cX1_earliestRow 101 = .ok (.iinc 6 1, 3) := by decide +kernel
theorem dX1_earliestRow_104 : decode cX1_earliestRow 104 = .ok (.goto (-23), 3) := by decide +kernel
theorem dX1_earliestRow_107 : decode cX1_earliestRow 107 = .ok (.iload 4, 2) := by decide +kernel
theorem dX1_earliestRow_109 : decode cX1_earliestRow 109 = .ok (.ireturn, 1) := by decide +kernel
theorem dX2_init_0 : decode cX2_init 0 = .ok (.aload_n 0, 1) := by decide +kernel
theorem dX2_init_1 : decode cX2_init 1 = .ok (.invokespecial 1, 3) := by decide +kernel
theorem dX2_init_4 : decode cX2_init 4 = .ok (.return_, 1) := by decide +kernel
theorem dX2_wipe_0 : decode cX2_wipe 0 = .ok (.aload_n 0, 1) := by decide +kernel
theorem dX2_wipe_1 : decode cX2_wipe 1 = .ok (.lconst 0, 1) := by decide +kernel
theorem dX2_wipe_2 : decode cX2_wipe 2 = .ok (.putfield 7, 3) := by decide +kernel
theorem dX2_wipe_5 : decode cX2_wipe 5 = .ok (.aload_n 0, 1) := by decide +kernel
theorem dX2_wipe_6 : decode cX2_wipe 6 = .ok (.lconst 0, 1) := by decide +kernel
theorem dX2_wipe_7 : decode cX2_wipe 7 = .ok (.putfield 13, 3) := by decide +kernel
theorem dX2_wipe_10 : decode cX2_wipe 10 = .ok (.aload_n 0, 1) := by decide +kernel
theorem dX2_wipe_11 : decode cX2_wipe 11 = .ok (.lconst 0, 1) := by decide +kernel
theorem dX2_wipe_12 : decode cX2_wipe 12 = .ok (.putfield 16, 3) := by decide +kernel
theorem dX2_wipe_15 : decode cX2_wipe 15 = .ok (.return_, 1) := by decide +kernel
theorem dX2_copy_0 : decode cX2_copy 0 = .ok (.aload_n 0, 1) := by decide +kernel
theorem dX2_copy_1 : decode cX2_copy 1 = .ok (.aload_n 1, 1) := by decide +kernel
theorem dX2_copy_2 : decode cX2_copy 2 = .ok (.getfield 7, 3) := by decide +kernel
theorem dX2_copy_5 : decode cX2_copy 5 = .ok (.putfield 7, 3) := by decide +kernel
theorem dX2_copy_8 : decode cX2_copy 8 = .ok (.aload_n 0, 1) := by decide +kernel
theorem dX2_copy_9 : decode cX2_copy 9 = .ok (.aload_n 1, 1) := by decide +kernel
theorem dX2_copy_10 : decode cX2_copy 10 = .ok (.getfield 13, 3) := by decide +kernel
theorem dX2_copy_13 : decode cX2_copy 13 = .ok (.putfield 13, 3) := by decide +kernel
theorem dX2_copy_16 : decode cX2_copy 16 = .ok (.aload_n 0, 1) := by decide +kernel
theorem dX2_copy_17 : decode cX2_copy 17 = .ok (.aload_n 1, 1) := by decide +kernel
theorem dX2_copy_18 : decode cX2_copy 18 = .ok (.getfield 16, 3) := by decide +kernel
theorem dX2_copy_21 : decode cX2_copy 21 = .ok (.putfield 16, 3) := by decide +kernel
theorem dX2_copy_24 : decode cX2_copy 24 = .ok (.return_, 1) := by decide +kernel
theorem dX2_print_0 : decode cX2_print 0 = .ok (.aload_n 0, 1) := by decide +kernel
theorem dX2_print_1 : decode cX2_print 1 = .ok (.aload_n 0, 1) := by decide +kernel
theorem dX2_print_2 : decode cX2_print 2 = .ok (.getfield 7, 3) := by decide +kernel
theorem dX2_print_5 : decode cX2_print 5 = .ok (.lload_n 1, 1) := by decide +kernel
theorem dX2_print_6 : decode cX2_print 6 = .ok (.iload_n 3, 1) := by decide +kernel
theorem dX2_print_7 : decode cX2_print 7 = .ok (.iconst 1, 1) := by decide +kernel
theorem dX2_print_8 : decode cX2_print 8 = .ok (.iand, 1) := by decide +kernel
theorem dX2_print_9 : decode cX2_print 9 = .ok (.ifCond .eq 7, 3) := by decide +kernel
theorem dX2_print_12 : decode cX2_print 12 = .ok (.iconst 1, 1) := by decide +kernel
theorem dX2_print_13 : decode cX2_print 13 = .ok (.goto 4, 3) := by decide +kernel
theorem dX2_print_16 : decode cX2_print 16 = .ok (.iconst 0, 1) := by decide +kernel
theorem dX2_print_17 : decode cX2_print 17 = .ok (.iload 4, 2) := by decide +kernel
theorem dX2_print_19 : decode cX2_print 19 = .ok (.invokestatic 19, 3) := by decide +kernel
theorem dX2_print_22 : decode cX2_print 22 = .ok (.putfield 7, 3) := by decide +kernel
theorem dX2_print_25 : decode cX2_print 25 = .ok (.aload_n 0, 1) := by decide +kernel
theorem dX2_print_26 : decode cX2_print 26 = .ok (.aload_n 0, 1) := by decide +kernel
theorem dX2_print_27 : decode cX2_print 27 = .ok (.getfield 13, 3) := by decide +kernel
theorem dX2_print_30 : decode cX2_print 30 = .ok (.lload_n 1, 1) := by decide +kernel
theorem dX2_print_31 : decode cX2_print 31 = .ok (.iload_n 3, 1) := by decide +kernel
theorem dX2_print_32 : decode cX2_print 32 = .ok (.iconst 2, 1) := by decide +kernel
theorem dX2_print_33 : decode cX2_print 33 = .ok (.iand, 1) := by decide +kernel
theorem dX2_print_34 : decode cX2_print 34 = .ok (.ifCond .eq 7, 3) := by decide +kernel
theorem dX2_print_37 : decode cX2_print 37 = .ok (.iconst 1, 1) := by decide +kernel
theorem dX2_print_38 : decode cX2_print 38 = .ok (.goto 4, 3) := by decide +kernel
theorem dX2_print_41 : decode cX2_print 41 = .ok (.iconst 0, 1) := by decide +kernel
theorem dX2_print_42 : decode cX2_print 42 = .ok (.iload 4, 2) := by decide +kernel
theorem dX2_print_44 : decode cX2_print 44 = .ok (.invokestatic 19, 3) := by decide +kernel
theorem dX2_print_47 : decode cX2_print 47 = .ok (.putfield 13, 3) := by decide +kernel
theorem dX2_print_50 : decode cX2_print 50 = .ok (.aload_n 0, 1) := by decide +kernel
theorem dX2_print_51 : decode cX2_print 51 = .ok (.aload_n 0, 1) := by decide +kernel
theorem dX2_print_52 : decode cX2_print 52 = .ok (.getfield 16, 3) := by decide +kernel
theorem dX2_print_55 : decode cX2_print 55 = .ok (.lload_n 1, 1) := by decide +kernel
theorem dX2_print_56 : decode cX2_print 56 = .ok (.iload_n 3, 1) := by decide +kernel
theorem dX2_print_57 : decode cX2_print 57 = .ok (.iconst 4, 1) := by decide +kernel
theorem dX2_print_58 : decode cX2_print 58 = .ok (.iand, 1) := by decide +kernel
theorem dX2_print_59 : decode cX2_print 59 = .ok (.ifCond .eq 7, 3) := by decide +kernel
theorem dX2_print_62 : decode cX2_print 62 = .ok (.iconst 1, 1) := by decide +kernel
theorem dX2_print_63 : decode cX2_print 63 = .ok (.goto 4, 3) := by decide +kernel
theorem dX2_print_66 : decode cX2_print 66 = .ok (.iconst 0, 1) := by decide +kernel
theorem dX2_print_67 : decode cX2_print 67 = .ok (.iload 4, 2) := by decide +kernel
theorem dX2_print_69 : decode cX2_print 69 = .ok (.invokestatic 19, 3) := by decide +kernel
theorem dX2_print_72 : decode cX2_print 72 = .ok (.putfield 16, 3) := by decide +kernel
theorem dX2_print_75 : decode cX2_print 75 = .ok (.return_, 1) := by decide +kernel
theorem dX2_printed_0 : decode cX2_printed 0 = .ok (.iload 4, 2) := by decide +kernel
theorem dX2_printed_2 : decode cX2_printed 2 = .ok (.ifCond .eq 7, 3) := by decide +kernel
theorem dX2_printed_5 : decode cX2_printed 5 = .ok (.lload_n 0, 1) := by decide +kernel
theorem dX2_printed_6 : decode cX2_printed 6 = .ok (.lload_n 2, 1) := by decide +kernel
theorem dX2_printed_7 : decode cX2_printed 7 = .ok (.lor, 1) := by decide +kernel
theorem dX2_printed_8 : decode cX2_printed 8 = .ok (.lreturn, 1) := by decide +kernel
theorem dX2_printed_9 : decode cX2_printed 9 = .ok (.iload 5, 2) := by decide +kernel
theorem dX2_printed_11 : decode cX2_printed 11 = .ok (.ifCond .eq 13, 3) := by decide +kernel
theorem dX2_printed_14 : decode cX2_printed 14 = .ok (.lload_n 0, 1) := by decide +kernel
theorem dX2_printed_15 : decode cX2_printed 15 = .ok (.lload_n 2, 1) := by decide +kernel
theorem dX2_printed_16 : decode cX2_printed 16 = .ok (.ldc2_w 23, 3) := by decide +kernel
theorem dX2_printed_19 : decode cX2_printed 19 = .ok (.lxor, 1) := by decide +kernel
theorem dX2_printed_20 : decode cX2_printed 20 = .ok (.land, 1) := by decide +kernel
theorem dX2_printed_21 : decode cX2_printed 21 = .ok (.goto 4, 3) := by decide +kernel
theorem dX2_printed_24 : decode cX2_printed 24 = .ok (.lload_n 0, 1) := by decide +kernel
theorem dX2_printed_25 : decode cX2_printed 25 = .ok (.lreturn, 1) := by decide +kernel
theorem dX2_at_0 : decode cX2_at 0 = .ok (.iload_n 1, 1) := by decide +kernel
theorem dX2_at_1 : decode cX2_at 1 = .ok (.iload_n 2, 1) := by decide +kernel
theorem dX2_at_2 : decode cX2_at 2 = .ok (.invokestatic 25, 3) := by decide +kernel
theorem dX2_at_5 : decode cX2_at 5 = .ok (.lstore_n 3, 1) := by decide +kernel
theorem dX2_at_6 : decode cX2_at 6 = .ok (.aload_n 0, 1) := by decide +kernel
theorem dX2_at_7 : decode cX2_at 7 = .ok (.getfield 7, 3) := by decide +kernel
theorem dX2_at_10 : decode cX2_at 10 = .ok (.lload_n 3, 1) := by decide +kernel
theorem dX2_at_11 : decode cX2_at 11 = .ok (.land, 1) := by decide +kernel
theorem dX2_at_12 : decode cX2_at 12 = .ok (.lconst 0, 1) := by decide +kernel
theorem dX2_at_13 : decode cX2_at 13 = .ok (.lcmp, 1) := by decide +kernel
theorem dX2_at_14 : decode cX2_at 14 = .ok (.ifCond .eq 7, 3) := by decide +kernel
theorem dX2_at_17 : decode cX2_at 17 = .ok (.iconst 1, 1) := by decide +kernel
theorem dX2_at_18 : decode cX2_at 18 = .ok (.goto 4, 3) := by decide +kernel
theorem dX2_at_21 : decode cX2_at 21 = .ok (.iconst 0, 1) := by decide +kernel
theorem dX2_at_22 : decode cX2_at 22 = .ok (.aload_n 0, 1) := by decide +kernel
theorem dX2_at_23 : decode cX2_at 23 = .ok (.getfield 13, 3) := by decide +kernel
theorem dX2_at_26 : decode cX2_at 26 = .ok (.lload_n 3, 1) := by decide +kernel
theorem dX2_at_27 : decode cX2_at 27 = .ok (.land, 1) := by decide +kernel
theorem dX2_at_28 : decode cX2_at 28 = .ok (.lconst 0, 1) := by decide +kernel
theorem dX2_at_29 : decode cX2_at 29 = .ok (.lcmp, 1) := by decide +kernel
theorem dX2_at_30 : decode cX2_at 30 = .ok (.ifCond .eq 7, 3) := by decide +kernel
theorem dX2_at_33 : decode cX2_at 33 = .ok (.iconst 2, 1) := by decide +kernel
theorem dX2_at_34 : decode cX2_at 34 = .ok (.goto 4, 3) := by decide +kernel
theorem dX2_at_37 : decode cX2_at 37 = .ok (.iconst 0, 1) := by decide +kernel
theorem dX2_at_38 : decode cX2_at 38 = .ok (.ior, 1) := by decide +kernel
theorem dX2_at_39 : decode cX2_at 39 = .ok (.aload_n 0, 1) := by decide +kernel
theorem dX2_at_40 : decode cX2_at 40 = .ok (.getfield 16, 3) := by decide +kernel
theorem dX2_at_43 : decode cX2_at 43 = .ok (.lload_n 3, 1) := by decide +kernel
theorem dX2_at_44 : decode cX2_at 44 = .ok (.land, 1) := by decide +kernel
theorem dX2_at_45 : decode cX2_at 45 = .ok (.lconst 0, 1) := by decide +kernel
theorem dX2_at_46 : decode cX2_at 46 = .ok (.lcmp, 1) := by decide +kernel
theorem dX2_at_47 : decode cX2_at 47 = .ok (.ifCond .eq 7, 3) := by decide +kernel
theorem dX2_at_50 : decode cX2_at 50 = .ok (.iconst 4, 1) := by decide +kernel
theorem dX2_at_51 : decode cX2_at 51 = .ok (.goto 4, 3) := by decide +kernel
theorem dX2_at_54 : decode cX2_at 54 = .ok (.iconst 0, 1) := by decide +kernel
theorem dX2_at_55 : decode cX2_at 55 = .ok (.ior, 1) := by decide +kernel
theorem dX2_at_56 : decode cX2_at 56 = .ok (.ireturn, 1) := by decide +kernel
theorem dX2_cellsOf_0 : decode cX2_cellsOf 0 = .ok (.iload_n 1, 1) := by decide +kernel
theorem dX2_cellsOf_1 : decode cX2_cellsOf 1 = .ok (.iconst 1, 1) := by decide +kernel
theorem dX2_cellsOf_2 : decode cX2_cellsOf 2 = .ok (.iand, 1) := by decide +kernel
theorem dX2_cellsOf_3 : decode cX2_cellsOf 3 = .ok (.ifCond .eq 10, 3) := by decide +kernel
theorem dX2_cellsOf_6 : decode cX2_cellsOf 6 = .ok (.aload_n 0, 1) := by decide +kernel
theorem dX2_cellsOf_7 : decode cX2_cellsOf 7 = .ok (.getfield 7, 3) := by decide +kernel
theorem dX2_cellsOf_10 : decode cX2_cellsOf 10 = .ok (.goto 11, 3) := by decide +kernel
theorem dX2_cellsOf_13 : decode cX2_cellsOf 13 = .ok (.aload_n 0, 1) := by decide +kernel
theorem dX2_cellsOf_14 : decode cX2_cellsOf 14 = .ok (.getfield 7, 3) := by decide +kernel
theorem dX2_cellsOf_17 : decode cX2_cellsOf 17 = .ok (.ldc2_w 23, 3) := by decide +kernel
theorem dX2_cellsOf_20 : decode cX2_cellsOf 20 = .ok (.lxor, 1) := by decide +kernel
theorem dX2_cellsOf_21 : decode cX2_cellsOf 21 = .ok (.iload_n 1, 1) := by decide +kernel
theorem dX2_cellsOf_22 : decode cX2_cellsOf 22 = .ok (.iconst 2, 1) := by decide +kernel
theorem dX2_cellsOf_23 : decode cX2_cellsOf 23 = .ok (.iand, 1) := by decide +kernel
theorem dX2_cellsOf_24 : decode cX2_cellsOf 24 = .ok (.ifCond .eq 10, 3) := by decide +kernel
theorem dX2_cellsOf_27 : decode cX2_cellsOf 27 = .ok (.aload_n 0, 1) := by decide +kernel
theorem dX2_cellsOf_28 : decode cX2_cellsOf 28 = .ok (.getfield 13, 3) := by decide +kernel
theorem dX2_cellsOf_31 : decode cX2_cellsOf 31 = .ok (.goto 11, 3) := by decide +kernel
theorem dX2_cellsOf_34 : decode cX2_cellsOf 34 = .ok (.aload_n 0, 1) := by decide +kernel
theorem dX2_cellsOf_35 : decode cX2_cellsOf 35 = .ok (.getfield 13, 3) := by decide +kernel
theorem dX2_cellsOf_38 : decode cX2_cellsOf 38 = .ok (.ldc2_w 23, 3) := by decide +kernel
theorem dX2_cellsOf_41 : decode cX2_cellsOf 41 = .ok (.lxor, 1) := by decide +kernel
theorem dX2_cellsOf_42 : decode cX2_cellsOf 42 = .ok (.land, 1) := by decide +kernel
theorem dX2_cellsOf_43 : decode cX2_cellsOf 43 = .ok (.iload_n 1, 1) := by decide +kernel
theorem dX2_cellsOf_44 : decode cX2_cellsOf 44 = .ok (.iconst 4, 1) := by decide +kernel
theorem dX2_cellsOf_45 : decode cX2_cellsOf 45 = .ok (.iand, 1) := by decide +kernel
theorem dX2_cellsOf_46 : decode cX2_cellsOf 46 = .ok (.ifCond .eq 10, 3) := by decide +kernel
theorem dX2_cellsOf_49 : decode cX2_cellsOf 49 = .ok (.aload_n 0, 1) := by decide +kernel
theorem dX2_cellsOf_50 : decode cX2_cellsOf 50 = .ok (.getfield 16, 3) := by decide +kernel
theorem dX2_cellsOf_53 : decode cX2_cellsOf 53 = .ok (.goto 11, 3) := by decide +kernel
theorem dX2_cellsOf_56 : decode cX2_cellsOf 56 = .ok (.aload_n 0, 1) := by decide +kernel
theorem dX2_cellsOf_57 : decode cX2_cellsOf 57 = .ok (.getfield 16, 3) := by decide +kernel
theorem dX2_cellsOf_60 : decode cX2_cellsOf 60 = .ok (.ldc2_w 23, 3) := by decide +kernel
theorem dX2_cellsOf_63 : decode cX2_cellsOf 63 = .ok (.lxor, 1) := by decide +kernel
theorem dX2_cellsOf_64 : decode cX2_cellsOf 64 = .ok (.land, 1) := by decide +kernel
theorem dX2_cellsOf_65 : decode cX2_cellsOf 65 = .ok (.lreturn, 1) := by decide +kernel
theorem dX2_unlike_0 : decode cX2_unlike 0 = .ok (.aload_n 0, 1) := by decide +kernel
theorem dX2_unlike_1 : decode cX2_unlike 1 = .ok (.getfield 7, 3) := by decide +kernel
theorem dX2_unlike_4 : decode cX2_unlike 4 = .ok (.aload_n 1, 1) := by decide +kernel
theorem dX2_unlike_5 : decode cX2_unlike 5 = .ok (.getfield 7, 3) := by decide +kernel
theorem dX2_unlike_8 : decode cX2_unlike 8 = .ok (.lxor, 1) := by decide +kernel
theorem dX2_unlike_9 : decode cX2_unlike 9 = .ok (.aload_n 0, 1) := by decide +kernel
theorem dX2_unlike_10 : decode cX2_unlike 10 = .ok (.getfield 13, 3) := by decide +kernel
theorem dX2_unlike_13 : decode cX2_unlike 13 = .ok (.aload_n 1, 1) := by decide +kernel
theorem dX2_unlike_14 : decode cX2_unlike 14 = .ok (.getfield 13, 3) := by decide +kernel
theorem dX2_unlike_17 : decode cX2_unlike 17 = .ok (.lxor, 1) := by decide +kernel
theorem dX2_unlike_18 : decode cX2_unlike 18 = .ok (.lor, 1) := by decide +kernel
theorem dX2_unlike_19 : decode cX2_unlike 19 = .ok (.aload_n 0, 1) := by decide +kernel
theorem dX2_unlike_20 : decode cX2_unlike 20 = .ok (.getfield 16, 3) := by decide +kernel
theorem dX2_unlike_23 : decode cX2_unlike 23 = .ok (.aload_n 1, 1) := by decide +kernel
theorem dX2_unlike_24 : decode cX2_unlike 24 = .ok (.getfield 16, 3) := by decide +kernel
theorem dX2_unlike_27 : decode cX2_unlike 27 = .ok (.lxor, 1) := by decide +kernel
theorem dX2_unlike_28 : decode cX2_unlike 28 = .ok (.lor, 1) := by decide +kernel
theorem dX2_unlike_29 : decode cX2_unlike 29 = .ok (.lreturn, 1) := by decide +kernel
theorem dX3_init_0 : decode cX3_init 0 = .ok (.aload_n 0, 1) := by decide +kernel
theorem dX3_init_1 : decode cX3_init 1 = .ok (.invokespecial 3, 3) := by decide +kernel
theorem dX3_init_4 : decode cX3_init 4 = .ok (.aload_n 0, 1) := by decide +kernel
theorem dX3_init_5 : decode cX3_init 5 = .ok (.bipush 6, 2) := by decide +kernel
theorem dX3_init_7 : decode cX3_init 7 = .ok (.newarray .int, 2) := by decide +kernel
theorem dX3_init_9 : decode cX3_init 9 = .ok (.putfield 9, 3) := by decide +kernel
theorem dX3_init_12 : decode cX3_init 12 = .ok (.aload_n 0, 1) := by decide +kernel
theorem dX3_init_13 : decode cX3_init 13 = .ok (.bipush 6, 2) := by decide +kernel
theorem dX3_init_15 : decode cX3_init 15 = .ok (.newarray .int, 2) := by decide +kernel
theorem dX3_init_17 : decode cX3_init 17 = .ok (.putfield 15, 3) := by decide +kernel
theorem dX3_init_20 : decode cX3_init 20 = .ok (.aload_n 0, 1) := by decide +kernel
theorem dX3_init_21 : decode cX3_init 21 = .ok (.bipush 6, 2) := by decide +kernel
theorem dX3_init_23 : decode cX3_init 23 = .ok (.newarray .int, 2) := by decide +kernel
theorem dX3_init_25 : decode cX3_init 25 = .ok (.putfield 18, 3) := by decide +kernel
theorem dX3_init_28 : decode cX3_init 28 = .ok (.aload_n 0, 1) := by decide +kernel
theorem dX3_init_29 : decode cX3_init 29 = .ok (.iconst 0, 1) := by decide +kernel
theorem dX3_init_30 : decode cX3_init 30 = .ok (.putfield 21, 3) := by decide +kernel
theorem dX3_init_33 : decode cX3_init 33 = .ok (.aload_n 0, 1) := by decide +kernel
theorem dX3_init_34 : decode cX3_init 34 = .ok (.new 25, 3) := by decide +kernel
theorem dX3_init_37 : decode cX3_init 37 = .ok (.dup, 1) := by decide +kernel
theorem dX3_init_38 : decode cX3_init 38 = .ok (.invokespecial 27, 3) := by decide +kernel
theorem dX3_init_41 : decode cX3_init 41 = .ok (.putfield 28, 3) := by decide +kernel
theorem dX3_init_44 : decode cX3_init 44 = .ok (.aload_n 0, 1) := by decide +kernel
theorem dX3_init_45 : decode cX3_init 45 = .ok (.sipush 288, 3) := by decide +kernel
theorem dX3_init_48 : decode cX3_init 48 = .ok (.newarray .int, 2) := by decide +kernel
theorem dX3_init_50 : decode cX3_init 50 = .ok (.putfield 32, 3) := by decide +kernel
theorem dX3_init_53 : decode cX3_init 53 = .ok (.return_, 1) := by decide +kernel
theorem dX3_add_0 : decode cX3_add 0 = .ok (.aload_n 0, 1) := by decide +kernel
theorem dX3_add_1 : decode cX3_add 1 = .ok (.getfield 21, 3) := by decide +kernel
theorem dX3_add_4 : decode cX3_add 4 = .ok (.bipush 6, 2) := by decide +kernel
theorem dX3_add_6 : decode cX3_add 6 = .ok (.if_icmp .lt 5, 3) := by decide +kernel
theorem dX3_add_9 : decode cX3_add 9 = .ok (.iconst 0, 1) := by decide +kernel
theorem dX3_add_10 : decode cX3_add 10 = .ok (.ireturn, 1) := by decide +kernel
theorem dX3_add_11 : decode cX3_add 11 = .ok (.aload_n 0, 1) := by decide +kernel
theorem dX3_add_12 : decode cX3_add 12 = .ok (.getfield 9, 3) := by decide +kernel
theorem dX3_add_15 : decode cX3_add 15 = .ok (.aload_n 0, 1) := by decide +kernel
theorem dX3_add_16 : decode cX3_add 16 = .ok (.getfield 21, 3) := by decide +kernel
theorem dX3_add_19 : decode cX3_add 19 = .ok (.iload_n 1, 1) := by decide +kernel
theorem dX3_add_20 : decode cX3_add 20 = .ok (.iastore, 1) := by decide +kernel
theorem dX3_add_21 : decode cX3_add 21 = .ok (.aload_n 0, 1) := by decide +kernel
theorem dX3_add_22 : decode cX3_add 22 = .ok (.getfield 15, 3) := by decide +kernel
theorem dX3_add_25 : decode cX3_add 25 = .ok (.aload_n 0, 1) := by decide +kernel
theorem dX3_add_26 : decode cX3_add 26 = .ok (.getfield 21, 3) := by decide +kernel
theorem dX3_add_29 : decode cX3_add 29 = .ok (.iload_n 2, 1) := by decide +kernel
theorem dX3_add_30 : decode cX3_add 30 = .ok (.iastore, 1) := by decide +kernel
theorem dX3_add_31 : decode cX3_add 31 = .ok (.aload_n 0, 1) := by decide +kernel
theorem dX3_add_32 : decode cX3_add 32 = .ok (.getfield 18, 3) := by decide +kernel
theorem dX3_add_35 : decode cX3_add 35 = .ok (.aload_n 0, 1) := by decide +kernel
theorem dX3_add_36 : decode cX3_add 36 = .ok (.getfield 21, 3) := by decide +kernel
theorem dX3_add_39 : decode cX3_add 39 = .ok (.iload_n 3, 1) := by decide +kernel
theorem dX3_add_40 : decode cX3_add 40 = .ok (.iastore, 1) := by decide +kernel
theorem dX3_add_41 : decode cX3_add 41 = .ok (.aload_n 0, 1) := by decide +kernel
theorem dX3_add_42 : decode cX3_add 42 = .ok (.dup, 1) := by decide +kernel
theorem dX3_add_43 : decode cX3_add 43 = .ok (.getfield 21, 3) := by decide +kernel
theorem dX3_add_46 : decode cX3_add 46 = .ok (.iconst 1, 1) := by decide +kernel
theorem dX3_add_47 : decode cX3_add 47 = .ok (.iadd, 1) := by decide +kernel
theorem dX3_add_48 : decode cX3_add 48 = .ok (.putfield 21, 3) := by decide +kernel
theorem dX3_add_51 : decode cX3_add 51 = .ok (.iconst 1, 1) := by decide +kernel
theorem dX3_add_52 : decode cX3_add 52 = .ok (.ireturn, 1) := by decide +kernel
theorem dX3_howManyExplain_0 : decode cX3_howManyExplain 0 = .ok (.iconst 0, 1) := by decide +kernel
theorem dX3_howManyExplain_1 : decode cX3_howManyExplain 1 = .ok (.istore_n 2, 1) := by decide +kernel
theorem dX3_howManyExplain_2 : decode cX3_howManyExplain 2 = .ok (.iconst (-1), 1) := by decide +kernel
theorem dX3_howManyExplain_3 : decode cX3_howManyExplain 3 = .ok (.istore_n 3, 1) := by decide +kernel
theorem dX3_howManyExplain_4 : decode cX3_howManyExplain 4 = .ok (.iload_n 3, 1) := by decide +kernel
theorem dX3_howManyExplain_5 : decode cX3_howManyExplain 5 = .ok (.bipush 9, 2) := by decide +kernel
theorem dX3_howManyExplain_7 : decode cX3_howManyExplain 7 = .ok (.aload_n 1, 1) := by decide +kernel
theorem dX3_howManyExplain_8 : decode cX3_howManyExplain 8 = .ok (.getfield 35, 3) := by decide +kernel
theorem dX3_howManyExplain_11 : decode cX3_howManyExplain 11 = .ok (.imul, 1) := by decide +kernel
theorem dX3_howManyExplain_12 : decode cX3_howManyExplain 12 = .ok (.if_icmp .ge 21, 3) := by decide +kernel
theorem dX3_howManyExplain_15 : decode cX3_howManyExplain 15 = .ok (.aload_n 0, 1) := by decide +kernel
theorem dX3_howManyExplain_16 : decode cX3_howManyExplain 16 = .ok (.aload_n 1, 1) := by decide +kernel
theorem dX3_howManyExplain_17 : decode cX3_howManyExplain 17 = .ok (.iload_n 3, 1) := by decide +kernel
theorem dX3_howManyExplain_18 : decode cX3_howManyExplain 18 = .ok (.invokevirtual 40, 3) := by decide +kernel
theorem dX3_howManyExplain_21 : decode cX3_howManyExplain 21 = .ok (.ifCond .eq 6, 3) := by decide +kernel
theorem dX3_howManyExplain_24 : decode cX3_howManyExplain 24 = .ok (.iinc 2 1, 3) := by decide +kernel
theorem dX3_howManyExplain_27 : decode cX3_howManyExplain 27 = .ok (.iinc 3 1, 3) := by decide +kernel
theorem dX3_howManyExplain_30 : decode cX3_howManyExplain 30 = .ok (.goto (-26), 3) := by decide +kernel
theorem dX3_howManyExplain_33 : decode cX3_howManyExplain 33 = .ok (.iload_n 2, 1) := by decide +kernel
theorem dX3_howManyExplain_34 : decode cX3_howManyExplain 34 = .ok (.ireturn, 1) := by decide +kernel
theorem dX3_firstExplaining_0 : decode cX3_firstExplaining 0 = .ok (.iconst (-1), 1) := by decide +kernel
theorem dX3_firstExplaining_1 : decode cX3_firstExplaining 1 = .ok (.istore_n 2, 1) := by decide +kernel
theorem dX3_firstExplaining_2 : decode cX3_firstExplaining 2 = .ok (.iload_n 2, 1) := by decide +kernel
theorem dX3_firstExplaining_3 : decode cX3_firstExplaining 3 = .ok (.bipush 9, 2) := by decide +kernel
theorem dX3_firstExplaining_5 : decode cX3_firstExplaining 5 = .ok (.aload_n 1, 1) := by decide +kernel
theorem dX3_firstExplaining_6 : decode cX3_firstExplaining 6 = .ok (.getfield 35, 3) := by decide +kernel
theorem dX3_firstExplaining_9 : decode cX3_firstExplaining 9 = .ok (.imul, 1) := by decide +kernel
theorem dX3_firstExplaining_10 : decode cX3_firstExplaining 10 = .ok (.if_icmp .ge 20, 3) := by decide +kernel
theorem dX3_firstExplaining_13 : decode cX3_firstExplaining 13 = .ok (.aload_n 0, 1) := by decide +kernel
theorem dX3_firstExplaining_14 : decode cX3_firstExplaining 14 = .ok (.aload_n 1, 1) := by decide +kernel
theorem dX3_firstExplaining_15 : decode cX3_firstExplaining 15 = .ok (.iload_n 2, 1) := by decide +kernel
theorem dX3_firstExplaining_16 : decode cX3_firstExplaining 16 = .ok (.invokevirtual 40, 3) := by decide +kernel
theorem dX3_firstExplaining_19 : decode cX3_firstExplaining 19 = .ok (.ifCond .eq 5, 3) := by decide +kernel
theorem dX3_firstExplaining_22 : decode cX3_firstExplaining 22 = .ok (.iload_n 2, 1) := by decide +kernel
theorem dX3_firstExplaining_23 : decode cX3_firstExplaining 23 = .ok (.ireturn, 1) := by decide +kernel
theorem dX3_firstExplaining_24 : decode cX3_firstExplaining 24 = .ok (.iinc 2 1, 3) := by decide +kernel
theorem dX3_firstExplaining_27 : decode cX3_firstExplaining 27 = .ok (.goto (-25), 3) := by decide +kernel
theorem dX3_firstExplaining_30 : decode cX3_firstExplaining 30 = .ok (.ldc 44, 2) := by decide +kernel
theorem dX3_firstExplaining_32 : decode cX3_firstExplaining 32 = .ok (.ireturn, 1) := by decide +kernel
theorem dX3_explains_0 : decode cX3_explains 0 = .ok (.iload_n 2, 1) := by decide +kernel
theorem dX3_explains_1 : decode cX3_explains 1 = .ok (.ifCond .ge 7, 3) := by decide +kernel
theorem dX3_explains_4 : decode cX3_explains 4 = .ok (.iconst (-1), 1) := by decide +kernel
theorem dX3_explains_5 : decode cX3_explains 5 = .ok (.goto 7, 3) := by decide +kernel
theorem dX3_explains_8 : decode cX3_explains 8 = .ok (.iload_n 2, 1) := by decide +kernel
theorem dX3_explains_9 : decode cX3_explains 9 = .ok (.bipush 9, 2) := by decide +kernel
theorem dX3_explains_11 : decode cX3_explains 11 = .ok (.idiv, 1) := by decide +kernel
theorem dX3_explains_12 : decode cX3_explains 12 = .ok (.istore_n 3, 1) := by decide +kernel
theorem dX3_explains_13 : decode cX3_explains 13 = .ok (.iload_n 2, 1) := by decide +kernel
theorem dX3_explains_14 : decode cX3_explains 14 = .ok (.ifCond .ge 7, 3) := by decide +kernel
theorem dX3_explains_17 : decode cX3_explains 17 = .ok (.iconst 4, 1) := by decide +kernel
theorem dX3_explains_18 : decode cX3_explains 18 = .ok (.goto 7, 3) := by decide +kernel
theorem dX3_explains_21 : decode cX3_explains 21 = .ok (.iload_n 2, 1) := by decide +kernel
theorem dX3_explains_22 : decode cX3_explains 22 = .ok (.bipush 9, 2) := by decide +kernel
theorem dX3_explains_24 : decode cX3_explains 24 = .ok (.irem, 1) := by decide +kernel
theorem dX3_explains_25 : decode cX3_explains 25 = .ok (.istore 4, 2) := by decide +kernel
theorem dX3_explains_27 : decode cX3_explains 27 = .ok (.aload_n 1, 1) := by decide +kernel
theorem dX3_explains_28 : decode cX3_explains 28 = .ok (.iload_n 3, 1) := by decide +kernel
theorem dX3_explains_29 : decode cX3_explains 29 = .ok (.invokevirtual 45, 3) := by decide +kernel
theorem dX3_explains_32 : decode cX3_explains 32 = .ok (.ifCond .eq 16, 3) := by decide +kernel
theorem dX3_explains_35 : decode cX3_explains 35 = .ok (.aload_n 1, 1) := by decide +kernel
theorem dX3_explains_36 : decode cX3_explains 36 = .ok (.getfield 49, 3) := by decide +kernel
theorem dX3_explains_39 : decode cX3_explains 39 = .ok (.iload_n 3, 1) := by decide +kernel
theorem dX3_explains_40 : decode cX3_explains 40 = .ok (.iaload, 1) := by decide +kernel
theorem dX3_explains_41 : decode cX3_explains 41 = .ok (.iload 4, 2) := by decide +kernel
theorem dX3_explains_43 : decode cX3_explains 43 = .ok (.if_icmp .ne 5, 3) := by decide +kernel
theorem dX3_explains_46 : decode cX3_explains 46 = .ok (.iconst 0, 1) := by decide +kernel
theorem dX3_explains_47 : decode cX3_explains 47 = .ok (.ireturn, 1) := by decide +kernel
theorem dX3_explains_48 : decode cX3_explains 48 = .ok (.aload_n 1, 1) := by decide +kernel
theorem dX3_explains_49 : decode cX3_explains 49 = .ok (.aload_n 0, 1) := by decide +kernel
theorem dX3_explains_50 : decode cX3_explains 50 = .ok (.getfield 28, 3) := by decide +kernel
theorem dX3_explains_53 : decode cX3_explains 53 = .ok (.iload_n 3, 1) := by decide +kernel
theorem dX3_explains_54 : decode cX3_explains 54 = .ok (.iload 4, 2) := by decide +kernel
theorem dX3_explains_56 : decode cX3_explains 56 = .ok (.invokevirtual 52, 3) := by decide +kernel
theorem dX3_explains_59 : decode cX3_explains 59 = .ok (.iconst 0, 1) := by decide +kernel
theorem dX3_explains_60 : decode cX3_explains 60 = .ok (.istore 5, 2) := by decide +kernel
theorem dX3_explains_62 : decode cX3_explains 62 = .ok (.iload 5, 2) := by decide +kernel
theorem dX3_explains_64 : decode cX3_explains 64 = .ok (.aload_n 0, 1) := by decide +kernel
theorem dX3_explains_65 : decode cX3_explains 65 = .ok (.getfield 21, 3) := by decide +kernel
theorem dX3_explains_68 : decode cX3_explains 68 = .ok (.if_icmp .ge 63, 3) := by decide +kernel
theorem dX3_explains_71 : decode cX3_explains 71 = .ok (.aload_n 1, 1) := by decide +kernel
theorem dX3_explains_72 : decode cX3_explains 72 = .ok (.aload_n 0, 1) := by decide +kernel
theorem dX3_explains_73 : decode cX3_explains 73 = .ok (.getfield 9, 3) := by decide +kernel
theorem dX3_explains_76 : decode cX3_explains 76 = .ok (.iload 5, 2) := by decide +kernel
theorem dX3_explains_78 : decode cX3_explains 78 = .ok (.iaload, 1) := by decide +kernel
theorem dX3_explains_79 : decode cX3_explains 79 = .ok (.aload_n 0, 1) := by decide +kernel
theorem dX3_explains_80 : decode cX3_explains 80 = .ok (.getfield 15, 3) := by decide +kernel
theorem dX3_explains_83 : decode cX3_explains 83 = .ok (.iload 5, 2) := by decide +kernel
theorem dX3_explains_85 : decode cX3_explains 85 = .ok (.iaload, 1) := by decide +kernel
theorem dX3_explains_86 : decode cX3_explains 86 = .ok (.invokevirtual 56, 3) := by decide +kernel
theorem dX3_explains_89 : decode cX3_explains 89 = .ok (.ifCond .eq 34, 3) := by decide +kernel
theorem dX3_explains_92 : decode cX3_explains 92 = .ok (.aload_n 0, 1) := by decide +kernel
theorem dX3_explains_93 : decode cX3_explains 93 = .ok (.getfield 28, 3) := by decide +kernel
theorem dX3_explains_96 : decode cX3_explains 96 = .ok (.aload_n 0, 1) := by decide +kernel
theorem dX3_explains_97 : decode cX3_explains 97 = .ok (.getfield 9, 3) := by decide +kernel
theorem dX3_explains_100 : decode cX3_explains 100 = .ok (.iload 5, 2) := by decide +kernel
theorem dX3_explains_102 : decode cX3_explains 102 = .ok (.iaload, 1) := by decide +kernel
theorem dX3_explains_103 : decode cX3_explains 103 = .ok (.aload_n 0, 1) := by decide +kernel
theorem dX3_explains_104 : decode cX3_explains 104 = .ok (.getfield 15, 3) := by decide +kernel
theorem dX3_explains_107 : decode cX3_explains 107 = .ok (.iload 5, 2) := by decide +kernel
theorem dX3_explains_109 : decode cX3_explains 109 = .ok (.iaload, 1) := by decide +kernel
theorem dX3_explains_110 : decode cX3_explains 110 = .ok (.invokevirtual 60, 3) := by decide +kernel
theorem dX3_explains_113 : decode cX3_explains 113 = .ok (.aload_n 0, 1) := by decide +kernel
theorem dX3_explains_114 : decode cX3_explains 114 = .ok (.getfield 18, 3) := by decide +kernel
theorem dX3_explains_117 : decode cX3_explains 117 = .ok (.iload 5, 2) := by decide +kernel
theorem dX3_explains_119 : decode cX3_explains 119 = .ok (.iaload, 1) := by decide +kernel
theorem dX3_explains_120 : decode cX3_explains 120 = .ok (.if_icmp .eq 5, 3) := by decide +kernel
theorem dX3_explains_123 : decode cX3_explains 123 = .ok (.iconst 0, 1) := by decide +kernel
theorem dX3_explains_124 : decode cX3_explains 124 = .ok (.ireturn, 1) := by decide +kernel
theorem dX3_explains_125 : decode cX3_explains 125 = .ok (.iinc 5 1, 3) := by decide +kernel
theorem dX3_explains_128 : decode cX3_explains 128 = .ok (.goto (-66), 3) := by decide +kernel
theorem dX3_explains_131 : decode cX3_explains 131 = .ok (.iconst 1, 1) := by decide +kernel
theorem dX3_explains_132 : decode cX3_explains 132 = .ok (.ireturn, 1) := by decide +kernel
theorem dX3_bestCell_0 : decode cX3_bestCell 0 = .ok (.iconst 0, 1) := by decide +kernel
theorem dX3_bestCell_1 : decode cX3_bestCell 1 = .ok (.istore_n 2, 1) := by decide +kernel
theorem dX3_bestCell_2 : decode cX3_bestCell 2 = .ok (.iload_n 2, 1) := by decide +kernel
theorem dX3_bestCell_3 : decode cX3_bestCell 3 = .ok (.aload_n 0, 1) := by decide +kernel
theorem dX3_bestCell_4 : decode cX3_bestCell 4 = .ok (.getfield 32, 3) := by decide +kernel
theorem dX3_bestCell_7 : decode cX3_bestCell 7 = .ok (.arraylength, 1) := by decide +kernel
theorem dX3_bestCell_8 : decode cX3_bestCell 8 = .ok (.if_icmp .ge 16, 3) := by decide +kernel
theorem dX3_bestCell_11 : decode cX3_bestCell 11 = .ok (.aload_n 0, 1) := by decide +kernel
theorem dX3_bestCell_12 : decode cX3_bestCell 12 = .ok (.getfield 32, 3) := by decide +kernel
theorem dX3_bestCell_15 : decode cX3_bestCell 15 = .ok (.iload_n 2, 1) := by decide +kernel
theorem dX3_bestCell_16 : decode cX3_bestCell 16 = .ok (.iconst 0, 1) := by decide +kernel
theorem dX3_bestCell_17 : decode cX3_bestCell 17 = .ok (.iastore, 1) := by decide +kernel
theorem dX3_bestCell_18 : decode cX3_bestCell 18 = .ok (.iinc 2 1, 3) := by decide +kernel
theorem dX3_bestCell_21 : decode cX3_bestCell 21 = .ok (.goto (-19), 3) := by decide +kernel
theorem dX3_bestCell_24 : decode cX3_bestCell 24 = .ok (.iconst 0, 1) := by decide +kernel
theorem dX3_bestCell_25 : decode cX3_bestCell 25 = .ok (.istore_n 2, 1) := by decide +kernel
theorem dX3_bestCell_26 : decode cX3_bestCell 26 = .ok (.iconst (-1), 1) := by decide +kernel
theorem dX3_bestCell_27 : decode cX3_bestCell 27 = .ok (.istore_n 3, 1) := by decide +kernel
theorem dX3_bestCell_28 : decode cX3_bestCell 28 = .ok (.iload_n 3, 1) := by decide +kernel
theorem dX3_bestCell_29 : decode cX3_bestCell 29 = .ok (.bipush 9, 2) := by decide +kernel
theorem dX3_bestCell_31 : decode cX3_bestCell 31 = .ok (.aload_n 1, 1) := by decide +kernel
theorem dX3_bestCell_32 : decode cX3_bestCell 32 = .ok (.getfield 35, 3) := by decide +kernel
theorem dX3_bestCell_35 : decode cX3_bestCell 35 = .ok (.imul, 1) := by decide +kernel
theorem dX3_bestCell_36 : decode cX3_bestCell 36 = .ok (.if_icmp .ge 26, 3) := by decide +kernel
theorem dX3_bestCell_39 : decode cX3_bestCell 39 = .ok (.aload_n 0, 1) := by decide +kernel
theorem dX3_bestCell_40 : decode cX3_bestCell 40 = .ok (.aload_n 1, 1) := by decide +kernel
theorem dX3_bestCell_41 : decode cX3_bestCell 41 = .ok (.iload_n 3, 1) := by decide +kernel
theorem dX3_bestCell_42 : decode cX3_bestCell 42 = .ok (.invokevirtual 40, 3) := by decide +kernel
theorem dX3_bestCell_45 : decode cX3_bestCell 45 = .ok (.ifCond .eq 11, 3) := by decide +kernel
theorem dX3_bestCell_48 : decode cX3_bestCell 48 = .ok (.iinc 2 1, 3) := by decide +kernel
theorem dX3_bestCell_51 : decode cX3_bestCell 51 = .ok (.aload_n 0, 1) := by decide +kernel
theorem dX3_bestCell_52 : decode cX3_bestCell 52 = .ok (.aload_n 1, 1) := by decide +kernel
theorem dX3_bestCell_53 : decode cX3_bestCell 53 = .ok (.invokevirtual 64, 3) := by decide +kernel
theorem dX3_bestCell_56 : decode cX3_bestCell 56 = .ok (.iinc 3 1, 3) := by decide +kernel
theorem dX3_bestCell_59 : decode cX3_bestCell 59 = .ok (.goto (-31), 3) := by decide +kernel
theorem dX3_bestCell_62 : decode cX3_bestCell 62 = .ok (.iload_n 2, 1) := by decide +kernel
theorem dX3_bestCell_63 : decode cX3_bestCell 63 = .ok (.iconst 1, 1) := by decide +kernel
theorem dX3_bestCell_64 : decode cX3_bestCell 64 = .ok (.if_icmp .le 11, 3) := by decide +kernel
theorem dX3_bestCell_67 : decode cX3_bestCell 67 = .ok (.aload_n 0, 1) := by decide +kernel
theorem dX3_bestCell_68 : decode cX3_bestCell 68 = .ok (.aload_n 1, 1) := by decide +kernel
theorem dX3_bestCell_69 : decode cX3_bestCell 69 = .ok (.invokevirtual 68, 3) := by decide +kernel
theorem dX3_bestCell_72 : decode cX3_bestCell 72 = .ok (.goto 5, 3) := by decide +kernel
theorem dX3_bestCell_75 : decode cX3_bestCell 75 = .ok (.bipush (-9), 2) := by decide +kernel
theorem dX3_bestCell_77 : decode cX3_bestCell 77 = .ok (.ireturn, 1) := by decide +kernel
theorem dX3_addToTally_0 : decode cX3_addToTally 0 = .ok (.iconst 0, 1) := by decide +kernel
theorem dX3_addToTally_1 : decode cX3_addToTally 1 = .ok (.istore_n 2, 1) := by decide +kernel
theorem dX3_addToTally_2 : decode cX3_addToTally 2 = .ok (.iload_n 2, 1) := by decide +kernel
theorem dX3_addToTally_3 : decode cX3_addToTally 3 = .ok (.aload_n 1, 1) := by decide +kernel
theorem dX3_addToTally_4 : decode cX3_addToTally 4 = .ok (.getfield 72, 3) := by decide +kernel
theorem dX3_addToTally_7 : decode cX3_addToTally 7 = .ok (.if_icmp .ge 53, 3) := by decide +kernel
theorem dX3_addToTally_10 : decode cX3_addToTally 10 = .ok (.iconst 0, 1) := by decide +kernel
theorem dX3_addToTally_11 : decode cX3_addToTally 11 = .ok (.istore_n 3, 1) := by decide +kernel
theorem dX3_addToTally_12 : decode cX3_addToTally 12 = .ok (.iload_n 3, 1) := by decide +kernel
theorem dX3_addToTally_13 : decode cX3_addToTally 13 = .ok (.aload_n 1, 1) := by decide +kernel
theorem dX3_addToTally_14 : decode cX3_addToTally 14 = .ok (.getfield 75, 3) := by decide +kernel
theorem dX3_addToTally_17 : decode cX3_addToTally 17 = .ok (.if_icmp .ge 37, 3) := by decide +kernel
theorem dX3_addToTally_20 : decode cX3_addToTally 20 = .ok (.aload_n 0, 1) := by decide +kernel
theorem dX3_addToTally_21 : decode cX3_addToTally 21 = .ok (.getfield 32, 3) := by decide +kernel
theorem dX3_addToTally_24 : decode cX3_addToTally 24 = .ok (.bipush 6, 2) := by decide +kernel
theorem dX3_addToTally_26 : decode cX3_addToTally 26 = .ok (.iload_n 2, 1) := by decide +kernel
theorem dX3_addToTally_27 : decode cX3_addToTally 27 = .ok (.imul, 1) := by decide +kernel
theorem dX3_addToTally_28 : decode cX3_addToTally 28 = .ok (.iload_n 3, 1) := by decide +kernel
theorem dX3_addToTally_29 : decode cX3_addToTally 29 = .ok (.iadd, 1) := by decide +kernel
theorem dX3_addToTally_30 : decode cX3_addToTally 30 = .ok (.bipush 8, 2) := by decide +kernel
theorem dX3_addToTally_32 : decode cX3_addToTally 32 = .ok (.imul, 1) := by decide +kernel
theorem dX3_addToTally_33 : decode cX3_addToTally 33 = .ok (.aload_n 0, 1) := by decide +kernel
theorem dX3_addToTally_34 : decode cX3_addToTally 34 = .ok (.getfield 28, 3) := by decide +kernel
theorem dX3_addToTally_37 : decode cX3_addToTally 37 = .ok (.iload_n 3, 1) := by decide +kernel
theorem dX3_addToTally_38 : decode cX3_addToTally 38 = .ok (.iload_n 2, 1) := by decide +kernel
theorem dX3_addToTally_39 : decode cX3_addToTally 39 = .ok (.invokevirtual 60, 3) := by decide +kernel
theorem dX3_addToTally_42 : decode cX3_addToTally 42 = .ok (.iadd, 1) := by decide +kernel
theorem dX3_addToTally_43 : decode cX3_addToTally 43 = .ok (.dup2, 1) := by decide +kernel
theorem dX3_addToTally_44 : decode cX3_addToTally 44 = .ok (.iaload, 1) := by decide +kernel
theorem dX3_addToTally_45 : decode cX3_addToTally 45 = .ok (.iconst 1, 1) := by decide +kernel
theorem dX3_addToTally_46 : decode cX3_addToTally 46 = .ok (.iadd, 1) := by decide +kernel
theorem dX3_addToTally_47 : decode cX3_addToTally 47 = .ok (.iastore, 1) := by decide +kernel
theorem dX3_addToTally_48 : decode cX3_addToTally 48 = .ok (.iinc 3 1, 3) := by decide +kernel
theorem dX3_addToTally_51 : decode cX3_addToTally 51 = .ok (.goto (-39), 3) := by decide +kernel
theorem dX3_addToTally_54 : decode cX3_addToTally 54 = .ok (.iinc 2 1, 3) := by decide +kernel
theorem dX3_addToTally_57 : decode cX3_addToTally 57 = .ok (.goto (-55), 3) := by decide +kernel
theorem dX3_addToTally_60 : decode cX3_addToTally 60 = .ok (.return_, 1) := by decide +kernel
theorem dX3_mostTellingCell_0 : decode cX3_mostTellingCell 0 = .ok (.bipush (-9), 2) := by decide +kernel
theorem dX3_mostTellingCell_2 : decode cX3_mostTellingCell 2 = .ok (.istore_n 2, 1) := by decide +kernel
theorem dX3_mostTellingCell_3 : decode cX3_mostTellingCell 3 = .ok (.iconst 0, 1) := by decide +kernel
theorem dX3_mostTellingCell_4 : decode cX3_mostTellingCell 4 = .ok (.istore_n 3, 1) := by decide +kernel
theorem dX3_mostTellingCell_5 : decode cX3_mostTellingCell 5 = .ok (.iconst 0, 1) := by decide +kernel
theorem dX3_mostTellingCell_6 : decode cX3_mostTellingCell 6 = .ok (.istore 4, 2) := by decide +kernel
theorem dX3_mostTellingCell_8 : decode cX3_mostTellingCell 8 = .ok (.iload 4, 2) := by decide +kernel
theorem dX3_mostTellingCell_10 : decode cX3_mostTellingCell 10 = .ok (.aload_n 1, 1) := by decide +kernel
theorem dX3_mostTellingCell_11 : decode cX3_mostTellingCell 11 = .ok (.getfield 72, 3) := by decide +kernel
theorem dX3_mostTellingCell_14 : decode cX3_mostTellingCell 14 = .ok (.if_icmp .ge 63, 3) := by decide +kernel
theorem dX3_mostTellingCell_17 : decode cX3_mostTellingCell 17 = .ok (.iconst 0, 1) := by decide +kernel
theorem dX3_mostTellingCell_18 : decode cX3_mostTellingCell 18 = .ok (.istore 5, 2) := by decide +kernel
theorem dX3_mostTellingCell_20 : decode cX3_mostTellingCell 20 = .ok (.iload 5, 2) := by decide +kernel
theorem dX3_mostTellingCell_22 : decode cX3_mostTellingCell 22 = .ok (.aload_n 1, 1) := by decide +kernel
theorem dX3_mostTellingCell_23 : decode cX3_mostTellingCell 23 = .ok (.getfield 75, 3) := by decide +kernel
theorem dX3_mostTellingCell_26 : decode cX3_mostTellingCell 26 = .ok (.if_icmp .ge 45, 3) := by decide +kernel
theorem dX3_mostTellingCell_29 : decode cX3_mostTellingCell 29 = .ok (.bipush 6, 2) := by decide +kernel
theorem dX3_mostTellingCell_31 : decode cX3_mostTellingCell 31 = .ok (.iload 4, 2) := by decide +kernel
theorem dX3_mostTellingCell_33 : decode cX3_mostTellingCell 33 = .ok (.imul, 1) := by decide +kernel
theorem dX3_mostTellingCell_34 : decode cX3_mostTellingCell 34 = .ok (.iload 5, 2) := by decide +kernel
theorem dX3_mostTellingCell_36 : decode cX3_mostTellingCell 36 = .ok (.iadd, 1) := by decide +kernel
theorem dX3_mostTellingCell_37 : decode cX3_mostTellingCell 37 = .ok (.istore 6, 2) := by decide +kernel
theorem dX3_mostTellingCell_39 : decode cX3_mostTellingCell 39 = .ok (.aload_n 0, 1) := by decide +kernel
theorem dX3_mostTellingCell_40 : decode cX3_mostTellingCell 40 = .ok (.iload 6, 2) := by decide +kernel
theorem dX3_mostTellingCell_42 : decode cX3_mostTellingCell 42 = .ok (.invokevirtual 78, 3) := by decide +kernel
theorem dX3_mostTellingCell_45 : decode cX3_mostTellingCell 45 = .ok (.istore 7, 2) := by decide +kernel
theorem dX3_mostTellingCell_47 : decode cX3_mostTellingCell 47 = .ok (.iload_n 2, 1) := by decide +kernel
theorem dX3_mostTellingCell_48 : decode cX3_mostTellingCell 48 = .ok (.bipush (-9), 2) := by decide +kernel
theorem dX3_mostTellingCell_50 : decode cX3_mostTellingCell 50 = .ok (.if_icmp .eq 9, 3) := by decide +kernel
theorem dX3_mostTellingCell_53 : decode cX3_mostTellingCell 53 = .ok (.iload 7, 2) := by decide +kernel
theorem dX3_mostTellingCell_55 : decode cX3_mostTellingCell 55 = .ok (.iload_n 3, 1) := by decide +kernel
theorem dX3_mostTellingCell_56 : decode cX3_mostTellingCell 56 = .ok (.if_icmp .ge 9, 3) := by decide +kernel
theorem dX3_mostTellingCell_59 : decode cX3_mostTellingCell 59 = .ok (.iload 6, 2) := by decide +kernel
theorem dX3_mostTellingCell_61 : decode cX3_mostTellingCell 61 = .ok (.istore_n 2, 1) := by decide +kernel
theorem dX3_mostTellingCell_62 : decode cX3_mostTellingCell 62 = .ok (.iload 7, 2) := by decide +kernel
theorem dX3_mostTellingCell_64 : decode cX3_mostTellingCell 64 = .ok (.istore_n 3, 1) := by decide +kernel
theorem dX3_mostTellingCell_65 : decode cX3_mostTellingCell 65 = .ok (.iinc 5 1, 3) := by decide +kernel
theorem dX3_mostTellingCell_68 : decode cX3_mostTellingCell 68 = .ok (.goto (-48), 3) := by decide +kernel
theorem dX3_mostTellingCell_71 : decode cX3_mostTellingCell 71 = .ok (.iinc 4 1, 3) := by decide +kernel
theorem dX3_mostTellingCell_74 : decode cX3_mostTellingCell 74 = .ok (.goto (-66), 3) := by decide +kernel
theorem dX3_mostTellingCell_77 : decode cX3_mostTellingCell 77 = .ok (.iload_n 2, 1) := by decide +kernel
theorem dX3_mostTellingCell_78 : decode cX3_mostTellingCell 78 = .ok (.ireturn, 1) := by decide +kernel
theorem dX3_greatestTally_0 : decode cX3_greatestTally 0 = .ok (.iconst 0, 1) := by decide +kernel
theorem dX3_greatestTally_1 : decode cX3_greatestTally 1 = .ok (.istore_n 2, 1) := by decide +kernel
theorem dX3_greatestTally_2 : decode cX3_greatestTally 2 = .ok (.iconst 0, 1) := by decide +kernel
theorem dX3_greatestTally_3 : decode cX3_greatestTally 3 = .ok (.istore_n 3, 1) := by decide +kernel
theorem dX3_greatestTally_4 : decode cX3_greatestTally 4 = .ok (.iload_n 3, 1) := by decide +kernel
theorem dX3_greatestTally_5 : decode cX3_greatestTally 5 = .ok (.bipush 8, 2) := by decide +kernel
theorem dX3_greatestTally_7 : decode cX3_greatestTally 7 = .ok (.if_icmp .ge 25, 3) := by decide +kernel
theorem dX3_greatestTally_10 : decode cX3_greatestTally 10 = .ok (.iload_n 2, 1) := by decide +kernel
theorem dX3_greatestTally_11 : decode cX3_greatestTally 11 = .ok (.aload_n 0, 1) := by decide +kernel
theorem dX3_greatestTally_12 : decode cX3_greatestTally 12 = .ok (.getfield 32, 3) := by decide +kernel
theorem dX3_greatestTally_15 : decode cX3_greatestTally 15 = .ok (.iload_n 1, 1) := by decide +kernel
theorem dX3_greatestTally_16 : decode cX3_greatestTally 16 = .ok (.bipush 8, 2) := by decide +kernel
theorem dX3_greatestTally_18 : decode cX3_greatestTally 18 = .ok (.imul, 1) := by decide +kernel
theorem dX3_greatestTally_19 : decode cX3_greatestTally 19 = .ok (.iload_n 3, 1) := by decide +kernel
theorem dX3_greatestTally_20 : decode cX3_greatestTally 20 = .ok (.iadd, 1) := by decide +kernel
theorem dX3_greatestTally_21 : decode cX3_greatestTally 21 = .ok (.iaload, 1) := by decide +kernel
theorem dX3_greatestTally_22 : decode cX3_greatestTally 22 = .ok (.invokestatic 82, 3) := by decide +kernel
theorem dX3_greatestTally_25 : decode cX3_greatestTally 25 = .ok (.istore_n 2, 1) := by decide +kernel
theorem dX3_greatestTally_26 : decode cX3_greatestTally 26 = .ok (.iinc 3 1, 3) := by decide +kernel
theorem dX3_greatestTally_29 : decode cX3_greatestTally 29 = .ok (.goto (-25), 3) := by decide +kernel
theorem dX3_greatestTally_32 : decode cX3_greatestTally 32 = .ok (.iload_n 2, 1) := by decide +kernel
theorem dX3_greatestTally_33 : decode cX3_greatestTally 33 = .ok (.ireturn, 1) := by decide +kernel
theorem dX4_init_0 : decode cX4_init 0 = .ok (.aload_n 0, 1) := by decide +kernel
theorem dX4_init_1 : decode cX4_init 1 = .ok (.invokespecial 3, 3) := by decide +kernel
theorem dX4_init_4 : decode cX4_init 4 = .ok (.aload_n 0, 1) := by decide +kernel
theorem dX4_init_5 : decode cX4_init 5 = .ok (.bipush 100, 2) := by decide +kernel
theorem dX4_init_7 : decode cX4_init 7 = .ok (.newarray .char, 2) := by decide +kernel
theorem dX4_init_9 : decode cX4_init 9 = .ok (.putfield 9, 3) := by decide +kernel
theorem dX4_init_12 : decode cX4_init 12 = .ok (.aload_n 0, 1) := by decide +kernel
theorem dX4_init_13 : decode cX4_init 13 = .ok (.iconst 0, 1) := by decide +kernel
theorem dX4_init_14 : decode cX4_init 14 = .ok (.putfield 15, 3) := by decide +kernel
theorem dX4_init_17 : decode cX4_init 17 = .ok (.aload_n 0, 1) := by decide +kernel
theorem dX4_init_18 : decode cX4_init 18 = .ok (.bipush 32, 2) := by decide +kernel
theorem dX4_init_20 : decode cX4_init 20 = .ok (.putfield 19, 3) := by decide +kernel
theorem dX4_init_23 : decode cX4_init 23 = .ok (.aload_n 0, 1) := by decide +kernel
theorem dX4_init_24 : decode cX4_init 24 = .ok (.iconst 0, 1) := by decide +kernel
theorem dX4_init_25 : decode cX4_init 25 = .ok (.putfield 23, 3) := by decide +kernel
theorem dX4_init_28 : decode cX4_init 28 = .ok (.return_, 1) := by decide +kernel
theorem dX4_append_0 : decode cX4_append 0 = .ok (.aload_n 0, 1) := by decide +kernel
theorem dX4_append_1 : decode cX4_append 1 = .ok (.getfield 15, 3) := by decide +kernel
theorem dX4_append_4 : decode cX4_append 4 = .ok (.bipush 100, 2) := by decide +kernel
theorem dX4_append_6 : decode cX4_append 6 = .ok (.if_icmp .lt 5, 3) := by decide +kernel
theorem dX4_append_9 : decode cX4_append 9 = .ok (.iconst 0, 1) := by decide +kernel
theorem dX4_append_10 : decode cX4_append 10 = .ok (.ireturn, 1) := by decide +kernel
theorem dX4_append_11 : decode cX4_append 11 = .ok (.aload_n 0, 1) := by decide +kernel
theorem dX4_append_12 : decode cX4_append 12 = .ok (.getfield 9, 3) := by decide +kernel
theorem dX4_append_15 : decode cX4_append 15 = .ok (.aload_n 0, 1) := by decide +kernel
theorem dX4_append_16 : decode cX4_append 16 = .ok (.getfield 15, 3) := by decide +kernel
theorem dX4_append_19 : decode cX4_append 19 = .ok (.iload_n 1, 1) := by decide +kernel
theorem dX4_append_20 : decode cX4_append 20 = .ok (.i2c, 1) := by decide +kernel
theorem dX4_append_21 : decode cX4_append 21 = .ok (.castore, 1) := by decide +kernel
theorem dX4_append_22 : decode cX4_append 22 = .ok (.aload_n 0, 1) := by decide +kernel
theorem dX4_append_23 : decode cX4_append 23 = .ok (.dup, 1) := by decide +kernel
theorem dX4_append_24 : decode cX4_append 24 = .ok (.getfield 15, 3) := by decide +kernel
theorem dX4_append_27 : decode cX4_append 27 = .ok (.iconst 1, 1) := by decide +kernel
theorem dX4_append_28 : decode cX4_append 28 = .ok (.iadd, 1) := by decide +kernel
theorem dX4_append_29 : decode cX4_append 29 = .ok (.putfield 15, 3) := by decide +kernel
theorem dX4_append_32 : decode cX4_append 32 = .ok (.iconst 1, 1) := by decide +kernel
theorem dX4_append_33 : decode cX4_append 33 = .ok (.ireturn, 1) := by decide +kernel
theorem dX4_readInto_0 : decode cX4_readInto 0 = .ok (.aload_n 1, 1) := by decide +kernel
theorem dX4_readInto_1 : decode cX4_readInto 1 = .ok (.invokevirtual 26, 3) := by decide +kernel
theorem dX4_readInto_4 : decode cX4_readInto 4 = .ok (.aload_n 0, 1) := by decide +kernel
theorem dX4_readInto_5 : decode cX4_readInto 5 = .ok (.bipush 32, 2) := by decide +kernel
theorem dX4_readInto_7 : decode cX4_readInto 7 = .ok (.putfield 19, 3) := by decide +kernel
theorem dX4_readInto_10 : decode cX4_readInto 10 = .ok (.aload_n 0, 1) := by decide +kernel
theorem dX4_readInto_11 : decode cX4_readInto 11 = .ok (.iconst 0, 1) := by decide +kernel
theorem dX4_readInto_12 : decode cX4_readInto 12 = .ok (.putfield 23, 3) := by decide +kernel
theorem dX4_readInto_15 : decode cX4_readInto 15 = .ok (.iconst 0, 1) := by decide +kernel
theorem dX4_readInto_16 : decode cX4_readInto 16 = .ok (.istore_n 2, 1) := by decide +kernel
theorem dX4_readInto_17 : decode cX4_readInto 17 = .ok (.iload_n 2, 1) := by decide +kernel
theorem dX4_readInto_18 : decode cX4_readInto 18 = .ok (.aload_n 0, 1) := by decide +kernel
theorem dX4_readInto_19 : decode cX4_readInto 19 = .ok (.getfield 15, 3) := by decide +kernel
theorem dX4_readInto_22 : decode cX4_readInto 22 = .ok (.if_icmp .ge 36, 3) := by decide +kernel
theorem dX4_readInto_25 : decode cX4_readInto 25 = .ok (.aload_n 0, 1) := by decide +kernel
theorem dX4_readInto_26 : decode cX4_readInto 26 = .ok (.getfield 9, 3) := by decide +kernel
theorem dX4_readInto_29 : decode cX4_readInto 29 = .ok (.iload_n 2, 1) := by decide +kernel
theorem dX4_readInto_30 : decode cX4_readInto 30 = .ok (.caload, 1) := by decide +kernel
theorem dX4_readInto_31 : decode cX4_readInto 31 = .ok (.bipush 32, 2) := by decide +kernel
theorem dX4_readInto_33 : decode cX4_readInto 33 = .ok (.if_icmp .eq 19, 3) := by decide +kernel
theorem dX4_readInto_36 : decode cX4_readInto 36 = .ok (.aload_n 0, 1) := by decide +kernel
theorem dX4_readInto_37 : decode cX4_readInto 37 = .ok (.aload_n 0, 1) := by decide +kernel
theorem dX4_readInto_38 : decode cX4_readInto 38 = .ok (.getfield 9, 3) := by decide +kernel
theorem dX4_readInto_41 : decode cX4_readInto 41 = .ok (.iload_n 2, 1) := by decide +kernel
theorem dX4_readInto_42 : decode cX4_readInto 42 = .ok (.caload, 1) := by decide +kernel
theorem dX4_readInto_43 : decode cX4_readInto 43 = .ok (.aload_n 1, 1) := by decide +kernel
theorem dX4_readInto_44 : decode cX4_readInto 44 = .ok (.invokevirtual 31, 3) := by decide +kernel
theorem dX4_readInto_47 : decode cX4_readInto 47 = .ok (.ifCond .ne 5, 3) := by decide +kernel
theorem dX4_readInto_50 : decode cX4_readInto 50 = .ok (.iload_n 2, 1) := by decide +kernel
theorem dX4_readInto_51 : decode cX4_readInto 51 = .ok (.ireturn, 1) := by decide +kernel
theorem dX4_readInto_52 : decode cX4_readInto 52 = .ok (.iinc 2 1, 3) := by decide +kernel
theorem dX4_readInto_55 : decode cX4_readInto 55 = .ok (.goto (-38), 3) := by decide +kernel
theorem dX4_readInto_58 : decode cX4_readInto 58 = .ok (.aload_n 0, 1) := by decide +kernel
theorem dX4_readInto_59 : decode cX4_readInto 59 = .ok (.getfield 19, 3) := by decide +kernel
theorem dX4_readInto_62 : decode cX4_readInto 62 = .ok (.bipush 32, 2) := by decide +kernel
theorem dX4_readInto_64 : decode cX4_readInto 64 = .ok (.if_icmp .ne 15, 3) := by decide +kernel
theorem dX4_readInto_67 : decode cX4_readInto 67 = .ok (.aload_n 1, 1) := by decide +kernel
theorem dX4_readInto_68 : decode cX4_readInto 68 = .ok (.getfield 35, 3) := by decide +kernel
theorem dX4_readInto_71 : decode cX4_readInto 71 = .ok (.ifCond .le 8, 3) := by decide +kernel
theorem dX4_readInto_74 : decode cX4_readInto 74 = .ok (.bipush (-9), 2) := by decide +kernel
theorem dX4_readInto_76 : decode cX4_readInto 76 = .ok (.goto 7, 3) := by decide +kernel
theorem dX4_readInto_79 : decode cX4_readInto 79 = .ok (.aload_n 0, 1) := by decide +kernel
theorem dX4_readInto_80 : decode cX4_readInto 80 = .ok (.getfield 15, 3) := by decide +kernel
theorem dX4_readInto_83 : decode cX4_readInto 83 = .ok (.ireturn, 1) := by decide +kernel
theorem dX4_takes_0 : decode cX4_takes 0 = .ok (.iload_n 1, 1) := by decide +kernel
theorem dX4_takes_1 : decode cX4_takes 1 = .ok (.bipush 59, 2) := by decide +kernel
theorem dX4_takes_3 : decode cX4_takes 3 = .ok (.if_icmp .ne 9, 3) := by decide +kernel
theorem dX4_takes_6 : decode cX4_takes 6 = .ok (.aload_n 0, 1) := by decide +kernel
theorem dX4_takes_7 : decode cX4_takes 7 = .ok (.aload_n 2, 1) := by decide +kernel
theorem dX4_takes_8 : decode cX4_takes 8 = .ok (.invokevirtual 38, 3) := by decide +kernel
theorem dX4_takes_11 : decode cX4_takes 11 = .ok (.ireturn, 1) := by decide +kernel
theorem dX4_takes_12 : decode cX4_takes 12 = .ok (.iload_n 1, 1) := by decide +kernel
theorem dX4_takes_13 : decode cX4_takes 13 = .ok (.bipush 48, 2) := by decide +kernel
theorem dX4_takes_15 : decode cX4_takes 15 = .ok (.if_icmp .lt 40, 3) := by decide +kernel
theorem dX4_takes_18 : decode cX4_takes 18 = .ok (.iload_n 1, 1) := by decide +kernel
theorem dX4_takes_19 : decode cX4_takes 19 = .ok (.bipush 55, 2) := by decide +kernel
theorem dX4_takes_21 : decode cX4_takes 21 = .ok (.if_icmp .gt 34, 3) := by decide +kernel
theorem dX4_takes_24 : decode cX4_takes 24 = .ok (.aload_n 0, 1) := by decide +kernel
theorem dX4_takes_25 : decode cX4_takes 25 = .ok (.getfield 19, 3) := by decide +kernel
theorem dX4_takes_28 : decode cX4_takes 28 = .ok (.bipush 114, 2) := by decide +kernel
theorem dX4_takes_30 : decode cX4_takes 30 = .ok (.if_icmp .ne 15, 3) := by decide +kernel
theorem dX4_takes_33 : decode cX4_takes 33 = .ok (.aload_n 0, 1) := by decide +kernel
theorem dX4_takes_34 : decode cX4_takes 34 = .ok (.iload_n 1, 1) := by decide +kernel
theorem dX4_takes_35 : decode cX4_takes 35 = .ok (.bipush 48, 2) := by decide +kernel
theorem dX4_takes_37 : decode cX4_takes 37 = .ok (.isub, 1) := by decide +kernel
theorem dX4_takes_38 : decode cX4_takes 38 = .ok (.aload_n 2, 1) := by decide +kernel
theorem dX4_takes_39 : decode cX4_takes 39 = .ok (.invokevirtual 42, 3) := by decide +kernel
theorem dX4_takes_42 : decode cX4_takes 42 = .ok (.goto 12, 3) := by decide +kernel
theorem dX4_takes_45 : decode cX4_takes 45 = .ok (.aload_n 0, 1) := by decide +kernel
theorem dX4_takes_46 : decode cX4_takes 46 = .ok (.iload_n 1, 1) := by decide +kernel
theorem dX4_takes_47 : decode cX4_takes 47 = .ok (.bipush 48, 2) := by decide +kernel
theorem dX4_takes_49 : decode cX4_takes 49 = .ok (.isub, 1) := by decide +kernel
theorem dX4_takes_50 : decode cX4_takes 50 = .ok (.aload_n 2, 1) := by decide +kernel
theorem dX4_takes_51 : decode cX4_takes 51 = .ok (.invokevirtual 46, 3) := by decide +kernel
theorem dX4_takes_54 : decode cX4_takes 54 = .ok (.ireturn, 1) := by decide +kernel
theorem dX4_takes_55 : decode cX4_takes 55 = .ok (.aload_n 0, 1) := by decide +kernel
theorem dX4_takes_56 : decode cX4_takes 56 = .ok (.iload_n 1, 1) := by decide +kernel
theorem dX4_takes_57 : decode cX4_takes 57 = .ok (.aload_n 2, 1) := by decide +kernel
theorem dX4_takes_58 : decode cX4_takes 58 = .ok (.invokevirtual 49, 3) := by decide +kernel
theorem dX4_takes_61 : decode cX4_takes 61 = .ok (.ireturn, 1) := by decide +kernel
theorem dX4_beginsItem_0 : decode cX4_beginsItem 0 = .ok (.iload_n 1, 1) := by decide +kernel
theorem dX4_beginsItem_1 : decode cX4_beginsItem 1 = .ok (.bipush 99, 2) := by decide +kernel
theorem dX4_beginsItem_3 : decode cX4_beginsItem 3 = .ok (.if_icmp .eq 9, 3) := by decide +kernel
