theorem dX4_beginsItem_6 : decode cX4_beginsItem 6 = .ok (.iload_n 1, 1) := by decide +kernel
theorem dX4_beginsItem_7 : decode cX4_beginsItem 7 = .ok (.bipush 100, 2) := by decide +kernel
theorem dX4_beginsItem_9 : decode cX4_beginsItem 9 = .ok (.if_icmp .ne 7, 3) := by decide +kernel
theorem dX4_beginsItem_12 : decode cX4_beginsItem 12 = .ok (.iconst 1, 1) := by decide +kernel
theorem dX4_beginsItem_13 : decode cX4_beginsItem 13 = .ok (.goto 4, 3) := by decide +kernel
theorem dX4_beginsItem_16 : decode cX4_beginsItem 16 = .ok (.iconst 0, 1) := by decide +kernel
theorem dX4_beginsItem_17 : decode cX4_beginsItem 17 = .ok (.istore_n 3, 1) := by decide +kernel
theorem dX4_beginsItem_18 : decode cX4_beginsItem 18 = .ok (.iload_n 3, 1) := by decide +kernel
theorem dX4_beginsItem_19 : decode cX4_beginsItem 19 = .ok (.ifCond .eq 12, 3) := by decide +kernel
theorem dX4_beginsItem_22 : decode cX4_beginsItem 22 = .ok (.aload_n 2, 1) := by decide +kernel
theorem dX4_beginsItem_23 : decode cX4_beginsItem 23 = .ok (.getfield 52, 3) := by decide +kernel
theorem dX4_beginsItem_26 : decode cX4_beginsItem 26 = .ok (.bipush 6, 2) := by decide +kernel
theorem dX4_beginsItem_28 : decode cX4_beginsItem 28 = .ok (.if_icmp .lt 18, 3) := by decide +kernel
theorem dX4_beginsItem_31 : decode cX4_beginsItem 31 = .ok (.iload_n 1, 1) := by decide +kernel
theorem dX4_beginsItem_32 : decode cX4_beginsItem 32 = .ok (.bipush 114, 2) := by decide +kernel
theorem dX4_beginsItem_34 : decode cX4_beginsItem 34 = .ok (.if_icmp .ne 16, 3) := by decide +kernel
theorem dX4_beginsItem_37 : decode cX4_beginsItem 37 = .ok (.aload_n 2, 1) := by decide +kernel
theorem dX4_beginsItem_38 : decode cX4_beginsItem 38 = .ok (.getfield 35, 3) := by decide +kernel
theorem dX4_beginsItem_41 : decode cX4_beginsItem 41 = .ok (.bipush 6, 2) := by decide +kernel
theorem dX4_beginsItem_43 : decode cX4_beginsItem 43 = .ok (.if_icmp .ge 7, 3) := by decide +kernel
theorem dX4_beginsItem_46 : decode cX4_beginsItem 46 = .ok (.iconst 1, 1) := by decide +kernel
theorem dX4_beginsItem_47 : decode cX4_beginsItem 47 = .ok (.goto 4, 3) := by decide +kernel
theorem dX4_beginsItem_50 : decode cX4_beginsItem 50 = .ok (.iconst 0, 1) := by decide +kernel
theorem dX4_beginsItem_51 : decode cX4_beginsItem 51 = .ok (.istore 4, 2) := by decide +kernel
theorem dX4_beginsItem_53 : decode cX4_beginsItem 53 = .ok (.aload_n 0, 1) := by decide +kernel
theorem dX4_beginsItem_54 : decode cX4_beginsItem 54 = .ok (.getfield 19, 3) := by decide +kernel
theorem dX4_beginsItem_57 : decode cX4_beginsItem 57 = .ok (.bipush 32, 2) := by decide +kernel
theorem dX4_beginsItem_59 : decode cX4_beginsItem 59 = .ok (.if_icmp .ne 8, 3) := by decide +kernel
theorem dX4_beginsItem_62 : decode cX4_beginsItem 62 = .ok (.iload 4, 2) := by decide +kernel
theorem dX4_beginsItem_64 : decode cX4_beginsItem 64 = .ok (.ifCond .ne 5, 3) := by decide +kernel
theorem dX4_beginsItem_67 : decode cX4_beginsItem 67 = .ok (.iconst 0, 1) := by decide +kernel
theorem dX4_beginsItem_68 : decode cX4_beginsItem 68 = .ok (.ireturn, 1) := by decide +kernel
theorem dX4_beginsItem_69 : decode cX4_beginsItem 69 = .ok (.aload_n 0, 1) := by decide +kernel
theorem dX4_beginsItem_70 : decode cX4_beginsItem 70 = .ok (.iload_n 1, 1) := by decide +kernel
theorem dX4_beginsItem_71 : decode cX4_beginsItem 71 = .ok (.putfield 19, 3) := by decide +kernel
theorem dX4_beginsItem_74 : decode cX4_beginsItem 74 = .ok (.aload_n 0, 1) := by decide +kernel
theorem dX4_beginsItem_75 : decode cX4_beginsItem 75 = .ok (.iconst 0, 1) := by decide +kernel
theorem dX4_beginsItem_76 : decode cX4_beginsItem 76 = .ok (.putfield 23, 3) := by decide +kernel
theorem dX4_beginsItem_79 : decode cX4_beginsItem 79 = .ok (.iconst 1, 1) := by decide +kernel
theorem dX4_beginsItem_80 : decode cX4_beginsItem 80 = .ok (.ireturn, 1) := by decide +kernel
theorem dX4_takesInk_0 : decode cX4_takesInk 0 = .ok (.aload_n 0, 1) := by decide +kernel
theorem dX4_takesInk_1 : decode cX4_takesInk 1 = .ok (.getfield 19, 3) := by decide +kernel
theorem dX4_takesInk_4 : decode cX4_takesInk 4 = .ok (.bipush 32, 2) := by decide +kernel
theorem dX4_takesInk_6 : decode cX4_takesInk 6 = .ok (.if_icmp .eq 14, 3) := by decide +kernel
theorem dX4_takesInk_9 : decode cX4_takesInk 9 = .ok (.aload_n 0, 1) := by decide +kernel
theorem dX4_takesInk_10 : decode cX4_takesInk 10 = .ok (.getfield 23, 3) := by decide +kernel
theorem dX4_takesInk_13 : decode cX4_takesInk 13 = .ok (.ifCond .ne 7, 3) := by decide +kernel
theorem dX4_takesInk_16 : decode cX4_takesInk 16 = .ok (.iload_n 1, 1) := by decide +kernel
theorem dX4_takesInk_17 : decode cX4_takesInk 17 = .ok (.ifCond .ne 5, 3) := by decide +kernel
theorem dX4_takesInk_20 : decode cX4_takesInk 20 = .ok (.iconst 0, 1) := by decide +kernel
theorem dX4_takesInk_21 : decode cX4_takesInk 21 = .ok (.ireturn, 1) := by decide +kernel
theorem dX4_takesInk_22 : decode cX4_takesInk 22 = .ok (.aload_n 2, 1) := by decide +kernel
theorem dX4_takesInk_23 : decode cX4_takesInk 23 = .ok (.iload_n 1, 1) := by decide +kernel
theorem dX4_takesInk_24 : decode cX4_takesInk 24 = .ok (.aload_n 0, 1) := by decide +kernel
theorem dX4_takesInk_25 : decode cX4_takesInk 25 = .ok (.getfield 19, 3) := by decide +kernel
theorem dX4_takesInk_28 : decode cX4_takesInk 28 = .ok (.bipush 100, 2) := by decide +kernel
theorem dX4_takesInk_30 : decode cX4_takesInk 30 = .ok (.if_icmp .ne 7, 3) := by decide +kernel
theorem dX4_takesInk_33 : decode cX4_takesInk 33 = .ok (.iconst 1, 1) := by decide +kernel
theorem dX4_takesInk_34 : decode cX4_takesInk 34 = .ok (.goto 4, 3) := by decide +kernel
theorem dX4_takesInk_37 : decode cX4_takesInk 37 = .ok (.iconst 0, 1) := by decide +kernel
theorem dX4_takesInk_38 : decode cX4_takesInk 38 = .ok (.invokevirtual 55, 3) := by decide +kernel
theorem dX4_takesInk_41 : decode cX4_takesInk 41 = .ok (.aload_n 0, 1) := by decide +kernel
theorem dX4_takesInk_42 : decode cX4_takesInk 42 = .ok (.iconst 1, 1) := by decide +kernel
theorem dX4_takesInk_43 : decode cX4_takesInk 43 = .ok (.putfield 23, 3) := by decide +kernel
theorem dX4_takesInk_46 : decode cX4_takesInk 46 = .ok (.iconst 1, 1) := by decide +kernel
theorem dX4_takesInk_47 : decode cX4_takesInk 47 = .ok (.ireturn, 1) := by decide +kernel
theorem dX4_takesCell_0 : decode cX4_takesCell 0 = .ok (.aload_n 2, 1) := by decide +kernel
theorem dX4_takesCell_1 : decode cX4_takesCell 1 = .ok (.getfield 35, 3) := by decide +kernel
theorem dX4_takesCell_4 : decode cX4_takesCell 4 = .ok (.ifCond .ne 8, 3) := by decide +kernel
theorem dX4_takesCell_7 : decode cX4_takesCell 7 = .ok (.bipush 6, 2) := by decide +kernel
theorem dX4_takesCell_9 : decode cX4_takesCell 9 = .ok (.goto 7, 3) := by decide +kernel
theorem dX4_takesCell_12 : decode cX4_takesCell 12 = .ok (.aload_n 2, 1) := by decide +kernel
theorem dX4_takesCell_13 : decode cX4_takesCell 13 = .ok (.getfield 59, 3) := by decide +kernel
theorem dX4_takesCell_16 : decode cX4_takesCell 16 = .ok (.istore_n 3, 1) := by decide +kernel
theorem dX4_takesCell_17 : decode cX4_takesCell 17 = .ok (.aload_n 0, 1) := by decide +kernel
theorem dX4_takesCell_18 : decode cX4_takesCell 18 = .ok (.getfield 23, 3) := by decide +kernel
theorem dX4_takesCell_21 : decode cX4_takesCell 21 = .ok (.iload_n 3, 1) := by decide +kernel
theorem dX4_takesCell_22 : decode cX4_takesCell 22 = .ok (.if_icmp .lt 5, 3) := by decide +kernel
theorem dX4_takesCell_25 : decode cX4_takesCell 25 = .ok (.iconst 0, 1) := by decide +kernel
theorem dX4_takesCell_26 : decode cX4_takesCell 26 = .ok (.ireturn, 1) := by decide +kernel
theorem dX4_takesCell_27 : decode cX4_takesCell 27 = .ok (.aload_n 2, 1) := by decide +kernel
theorem dX4_takesCell_28 : decode cX4_takesCell 28 = .ok (.getfield 62, 3) := by decide +kernel
theorem dX4_takesCell_31 : decode cX4_takesCell 31 = .ok (.aload_n 0, 1) := by decide +kernel
theorem dX4_takesCell_32 : decode cX4_takesCell 32 = .ok (.getfield 23, 3) := by decide +kernel
theorem dX4_takesCell_35 : decode cX4_takesCell 35 = .ok (.aload_n 2, 1) := by decide +kernel
theorem dX4_takesCell_36 : decode cX4_takesCell 36 = .ok (.getfield 35, 3) := by decide +kernel
theorem dX4_takesCell_39 : decode cX4_takesCell 39 = .ok (.invokestatic 66, 3) := by decide +kernel
theorem dX4_takesCell_42 : decode cX4_takesCell 42 = .ok (.iload_n 1, 1) := by decide +kernel
theorem dX4_takesCell_43 : decode cX4_takesCell 43 = .ok (.iconst 1, 1) := by decide +kernel
theorem dX4_takesCell_44 : decode cX4_takesCell 44 = .ok (.invokevirtual 70, 3) := by decide +kernel
theorem dX4_takesCell_47 : decode cX4_takesCell 47 = .ok (.aload_n 0, 1) := by decide +kernel
theorem dX4_takesCell_48 : decode cX4_takesCell 48 = .ok (.dup, 1) := by decide +kernel
theorem dX4_takesCell_49 : decode cX4_takesCell 49 = .ok (.getfield 23, 3) := by decide +kernel
theorem dX4_takesCell_52 : decode cX4_takesCell 52 = .ok (.iconst 1, 1) := by decide +kernel
theorem dX4_takesCell_53 : decode cX4_takesCell 53 = .ok (.iadd, 1) := by decide +kernel
theorem dX4_takesCell_54 : decode cX4_takesCell 54 = .ok (.putfield 23, 3) := by decide +kernel
theorem dX4_takesCell_57 : decode cX4_takesCell 57 = .ok (.iconst 1, 1) := by decide +kernel
theorem dX4_takesCell_58 : decode cX4_takesCell 58 = .ok (.ireturn, 1) := by decide +kernel
theorem dX4_endsItem_0 : decode cX4_endsItem 0 = .ok (.aload_n 0, 1) := by decide +kernel
theorem dX4_endsItem_1 : decode cX4_endsItem 1 = .ok (.getfield 19, 3) := by decide +kernel
theorem dX4_endsItem_4 : decode cX4_endsItem 4 = .ok (.bipush 32, 2) := by decide +kernel
theorem dX4_endsItem_6 : decode cX4_endsItem 6 = .ok (.if_icmp .eq 10, 3) := by decide +kernel
theorem dX4_endsItem_9 : decode cX4_endsItem 9 = .ok (.aload_n 0, 1) := by decide +kernel
theorem dX4_endsItem_10 : decode cX4_endsItem 10 = .ok (.getfield 23, 3) := by decide +kernel
theorem dX4_endsItem_13 : decode cX4_endsItem 13 = .ok (.ifCond .ne 5, 3) := by decide +kernel
theorem dX4_endsItem_16 : decode cX4_endsItem 16 = .ok (.iconst 0, 1) := by decide +kernel
theorem dX4_endsItem_17 : decode cX4_endsItem 17 = .ok (.ireturn, 1) := by decide +kernel
theorem dX4_endsItem_18 : decode cX4_endsItem 18 = .ok (.aload_n 0, 1) := by decide +kernel
theorem dX4_endsItem_19 : decode cX4_endsItem 19 = .ok (.getfield 19, 3) := by decide +kernel
theorem dX4_endsItem_22 : decode cX4_endsItem 22 = .ok (.bipush 114, 2) := by decide +kernel
theorem dX4_endsItem_24 : decode cX4_endsItem 24 = .ok (.if_icmp .ne 41, 3) := by decide +kernel
theorem dX4_endsItem_27 : decode cX4_endsItem 27 = .ok (.aload_n 1, 1) := by decide +kernel
theorem dX4_endsItem_28 : decode cX4_endsItem 28 = .ok (.getfield 35, 3) := by decide +kernel
theorem dX4_endsItem_31 : decode cX4_endsItem 31 = .ok (.ifCond .le 16, 3) := by decide +kernel
theorem dX4_endsItem_34 : decode cX4_endsItem 34 = .ok (.aload_n 0, 1) := by decide +kernel
theorem dX4_endsItem_35 : decode cX4_endsItem 35 = .ok (.getfield 23, 3) := by decide +kernel
theorem dX4_endsItem_38 : decode cX4_endsItem 38 = .ok (.aload_n 1, 1) := by decide +kernel
theorem dX4_endsItem_39 : decode cX4_endsItem 39 = .ok (.getfield 59, 3) := by decide +kernel
theorem dX4_endsItem_42 : decode cX4_endsItem 42 = .ok (.if_icmp .eq 5, 3) := by decide +kernel
theorem dX4_endsItem_45 : decode cX4_endsItem 45 = .ok (.iconst 0, 1) := by decide +kernel
theorem dX4_endsItem_46 : decode cX4_endsItem 46 = .ok (.ireturn, 1) := by decide +kernel
theorem dX4_endsItem_47 : decode cX4_endsItem 47 = .ok (.aload_n 1, 1) := by decide +kernel
theorem dX4_endsItem_48 : decode cX4_endsItem 48 = .ok (.aload_n 0, 1) := by decide +kernel
theorem dX4_endsItem_49 : decode cX4_endsItem 49 = .ok (.getfield 23, 3) := by decide +kernel
theorem dX4_endsItem_52 : decode cX4_endsItem 52 = .ok (.putfield 59, 3) := by decide +kernel
theorem dX4_endsItem_55 : decode cX4_endsItem 55 = .ok (.aload_n 1, 1) := by decide +kernel
theorem dX4_endsItem_56 : decode cX4_endsItem 56 = .ok (.dup, 1) := by decide +kernel
theorem dX4_endsItem_57 : decode cX4_endsItem 57 = .ok (.getfield 35, 3) := by decide +kernel
theorem dX4_endsItem_60 : decode cX4_endsItem 60 = .ok (.iconst 1, 1) := by decide +kernel
theorem dX4_endsItem_61 : decode cX4_endsItem 61 = .ok (.iadd, 1) := by decide +kernel
theorem dX4_endsItem_62 : decode cX4_endsItem 62 = .ok (.putfield 35, 3) := by decide +kernel
theorem dX4_endsItem_65 : decode cX4_endsItem 65 = .ok (.aload_n 0, 1) := by decide +kernel
theorem dX4_endsItem_66 : decode cX4_endsItem 66 = .ok (.bipush 32, 2) := by decide +kernel
theorem dX4_endsItem_68 : decode cX4_endsItem 68 = .ok (.putfield 19, 3) := by decide +kernel
theorem dX4_endsItem_71 : decode cX4_endsItem 71 = .ok (.iconst 1, 1) := by decide +kernel
theorem dX4_endsItem_72 : decode cX4_endsItem 72 = .ok (.ireturn, 1) := by decide +kernel
theorem dX5_init_0 : decode cX5_init 0 = .ok (.aload_n 0, 1) := by decide +kernel
theorem dX5_init_1 : decode cX5_init 1 = .ok (.invokespecial 3, 3) := by decide +kernel
theorem dX5_init_4 : decode cX5_init 4 = .ok (.aload_n 0, 1) := by decide +kernel
theorem dX5_init_5 : decode cX5_init 5 = .ok (.iconst 1, 1) := by decide +kernel
theorem dX5_init_6 : decode cX5_init 6 = .ok (.putfield 9, 3) := by decide +kernel
theorem dX5_init_9 : decode cX5_init 9 = .ok (.aload_n 0, 1) := by decide +kernel
theorem dX5_init_10 : decode cX5_init 10 = .ok (.iconst 1, 1) := by decide +kernel
theorem dX5_init_11 : decode cX5_init 11 = .ok (.putfield 15, 3) := by decide +kernel
theorem dX5_init_14 : decode cX5_init 14 = .ok (.aload_n 0, 1) := by decide +kernel
theorem dX5_init_15 : decode cX5_init 15 = .ok (.iconst 0, 1) := by decide +kernel
theorem dX5_init_16 : decode cX5_init 16 = .ok (.putfield 18, 3) := by decide +kernel
theorem dX5_init_19 : decode cX5_init 19 = .ok (.aload_n 0, 1) := by decide +kernel
theorem dX5_init_20 : decode cX5_init 20 = .ok (.iconst 0, 1) := by decide +kernel
theorem dX5_init_21 : decode cX5_init 21 = .ok (.putfield 21, 3) := by decide +kernel
theorem dX5_init_24 : decode cX5_init 24 = .ok (.aload_n 0, 1) := by decide +kernel
theorem dX5_init_25 : decode cX5_init 25 = .ok (.new 24, 3) := by decide +kernel
theorem dX5_init_28 : decode cX5_init 28 = .ok (.dup, 1) := by decide +kernel
theorem dX5_init_29 : decode cX5_init 29 = .ok (.invokespecial 26, 3) := by decide +kernel
theorem dX5_init_32 : decode cX5_init 32 = .ok (.putfield 27, 3) := by decide +kernel
theorem dX5_init_35 : decode cX5_init 35 = .ok (.aload_n 0, 1) := by decide +kernel
theorem dX5_init_36 : decode cX5_init 36 = .ok (.bipush 6, 2) := by decide +kernel
theorem dX5_init_38 : decode cX5_init 38 = .ok (.newarray .int, 2) := by decide +kernel
theorem dX5_init_40 : decode cX5_init 40 = .ok (.putfield 31, 3) := by decide +kernel
theorem dX5_init_43 : decode cX5_init 43 = .ok (.aload_n 0, 1) := by decide +kernel
theorem dX5_init_44 : decode cX5_init 44 = .ok (.bipush 6, 2) := by decide +kernel
theorem dX5_init_46 : decode cX5_init 46 = .ok (.newarray .int, 2) := by decide +kernel
theorem dX5_init_48 : decode cX5_init 48 = .ok (.putfield 35, 3) := by decide +kernel
theorem dX5_init_51 : decode cX5_init 51 = .ok (.aload_n 0, 1) := by decide +kernel
theorem dX5_init_52 : decode cX5_init 52 = .ok (.bipush 6, 2) := by decide +kernel
theorem dX5_init_54 : decode cX5_init 54 = .ok (.newarray .long, 2) := by decide +kernel
theorem dX5_init_56 : decode cX5_init 56 = .ok (.putfield 38, 3) := by decide +kernel
theorem dX5_init_59 : decode cX5_init 59 = .ok (.aload_n 0, 1) := by decide +kernel
theorem dX5_init_60 : decode cX5_init 60 = .ok (.bipush 6, 2) := by decide +kernel
theorem dX5_init_62 : decode cX5_init 62 = .ok (.newarray .int, 2) := by decide +kernel
theorem dX5_init_64 : decode cX5_init 64 = .ok (.putfield 42, 3) := by decide +kernel
theorem dX5_init_67 : decode cX5_init 67 = .ok (.return_, 1) := by decide +kernel
theorem dX5_copy_0 : decode cX5_copy 0 = .ok (.aload_n 0, 1) := by decide +kernel
theorem dX5_copy_1 : decode cX5_copy 1 = .ok (.aload_n 1, 1) := by decide +kernel
theorem dX5_copy_2 : decode cX5_copy 2 = .ok (.getfield 9, 3) := by decide +kernel
theorem dX5_copy_5 : decode cX5_copy 5 = .ok (.putfield 9, 3) := by decide +kernel
theorem dX5_copy_8 : decode cX5_copy 8 = .ok (.aload_n 0, 1) := by decide +kernel
theorem dX5_copy_9 : decode cX5_copy 9 = .ok (.aload_n 1, 1) := by decide +kernel
theorem dX5_copy_10 : decode cX5_copy 10 = .ok (.getfield 15, 3) := by decide +kernel
theorem dX5_copy_13 : decode cX5_copy 13 = .ok (.putfield 15, 3) := by decide +kernel
theorem dX5_copy_16 : decode cX5_copy 16 = .ok (.aload_n 0, 1) := by decide +kernel
theorem dX5_copy_17 : decode cX5_copy 17 = .ok (.aload_n 1, 1) := by decide +kernel
theorem dX5_copy_18 : decode cX5_copy 18 = .ok (.getfield 18, 3) := by decide +kernel
theorem dX5_copy_21 : decode cX5_copy 21 = .ok (.putfield 18, 3) := by decide +kernel
theorem dX5_copy_24 : decode cX5_copy 24 = .ok (.aload_n 0, 1) := by decide +kernel
theorem dX5_copy_25 : decode cX5_copy 25 = .ok (.aload_n 1, 1) := by decide +kernel
theorem dX5_copy_26 : decode cX5_copy 26 = .ok (.getfield 21, 3) := by decide +kernel
theorem dX5_copy_29 : decode cX5_copy 29 = .ok (.putfield 21, 3) := by decide +kernel
theorem dX5_copy_32 : decode cX5_copy 32 = .ok (.aload_n 0, 1) := by decide +kernel
theorem dX5_copy_33 : decode cX5_copy 33 = .ok (.getfield 27, 3) := by decide +kernel
theorem dX5_copy_36 : decode cX5_copy 36 = .ok (.aload_n 1, 1) := by decide +kernel
theorem dX5_copy_37 : decode cX5_copy 37 = .ok (.getfield 27, 3) := by decide +kernel
theorem dX5_copy_40 : decode cX5_copy 40 = .ok (.invokevirtual 45, 3) := by decide +kernel
theorem dX5_copy_43 : decode cX5_copy 43 = .ok (.aload_n 1, 1) := by decide +kernel
theorem dX5_copy_44 : decode cX5_copy 44 = .ok (.getfield 31, 3) := by decide +kernel
theorem dX5_copy_47 : decode cX5_copy 47 = .ok (.iconst 0, 1) := by decide +kernel
theorem dX5_copy_48 : decode cX5_copy 48 = .ok (.aload_n 0, 1) := by decide +kernel
theorem dX5_copy_49 : decode cX5_copy 49 = .ok (.getfield 31, 3) := by decide +kernel
theorem dX5_copy_52 : decode cX5_copy 52 = .ok (.iconst 0, 1) := by decide +kernel
theorem dX5_copy_53 : decode cX5_copy 53 = .ok (.bipush 6, 2) := by decide +kernel
theorem dX5_copy_55 : decode cX5_copy 55 = .ok (.invokestatic 49, 3) := by decide +kernel
theorem dX5_copy_58 : decode cX5_copy 58 = .ok (.aload_n 1, 1) := by decide +kernel
theorem dX5_copy_59 : decode cX5_copy 59 = .ok (.getfield 35, 3) := by decide +kernel
theorem dX5_copy_62 : decode cX5_copy 62 = .ok (.iconst 0, 1) := by decide +kernel
theorem dX5_copy_63 : decode cX5_copy 63 = .ok (.aload_n 0, 1) := by decide +kernel
theorem dX5_copy_64 : decode cX5_copy 64 = .ok (.getfield 35, 3) := by decide +kernel
theorem dX5_copy_67 : decode cX5_copy 67 = .ok (.iconst 0, 1) := by decide +kernel
theorem dX5_copy_68 : decode cX5_copy 68 = .ok (.bipush 6, 2) := by decide +kernel
theorem dX5_copy_70 : decode cX5_copy 70 = .ok (.invokestatic 49, 3) := by decide +kernel
theorem dX5_copy_73 : decode cX5_copy 73 = .ok (.aload_n 1, 1) := by decide +kernel
theorem dX5_copy_74 : decode cX5_copy 74 = .ok (.getfield 38, 3) := by decide +kernel
theorem dX5_copy_77 : decode cX5_copy 77 = .ok (.iconst 0, 1) := by decide +kernel
theorem dX5_copy_78 : decode cX5_copy 78 = .ok (.aload_n 0, 1) := by decide +kernel
theorem dX5_copy_79 : decode cX5_copy 79 = .ok (.getfield 38, 3) := by decide +kernel
theorem dX5_copy_82 : decode cX5_copy 82 = .ok (.iconst 0, 1) := by decide +kernel
theorem dX5_copy_83 : decode cX5_copy 83 = .ok (.bipush 6, 2) := by decide +kernel
theorem dX5_copy_85 : decode cX5_copy 85 = .ok (.invokestatic 49, 3) := by decide +kernel
theorem dX5_copy_88 : decode cX5_copy 88 = .ok (.aload_n 1, 1) := by decide +kernel
theorem dX5_copy_89 : decode cX5_copy 89 = .ok (.getfield 42, 3) := by decide +kernel
theorem dX5_copy_92 : decode cX5_copy 92 = .ok (.iconst 0, 1) := by decide +kernel
theorem dX5_copy_93 : decode cX5_copy 93 = .ok (.aload_n 0, 1) := by decide +kernel
theorem dX5_copy_94 : decode cX5_copy 94 = .ok (.getfield 42, 3) := by decide +kernel
theorem dX5_copy_97 : decode cX5_copy 97 = .ok (.iconst 0, 1) := by decide +kernel
theorem dX5_copy_98 : decode cX5_copy 98 = .ok (.bipush 6, 2) := by decide +kernel
theorem dX5_copy_100 : decode cX5_copy 100 = .ok (.invokestatic 49, 3) := by decide +kernel
theorem dX5_copy_103 : decode cX5_copy 103 = .ok (.return_, 1) := by decide +kernel
theorem dX5_empty_0 : decode cX5_empty 0 = .ok (.aload_n 0, 1) := by decide +kernel
theorem dX5_empty_1 : decode cX5_empty 1 = .ok (.iconst 0, 1) := by decide +kernel
theorem dX5_empty_2 : decode cX5_empty 2 = .ok (.putfield 9, 3) := by decide +kernel
theorem dX5_empty_5 : decode cX5_empty 5 = .ok (.aload_n 0, 1) := by decide +kernel
theorem dX5_empty_6 : decode cX5_empty 6 = .ok (.iconst 0, 1) := by decide +kernel
theorem dX5_empty_7 : decode cX5_empty 7 = .ok (.putfield 15, 3) := by decide +kernel
theorem dX5_empty_10 : decode cX5_empty 10 = .ok (.aload_n 0, 1) := by decide +kernel
theorem dX5_empty_11 : decode cX5_empty 11 = .ok (.iconst 0, 1) := by decide +kernel
theorem dX5_empty_12 : decode cX5_empty 12 = .ok (.putfield 18, 3) := by decide +kernel
theorem dX5_empty_15 : decode cX5_empty 15 = .ok (.aload_n 0, 1) := by decide +kernel
theorem dX5_empty_16 : decode cX5_empty 16 = .ok (.iconst 0, 1) := by decide +kernel
theorem dX5_empty_17 : decode cX5_empty 17 = .ok (.putfield 21, 3) := by decide +kernel
theorem dX5_empty_20 : decode cX5_empty 20 = .ok (.aload_n 0, 1) := by decide +kernel
theorem dX5_empty_21 : decode cX5_empty 21 = .ok (.getfield 27, 3) := by decide +kernel
theorem dX5_empty_24 : decode cX5_empty 24 = .ok (.invokevirtual 55, 3) := by decide +kernel
theorem dX5_empty_27 : decode cX5_empty 27 = .ok (.return_, 1) := by decide +kernel
theorem dX5_addInk_0 : decode cX5_addInk 0 = .ok (.aload_n 0, 1) := by decide +kernel
theorem dX5_addInk_1 : decode cX5_addInk 1 = .ok (.getfield 18, 3) := by decide +kernel
theorem dX5_addInk_4 : decode cX5_addInk 4 = .ok (.bipush 6, 2) := by decide +kernel
theorem dX5_addInk_6 : decode cX5_addInk 6 = .ok (.if_icmp .lt 4, 3) := by decide +kernel
theorem dX5_addInk_9 : decode cX5_addInk 9 = .ok (.return_, 1) := by decide +kernel
theorem dX5_addInk_10 : decode cX5_addInk 10 = .ok (.aload_n 0, 1) := by decide +kernel
theorem dX5_addInk_11 : decode cX5_addInk 11 = .ok (.getfield 31, 3) := by decide +kernel
theorem dX5_addInk_14 : decode cX5_addInk 14 = .ok (.aload_n 0, 1) := by decide +kernel
theorem dX5_addInk_15 : decode cX5_addInk 15 = .ok (.getfield 18, 3) := by decide +kernel
theorem dX5_addInk_18 : decode cX5_addInk 18 = .ok (.iload_n 1, 1) := by decide +kernel
theorem dX5_addInk_19 : decode cX5_addInk 19 = .ok (.iastore, 1) := by decide +kernel
theorem dX5_addInk_20 : decode cX5_addInk 20 = .ok (.aload_n 0, 1) := by decide +kernel
theorem dX5_addInk_21 : decode cX5_addInk 21 = .ok (.getfield 35, 3) := by decide +kernel
theorem dX5_addInk_24 : decode cX5_addInk 24 = .ok (.aload_n 0, 1) := by decide +kernel
theorem dX5_addInk_25 : decode cX5_addInk 25 = .ok (.getfield 18, 3) := by decide +kernel
theorem dX5_addInk_28 : decode cX5_addInk 28 = .ok (.aload_n 0, 1) := by decide +kernel
theorem dX5_addInk_29 : decode cX5_addInk 29 = .ok (.getfield 18, 3) := by decide +kernel
theorem dX5_addInk_32 : decode cX5_addInk 32 = .ok (.iastore, 1) := by decide +kernel
theorem dX5_addInk_33 : decode cX5_addInk 33 = .ok (.aload_n 0, 1) := by decide +kernel
theorem dX5_addInk_34 : decode cX5_addInk 34 = .ok (.getfield 38, 3) := by decide +kernel
theorem dX5_addInk_37 : decode cX5_addInk 37 = .ok (.aload_n 0, 1) := by decide +kernel
theorem dX5_addInk_38 : decode cX5_addInk 38 = .ok (.getfield 18, 3) := by decide +kernel
theorem dX5_addInk_41 : decode cX5_addInk 41 = .ok (.lconst 0, 1) := by decide +kernel
theorem dX5_addInk_42 : decode cX5_addInk 42 = .ok (.lastore, 1) := by decide +kernel
theorem dX5_addInk_43 : decode cX5_addInk 43 = .ok (.aload_n 0, 1) := by decide +kernel
theorem dX5_addInk_44 : decode cX5_addInk 44 = .ok (.getfield 42, 3) := by decide +kernel
theorem dX5_addInk_47 : decode cX5_addInk 47 = .ok (.aload_n 0, 1) := by decide +kernel
theorem dX5_addInk_48 : decode cX5_addInk 48 = .ok (.getfield 18, 3) := by decide +kernel
theorem dX5_addInk_51 : decode cX5_addInk 51 = .ok (.iconst 4, 1) := by decide +kernel
theorem dX5_addInk_52 : decode cX5_addInk 52 = .ok (.iastore, 1) := by decide +kernel
theorem dX5_addInk_53 : decode cX5_addInk 53 = .ok (.iload_n 2, 1) := by decide +kernel
theorem dX5_addInk_54 : decode cX5_addInk 54 = .ok (.ifCond .eq 18, 3) := by decide +kernel
theorem dX5_addInk_57 : decode cX5_addInk 57 = .ok (.aload_n 0, 1) := by decide +kernel
theorem dX5_addInk_58 : decode cX5_addInk 58 = .ok (.dup, 1) := by decide +kernel
theorem dX5_addInk_59 : decode cX5_addInk 59 = .ok (.getfield 21, 3) := by decide +kernel
theorem dX5_addInk_62 : decode cX5_addInk 62 = .ok (.iconst 1, 1) := by decide +kernel
theorem dX5_addInk_63 : decode cX5_addInk 63 = .ok (.aload_n 0, 1) := by decide +kernel
theorem dX5_addInk_64 : decode cX5_addInk 64 = .ok (.getfield 18, 3) := by decide +kernel
theorem dX5_addInk_67 : decode cX5_addInk 67 = .ok (.ishl, 1) := by decide +kernel
theorem dX5_addInk_68 : decode cX5_addInk 68 = .ok (.ior, 1) := by decide +kernel
theorem dX5_addInk_69 : decode cX5_addInk 69 = .ok (.putfield 21, 3) := by decide +kernel
theorem dX5_addInk_72 : decode cX5_addInk 72 = .ok (.aload_n 0, 1) := by decide +kernel
theorem dX5_addInk_73 : decode cX5_addInk 73 = .ok (.dup, 1) := by decide +kernel
theorem dX5_addInk_74 : decode cX5_addInk 74 = .ok (.getfield 18, 3) := by decide +kernel
theorem dX5_addInk_77 : decode cX5_addInk 77 = .ok (.iconst 1, 1) := by decide +kernel
theorem dX5_addInk_78 : decode cX5_addInk 78 = .ok (.iadd, 1) := by decide +kernel
theorem dX5_addInk_79 : decode cX5_addInk 79 = .ok (.putfield 18, 3) := by decide +kernel
theorem dX5_addInk_82 : decode cX5_addInk 82 = .ok (.return_, 1) := by decide +kernel
theorem dX5_hasInk_0 : decode cX5_hasInk 0 = .ok (.iload_n 1, 1) := by decide +kernel
theorem dX5_hasInk_1 : decode cX5_hasInk 1 = .ok (.ifCond .lt 15, 3) := by decide +kernel
theorem dX5_hasInk_4 : decode cX5_hasInk 4 = .ok (.iload_n 1, 1) := by decide +kernel
theorem dX5_hasInk_5 : decode cX5_hasInk 5 = .ok (.aload_n 0, 1) := by decide +kernel
theorem dX5_hasInk_6 : decode cX5_hasInk 6 = .ok (.getfield 18, 3) := by decide +kernel
theorem dX5_hasInk_9 : decode cX5_hasInk 9 = .ok (.if_icmp .ge 7, 3) := by decide +kernel
theorem dX5_hasInk_12 : decode cX5_hasInk 12 = .ok (.iconst 1, 1) := by decide +kernel
theorem dX5_hasInk_13 : decode cX5_hasInk 13 = .ok (.goto 4, 3) := by decide +kernel
theorem dX5_hasInk_16 : decode cX5_hasInk 16 = .ok (.iconst 0, 1) := by decide +kernel
theorem dX5_hasInk_17 : decode cX5_hasInk 17 = .ok (.ireturn, 1) := by decide +kernel
theorem dX5_hasCell_0 : decode cX5_hasCell 0 = .ok (.iload_n 1, 1) := by decide +kernel
theorem dX5_hasCell_1 : decode cX5_hasCell 1 = .ok (.ifCond .lt 27, 3) := by decide +kernel
theorem dX5_hasCell_4 : decode cX5_hasCell 4 = .ok (.iload_n 1, 1) := by decide +kernel
theorem dX5_hasCell_5 : decode cX5_hasCell 5 = .ok (.aload_n 0, 1) := by decide +kernel
theorem dX5_hasCell_6 : decode cX5_hasCell 6 = .ok (.getfield 9, 3) := by decide +kernel
theorem dX5_hasCell_9 : decode cX5_hasCell 9 = .ok (.if_icmp .ge 19, 3) := by decide +kernel
theorem dX5_hasCell_12 : decode cX5_hasCell 12 = .ok (.iload_n 2, 1) := by decide +kernel
theorem dX5_hasCell_13 : decode cX5_hasCell 13 = .ok (.ifCond .lt 15, 3) := by decide +kernel
theorem dX5_hasCell_16 : decode cX5_hasCell 16 = .ok (.iload_n 2, 1) := by decide +kernel
theorem dX5_hasCell_17 : decode cX5_hasCell 17 = .ok (.aload_n 0, 1) := by decide +kernel
theorem dX5_hasCell_18 : decode cX5_hasCell 18 = .ok (.getfield 15, 3) := by decide +kernel
theorem dX5_hasCell_21 : decode cX5_hasCell 21 = .ok (.if_icmp .ge 7, 3) := by decide +kernel
theorem dX5_hasCell_24 : decode cX5_hasCell 24 = .ok (.iconst 1, 1) := by decide +kernel
theorem dX5_hasCell_25 : decode cX5_hasCell 25 = .ok (.goto 4, 3) := by decide +kernel
theorem dX5_hasCell_28 : decode cX5_hasCell 28 = .ok (.iconst 0, 1) := by decide +kernel
theorem dX5_hasCell_29 : decode cX5_hasCell 29 = .ok (.ireturn, 1) := by decide +kernel
theorem dX5_isDense_0 : decode cX5_isDense 0 = .ok (.aload_n 0, 1) := by decide +kernel
theorem dX5_isDense_1 : decode cX5_isDense 1 = .ok (.getfield 21, 3) := by decide +kernel
theorem dX5_isDense_4 : decode cX5_isDense 4 = .ok (.iload_n 1, 1) := by decide +kernel
theorem dX5_isDense_5 : decode cX5_isDense 5 = .ok (.ishr, 1) := by decide +kernel
theorem dX5_isDense_6 : decode cX5_isDense 6 = .ok (.iconst 1, 1) := by decide +kernel
theorem dX5_isDense_7 : decode cX5_isDense 7 = .ok (.iand, 1) := by decide +kernel
theorem dX5_isDense_8 : decode cX5_isDense 8 = .ok (.ifCond .eq 7, 3) := by decide +kernel
theorem dX5_isDense_11 : decode cX5_isDense 11 = .ok (.iconst 1, 1) := by decide +kernel
theorem dX5_isDense_12 : decode cX5_isDense 12 = .ok (.goto 4, 3) := by decide +kernel
theorem dX5_isDense_15 : decode cX5_isDense 15 = .ok (.iconst 0, 1) := by decide +kernel
theorem dX5_isDense_16 : decode cX5_isDense 16 = .ok (.ireturn, 1) := by decide +kernel
theorem dX5_placeOf_0 : decode cX5_placeOf 0 = .ok (.iconst 0, 1) := by decide +kernel
theorem dX5_placeOf_1 : decode cX5_placeOf 1 = .ok (.istore_n 2, 1) := by decide +kernel
theorem dX5_placeOf_2 : decode cX5_placeOf 2 = .ok (.iload_n 2, 1) := by decide +kernel
theorem dX5_placeOf_3 : decode cX5_placeOf 3 = .ok (.aload_n 0, 1) := by decide +kernel
theorem dX5_placeOf_4 : decode cX5_placeOf 4 = .ok (.getfield 18, 3) := by decide +kernel
theorem dX5_placeOf_7 : decode cX5_placeOf 7 = .ok (.if_icmp .ge 21, 3) := by decide +kernel
theorem dX5_placeOf_10 : decode cX5_placeOf 10 = .ok (.aload_n 0, 1) := by decide +kernel
theorem dX5_placeOf_11 : decode cX5_placeOf 11 = .ok (.getfield 35, 3) := by decide +kernel
theorem dX5_placeOf_14 : decode cX5_placeOf 14 = .ok (.iload_n 2, 1) := by decide +kernel
theorem dX5_placeOf_15 : decode cX5_placeOf 15 = .ok (.iaload, 1) := by decide +kernel
theorem dX5_placeOf_16 : decode cX5_placeOf 16 = .ok (.iload_n 1, 1) := by decide +kernel
theorem dX5_placeOf_17 : decode cX5_placeOf 17 = .ok (.if_icmp .ne 5, 3) := by decide +kernel
theorem dX5_placeOf_20 : decode cX5_placeOf 20 = .ok (.iload_n 2, 1) := by decide +kernel
theorem dX5_placeOf_21 : decode cX5_placeOf 21 = .ok (.ireturn, 1) := by decide +kernel
theorem dX5_placeOf_22 : decode cX5_placeOf 22 = .ok (.iinc 2 1, 3) := by decide +kernel
theorem dX5_placeOf_25 : decode cX5_placeOf 25 = .ok (.goto (-23), 3) := by decide +kernel
theorem dX5_placeOf_28 : decode cX5_placeOf 28 = .ok (.iconst (-1), 1) := by decide +kernel
theorem dX5_placeOf_29 : decode cX5_placeOf 29 = .ok (.ireturn, 1) := by decide +kernel
theorem dX5_exchange_0 : decode cX5_exchange 0 = .ok (.aload_n 0, 1) := by decide +kernel
theorem dX5_exchange_1 : decode cX5_exchange 1 = .ok (.iload_n 1, 1) := by decide +kernel
theorem dX5_exchange_2 : decode cX5_exchange 2 = .ok (.invokevirtual 58, 3) := by decide +kernel
theorem dX5_exchange_5 : decode cX5_exchange 5 = .ok (.istore_n 3, 1) := by decide +kernel
theorem dX5_exchange_6 : decode cX5_exchange 6 = .ok (.aload_n 0, 1) := by decide +kernel
theorem dX5_exchange_7 : decode cX5_exchange 7 = .ok (.iload_n 2, 1) := by decide +kernel
theorem dX5_exchange_8 : decode cX5_exchange 8 = .ok (.invokevirtual 58, 3) := by decide +kernel
theorem dX5_exchange_11 : decode cX5_exchange 11 = .ok (.istore 4, 2) := by decide +kernel
theorem dX5_exchange_13 : decode cX5_exchange 13 = .ok (.iload_n 3, 1) := by decide +kernel
theorem dX5_exchange_14 : decode cX5_exchange 14 = .ok (.ifCond .lt 23, 3) := by decide +kernel
theorem dX5_exchange_17 : decode cX5_exchange 17 = .ok (.iload 4, 2) := by decide +kernel
theorem dX5_exchange_19 : decode cX5_exchange 19 = .ok (.ifCond .lt 18, 3) := by decide +kernel
theorem dX5_exchange_22 : decode cX5_exchange 22 = .ok (.aload_n 0, 1) := by decide +kernel
theorem dX5_exchange_23 : decode cX5_exchange 23 = .ok (.getfield 35, 3) := by decide +kernel
theorem dX5_exchange_26 : decode cX5_exchange 26 = .ok (.iload_n 3, 1) := by decide +kernel
theorem dX5_exchange_27 : decode cX5_exchange 27 = .ok (.iload_n 2, 1) := by decide +kernel
theorem dX5_exchange_28 : decode cX5_exchange 28 = .ok (.iastore, 1) := by decide +kernel
theorem dX5_exchange_29 : decode cX5_exchange 29 = .ok (.aload_n 0, 1) := by decide +kernel
theorem dX5_exchange_30 : decode cX5_exchange 30 = .ok (.getfield 35, 3) := by decide +kernel
theorem dX5_exchange_33 : decode cX5_exchange 33 = .ok (.iload 4, 2) := by decide +kernel
theorem dX5_exchange_35 : decode cX5_exchange 35 = .ok (.iload_n 1, 1) := by decide +kernel
theorem dX5_exchange_36 : decode cX5_exchange 36 = .ok (.iastore, 1) := by decide +kernel
theorem dX5_exchange_37 : decode cX5_exchange 37 = .ok (.return_, 1) := by decide +kernel
theorem dX5_inksOf_0 : decode cX5_inksOf 0 = .ok (.iconst 0, 1) := by decide +kernel
theorem dX5_inksOf_1 : decode cX5_inksOf 1 = .ok (.istore_n 3, 1) := by decide +kernel
theorem dX5_inksOf_2 : decode cX5_inksOf 2 = .ok (.iconst 0, 1) := by decide +kernel
theorem dX5_inksOf_3 : decode cX5_inksOf 3 = .ok (.istore 4, 2) := by decide +kernel
theorem dX5_inksOf_5 : decode cX5_inksOf 5 = .ok (.iload 4, 2) := by decide +kernel
theorem dX5_inksOf_7 : decode cX5_inksOf 7 = .ok (.aload_n 0, 1) := by decide +kernel
theorem dX5_inksOf_8 : decode cX5_inksOf 8 = .ok (.getfield 18, 3) := by decide +kernel
theorem dX5_inksOf_11 : decode cX5_inksOf 11 = .ok (.if_icmp .ge 34, 3) := by decide +kernel
theorem dX5_inksOf_14 : decode cX5_inksOf 14 = .ok (.aload_n 0, 1) := by decide +kernel
theorem dX5_inksOf_15 : decode cX5_inksOf 15 = .ok (.getfield 38, 3) := by decide +kernel
theorem dX5_inksOf_18 : decode cX5_inksOf 18 = .ok (.iload 4, 2) := by decide +kernel
theorem dX5_inksOf_20 : decode cX5_inksOf 20 = .ok (.laload, 1) := by decide +kernel
theorem dX5_inksOf_21 : decode cX5_inksOf 21 = .ok (.iload_n 1, 1) := by decide +kernel
theorem dX5_inksOf_22 : decode cX5_inksOf 22 = .ok (.iload_n 2, 1) := by decide +kernel
theorem dX5_inksOf_23 : decode cX5_inksOf 23 = .ok (.invokestatic 62, 3) := by decide +kernel
theorem dX5_inksOf_26 : decode cX5_inksOf 26 = .ok (.land, 1) := by decide +kernel
theorem dX5_inksOf_27 : decode cX5_inksOf 27 = .ok (.lconst 0, 1) := by decide +kernel
theorem dX5_inksOf_28 : decode cX5_inksOf 28 = .ok (.lcmp, 1) := by decide +kernel
theorem dX5_inksOf_29 : decode cX5_inksOf 29 = .ok (.ifCond .eq 10, 3) := by decide +kernel
theorem dX5_inksOf_32 : decode cX5_inksOf 32 = .ok (.iload_n 3, 1) := by decide +kernel
theorem dX5_inksOf_33 : decode cX5_inksOf 33 = .ok (.iconst 1, 1) := by decide +kernel
theorem dX5_inksOf_34 : decode cX5_inksOf 34 = .ok (.iload 4, 2) := by decide +kernel
theorem dX5_inksOf_36 : decode cX5_inksOf 36 = .ok (.ishl, 1) := by decide +kernel
theorem dX5_inksOf_37 : decode cX5_inksOf 37 = .ok (.ior, 1) := by decide +kernel
theorem dX5_inksOf_38 : decode cX5_inksOf 38 = .ok (.istore_n 3, 1) := by decide +kernel
theorem dX5_inksOf_39 : decode cX5_inksOf 39 = .ok (.iinc 4 1, 3) := by decide +kernel
theorem dX5_inksOf_42 : decode cX5_inksOf 42 = .ok (.goto (-37), 3) := by decide +kernel
theorem dX5_inksOf_45 : decode cX5_inksOf 45 = .ok (.iload_n 3, 1) := by decide +kernel
theorem dX5_inksOf_46 : decode cX5_inksOf 46 = .ok (.ireturn, 1) := by decide +kernel
theorem dX5_cellsOfBlocks_0 : decode cX5_cellsOfBlocks 0 = .ok (.iconst 0, 1) := by decide +kernel
theorem dX5_cellsOfBlocks_1 : decode cX5_cellsOfBlocks 1 = .ok (.istore_n 1, 1) := by decide +kernel
theorem dX5_cellsOfBlocks_2 : decode cX5_cellsOfBlocks 2 = .ok (.iconst 0, 1) := by decide +kernel
theorem dX5_cellsOfBlocks_3 : decode cX5_cellsOfBlocks 3 = .ok (.istore_n 2, 1) := by decide +kernel
theorem dX5_cellsOfBlocks_4 : decode cX5_cellsOfBlocks 4 = .ok (.iload_n 2, 1) := by decide +kernel
theorem dX5_cellsOfBlocks_5 : decode cX5_cellsOfBlocks 5 = .ok (.aload_n 0, 1) := by decide +kernel
theorem dX5_cellsOfBlocks_6 : decode cX5_cellsOfBlocks 6 = .ok (.getfield 18, 3) := by decide +kernel
theorem dX5_cellsOfBlocks_9 : decode cX5_cellsOfBlocks 9 = .ok (.if_icmp .ge 21, 3) := by decide +kernel
theorem dX5_cellsOfBlocks_12 : decode cX5_cellsOfBlocks 12 = .ok (.iload_n 1, 1) := by decide +kernel
theorem dX5_cellsOfBlocks_13 : decode cX5_cellsOfBlocks 13 = .ok (.aload_n 0, 1) := by decide +kernel
theorem dX5_cellsOfBlocks_14 : decode cX5_cellsOfBlocks 14 = .ok (.getfield 38, 3) := by decide +kernel
theorem dX5_cellsOfBlocks_17 : decode cX5_cellsOfBlocks 17 = .ok (.iload_n 2, 1) := by decide +kernel
theorem dX5_cellsOfBlocks_18 : decode cX5_cellsOfBlocks 18 = .ok (.laload, 1) := by decide +kernel
theorem dX5_cellsOfBlocks_19 : decode cX5_cellsOfBlocks 19 = .ok (.invokestatic 66, 3) := by decide +kernel
theorem dX5_cellsOfBlocks_22 : decode cX5_cellsOfBlocks 22 = .ok (.iadd, 1) := by decide +kernel
theorem dX5_cellsOfBlocks_23 : decode cX5_cellsOfBlocks 23 = .ok (.istore_n 1, 1) := by decide +kernel
theorem dX5_cellsOfBlocks_24 : decode cX5_cellsOfBlocks 24 = .ok (.iinc 2 1, 3) := by decide +kernel
theorem dX5_cellsOfBlocks_27 : decode cX5_cellsOfBlocks 27 = .ok (.goto (-23), 3) := by decide +kernel
theorem dX5_cellsOfBlocks_30 : decode cX5_cellsOfBlocks 30 = .ok (.iload_n 1, 1) := by decide +kernel
theorem dX5_cellsOfBlocks_31 : decode cX5_cellsOfBlocks 31 = .ok (.ireturn, 1) := by decide +kernel
theorem dX5_slippedBlocks_0 : decode cX5_slippedBlocks 0 = .ok (.iconst 0, 1) := by decide +kernel
theorem dX5_slippedBlocks_1 : decode cX5_slippedBlocks 1 = .ok (.istore_n 1, 1) := by decide +kernel
theorem dX5_slippedBlocks_2 : decode cX5_slippedBlocks 2 = .ok (.iconst 0, 1) := by decide +kernel
theorem dX5_slippedBlocks_3 : decode cX5_slippedBlocks 3 = .ok (.istore_n 2, 1) := by decide +kernel
theorem dX5_slippedBlocks_4 : decode cX5_slippedBlocks 4 = .ok (.iload_n 2, 1) := by decide +kernel
theorem dX5_slippedBlocks_5 : decode cX5_slippedBlocks 5 = .ok (.aload_n 0, 1) := by decide +kernel
theorem dX5_slippedBlocks_6 : decode cX5_slippedBlocks 6 = .ok (.getfield 18, 3) := by decide +kernel
theorem dX5_slippedBlocks_9 : decode cX5_slippedBlocks 9 = .ok (.if_icmp .ge 22, 3) := by decide +kernel
theorem dX5_slippedBlocks_12 : decode cX5_slippedBlocks 12 = .ok (.aload_n 0, 1) := by decide +kernel
theorem dX5_slippedBlocks_13 : decode cX5_slippedBlocks 13 = .ok (.getfield 42, 3) := by decide +kernel
theorem dX5_slippedBlocks_16 : decode cX5_slippedBlocks 16 = .ok (.iload_n 2, 1) := by decide +kernel
theorem dX5_slippedBlocks_17 : decode cX5_slippedBlocks 17 = .ok (.iaload, 1) := by decide +kernel
theorem dX5_slippedBlocks_18 : decode cX5_slippedBlocks 18 = .ok (.iconst 4, 1) := by decide +kernel
theorem dX5_slippedBlocks_19 : decode cX5_slippedBlocks 19 = .ok (.if_icmp .eq 6, 3) := by decide +kernel
theorem dX5_slippedBlocks_22 : decode cX5_slippedBlocks 22 = .ok (.iinc 1 1, 3) := by decide +kernel
theorem dX5_slippedBlocks_25 : decode cX5_slippedBlocks 25 = .ok (.iinc 2 1, 3) := by decide +kernel
theorem dX5_slippedBlocks_28 : decode cX5_slippedBlocks 28 = .ok (.goto (-24), 3) := by decide +kernel
theorem dX5_slippedBlocks_31 : decode cX5_slippedBlocks 31 = .ok (.iload_n 1, 1) := by decide +kernel
theorem dX5_slippedBlocks_32 : decode cX5_slippedBlocks 32 = .ok (.ireturn, 1) := by decide +kernel
theorem dX5_paper_0 : decode cX5_paper 0 = .ok (.lconst 1, 1) := by decide +kernel
theorem dX5_paper_1 : decode cX5_paper 1 = .ok (.aload_n 0, 1) := by decide +kernel
theorem dX5_paper_2 : decode cX5_paper 2 = .ok (.getfield 9, 3) := by decide +kernel
theorem dX5_paper_5 : decode cX5_paper 5 = .ok (.lshl, 1) := by decide +kernel
theorem dX5_paper_6 : decode cX5_paper 6 = .ok (.lconst 1, 1) := by decide +kernel
theorem dX5_paper_7 : decode cX5_paper 7 = .ok (.lsub, 1) := by decide +kernel
theorem dX5_paper_8 : decode cX5_paper 8 = .ok (.lstore_n 1, 1) := by decide +kernel
theorem dX5_paper_9 : decode cX5_paper 9 = .ok (.lconst 0, 1) := by decide +kernel
theorem dX5_paper_10 : decode cX5_paper 10 = .ok (.lstore_n 3, 1) := by decide +kernel
theorem dX5_paper_11 : decode cX5_paper 11 = .ok (.iconst 0, 1) := by decide +kernel
theorem dX5_paper_12 : decode cX5_paper 12 = .ok (.istore 5, 2) := by decide +kernel
theorem dX5_paper_14 : decode cX5_paper 14 = .ok (.iload 5, 2) := by decide +kernel
theorem dX5_paper_16 : decode cX5_paper 16 = .ok (.aload_n 0, 1) := by decide +kernel
theorem dX5_paper_17 : decode cX5_paper 17 = .ok (.getfield 15, 3) := by decide +kernel
theorem dX5_paper_20 : decode cX5_paper 20 = .ok (.if_icmp .ge 19, 3) := by decide +kernel
theorem dX5_paper_23 : decode cX5_paper 23 = .ok (.lload_n 3, 1) := by decide +kernel
theorem dX5_paper_24 : decode cX5_paper 24 = .ok (.lload_n 1, 1) := by decide +kernel
theorem dX5_paper_25 : decode cX5_paper 25 = .ok (.bipush 8, 2) := by decide +kernel
theorem dX5_paper_27 : decode cX5_paper 27 = .ok (.iload 5, 2) := by decide +kernel
theorem dX5_paper_29 : decode cX5_paper 29 = .ok (.imul, 1) := by decide +kernel
theorem dX5_paper_30 : decode cX5_paper 30 = .ok (.lshl, 1) := by decide +kernel
theorem dX5_paper_31 : decode cX5_paper 31 = .ok (.lor, 1) := by decide +kernel
theorem dX5_paper_32 : decode cX5_paper 32 = .ok (.lstore_n 3, 1) := by decide +kernel
theorem dX5_paper_33 : decode cX5_paper 33 = .ok (.iinc 5 1, 3) := by decide +kernel
theorem dX5_paper_36 : decode cX5_paper 36 = .ok (.goto (-22), 3) := by decide +kernel
theorem dX5_paper_39 : decode cX5_paper 39 = .ok (.lload_n 3, 1) := by decide +kernel
theorem dX5_paper_40 : decode cX5_paper 40 = .ok (.lreturn, 1) := by decide +kernel
theorem dX5_proofInto_0 : decode cX5_proofInto 0 = .ok (.aload_n 0, 1) := by decide +kernel
theorem dX5_proofInto_1 : decode cX5_proofInto 1 = .ok (.invokevirtual 72, 3) := by decide +kernel
theorem dX5_proofInto_4 : decode cX5_proofInto 4 = .ok (.lstore 4, 2) := by decide +kernel
theorem dX5_proofInto_6 : decode cX5_proofInto 6 = .ok (.aload_n 1, 1) := by decide +kernel
theorem dX5_proofInto_7 : decode cX5_proofInto 7 = .ok (.invokevirtual 55, 3) := by decide +kernel
theorem dX5_proofInto_10 : decode cX5_proofInto 10 = .ok (.iconst 0, 1) := by decide +kernel
theorem dX5_proofInto_11 : decode cX5_proofInto 11 = .ok (.istore 6, 2) := by decide +kernel
theorem dX5_proofInto_13 : decode cX5_proofInto 13 = .ok (.iload 6, 2) := by decide +kernel
theorem dX5_proofInto_15 : decode cX5_proofInto 15 = .ok (.aload_n 0, 1) := by decide +kernel
theorem dX5_proofInto_16 : decode cX5_proofInto 16 = .ok (.getfield 18, 3) := by decide +kernel
theorem dX5_proofInto_19 : decode cX5_proofInto 19 = .ok (.if_icmp .ge 69, 3) := by decide +kernel
theorem dX5_proofInto_22 : decode cX5_proofInto 22 = .ok (.aload_n 0, 1) := by decide +kernel
theorem dX5_proofInto_23 : decode cX5_proofInto 23 = .ok (.getfield 35, 3) := by decide +kernel
theorem dX5_proofInto_26 : decode cX5_proofInto 26 = .ok (.iload 6, 2) := by decide +kernel
theorem dX5_proofInto_28 : decode cX5_proofInto 28 = .ok (.iaload, 1) := by decide +kernel
theorem dX5_proofInto_29 : decode cX5_proofInto 29 = .ok (.istore 7, 2) := by decide +kernel
theorem dX5_proofInto_31 : decode cX5_proofInto 31 = .ok (.aload_n 0, 1) := by decide +kernel
theorem dX5_proofInto_32 : decode cX5_proofInto 32 = .ok (.getfield 38, 3) := by decide +kernel
theorem dX5_proofInto_35 : decode cX5_proofInto 35 = .ok (.iload 7, 2) := by decide +kernel
theorem dX5_proofInto_37 : decode cX5_proofInto 37 = .ok (.laload, 1) := by decide +kernel
theorem dX5_proofInto_38 : decode cX5_proofInto 38 = .ok (.iload 7, 2) := by decide +kernel
theorem dX5_proofInto_40 : decode cX5_proofInto 40 = .ok (.iload_n 2, 1) := by decide +kernel
theorem dX5_proofInto_41 : decode cX5_proofInto 41 = .ok (.if_icmp .ne 7, 3) := by decide +kernel
theorem dX5_proofInto_44 : decode cX5_proofInto 44 = .ok (.iload_n 3, 1) := by decide +kernel
theorem dX5_proofInto_45 : decode cX5_proofInto 45 = .ok (.goto 10, 3) := by decide +kernel
theorem dX5_proofInto_48 : decode cX5_proofInto 48 = .ok (.aload_n 0, 1) := by decide +kernel
theorem dX5_proofInto_49 : decode cX5_proofInto 49 = .ok (.getfield 42, 3) := by decide +kernel
theorem dX5_proofInto_52 : decode cX5_proofInto 52 = .ok (.iload 7, 2) := by decide +kernel
theorem dX5_proofInto_54 : decode cX5_proofInto 54 = .ok (.iaload, 1) := by decide +kernel
theorem dX5_proofInto_55 : decode cX5_proofInto 55 = .ok (.invokestatic 76, 3) := by decide +kernel
theorem dX5_proofInto_58 : decode cX5_proofInto 58 = .ok (.lstore 8, 2) := by decide +kernel
theorem dX5_proofInto_60 : decode cX5_proofInto 60 = .ok (.aload_n 1, 1) := by decide +kernel
theorem dX5_proofInto_61 : decode cX5_proofInto 61 = .ok (.lload 8, 2) := by decide +kernel
theorem dX5_proofInto_63 : decode cX5_proofInto 63 = .ok (.lload 4, 2) := by decide +kernel
theorem dX5_proofInto_65 : decode cX5_proofInto 65 = .ok (.land, 1) := by decide +kernel
theorem dX5_proofInto_66 : decode cX5_proofInto 66 = .ok (.aload_n 0, 1) := by decide +kernel
theorem dX5_proofInto_67 : decode cX5_proofInto 67 = .ok (.getfield 31, 3) := by decide +kernel
theorem dX5_proofInto_70 : decode cX5_proofInto 70 = .ok (.iload 7, 2) := by decide +kernel
theorem dX5_proofInto_72 : decode cX5_proofInto 72 = .ok (.iaload, 1) := by decide +kernel
theorem dX5_proofInto_73 : decode cX5_proofInto 73 = .ok (.aload_n 0, 1) := by decide +kernel
theorem dX5_proofInto_74 : decode cX5_proofInto 74 = .ok (.iload 7, 2) := by decide +kernel
theorem dX5_proofInto_76 : decode cX5_proofInto 76 = .ok (.invokevirtual 80, 3) := by decide +kernel
theorem dX5_proofInto_79 : decode cX5_proofInto 79 = .ok (.invokevirtual 84, 3) := by decide +kernel
theorem dX5_proofInto_82 : decode cX5_proofInto 82 = .ok (.iinc 6 1, 3) := by decide +kernel
theorem dX5_proofInto_85 : decode cX5_proofInto 85 = .ok (.goto (-72), 3) := by decide +kernel
theorem dX5_proofInto_88 : decode cX5_proofInto 88 = .ok (.return_, 1) := by decide +kernel
theorem dX5_palette_0 : decode cX5_palette 0 = .ok (.aload_n 0, 1) := by decide +kernel
theorem dX5_palette_1 : decode cX5_palette 1 = .ok (.invokevirtual 72, 3) := by decide +kernel
theorem dX5_palette_4 : decode cX5_palette 4 = .ok (.lstore_n 1, 1) := by decide +kernel
theorem dX5_palette_5 : decode cX5_palette 5 = .ok (.iconst 0, 1) := by decide +kernel
theorem dX5_palette_6 : decode cX5_palette 6 = .ok (.istore_n 3, 1) := by decide +kernel
theorem dX5_palette_7 : decode cX5_palette 7 = .ok (.iconst 0, 1) := by decide +kernel
theorem dX5_palette_8 : decode cX5_palette 8 = .ok (.istore 4, 2) := by decide +kernel
theorem dX5_palette_10 : decode cX5_palette 10 = .ok (.iload 4, 2) := by decide +kernel
theorem dX5_palette_12 : decode cX5_palette 12 = .ok (.bipush 8, 2) := by decide +kernel
theorem dX5_palette_14 : decode cX5_palette 14 = .ok (.if_icmp .ge 32, 3) := by decide +kernel
theorem dX5_palette_17 : decode cX5_palette 17 = .ok (.aload_n 0, 1) := by decide +kernel
theorem dX5_palette_18 : decode cX5_palette 18 = .ok (.getfield 27, 3) := by decide +kernel
theorem dX5_palette_21 : decode cX5_palette 21 = .ok (.iload 4, 2) := by decide +kernel
theorem dX5_palette_23 : decode cX5_palette 23 = .ok (.invokevirtual 88, 3) := by decide +kernel
theorem dX5_palette_26 : decode cX5_palette 26 = .ok (.lload_n 1, 1) := by decide +kernel
theorem dX5_palette_27 : decode cX5_palette 27 = .ok (.land, 1) := by decide +kernel
theorem dX5_palette_28 : decode cX5_palette 28 = .ok (.lconst 0, 1) := by decide +kernel
theorem dX5_palette_29 : decode cX5_palette 29 = .ok (.lcmp, 1) := by decide +kernel
theorem dX5_palette_30 : decode cX5_palette 30 = .ok (.ifCond .eq 10, 3) := by decide +kernel
theorem dX5_palette_33 : decode cX5_palette 33 = .ok (.iload_n 3, 1) := by decide +kernel
theorem dX5_palette_34 : decode cX5_palette 34 = .ok (.iconst 1, 1) := by decide +kernel
theorem dX5_palette_35 : decode cX5_palette 35 = .ok (.iload 4, 2) := by decide +kernel
theorem dX5_palette_37 : decode cX5_palette 37 = .ok (.ishl, 1) := by decide +kernel
theorem dX5_palette_38 : decode cX5_palette 38 = .ok (.ior, 1) := by decide +kernel
theorem dX5_palette_39 : decode cX5_palette 39 = .ok (.istore_n 3, 1) := by decide +kernel
theorem dX5_palette_40 : decode cX5_palette 40 = .ok (.iinc 4 1, 3) := by decide +kernel
theorem dX5_palette_43 : decode cX5_palette 43 = .ok (.goto (-33), 3) := by decide +kernel
theorem dX5_palette_46 : decode cX5_palette 46 = .ok (.iload_n 3, 1) := by decide +kernel
theorem dX5_palette_47 : decode cX5_palette 47 = .ok (.ireturn, 1) := by decide +kernel
theorem dX5_sets_0 : decode cX5_sets 0 = .ok (.iconst 1, 1) := by decide +kernel
theorem dX5_sets_1 : decode cX5_sets 1 = .ok (.aload_n 0, 1) := by decide +kernel
theorem dX5_sets_2 : decode cX5_sets 2 = .ok (.getfield 18, 3) := by decide +kernel
theorem dX5_sets_5 : decode cX5_sets 5 = .ok (.ishl, 1) := by decide +kernel
theorem dX5_sets_6 : decode cX5_sets 6 = .ok (.ireturn, 1) := by decide +kernel
theorem dX5_coloursOver_0 : decode cX5_coloursOver 0 = .ok (.aload_n 0, 1) := by decide +kernel
theorem dX5_coloursOver_1 : decode cX5_coloursOver 1 = .ok (.iload_n 2, 1) := by decide +kernel
theorem dX5_coloursOver_2 : decode cX5_coloursOver 2 = .ok (.invokevirtual 80, 3) := by decide +kernel
theorem dX5_coloursOver_5 : decode cX5_coloursOver 5 = .ok (.ifCond .eq 12, 3) := by decide +kernel
theorem dX5_coloursOver_8 : decode cX5_coloursOver 8 = .ok (.iconst 1, 1) := by decide +kernel
theorem dX5_coloursOver_9 : decode cX5_coloursOver 9 = .ok (.aload_n 0, 1) := by decide +kernel
theorem dX5_coloursOver_10 : decode cX5_coloursOver 10 = .ok (.getfield 31, 3) := by decide +kernel
theorem dX5_coloursOver_13 : decode cX5_coloursOver 13 = .ok (.iload_n 2, 1) := by decide +kernel
theorem dX5_coloursOver_14 : decode cX5_coloursOver 14 = .ok (.iaload, 1) := by decide +kernel
theorem dX5_coloursOver_15 : decode cX5_coloursOver 15 = .ok (.ishl, 1) := by decide +kernel
theorem dX5_coloursOver_16 : decode cX5_coloursOver 16 = .ok (.ireturn, 1) := by decide +kernel
theorem dX5_coloursOver_17 : decode cX5_coloursOver 17 = .ok (.iload_n 1, 1) := by decide +kernel
theorem dX5_coloursOver_18 : decode cX5_coloursOver 18 = .ok (.istore_n 3, 1) := by decide +kernel
theorem dX5_coloursOver_19 : decode cX5_coloursOver 19 = .ok (.iconst 0, 1) := by decide +kernel
theorem dX5_coloursOver_20 : decode cX5_coloursOver 20 = .ok (.istore 4, 2) := by decide +kernel
theorem dX5_coloursOver_22 : decode cX5_coloursOver 22 = .ok (.iload 4, 2) := by decide +kernel
theorem dX5_coloursOver_24 : decode cX5_coloursOver 24 = .ok (.getstatic 92, 3) := by decide +kernel
theorem dX5_coloursOver_27 : decode cX5_coloursOver 27 = .ok (.arraylength, 1) := by decide +kernel
theorem dX5_coloursOver_28 : decode cX5_coloursOver 28 = .ok (.if_icmp .ge 48, 3) := by decide +kernel
theorem dX5_coloursOver_31 : decode cX5_coloursOver 31 = .ok (.aload_n 0, 1) := by decide +kernel
theorem dX5_coloursOver_32 : decode cX5_coloursOver 32 = .ok (.getfield 31, 3) := by decide +kernel
theorem dX5_coloursOver_35 : decode cX5_coloursOver 35 = .ok (.iload_n 2, 1) := by decide +kernel
theorem dX5_coloursOver_36 : decode cX5_coloursOver 36 = .ok (.iaload, 1) := by decide +kernel
theorem dX5_coloursOver_37 : decode cX5_coloursOver 37 = .ok (.iload 4, 2) := by decide +kernel
theorem dX5_coloursOver_39 : decode cX5_coloursOver 39 = .ok (.ishr, 1) := by decide +kernel
theorem dX5_coloursOver_40 : decode cX5_coloursOver 40 = .ok (.iconst 1, 1) := by decide +kernel
theorem dX5_coloursOver_41 : decode cX5_coloursOver 41 = .ok (.iand, 1) := by decide +kernel
theorem dX5_coloursOver_42 : decode cX5_coloursOver 42 = .ok (.ifCond .eq 28, 3) := by decide +kernel
theorem dX5_coloursOver_45 : decode cX5_coloursOver 45 = .ok (.getstatic 92, 3) := by decide +kernel
theorem dX5_coloursOver_48 : decode cX5_coloursOver 48 = .ok (.iload 4, 2) := by decide +kernel
theorem dX5_coloursOver_50 : decode cX5_coloursOver 50 = .ok (.iaload, 1) := by decide +kernel
theorem dX5_coloursOver_51 : decode cX5_coloursOver 51 = .ok (.istore 5, 2) := by decide +kernel
theorem dX5_coloursOver_53 : decode cX5_coloursOver 53 = .ok (.iload_n 3, 1) := by decide +kernel
theorem dX5_coloursOver_54 : decode cX5_coloursOver 54 = .ok (.iload 5, 2) := by decide +kernel
theorem dX5_coloursOver_56 : decode cX5_coloursOver 56 = .ok (.iand, 1) := by decide +kernel
theorem dX5_coloursOver_57 : decode cX5_coloursOver 57 = .ok (.iload_n 3, 1) := by decide +kernel
theorem dX5_coloursOver_58 : decode cX5_coloursOver 58 = .ok (.iload 5, 2) := by decide +kernel
theorem dX5_coloursOver_60 : decode cX5_coloursOver 60 = .ok (.iconst (-1), 1) := by decide +kernel
theorem dX5_coloursOver_61 : decode cX5_coloursOver 61 = .ok (.ixor, 1) := by decide +kernel
theorem dX5_coloursOver_62 : decode cX5_coloursOver 62 = .ok (.iand, 1) := by decide +kernel
theorem dX5_coloursOver_63 : decode cX5_coloursOver 63 = .ok (.iconst 1, 1) := by decide +kernel
theorem dX5_coloursOver_64 : decode cX5_coloursOver 64 = .ok (.iload 4, 2) := by decide +kernel
theorem dX5_coloursOver_66 : decode cX5_coloursOver 66 = .ok (.ishl, 1) := by decide +kernel
theorem dX5_coloursOver_67 : decode cX5_coloursOver 67 = .ok (.ishl, 1) := by decide +kernel
theorem dX5_coloursOver_68 : decode cX5_coloursOver 68 = .ok (.ior, 1) := by decide +kernel
theorem dX5_coloursOver_69 : decode cX5_coloursOver 69 = .ok (.istore_n 3, 1) := by decide +kernel
theorem dX5_coloursOver_70 : decode cX5_coloursOver 70 = .ok (.iinc 4 1, 3) := by decide +kernel
theorem dX5_coloursOver_73 : decode cX5_coloursOver 73 = .ok (.goto (-51), 3) := by decide +kernel
theorem dX5_coloursOver_76 : decode cX5_coloursOver 76 = .ok (.iload_n 3, 1) := by decide +kernel
theorem dX5_coloursOver_77 : decode cX5_coloursOver 77 = .ok (.ireturn, 1) := by decide +kernel
theorem dX5_coloursBy_0 : decode cX5_coloursBy 0 = .ok (.iconst 1, 1) := by decide +kernel
theorem dX5_coloursBy_1 : decode cX5_coloursBy 1 = .ok (.istore_n 2, 1) := by decide +kernel
theorem dX5_coloursBy_2 : decode cX5_coloursBy 2 = .ok (.iconst 0, 1) := by decide +kernel
theorem dX5_coloursBy_3 : decode cX5_coloursBy 3 = .ok (.istore_n 3, 1) := by decide +kernel
theorem dX5_coloursBy_4 : decode cX5_coloursBy 4 = .ok (.iload_n 3, 1) := by decide +kernel
theorem dX5_coloursBy_5 : decode cX5_coloursBy 5 = .ok (.aload_n 0, 1) := by decide +kernel
theorem dX5_coloursBy_6 : decode cX5_coloursBy 6 = .ok (.getfield 18, 3) := by decide +kernel
theorem dX5_coloursBy_9 : decode cX5_coloursBy 9 = .ok (.if_icmp .ge 36, 3) := by decide +kernel
theorem dX5_coloursBy_12 : decode cX5_coloursBy 12 = .ok (.aload_n 0, 1) := by decide +kernel
theorem dX5_coloursBy_13 : decode cX5_coloursBy 13 = .ok (.getfield 35, 3) := by decide +kernel
theorem dX5_coloursBy_16 : decode cX5_coloursBy 16 = .ok (.iload_n 3, 1) := by decide +kernel
theorem dX5_coloursBy_17 : decode cX5_coloursBy 17 = .ok (.iaload, 1) := by decide +kernel
theorem dX5_coloursBy_18 : decode cX5_coloursBy 18 = .ok (.istore 4, 2) := by decide +kernel
theorem dX5_coloursBy_20 : decode cX5_coloursBy 20 = .ok (.iload_n 1, 1) := by decide +kernel
theorem dX5_coloursBy_21 : decode cX5_coloursBy 21 = .ok (.iload 4, 2) := by decide +kernel
theorem dX5_coloursBy_23 : decode cX5_coloursBy 23 = .ok (.ishr, 1) := by decide +kernel
theorem dX5_coloursBy_24 : decode cX5_coloursBy 24 = .ok (.iconst 1, 1) := by decide +kernel
theorem dX5_coloursBy_25 : decode cX5_coloursBy 25 = .ok (.iand, 1) := by decide +kernel
theorem dX5_coloursBy_26 : decode cX5_coloursBy 26 = .ok (.ifCond .eq 13, 3) := by decide +kernel
theorem dX5_coloursBy_29 : decode cX5_coloursBy 29 = .ok (.iload_n 2, 1) := by decide +kernel
theorem dX5_coloursBy_30 : decode cX5_coloursBy 30 = .ok (.aload_n 0, 1) := by decide +kernel
theorem dX5_coloursBy_31 : decode cX5_coloursBy 31 = .ok (.iload_n 2, 1) := by decide +kernel
theorem dX5_coloursBy_32 : decode cX5_coloursBy 32 = .ok (.iload 4, 2) := by decide +kernel
theorem dX5_coloursBy_34 : decode cX5_coloursBy 34 = .ok (.invokevirtual 95, 3) := by decide +kernel
theorem dX5_coloursBy_37 : decode cX5_coloursBy 37 = .ok (.ior, 1) := by decide +kernel
theorem dX5_coloursBy_38 : decode cX5_coloursBy 38 = .ok (.istore_n 2, 1) := by decide +kernel
theorem dX5_coloursBy_39 : decode cX5_coloursBy 39 = .ok (.iinc 3 1, 3) := by decide +kernel
theorem dX5_coloursBy_42 : decode cX5_coloursBy 42 = .ok (.goto (-38), 3) := by decide +kernel
theorem dX5_coloursBy_45 : decode cX5_coloursBy 45 = .ok (.iload_n 2, 1) := by decide +kernel
theorem dX5_coloursBy_46 : decode cX5_coloursBy 46 = .ok (.ireturn, 1) := by decide +kernel
theorem dX5_leastSet_0 : decode cX5_leastSet 0 = .ok (.aload_n 0, 1) := by decide +kernel
theorem dX5_leastSet_1 : decode cX5_leastSet 1 = .ok (.invokevirtual 99, 3) := by decide +kernel
theorem dX5_leastSet_4 : decode cX5_leastSet 4 = .ok (.istore_n 1, 1) := by decide +kernel
theorem dX5_leastSet_5 : decode cX5_leastSet 5 = .ok (.bipush (-9), 2) := by decide +kernel
theorem dX5_leastSet_7 : decode cX5_leastSet 7 = .ok (.istore_n 2, 1) := by decide +kernel
theorem dX5_leastSet_8 : decode cX5_leastSet 8 = .ok (.iconst 0, 1) := by decide +kernel
theorem dX5_leastSet_9 : decode cX5_leastSet 9 = .ok (.istore_n 3, 1) := by decide +kernel
theorem dX5_leastSet_10 : decode cX5_leastSet 10 = .ok (.iload_n 3, 1) := by decide +kernel
theorem dX5_leastSet_11 : decode cX5_leastSet 11 = .ok (.aload_n 0, 1) := by decide +kernel
theorem dX5_leastSet_12 : decode cX5_leastSet 12 = .ok (.invokevirtual 103, 3) := by decide +kernel
theorem dX5_leastSet_15 : decode cX5_leastSet 15 = .ok (.if_icmp .ge 52, 3) := by decide +kernel
theorem dX5_leastSet_18 : decode cX5_leastSet 18 = .ok (.iload_n 2, 1) := by decide +kernel
theorem dX5_leastSet_19 : decode cX5_leastSet 19 = .ok (.bipush (-9), 2) := by decide +kernel
theorem dX5_leastSet_21 : decode cX5_leastSet 21 = .ok (.if_icmp .eq 14, 3) := by decide +kernel
theorem dX5_leastSet_24 : decode cX5_leastSet 24 = .ok (.iload_n 3, 1) := by decide +kernel
theorem dX5_leastSet_25 : decode cX5_leastSet 25 = .ok (.invokestatic 106, 3) := by decide +kernel
theorem dX5_leastSet_28 : decode cX5_leastSet 28 = .ok (.iload_n 2, 1) := by decide +kernel
theorem dX5_leastSet_29 : decode cX5_leastSet 29 = .ok (.invokestatic 106, 3) := by decide +kernel
theorem dX5_leastSet_32 : decode cX5_leastSet 32 = .ok (.if_icmp .ge 7, 3) := by decide +kernel
theorem dX5_leastSet_35 : decode cX5_leastSet 35 = .ok (.iconst 1, 1) := by decide +kernel
theorem dX5_leastSet_36 : decode cX5_leastSet 36 = .ok (.goto 4, 3) := by decide +kernel
theorem dX5_leastSet_39 : decode cX5_leastSet 39 = .ok (.iconst 0, 1) := by decide +kernel
theorem dX5_leastSet_40 : decode cX5_leastSet 40 = .ok (.istore 4, 2) := by decide +kernel
theorem dX5_leastSet_42 : decode cX5_leastSet 42 = .ok (.iload 4, 2) := by decide +kernel
theorem dX5_leastSet_44 : decode cX5_leastSet 44 = .ok (.ifCond .eq 17, 3) := by decide +kernel
theorem dX5_leastSet_47 : decode cX5_leastSet 47 = .ok (.iload_n 1, 1) := by decide +kernel
theorem dX5_leastSet_48 : decode cX5_leastSet 48 = .ok (.aload_n 0, 1) := by decide +kernel
theorem dX5_leastSet_49 : decode cX5_leastSet 49 = .ok (.iload_n 3, 1) := by decide +kernel
theorem dX5_leastSet_50 : decode cX5_leastSet 50 = .ok (.invokevirtual 110, 3) := by decide +kernel
theorem dX5_leastSet_53 : decode cX5_leastSet 53 = .ok (.iconst (-1), 1) := by decide +kernel
theorem dX5_leastSet_54 : decode cX5_leastSet 54 = .ok (.ixor, 1) := by decide +kernel
theorem dX5_leastSet_55 : decode cX5_leastSet 55 = .ok (.iand, 1) := by decide +kernel
theorem dX5_leastSet_56 : decode cX5_leastSet 56 = .ok (.ifCond .ne 5, 3) := by decide +kernel
theorem dX5_leastSet_59 : decode cX5_leastSet 59 = .ok (.iload_n 3, 1) := by decide +kernel
theorem dX5_leastSet_60 : decode cX5_leastSet 60 = .ok (.istore_n 2, 1) := by decide +kernel
theorem dX5_leastSet_61 : decode cX5_leastSet 61 = .ok (.iinc 3 1, 3) := by decide +kernel
theorem dX5_leastSet_64 : decode cX5_leastSet 64 = .ok (.goto (-54), 3) := by decide +kernel
theorem dX5_leastSet_67 : decode cX5_leastSet 67 = .ok (.iload_n 2, 1) := by decide +kernel
theorem dX5_leastSet_68 : decode cX5_leastSet 68 = .ok (.ireturn, 1) := by decide +kernel
theorem dX5_colourOfAll_0 : decode cX5_colourOfAll 0 = .ok (.iconst 0, 1) := by decide +kernel
theorem dX5_colourOfAll_1 : decode cX5_colourOfAll 1 = .ok (.istore_n 2, 1) := by decide +kernel
theorem dX5_colourOfAll_2 : decode cX5_colourOfAll 2 = .ok (.iconst 0, 1) := by decide +kernel
theorem dX5_colourOfAll_3 : decode cX5_colourOfAll 3 = .ok (.istore_n 3, 1) := by decide +kernel
theorem dX5_colourOfAll_4 : decode cX5_colourOfAll 4 = .ok (.iload_n 3, 1) := by decide +kernel
theorem dX5_colourOfAll_5 : decode cX5_colourOfAll 5 = .ok (.aload_n 0, 1) := by decide +kernel
theorem dX5_colourOfAll_6 : decode cX5_colourOfAll 6 = .ok (.getfield 18, 3) := by decide +kernel
theorem dX5_colourOfAll_9 : decode cX5_colourOfAll 9 = .ok (.if_icmp .ge 55, 3) := by decide +kernel
theorem dX5_colourOfAll_12 : decode cX5_colourOfAll 12 = .ok (.aload_n 0, 1) := by decide +kernel
theorem dX5_colourOfAll_13 : decode cX5_colourOfAll 13 = .ok (.getfield 35, 3) := by decide +kernel
theorem dX5_colourOfAll_16 : decode cX5_colourOfAll 16 = .ok (.iload_n 3, 1) := by decide +kernel
theorem dX5_colourOfAll_17 : decode cX5_colourOfAll 17 = .ok (.iaload, 1) := by decide +kernel
theorem dX5_colourOfAll_18 : decode cX5_colourOfAll 18 = .ok (.istore 4, 2) := by decide +kernel
theorem dX5_colourOfAll_20 : decode cX5_colourOfAll 20 = .ok (.iload_n 1, 1) := by decide +kernel
theorem dX5_colourOfAll_21 : decode cX5_colourOfAll 21 = .ok (.iload 4, 2) := by decide +kernel
theorem dX5_colourOfAll_23 : decode cX5_colourOfAll 23 = .ok (.ishr, 1) := by decide +kernel
theorem dX5_colourOfAll_24 : decode cX5_colourOfAll 24 = .ok (.iconst 1, 1) := by decide +kernel
theorem dX5_colourOfAll_25 : decode cX5_colourOfAll 25 = .ok (.iand, 1) := by decide +kernel
theorem dX5_colourOfAll_26 : decode cX5_colourOfAll 26 = .ok (.ifCond .eq 32, 3) := by decide +kernel
theorem dX5_colourOfAll_29 : decode cX5_colourOfAll 29 = .ok (.aload_n 0, 1) := by decide +kernel
theorem dX5_colourOfAll_30 : decode cX5_colourOfAll 30 = .ok (.iload 4, 2) := by decide +kernel
theorem dX5_colourOfAll_32 : decode cX5_colourOfAll 32 = .ok (.invokevirtual 80, 3) := by decide +kernel
theorem dX5_colourOfAll_35 : decode cX5_colourOfAll 35 = .ok (.ifCond .eq 13, 3) := by decide +kernel
theorem dX5_colourOfAll_38 : decode cX5_colourOfAll 38 = .ok (.aload_n 0, 1) := by decide +kernel
theorem dX5_colourOfAll_39 : decode cX5_colourOfAll 39 = .ok (.getfield 31, 3) := by decide +kernel
theorem dX5_colourOfAll_42 : decode cX5_colourOfAll 42 = .ok (.iload 4, 2) := by decide +kernel
theorem dX5_colourOfAll_44 : decode cX5_colourOfAll 44 = .ok (.iaload, 1) := by decide +kernel
theorem dX5_colourOfAll_45 : decode cX5_colourOfAll 45 = .ok (.goto 12, 3) := by decide +kernel
theorem dX5_colourOfAll_48 : decode cX5_colourOfAll 48 = .ok (.iload_n 2, 1) := by decide +kernel
theorem dX5_colourOfAll_49 : decode cX5_colourOfAll 49 = .ok (.aload_n 0, 1) := by decide +kernel
theorem dX5_colourOfAll_50 : decode cX5_colourOfAll 50 = .ok (.getfield 31, 3) := by decide +kernel
theorem dX5_colourOfAll_53 : decode cX5_colourOfAll 53 = .ok (.iload 4, 2) := by decide +kernel
theorem dX5_colourOfAll_55 : decode cX5_colourOfAll 55 = .ok (.iaload, 1) := by decide +kernel
theorem dX5_colourOfAll_56 : decode cX5_colourOfAll 56 = .ok (.ior, 1) := by decide +kernel
theorem dX5_colourOfAll_57 : decode cX5_colourOfAll 57 = .ok (.istore_n 2, 1) := by decide +kernel
theorem dX5_colourOfAll_58 : decode cX5_colourOfAll 58 = .ok (.iinc 3 1, 3) := by decide +kernel
theorem dX5_colourOfAll_61 : decode cX5_colourOfAll 61 = .ok (.goto (-57), 3) := by decide +kernel
theorem dX5_colourOfAll_64 : decode cX5_colourOfAll 64 = .ok (.iload_n 2, 1) := by decide +kernel
theorem dX5_colourOfAll_65 : decode cX5_colourOfAll 65 = .ok (.ireturn, 1) := by decide +kernel
theorem dX5_firstSetGiving_0 : decode cX5_firstSetGiving 0 = .ok (.iconst 0, 1) := by decide +kernel
theorem dX5_firstSetGiving_1 : decode cX5_firstSetGiving 1 = .ok (.istore_n 3, 1) := by decide +kernel
theorem dX5_firstSetGiving_2 : decode cX5_firstSetGiving 2 = .ok (.iload_n 3, 1) := by decide +kernel
theorem dX5_firstSetGiving_3 : decode cX5_firstSetGiving 3 = .ok (.aload_n 0, 1) := by decide +kernel
theorem dX5_firstSetGiving_4 : decode cX5_firstSetGiving 4 = .ok (.invokevirtual 103, 3) := by decide +kernel
theorem dX5_firstSetGiving_7 : decode cX5_firstSetGiving 7 = .ok (.if_icmp .ge 28, 3) := by decide +kernel
theorem dX5_firstSetGiving_10 : decode cX5_firstSetGiving 10 = .ok (.iload_n 3, 1) := by decide +kernel
theorem dX5_firstSetGiving_11 : decode cX5_firstSetGiving 11 = .ok (.iload_n 2, 1) := by decide +kernel
theorem dX5_firstSetGiving_12 : decode cX5_firstSetGiving 12 = .ok (.iconst (-1), 1) := by decide +kernel
theorem dX5_firstSetGiving_13 : decode cX5_firstSetGiving 13 = .ok (.ixor, 1) := by decide +kernel
theorem dX5_firstSetGiving_14 : decode cX5_firstSetGiving 14 = .ok (.iand, 1) := by decide +kernel
theorem dX5_firstSetGiving_15 : decode cX5_firstSetGiving 15 = .ok (.ifCond .ne 14, 3) := by decide +kernel
theorem dX5_firstSetGiving_18 : decode cX5_firstSetGiving 18 = .ok (.aload_n 0, 1) := by decide +kernel
theorem dX5_firstSetGiving_19 : decode cX5_firstSetGiving 19 = .ok (.iload_n 3, 1) := by decide +kernel
theorem dX5_firstSetGiving_20 : decode cX5_firstSetGiving 20 = .ok (.invokevirtual 113, 3) := by decide +kernel
theorem dX5_firstSetGiving_23 : decode cX5_firstSetGiving 23 = .ok (.iload_n 1, 1) := by decide +kernel
theorem dX5_firstSetGiving_24 : decode cX5_firstSetGiving 24 = .ok (.if_icmp .ne 5, 3) := by decide +kernel
theorem dX5_firstSetGiving_27 : decode cX5_firstSetGiving 27 = .ok (.iload_n 3, 1) := by decide +kernel
theorem dX5_firstSetGiving_28 : decode cX5_firstSetGiving 28 = .ok (.ireturn, 1) := by decide +kernel
theorem dX5_firstSetGiving_29 : decode cX5_firstSetGiving 29 = .ok (.iinc 3 1, 3) := by decide +kernel
theorem dX5_firstSetGiving_32 : decode cX5_firstSetGiving 32 = .ok (.goto (-30), 3) := by decide +kernel
theorem dX5_firstSetGiving_35 : decode cX5_firstSetGiving 35 = .ok (.bipush (-9), 2) := by decide +kernel
theorem dX5_firstSetGiving_37 : decode cX5_firstSetGiving 37 = .ok (.ireturn, 1) := by decide +kernel
theorem dX5_cutFor_0 : decode cX5_cutFor 0 = .ok (.iconst 0, 1) := by decide +kernel
theorem dX5_cutFor_1 : decode cX5_cutFor 1 = .ok (.istore_n 2, 1) := by decide +kernel
theorem dX5_cutFor_2 : decode cX5_cutFor 2 = .ok (.iload_n 2, 1) := by decide +kernel
theorem dX5_cutFor_3 : decode cX5_cutFor 3 = .ok (.aload_n 0, 1) := by decide +kernel
theorem dX5_cutFor_4 : decode cX5_cutFor 4 = .ok (.getfield 18, 3) := by decide +kernel
theorem dX5_cutFor_7 : decode cX5_cutFor 7 = .ok (.if_icmp .ge 23, 3) := by decide +kernel
theorem dX5_cutFor_10 : decode cX5_cutFor 10 = .ok (.aload_n 0, 1) := by decide +kernel
theorem dX5_cutFor_11 : decode cX5_cutFor 11 = .ok (.getfield 38, 3) := by decide +kernel
theorem dX5_cutFor_14 : decode cX5_cutFor 14 = .ok (.iload_n 2, 1) := by decide +kernel
theorem dX5_cutFor_15 : decode cX5_cutFor 15 = .ok (.lconst 0, 1) := by decide +kernel
theorem dX5_cutFor_16 : decode cX5_cutFor 16 = .ok (.lastore, 1) := by decide +kernel
theorem dX5_cutFor_17 : decode cX5_cutFor 17 = .ok (.aload_n 0, 1) := by decide +kernel
theorem dX5_cutFor_18 : decode cX5_cutFor 18 = .ok (.getfield 42, 3) := by decide +kernel
theorem dX5_cutFor_21 : decode cX5_cutFor 21 = .ok (.iload_n 2, 1) := by decide +kernel
theorem dX5_cutFor_22 : decode cX5_cutFor 22 = .ok (.iconst 4, 1) := by decide +kernel
theorem dX5_cutFor_23 : decode cX5_cutFor 23 = .ok (.iastore, 1) := by decide +kernel
theorem dX5_cutFor_24 : decode cX5_cutFor 24 = .ok (.iinc 2 1, 3) := by decide +kernel
theorem dX5_cutFor_27 : decode cX5_cutFor 27 = .ok (.goto (-25), 3) := by decide +kernel
theorem dX5_cutFor_30 : decode cX5_cutFor 30 = .ok (.aload_n 0, 1) := by decide +kernel
theorem dX5_cutFor_31 : decode cX5_cutFor 31 = .ok (.invokevirtual 72, 3) := by decide +kernel
theorem dX5_cutFor_34 : decode cX5_cutFor 34 = .ok (.lstore_n 2, 1) := by decide +kernel
theorem dX5_cutFor_35 : decode cX5_cutFor 35 = .ok (.iconst 0, 1) := by decide +kernel
theorem dX5_cutFor_36 : decode cX5_cutFor 36 = .ok (.istore 4, 2) := by decide +kernel
theorem dX5_cutFor_38 : decode cX5_cutFor 38 = .ok (.iload 4, 2) := by decide +kernel
theorem dX5_cutFor_40 : decode cX5_cutFor 40 = .ok (.bipush 8, 2) := by decide +kernel
theorem dX5_cutFor_42 : decode cX5_cutFor 42 = .ok (.if_icmp .ge 42, 3) := by decide +kernel
theorem dX5_cutFor_45 : decode cX5_cutFor 45 = .ok (.aload_n 0, 1) := by decide +kernel
theorem dX5_cutFor_46 : decode cX5_cutFor 46 = .ok (.getfield 27, 3) := by decide +kernel
theorem dX5_cutFor_49 : decode cX5_cutFor 49 = .ok (.iload 4, 2) := by decide +kernel
theorem dX5_cutFor_51 : decode cX5_cutFor 51 = .ok (.invokevirtual 88, 3) := by decide +kernel
theorem dX5_cutFor_54 : decode cX5_cutFor 54 = .ok (.lload_n 2, 1) := by decide +kernel
theorem dX5_cutFor_55 : decode cX5_cutFor 55 = .ok (.land, 1) := by decide +kernel
theorem dX5_cutFor_56 : decode cX5_cutFor 56 = .ok (.lstore 5, 2) := by decide +kernel
theorem dX5_cutFor_58 : decode cX5_cutFor 58 = .ok (.lload 5, 2) := by decide +kernel
theorem dX5_cutFor_60 : decode cX5_cutFor 60 = .ok (.lconst 0, 1) := by decide +kernel
theorem dX5_cutFor_61 : decode cX5_cutFor 61 = .ok (.lcmp, 1) := by decide +kernel
theorem dX5_cutFor_62 : decode cX5_cutFor 62 = .ok (.ifCond .eq 16, 3) := by decide +kernel
theorem dX5_cutFor_65 : decode cX5_cutFor 65 = .ok (.aload_n 0, 1) := by decide +kernel
theorem dX5_cutFor_66 : decode cX5_cutFor 66 = .ok (.aload_n 0, 1) := by decide +kernel
theorem dX5_cutFor_67 : decode cX5_cutFor 67 = .ok (.iload 4, 2) := by decide +kernel
theorem dX5_cutFor_69 : decode cX5_cutFor 69 = .ok (.iload_n 1, 1) := by decide +kernel
theorem dX5_cutFor_70 : decode cX5_cutFor 70 = .ok (.invokevirtual 116, 3) := by decide +kernel
theorem dX5_cutFor_73 : decode cX5_cutFor 73 = .ok (.lload 5, 2) := by decide +kernel
theorem dX5_cutFor_75 : decode cX5_cutFor 75 = .ok (.invokevirtual 119, 3) := by decide +kernel
theorem dX5_cutFor_78 : decode cX5_cutFor 78 = .ok (.iinc 4 1, 3) := by decide +kernel
theorem dX5_cutFor_81 : decode cX5_cutFor 81 = .ok (.goto (-43), 3) := by decide +kernel
theorem dX5_cutFor_84 : decode cX5_cutFor 84 = .ok (.return_, 1) := by decide +kernel
theorem dX5_addToBlocks_0 : decode cX5_addToBlocks 0 = .ok (.iload_n 1, 1) := by decide +kernel
theorem dX5_addToBlocks_1 : decode cX5_addToBlocks 1 = .ok (.bipush (-9), 2) := by decide +kernel
theorem dX5_addToBlocks_3 : decode cX5_addToBlocks 3 = .ok (.if_icmp .ne 4, 3) := by decide +kernel
theorem dX5_addToBlocks_6 : decode cX5_addToBlocks 6 = .ok (.return_, 1) := by decide +kernel
theorem dX5_addToBlocks_7 : decode cX5_addToBlocks 7 = .ok (.iconst 0, 1) := by decide +kernel
theorem dX5_addToBlocks_8 : decode cX5_addToBlocks 8 = .ok (.istore 4, 2) := by decide +kernel
theorem dX5_addToBlocks_10 : decode cX5_addToBlocks 10 = .ok (.iload 4, 2) := by decide +kernel
theorem dX5_addToBlocks_12 : decode cX5_addToBlocks 12 = .ok (.aload_n 0, 1) := by decide +kernel
theorem dX5_addToBlocks_13 : decode cX5_addToBlocks 13 = .ok (.getfield 18, 3) := by decide +kernel
theorem dX5_addToBlocks_16 : decode cX5_addToBlocks 16 = .ok (.if_icmp .ge 29, 3) := by decide +kernel
theorem dX5_addToBlocks_19 : decode cX5_addToBlocks 19 = .ok (.iload_n 1, 1) := by decide +kernel
theorem dX5_addToBlocks_20 : decode cX5_addToBlocks 20 = .ok (.iload 4, 2) := by decide +kernel
theorem dX5_addToBlocks_22 : decode cX5_addToBlocks 22 = .ok (.ishr, 1) := by decide +kernel
theorem dX5_addToBlocks_23 : decode cX5_addToBlocks 23 = .ok (.iconst 1, 1) := by decide +kernel
theorem dX5_addToBlocks_24 : decode cX5_addToBlocks 24 = .ok (.iand, 1) := by decide +kernel
theorem dX5_addToBlocks_25 : decode cX5_addToBlocks 25 = .ok (.ifCond .eq 14, 3) := by decide +kernel
theorem dX5_addToBlocks_28 : decode cX5_addToBlocks 28 = .ok (.aload_n 0, 1) := by decide +kernel
theorem dX5_addToBlocks_29 : decode cX5_addToBlocks 29 = .ok (.getfield 38, 3) := by decide +kernel
theorem dX5_addToBlocks_32 : decode cX5_addToBlocks 32 = .ok (.iload 4, 2) := by decide +kernel
theorem dX5_addToBlocks_34 : decode cX5_addToBlocks 34 = .ok (.dup2, 1) := by decide +kernel
theorem dX5_addToBlocks_35 : decode cX5_addToBlocks 35 = .ok (.laload, 1) := by decide +kernel
theorem dX5_addToBlocks_36 : decode cX5_addToBlocks 36 = .ok (.lload_n 2, 1) := by decide +kernel
theorem dX5_addToBlocks_37 : decode cX5_addToBlocks 37 = .ok (.lor, 1) := by decide +kernel
theorem dX5_addToBlocks_38 : decode cX5_addToBlocks 38 = .ok (.lastore, 1) := by decide +kernel
theorem dX5_addToBlocks_39 : decode cX5_addToBlocks 39 = .ok (.iinc 4 1, 3) := by decide +kernel
theorem dX5_addToBlocks_42 : decode cX5_addToBlocks 42 = .ok (.goto (-32), 3) := by decide +kernel
theorem dX5_addToBlocks_45 : decode cX5_addToBlocks 45 = .ok (.return_, 1) := by decide +kernel
theorem dX6_init_0 : decode cX6_init 0 = .ok (.aload_n 0, 1) := by decide +kernel
theorem dX6_init_1 : decode cX6_init 1 = .ok (.invokespecial 1, 3) := by decide +kernel
theorem dX6_init_4 : decode cX6_init 4 = .ok (.aload_n 0, 1) := by decide +kernel
theorem dX6_init_5 : decode cX6_init 5 = .ok (.new 7, 3) := by decide +kernel
theorem dX6_init_8 : decode cX6_init 8 = .ok (.dup, 1) := by decide +kernel
theorem dX6_init_9 : decode cX6_init 9 = .ok (.invokespecial 9, 3) := by decide +kernel
theorem dX6_init_12 : decode cX6_init 12 = .ok (.putfield 10, 3) := by decide +kernel
theorem dX6_init_15 : decode cX6_init 15 = .ok (.aload_n 0, 1) := by decide +kernel
theorem dX6_init_16 : decode cX6_init 16 = .ok (.new 7, 3) := by decide +kernel
theorem dX6_init_19 : decode cX6_init 19 = .ok (.dup, 1) := by decide +kernel
theorem dX6_init_20 : decode cX6_init 20 = .ok (.invokespecial 9, 3) := by decide +kernel
theorem dX6_init_23 : decode cX6_init 23 = .ok (.putfield 16, 3) := by decide +kernel
theorem dX6_init_26 : decode cX6_init 26 = .ok (.aload_n 0, 1) := by decide +kernel
theorem dX6_init_27 : decode cX6_init 27 = .ok (.new 19, 3) := by decide +kernel
theorem dX6_init_30 : decode cX6_init 30 = .ok (.dup, 1) := by decide +kernel
theorem dX6_init_31 : decode cX6_init 31 = .ok (.invokespecial 21, 3) := by decide +kernel
theorem dX6_init_34 : decode cX6_init 34 = .ok (.putfield 22, 3) := by decide +kernel
theorem dX6_init_37 : decode cX6_init 37 = .ok (.aload_n 0, 1) := by decide +kernel
theorem dX6_init_38 : decode cX6_init 38 = .ok (.new 26, 3) := by decide +kernel
theorem dX6_init_41 : decode cX6_init 41 = .ok (.dup, 1) := by decide +kernel
theorem dX6_init_42 : decode cX6_init 42 = .ok (.invokespecial 28, 3) := by decide +kernel
theorem dX6_init_45 : decode cX6_init 45 = .ok (.putfield 29, 3) := by decide +kernel
theorem dX6_init_48 : decode cX6_init 48 = .ok (.aload_n 0, 1) := by decide +kernel
theorem dX6_init_49 : decode cX6_init 49 = .ok (.iconst 2, 1) := by decide +kernel
theorem dX6_init_50 : decode cX6_init 50 = .ok (.anewarray 7, 3) := by decide +kernel
theorem dX6_init_53 : decode cX6_init 53 = .ok (.putfield 33, 3) := by decide +kernel
theorem dX6_init_56 : decode cX6_init 56 = .ok (.aload_n 0, 1) := by decide +kernel
theorem dX6_init_57 : decode cX6_init 57 = .ok (.iconst 2, 1) := by decide +kernel
theorem dX6_init_58 : decode cX6_init 58 = .ok (.newarray .boolean, 2) := by decide +kernel
theorem dX6_init_60 : decode cX6_init 60 = .ok (.putfield 37, 3) := by decide +kernel
theorem dX6_init_63 : decode cX6_init 63 = .ok (.aload_n 0, 1) := by decide +kernel
theorem dX6_init_64 : decode cX6_init 64 = .ok (.new 41, 3) := by decide +kernel
theorem dX6_init_67 : decode cX6_init 67 = .ok (.dup, 1) := by decide +kernel
theorem dX6_init_68 : decode cX6_init 68 = .ok (.invokespecial 43, 3) := by decide +kernel
theorem dX6_init_71 : decode cX6_init 71 = .ok (.putfield 44, 3) := by decide +kernel
theorem dX6_init_74 : decode cX6_init 74 = .ok (.aload_n 0, 1) := by decide +kernel
theorem dX6_init_75 : decode cX6_init 75 = .ok (.new 48, 3) := by decide +kernel
theorem dX6_init_78 : decode cX6_init 78 = .ok (.dup, 1) := by decide +kernel
theorem dX6_init_79 : decode cX6_init 79 = .ok (.invokespecial 50, 3) := by decide +kernel
theorem dX6_init_82 : decode cX6_init 82 = .ok (.putfield 51, 3) := by decide +kernel
theorem dX6_init_85 : decode cX6_init 85 = .ok (.aload_n 0, 1) := by decide +kernel
theorem dX6_init_86 : decode cX6_init 86 = .ok (.new 55, 3) := by decide +kernel
theorem dX6_init_89 : decode cX6_init 89 = .ok (.dup, 1) := by decide +kernel
theorem dX6_init_90 : decode cX6_init 90 = .ok (.invokespecial 57, 3) := by decide +kernel
theorem dX6_init_93 : decode cX6_init 93 = .ok (.putfield 58, 3) := by decide +kernel
theorem dX6_init_96 : decode cX6_init 96 = .ok (.iconst 0, 1) := by decide +kernel
theorem dX6_init_97 : decode cX6_init 97 = .ok (.istore_n 1, 1) := by decide +kernel
theorem dX6_init_98 : decode cX6_init 98 = .ok (.iload_n 1, 1) := by decide +kernel
theorem dX6_init_99 : decode cX6_init 99 = .ok (.iconst 2, 1) := by decide +kernel
theorem dX6_init_100 : decode cX6_init 100 = .ok (.if_icmp .ge 22, 3) := by decide +kernel
theorem dX6_init_103 : decode cX6_init 103 = .ok (.aload_n 0, 1) := by decide +kernel
theorem dX6_init_104 : decode cX6_init 104 = .ok (.getfield 33, 3) := by decide +kernel
theorem dX6_init_107 : decode cX6_init 107 = .ok (.iload_n 1, 1) := by decide +kernel
theorem dX6_init_108 : decode cX6_init 108 = .ok (.new 7, 3) := by decide +kernel
theorem dX6_init_111 : decode cX6_init 111 = .ok (.dup, 1) := by decide +kernel
theorem dX6_init_112 : decode cX6_init 112 = .ok (.invokespecial 9, 3) := by decide +kernel
theorem dX6_init_115 : decode cX6_init 115 = .ok (.aastore, 1) := by decide +kernel
theorem dX6_init_116 : decode cX6_init 116 = .ok (.iinc 1 1, 3) := by decide +kernel
theorem dX6_init_119 : decode cX6_init 119 = .ok (.goto (-21), 3) := by decide +kernel
theorem dX6_init_122 : decode cX6_init 122 = .ok (.return_, 1) := by decide +kernel
theorem dX6_type_0 : decode cX6_type 0 = .ok (.iload_n 1, 1) := by decide +kernel
theorem dX6_type_1 : decode cX6_type 1 = .ok (.ifCond .lt 10, 3) := by decide +kernel
theorem dX6_type_4 : decode cX6_type 4 = .ok (.iload_n 1, 1) := by decide +kernel
theorem dX6_type_5 : decode cX6_type 5 = .ok (.sipush 255, 3) := by decide +kernel
theorem dX6_type_8 : decode cX6_type 8 = .ok (.if_icmp .le 5, 3) := by decide +kernel
theorem dX6_type_11 : decode cX6_type 11 = .ok (.iconst (-1), 1) := by decide +kernel
theorem dX6_type_12 : decode cX6_type 12 = .ok (.ireturn, 1) := by decide +kernel
theorem dX6_type_13 : decode cX6_type 13 = .ok (.aload_n 0, 1) := by decide +kernel
theorem dX6_type_14 : decode cX6_type 14 = .ok (.getfield 22, 3) := by decide +kernel
theorem dX6_type_17 : decode cX6_type 17 = .ok (.iload_n 1, 1) := by decide +kernel
theorem dX6_type_18 : decode cX6_type 18 = .ok (.invokevirtual 62, 3) := by decide +kernel
theorem dX6_type_21 : decode cX6_type 21 = .ok (.ifCond .eq 13, 3) := by decide +kernel
theorem dX6_type_24 : decode cX6_type 24 = .ok (.aload_n 0, 1) := by decide +kernel
theorem dX6_type_25 : decode cX6_type 25 = .ok (.getfield 22, 3) := by decide +kernel
theorem dX6_type_28 : decode cX6_type 28 = .ok (.getfield 66, 3) := by decide +kernel
theorem dX6_type_31 : decode cX6_type 31 = .ok (.goto 5, 3) := by decide +kernel
theorem dX6_type_34 : decode cX6_type 34 = .ok (.bipush (-3), 2) := by decide +kernel
theorem dX6_type_36 : decode cX6_type 36 = .ok (.ireturn, 1) := by decide +kernel
theorem dX6_clear_0 : decode cX6_clear 0 = .ok (.aload_n 0, 1) := by decide +kernel
theorem dX6_clear_1 : decode cX6_clear 1 = .ok (.getfield 22, 3) := by decide +kernel
theorem dX6_clear_4 : decode cX6_clear 4 = .ok (.getfield 66, 3) := by decide +kernel
theorem dX6_clear_7 : decode cX6_clear 7 = .ok (.istore_n 1, 1) := by decide +kernel
theorem dX6_clear_8 : decode cX6_clear 8 = .ok (.aload_n 0, 1) := by decide +kernel
theorem dX6_clear_9 : decode cX6_clear 9 = .ok (.getfield 22, 3) := by decide +kernel
theorem dX6_clear_12 : decode cX6_clear 12 = .ok (.iconst 0, 1) := by decide +kernel
theorem dX6_clear_13 : decode cX6_clear 13 = .ok (.putfield 66, 3) := by decide +kernel
theorem dX6_clear_16 : decode cX6_clear 16 = .ok (.iload_n 1, 1) := by decide +kernel
theorem dX6_clear_17 : decode cX6_clear 17 = .ok (.ireturn, 1) := by decide +kernel
theorem dX6_tells_0 : decode cX6_tells 0 = .ok (.aload_n 0, 1) := by decide +kernel
theorem dX6_tells_1 : decode cX6_tells 1 = .ok (.getfield 22, 3) := by decide +kernel
theorem dX6_tells_4 : decode cX6_tells 4 = .ok (.aload_n 0, 1) := by decide +kernel
theorem dX6_tells_5 : decode cX6_tells 5 = .ok (.getfield 16, 3) := by decide +kernel
theorem dX6_tells_8 : decode cX6_tells 8 = .ok (.invokevirtual 70, 3) := by decide +kernel
theorem dX6_tells_11 : decode cX6_tells 11 = .ok (.istore_n 1, 1) := by decide +kernel
theorem dX6_tells_12 : decode cX6_tells 12 = .ok (.iload_n 1, 1) := by decide +kernel
theorem dX6_tells_13 : decode cX6_tells 13 = .ok (.bipush (-9), 2) := by decide +kernel
theorem dX6_tells_15 : decode cX6_tells 15 = .ok (.if_icmp .eq 8, 3) := by decide +kernel
theorem dX6_tells_18 : decode cX6_tells 18 = .ok (.bipush (-10), 2) := by decide +kernel
theorem dX6_tells_20 : decode cX6_tells 20 = .ok (.iload_n 1, 1) := by decide +kernel
theorem dX6_tells_21 : decode cX6_tells 21 = .ok (.isub, 1) := by decide +kernel
theorem dX6_tells_22 : decode cX6_tells 22 = .ok (.ireturn, 1) := by decide +kernel
theorem dX6_tells_23 : decode cX6_tells 23 = .ok (.aload_n 0, 1) := by decide +kernel
