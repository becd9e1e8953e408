theorem dX7_carves_10 : decode cX7_carves 10 = .ok (.ifCond .eq 12, 3) := by decide +kernel
theorem dX7_carves_13 : decode cX7_carves 13 = .ok (.aload_n 0, 1) := by decide +kernel
theorem dX7_carves_14 : decode cX7_carves 14 = .ok (.iload_n 2, 1) := by decide +kernel
theorem dX7_carves_15 : decode cX7_carves 15 = .ok (.iload_n 3, 1) := by decide +kernel
theorem dX7_carves_16 : decode cX7_carves 16 = .ok (.invokevirtual 141, 3) := by decide +kernel
theorem dX7_carves_19 : decode cX7_carves 19 = .ok (.ifCond .ne 5, 3) := by decide +kernel
theorem dX7_carves_22 : decode cX7_carves 22 = .ok (.iconst (-1), 1) := by decide +kernel
theorem dX7_carves_23 : decode cX7_carves 23 = .ok (.ireturn, 1) := by decide +kernel
theorem dX7_carves_24 : decode cX7_carves 24 = .ok (.aload_n 0, 1) := by decide +kernel
theorem dX7_carves_25 : decode cX7_carves 25 = .ok (.invokevirtual 102, 3) := by decide +kernel
theorem dX7_carves_28 : decode cX7_carves 28 = .ok (.aload_n 0, 1) := by decide +kernel
theorem dX7_carves_29 : decode cX7_carves 29 = .ok (.getfield 7, 3) := by decide +kernel
theorem dX7_carves_32 : decode cX7_carves 32 = .ok (.bipush 51, 2) := by decide +kernel
theorem dX7_carves_34 : decode cX7_carves 34 = .ok (.bipush 6, 2) := by decide +kernel
theorem dX7_carves_36 : decode cX7_carves 36 = .ok (.iload_n 1, 1) := by decide +kernel
theorem dX7_carves_37 : decode cX7_carves 37 = .ok (.imul, 1) := by decide +kernel
theorem dX7_carves_38 : decode cX7_carves 38 = .ok (.iadd, 1) := by decide +kernel
theorem dX7_carves_39 : decode cX7_carves 39 = .ok (.iload_n 3, 1) := by decide +kernel
theorem dX7_carves_40 : decode cX7_carves 40 = .ok (.iadd, 1) := by decide +kernel
theorem dX7_carves_41 : decode cX7_carves 41 = .ok (.dup2, 1) := by decide +kernel
theorem dX7_carves_42 : decode cX7_carves 42 = .ok (.iaload, 1) := by decide +kernel
theorem dX7_carves_43 : decode cX7_carves 43 = .ok (.iconst 1, 1) := by decide +kernel
theorem dX7_carves_44 : decode cX7_carves 44 = .ok (.iload_n 2, 1) := by decide +kernel
theorem dX7_carves_45 : decode cX7_carves 45 = .ok (.ishl, 1) := by decide +kernel
theorem dX7_carves_46 : decode cX7_carves 46 = .ok (.ixor, 1) := by decide +kernel
theorem dX7_carves_47 : decode cX7_carves 47 = .ok (.iastore, 1) := by decide +kernel
theorem dX7_carves_48 : decode cX7_carves 48 = .ok (.aload_n 0, 1) := by decide +kernel
theorem dX7_carves_49 : decode cX7_carves 49 = .ok (.getfield 7, 3) := by decide +kernel
theorem dX7_carves_52 : decode cX7_carves 52 = .ok (.bipush 51, 2) := by decide +kernel
theorem dX7_carves_54 : decode cX7_carves 54 = .ok (.bipush 6, 2) := by decide +kernel
theorem dX7_carves_56 : decode cX7_carves 56 = .ok (.iload_n 1, 1) := by decide +kernel
theorem dX7_carves_57 : decode cX7_carves 57 = .ok (.imul, 1) := by decide +kernel
theorem dX7_carves_58 : decode cX7_carves 58 = .ok (.iadd, 1) := by decide +kernel
theorem dX7_carves_59 : decode cX7_carves 59 = .ok (.iload_n 3, 1) := by decide +kernel
theorem dX7_carves_60 : decode cX7_carves 60 = .ok (.iadd, 1) := by decide +kernel
theorem dX7_carves_61 : decode cX7_carves 61 = .ok (.iaload, 1) := by decide +kernel
theorem dX7_carves_62 : decode cX7_carves 62 = .ok (.iload_n 2, 1) := by decide +kernel
theorem dX7_carves_63 : decode cX7_carves 63 = .ok (.ishr, 1) := by decide +kernel
theorem dX7_carves_64 : decode cX7_carves 64 = .ok (.iconst 1, 1) := by decide +kernel
theorem dX7_carves_65 : decode cX7_carves 65 = .ok (.iand, 1) := by decide +kernel
theorem dX7_carves_66 : decode cX7_carves 66 = .ok (.ireturn, 1) := by decide +kernel
theorem dX7_slips_0 : decode cX7_slips 0 = .ok (.aload_n 0, 1) := by decide +kernel
theorem dX7_slips_1 : decode cX7_slips 1 = .ok (.iconst 0, 1) := by decide +kernel
theorem dX7_slips_2 : decode cX7_slips 2 = .ok (.putfield 50, 3) := by decide +kernel
theorem dX7_slips_5 : decode cX7_slips 5 = .ok (.aload_n 0, 1) := by decide +kernel
theorem dX7_slips_6 : decode cX7_slips 6 = .ok (.iload_n 1, 1) := by decide +kernel
theorem dX7_slips_7 : decode cX7_slips 7 = .ok (.invokevirtual 137, 3) := by decide +kernel
theorem dX7_slips_10 : decode cX7_slips 10 = .ok (.ifCond .eq 21, 3) := by decide +kernel
theorem dX7_slips_13 : decode cX7_slips 13 = .ok (.iload_n 2, 1) := by decide +kernel
theorem dX7_slips_14 : decode cX7_slips 14 = .ok (.iconst (-1), 1) := by decide +kernel
theorem dX7_slips_15 : decode cX7_slips 15 = .ok (.iconst 1, 1) := by decide +kernel
theorem dX7_slips_16 : decode cX7_slips 16 = .ok (.invokestatic 57, 3) := by decide +kernel
theorem dX7_slips_19 : decode cX7_slips 19 = .ok (.ifCond .eq 12, 3) := by decide +kernel
theorem dX7_slips_22 : decode cX7_slips 22 = .ok (.iload_n 3, 1) := by decide +kernel
theorem dX7_slips_23 : decode cX7_slips 23 = .ok (.iconst (-1), 1) := by decide +kernel
theorem dX7_slips_24 : decode cX7_slips 24 = .ok (.iconst 1, 1) := by decide +kernel
theorem dX7_slips_25 : decode cX7_slips 25 = .ok (.invokestatic 57, 3) := by decide +kernel
theorem dX7_slips_28 : decode cX7_slips 28 = .ok (.ifCond .ne 5, 3) := by decide +kernel
theorem dX7_slips_31 : decode cX7_slips 31 = .ok (.iconst (-1), 1) := by decide +kernel
theorem dX7_slips_32 : decode cX7_slips 32 = .ok (.ireturn, 1) := by decide +kernel
theorem dX7_slips_33 : decode cX7_slips 33 = .ok (.aload_n 0, 1) := by decide +kernel
theorem dX7_slips_34 : decode cX7_slips 34 = .ok (.getfield 7, 3) := by decide +kernel
theorem dX7_slips_37 : decode cX7_slips 37 = .ok (.bipush 87, 2) := by decide +kernel
theorem dX7_slips_39 : decode cX7_slips 39 = .ok (.iload_n 1, 1) := by decide +kernel
theorem dX7_slips_40 : decode cX7_slips 40 = .ok (.iadd, 1) := by decide +kernel
theorem dX7_slips_41 : decode cX7_slips 41 = .ok (.iaload, 1) := by decide +kernel
theorem dX7_slips_42 : decode cX7_slips 42 = .ok (.iload_n 2, 1) := by decide +kernel
theorem dX7_slips_43 : decode cX7_slips 43 = .ok (.if_icmp .ne 19, 3) := by decide +kernel
theorem dX7_slips_46 : decode cX7_slips 46 = .ok (.aload_n 0, 1) := by decide +kernel
theorem dX7_slips_47 : decode cX7_slips 47 = .ok (.getfield 7, 3) := by decide +kernel
theorem dX7_slips_50 : decode cX7_slips 50 = .ok (.bipush 93, 2) := by decide +kernel
theorem dX7_slips_52 : decode cX7_slips 52 = .ok (.iload_n 1, 1) := by decide +kernel
theorem dX7_slips_53 : decode cX7_slips 53 = .ok (.iadd, 1) := by decide +kernel
theorem dX7_slips_54 : decode cX7_slips 54 = .ok (.iaload, 1) := by decide +kernel
theorem dX7_slips_55 : decode cX7_slips 55 = .ok (.iload_n 3, 1) := by decide +kernel
theorem dX7_slips_56 : decode cX7_slips 56 = .ok (.if_icmp .ne 6, 3) := by decide +kernel
theorem dX7_slips_59 : decode cX7_slips 59 = .ok (.bipush (-2), 2) := by decide +kernel
theorem dX7_slips_61 : decode cX7_slips 61 = .ok (.ireturn, 1) := by decide +kernel
theorem dX7_slips_62 : decode cX7_slips 62 = .ok (.aload_n 0, 1) := by decide +kernel
theorem dX7_slips_63 : decode cX7_slips 63 = .ok (.invokevirtual 102, 3) := by decide +kernel
theorem dX7_slips_66 : decode cX7_slips 66 = .ok (.aload_n 0, 1) := by decide +kernel
theorem dX7_slips_67 : decode cX7_slips 67 = .ok (.getfield 7, 3) := by decide +kernel
theorem dX7_slips_70 : decode cX7_slips 70 = .ok (.bipush 87, 2) := by decide +kernel
theorem dX7_slips_72 : decode cX7_slips 72 = .ok (.iload_n 1, 1) := by decide +kernel
theorem dX7_slips_73 : decode cX7_slips 73 = .ok (.iadd, 1) := by decide +kernel
theorem dX7_slips_74 : decode cX7_slips 74 = .ok (.iload_n 2, 1) := by decide +kernel
theorem dX7_slips_75 : decode cX7_slips 75 = .ok (.iastore, 1) := by decide +kernel
theorem dX7_slips_76 : decode cX7_slips 76 = .ok (.aload_n 0, 1) := by decide +kernel
theorem dX7_slips_77 : decode cX7_slips 77 = .ok (.getfield 7, 3) := by decide +kernel
theorem dX7_slips_80 : decode cX7_slips 80 = .ok (.bipush 93, 2) := by decide +kernel
theorem dX7_slips_82 : decode cX7_slips 82 = .ok (.iload_n 1, 1) := by decide +kernel
theorem dX7_slips_83 : decode cX7_slips 83 = .ok (.iadd, 1) := by decide +kernel
theorem dX7_slips_84 : decode cX7_slips 84 = .ok (.iload_n 3, 1) := by decide +kernel
theorem dX7_slips_85 : decode cX7_slips 85 = .ok (.iastore, 1) := by decide +kernel
theorem dX7_slips_86 : decode cX7_slips 86 = .ok (.iconst 1, 1) := by decide +kernel
theorem dX7_slips_87 : decode cX7_slips 87 = .ok (.ireturn, 1) := by decide +kernel
theorem dX7_placeOf_0 : decode cX7_placeOf 0 = .ok (.iconst 0, 1) := by decide +kernel
theorem dX7_placeOf_1 : decode cX7_placeOf 1 = .ok (.istore_n 2, 1) := by decide +kernel
theorem dX7_placeOf_2 : decode cX7_placeOf 2 = .ok (.aload_n 0, 1) := by decide +kernel
theorem dX7_placeOf_3 : decode cX7_placeOf 3 = .ok (.getfield 7, 3) := by decide +kernel
theorem dX7_placeOf_6 : decode cX7_placeOf 6 = .ok (.bipush 45, 2) := by decide +kernel
theorem dX7_placeOf_8 : decode cX7_placeOf 8 = .ok (.iload_n 2, 1) := by decide +kernel
theorem dX7_placeOf_9 : decode cX7_placeOf 9 = .ok (.iadd, 1) := by decide +kernel
theorem dX7_placeOf_10 : decode cX7_placeOf 10 = .ok (.iaload, 1) := by decide +kernel
theorem dX7_placeOf_11 : decode cX7_placeOf 11 = .ok (.iload_n 1, 1) := by decide +kernel
theorem dX7_placeOf_12 : decode cX7_placeOf 12 = .ok (.if_icmp .eq 9, 3) := by decide +kernel
theorem dX7_placeOf_15 : decode cX7_placeOf 15 = .ok (.iinc 2 1, 3) := by decide +kernel
theorem dX7_placeOf_18 : decode cX7_placeOf 18 = .ok (.goto (-16), 3) := by decide +kernel
theorem dX7_placeOf_21 : decode cX7_placeOf 21 = .ok (.iload_n 2, 1) := by decide +kernel
theorem dX7_placeOf_22 : decode cX7_placeOf 22 = .ok (.ireturn, 1) := by decide +kernel
theorem dX7_swaps_0 : decode cX7_swaps 0 = .ok (.aload_n 0, 1) := by decide +kernel
theorem dX7_swaps_1 : decode cX7_swaps 1 = .ok (.iconst 0, 1) := by decide +kernel
theorem dX7_swaps_2 : decode cX7_swaps 2 = .ok (.putfield 50, 3) := by decide +kernel
theorem dX7_swaps_5 : decode cX7_swaps 5 = .ok (.aload_n 0, 1) := by decide +kernel
theorem dX7_swaps_6 : decode cX7_swaps 6 = .ok (.iload_n 1, 1) := by decide +kernel
theorem dX7_swaps_7 : decode cX7_swaps 7 = .ok (.invokevirtual 137, 3) := by decide +kernel
theorem dX7_swaps_10 : decode cX7_swaps 10 = .ok (.ifCond .eq 16, 3) := by decide +kernel
theorem dX7_swaps_13 : decode cX7_swaps 13 = .ok (.aload_n 0, 1) := by decide +kernel
theorem dX7_swaps_14 : decode cX7_swaps 14 = .ok (.iload_n 2, 1) := by decide +kernel
theorem dX7_swaps_15 : decode cX7_swaps 15 = .ok (.invokevirtual 137, 3) := by decide +kernel
theorem dX7_swaps_18 : decode cX7_swaps 18 = .ok (.ifCond .eq 8, 3) := by decide +kernel
theorem dX7_swaps_21 : decode cX7_swaps 21 = .ok (.iload_n 1, 1) := by decide +kernel
theorem dX7_swaps_22 : decode cX7_swaps 22 = .ok (.iload_n 2, 1) := by decide +kernel
theorem dX7_swaps_23 : decode cX7_swaps 23 = .ok (.if_icmp .ne 5, 3) := by decide +kernel
theorem dX7_swaps_26 : decode cX7_swaps 26 = .ok (.iconst (-1), 1) := by decide +kernel
theorem dX7_swaps_27 : decode cX7_swaps 27 = .ok (.ireturn, 1) := by decide +kernel
theorem dX7_swaps_28 : decode cX7_swaps 28 = .ok (.aload_n 0, 1) := by decide +kernel
theorem dX7_swaps_29 : decode cX7_swaps 29 = .ok (.invokevirtual 102, 3) := by decide +kernel
theorem dX7_swaps_32 : decode cX7_swaps 32 = .ok (.aload_n 0, 1) := by decide +kernel
theorem dX7_swaps_33 : decode cX7_swaps 33 = .ok (.iload_n 1, 1) := by decide +kernel
theorem dX7_swaps_34 : decode cX7_swaps 34 = .ok (.invokevirtual 145, 3) := by decide +kernel
theorem dX7_swaps_37 : decode cX7_swaps 37 = .ok (.istore_n 3, 1) := by decide +kernel
theorem dX7_swaps_38 : decode cX7_swaps 38 = .ok (.aload_n 0, 1) := by decide +kernel
theorem dX7_swaps_39 : decode cX7_swaps 39 = .ok (.iload_n 2, 1) := by decide +kernel
theorem dX7_swaps_40 : decode cX7_swaps 40 = .ok (.invokevirtual 145, 3) := by decide +kernel
theorem dX7_swaps_43 : decode cX7_swaps 43 = .ok (.istore 4, 2) := by decide +kernel
theorem dX7_swaps_45 : decode cX7_swaps 45 = .ok (.aload_n 0, 1) := by decide +kernel
theorem dX7_swaps_46 : decode cX7_swaps 46 = .ok (.getfield 7, 3) := by decide +kernel
theorem dX7_swaps_49 : decode cX7_swaps 49 = .ok (.bipush 45, 2) := by decide +kernel
theorem dX7_swaps_51 : decode cX7_swaps 51 = .ok (.iload_n 3, 1) := by decide +kernel
theorem dX7_swaps_52 : decode cX7_swaps 52 = .ok (.iadd, 1) := by decide +kernel
theorem dX7_swaps_53 : decode cX7_swaps 53 = .ok (.iload_n 2, 1) := by decide +kernel
theorem dX7_swaps_54 : decode cX7_swaps 54 = .ok (.iastore, 1) := by decide +kernel
theorem dX7_swaps_55 : decode cX7_swaps 55 = .ok (.aload_n 0, 1) := by decide +kernel
theorem dX7_swaps_56 : decode cX7_swaps 56 = .ok (.getfield 7, 3) := by decide +kernel
theorem dX7_swaps_59 : decode cX7_swaps 59 = .ok (.bipush 45, 2) := by decide +kernel
theorem dX7_swaps_61 : decode cX7_swaps 61 = .ok (.iload 4, 2) := by decide +kernel
theorem dX7_swaps_63 : decode cX7_swaps 63 = .ok (.iadd, 1) := by decide +kernel
theorem dX7_swaps_64 : decode cX7_swaps 64 = .ok (.iload_n 1, 1) := by decide +kernel
theorem dX7_swaps_65 : decode cX7_swaps 65 = .ok (.iastore, 1) := by decide +kernel
theorem dX7_swaps_66 : decode cX7_swaps 66 = .ok (.aload_n 0, 1) := by decide +kernel
theorem dX7_swaps_67 : decode cX7_swaps 67 = .ok (.bipush (-9), 2) := by decide +kernel
theorem dX7_swaps_69 : decode cX7_swaps 69 = .ok (.iconst 0, 1) := by decide +kernel
theorem dX7_swaps_70 : decode cX7_swaps 70 = .ok (.iconst 0, 1) := by decide +kernel
theorem dX7_swaps_71 : decode cX7_swaps 71 = .ok (.invokevirtual 148, 3) := by decide +kernel
theorem dX7_swaps_74 : decode cX7_swaps 74 = .ok (.aload_n 0, 1) := by decide +kernel
theorem dX7_swaps_75 : decode cX7_swaps 75 = .ok (.invokevirtual 151, 3) := by decide +kernel
theorem dX7_swaps_78 : decode cX7_swaps 78 = .ok (.ireturn, 1) := by decide +kernel
theorem dX7_undo_0 : decode cX7_undo 0 = .ok (.aload_n 0, 1) := by decide +kernel
theorem dX7_undo_1 : decode cX7_undo 1 = .ok (.iconst 0, 1) := by decide +kernel
theorem dX7_undo_2 : decode cX7_undo 2 = .ok (.putfield 50, 3) := by decide +kernel
theorem dX7_undo_5 : decode cX7_undo 5 = .ok (.aload_n 0, 1) := by decide +kernel
theorem dX7_undo_6 : decode cX7_undo 6 = .ok (.getfield 125, 3) := by decide +kernel
theorem dX7_undo_9 : decode cX7_undo 9 = .ok (.ifCond .ne 6, 3) := by decide +kernel
theorem dX7_undo_12 : decode cX7_undo 12 = .ok (.bipush (-2), 2) := by decide +kernel
theorem dX7_undo_14 : decode cX7_undo 14 = .ok (.ireturn, 1) := by decide +kernel
theorem dX7_undo_15 : decode cX7_undo 15 = .ok (.aload_n 0, 1) := by decide +kernel
theorem dX7_undo_16 : decode cX7_undo 16 = .ok (.dup, 1) := by decide +kernel
theorem dX7_undo_17 : decode cX7_undo 17 = .ok (.getfield 125, 3) := by decide +kernel
theorem dX7_undo_20 : decode cX7_undo 20 = .ok (.iconst 1, 1) := by decide +kernel
theorem dX7_undo_21 : decode cX7_undo 21 = .ok (.isub, 1) := by decide +kernel
theorem dX7_undo_22 : decode cX7_undo 22 = .ok (.putfield 125, 3) := by decide +kernel
theorem dX7_undo_25 : decode cX7_undo 25 = .ok (.iconst 0, 1) := by decide +kernel
theorem dX7_undo_26 : decode cX7_undo 26 = .ok (.istore_n 1, 1) := by decide +kernel
theorem dX7_undo_27 : decode cX7_undo 27 = .ok (.iload_n 1, 1) := by decide +kernel
theorem dX7_undo_28 : decode cX7_undo 28 = .ok (.bipush 99, 2) := by decide +kernel
theorem dX7_undo_30 : decode cX7_undo 30 = .ok (.if_icmp .ge 29, 3) := by decide +kernel
theorem dX7_undo_33 : decode cX7_undo 33 = .ok (.aload_n 0, 1) := by decide +kernel
theorem dX7_undo_34 : decode cX7_undo 34 = .ok (.getfield 7, 3) := by decide +kernel
theorem dX7_undo_37 : decode cX7_undo 37 = .ok (.iload_n 1, 1) := by decide +kernel
theorem dX7_undo_38 : decode cX7_undo 38 = .ok (.aload_n 0, 1) := by decide +kernel
theorem dX7_undo_39 : decode cX7_undo 39 = .ok (.getfield 16, 3) := by decide +kernel
theorem dX7_undo_42 : decode cX7_undo 42 = .ok (.bipush 99, 2) := by decide +kernel
theorem dX7_undo_44 : decode cX7_undo 44 = .ok (.aload_n 0, 1) := by decide +kernel
theorem dX7_undo_45 : decode cX7_undo 45 = .ok (.getfield 125, 3) := by decide +kernel
theorem dX7_undo_48 : decode cX7_undo 48 = .ok (.imul, 1) := by decide +kernel
theorem dX7_undo_49 : decode cX7_undo 49 = .ok (.iload_n 1, 1) := by decide +kernel
theorem dX7_undo_50 : decode cX7_undo 50 = .ok (.iadd, 1) := by decide +kernel
theorem dX7_undo_51 : decode cX7_undo 51 = .ok (.iaload, 1) := by decide +kernel
theorem dX7_undo_52 : decode cX7_undo 52 = .ok (.iastore, 1) := by decide +kernel
theorem dX7_undo_53 : decode cX7_undo 53 = .ok (.iinc 1 1, 3) := by decide +kernel
theorem dX7_undo_56 : decode cX7_undo 56 = .ok (.goto (-29), 3) := by decide +kernel
theorem dX7_undo_59 : decode cX7_undo 59 = .ok (.aload_n 0, 1) := by decide +kernel
theorem dX7_undo_60 : decode cX7_undo 60 = .ok (.getfield 125, 3) := by decide +kernel
theorem dX7_undo_63 : decode cX7_undo 63 = .ok (.ireturn, 1) := by decide +kernel
theorem dX7_cell_0 : decode cX7_cell 0 = .ok (.aload_n 0, 1) := by decide +kernel
theorem dX7_cell_1 : decode cX7_cell 1 = .ok (.iconst 0, 1) := by decide +kernel
theorem dX7_cell_2 : decode cX7_cell 2 = .ok (.putfield 50, 3) := by decide +kernel
theorem dX7_cell_5 : decode cX7_cell 5 = .ok (.aload_n 0, 1) := by decide +kernel
theorem dX7_cell_6 : decode cX7_cell 6 = .ok (.iload_n 1, 1) := by decide +kernel
theorem dX7_cell_7 : decode cX7_cell 7 = .ok (.iload_n 2, 1) := by decide +kernel
theorem dX7_cell_8 : decode cX7_cell 8 = .ok (.invokevirtual 141, 3) := by decide +kernel
theorem dX7_cell_11 : decode cX7_cell 11 = .ok (.ifCond .eq 12, 3) := by decide +kernel
theorem dX7_cell_14 : decode cX7_cell 14 = .ok (.iload_n 3, 1) := by decide +kernel
theorem dX7_cell_15 : decode cX7_cell 15 = .ok (.iconst 0, 1) := by decide +kernel
theorem dX7_cell_16 : decode cX7_cell 16 = .ok (.iconst 2, 1) := by decide +kernel
theorem dX7_cell_17 : decode cX7_cell 17 = .ok (.invokestatic 57, 3) := by decide +kernel
theorem dX7_cell_20 : decode cX7_cell 20 = .ok (.ifCond .ne 5, 3) := by decide +kernel
theorem dX7_cell_23 : decode cX7_cell 23 = .ok (.iconst (-1), 1) := by decide +kernel
theorem dX7_cell_24 : decode cX7_cell 24 = .ok (.ireturn, 1) := by decide +kernel
theorem dX7_cell_25 : decode cX7_cell 25 = .ok (.iload_n 3, 1) := by decide +kernel
theorem dX7_cell_26 : decode cX7_cell 26 = .ok (.ifCond .ne 17, 3) := by decide +kernel
theorem dX7_cell_29 : decode cX7_cell 29 = .ok (.aload_n 0, 1) := by decide +kernel
theorem dX7_cell_30 : decode cX7_cell 30 = .ok (.getfield 7, 3) := by decide +kernel
theorem dX7_cell_33 : decode cX7_cell 33 = .ok (.iconst 3, 1) := by decide +kernel
theorem dX7_cell_34 : decode cX7_cell 34 = .ok (.bipush 6, 2) := by decide +kernel
theorem dX7_cell_36 : decode cX7_cell 36 = .ok (.iload_n 2, 1) := by decide +kernel
theorem dX7_cell_37 : decode cX7_cell 37 = .ok (.imul, 1) := by decide +kernel
theorem dX7_cell_38 : decode cX7_cell 38 = .ok (.iadd, 1) := by decide +kernel
theorem dX7_cell_39 : decode cX7_cell 39 = .ok (.iload_n 1, 1) := by decide +kernel
theorem dX7_cell_40 : decode cX7_cell 40 = .ok (.iadd, 1) := by decide +kernel
theorem dX7_cell_41 : decode cX7_cell 41 = .ok (.iaload, 1) := by decide +kernel
theorem dX7_cell_42 : decode cX7_cell 42 = .ok (.ireturn, 1) := by decide +kernel
theorem dX7_cell_43 : decode cX7_cell 43 = .ok (.iload_n 3, 1) := by decide +kernel
theorem dX7_cell_44 : decode cX7_cell 44 = .ok (.iconst 1, 1) := by decide +kernel
theorem dX7_cell_45 : decode cX7_cell 45 = .ok (.if_icmp .ne 23, 3) := by decide +kernel
theorem dX7_cell_48 : decode cX7_cell 48 = .ok (.aload_n 0, 1) := by decide +kernel
theorem dX7_cell_49 : decode cX7_cell 49 = .ok (.bipush (-9), 2) := by decide +kernel
theorem dX7_cell_51 : decode cX7_cell 51 = .ok (.iconst 0, 1) := by decide +kernel
theorem dX7_cell_52 : decode cX7_cell 52 = .ok (.iconst 0, 1) := by decide +kernel
theorem dX7_cell_53 : decode cX7_cell 53 = .ok (.invokevirtual 148, 3) := by decide +kernel
theorem dX7_cell_56 : decode cX7_cell 56 = .ok (.aload_n 0, 1) := by decide +kernel
theorem dX7_cell_57 : decode cX7_cell 57 = .ok (.getfield 32, 3) := by decide +kernel
theorem dX7_cell_60 : decode cX7_cell 60 = .ok (.bipush 6, 2) := by decide +kernel
theorem dX7_cell_62 : decode cX7_cell 62 = .ok (.iload_n 2, 1) := by decide +kernel
theorem dX7_cell_63 : decode cX7_cell 63 = .ok (.imul, 1) := by decide +kernel
theorem dX7_cell_64 : decode cX7_cell 64 = .ok (.iload_n 1, 1) := by decide +kernel
theorem dX7_cell_65 : decode cX7_cell 65 = .ok (.iadd, 1) := by decide +kernel
theorem dX7_cell_66 : decode cX7_cell 66 = .ok (.iaload, 1) := by decide +kernel
theorem dX7_cell_67 : decode cX7_cell 67 = .ok (.ireturn, 1) := by decide +kernel
theorem dX7_cell_68 : decode cX7_cell 68 = .ok (.iconst 0, 1) := by decide +kernel
theorem dX7_cell_69 : decode cX7_cell 69 = .ok (.istore 4, 2) := by decide +kernel
theorem dX7_cell_71 : decode cX7_cell 71 = .ok (.iconst 0, 1) := by decide +kernel
theorem dX7_cell_72 : decode cX7_cell 72 = .ok (.istore 5, 2) := by decide +kernel
theorem dX7_cell_74 : decode cX7_cell 74 = .ok (.iload 5, 2) := by decide +kernel
theorem dX7_cell_76 : decode cX7_cell 76 = .ok (.aload_n 0, 1) := by decide +kernel
theorem dX7_cell_77 : decode cX7_cell 77 = .ok (.getfield 7, 3) := by decide +kernel
theorem dX7_cell_80 : decode cX7_cell 80 = .ok (.iconst 2, 1) := by decide +kernel
theorem dX7_cell_81 : decode cX7_cell 81 = .ok (.iaload, 1) := by decide +kernel
theorem dX7_cell_82 : decode cX7_cell 82 = .ok (.if_icmp .ge 36, 3) := by decide +kernel
theorem dX7_cell_85 : decode cX7_cell 85 = .ok (.iload 4, 2) := by decide +kernel
theorem dX7_cell_87 : decode cX7_cell 87 = .ok (.aload_n 0, 1) := by decide +kernel
theorem dX7_cell_88 : decode cX7_cell 88 = .ok (.getfield 7, 3) := by decide +kernel
theorem dX7_cell_91 : decode cX7_cell 91 = .ok (.bipush 51, 2) := by decide +kernel
theorem dX7_cell_93 : decode cX7_cell 93 = .ok (.bipush 6, 2) := by decide +kernel
theorem dX7_cell_95 : decode cX7_cell 95 = .ok (.iload 5, 2) := by decide +kernel
theorem dX7_cell_97 : decode cX7_cell 97 = .ok (.imul, 1) := by decide +kernel
theorem dX7_cell_98 : decode cX7_cell 98 = .ok (.iadd, 1) := by decide +kernel
theorem dX7_cell_99 : decode cX7_cell 99 = .ok (.iload_n 2, 1) := by decide +kernel
theorem dX7_cell_100 : decode cX7_cell 100 = .ok (.iadd, 1) := by decide +kernel
theorem dX7_cell_101 : decode cX7_cell 101 = .ok (.iaload, 1) := by decide +kernel
theorem dX7_cell_102 : decode cX7_cell 102 = .ok (.iload_n 1, 1) := by decide +kernel
theorem dX7_cell_103 : decode cX7_cell 103 = .ok (.ishr, 1) := by decide +kernel
theorem dX7_cell_104 : decode cX7_cell 104 = .ok (.iconst 1, 1) := by decide +kernel
theorem dX7_cell_105 : decode cX7_cell 105 = .ok (.iand, 1) := by decide +kernel
theorem dX7_cell_106 : decode cX7_cell 106 = .ok (.iload 5, 2) := by decide +kernel
theorem dX7_cell_108 : decode cX7_cell 108 = .ok (.ishl, 1) := by decide +kernel
theorem dX7_cell_109 : decode cX7_cell 109 = .ok (.ior, 1) := by decide +kernel
theorem dX7_cell_110 : decode cX7_cell 110 = .ok (.istore 4, 2) := by decide +kernel
theorem dX7_cell_112 : decode cX7_cell 112 = .ok (.iinc 5 1, 3) := by decide +kernel
theorem dX7_cell_115 : decode cX7_cell 115 = .ok (.goto (-41), 3) := by decide +kernel
theorem dX7_cell_118 : decode cX7_cell 118 = .ok (.iload 4, 2) := by decide +kernel
theorem dX7_cell_120 : decode cX7_cell 120 = .ok (.ireturn, 1) := by decide +kernel
theorem dX7_cellsOf_0 : decode cX7_cellsOf 0 = .ok (.iconst 0, 1) := by decide +kernel
theorem dX7_cellsOf_1 : decode cX7_cellsOf 1 = .ok (.istore_n 2, 1) := by decide +kernel
theorem dX7_cellsOf_2 : decode cX7_cellsOf 2 = .ok (.iconst 0, 1) := by decide +kernel
theorem dX7_cellsOf_3 : decode cX7_cellsOf 3 = .ok (.istore_n 3, 1) := by decide +kernel
theorem dX7_cellsOf_4 : decode cX7_cellsOf 4 = .ok (.iload_n 3, 1) := by decide +kernel
theorem dX7_cellsOf_5 : decode cX7_cellsOf 5 = .ok (.bipush 6, 2) := by decide +kernel
theorem dX7_cellsOf_7 : decode cX7_cellsOf 7 = .ok (.if_icmp .ge 29, 3) := by decide +kernel
theorem dX7_cellsOf_10 : decode cX7_cellsOf 10 = .ok (.iload_n 2, 1) := by decide +kernel
theorem dX7_cellsOf_11 : decode cX7_cellsOf 11 = .ok (.aload_n 0, 1) := by decide +kernel
theorem dX7_cellsOf_12 : decode cX7_cellsOf 12 = .ok (.getfield 7, 3) := by decide +kernel
theorem dX7_cellsOf_15 : decode cX7_cellsOf 15 = .ok (.bipush 51, 2) := by decide +kernel
theorem dX7_cellsOf_17 : decode cX7_cellsOf 17 = .ok (.bipush 6, 2) := by decide +kernel
theorem dX7_cellsOf_19 : decode cX7_cellsOf 19 = .ok (.iload_n 1, 1) := by decide +kernel
theorem dX7_cellsOf_20 : decode cX7_cellsOf 20 = .ok (.imul, 1) := by decide +kernel
theorem dX7_cellsOf_21 : decode cX7_cellsOf 21 = .ok (.iadd, 1) := by decide +kernel
theorem dX7_cellsOf_22 : decode cX7_cellsOf 22 = .ok (.iload_n 3, 1) := by decide +kernel
theorem dX7_cellsOf_23 : decode cX7_cellsOf 23 = .ok (.iadd, 1) := by decide +kernel
theorem dX7_cellsOf_24 : decode cX7_cellsOf 24 = .ok (.iaload, 1) := by decide +kernel
theorem dX7_cellsOf_25 : decode cX7_cellsOf 25 = .ok (.invokestatic 122, 3) := by decide +kernel
theorem dX7_cellsOf_28 : decode cX7_cellsOf 28 = .ok (.iadd, 1) := by decide +kernel
theorem dX7_cellsOf_29 : decode cX7_cellsOf 29 = .ok (.istore_n 2, 1) := by decide +kernel
theorem dX7_cellsOf_30 : decode cX7_cellsOf 30 = .ok (.iinc 3 1, 3) := by decide +kernel
theorem dX7_cellsOf_33 : decode cX7_cellsOf 33 = .ok (.goto (-29), 3) := by decide +kernel
theorem dX7_cellsOf_36 : decode cX7_cellsOf 36 = .ok (.iload_n 2, 1) := by decide +kernel
theorem dX7_cellsOf_37 : decode cX7_cellsOf 37 = .ok (.ireturn, 1) := by decide +kernel
theorem dX7_ink_0 : decode cX7_ink 0 = .ok (.aload_n 0, 1) := by decide +kernel
theorem dX7_ink_1 : decode cX7_ink 1 = .ok (.iconst 0, 1) := by decide +kernel
theorem dX7_ink_2 : decode cX7_ink 2 = .ok (.putfield 50, 3) := by decide +kernel
theorem dX7_ink_5 : decode cX7_ink 5 = .ok (.aload_n 0, 1) := by decide +kernel
theorem dX7_ink_6 : decode cX7_ink 6 = .ok (.iload_n 1, 1) := by decide +kernel
theorem dX7_ink_7 : decode cX7_ink 7 = .ok (.invokevirtual 137, 3) := by decide +kernel
theorem dX7_ink_10 : decode cX7_ink 10 = .ok (.ifCond .eq 12, 3) := by decide +kernel
theorem dX7_ink_13 : decode cX7_ink 13 = .ok (.iload_n 2, 1) := by decide +kernel
theorem dX7_ink_14 : decode cX7_ink 14 = .ok (.iconst 0, 1) := by decide +kernel
theorem dX7_ink_15 : decode cX7_ink 15 = .ok (.iconst 5, 1) := by decide +kernel
theorem dX7_ink_16 : decode cX7_ink 16 = .ok (.invokestatic 57, 3) := by decide +kernel
theorem dX7_ink_19 : decode cX7_ink 19 = .ok (.ifCond .ne 6, 3) := by decide +kernel
theorem dX7_ink_22 : decode cX7_ink 22 = .ok (.ldc 154, 2) := by decide +kernel
theorem dX7_ink_24 : decode cX7_ink 24 = .ok (.ireturn, 1) := by decide +kernel
theorem dX7_ink_25 : decode cX7_ink 25 = .ok (.iload_n 2, 1) := by decide +kernel
theorem dX7_ink_26 : decode cX7_ink 26 = .ok (.tableswitch 82 0 4 #[34, 47, 60, 66, 72], 34) := by decide +kernel
theorem dX7_ink_60 : decode cX7_ink 60 = .ok (.aload_n 0, 1) := by decide +kernel
theorem dX7_ink_61 : decode cX7_ink 61 = .ok (.getfield 7, 3) := by decide +kernel
theorem dX7_ink_64 : decode cX7_ink 64 = .ok (.bipush 39, 2) := by decide +kernel
theorem dX7_ink_66 : decode cX7_ink 66 = .ok (.iload_n 1, 1) := by decide +kernel
theorem dX7_ink_67 : decode cX7_ink 67 = .ok (.iadd, 1) := by decide +kernel
theorem dX7_ink_68 : decode cX7_ink 68 = .ok (.iaload, 1) := by decide +kernel
theorem dX7_ink_69 : decode cX7_ink 69 = .ok (.bipush 8, 2) := by decide +kernel
theorem dX7_ink_71 : decode cX7_ink 71 = .ok (.irem, 1) := by decide +kernel
theorem dX7_ink_72 : decode cX7_ink 72 = .ok (.ireturn, 1) := by decide +kernel
theorem dX7_ink_73 : decode cX7_ink 73 = .ok (.aload_n 0, 1) := by decide +kernel
theorem dX7_ink_74 : decode cX7_ink 74 = .ok (.getfield 7, 3) := by decide +kernel
theorem dX7_ink_77 : decode cX7_ink 77 = .ok (.bipush 39, 2) := by decide +kernel
theorem dX7_ink_79 : decode cX7_ink 79 = .ok (.iload_n 1, 1) := by decide +kernel
theorem dX7_ink_80 : decode cX7_ink 80 = .ok (.iadd, 1) := by decide +kernel
theorem dX7_ink_81 : decode cX7_ink 81 = .ok (.iaload, 1) := by decide +kernel
theorem dX7_ink_82 : decode cX7_ink 82 = .ok (.bipush 8, 2) := by decide +kernel
theorem dX7_ink_84 : decode cX7_ink 84 = .ok (.idiv, 1) := by decide +kernel
theorem dX7_ink_85 : decode cX7_ink 85 = .ok (.ireturn, 1) := by decide +kernel
theorem dX7_ink_86 : decode cX7_ink 86 = .ok (.aload_n 0, 1) := by decide +kernel
theorem dX7_ink_87 : decode cX7_ink 87 = .ok (.iload_n 1, 1) := by decide +kernel
theorem dX7_ink_88 : decode cX7_ink 88 = .ok (.invokevirtual 145, 3) := by decide +kernel
theorem dX7_ink_91 : decode cX7_ink 91 = .ok (.ireturn, 1) := by decide +kernel
theorem dX7_ink_92 : decode cX7_ink 92 = .ok (.aload_n 0, 1) := by decide +kernel
theorem dX7_ink_93 : decode cX7_ink 93 = .ok (.iload_n 1, 1) := by decide +kernel
theorem dX7_ink_94 : decode cX7_ink 94 = .ok (.invokevirtual 155, 3) := by decide +kernel
theorem dX7_ink_97 : decode cX7_ink 97 = .ok (.ireturn, 1) := by decide +kernel
theorem dX7_ink_98 : decode cX7_ink 98 = .ok (.aload_n 0, 1) := by decide +kernel
theorem dX7_ink_99 : decode cX7_ink 99 = .ok (.getfield 7, 3) := by decide +kernel
theorem dX7_ink_102 : decode cX7_ink 102 = .ok (.bipush 87, 2) := by decide +kernel
theorem dX7_ink_104 : decode cX7_ink 104 = .ok (.iload_n 1, 1) := by decide +kernel
theorem dX7_ink_105 : decode cX7_ink 105 = .ok (.iadd, 1) := by decide +kernel
theorem dX7_ink_106 : decode cX7_ink 106 = .ok (.iaload, 1) := by decide +kernel
theorem dX7_ink_107 : decode cX7_ink 107 = .ok (.ireturn, 1) := by decide +kernel
theorem dX7_ink_108 : decode cX7_ink 108 = .ok (.aload_n 0, 1) := by decide +kernel
theorem dX7_ink_109 : decode cX7_ink 109 = .ok (.getfield 7, 3) := by decide +kernel
theorem dX7_ink_112 : decode cX7_ink 112 = .ok (.bipush 93, 2) := by decide +kernel
theorem dX7_ink_114 : decode cX7_ink 114 = .ok (.iload_n 1, 1) := by decide +kernel
theorem dX7_ink_115 : decode cX7_ink 115 = .ok (.iadd, 1) := by decide +kernel
theorem dX7_ink_116 : decode cX7_ink 116 = .ok (.iaload, 1) := by decide +kernel
theorem dX7_ink_117 : decode cX7_ink 117 = .ok (.ireturn, 1) := by decide +kernel
theorem dX7_made_0 : decode cX7_made 0 = .ok (.aload_n 0, 1) := by decide +kernel
theorem dX7_made_1 : decode cX7_made 1 = .ok (.iconst 0, 1) := by decide +kernel
theorem dX7_made_2 : decode cX7_made 2 = .ok (.putfield 50, 3) := by decide +kernel
theorem dX7_made_5 : decode cX7_made 5 = .ok (.iload_n 1, 1) := by decide +kernel
theorem dX7_made_6 : decode cX7_made 6 = .ok (.iconst 0, 1) := by decide +kernel
theorem dX7_made_7 : decode cX7_made 7 = .ok (.iconst 1, 1) := by decide +kernel
theorem dX7_made_8 : decode cX7_made 8 = .ok (.aload_n 0, 1) := by decide +kernel
theorem dX7_made_9 : decode cX7_made 9 = .ok (.getfield 7, 3) := by decide +kernel
theorem dX7_made_12 : decode cX7_made 12 = .ok (.iconst 2, 1) := by decide +kernel
theorem dX7_made_13 : decode cX7_made 13 = .ok (.iaload, 1) := by decide +kernel
theorem dX7_made_14 : decode cX7_made 14 = .ok (.ishl, 1) := by decide +kernel
theorem dX7_made_15 : decode cX7_made 15 = .ok (.iconst 1, 1) := by decide +kernel
theorem dX7_made_16 : decode cX7_made 16 = .ok (.isub, 1) := by decide +kernel
theorem dX7_made_17 : decode cX7_made 17 = .ok (.invokestatic 57, 3) := by decide +kernel
theorem dX7_made_20 : decode cX7_made 20 = .ok (.ifCond .ne 5, 3) := by decide +kernel
theorem dX7_made_23 : decode cX7_made 23 = .ok (.iconst (-1), 1) := by decide +kernel
theorem dX7_made_24 : decode cX7_made 24 = .ok (.ireturn, 1) := by decide +kernel
theorem dX7_made_25 : decode cX7_made 25 = .ok (.aload_n 0, 1) := by decide +kernel
theorem dX7_made_26 : decode cX7_made 26 = .ok (.invokevirtual 128, 3) := by decide +kernel
theorem dX7_made_29 : decode cX7_made 29 = .ok (.aload_n 0, 1) := by decide +kernel
theorem dX7_made_30 : decode cX7_made 30 = .ok (.invokevirtual 116, 3) := by decide +kernel
theorem dX7_made_33 : decode cX7_made 33 = .ok (.aload_n 0, 1) := by decide +kernel
theorem dX7_made_34 : decode cX7_made 34 = .ok (.getfield 41, 3) := by decide +kernel
theorem dX7_made_37 : decode cX7_made 37 = .ok (.iload_n 1, 1) := by decide +kernel
theorem dX7_made_38 : decode cX7_made 38 = .ok (.iaload, 1) := by decide +kernel
theorem dX7_made_39 : decode cX7_made 39 = .ok (.ireturn, 1) := by decide +kernel
theorem dX7_least_0 : decode cX7_least 0 = .ok (.aload_n 0, 1) := by decide +kernel
theorem dX7_least_1 : decode cX7_least 1 = .ok (.iconst 0, 1) := by decide +kernel
theorem dX7_least_2 : decode cX7_least 2 = .ok (.putfield 50, 3) := by decide +kernel
theorem dX7_least_5 : decode cX7_least 5 = .ok (.iload_n 1, 1) := by decide +kernel
theorem dX7_least_6 : decode cX7_least 6 = .ok (.iconst 0, 1) := by decide +kernel
theorem dX7_least_7 : decode cX7_least 7 = .ok (.iconst 1, 1) := by decide +kernel
theorem dX7_least_8 : decode cX7_least 8 = .ok (.invokestatic 57, 3) := by decide +kernel
theorem dX7_least_11 : decode cX7_least 11 = .ok (.ifCond .ne 5, 3) := by decide +kernel
theorem dX7_least_14 : decode cX7_least 14 = .ok (.iconst (-1), 1) := by decide +kernel
theorem dX7_least_15 : decode cX7_least 15 = .ok (.ireturn, 1) := by decide +kernel
theorem dX7_least_16 : decode cX7_least 16 = .ok (.aload_n 0, 1) := by decide +kernel
theorem dX7_least_17 : decode cX7_least 17 = .ok (.invokevirtual 128, 3) := by decide +kernel
theorem dX7_least_20 : decode cX7_least 20 = .ok (.aload_n 0, 1) := by decide +kernel
theorem dX7_least_21 : decode cX7_least 21 = .ok (.invokevirtual 131, 3) := by decide +kernel
theorem dX7_least_24 : decode cX7_least 24 = .ok (.istore_n 2, 1) := by decide +kernel
theorem dX7_least_25 : decode cX7_least 25 = .ok (.iload_n 2, 1) := by decide +kernel
theorem dX7_least_26 : decode cX7_least 26 = .ok (.bipush (-9), 2) := by decide +kernel
theorem dX7_least_28 : decode cX7_least 28 = .ok (.if_icmp .eq 8, 3) := by decide +kernel
theorem dX7_least_31 : decode cX7_least 31 = .ok (.iload_n 1, 1) := by decide +kernel
theorem dX7_least_32 : decode cX7_least 32 = .ok (.iconst 1, 1) := by decide +kernel
theorem dX7_least_33 : decode cX7_least 33 = .ok (.if_icmp .ne 7, 3) := by decide +kernel
theorem dX7_least_36 : decode cX7_least 36 = .ok (.iload_n 2, 1) := by decide +kernel
theorem dX7_least_37 : decode cX7_least 37 = .ok (.goto 7, 3) := by decide +kernel
theorem dX7_least_40 : decode cX7_least 40 = .ok (.iload_n 2, 1) := by decide +kernel
theorem dX7_least_41 : decode cX7_least 41 = .ok (.invokestatic 122, 3) := by decide +kernel
theorem dX7_least_44 : decode cX7_least 44 = .ok (.ireturn, 1) := by decide +kernel
theorem dX7_goesOn_0 : decode cX7_goesOn 0 = .ok (.aload_n 0, 1) := by decide +kernel
theorem dX7_goesOn_1 : decode cX7_goesOn 1 = .ok (.getfield 7, 3) := by decide +kernel
theorem dX7_goesOn_4 : decode cX7_goesOn 4 = .ok (.iconst 2, 1) := by decide +kernel
theorem dX7_goesOn_5 : decode cX7_goesOn 5 = .ok (.iaload, 1) := by decide +kernel
theorem dX7_goesOn_6 : decode cX7_goesOn 6 = .ok (.iconst 2, 1) := by decide +kernel
theorem dX7_goesOn_7 : decode cX7_goesOn 7 = .ok (.isub, 1) := by decide +kernel
theorem dX7_goesOn_8 : decode cX7_goesOn 8 = .ok (.istore_n 1, 1) := by decide +kernel
theorem dX7_goesOn_9 : decode cX7_goesOn 9 = .ok (.iload_n 1, 1) := by decide +kernel
theorem dX7_goesOn_10 : decode cX7_goesOn 10 = .ok (.ifCond .lt 26, 3) := by decide +kernel
theorem dX7_goesOn_13 : decode cX7_goesOn 13 = .ok (.aload_n 0, 1) := by decide +kernel
theorem dX7_goesOn_14 : decode cX7_goesOn 14 = .ok (.getfield 35, 3) := by decide +kernel
theorem dX7_goesOn_17 : decode cX7_goesOn 17 = .ok (.iload_n 1, 1) := by decide +kernel
theorem dX7_goesOn_18 : decode cX7_goesOn 18 = .ok (.iaload, 1) := by decide +kernel
theorem dX7_goesOn_19 : decode cX7_goesOn 19 = .ok (.aload_n 0, 1) := by decide +kernel
theorem dX7_goesOn_20 : decode cX7_goesOn 20 = .ok (.getfield 35, 3) := by decide +kernel
theorem dX7_goesOn_23 : decode cX7_goesOn 23 = .ok (.iload_n 1, 1) := by decide +kernel
theorem dX7_goesOn_24 : decode cX7_goesOn 24 = .ok (.iconst 1, 1) := by decide +kernel
theorem dX7_goesOn_25 : decode cX7_goesOn 25 = .ok (.iadd, 1) := by decide +kernel
theorem dX7_goesOn_26 : decode cX7_goesOn 26 = .ok (.iaload, 1) := by decide +kernel
theorem dX7_goesOn_27 : decode cX7_goesOn 27 = .ok (.if_icmp .le 9, 3) := by decide +kernel
theorem dX7_goesOn_30 : decode cX7_goesOn 30 = .ok (.iinc 1 (-1), 3) := by decide +kernel
theorem dX7_goesOn_33 : decode cX7_goesOn 33 = .ok (.goto (-24), 3) := by decide +kernel
theorem dX7_goesOn_36 : decode cX7_goesOn 36 = .ok (.iload_n 1, 1) := by decide +kernel
theorem dX7_goesOn_37 : decode cX7_goesOn 37 = .ok (.ifCond .ge 5, 3) := by decide +kernel
theorem dX7_goesOn_40 : decode cX7_goesOn 40 = .ok (.iconst 0, 1) := by decide +kernel
theorem dX7_goesOn_41 : decode cX7_goesOn 41 = .ok (.ireturn, 1) := by decide +kernel
theorem dX7_goesOn_42 : decode cX7_goesOn 42 = .ok (.aload_n 0, 1) := by decide +kernel
theorem dX7_goesOn_43 : decode cX7_goesOn 43 = .ok (.getfield 7, 3) := by decide +kernel
theorem dX7_goesOn_46 : decode cX7_goesOn 46 = .ok (.iconst 2, 1) := by decide +kernel
theorem dX7_goesOn_47 : decode cX7_goesOn 47 = .ok (.iaload, 1) := by decide +kernel
theorem dX7_goesOn_48 : decode cX7_goesOn 48 = .ok (.iconst 1, 1) := by decide +kernel
theorem dX7_goesOn_49 : decode cX7_goesOn 49 = .ok (.isub, 1) := by decide +kernel
theorem dX7_goesOn_50 : decode cX7_goesOn 50 = .ok (.istore_n 2, 1) := by decide +kernel
theorem dX7_goesOn_51 : decode cX7_goesOn 51 = .ok (.aload_n 0, 1) := by decide +kernel
theorem dX7_goesOn_52 : decode cX7_goesOn 52 = .ok (.getfield 35, 3) := by decide +kernel
theorem dX7_goesOn_55 : decode cX7_goesOn 55 = .ok (.iload_n 2, 1) := by decide +kernel
theorem dX7_goesOn_56 : decode cX7_goesOn 56 = .ok (.iaload, 1) := by decide +kernel
theorem dX7_goesOn_57 : decode cX7_goesOn 57 = .ok (.aload_n 0, 1) := by decide +kernel
theorem dX7_goesOn_58 : decode cX7_goesOn 58 = .ok (.getfield 35, 3) := by decide +kernel
theorem dX7_goesOn_61 : decode cX7_goesOn 61 = .ok (.iload_n 1, 1) := by decide +kernel
theorem dX7_goesOn_62 : decode cX7_goesOn 62 = .ok (.iaload, 1) := by decide +kernel
theorem dX7_goesOn_63 : decode cX7_goesOn 63 = .ok (.if_icmp .ge 9, 3) := by decide +kernel
theorem dX7_goesOn_66 : decode cX7_goesOn 66 = .ok (.iinc 2 (-1), 3) := by decide +kernel
theorem dX7_goesOn_69 : decode cX7_goesOn 69 = .ok (.goto (-18), 3) := by decide +kernel
theorem dX7_goesOn_72 : decode cX7_goesOn 72 = .ok (.aload_n 0, 1) := by decide +kernel
theorem dX7_goesOn_73 : decode cX7_goesOn 73 = .ok (.iload_n 1, 1) := by decide +kernel
theorem dX7_goesOn_74 : decode cX7_goesOn 74 = .ok (.iload_n 2, 1) := by decide +kernel
theorem dX7_goesOn_75 : decode cX7_goesOn 75 = .ok (.invokevirtual 158, 3) := by decide +kernel
theorem dX7_goesOn_78 : decode cX7_goesOn 78 = .ok (.iconst 1, 1) := by decide +kernel
theorem dX7_goesOn_79 : decode cX7_goesOn 79 = .ok (.istore_n 3, 1) := by decide +kernel
theorem dX7_goesOn_80 : decode cX7_goesOn 80 = .ok (.iload_n 1, 1) := by decide +kernel
theorem dX7_goesOn_81 : decode cX7_goesOn 81 = .ok (.iload_n 3, 1) := by decide +kernel
theorem dX7_goesOn_82 : decode cX7_goesOn 82 = .ok (.iadd, 1) := by decide +kernel
theorem dX7_goesOn_83 : decode cX7_goesOn 83 = .ok (.aload_n 0, 1) := by decide +kernel
theorem dX7_goesOn_84 : decode cX7_goesOn 84 = .ok (.getfield 7, 3) := by decide +kernel
theorem dX7_goesOn_87 : decode cX7_goesOn 87 = .ok (.iconst 2, 1) := by decide +kernel
theorem dX7_goesOn_88 : decode cX7_goesOn 88 = .ok (.iaload, 1) := by decide +kernel
theorem dX7_goesOn_89 : decode cX7_goesOn 89 = .ok (.iload_n 3, 1) := by decide +kernel
theorem dX7_goesOn_90 : decode cX7_goesOn 90 = .ok (.isub, 1) := by decide +kernel
theorem dX7_goesOn_91 : decode cX7_goesOn 91 = .ok (.if_icmp .ge 24, 3) := by decide +kernel
theorem dX7_goesOn_94 : decode cX7_goesOn 94 = .ok (.aload_n 0, 1) := by decide +kernel
theorem dX7_goesOn_95 : decode cX7_goesOn 95 = .ok (.iload_n 1, 1) := by decide +kernel
theorem dX7_goesOn_96 : decode cX7_goesOn 96 = .ok (.iload_n 3, 1) := by decide +kernel
theorem dX7_goesOn_97 : decode cX7_goesOn 97 = .ok (.iadd, 1) := by decide +kernel
theorem dX7_goesOn_98 : decode cX7_goesOn 98 = .ok (.aload_n 0, 1) := by decide +kernel
theorem dX7_goesOn_99 : decode cX7_goesOn 99 = .ok (.getfield 7, 3) := by decide +kernel
theorem dX7_goesOn_102 : decode cX7_goesOn 102 = .ok (.iconst 2, 1) := by decide +kernel
theorem dX7_goesOn_103 : decode cX7_goesOn 103 = .ok (.iaload, 1) := by decide +kernel
theorem dX7_goesOn_104 : decode cX7_goesOn 104 = .ok (.iload_n 3, 1) := by decide +kernel
theorem dX7_goesOn_105 : decode cX7_goesOn 105 = .ok (.isub, 1) := by decide +kernel
theorem dX7_goesOn_106 : decode cX7_goesOn 106 = .ok (.invokevirtual 158, 3) := by decide +kernel
theorem dX7_goesOn_109 : decode cX7_goesOn 109 = .ok (.iinc 3 1, 3) := by decide +kernel
theorem dX7_goesOn_112 : decode cX7_goesOn 112 = .ok (.goto (-32), 3) := by decide +kernel
theorem dX7_goesOn_115 : decode cX7_goesOn 115 = .ok (.iconst 1, 1) := by decide +kernel
theorem dX7_goesOn_116 : decode cX7_goesOn 116 = .ok (.ireturn, 1) := by decide +kernel
theorem dX7_exchanges_0 : decode cX7_exchanges 0 = .ok (.aload_n 0, 1) := by decide +kernel
theorem dX7_exchanges_1 : decode cX7_exchanges 1 = .ok (.getfield 35, 3) := by decide +kernel
theorem dX7_exchanges_4 : decode cX7_exchanges 4 = .ok (.iload_n 1, 1) := by decide +kernel
theorem dX7_exchanges_5 : decode cX7_exchanges 5 = .ok (.iaload, 1) := by decide +kernel
theorem dX7_exchanges_6 : decode cX7_exchanges 6 = .ok (.istore_n 3, 1) := by decide +kernel
theorem dX7_exchanges_7 : decode cX7_exchanges 7 = .ok (.aload_n 0, 1) := by decide +kernel
theorem dX7_exchanges_8 : decode cX7_exchanges 8 = .ok (.getfield 35, 3) := by decide +kernel
theorem dX7_exchanges_11 : decode cX7_exchanges 11 = .ok (.iload_n 1, 1) := by decide +kernel
theorem dX7_exchanges_12 : decode cX7_exchanges 12 = .ok (.aload_n 0, 1) := by decide +kernel
theorem dX7_exchanges_13 : decode cX7_exchanges 13 = .ok (.getfield 35, 3) := by decide +kernel
theorem dX7_exchanges_16 : decode cX7_exchanges 16 = .ok (.iload_n 2, 1) := by decide +kernel
theorem dX7_exchanges_17 : decode cX7_exchanges 17 = .ok (.iaload, 1) := by decide +kernel
theorem dX7_exchanges_18 : decode cX7_exchanges 18 = .ok (.iastore, 1) := by decide +kernel
theorem dX7_exchanges_19 : decode cX7_exchanges 19 = .ok (.aload_n 0, 1) := by decide +kernel
theorem dX7_exchanges_20 : decode cX7_exchanges 20 = .ok (.getfield 35, 3) := by decide +kernel
theorem dX7_exchanges_23 : decode cX7_exchanges 23 = .ok (.iload_n 2, 1) := by decide +kernel
theorem dX7_exchanges_24 : decode cX7_exchanges 24 = .ok (.iload_n 3, 1) := by decide +kernel
theorem dX7_exchanges_25 : decode cX7_exchanges 25 = .ok (.iastore, 1) := by decide +kernel
theorem dX7_exchanges_26 : decode cX7_exchanges 26 = .ok (.return_, 1) := by decide +kernel
theorem dX7_fewestByOrder_0 : decode cX7_fewestByOrder 0 = .ok (.iconst 0, 1) := by decide +kernel
theorem dX7_fewestByOrder_1 : decode cX7_fewestByOrder 1 = .ok (.istore_n 1, 1) := by decide +kernel
theorem dX7_fewestByOrder_2 : decode cX7_fewestByOrder 2 = .ok (.iload_n 1, 1) := by decide +kernel
theorem dX7_fewestByOrder_3 : decode cX7_fewestByOrder 3 = .ok (.bipush 6, 2) := by decide +kernel
theorem dX7_fewestByOrder_5 : decode cX7_fewestByOrder 5 = .ok (.if_icmp .ge 16, 3) := by decide +kernel
theorem dX7_fewestByOrder_8 : decode cX7_fewestByOrder 8 = .ok (.aload_n 0, 1) := by decide +kernel
theorem dX7_fewestByOrder_9 : decode cX7_fewestByOrder 9 = .ok (.getfield 35, 3) := by decide +kernel
theorem dX7_fewestByOrder_12 : decode cX7_fewestByOrder 12 = .ok (.iload_n 1, 1) := by decide +kernel
theorem dX7_fewestByOrder_13 : decode cX7_fewestByOrder 13 = .ok (.iload_n 1, 1) := by decide +kernel
theorem dX7_fewestByOrder_14 : decode cX7_fewestByOrder 14 = .ok (.iastore, 1) := by decide +kernel
theorem dX7_fewestByOrder_15 : decode cX7_fewestByOrder 15 = .ok (.iinc 1 1, 3) := by decide +kernel
theorem dX7_fewestByOrder_18 : decode cX7_fewestByOrder 18 = .ok (.goto (-16), 3) := by decide +kernel
theorem dX7_fewestByOrder_21 : decode cX7_fewestByOrder 21 = .ok (.bipush (-9), 2) := by decide +kernel
theorem dX7_fewestByOrder_23 : decode cX7_fewestByOrder 23 = .ok (.istore_n 1, 1) := by decide +kernel
theorem dX7_fewestByOrder_24 : decode cX7_fewestByOrder 24 = .ok (.iconst 1, 1) := by decide +kernel
theorem dX7_fewestByOrder_25 : decode cX7_fewestByOrder 25 = .ok (.istore_n 2, 1) := by decide +kernel
theorem dX7_fewestByOrder_26 : decode cX7_fewestByOrder 26 = .ok (.iload_n 2, 1) := by decide +kernel
theorem dX7_fewestByOrder_27 : decode cX7_fewestByOrder 27 = .ok (.ifCond .eq 71, 3) := by decide +kernel
theorem dX7_fewestByOrder_30 : decode cX7_fewestByOrder 30 = .ok (.aload_n 0, 1) := by decide +kernel
theorem dX7_fewestByOrder_31 : decode cX7_fewestByOrder 31 = .ok (.invokevirtual 131, 3) := by decide +kernel
theorem dX7_fewestByOrder_34 : decode cX7_fewestByOrder 34 = .ok (.istore_n 3, 1) := by decide +kernel
theorem dX7_fewestByOrder_35 : decode cX7_fewestByOrder 35 = .ok (.iload_n 3, 1) := by decide +kernel
theorem dX7_fewestByOrder_36 : decode cX7_fewestByOrder 36 = .ok (.bipush (-9), 2) := by decide +kernel
theorem dX7_fewestByOrder_38 : decode cX7_fewestByOrder 38 = .ok (.if_icmp .eq 52, 3) := by decide +kernel
theorem dX7_fewestByOrder_41 : decode cX7_fewestByOrder 41 = .ok (.iload_n 1, 1) := by decide +kernel
theorem dX7_fewestByOrder_42 : decode cX7_fewestByOrder 42 = .ok (.bipush (-9), 2) := by decide +kernel
theorem dX7_fewestByOrder_44 : decode cX7_fewestByOrder 44 = .ok (.if_icmp .eq 11, 3) := by decide +kernel
theorem dX7_fewestByOrder_47 : decode cX7_fewestByOrder 47 = .ok (.iload_n 3, 1) := by decide +kernel
theorem dX7_fewestByOrder_48 : decode cX7_fewestByOrder 48 = .ok (.invokestatic 122, 3) := by decide +kernel
theorem dX7_fewestByOrder_51 : decode cX7_fewestByOrder 51 = .ok (.iload_n 1, 1) := by decide +kernel
theorem dX7_fewestByOrder_52 : decode cX7_fewestByOrder 52 = .ok (.if_icmp .ge 38, 3) := by decide +kernel
theorem dX7_fewestByOrder_55 : decode cX7_fewestByOrder 55 = .ok (.iload_n 3, 1) := by decide +kernel
theorem dX7_fewestByOrder_56 : decode cX7_fewestByOrder 56 = .ok (.invokestatic 122, 3) := by decide +kernel
theorem dX7_fewestByOrder_59 : decode cX7_fewestByOrder 59 = .ok (.istore_n 1, 1) := by decide +kernel
theorem dX7_fewestByOrder_60 : decode cX7_fewestByOrder 60 = .ok (.iconst 0, 1) := by decide +kernel
theorem dX7_fewestByOrder_61 : decode cX7_fewestByOrder 61 = .ok (.istore 4, 2) := by decide +kernel
theorem dX7_fewestByOrder_63 : decode cX7_fewestByOrder 63 = .ok (.iload 4, 2) := by decide +kernel
theorem dX7_fewestByOrder_65 : decode cX7_fewestByOrder 65 = .ok (.bipush 6, 2) := by decide +kernel
theorem dX7_fewestByOrder_67 : decode cX7_fewestByOrder 67 = .ok (.if_icmp .ge 23, 3) := by decide +kernel
theorem dX7_fewestByOrder_70 : decode cX7_fewestByOrder 70 = .ok (.aload_n 0, 1) := by decide +kernel
theorem dX7_fewestByOrder_71 : decode cX7_fewestByOrder 71 = .ok (.getfield 44, 3) := by decide +kernel
theorem dX7_fewestByOrder_74 : decode cX7_fewestByOrder 74 = .ok (.iload 4, 2) := by decide +kernel
theorem dX7_fewestByOrder_76 : decode cX7_fewestByOrder 76 = .ok (.aload_n 0, 1) := by decide +kernel
theorem dX7_fewestByOrder_77 : decode cX7_fewestByOrder 77 = .ok (.getfield 35, 3) := by decide +kernel
theorem dX7_fewestByOrder_80 : decode cX7_fewestByOrder 80 = .ok (.iload 4, 2) := by decide +kernel
theorem dX7_fewestByOrder_82 : decode cX7_fewestByOrder 82 = .ok (.iaload, 1) := by decide +kernel
theorem dX7_fewestByOrder_83 : decode cX7_fewestByOrder 83 = .ok (.iastore, 1) := by decide +kernel
theorem dX7_fewestByOrder_84 : decode cX7_fewestByOrder 84 = .ok (.iinc 4 1, 3) := by decide +kernel
theorem dX7_fewestByOrder_87 : decode cX7_fewestByOrder 87 = .ok (.goto (-24), 3) := by decide +kernel
theorem dX7_fewestByOrder_90 : decode cX7_fewestByOrder 90 = .ok (.aload_n 0, 1) := by decide +kernel
theorem dX7_fewestByOrder_91 : decode cX7_fewestByOrder 91 = .ok (.invokevirtual 162, 3) := by decide +kernel
theorem dX7_fewestByOrder_94 : decode cX7_fewestByOrder 94 = .ok (.istore_n 2, 1) := by decide +kernel
theorem dX7_fewestByOrder_95 : decode cX7_fewestByOrder 95 = .ok (.goto (-69), 3) := by decide +kernel
theorem dX7_fewestByOrder_98 : decode cX7_fewestByOrder 98 = .ok (.iload_n 1, 1) := by decide +kernel
theorem dX7_fewestByOrder_99 : decode cX7_fewestByOrder 99 = .ok (.ireturn, 1) := by decide +kernel
theorem dX7_order_0 : decode cX7_order 0 = .ok (.aload_n 0, 1) := by decide +kernel
theorem dX7_order_1 : decode cX7_order 1 = .ok (.iconst 0, 1) := by decide +kernel
theorem dX7_order_2 : decode cX7_order 2 = .ok (.putfield 50, 3) := by decide +kernel
theorem dX7_order_5 : decode cX7_order 5 = .ok (.iload_n 1, 1) := by decide +kernel
theorem dX7_order_6 : decode cX7_order 6 = .ok (.iconst (-1), 1) := by decide +kernel
theorem dX7_order_7 : decode cX7_order 7 = .ok (.if_icmp .ge 5, 3) := by decide +kernel
theorem dX7_order_10 : decode cX7_order 10 = .ok (.iconst (-1), 1) := by decide +kernel
theorem dX7_order_11 : decode cX7_order 11 = .ok (.ireturn, 1) := by decide +kernel
theorem dX7_order_12 : decode cX7_order 12 = .ok (.aload_n 0, 1) := by decide +kernel
theorem dX7_order_13 : decode cX7_order 13 = .ok (.invokevirtual 165, 3) := by decide +kernel
theorem dX7_order_16 : decode cX7_order 16 = .ok (.istore_n 2, 1) := by decide +kernel
theorem dX7_order_17 : decode cX7_order 17 = .ok (.iload_n 2, 1) := by decide +kernel
theorem dX7_order_18 : decode cX7_order 18 = .ok (.bipush (-9), 2) := by decide +kernel
theorem dX7_order_20 : decode cX7_order 20 = .ok (.if_icmp .eq 8, 3) := by decide +kernel
theorem dX7_order_23 : decode cX7_order 23 = .ok (.iload_n 1, 1) := by decide +kernel
theorem dX7_order_24 : decode cX7_order 24 = .ok (.iconst (-1), 1) := by decide +kernel
theorem dX7_order_25 : decode cX7_order 25 = .ok (.if_icmp .ne 7, 3) := by decide +kernel
theorem dX7_order_28 : decode cX7_order 28 = .ok (.iload_n 2, 1) := by decide +kernel
theorem dX7_order_29 : decode cX7_order 29 = .ok (.goto 24, 3) := by decide +kernel
theorem dX7_order_32 : decode cX7_order 32 = .ok (.iload_n 1, 1) := by decide +kernel
theorem dX7_order_33 : decode cX7_order 33 = .ok (.aload_n 0, 1) := by decide +kernel
theorem dX7_order_34 : decode cX7_order 34 = .ok (.getfield 7, 3) := by decide +kernel
theorem dX7_order_37 : decode cX7_order 37 = .ok (.iconst 2, 1) := by decide +kernel
theorem dX7_order_38 : decode cX7_order 38 = .ok (.iaload, 1) := by decide +kernel
theorem dX7_order_39 : decode cX7_order 39 = .ok (.if_icmp .ge 12, 3) := by decide +kernel
theorem dX7_order_42 : decode cX7_order 42 = .ok (.aload_n 0, 1) := by decide +kernel
theorem dX7_order_43 : decode cX7_order 43 = .ok (.getfield 44, 3) := by decide +kernel
theorem dX7_order_46 : decode cX7_order 46 = .ok (.iload_n 1, 1) := by decide +kernel
theorem dX7_order_47 : decode cX7_order 47 = .ok (.iaload, 1) := by decide +kernel
theorem dX7_order_48 : decode cX7_order 48 = .ok (.goto 5, 3) := by decide +kernel
theorem dX7_order_51 : decode cX7_order 51 = .ok (.bipush (-9), 2) := by decide +kernel
theorem dX7_order_53 : decode cX7_order 53 = .ok (.ireturn, 1) := by decide +kernel
theorem dX7_wrong_0 : decode cX7_wrong 0 = .ok (.aload_n 0, 1) := by decide +kernel
theorem dX7_wrong_1 : decode cX7_wrong 1 = .ok (.iconst 0, 1) := by decide +kernel
theorem dX7_wrong_2 : decode cX7_wrong 2 = .ok (.putfield 50, 3) := by decide +kernel
theorem dX7_wrong_5 : decode cX7_wrong 5 = .ok (.aload_n 0, 1) := by decide +kernel
theorem dX7_wrong_6 : decode cX7_wrong 6 = .ok (.bipush (-9), 2) := by decide +kernel
theorem dX7_wrong_8 : decode cX7_wrong 8 = .ok (.iconst 0, 1) := by decide +kernel
theorem dX7_wrong_9 : decode cX7_wrong 9 = .ok (.iconst 0, 1) := by decide +kernel
theorem dX7_wrong_10 : decode cX7_wrong 10 = .ok (.invokevirtual 148, 3) := by decide +kernel
theorem dX7_wrong_13 : decode cX7_wrong 13 = .ok (.aload_n 0, 1) := by decide +kernel
theorem dX7_wrong_14 : decode cX7_wrong 14 = .ok (.invokevirtual 151, 3) := by decide +kernel
theorem dX7_wrong_17 : decode cX7_wrong 17 = .ok (.ireturn, 1) := by decide +kernel
theorem dX7_hurt_0 : decode cX7_hurt 0 = .ok (.aload_n 0, 1) := by decide +kernel
theorem dX7_hurt_1 : decode cX7_hurt 1 = .ok (.iconst 0, 1) := by decide +kernel
theorem dX7_hurt_2 : decode cX7_hurt 2 = .ok (.putfield 50, 3) := by decide +kernel
theorem dX7_hurt_5 : decode cX7_hurt 5 = .ok (.aload_n 0, 1) := by decide +kernel
theorem dX7_hurt_6 : decode cX7_hurt 6 = .ok (.iload_n 1, 1) := by decide +kernel
theorem dX7_hurt_7 : decode cX7_hurt 7 = .ok (.invokevirtual 137, 3) := by decide +kernel
theorem dX7_hurt_10 : decode cX7_hurt 10 = .ok (.ifCond .ne 6, 3) := by decide +kernel
theorem dX7_hurt_13 : decode cX7_hurt 13 = .ok (.ldc 154, 2) := by decide +kernel
theorem dX7_hurt_15 : decode cX7_hurt 15 = .ok (.ireturn, 1) := by decide +kernel
theorem dX7_hurt_16 : decode cX7_hurt 16 = .ok (.aload_n 0, 1) := by decide +kernel
theorem dX7_hurt_17 : decode cX7_hurt 17 = .ok (.bipush (-9), 2) := by decide +kernel
theorem dX7_hurt_19 : decode cX7_hurt 19 = .ok (.iconst 0, 1) := by decide +kernel
theorem dX7_hurt_20 : decode cX7_hurt 20 = .ok (.iconst 0, 1) := by decide +kernel
theorem dX7_hurt_21 : decode cX7_hurt 21 = .ok (.invokevirtual 148, 3) := by decide +kernel
theorem dX7_hurt_24 : decode cX7_hurt 24 = .ok (.aload_n 0, 1) := by decide +kernel
theorem dX7_hurt_25 : decode cX7_hurt 25 = .ok (.invokevirtual 151, 3) := by decide +kernel
theorem dX7_hurt_28 : decode cX7_hurt 28 = .ok (.istore_n 2, 1) := by decide +kernel
theorem dX7_hurt_29 : decode cX7_hurt 29 = .ok (.aload_n 0, 1) := by decide +kernel
theorem dX7_hurt_30 : decode cX7_hurt 30 = .ok (.iload_n 1, 1) := by decide +kernel
theorem dX7_hurt_31 : decode cX7_hurt 31 = .ok (.aload_n 0, 1) := by decide +kernel
theorem dX7_hurt_32 : decode cX7_hurt 32 = .ok (.getfield 7, 3) := by decide +kernel
theorem dX7_hurt_35 : decode cX7_hurt 35 = .ok (.bipush 87, 2) := by decide +kernel
theorem dX7_hurt_37 : decode cX7_hurt 37 = .ok (.iload_n 1, 1) := by decide +kernel
theorem dX7_hurt_38 : decode cX7_hurt 38 = .ok (.iadd, 1) := by decide +kernel
theorem dX7_hurt_39 : decode cX7_hurt 39 = .ok (.iaload, 1) := by decide +kernel
theorem dX7_hurt_40 : decode cX7_hurt 40 = .ok (.iconst 1, 1) := by decide +kernel
theorem dX7_hurt_41 : decode cX7_hurt 41 = .ok (.if_icmp .ne 7, 3) := by decide +kernel
theorem dX7_hurt_44 : decode cX7_hurt 44 = .ok (.iconst 0, 1) := by decide +kernel
theorem dX7_hurt_45 : decode cX7_hurt 45 = .ok (.goto 14, 3) := by decide +kernel
theorem dX7_hurt_48 : decode cX7_hurt 48 = .ok (.aload_n 0, 1) := by decide +kernel
theorem dX7_hurt_49 : decode cX7_hurt 49 = .ok (.getfield 7, 3) := by decide +kernel
theorem dX7_hurt_52 : decode cX7_hurt 52 = .ok (.bipush 87, 2) := by decide +kernel
theorem dX7_hurt_54 : decode cX7_hurt 54 = .ok (.iload_n 1, 1) := by decide +kernel
theorem dX7_hurt_55 : decode cX7_hurt 55 = .ok (.iadd, 1) := by decide +kernel
theorem dX7_hurt_56 : decode cX7_hurt 56 = .ok (.iaload, 1) := by decide +kernel
theorem dX7_hurt_57 : decode cX7_hurt 57 = .ok (.iconst 1, 1) := by decide +kernel
theorem dX7_hurt_58 : decode cX7_hurt 58 = .ok (.iadd, 1) := by decide +kernel
theorem dX7_hurt_59 : decode cX7_hurt 59 = .ok (.aload_n 0, 1) := by decide +kernel
theorem dX7_hurt_60 : decode cX7_hurt 60 = .ok (.getfield 7, 3) := by decide +kernel
theorem dX7_hurt_63 : decode cX7_hurt 63 = .ok (.bipush 93, 2) := by decide +kernel
theorem dX7_hurt_65 : decode cX7_hurt 65 = .ok (.iload_n 1, 1) := by decide +kernel
theorem dX7_hurt_66 : decode cX7_hurt 66 = .ok (.iadd, 1) := by decide +kernel
theorem dX7_hurt_67 : decode cX7_hurt 67 = .ok (.iaload, 1) := by decide +kernel
theorem dX7_hurt_68 : decode cX7_hurt 68 = .ok (.invokevirtual 148, 3) := by decide +kernel
theorem dX7_hurt_71 : decode cX7_hurt 71 = .ok (.aload_n 0, 1) := by decide +kernel
theorem dX7_hurt_72 : decode cX7_hurt 72 = .ok (.invokevirtual 151, 3) := by decide +kernel
theorem dX7_hurt_75 : decode cX7_hurt 75 = .ok (.iload_n 2, 1) := by decide +kernel
theorem dX7_hurt_76 : decode cX7_hurt 76 = .ok (.isub, 1) := by decide +kernel
theorem dX7_hurt_77 : decode cX7_hurt 77 = .ok (.ireturn, 1) := by decide +kernel
theorem dX7_sees_0 : decode cX7_sees 0 = .ok (.aload_n 0, 1) := by decide +kernel
theorem dX7_sees_1 : decode cX7_sees 1 = .ok (.iconst 0, 1) := by decide +kernel
theorem dX7_sees_2 : decode cX7_sees 2 = .ok (.putfield 50, 3) := by decide +kernel
theorem dX7_sees_5 : decode cX7_sees 5 = .ok (.iload_n 1, 1) := by decide +kernel
theorem dX7_sees_6 : decode cX7_sees 6 = .ok (.iconst 0, 1) := by decide +kernel
theorem dX7_sees_7 : decode cX7_sees 7 = .ok (.iconst 5, 1) := by decide +kernel
theorem dX7_sees_8 : decode cX7_sees 8 = .ok (.invokestatic 57, 3) := by decide +kernel
theorem dX7_sees_11 : decode cX7_sees 11 = .ok (.ifCond .eq 22, 3) := by decide +kernel
theorem dX7_sees_14 : decode cX7_sees 14 = .ok (.iload_n 2, 1) := by decide +kernel
theorem dX7_sees_15 : decode cX7_sees 15 = .ok (.iconst 0, 1) := by decide +kernel
theorem dX7_sees_16 : decode cX7_sees 16 = .ok (.iconst 5, 1) := by decide +kernel
theorem dX7_sees_17 : decode cX7_sees 17 = .ok (.invokestatic 57, 3) := by decide +kernel
theorem dX7_sees_20 : decode cX7_sees 20 = .ok (.ifCond .eq 13, 3) := by decide +kernel
theorem dX7_sees_23 : decode cX7_sees 23 = .ok (.iload_n 3, 1) := by decide +kernel
theorem dX7_sees_24 : decode cX7_sees 24 = .ok (.iconst 0, 1) := by decide +kernel
theorem dX7_sees_25 : decode cX7_sees 25 = .ok (.bipush 7, 2) := by decide +kernel
theorem dX7_sees_27 : decode cX7_sees 27 = .ok (.invokestatic 57, 3) := by decide +kernel
theorem dX7_sees_30 : decode cX7_sees 30 = .ok (.ifCond .ne 5, 3) := by decide +kernel
theorem dX7_sees_33 : decode cX7_sees 33 = .ok (.iconst (-1), 1) := by decide +kernel
theorem dX7_sees_34 : decode cX7_sees 34 = .ok (.ireturn, 1) := by decide +kernel
theorem dX7_sees_35 : decode cX7_sees 35 = .ok (.aload_n 0, 1) := by decide +kernel
theorem dX7_sees_36 : decode cX7_sees 36 = .ok (.getfield 105, 3) := by decide +kernel
theorem dX7_sees_39 : decode cX7_sees 39 = .ok (.bipush 6, 2) := by decide +kernel
theorem dX7_sees_41 : decode cX7_sees 41 = .ok (.if_icmp .ne 6, 3) := by decide +kernel
theorem dX7_sees_44 : decode cX7_sees 44 = .ok (.bipush (-3), 2) := by decide +kernel
theorem dX7_sees_46 : decode cX7_sees 46 = .ok (.ireturn, 1) := by decide +kernel
theorem dX7_sees_47 : decode cX7_sees 47 = .ok (.aload_n 0, 1) := by decide +kernel
theorem dX7_sees_48 : decode cX7_sees 48 = .ok (.getfield 29, 3) := by decide +kernel
theorem dX7_sees_51 : decode cX7_sees 51 = .ok (.iconst 3, 1) := by decide +kernel
theorem dX7_sees_52 : decode cX7_sees 52 = .ok (.aload_n 0, 1) := by decide +kernel
theorem dX7_sees_53 : decode cX7_sees 53 = .ok (.getfield 105, 3) := by decide +kernel
theorem dX7_sees_56 : decode cX7_sees 56 = .ok (.imul, 1) := by decide +kernel
theorem dX7_sees_57 : decode cX7_sees 57 = .ok (.iload_n 1, 1) := by decide +kernel
theorem dX7_sees_58 : decode cX7_sees 58 = .ok (.iastore, 1) := by decide +kernel
theorem dX7_sees_59 : decode cX7_sees 59 = .ok (.aload_n 0, 1) := by decide +kernel
theorem dX7_sees_60 : decode cX7_sees 60 = .ok (.getfield 29, 3) := by decide +kernel
theorem dX7_sees_63 : decode cX7_sees 63 = .ok (.iconst 3, 1) := by decide +kernel
theorem dX7_sees_64 : decode cX7_sees 64 = .ok (.aload_n 0, 1) := by decide +kernel
theorem dX7_sees_65 : decode cX7_sees 65 = .ok (.getfield 105, 3) := by decide +kernel
theorem dX7_sees_68 : decode cX7_sees 68 = .ok (.imul, 1) := by decide +kernel
theorem dX7_sees_69 : decode cX7_sees 69 = .ok (.iconst 1, 1) := by decide +kernel
theorem dX7_sees_70 : decode cX7_sees 70 = .ok (.iadd, 1) := by decide +kernel
theorem dX7_sees_71 : decode cX7_sees 71 = .ok (.iload_n 2, 1) := by decide +kernel
theorem dX7_sees_72 : decode cX7_sees 72 = .ok (.iastore, 1) := by decide +kernel
theorem dX7_sees_73 : decode cX7_sees 73 = .ok (.aload_n 0, 1) := by decide +kernel
theorem dX7_sees_74 : decode cX7_sees 74 = .ok (.getfield 29, 3) := by decide +kernel
theorem dX7_sees_77 : decode cX7_sees 77 = .ok (.iconst 3, 1) := by decide +kernel
theorem dX7_sees_78 : decode cX7_sees 78 = .ok (.aload_n 0, 1) := by decide +kernel
theorem dX7_sees_79 : decode cX7_sees 79 = .ok (.getfield 105, 3) := by decide +kernel
theorem dX7_sees_82 : decode cX7_sees 82 = .ok (.imul, 1) := by decide +kernel
theorem dX7_sees_83 : decode cX7_sees 83 = .ok (.iconst 2, 1) := by decide +kernel
theorem dX7_sees_84 : decode cX7_sees 84 = .ok (.iadd, 1) := by decide +kernel
theorem dX7_sees_85 : decode cX7_sees 85 = .ok (.iload_n 3, 1) := by decide +kernel
theorem dX7_sees_86 : decode cX7_sees 86 = .ok (.iastore, 1) := by decide +kernel
theorem dX7_sees_87 : decode cX7_sees 87 = .ok (.aload_n 0, 1) := by decide +kernel
theorem dX7_sees_88 : decode cX7_sees 88 = .ok (.dup, 1) := by decide +kernel
theorem dX7_sees_89 : decode cX7_sees 89 = .ok (.getfield 105, 3) := by decide +kernel
theorem dX7_sees_92 : decode cX7_sees 92 = .ok (.iconst 1, 1) := by decide +kernel
theorem dX7_sees_93 : decode cX7_sees 93 = .ok (.iadd, 1) := by decide +kernel
theorem dX7_sees_94 : decode cX7_sees 94 = .ok (.putfield 105, 3) := by decide +kernel
theorem dX7_sees_97 : decode cX7_sees 97 = .ok (.aload_n 0, 1) := by decide +kernel
theorem dX7_sees_98 : decode cX7_sees 98 = .ok (.getfield 105, 3) := by decide +kernel
theorem dX7_sees_101 : decode cX7_sees 101 = .ok (.ireturn, 1) := by decide +kernel
theorem dX7_forget_0 : decode cX7_forget 0 = .ok (.aload_n 0, 1) := by decide +kernel
theorem dX7_forget_1 : decode cX7_forget 1 = .ok (.iconst 0, 1) := by decide +kernel
theorem dX7_forget_2 : decode cX7_forget 2 = .ok (.putfield 50, 3) := by decide +kernel
theorem dX7_forget_5 : decode cX7_forget 5 = .ok (.aload_n 0, 1) := by decide +kernel
theorem dX7_forget_6 : decode cX7_forget 6 = .ok (.getfield 105, 3) := by decide +kernel
theorem dX7_forget_9 : decode cX7_forget 9 = .ok (.istore_n 1, 1) := by decide +kernel
theorem dX7_forget_10 : decode cX7_forget 10 = .ok (.aload_n 0, 1) := by decide +kernel
theorem dX7_forget_11 : decode cX7_forget 11 = .ok (.iconst 0, 1) := by decide +kernel
theorem dX7_forget_12 : decode cX7_forget 12 = .ok (.putfield 105, 3) := by decide +kernel
theorem dX7_forget_15 : decode cX7_forget 15 = .ok (.iload_n 1, 1) := by decide +kernel
theorem dX7_forget_16 : decode cX7_forget 16 = .ok (.ireturn, 1) := by decide +kernel
theorem dX7_tries_0 : decode cX7_tries 0 = .ok (.iload_n 1, 1) := by decide +kernel
theorem dX7_tries_1 : decode cX7_tries 1 = .ok (.ifCond .ge 13, 3) := by decide +kernel
theorem dX7_tries_4 : decode cX7_tries 4 = .ok (.aload_n 0, 1) := by decide +kernel
theorem dX7_tries_5 : decode cX7_tries 5 = .ok (.bipush (-9), 2) := by decide +kernel
theorem dX7_tries_7 : decode cX7_tries 7 = .ok (.iconst 0, 1) := by decide +kernel
theorem dX7_tries_8 : decode cX7_tries 8 = .ok (.iconst 0, 1) := by decide +kernel
theorem dX7_tries_9 : decode cX7_tries 9 = .ok (.invokevirtual 148, 3) := by decide +kernel
theorem dX7_tries_12 : decode cX7_tries 12 = .ok (.iconst 1, 1) := by decide +kernel
theorem dX7_tries_13 : decode cX7_tries 13 = .ok (.ireturn, 1) := by decide +kernel
theorem dX7_tries_14 : decode cX7_tries 14 = .ok (.iload_n 1, 1) := by decide +kernel
theorem dX7_tries_15 : decode cX7_tries 15 = .ok (.bipush 9, 2) := by decide +kernel
theorem dX7_tries_17 : decode cX7_tries 17 = .ok (.idiv, 1) := by decide +kernel
theorem dX7_tries_18 : decode cX7_tries 18 = .ok (.istore_n 2, 1) := by decide +kernel
theorem dX7_tries_19 : decode cX7_tries 19 = .ok (.iload_n 1, 1) := by decide +kernel
theorem dX7_tries_20 : decode cX7_tries 20 = .ok (.bipush 9, 2) := by decide +kernel
theorem dX7_tries_22 : decode cX7_tries 22 = .ok (.irem, 1) := by decide +kernel
theorem dX7_tries_23 : decode cX7_tries 23 = .ok (.iconst 3, 1) := by decide +kernel
theorem dX7_tries_24 : decode cX7_tries 24 = .ok (.idiv, 1) := by decide +kernel
theorem dX7_tries_25 : decode cX7_tries 25 = .ok (.iconst 1, 1) := by decide +kernel
theorem dX7_tries_26 : decode cX7_tries 26 = .ok (.isub, 1) := by decide +kernel
theorem dX7_tries_27 : decode cX7_tries 27 = .ok (.istore_n 3, 1) := by decide +kernel
theorem dX7_tries_28 : decode cX7_tries 28 = .ok (.iload_n 1, 1) := by decide +kernel
theorem dX7_tries_29 : decode cX7_tries 29 = .ok (.iconst 3, 1) := by decide +kernel
theorem dX7_tries_30 : decode cX7_tries 30 = .ok (.irem, 1) := by decide +kernel
theorem dX7_tries_31 : decode cX7_tries 31 = .ok (.iconst 1, 1) := by decide +kernel
theorem dX7_tries_32 : decode cX7_tries 32 = .ok (.isub, 1) := by decide +kernel
theorem dX7_tries_33 : decode cX7_tries 33 = .ok (.istore 4, 2) := by decide +kernel
theorem dX7_tries_35 : decode cX7_tries 35 = .ok (.aload_n 0, 1) := by decide +kernel
theorem dX7_tries_36 : decode cX7_tries 36 = .ok (.getfield 7, 3) := by decide +kernel
theorem dX7_tries_39 : decode cX7_tries 39 = .ok (.bipush 87, 2) := by decide +kernel
theorem dX7_tries_41 : decode cX7_tries 41 = .ok (.iload_n 2, 1) := by decide +kernel
theorem dX7_tries_42 : decode cX7_tries 42 = .ok (.iadd, 1) := by decide +kernel
theorem dX7_tries_43 : decode cX7_tries 43 = .ok (.iaload, 1) := by decide +kernel
theorem dX7_tries_44 : decode cX7_tries 44 = .ok (.iload 4, 2) := by decide +kernel
theorem dX7_tries_46 : decode cX7_tries 46 = .ok (.if_icmp .ne 18, 3) := by decide +kernel
theorem dX7_tries_49 : decode cX7_tries 49 = .ok (.aload_n 0, 1) := by decide +kernel
theorem dX7_tries_50 : decode cX7_tries 50 = .ok (.getfield 7, 3) := by decide +kernel
theorem dX7_tries_53 : decode cX7_tries 53 = .ok (.bipush 93, 2) := by decide +kernel
theorem dX7_tries_55 : decode cX7_tries 55 = .ok (.iload_n 2, 1) := by decide +kernel
theorem dX7_tries_56 : decode cX7_tries 56 = .ok (.iadd, 1) := by decide +kernel
theorem dX7_tries_57 : decode cX7_tries 57 = .ok (.iaload, 1) := by decide +kernel
theorem dX7_tries_58 : decode cX7_tries 58 = .ok (.iload_n 3, 1) := by decide +kernel
theorem dX7_tries_59 : decode cX7_tries 59 = .ok (.if_icmp .ne 5, 3) := by decide +kernel
theorem dX7_tries_62 : decode cX7_tries 62 = .ok (.iconst 0, 1) := by decide +kernel
theorem dX7_tries_63 : decode cX7_tries 63 = .ok (.ireturn, 1) := by decide +kernel
theorem dX7_tries_64 : decode cX7_tries 64 = .ok (.aload_n 0, 1) := by decide +kernel
theorem dX7_tries_65 : decode cX7_tries 65 = .ok (.iload_n 2, 1) := by decide +kernel
theorem dX7_tries_66 : decode cX7_tries 66 = .ok (.iload 4, 2) := by decide +kernel
theorem dX7_tries_68 : decode cX7_tries 68 = .ok (.iload_n 3, 1) := by decide +kernel
theorem dX7_tries_69 : decode cX7_tries 69 = .ok (.invokevirtual 148, 3) := by decide +kernel
theorem dX7_tries_72 : decode cX7_tries 72 = .ok (.iconst 1, 1) := by decide +kernel
theorem dX7_tries_73 : decode cX7_tries 73 = .ok (.ireturn, 1) := by decide +kernel
theorem dX7_isSeen_0 : decode cX7_isSeen 0 = .ok (.iconst 1, 1) := by decide +kernel
theorem dX7_isSeen_1 : decode cX7_isSeen 1 = .ok (.istore_n 1, 1) := by decide +kernel
theorem dX7_isSeen_2 : decode cX7_isSeen 2 = .ok (.iconst 0, 1) := by decide +kernel
theorem dX7_isSeen_3 : decode cX7_isSeen 3 = .ok (.istore_n 2, 1) := by decide +kernel
theorem dX7_isSeen_4 : decode cX7_isSeen 4 = .ok (.iload_n 2, 1) := by decide +kernel
theorem dX7_isSeen_5 : decode cX7_isSeen 5 = .ok (.aload_n 0, 1) := by decide +kernel
theorem dX7_isSeen_6 : decode cX7_isSeen 6 = .ok (.getfield 105, 3) := by decide +kernel
theorem dX7_isSeen_9 : decode cX7_isSeen 9 = .ok (.if_icmp .ge 75, 3) := by decide +kernel
theorem dX7_isSeen_12 : decode cX7_isSeen 12 = .ok (.iload_n 1, 1) := by decide +kernel
theorem dX7_isSeen_13 : decode cX7_isSeen 13 = .ok (.ifCond .eq 71, 3) := by decide +kernel
theorem dX7_isSeen_16 : decode cX7_isSeen 16 = .ok (.aload_n 0, 1) := by decide +kernel
theorem dX7_isSeen_17 : decode cX7_isSeen 17 = .ok (.getfield 29, 3) := by decide +kernel
theorem dX7_isSeen_20 : decode cX7_isSeen 20 = .ok (.iconst 3, 1) := by decide +kernel
theorem dX7_isSeen_21 : decode cX7_isSeen 21 = .ok (.iload_n 2, 1) := by decide +kernel
theorem dX7_isSeen_22 : decode cX7_isSeen 22 = .ok (.imul, 1) := by decide +kernel
theorem dX7_isSeen_23 : decode cX7_isSeen 23 = .ok (.iaload, 1) := by decide +kernel
theorem dX7_isSeen_24 : decode cX7_isSeen 24 = .ok (.istore_n 3, 1) := by decide +kernel
theorem dX7_isSeen_25 : decode cX7_isSeen 25 = .ok (.aload_n 0, 1) := by decide +kernel
theorem dX7_isSeen_26 : decode cX7_isSeen 26 = .ok (.getfield 29, 3) := by decide +kernel
theorem dX7_isSeen_29 : decode cX7_isSeen 29 = .ok (.iconst 3, 1) := by decide +kernel
theorem dX7_isSeen_30 : decode cX7_isSeen 30 = .ok (.iload_n 2, 1) := by decide +kernel
theorem dX7_isSeen_31 : decode cX7_isSeen 31 = .ok (.imul, 1) := by decide +kernel
theorem dX7_isSeen_32 : decode cX7_isSeen 32 = .ok (.iconst 1, 1) := by decide +kernel
theorem dX7_isSeen_33 : decode cX7_isSeen 33 = .ok (.iadd, 1) := by decide +kernel
theorem dX7_isSeen_34 : decode cX7_isSeen 34 = .ok (.iaload, 1) := by decide +kernel
theorem dX7_isSeen_35 : decode cX7_isSeen 35 = .ok (.istore 4, 2) := by decide +kernel
theorem dX7_isSeen_37 : decode cX7_isSeen 37 = .ok (.aload_n 0, 1) := by decide +kernel
theorem dX7_isSeen_38 : decode cX7_isSeen 38 = .ok (.iload_n 3, 1) := by decide +kernel
theorem dX7_isSeen_39 : decode cX7_isSeen 39 = .ok (.iload 4, 2) := by decide +kernel
theorem dX7_isSeen_41 : decode cX7_isSeen 41 = .ok (.invokevirtual 141, 3) := by decide +kernel
theorem dX7_isSeen_44 : decode cX7_isSeen 44 = .ok (.ifCond .eq 32, 3) := by decide +kernel
theorem dX7_isSeen_47 : decode cX7_isSeen 47 = .ok (.aload_n 0, 1) := by decide +kernel
theorem dX7_isSeen_48 : decode cX7_isSeen 48 = .ok (.getfield 32, 3) := by decide +kernel
theorem dX7_isSeen_51 : decode cX7_isSeen 51 = .ok (.bipush 6, 2) := by decide +kernel
theorem dX7_isSeen_53 : decode cX7_isSeen 53 = .ok (.iload 4, 2) := by decide +kernel
theorem dX7_isSeen_55 : decode cX7_isSeen 55 = .ok (.imul, 1) := by decide +kernel
theorem dX7_isSeen_56 : decode cX7_isSeen 56 = .ok (.iload_n 3, 1) := by decide +kernel
theorem dX7_isSeen_57 : decode cX7_isSeen 57 = .ok (.iadd, 1) := by decide +kernel
theorem dX7_isSeen_58 : decode cX7_isSeen 58 = .ok (.iaload, 1) := by decide +kernel
theorem dX7_isSeen_59 : decode cX7_isSeen 59 = .ok (.aload_n 0, 1) := by decide +kernel
theorem dX7_isSeen_60 : decode cX7_isSeen 60 = .ok (.getfield 29, 3) := by decide +kernel
theorem dX7_isSeen_63 : decode cX7_isSeen 63 = .ok (.iconst 3, 1) := by decide +kernel
theorem dX7_isSeen_64 : decode cX7_isSeen 64 = .ok (.iload_n 2, 1) := by decide +kernel
theorem dX7_isSeen_65 : decode cX7_isSeen 65 = .ok (.imul, 1) := by decide +kernel
theorem dX7_isSeen_66 : decode cX7_isSeen 66 = .ok (.iconst 2, 1) := by decide +kernel
theorem dX7_isSeen_67 : decode cX7_isSeen 67 = .ok (.iadd, 1) := by decide +kernel
theorem dX7_isSeen_68 : decode cX7_isSeen 68 = .ok (.iaload, 1) := by decide +kernel
theorem dX7_isSeen_69 : decode cX7_isSeen 69 = .ok (.if_icmp .ne 7, 3) := by decide +kernel
theorem dX7_isSeen_72 : decode cX7_isSeen 72 = .ok (.iconst 1, 1) := by decide +kernel
theorem dX7_isSeen_73 : decode cX7_isSeen 73 = .ok (.goto 4, 3) := by decide +kernel
theorem dX7_isSeen_76 : decode cX7_isSeen 76 = .ok (.iconst 0, 1) := by decide +kernel
theorem dX7_isSeen_77 : decode cX7_isSeen 77 = .ok (.istore_n 1, 1) := by decide +kernel
theorem dX7_isSeen_78 : decode cX7_isSeen 78 = .ok (.iinc 2 1, 3) := by decide +kernel
theorem dX7_isSeen_81 : decode cX7_isSeen 81 = .ok (.goto (-77), 3) := by decide +kernel
theorem dX7_isSeen_84 : decode cX7_isSeen 84 = .ok (.iload_n 1, 1) := by decide +kernel
theorem dX7_isSeen_85 : decode cX7_isSeen 85 = .ok (.ireturn, 1) := by decide +kernel
theorem dX7_which_0 : decode cX7_which 0 = .ok (.aload_n 0, 1) := by decide +kernel
theorem dX7_which_1 : decode cX7_which 1 = .ok (.iconst 0, 1) := by decide +kernel
theorem dX7_which_2 : decode cX7_which 2 = .ok (.putfield 50, 3) := by decide +kernel
theorem dX7_which_5 : decode cX7_which 5 = .ok (.iload_n 1, 1) := by decide +kernel
theorem dX7_which_6 : decode cX7_which 6 = .ok (.iconst 0, 1) := by decide +kernel
theorem dX7_which_7 : decode cX7_which 7 = .ok (.iconst 1, 1) := by decide +kernel
theorem dX7_which_8 : decode cX7_which 8 = .ok (.invokestatic 57, 3) := by decide +kernel
theorem dX7_which_11 : decode cX7_which 11 = .ok (.ifCond .ne 6, 3) := by decide +kernel
theorem dX7_which_14 : decode cX7_which 14 = .ok (.ldc 154, 2) := by decide +kernel
theorem dX7_which_16 : decode cX7_which 16 = .ok (.ireturn, 1) := by decide +kernel
theorem dX7_which_17 : decode cX7_which 17 = .ok (.iconst 0, 1) := by decide +kernel
theorem dX7_which_18 : decode cX7_which 18 = .ok (.istore_n 2, 1) := by decide +kernel
theorem dX7_which_19 : decode cX7_which 19 = .ok (.ldc 168, 2) := by decide +kernel
theorem dX7_which_21 : decode cX7_which 21 = .ok (.istore_n 3, 1) := by decide +kernel
theorem dX7_which_22 : decode cX7_which 22 = .ok (.iconst (-1), 1) := by decide +kernel
theorem dX7_which_23 : decode cX7_which 23 = .ok (.istore 4, 2) := by decide +kernel
theorem dX7_which_25 : decode cX7_which 25 = .ok (.iload 4, 2) := by decide +kernel
theorem dX7_which_27 : decode cX7_which 27 = .ok (.bipush 9, 2) := by decide +kernel
theorem dX7_which_29 : decode cX7_which 29 = .ok (.aload_n 0, 1) := by decide +kernel
theorem dX7_which_30 : decode cX7_which 30 = .ok (.getfield 7, 3) := by decide +kernel
theorem dX7_which_33 : decode cX7_which 33 = .ok (.iconst 2, 1) := by decide +kernel
theorem dX7_which_34 : decode cX7_which 34 = .ok (.iaload, 1) := by decide +kernel
theorem dX7_which_35 : decode cX7_which 35 = .ok (.imul, 1) := by decide +kernel
theorem dX7_which_36 : decode cX7_which 36 = .ok (.if_icmp .ge 39, 3) := by decide +kernel
theorem dX7_which_39 : decode cX7_which 39 = .ok (.aload_n 0, 1) := by decide +kernel
theorem dX7_which_40 : decode cX7_which 40 = .ok (.iload 4, 2) := by decide +kernel
theorem dX7_which_42 : decode cX7_which 42 = .ok (.invokevirtual 169, 3) := by decide +kernel
theorem dX7_which_45 : decode cX7_which 45 = .ok (.ifCond .eq 24, 3) := by decide +kernel
theorem dX7_which_48 : decode cX7_which 48 = .ok (.aload_n 0, 1) := by decide +kernel
theorem dX7_which_49 : decode cX7_which 49 = .ok (.invokevirtual 172, 3) := by decide +kernel
theorem dX7_which_52 : decode cX7_which 52 = .ok (.ifCond .eq 17, 3) := by decide +kernel
theorem dX7_which_55 : decode cX7_which 55 = .ok (.iload_n 2, 1) := by decide +kernel
theorem dX7_which_56 : decode cX7_which 56 = .ok (.ifCond .ne 8, 3) := by decide +kernel
theorem dX7_which_59 : decode cX7_which 59 = .ok (.iload 4, 2) := by decide +kernel
theorem dX7_which_61 : decode cX7_which 61 = .ok (.goto 4, 3) := by decide +kernel
theorem dX7_which_64 : decode cX7_which 64 = .ok (.iload_n 3, 1) := by decide +kernel
theorem dX7_which_65 : decode cX7_which 65 = .ok (.istore_n 3, 1) := by decide +kernel
theorem dX7_which_66 : decode cX7_which 66 = .ok (.iinc 2 1, 3) := by decide +kernel
theorem dX7_which_69 : decode cX7_which 69 = .ok (.iinc 4 1, 3) := by decide +kernel
theorem dX7_which_72 : decode cX7_which 72 = .ok (.goto (-47), 3) := by decide +kernel
theorem dX7_which_75 : decode cX7_which 75 = .ok (.iload_n 1, 1) := by decide +kernel
theorem dX7_which_76 : decode cX7_which 76 = .ok (.ifCond .ne 7, 3) := by decide +kernel
theorem dX7_which_79 : decode cX7_which 79 = .ok (.iload_n 2, 1) := by decide +kernel
theorem dX7_which_80 : decode cX7_which 80 = .ok (.goto 4, 3) := by decide +kernel
theorem dX7_which_83 : decode cX7_which 83 = .ok (.iload_n 3, 1) := by decide +kernel
theorem dX7_which_84 : decode cX7_which 84 = .ok (.ireturn, 1) := by decide +kernel
theorem dX7_ask_0 : decode cX7_ask 0 = .ok (.aload_n 0, 1) := by decide +kernel
theorem dX7_ask_1 : decode cX7_ask 1 = .ok (.iconst 0, 1) := by decide +kernel
theorem dX7_ask_2 : decode cX7_ask 2 = .ok (.putfield 50, 3) := by decide +kernel
theorem dX7_ask_5 : decode cX7_ask 5 = .ok (.iconst 0, 1) := by decide +kernel
theorem dX7_ask_6 : decode cX7_ask 6 = .ok (.istore_n 1, 1) := by decide +kernel
theorem dX7_ask_7 : decode cX7_ask 7 = .ok (.iload_n 1, 1) := by decide +kernel
theorem dX7_ask_8 : decode cX7_ask 8 = .ok (.sipush 288, 3) := by decide +kernel
theorem dX7_ask_11 : decode cX7_ask 11 = .ok (.if_icmp .ge 16, 3) := by decide +kernel
theorem dX7_ask_14 : decode cX7_ask 14 = .ok (.aload_n 0, 1) := by decide +kernel
theorem dX7_ask_15 : decode cX7_ask 15 = .ok (.getfield 47, 3) := by decide +kernel
theorem dX7_ask_18 : decode cX7_ask 18 = .ok (.iload_n 1, 1) := by decide +kernel
theorem dX7_ask_19 : decode cX7_ask 19 = .ok (.iconst 0, 1) := by decide +kernel
theorem dX7_ask_20 : decode cX7_ask 20 = .ok (.iastore, 1) := by decide +kernel
theorem dX7_ask_21 : decode cX7_ask 21 = .ok (.iinc 1 1, 3) := by decide +kernel
theorem dX7_ask_24 : decode cX7_ask 24 = .ok (.goto (-17), 3) := by decide +kernel
theorem dX7_ask_27 : decode cX7_ask 27 = .ok (.iconst 0, 1) := by decide +kernel
theorem dX7_ask_28 : decode cX7_ask 28 = .ok (.istore_n 1, 1) := by decide +kernel
theorem dX7_ask_29 : decode cX7_ask 29 = .ok (.iconst (-1), 1) := by decide +kernel
theorem dX7_ask_30 : decode cX7_ask 30 = .ok (.istore_n 2, 1) := by decide +kernel
theorem dX7_ask_31 : decode cX7_ask 31 = .ok (.iload_n 2, 1) := by decide +kernel
theorem dX7_ask_32 : decode cX7_ask 32 = .ok (.bipush 9, 2) := by decide +kernel
theorem dX7_ask_34 : decode cX7_ask 34 = .ok (.aload_n 0, 1) := by decide +kernel
theorem dX7_ask_35 : decode cX7_ask 35 = .ok (.getfield 7, 3) := by decide +kernel
theorem dX7_ask_38 : decode cX7_ask 38 = .ok (.iconst 2, 1) := by decide +kernel
theorem dX7_ask_39 : decode cX7_ask 39 = .ok (.iaload, 1) := by decide +kernel
