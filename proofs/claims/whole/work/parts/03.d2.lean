theorem dX6_tells_24 : decode cX6_tells 24 = .ok (.getfield 29, 3) := by decide +kernel
theorem dX6_tells_27 : decode cX6_tells 27 = .ok (.aload_n 0, 1) := by decide +kernel
theorem dX6_tells_28 : decode cX6_tells 28 = .ok (.getfield 10, 3) := by decide +kernel
theorem dX6_tells_31 : decode cX6_tells 31 = .ok (.invokevirtual 74, 3) := by decide +kernel
theorem dX6_tells_34 : decode cX6_tells 34 = .ok (.aload_n 0, 1) := by decide +kernel
theorem dX6_tells_35 : decode cX6_tells 35 = .ok (.getfield 10, 3) := by decide +kernel
theorem dX6_tells_38 : decode cX6_tells 38 = .ok (.aload_n 0, 1) := by decide +kernel
theorem dX6_tells_39 : decode cX6_tells 39 = .ok (.getfield 16, 3) := by decide +kernel
theorem dX6_tells_42 : decode cX6_tells 42 = .ok (.invokevirtual 78, 3) := by decide +kernel
theorem dX6_tells_45 : decode cX6_tells 45 = .ok (.aload_n 0, 1) := by decide +kernel
theorem dX6_tells_46 : decode cX6_tells 46 = .ok (.getfield 22, 3) := by decide +kernel
theorem dX6_tells_49 : decode cX6_tells 49 = .ok (.iconst 0, 1) := by decide +kernel
theorem dX6_tells_50 : decode cX6_tells 50 = .ok (.putfield 66, 3) := by decide +kernel
theorem dX6_tells_53 : decode cX6_tells 53 = .ok (.aload_n 0, 1) := by decide +kernel
theorem dX6_tells_54 : decode cX6_tells 54 = .ok (.getfield 44, 3) := by decide +kernel
theorem dX6_tells_57 : decode cX6_tells 57 = .ok (.iconst 0, 1) := by decide +kernel
theorem dX6_tells_58 : decode cX6_tells 58 = .ok (.putfield 81, 3) := by decide +kernel
theorem dX6_tells_61 : decode cX6_tells 61 = .ok (.iconst 0, 1) := by decide +kernel
theorem dX6_tells_62 : decode cX6_tells 62 = .ok (.istore_n 2, 1) := by decide +kernel
theorem dX6_tells_63 : decode cX6_tells 63 = .ok (.iload_n 2, 1) := by decide +kernel
theorem dX6_tells_64 : decode cX6_tells 64 = .ok (.iconst 2, 1) := by decide +kernel
theorem dX6_tells_65 : decode cX6_tells 65 = .ok (.if_icmp .ge 16, 3) := by decide +kernel
theorem dX6_tells_68 : decode cX6_tells 68 = .ok (.aload_n 0, 1) := by decide +kernel
theorem dX6_tells_69 : decode cX6_tells 69 = .ok (.getfield 37, 3) := by decide +kernel
theorem dX6_tells_72 : decode cX6_tells 72 = .ok (.iload_n 2, 1) := by decide +kernel
theorem dX6_tells_73 : decode cX6_tells 73 = .ok (.iconst 0, 1) := by decide +kernel
theorem dX6_tells_74 : decode cX6_tells 74 = .ok (.bastore, 1) := by decide +kernel
theorem dX6_tells_75 : decode cX6_tells 75 = .ok (.iinc 2 1, 3) := by decide +kernel
theorem dX6_tells_78 : decode cX6_tells 78 = .ok (.goto (-15), 3) := by decide +kernel
theorem dX6_tells_81 : decode cX6_tells 81 = .ok (.aload_n 0, 1) := by decide +kernel
theorem dX6_tells_82 : decode cX6_tells 82 = .ok (.getfield 16, 3) := by decide +kernel
theorem dX6_tells_85 : decode cX6_tells 85 = .ok (.getfield 84, 3) := by decide +kernel
theorem dX6_tells_88 : decode cX6_tells 88 = .ok (.aload_n 0, 1) := by decide +kernel
theorem dX6_tells_89 : decode cX6_tells 89 = .ok (.getfield 16, 3) := by decide +kernel
theorem dX6_tells_92 : decode cX6_tells 92 = .ok (.getfield 87, 3) := by decide +kernel
theorem dX6_tells_95 : decode cX6_tells 95 = .ok (.iadd, 1) := by decide +kernel
theorem dX6_tells_96 : decode cX6_tells 96 = .ok (.ireturn, 1) := by decide +kernel
theorem dX6_cuts_0 : decode cX6_cuts 0 = .ok (.aload_n 0, 1) := by decide +kernel
theorem dX6_cuts_1 : decode cX6_cuts 1 = .ok (.getfield 10, 3) := by decide +kernel
theorem dX6_cuts_4 : decode cX6_cuts 4 = .ok (.invokevirtual 90, 3) := by decide +kernel
theorem dX6_cuts_7 : decode cX6_cuts 7 = .ok (.istore_n 1, 1) := by decide +kernel
theorem dX6_cuts_8 : decode cX6_cuts 8 = .ok (.iload_n 1, 1) := by decide +kernel
theorem dX6_cuts_9 : decode cX6_cuts 9 = .ok (.bipush (-9), 2) := by decide +kernel
theorem dX6_cuts_11 : decode cX6_cuts 11 = .ok (.if_icmp .ne 6, 3) := by decide +kernel
theorem dX6_cuts_14 : decode cX6_cuts 14 = .ok (.bipush (-2), 2) := by decide +kernel
theorem dX6_cuts_16 : decode cX6_cuts 16 = .ok (.ireturn, 1) := by decide +kernel
theorem dX6_cuts_17 : decode cX6_cuts 17 = .ok (.aload_n 0, 1) := by decide +kernel
theorem dX6_cuts_18 : decode cX6_cuts 18 = .ok (.getfield 29, 3) := by decide +kernel
theorem dX6_cuts_21 : decode cX6_cuts 21 = .ok (.aload_n 0, 1) := by decide +kernel
theorem dX6_cuts_22 : decode cX6_cuts 22 = .ok (.getfield 10, 3) := by decide +kernel
theorem dX6_cuts_25 : decode cX6_cuts 25 = .ok (.invokevirtual 74, 3) := by decide +kernel
theorem dX6_cuts_28 : decode cX6_cuts 28 = .ok (.aload_n 0, 1) := by decide +kernel
theorem dX6_cuts_29 : decode cX6_cuts 29 = .ok (.getfield 10, 3) := by decide +kernel
theorem dX6_cuts_32 : decode cX6_cuts 32 = .ok (.iload_n 1, 1) := by decide +kernel
theorem dX6_cuts_33 : decode cX6_cuts 33 = .ok (.invokevirtual 94, 3) := by decide +kernel
theorem dX6_cuts_36 : decode cX6_cuts 36 = .ok (.iload_n 1, 1) := by decide +kernel
theorem dX6_cuts_37 : decode cX6_cuts 37 = .ok (.invokestatic 98, 3) := by decide +kernel
theorem dX6_cuts_40 : decode cX6_cuts 40 = .ok (.ireturn, 1) := by decide +kernel
theorem dX6_carves_0 : decode cX6_carves 0 = .ok (.aload_n 0, 1) := by decide +kernel
theorem dX6_carves_1 : decode cX6_carves 1 = .ok (.getfield 10, 3) := by decide +kernel
theorem dX6_carves_4 : decode cX6_carves 4 = .ok (.iload_n 1, 1) := by decide +kernel
theorem dX6_carves_5 : decode cX6_carves 5 = .ok (.invokevirtual 104, 3) := by decide +kernel
theorem dX6_carves_8 : decode cX6_carves 8 = .ok (.ifCond .eq 15, 3) := by decide +kernel
theorem dX6_carves_11 : decode cX6_carves 11 = .ok (.aload_n 0, 1) := by decide +kernel
theorem dX6_carves_12 : decode cX6_carves 12 = .ok (.getfield 10, 3) := by decide +kernel
theorem dX6_carves_15 : decode cX6_carves 15 = .ok (.iload_n 2, 1) := by decide +kernel
theorem dX6_carves_16 : decode cX6_carves 16 = .ok (.iload_n 3, 1) := by decide +kernel
theorem dX6_carves_17 : decode cX6_carves 17 = .ok (.invokevirtual 107, 3) := by decide +kernel
theorem dX6_carves_20 : decode cX6_carves 20 = .ok (.ifCond .ne 5, 3) := by decide +kernel
theorem dX6_carves_23 : decode cX6_carves 23 = .ok (.iconst (-1), 1) := by decide +kernel
theorem dX6_carves_24 : decode cX6_carves 24 = .ok (.ireturn, 1) := by decide +kernel
theorem dX6_carves_25 : decode cX6_carves 25 = .ok (.aload_n 0, 1) := by decide +kernel
theorem dX6_carves_26 : decode cX6_carves 26 = .ok (.getfield 29, 3) := by decide +kernel
theorem dX6_carves_29 : decode cX6_carves 29 = .ok (.aload_n 0, 1) := by decide +kernel
theorem dX6_carves_30 : decode cX6_carves 30 = .ok (.getfield 10, 3) := by decide +kernel
theorem dX6_carves_33 : decode cX6_carves 33 = .ok (.invokevirtual 74, 3) := by decide +kernel
theorem dX6_carves_36 : decode cX6_carves 36 = .ok (.aload_n 0, 1) := by decide +kernel
theorem dX6_carves_37 : decode cX6_carves 37 = .ok (.getfield 10, 3) := by decide +kernel
theorem dX6_carves_40 : decode cX6_carves 40 = .ok (.getfield 111, 3) := by decide +kernel
theorem dX6_carves_43 : decode cX6_carves 43 = .ok (.iload_n 1, 1) := by decide +kernel
theorem dX6_carves_44 : decode cX6_carves 44 = .ok (.dup2, 1) := by decide +kernel
theorem dX6_carves_45 : decode cX6_carves 45 = .ok (.laload, 1) := by decide +kernel
theorem dX6_carves_46 : decode cX6_carves 46 = .ok (.iload_n 2, 1) := by decide +kernel
theorem dX6_carves_47 : decode cX6_carves 47 = .ok (.iload_n 3, 1) := by decide +kernel
theorem dX6_carves_48 : decode cX6_carves 48 = .ok (.invokestatic 115, 3) := by decide +kernel
theorem dX6_carves_51 : decode cX6_carves 51 = .ok (.lxor, 1) := by decide +kernel
theorem dX6_carves_52 : decode cX6_carves 52 = .ok (.lastore, 1) := by decide +kernel
theorem dX6_carves_53 : decode cX6_carves 53 = .ok (.aload_n 0, 1) := by decide +kernel
theorem dX6_carves_54 : decode cX6_carves 54 = .ok (.getfield 10, 3) := by decide +kernel
theorem dX6_carves_57 : decode cX6_carves 57 = .ok (.getfield 111, 3) := by decide +kernel
theorem dX6_carves_60 : decode cX6_carves 60 = .ok (.iload_n 1, 1) := by decide +kernel
theorem dX6_carves_61 : decode cX6_carves 61 = .ok (.laload, 1) := by decide +kernel
theorem dX6_carves_62 : decode cX6_carves 62 = .ok (.iload_n 2, 1) := by decide +kernel
theorem dX6_carves_63 : decode cX6_carves 63 = .ok (.iload_n 3, 1) := by decide +kernel
theorem dX6_carves_64 : decode cX6_carves 64 = .ok (.invokestatic 115, 3) := by decide +kernel
theorem dX6_carves_67 : decode cX6_carves 67 = .ok (.land, 1) := by decide +kernel
theorem dX6_carves_68 : decode cX6_carves 68 = .ok (.lconst 0, 1) := by decide +kernel
theorem dX6_carves_69 : decode cX6_carves 69 = .ok (.lcmp, 1) := by decide +kernel
theorem dX6_carves_70 : decode cX6_carves 70 = .ok (.ifCond .eq 7, 3) := by decide +kernel
theorem dX6_carves_73 : decode cX6_carves 73 = .ok (.iconst 1, 1) := by decide +kernel
theorem dX6_carves_74 : decode cX6_carves 74 = .ok (.goto 4, 3) := by decide +kernel
theorem dX6_carves_77 : decode cX6_carves 77 = .ok (.iconst 0, 1) := by decide +kernel
theorem dX6_carves_78 : decode cX6_carves 78 = .ok (.ireturn, 1) := by decide +kernel
theorem dX6_slips_0 : decode cX6_slips 0 = .ok (.aload_n 0, 1) := by decide +kernel
theorem dX6_slips_1 : decode cX6_slips 1 = .ok (.getfield 10, 3) := by decide +kernel
theorem dX6_slips_4 : decode cX6_slips 4 = .ok (.iload_n 1, 1) := by decide +kernel
theorem dX6_slips_5 : decode cX6_slips 5 = .ok (.invokevirtual 104, 3) := by decide +kernel
theorem dX6_slips_8 : decode cX6_slips 8 = .ok (.ifCond .eq 23, 3) := by decide +kernel
theorem dX6_slips_11 : decode cX6_slips 11 = .ok (.iload_n 2, 1) := by decide +kernel
theorem dX6_slips_12 : decode cX6_slips 12 = .ok (.iconst (-1), 1) := by decide +kernel
theorem dX6_slips_13 : decode cX6_slips 13 = .ok (.if_icmp .lt 18, 3) := by decide +kernel
theorem dX6_slips_16 : decode cX6_slips 16 = .ok (.iload_n 2, 1) := by decide +kernel
theorem dX6_slips_17 : decode cX6_slips 17 = .ok (.iconst 1, 1) := by decide +kernel
theorem dX6_slips_18 : decode cX6_slips 18 = .ok (.if_icmp .gt 13, 3) := by decide +kernel
theorem dX6_slips_21 : decode cX6_slips 21 = .ok (.iload_n 3, 1) := by decide +kernel
theorem dX6_slips_22 : decode cX6_slips 22 = .ok (.iconst (-1), 1) := by decide +kernel
theorem dX6_slips_23 : decode cX6_slips 23 = .ok (.if_icmp .lt 8, 3) := by decide +kernel
theorem dX6_slips_26 : decode cX6_slips 26 = .ok (.iload_n 3, 1) := by decide +kernel
theorem dX6_slips_27 : decode cX6_slips 27 = .ok (.iconst 1, 1) := by decide +kernel
theorem dX6_slips_28 : decode cX6_slips 28 = .ok (.if_icmp .le 5, 3) := by decide +kernel
theorem dX6_slips_31 : decode cX6_slips 31 = .ok (.iconst (-1), 1) := by decide +kernel
theorem dX6_slips_32 : decode cX6_slips 32 = .ok (.ireturn, 1) := by decide +kernel
theorem dX6_slips_33 : decode cX6_slips 33 = .ok (.iload_n 2, 1) := by decide +kernel
theorem dX6_slips_34 : decode cX6_slips 34 = .ok (.iload_n 3, 1) := by decide +kernel
theorem dX6_slips_35 : decode cX6_slips 35 = .ok (.invokestatic 119, 3) := by decide +kernel
theorem dX6_slips_38 : decode cX6_slips 38 = .ok (.istore 4, 2) := by decide +kernel
theorem dX6_slips_40 : decode cX6_slips 40 = .ok (.aload_n 0, 1) := by decide +kernel
theorem dX6_slips_41 : decode cX6_slips 41 = .ok (.getfield 10, 3) := by decide +kernel
theorem dX6_slips_44 : decode cX6_slips 44 = .ok (.getfield 123, 3) := by decide +kernel
theorem dX6_slips_47 : decode cX6_slips 47 = .ok (.iload_n 1, 1) := by decide +kernel
theorem dX6_slips_48 : decode cX6_slips 48 = .ok (.iaload, 1) := by decide +kernel
theorem dX6_slips_49 : decode cX6_slips 49 = .ok (.iload 4, 2) := by decide +kernel
theorem dX6_slips_51 : decode cX6_slips 51 = .ok (.if_icmp .ne 6, 3) := by decide +kernel
theorem dX6_slips_54 : decode cX6_slips 54 = .ok (.bipush (-2), 2) := by decide +kernel
theorem dX6_slips_56 : decode cX6_slips 56 = .ok (.ireturn, 1) := by decide +kernel
theorem dX6_slips_57 : decode cX6_slips 57 = .ok (.aload_n 0, 1) := by decide +kernel
theorem dX6_slips_58 : decode cX6_slips 58 = .ok (.getfield 29, 3) := by decide +kernel
theorem dX6_slips_61 : decode cX6_slips 61 = .ok (.aload_n 0, 1) := by decide +kernel
theorem dX6_slips_62 : decode cX6_slips 62 = .ok (.getfield 10, 3) := by decide +kernel
theorem dX6_slips_65 : decode cX6_slips 65 = .ok (.invokevirtual 74, 3) := by decide +kernel
theorem dX6_slips_68 : decode cX6_slips 68 = .ok (.aload_n 0, 1) := by decide +kernel
theorem dX6_slips_69 : decode cX6_slips 69 = .ok (.getfield 10, 3) := by decide +kernel
theorem dX6_slips_72 : decode cX6_slips 72 = .ok (.getfield 123, 3) := by decide +kernel
theorem dX6_slips_75 : decode cX6_slips 75 = .ok (.iload_n 1, 1) := by decide +kernel
theorem dX6_slips_76 : decode cX6_slips 76 = .ok (.iload 4, 2) := by decide +kernel
theorem dX6_slips_78 : decode cX6_slips 78 = .ok (.iastore, 1) := by decide +kernel
theorem dX6_slips_79 : decode cX6_slips 79 = .ok (.iconst 1, 1) := by decide +kernel
theorem dX6_slips_80 : decode cX6_slips 80 = .ok (.ireturn, 1) := by decide +kernel
theorem dX6_swaps_0 : decode cX6_swaps 0 = .ok (.aload_n 0, 1) := by decide +kernel
theorem dX6_swaps_1 : decode cX6_swaps 1 = .ok (.getfield 10, 3) := by decide +kernel
theorem dX6_swaps_4 : decode cX6_swaps 4 = .ok (.iload_n 1, 1) := by decide +kernel
theorem dX6_swaps_5 : decode cX6_swaps 5 = .ok (.invokevirtual 104, 3) := by decide +kernel
theorem dX6_swaps_8 : decode cX6_swaps 8 = .ok (.ifCond .eq 19, 3) := by decide +kernel
theorem dX6_swaps_11 : decode cX6_swaps 11 = .ok (.aload_n 0, 1) := by decide +kernel
theorem dX6_swaps_12 : decode cX6_swaps 12 = .ok (.getfield 10, 3) := by decide +kernel
theorem dX6_swaps_15 : decode cX6_swaps 15 = .ok (.iload_n 2, 1) := by decide +kernel
theorem dX6_swaps_16 : decode cX6_swaps 16 = .ok (.invokevirtual 104, 3) := by decide +kernel
theorem dX6_swaps_19 : decode cX6_swaps 19 = .ok (.ifCond .eq 8, 3) := by decide +kernel
theorem dX6_swaps_22 : decode cX6_swaps 22 = .ok (.iload_n 1, 1) := by decide +kernel
theorem dX6_swaps_23 : decode cX6_swaps 23 = .ok (.iload_n 2, 1) := by decide +kernel
theorem dX6_swaps_24 : decode cX6_swaps 24 = .ok (.if_icmp .ne 5, 3) := by decide +kernel
theorem dX6_swaps_27 : decode cX6_swaps 27 = .ok (.iconst (-1), 1) := by decide +kernel
theorem dX6_swaps_28 : decode cX6_swaps 28 = .ok (.ireturn, 1) := by decide +kernel
theorem dX6_swaps_29 : decode cX6_swaps 29 = .ok (.aload_n 0, 1) := by decide +kernel
theorem dX6_swaps_30 : decode cX6_swaps 30 = .ok (.getfield 29, 3) := by decide +kernel
theorem dX6_swaps_33 : decode cX6_swaps 33 = .ok (.aload_n 0, 1) := by decide +kernel
theorem dX6_swaps_34 : decode cX6_swaps 34 = .ok (.getfield 10, 3) := by decide +kernel
theorem dX6_swaps_37 : decode cX6_swaps 37 = .ok (.invokevirtual 74, 3) := by decide +kernel
theorem dX6_swaps_40 : decode cX6_swaps 40 = .ok (.aload_n 0, 1) := by decide +kernel
theorem dX6_swaps_41 : decode cX6_swaps 41 = .ok (.getfield 10, 3) := by decide +kernel
theorem dX6_swaps_44 : decode cX6_swaps 44 = .ok (.iload_n 1, 1) := by decide +kernel
theorem dX6_swaps_45 : decode cX6_swaps 45 = .ok (.iload_n 2, 1) := by decide +kernel
theorem dX6_swaps_46 : decode cX6_swaps 46 = .ok (.invokevirtual 127, 3) := by decide +kernel
theorem dX6_swaps_49 : decode cX6_swaps 49 = .ok (.aload_n 0, 1) := by decide +kernel
theorem dX6_swaps_50 : decode cX6_swaps 50 = .ok (.iconst (-1), 1) := by decide +kernel
theorem dX6_swaps_51 : decode cX6_swaps 51 = .ok (.iconst 4, 1) := by decide +kernel
theorem dX6_swaps_52 : decode cX6_swaps 52 = .ok (.invokevirtual 131, 3) := by decide +kernel
theorem dX6_swaps_55 : decode cX6_swaps 55 = .ok (.ireturn, 1) := by decide +kernel
theorem dX6_undo_0 : decode cX6_undo 0 = .ok (.aload_n 0, 1) := by decide +kernel
theorem dX6_undo_1 : decode cX6_undo 1 = .ok (.getfield 29, 3) := by decide +kernel
theorem dX6_undo_4 : decode cX6_undo 4 = .ok (.getfield 134, 3) := by decide +kernel
theorem dX6_undo_7 : decode cX6_undo 7 = .ok (.ifCond .ne 6, 3) := by decide +kernel
theorem dX6_undo_10 : decode cX6_undo 10 = .ok (.bipush (-2), 2) := by decide +kernel
theorem dX6_undo_12 : decode cX6_undo 12 = .ok (.ireturn, 1) := by decide +kernel
theorem dX6_undo_13 : decode cX6_undo 13 = .ok (.aload_n 0, 1) := by decide +kernel
theorem dX6_undo_14 : decode cX6_undo 14 = .ok (.getfield 29, 3) := by decide +kernel
theorem dX6_undo_17 : decode cX6_undo 17 = .ok (.aload_n 0, 1) := by decide +kernel
theorem dX6_undo_18 : decode cX6_undo 18 = .ok (.getfield 10, 3) := by decide +kernel
theorem dX6_undo_21 : decode cX6_undo 21 = .ok (.invokevirtual 135, 3) := by decide +kernel
theorem dX6_undo_24 : decode cX6_undo 24 = .ok (.aload_n 0, 1) := by decide +kernel
theorem dX6_undo_25 : decode cX6_undo 25 = .ok (.getfield 29, 3) := by decide +kernel
theorem dX6_undo_28 : decode cX6_undo 28 = .ok (.getfield 134, 3) := by decide +kernel
theorem dX6_undo_31 : decode cX6_undo 31 = .ok (.ireturn, 1) := by decide +kernel
theorem dX6_cell_0 : decode cX6_cell 0 = .ok (.aload_n 0, 1) := by decide +kernel
theorem dX6_cell_1 : decode cX6_cell 1 = .ok (.getfield 10, 3) := by decide +kernel
theorem dX6_cell_4 : decode cX6_cell 4 = .ok (.iload_n 1, 1) := by decide +kernel
theorem dX6_cell_5 : decode cX6_cell 5 = .ok (.iload_n 2, 1) := by decide +kernel
theorem dX6_cell_6 : decode cX6_cell 6 = .ok (.invokevirtual 107, 3) := by decide +kernel
theorem dX6_cell_9 : decode cX6_cell 9 = .ok (.ifCond .ne 5, 3) := by decide +kernel
theorem dX6_cell_12 : decode cX6_cell 12 = .ok (.iconst (-1), 1) := by decide +kernel
theorem dX6_cell_13 : decode cX6_cell 13 = .ok (.ireturn, 1) := by decide +kernel
theorem dX6_cell_14 : decode cX6_cell 14 = .ok (.iload_n 3, 1) := by decide +kernel
theorem dX6_cell_15 : decode cX6_cell 15 = .ok (.tableswitch 71 0 2 #[25, 38, 61], 25) := by decide +kernel
theorem dX6_cell_40 : decode cX6_cell 40 = .ok (.aload_n 0, 1) := by decide +kernel
theorem dX6_cell_41 : decode cX6_cell 41 = .ok (.getfield 10, 3) := by decide +kernel
theorem dX6_cell_44 : decode cX6_cell 44 = .ok (.getfield 138, 3) := by decide +kernel
theorem dX6_cell_47 : decode cX6_cell 47 = .ok (.iload_n 1, 1) := by decide +kernel
theorem dX6_cell_48 : decode cX6_cell 48 = .ok (.iload_n 2, 1) := by decide +kernel
theorem dX6_cell_49 : decode cX6_cell 49 = .ok (.invokevirtual 141, 3) := by decide +kernel
theorem dX6_cell_52 : decode cX6_cell 52 = .ok (.ireturn, 1) := by decide +kernel
theorem dX6_cell_53 : decode cX6_cell 53 = .ok (.aload_n 0, 1) := by decide +kernel
theorem dX6_cell_54 : decode cX6_cell 54 = .ok (.getfield 10, 3) := by decide +kernel
theorem dX6_cell_57 : decode cX6_cell 57 = .ok (.aload_n 0, 1) := by decide +kernel
theorem dX6_cell_58 : decode cX6_cell 58 = .ok (.getfield 58, 3) := by decide +kernel
theorem dX6_cell_61 : decode cX6_cell 61 = .ok (.iconst (-1), 1) := by decide +kernel
theorem dX6_cell_62 : decode cX6_cell 62 = .ok (.iconst 4, 1) := by decide +kernel
theorem dX6_cell_63 : decode cX6_cell 63 = .ok (.invokevirtual 144, 3) := by decide +kernel
theorem dX6_cell_66 : decode cX6_cell 66 = .ok (.aload_n 0, 1) := by decide +kernel
theorem dX6_cell_67 : decode cX6_cell 67 = .ok (.getfield 58, 3) := by decide +kernel
theorem dX6_cell_70 : decode cX6_cell 70 = .ok (.iload_n 1, 1) := by decide +kernel
theorem dX6_cell_71 : decode cX6_cell 71 = .ok (.iload_n 2, 1) := by decide +kernel
theorem dX6_cell_72 : decode cX6_cell 72 = .ok (.invokevirtual 141, 3) := by decide +kernel
theorem dX6_cell_75 : decode cX6_cell 75 = .ok (.ireturn, 1) := by decide +kernel
theorem dX6_cell_76 : decode cX6_cell 76 = .ok (.aload_n 0, 1) := by decide +kernel
theorem dX6_cell_77 : decode cX6_cell 77 = .ok (.getfield 10, 3) := by decide +kernel
theorem dX6_cell_80 : decode cX6_cell 80 = .ok (.iload_n 1, 1) := by decide +kernel
theorem dX6_cell_81 : decode cX6_cell 81 = .ok (.iload_n 2, 1) := by decide +kernel
theorem dX6_cell_82 : decode cX6_cell 82 = .ok (.invokevirtual 148, 3) := by decide +kernel
theorem dX6_cell_85 : decode cX6_cell 85 = .ok (.ireturn, 1) := by decide +kernel
theorem dX6_cell_86 : decode cX6_cell 86 = .ok (.iconst (-1), 1) := by decide +kernel
theorem dX6_cell_87 : decode cX6_cell 87 = .ok (.ireturn, 1) := by decide +kernel
theorem dX6_ink_0 : decode cX6_ink 0 = .ok (.aload_n 0, 1) := by decide +kernel
theorem dX6_ink_1 : decode cX6_ink 1 = .ok (.getfield 10, 3) := by decide +kernel
theorem dX6_ink_4 : decode cX6_ink 4 = .ok (.iload_n 1, 1) := by decide +kernel
theorem dX6_ink_5 : decode cX6_ink 5 = .ok (.invokevirtual 104, 3) := by decide +kernel
theorem dX6_ink_8 : decode cX6_ink 8 = .ok (.ifCond .ne 6, 3) := by decide +kernel
theorem dX6_ink_11 : decode cX6_ink 11 = .ok (.ldc 151, 2) := by decide +kernel
theorem dX6_ink_13 : decode cX6_ink 13 = .ok (.ireturn, 1) := by decide +kernel
theorem dX6_ink_14 : decode cX6_ink 14 = .ok (.iload_n 2, 1) := by decide +kernel
theorem dX6_ink_15 : decode cX6_ink 15 = .ok (.tableswitch 112 0 5 #[37, 47, 64, 73, 86, 99], 37) := by decide +kernel
theorem dX6_ink_52 : decode cX6_ink 52 = .ok (.aload_n 0, 1) := by decide +kernel
theorem dX6_ink_53 : decode cX6_ink 53 = .ok (.getfield 10, 3) := by decide +kernel
theorem dX6_ink_56 : decode cX6_ink 56 = .ok (.getfield 152, 3) := by decide +kernel
theorem dX6_ink_59 : decode cX6_ink 59 = .ok (.iload_n 1, 1) := by decide +kernel
theorem dX6_ink_60 : decode cX6_ink 60 = .ok (.iaload, 1) := by decide +kernel
theorem dX6_ink_61 : decode cX6_ink 61 = .ok (.ireturn, 1) := by decide +kernel
theorem dX6_ink_62 : decode cX6_ink 62 = .ok (.aload_n 0, 1) := by decide +kernel
theorem dX6_ink_63 : decode cX6_ink 63 = .ok (.getfield 10, 3) := by decide +kernel
theorem dX6_ink_66 : decode cX6_ink 66 = .ok (.iload_n 1, 1) := by decide +kernel
theorem dX6_ink_67 : decode cX6_ink 67 = .ok (.invokevirtual 155, 3) := by decide +kernel
theorem dX6_ink_70 : decode cX6_ink 70 = .ok (.ifCond .eq 7, 3) := by decide +kernel
theorem dX6_ink_73 : decode cX6_ink 73 = .ok (.iconst 1, 1) := by decide +kernel
theorem dX6_ink_74 : decode cX6_ink 74 = .ok (.goto 4, 3) := by decide +kernel
theorem dX6_ink_77 : decode cX6_ink 77 = .ok (.iconst 0, 1) := by decide +kernel
theorem dX6_ink_78 : decode cX6_ink 78 = .ok (.ireturn, 1) := by decide +kernel
theorem dX6_ink_79 : decode cX6_ink 79 = .ok (.aload_n 0, 1) := by decide +kernel
theorem dX6_ink_80 : decode cX6_ink 80 = .ok (.getfield 10, 3) := by decide +kernel
theorem dX6_ink_83 : decode cX6_ink 83 = .ok (.iload_n 1, 1) := by decide +kernel
theorem dX6_ink_84 : decode cX6_ink 84 = .ok (.invokevirtual 158, 3) := by decide +kernel
theorem dX6_ink_87 : decode cX6_ink 87 = .ok (.ireturn, 1) := by decide +kernel
theorem dX6_ink_88 : decode cX6_ink 88 = .ok (.aload_n 0, 1) := by decide +kernel
theorem dX6_ink_89 : decode cX6_ink 89 = .ok (.getfield 10, 3) := by decide +kernel
theorem dX6_ink_92 : decode cX6_ink 92 = .ok (.getfield 111, 3) := by decide +kernel
theorem dX6_ink_95 : decode cX6_ink 95 = .ok (.iload_n 1, 1) := by decide +kernel
theorem dX6_ink_96 : decode cX6_ink 96 = .ok (.laload, 1) := by decide +kernel
theorem dX6_ink_97 : decode cX6_ink 97 = .ok (.invokestatic 161, 3) := by decide +kernel
theorem dX6_ink_100 : decode cX6_ink 100 = .ok (.ireturn, 1) := by decide +kernel
theorem dX6_ink_101 : decode cX6_ink 101 = .ok (.aload_n 0, 1) := by decide +kernel
theorem dX6_ink_102 : decode cX6_ink 102 = .ok (.getfield 10, 3) := by decide +kernel
theorem dX6_ink_105 : decode cX6_ink 105 = .ok (.getfield 123, 3) := by decide +kernel
theorem dX6_ink_108 : decode cX6_ink 108 = .ok (.iload_n 1, 1) := by decide +kernel
theorem dX6_ink_109 : decode cX6_ink 109 = .ok (.iaload, 1) := by decide +kernel
theorem dX6_ink_110 : decode cX6_ink 110 = .ok (.invokestatic 166, 3) := by decide +kernel
theorem dX6_ink_113 : decode cX6_ink 113 = .ok (.ireturn, 1) := by decide +kernel
theorem dX6_ink_114 : decode cX6_ink 114 = .ok (.aload_n 0, 1) := by decide +kernel
theorem dX6_ink_115 : decode cX6_ink 115 = .ok (.getfield 10, 3) := by decide +kernel
theorem dX6_ink_118 : decode cX6_ink 118 = .ok (.getfield 123, 3) := by decide +kernel
theorem dX6_ink_121 : decode cX6_ink 121 = .ok (.iload_n 1, 1) := by decide +kernel
theorem dX6_ink_122 : decode cX6_ink 122 = .ok (.iaload, 1) := by decide +kernel
theorem dX6_ink_123 : decode cX6_ink 123 = .ok (.invokestatic 169, 3) := by decide +kernel
theorem dX6_ink_126 : decode cX6_ink 126 = .ok (.ireturn, 1) := by decide +kernel
theorem dX6_ink_127 : decode cX6_ink 127 = .ok (.ldc 151, 2) := by decide +kernel
theorem dX6_ink_129 : decode cX6_ink 129 = .ok (.ireturn, 1) := by decide +kernel
theorem dX6_made_0 : decode cX6_made 0 = .ok (.iload_n 1, 1) := by decide +kernel
theorem dX6_made_1 : decode cX6_made 1 = .ok (.ifCond .lt 14, 3) := by decide +kernel
theorem dX6_made_4 : decode cX6_made 4 = .ok (.iload_n 1, 1) := by decide +kernel
theorem dX6_made_5 : decode cX6_made 5 = .ok (.aload_n 0, 1) := by decide +kernel
theorem dX6_made_6 : decode cX6_made 6 = .ok (.getfield 10, 3) := by decide +kernel
theorem dX6_made_9 : decode cX6_made 9 = .ok (.invokevirtual 172, 3) := by decide +kernel
theorem dX6_made_12 : decode cX6_made 12 = .ok (.if_icmp .lt 5, 3) := by decide +kernel
theorem dX6_made_15 : decode cX6_made 15 = .ok (.iconst (-1), 1) := by decide +kernel
theorem dX6_made_16 : decode cX6_made 16 = .ok (.ireturn, 1) := by decide +kernel
theorem dX6_made_17 : decode cX6_made 17 = .ok (.aload_n 0, 1) := by decide +kernel
theorem dX6_made_18 : decode cX6_made 18 = .ok (.getfield 10, 3) := by decide +kernel
theorem dX6_made_21 : decode cX6_made 21 = .ok (.iload_n 1, 1) := by decide +kernel
theorem dX6_made_22 : decode cX6_made 22 = .ok (.invokevirtual 175, 3) := by decide +kernel
theorem dX6_made_25 : decode cX6_made 25 = .ok (.ireturn, 1) := by decide +kernel
theorem dX6_least_0 : decode cX6_least 0 = .ok (.iload_n 1, 1) := by decide +kernel
theorem dX6_least_1 : decode cX6_least 1 = .ok (.ifCond .lt 8, 3) := by decide +kernel
theorem dX6_least_4 : decode cX6_least 4 = .ok (.iload_n 1, 1) := by decide +kernel
theorem dX6_least_5 : decode cX6_least 5 = .ok (.iconst 1, 1) := by decide +kernel
theorem dX6_least_6 : decode cX6_least 6 = .ok (.if_icmp .le 5, 3) := by decide +kernel
theorem dX6_least_9 : decode cX6_least 9 = .ok (.iconst (-1), 1) := by decide +kernel
theorem dX6_least_10 : decode cX6_least 10 = .ok (.ireturn, 1) := by decide +kernel
theorem dX6_least_11 : decode cX6_least 11 = .ok (.aload_n 0, 1) := by decide +kernel
theorem dX6_least_12 : decode cX6_least 12 = .ok (.getfield 10, 3) := by decide +kernel
theorem dX6_least_15 : decode cX6_least 15 = .ok (.invokevirtual 90, 3) := by decide +kernel
theorem dX6_least_18 : decode cX6_least 18 = .ok (.istore_n 2, 1) := by decide +kernel
theorem dX6_least_19 : decode cX6_least 19 = .ok (.iload_n 2, 1) := by decide +kernel
theorem dX6_least_20 : decode cX6_least 20 = .ok (.bipush (-9), 2) := by decide +kernel
theorem dX6_least_22 : decode cX6_least 22 = .ok (.if_icmp .eq 8, 3) := by decide +kernel
theorem dX6_least_25 : decode cX6_least 25 = .ok (.iload_n 1, 1) := by decide +kernel
theorem dX6_least_26 : decode cX6_least 26 = .ok (.iconst 1, 1) := by decide +kernel
theorem dX6_least_27 : decode cX6_least 27 = .ok (.if_icmp .ne 5, 3) := by decide +kernel
theorem dX6_least_30 : decode cX6_least 30 = .ok (.iload_n 2, 1) := by decide +kernel
theorem dX6_least_31 : decode cX6_least 31 = .ok (.ireturn, 1) := by decide +kernel
theorem dX6_least_32 : decode cX6_least 32 = .ok (.iload_n 2, 1) := by decide +kernel
theorem dX6_least_33 : decode cX6_least 33 = .ok (.invokestatic 98, 3) := by decide +kernel
theorem dX6_least_36 : decode cX6_least 36 = .ok (.ireturn, 1) := by decide +kernel
theorem dX6_order_0 : decode cX6_order 0 = .ok (.iload_n 1, 1) := by decide +kernel
theorem dX6_order_1 : decode cX6_order 1 = .ok (.iconst (-1), 1) := by decide +kernel
theorem dX6_order_2 : decode cX6_order 2 = .ok (.if_icmp .ge 5, 3) := by decide +kernel
theorem dX6_order_5 : decode cX6_order 5 = .ok (.iconst (-1), 1) := by decide +kernel
theorem dX6_order_6 : decode cX6_order 6 = .ok (.ireturn, 1) := by decide +kernel
theorem dX6_order_7 : decode cX6_order 7 = .ok (.iload_n 1, 1) := by decide +kernel
theorem dX6_order_8 : decode cX6_order 8 = .ok (.aload_n 0, 1) := by decide +kernel
theorem dX6_order_9 : decode cX6_order 9 = .ok (.getfield 10, 3) := by decide +kernel
theorem dX6_order_12 : decode cX6_order 12 = .ok (.getfield 84, 3) := by decide +kernel
theorem dX6_order_15 : decode cX6_order 15 = .ok (.if_icmp .lt 6, 3) := by decide +kernel
theorem dX6_order_18 : decode cX6_order 18 = .ok (.bipush (-9), 2) := by decide +kernel
theorem dX6_order_20 : decode cX6_order 20 = .ok (.ireturn, 1) := by decide +kernel
theorem dX6_order_21 : decode cX6_order 21 = .ok (.aload_n 0, 1) := by decide +kernel
theorem dX6_order_22 : decode cX6_order 22 = .ok (.getfield 51, 3) := by decide +kernel
theorem dX6_order_25 : decode cX6_order 25 = .ok (.aload_n 0, 1) := by decide +kernel
theorem dX6_order_26 : decode cX6_order 26 = .ok (.getfield 10, 3) := by decide +kernel
theorem dX6_order_29 : decode cX6_order 29 = .ok (.invokevirtual 178, 3) := by decide +kernel
theorem dX6_order_32 : decode cX6_order 32 = .ok (.aload_n 0, 1) := by decide +kernel
theorem dX6_order_33 : decode cX6_order 33 = .ok (.getfield 51, 3) := by decide +kernel
theorem dX6_order_36 : decode cX6_order 36 = .ok (.getfield 181, 3) := by decide +kernel
theorem dX6_order_39 : decode cX6_order 39 = .ok (.ifCond .ne 6, 3) := by decide +kernel
theorem dX6_order_42 : decode cX6_order 42 = .ok (.bipush (-9), 2) := by decide +kernel
theorem dX6_order_44 : decode cX6_order 44 = .ok (.ireturn, 1) := by decide +kernel
theorem dX6_order_45 : decode cX6_order 45 = .ok (.iload_n 1, 1) := by decide +kernel
theorem dX6_order_46 : decode cX6_order 46 = .ok (.iconst (-1), 1) := by decide +kernel
theorem dX6_order_47 : decode cX6_order 47 = .ok (.if_icmp .ne 13, 3) := by decide +kernel
theorem dX6_order_50 : decode cX6_order 50 = .ok (.aload_n 0, 1) := by decide +kernel
theorem dX6_order_51 : decode cX6_order 51 = .ok (.getfield 51, 3) := by decide +kernel
theorem dX6_order_54 : decode cX6_order 54 = .ok (.getfield 185, 3) := by decide +kernel
theorem dX6_order_57 : decode cX6_order 57 = .ok (.goto 18, 3) := by decide +kernel
theorem dX6_order_60 : decode cX6_order 60 = .ok (.aload_n 0, 1) := by decide +kernel
theorem dX6_order_61 : decode cX6_order 61 = .ok (.getfield 51, 3) := by decide +kernel
theorem dX6_order_64 : decode cX6_order 64 = .ok (.iload_n 1, 1) := by decide +kernel
theorem dX6_order_65 : decode cX6_order 65 = .ok (.aload_n 0, 1) := by decide +kernel
theorem dX6_order_66 : decode cX6_order 66 = .ok (.getfield 10, 3) := by decide +kernel
theorem dX6_order_69 : decode cX6_order 69 = .ok (.getfield 84, 3) := by decide +kernel
theorem dX6_order_72 : decode cX6_order 72 = .ok (.invokevirtual 188, 3) := by decide +kernel
theorem dX6_order_75 : decode cX6_order 75 = .ok (.ireturn, 1) := by decide +kernel
theorem dX6_wrong_0 : decode cX6_wrong 0 = .ok (.aload_n 0, 1) := by decide +kernel
theorem dX6_wrong_1 : decode cX6_wrong 1 = .ok (.iconst (-1), 1) := by decide +kernel
theorem dX6_wrong_2 : decode cX6_wrong 2 = .ok (.iconst 4, 1) := by decide +kernel
theorem dX6_wrong_3 : decode cX6_wrong 3 = .ok (.invokevirtual 131, 3) := by decide +kernel
theorem dX6_wrong_6 : decode cX6_wrong 6 = .ok (.ireturn, 1) := by decide +kernel
theorem dX6_hurt_0 : decode cX6_hurt 0 = .ok (.aload_n 0, 1) := by decide +kernel
theorem dX6_hurt_1 : decode cX6_hurt 1 = .ok (.getfield 10, 3) := by decide +kernel
theorem dX6_hurt_4 : decode cX6_hurt 4 = .ok (.iload_n 1, 1) := by decide +kernel
theorem dX6_hurt_5 : decode cX6_hurt 5 = .ok (.invokevirtual 104, 3) := by decide +kernel
theorem dX6_hurt_8 : decode cX6_hurt 8 = .ok (.ifCond .ne 6, 3) := by decide +kernel
theorem dX6_hurt_11 : decode cX6_hurt 11 = .ok (.ldc 151, 2) := by decide +kernel
theorem dX6_hurt_13 : decode cX6_hurt 13 = .ok (.ireturn, 1) := by decide +kernel
theorem dX6_hurt_14 : decode cX6_hurt 14 = .ok (.aload_n 0, 1) := by decide +kernel
theorem dX6_hurt_15 : decode cX6_hurt 15 = .ok (.getfield 10, 3) := by decide +kernel
theorem dX6_hurt_18 : decode cX6_hurt 18 = .ok (.getfield 123, 3) := by decide +kernel
theorem dX6_hurt_21 : decode cX6_hurt 21 = .ok (.iload_n 1, 1) := by decide +kernel
theorem dX6_hurt_22 : decode cX6_hurt 22 = .ok (.iaload, 1) := by decide +kernel
theorem dX6_hurt_23 : decode cX6_hurt 23 = .ok (.invokestatic 166, 3) := by decide +kernel
theorem dX6_hurt_26 : decode cX6_hurt 26 = .ok (.istore_n 2, 1) := by decide +kernel
theorem dX6_hurt_27 : decode cX6_hurt 27 = .ok (.iload_n 2, 1) := by decide +kernel
theorem dX6_hurt_28 : decode cX6_hurt 28 = .ok (.iconst 1, 1) := by decide +kernel
theorem dX6_hurt_29 : decode cX6_hurt 29 = .ok (.if_icmp .ne 7, 3) := by decide +kernel
theorem dX6_hurt_32 : decode cX6_hurt 32 = .ok (.iconst 0, 1) := by decide +kernel
theorem dX6_hurt_33 : decode cX6_hurt 33 = .ok (.goto 6, 3) := by decide +kernel
theorem dX6_hurt_36 : decode cX6_hurt 36 = .ok (.iload_n 2, 1) := by decide +kernel
theorem dX6_hurt_37 : decode cX6_hurt 37 = .ok (.iconst 1, 1) := by decide +kernel
theorem dX6_hurt_38 : decode cX6_hurt 38 = .ok (.iadd, 1) := by decide +kernel
theorem dX6_hurt_39 : decode cX6_hurt 39 = .ok (.aload_n 0, 1) := by decide +kernel
theorem dX6_hurt_40 : decode cX6_hurt 40 = .ok (.getfield 10, 3) := by decide +kernel
theorem dX6_hurt_43 : decode cX6_hurt 43 = .ok (.getfield 123, 3) := by decide +kernel
theorem dX6_hurt_46 : decode cX6_hurt 46 = .ok (.iload_n 1, 1) := by decide +kernel
theorem dX6_hurt_47 : decode cX6_hurt 47 = .ok (.iaload, 1) := by decide +kernel
theorem dX6_hurt_48 : decode cX6_hurt 48 = .ok (.invokestatic 169, 3) := by decide +kernel
theorem dX6_hurt_51 : decode cX6_hurt 51 = .ok (.invokestatic 119, 3) := by decide +kernel
theorem dX6_hurt_54 : decode cX6_hurt 54 = .ok (.istore_n 3, 1) := by decide +kernel
theorem dX6_hurt_55 : decode cX6_hurt 55 = .ok (.aload_n 0, 1) := by decide +kernel
theorem dX6_hurt_56 : decode cX6_hurt 56 = .ok (.iload_n 1, 1) := by decide +kernel
theorem dX6_hurt_57 : decode cX6_hurt 57 = .ok (.iload_n 3, 1) := by decide +kernel
theorem dX6_hurt_58 : decode cX6_hurt 58 = .ok (.invokevirtual 131, 3) := by decide +kernel
theorem dX6_hurt_61 : decode cX6_hurt 61 = .ok (.aload_n 0, 1) := by decide +kernel
theorem dX6_hurt_62 : decode cX6_hurt 62 = .ok (.iconst (-1), 1) := by decide +kernel
theorem dX6_hurt_63 : decode cX6_hurt 63 = .ok (.iconst 4, 1) := by decide +kernel
theorem dX6_hurt_64 : decode cX6_hurt 64 = .ok (.invokevirtual 131, 3) := by decide +kernel
theorem dX6_hurt_67 : decode cX6_hurt 67 = .ok (.isub, 1) := by decide +kernel
theorem dX6_hurt_68 : decode cX6_hurt 68 = .ok (.ireturn, 1) := by decide +kernel
theorem dX6_sees_0 : decode cX6_sees 0 = .ok (.iload_n 1, 1) := by decide +kernel
theorem dX6_sees_1 : decode cX6_sees 1 = .ok (.iload_n 2, 1) := by decide +kernel
theorem dX6_sees_2 : decode cX6_sees 2 = .ok (.invokestatic 191, 3) := by decide +kernel
theorem dX6_sees_5 : decode cX6_sees 5 = .ok (.ifCond .eq 13, 3) := by decide +kernel
theorem dX6_sees_8 : decode cX6_sees 8 = .ok (.iload_n 3, 1) := by decide +kernel
theorem dX6_sees_9 : decode cX6_sees 9 = .ok (.ifCond .lt 9, 3) := by decide +kernel
theorem dX6_sees_12 : decode cX6_sees 12 = .ok (.iload_n 3, 1) := by decide +kernel
theorem dX6_sees_13 : decode cX6_sees 13 = .ok (.bipush 8, 2) := by decide +kernel
theorem dX6_sees_15 : decode cX6_sees 15 = .ok (.if_icmp .lt 5, 3) := by decide +kernel
theorem dX6_sees_18 : decode cX6_sees 18 = .ok (.iconst (-1), 1) := by decide +kernel
theorem dX6_sees_19 : decode cX6_sees 19 = .ok (.ireturn, 1) := by decide +kernel
theorem dX6_sees_20 : decode cX6_sees 20 = .ok (.aload_n 0, 1) := by decide +kernel
theorem dX6_sees_21 : decode cX6_sees 21 = .ok (.getfield 44, 3) := by decide +kernel
theorem dX6_sees_24 : decode cX6_sees 24 = .ok (.iload_n 1, 1) := by decide +kernel
theorem dX6_sees_25 : decode cX6_sees 25 = .ok (.iload_n 2, 1) := by decide +kernel
theorem dX6_sees_26 : decode cX6_sees 26 = .ok (.iload_n 3, 1) := by decide +kernel
theorem dX6_sees_27 : decode cX6_sees 27 = .ok (.invokevirtual 194, 3) := by decide +kernel
theorem dX6_sees_30 : decode cX6_sees 30 = .ok (.ifCond .eq 13, 3) := by decide +kernel
theorem dX6_sees_33 : decode cX6_sees 33 = .ok (.aload_n 0, 1) := by decide +kernel
theorem dX6_sees_34 : decode cX6_sees 34 = .ok (.getfield 44, 3) := by decide +kernel
theorem dX6_sees_37 : decode cX6_sees 37 = .ok (.getfield 81, 3) := by decide +kernel
theorem dX6_sees_40 : decode cX6_sees 40 = .ok (.goto 5, 3) := by decide +kernel
theorem dX6_sees_43 : decode cX6_sees 43 = .ok (.bipush (-3), 2) := by decide +kernel
theorem dX6_sees_45 : decode cX6_sees 45 = .ok (.ireturn, 1) := by decide +kernel
theorem dX6_forget_0 : decode cX6_forget 0 = .ok (.aload_n 0, 1) := by decide +kernel
theorem dX6_forget_1 : decode cX6_forget 1 = .ok (.getfield 44, 3) := by decide +kernel
theorem dX6_forget_4 : decode cX6_forget 4 = .ok (.getfield 81, 3) := by decide +kernel
theorem dX6_forget_7 : decode cX6_forget 7 = .ok (.istore_n 1, 1) := by decide +kernel
theorem dX6_forget_8 : decode cX6_forget 8 = .ok (.aload_n 0, 1) := by decide +kernel
theorem dX6_forget_9 : decode cX6_forget 9 = .ok (.getfield 44, 3) := by decide +kernel
theorem dX6_forget_12 : decode cX6_forget 12 = .ok (.iconst 0, 1) := by decide +kernel
theorem dX6_forget_13 : decode cX6_forget 13 = .ok (.putfield 81, 3) := by decide +kernel
theorem dX6_forget_16 : decode cX6_forget 16 = .ok (.iload_n 1, 1) := by decide +kernel
theorem dX6_forget_17 : decode cX6_forget 17 = .ok (.ireturn, 1) := by decide +kernel
theorem dX6_which_0 : decode cX6_which 0 = .ok (.iload_n 1, 1) := by decide +kernel
theorem dX6_which_1 : decode cX6_which 1 = .ok (.lookupswitch 51 #[(0, 27), (1, 39)], 27) := by decide +kernel
theorem dX6_which_28 : decode cX6_which 28 = .ok (.aload_n 0, 1) := by decide +kernel
theorem dX6_which_29 : decode cX6_which 29 = .ok (.getfield 44, 3) := by decide +kernel
theorem dX6_which_32 : decode cX6_which 32 = .ok (.aload_n 0, 1) := by decide +kernel
theorem dX6_which_33 : decode cX6_which 33 = .ok (.getfield 10, 3) := by decide +kernel
theorem dX6_which_36 : decode cX6_which 36 = .ok (.invokevirtual 198, 3) := by decide +kernel
theorem dX6_which_39 : decode cX6_which 39 = .ok (.ireturn, 1) := by decide +kernel
theorem dX6_which_40 : decode cX6_which 40 = .ok (.aload_n 0, 1) := by decide +kernel
theorem dX6_which_41 : decode cX6_which 41 = .ok (.getfield 44, 3) := by decide +kernel
theorem dX6_which_44 : decode cX6_which 44 = .ok (.aload_n 0, 1) := by decide +kernel
theorem dX6_which_45 : decode cX6_which 45 = .ok (.getfield 10, 3) := by decide +kernel
theorem dX6_which_48 : decode cX6_which 48 = .ok (.invokevirtual 201, 3) := by decide +kernel
theorem dX6_which_51 : decode cX6_which 51 = .ok (.ireturn, 1) := by decide +kernel
theorem dX6_which_52 : decode cX6_which 52 = .ok (.ldc 151, 2) := by decide +kernel
theorem dX6_which_54 : decode cX6_which 54 = .ok (.ireturn, 1) := by decide +kernel
theorem dX6_ask_0 : decode cX6_ask 0 = .ok (.aload_n 0, 1) := by decide +kernel
theorem dX6_ask_1 : decode cX6_ask 1 = .ok (.getfield 44, 3) := by decide +kernel
theorem dX6_ask_4 : decode cX6_ask 4 = .ok (.aload_n 0, 1) := by decide +kernel
theorem dX6_ask_5 : decode cX6_ask 5 = .ok (.getfield 10, 3) := by decide +kernel
theorem dX6_ask_8 : decode cX6_ask 8 = .ok (.invokevirtual 204, 3) := by decide +kernel
theorem dX6_ask_11 : decode cX6_ask 11 = .ok (.ireturn, 1) := by decide +kernel
theorem dX6_keep_0 : decode cX6_keep 0 = .ok (.iload_n 1, 1) := by decide +kernel
theorem dX6_keep_1 : decode cX6_keep 1 = .ok (.ifCond .lt 8, 3) := by decide +kernel
theorem dX6_keep_4 : decode cX6_keep 4 = .ok (.iload_n 1, 1) := by decide +kernel
theorem dX6_keep_5 : decode cX6_keep 5 = .ok (.iconst 2, 1) := by decide +kernel
theorem dX6_keep_6 : decode cX6_keep 6 = .ok (.if_icmp .lt 5, 3) := by decide +kernel
theorem dX6_keep_9 : decode cX6_keep 9 = .ok (.iconst (-1), 1) := by decide +kernel
theorem dX6_keep_10 : decode cX6_keep 10 = .ok (.ireturn, 1) := by decide +kernel
theorem dX6_keep_11 : decode cX6_keep 11 = .ok (.aload_n 0, 1) := by decide +kernel
theorem dX6_keep_12 : decode cX6_keep 12 = .ok (.getfield 33, 3) := by decide +kernel
theorem dX6_keep_15 : decode cX6_keep 15 = .ok (.iload_n 1, 1) := by decide +kernel
theorem dX6_keep_16 : decode cX6_keep 16 = .ok (.aaload, 1) := by decide +kernel
theorem dX6_keep_17 : decode cX6_keep 17 = .ok (.aload_n 0, 1) := by decide +kernel
theorem dX6_keep_18 : decode cX6_keep 18 = .ok (.getfield 10, 3) := by decide +kernel
theorem dX6_keep_21 : decode cX6_keep 21 = .ok (.invokevirtual 78, 3) := by decide +kernel
theorem dX6_keep_24 : decode cX6_keep 24 = .ok (.aload_n 0, 1) := by decide +kernel
theorem dX6_keep_25 : decode cX6_keep 25 = .ok (.getfield 37, 3) := by decide +kernel
theorem dX6_keep_28 : decode cX6_keep 28 = .ok (.iload_n 1, 1) := by decide +kernel
theorem dX6_keep_29 : decode cX6_keep 29 = .ok (.iconst 1, 1) := by decide +kernel
theorem dX6_keep_30 : decode cX6_keep 30 = .ok (.bastore, 1) := by decide +kernel
theorem dX6_keep_31 : decode cX6_keep 31 = .ok (.aload_n 0, 1) := by decide +kernel
theorem dX6_keep_32 : decode cX6_keep 32 = .ok (.getfield 10, 3) := by decide +kernel
theorem dX6_keep_35 : decode cX6_keep 35 = .ok (.getfield 84, 3) := by decide +kernel
theorem dX6_keep_38 : decode cX6_keep 38 = .ok (.ireturn, 1) := by decide +kernel
theorem dX6_back_0 : decode cX6_back 0 = .ok (.iload_n 1, 1) := by decide +kernel
theorem dX6_back_1 : decode cX6_back 1 = .ok (.ifCond .lt 8, 3) := by decide +kernel
theorem dX6_back_4 : decode cX6_back 4 = .ok (.iload_n 1, 1) := by decide +kernel
theorem dX6_back_5 : decode cX6_back 5 = .ok (.iconst 2, 1) := by decide +kernel
theorem dX6_back_6 : decode cX6_back 6 = .ok (.if_icmp .lt 5, 3) := by decide +kernel
theorem dX6_back_9 : decode cX6_back 9 = .ok (.iconst (-1), 1) := by decide +kernel
theorem dX6_back_10 : decode cX6_back 10 = .ok (.ireturn, 1) := by decide +kernel
theorem dX6_back_11 : decode cX6_back 11 = .ok (.aload_n 0, 1) := by decide +kernel
theorem dX6_back_12 : decode cX6_back 12 = .ok (.getfield 37, 3) := by decide +kernel
theorem dX6_back_15 : decode cX6_back 15 = .ok (.iload_n 1, 1) := by decide +kernel
theorem dX6_back_16 : decode cX6_back 16 = .ok (.baload, 1) := by decide +kernel
theorem dX6_back_17 : decode cX6_back 17 = .ok (.ifCond .ne 6, 3) := by decide +kernel
theorem dX6_back_20 : decode cX6_back 20 = .ok (.bipush (-2), 2) := by decide +kernel
theorem dX6_back_22 : decode cX6_back 22 = .ok (.ireturn, 1) := by decide +kernel
theorem dX6_back_23 : decode cX6_back 23 = .ok (.aload_n 0, 1) := by decide +kernel
theorem dX6_back_24 : decode cX6_back 24 = .ok (.getfield 10, 3) := by decide +kernel
theorem dX6_back_27 : decode cX6_back 27 = .ok (.aload_n 0, 1) := by decide +kernel
theorem dX6_back_28 : decode cX6_back 28 = .ok (.getfield 33, 3) := by decide +kernel
theorem dX6_back_31 : decode cX6_back 31 = .ok (.iload_n 1, 1) := by decide +kernel
theorem dX6_back_32 : decode cX6_back 32 = .ok (.aaload, 1) := by decide +kernel
theorem dX6_back_33 : decode cX6_back 33 = .ok (.invokevirtual 78, 3) := by decide +kernel
theorem dX6_back_36 : decode cX6_back 36 = .ok (.aload_n 0, 1) := by decide +kernel
theorem dX6_back_37 : decode cX6_back 37 = .ok (.getfield 29, 3) := by decide +kernel
theorem dX6_back_40 : decode cX6_back 40 = .ok (.iconst 0, 1) := by decide +kernel
theorem dX6_back_41 : decode cX6_back 41 = .ok (.putfield 134, 3) := by decide +kernel
theorem dX6_back_44 : decode cX6_back 44 = .ok (.aload_n 0, 1) := by decide +kernel
theorem dX6_back_45 : decode cX6_back 45 = .ok (.getfield 10, 3) := by decide +kernel
theorem dX6_back_48 : decode cX6_back 48 = .ok (.getfield 84, 3) := by decide +kernel
theorem dX6_back_51 : decode cX6_back 51 = .ok (.ireturn, 1) := by decide +kernel
theorem dX6_count_0 : decode cX6_count 0 = .ok (.iload_n 1, 1) := by decide +kernel
theorem dX6_count_1 : decode cX6_count 1 = .ok (.tableswitch 123 0 8 #[51, 59, 67, 75, 83, 91, 99, 107, 115], 51) := by decide +kernel
theorem dX6_count_52 : decode cX6_count 52 = .ok (.aload_n 0, 1) := by decide +kernel
theorem dX6_count_53 : decode cX6_count 53 = .ok (.getfield 10, 3) := by decide +kernel
theorem dX6_count_56 : decode cX6_count 56 = .ok (.getfield 207, 3) := by decide +kernel
theorem dX6_count_59 : decode cX6_count 59 = .ok (.ireturn, 1) := by decide +kernel
theorem dX6_count_60 : decode cX6_count 60 = .ok (.aload_n 0, 1) := by decide +kernel
theorem dX6_count_61 : decode cX6_count 61 = .ok (.getfield 10, 3) := by decide +kernel
theorem dX6_count_64 : decode cX6_count 64 = .ok (.getfield 87, 3) := by decide +kernel
theorem dX6_count_67 : decode cX6_count 67 = .ok (.ireturn, 1) := by decide +kernel
theorem dX6_count_68 : decode cX6_count 68 = .ok (.aload_n 0, 1) := by decide +kernel
theorem dX6_count_69 : decode cX6_count 69 = .ok (.getfield 10, 3) := by decide +kernel
theorem dX6_count_72 : decode cX6_count 72 = .ok (.getfield 84, 3) := by decide +kernel
theorem dX6_count_75 : decode cX6_count 75 = .ok (.ireturn, 1) := by decide +kernel
theorem dX6_count_76 : decode cX6_count 76 = .ok (.aload_n 0, 1) := by decide +kernel
theorem dX6_count_77 : decode cX6_count 77 = .ok (.getfield 10, 3) := by decide +kernel
theorem dX6_count_80 : decode cX6_count 80 = .ok (.invokevirtual 210, 3) := by decide +kernel
theorem dX6_count_83 : decode cX6_count 83 = .ok (.ireturn, 1) := by decide +kernel
theorem dX6_count_84 : decode cX6_count 84 = .ok (.aload_n 0, 1) := by decide +kernel
theorem dX6_count_85 : decode cX6_count 85 = .ok (.getfield 10, 3) := by decide +kernel
theorem dX6_count_88 : decode cX6_count 88 = .ok (.invokevirtual 213, 3) := by decide +kernel
theorem dX6_count_91 : decode cX6_count 91 = .ok (.ireturn, 1) := by decide +kernel
theorem dX6_count_92 : decode cX6_count 92 = .ok (.aload_n 0, 1) := by decide +kernel
theorem dX6_count_93 : decode cX6_count 93 = .ok (.getfield 10, 3) := by decide +kernel
theorem dX6_count_96 : decode cX6_count 96 = .ok (.invokevirtual 216, 3) := by decide +kernel
theorem dX6_count_99 : decode cX6_count 99 = .ok (.ireturn, 1) := by decide +kernel
theorem dX6_count_100 : decode cX6_count 100 = .ok (.aload_n 0, 1) := by decide +kernel
theorem dX6_count_101 : decode cX6_count 101 = .ok (.getfield 44, 3) := by decide +kernel
theorem dX6_count_104 : decode cX6_count 104 = .ok (.getfield 81, 3) := by decide +kernel
theorem dX6_count_107 : decode cX6_count 107 = .ok (.ireturn, 1) := by decide +kernel
theorem dX6_count_108 : decode cX6_count 108 = .ok (.aload_n 0, 1) := by decide +kernel
theorem dX6_count_109 : decode cX6_count 109 = .ok (.getfield 22, 3) := by decide +kernel
theorem dX6_count_112 : decode cX6_count 112 = .ok (.getfield 66, 3) := by decide +kernel
theorem dX6_count_115 : decode cX6_count 115 = .ok (.ireturn, 1) := by decide +kernel
theorem dX6_count_116 : decode cX6_count 116 = .ok (.aload_n 0, 1) := by decide +kernel
theorem dX6_count_117 : decode cX6_count 117 = .ok (.getfield 29, 3) := by decide +kernel
theorem dX6_count_120 : decode cX6_count 120 = .ok (.getfield 134, 3) := by decide +kernel
theorem dX6_count_123 : decode cX6_count 123 = .ok (.ireturn, 1) := by decide +kernel
theorem dX6_count_124 : decode cX6_count 124 = .ok (.iconst (-1), 1) := by decide +kernel
theorem dX6_count_125 : decode cX6_count 125 = .ok (.ireturn, 1) := by decide +kernel
theorem dX6_wrongCells_0 : decode cX6_wrongCells 0 = .ok (.aload_n 0, 1) := by decide +kernel
theorem dX6_wrongCells_1 : decode cX6_wrongCells 1 = .ok (.getfield 10, 3) := by decide +kernel
theorem dX6_wrongCells_4 : decode cX6_wrongCells 4 = .ok (.aload_n 0, 1) := by decide +kernel
theorem dX6_wrongCells_5 : decode cX6_wrongCells 5 = .ok (.getfield 58, 3) := by decide +kernel
theorem dX6_wrongCells_8 : decode cX6_wrongCells 8 = .ok (.iload_n 1, 1) := by decide +kernel
theorem dX6_wrongCells_9 : decode cX6_wrongCells 9 = .ok (.iload_n 2, 1) := by decide +kernel
theorem dX6_wrongCells_10 : decode cX6_wrongCells 10 = .ok (.invokevirtual 144, 3) := by decide +kernel
theorem dX6_wrongCells_13 : decode cX6_wrongCells 13 = .ok (.aload_n 0, 1) := by decide +kernel
theorem dX6_wrongCells_14 : decode cX6_wrongCells 14 = .ok (.getfield 10, 3) := by decide +kernel
theorem dX6_wrongCells_17 : decode cX6_wrongCells 17 = .ok (.getfield 138, 3) := by decide +kernel
theorem dX6_wrongCells_20 : decode cX6_wrongCells 20 = .ok (.aload_n 0, 1) := by decide +kernel
theorem dX6_wrongCells_21 : decode cX6_wrongCells 21 = .ok (.getfield 58, 3) := by decide +kernel
theorem dX6_wrongCells_24 : decode cX6_wrongCells 24 = .ok (.invokevirtual 219, 3) := by decide +kernel
theorem dX6_wrongCells_27 : decode cX6_wrongCells 27 = .ok (.invokestatic 161, 3) := by decide +kernel
theorem dX6_wrongCells_30 : decode cX6_wrongCells 30 = .ok (.ireturn, 1) := by decide +kernel
theorem dX6_onBoard_0 : decode cX6_onBoard 0 = .ok (.iload_n 0, 1) := by decide +kernel
theorem dX6_onBoard_1 : decode cX6_onBoard 1 = .ok (.ifCond .lt 23, 3) := by decide +kernel
theorem dX6_onBoard_4 : decode cX6_onBoard 4 = .ok (.iload_n 0, 1) := by decide +kernel
theorem dX6_onBoard_5 : decode cX6_onBoard 5 = .ok (.bipush 6, 2) := by decide +kernel
theorem dX6_onBoard_7 : decode cX6_onBoard 7 = .ok (.if_icmp .ge 17, 3) := by decide +kernel
theorem dX6_onBoard_10 : decode cX6_onBoard 10 = .ok (.iload_n 1, 1) := by decide +kernel
theorem dX6_onBoard_11 : decode cX6_onBoard 11 = .ok (.ifCond .lt 13, 3) := by decide +kernel
theorem dX6_onBoard_14 : decode cX6_onBoard 14 = .ok (.iload_n 1, 1) := by decide +kernel
theorem dX6_onBoard_15 : decode cX6_onBoard 15 = .ok (.bipush 6, 2) := by decide +kernel
theorem dX6_onBoard_17 : decode cX6_onBoard 17 = .ok (.if_icmp .ge 7, 3) := by decide +kernel
theorem dX6_onBoard_20 : decode cX6_onBoard 20 = .ok (.iconst 1, 1) := by decide +kernel
theorem dX6_onBoard_21 : decode cX6_onBoard 21 = .ok (.goto 4, 3) := by decide +kernel
theorem dX6_onBoard_24 : decode cX6_onBoard 24 = .ok (.iconst 0, 1) := by decide +kernel
theorem dX6_onBoard_25 : decode cX6_onBoard 25 = .ok (.ireturn, 1) := by decide +kernel
theorem dX6_cellBit_0 : decode cX6_cellBit 0 = .ok (.lconst 1, 1) := by decide +kernel
theorem dX6_cellBit_1 : decode cX6_cellBit 1 = .ok (.bipush 8, 2) := by decide +kernel
theorem dX6_cellBit_3 : decode cX6_cellBit 3 = .ok (.iload_n 1, 1) := by decide +kernel
theorem dX6_cellBit_4 : decode cX6_cellBit 4 = .ok (.imul, 1) := by decide +kernel
theorem dX6_cellBit_5 : decode cX6_cellBit 5 = .ok (.iload_n 0, 1) := by decide +kernel
theorem dX6_cellBit_6 : decode cX6_cellBit 6 = .ok (.iadd, 1) := by decide +kernel
theorem dX6_cellBit_7 : decode cX6_cellBit 7 = .ok (.lshl, 1) := by decide +kernel
theorem dX6_cellBit_8 : decode cX6_cellBit 8 = .ok (.lreturn, 1) := by decide +kernel
theorem dX6_slipOf_0 : decode cX6_slipOf 0 = .ok (.iconst 3, 1) := by decide +kernel
theorem dX6_slipOf_1 : decode cX6_slipOf 1 = .ok (.iload_n 1, 1) := by decide +kernel
theorem dX6_slipOf_2 : decode cX6_slipOf 2 = .ok (.iconst 1, 1) := by decide +kernel
theorem dX6_slipOf_3 : decode cX6_slipOf 3 = .ok (.iadd, 1) := by decide +kernel
theorem dX6_slipOf_4 : decode cX6_slipOf 4 = .ok (.imul, 1) := by decide +kernel
theorem dX6_slipOf_5 : decode cX6_slipOf 5 = .ok (.iload_n 0, 1) := by decide +kernel
theorem dX6_slipOf_6 : decode cX6_slipOf 6 = .ok (.iadd, 1) := by decide +kernel
theorem dX6_slipOf_7 : decode cX6_slipOf 7 = .ok (.iconst 1, 1) := by decide +kernel
theorem dX6_slipOf_8 : decode cX6_slipOf 8 = .ok (.iadd, 1) := by decide +kernel
theorem dX6_slipOf_9 : decode cX6_slipOf 9 = .ok (.ireturn, 1) := by decide +kernel
theorem dX6_dxOf_0 : decode cX6_dxOf 0 = .ok (.iload_n 0, 1) := by decide +kernel
theorem dX6_dxOf_1 : decode cX6_dxOf 1 = .ok (.iconst 3, 1) := by decide +kernel
theorem dX6_dxOf_2 : decode cX6_dxOf 2 = .ok (.irem, 1) := by decide +kernel
theorem dX6_dxOf_3 : decode cX6_dxOf 3 = .ok (.iconst 1, 1) := by decide +kernel
theorem dX6_dxOf_4 : decode cX6_dxOf 4 = .ok (.isub, 1) := by decide +kernel
theorem dX6_dxOf_5 : decode cX6_dxOf 5 = .ok (.ireturn, 1) := by decide +kernel
theorem dX6_dyOf_0 : decode cX6_dyOf 0 = .ok (.iload_n 0, 1) := by decide +kernel
theorem dX6_dyOf_1 : decode cX6_dyOf 1 = .ok (.iconst 3, 1) := by decide +kernel
theorem dX6_dyOf_2 : decode cX6_dyOf 2 = .ok (.idiv, 1) := by decide +kernel
theorem dX6_dyOf_3 : decode cX6_dyOf 3 = .ok (.iconst 1, 1) := by decide +kernel
theorem dX6_dyOf_4 : decode cX6_dyOf 4 = .ok (.isub, 1) := by decide +kernel
theorem dX6_dyOf_5 : decode cX6_dyOf 5 = .ok (.ireturn, 1) := by decide +kernel
theorem dX6_slipped_0 : decode cX6_slipped 0 = .ok (.bipush 8, 2) := by decide +kernel
theorem dX6_slipped_2 : decode cX6_slipped 2 = .ok (.iload_n 2, 1) := by decide +kernel
theorem dX6_slipped_3 : decode cX6_slipped 3 = .ok (.invokestatic 169, 3) := by decide +kernel
theorem dX6_slipped_6 : decode cX6_slipped 6 = .ok (.imul, 1) := by decide +kernel
theorem dX6_slipped_7 : decode cX6_slipped 7 = .ok (.iload_n 2, 1) := by decide +kernel
theorem dX6_slipped_8 : decode cX6_slipped 8 = .ok (.invokestatic 166, 3) := by decide +kernel
theorem dX6_slipped_11 : decode cX6_slipped 11 = .ok (.iadd, 1) := by decide +kernel
theorem dX6_slipped_12 : decode cX6_slipped 12 = .ok (.istore_n 3, 1) := by decide +kernel
theorem dX6_slipped_13 : decode cX6_slipped 13 = .ok (.iload_n 3, 1) := by decide +kernel
theorem dX6_slipped_14 : decode cX6_slipped 14 = .ok (.ifCond .lt 9, 3) := by decide +kernel
theorem dX6_slipped_17 : decode cX6_slipped 17 = .ok (.lload_n 0, 1) := by decide +kernel
theorem dX6_slipped_18 : decode cX6_slipped 18 = .ok (.iload_n 3, 1) := by decide +kernel
theorem dX6_slipped_19 : decode cX6_slipped 19 = .ok (.lshl, 1) := by decide +kernel
theorem dX6_slipped_20 : decode cX6_slipped 20 = .ok (.goto 7, 3) := by decide +kernel
theorem dX6_slipped_23 : decode cX6_slipped 23 = .ok (.lload_n 0, 1) := by decide +kernel
theorem dX6_slipped_24 : decode cX6_slipped 24 = .ok (.iload_n 3, 1) := by decide +kernel
theorem dX6_slipped_25 : decode cX6_slipped 25 = .ok (.ineg, 1) := by decide +kernel
theorem dX6_slipped_26 : decode cX6_slipped 26 = .ok (.lushr, 1) := by decide +kernel
theorem dX6_slipped_27 : decode cX6_slipped 27 = .ok (.lreturn, 1) := by decide +kernel
theorem dX7_init_0 : decode cX7_init 0 = .ok (.aload_n 0, 1) := by decide +kernel
theorem dX7_init_1 : decode cX7_init 1 = .ok (.invokespecial 1, 3) := by decide +kernel
theorem dX7_init_4 : decode cX7_init 4 = .ok (.aload_n 0, 1) := by decide +kernel
theorem dX7_init_5 : decode cX7_init 5 = .ok (.bipush 99, 2) := by decide +kernel
theorem dX7_init_7 : decode cX7_init 7 = .ok (.newarray .int, 2) := by decide +kernel
theorem dX7_init_9 : decode cX7_init 9 = .ok (.putfield 7, 3) := by decide +kernel
theorem dX7_init_12 : decode cX7_init 12 = .ok (.aload_n 0, 1) := by decide +kernel
theorem dX7_init_13 : decode cX7_init 13 = .ok (.bipush 99, 2) := by decide +kernel
theorem dX7_init_15 : decode cX7_init 15 = .ok (.newarray .int, 2) := by decide +kernel
theorem dX7_init_17 : decode cX7_init 17 = .ok (.putfield 13, 3) := by decide +kernel
theorem dX7_init_20 : decode cX7_init 20 = .ok (.aload_n 0, 1) := by decide +kernel
theorem dX7_init_21 : decode cX7_init 21 = .ok (.sipush 594, 3) := by decide +kernel
theorem dX7_init_24 : decode cX7_init 24 = .ok (.newarray .int, 2) := by decide +kernel
theorem dX7_init_26 : decode cX7_init 26 = .ok (.putfield 16, 3) := by decide +kernel
theorem dX7_init_29 : decode cX7_init 29 = .ok (.aload_n 0, 1) := by decide +kernel
theorem dX7_init_30 : decode cX7_init 30 = .ok (.sipush 198, 3) := by decide +kernel
theorem dX7_init_33 : decode cX7_init 33 = .ok (.newarray .int, 2) := by decide +kernel
theorem dX7_init_35 : decode cX7_init 35 = .ok (.putfield 19, 3) := by decide +kernel
theorem dX7_init_38 : decode cX7_init 38 = .ok (.aload_n 0, 1) := by decide +kernel
theorem dX7_init_39 : decode cX7_init 39 = .ok (.iconst 2, 1) := by decide +kernel
theorem dX7_init_40 : decode cX7_init 40 = .ok (.newarray .boolean, 2) := by decide +kernel
theorem dX7_init_42 : decode cX7_init 42 = .ok (.putfield 22, 3) := by decide +kernel
theorem dX7_init_45 : decode cX7_init 45 = .ok (.aload_n 0, 1) := by decide +kernel
theorem dX7_init_46 : decode cX7_init 46 = .ok (.bipush 100, 2) := by decide +kernel
theorem dX7_init_48 : decode cX7_init 48 = .ok (.newarray .int, 2) := by decide +kernel
theorem dX7_init_50 : decode cX7_init 50 = .ok (.putfield 26, 3) := by decide +kernel
theorem dX7_init_53 : decode cX7_init 53 = .ok (.aload_n 0, 1) := by decide +kernel
theorem dX7_init_54 : decode cX7_init 54 = .ok (.bipush 18, 2) := by decide +kernel
theorem dX7_init_56 : decode cX7_init 56 = .ok (.newarray .int, 2) := by decide +kernel
theorem dX7_init_58 : decode cX7_init 58 = .ok (.putfield 29, 3) := by decide +kernel
theorem dX7_init_61 : decode cX7_init 61 = .ok (.aload_n 0, 1) := by decide +kernel
theorem dX7_init_62 : decode cX7_init 62 = .ok (.bipush 36, 2) := by decide +kernel
theorem dX7_init_64 : decode cX7_init 64 = .ok (.newarray .int, 2) := by decide +kernel
theorem dX7_init_66 : decode cX7_init 66 = .ok (.putfield 32, 3) := by decide +kernel
theorem dX7_init_69 : decode cX7_init 69 = .ok (.aload_n 0, 1) := by decide +kernel
theorem dX7_init_70 : decode cX7_init 70 = .ok (.bipush 6, 2) := by decide +kernel
theorem dX7_init_72 : decode cX7_init 72 = .ok (.newarray .int, 2) := by decide +kernel
theorem dX7_init_74 : decode cX7_init 74 = .ok (.putfield 35, 3) := by decide +kernel
theorem dX7_init_77 : decode cX7_init 77 = .ok (.aload_n 0, 1) := by decide +kernel
theorem dX7_init_78 : decode cX7_init 78 = .ok (.bipush 64, 2) := by decide +kernel
theorem dX7_init_80 : decode cX7_init 80 = .ok (.newarray .int, 2) := by decide +kernel
theorem dX7_init_82 : decode cX7_init 82 = .ok (.putfield 38, 3) := by decide +kernel
theorem dX7_init_85 : decode cX7_init 85 = .ok (.aload_n 0, 1) := by decide +kernel
theorem dX7_init_86 : decode cX7_init 86 = .ok (.bipush 64, 2) := by decide +kernel
theorem dX7_init_88 : decode cX7_init 88 = .ok (.newarray .int, 2) := by decide +kernel
theorem dX7_init_90 : decode cX7_init 90 = .ok (.putfield 41, 3) := by decide +kernel
theorem dX7_init_93 : decode cX7_init 93 = .ok (.aload_n 0, 1) := by decide +kernel
theorem dX7_init_94 : decode cX7_init 94 = .ok (.bipush 6, 2) := by decide +kernel
theorem dX7_init_96 : decode cX7_init 96 = .ok (.newarray .int, 2) := by decide +kernel
theorem dX7_init_98 : decode cX7_init 98 = .ok (.putfield 44, 3) := by decide +kernel
theorem dX7_init_101 : decode cX7_init 101 = .ok (.aload_n 0, 1) := by decide +kernel
theorem dX7_init_102 : decode cX7_init 102 = .ok (.sipush 288, 3) := by decide +kernel
theorem dX7_init_105 : decode cX7_init 105 = .ok (.newarray .int, 2) := by decide +kernel
theorem dX7_init_107 : decode cX7_init 107 = .ok (.putfield 47, 3) := by decide +kernel
theorem dX7_init_110 : decode cX7_init 110 = .ok (.aload_n 0, 1) := by decide +kernel
theorem dX7_init_111 : decode cX7_init 111 = .ok (.getfield 7, 3) := by decide +kernel
theorem dX7_init_114 : decode cX7_init 114 = .ok (.iconst 0, 1) := by decide +kernel
theorem dX7_init_115 : decode cX7_init 115 = .ok (.iconst 1, 1) := by decide +kernel
theorem dX7_init_116 : decode cX7_init 116 = .ok (.iastore, 1) := by decide +kernel
theorem dX7_init_117 : decode cX7_init 117 = .ok (.aload_n 0, 1) := by decide +kernel
theorem dX7_init_118 : decode cX7_init 118 = .ok (.getfield 7, 3) := by decide +kernel
theorem dX7_init_121 : decode cX7_init 121 = .ok (.iconst 1, 1) := by decide +kernel
theorem dX7_init_122 : decode cX7_init 122 = .ok (.iconst 1, 1) := by decide +kernel
theorem dX7_init_123 : decode cX7_init 123 = .ok (.iastore, 1) := by decide +kernel
theorem dX7_init_124 : decode cX7_init 124 = .ok (.return_, 1) := by decide +kernel
theorem dX7_in_0 : decode cX7_in 0 = .ok (.iload_n 0, 1) := by decide +kernel
theorem dX7_in_1 : decode cX7_in 1 = .ok (.iload_n 1, 1) := by decide +kernel
theorem dX7_in_2 : decode cX7_in 2 = .ok (.if_icmp .lt 12, 3) := by decide +kernel
theorem dX7_in_5 : decode cX7_in 5 = .ok (.iload_n 0, 1) := by decide +kernel
theorem dX7_in_6 : decode cX7_in 6 = .ok (.iload_n 2, 1) := by decide +kernel
theorem dX7_in_7 : decode cX7_in 7 = .ok (.if_icmp .gt 7, 3) := by decide +kernel
theorem dX7_in_10 : decode cX7_in 10 = .ok (.iconst 1, 1) := by decide +kernel
theorem dX7_in_11 : decode cX7_in 11 = .ok (.goto 4, 3) := by decide +kernel
theorem dX7_in_14 : decode cX7_in 14 = .ok (.iconst 0, 1) := by decide +kernel
theorem dX7_in_15 : decode cX7_in 15 = .ok (.ireturn, 1) := by decide +kernel
theorem dX7_ones_0 : decode cX7_ones 0 = .ok (.iconst 0, 1) := by decide +kernel
theorem dX7_ones_1 : decode cX7_ones 1 = .ok (.istore_n 1, 1) := by decide +kernel
theorem dX7_ones_2 : decode cX7_ones 2 = .ok (.iconst 0, 1) := by decide +kernel
theorem dX7_ones_3 : decode cX7_ones 3 = .ok (.istore_n 2, 1) := by decide +kernel
theorem dX7_ones_4 : decode cX7_ones 4 = .ok (.iload_n 2, 1) := by decide +kernel
theorem dX7_ones_5 : decode cX7_ones 5 = .ok (.bipush 8, 2) := by decide +kernel
theorem dX7_ones_7 : decode cX7_ones 7 = .ok (.if_icmp .ge 17, 3) := by decide +kernel
theorem dX7_ones_10 : decode cX7_ones 10 = .ok (.iload_n 1, 1) := by decide +kernel
theorem dX7_ones_11 : decode cX7_ones 11 = .ok (.iload_n 0, 1) := by decide +kernel
theorem dX7_ones_12 : decode cX7_ones 12 = .ok (.iload_n 2, 1) := by decide +kernel
theorem dX7_ones_13 : decode cX7_ones 13 = .ok (.ishr, 1) := by decide +kernel
theorem dX7_ones_14 : decode cX7_ones 14 = .ok (.iconst 1, 1) := by decide +kernel
theorem dX7_ones_15 : decode cX7_ones 15 = .ok (.iand, 1) := by decide +kernel
theorem dX7_ones_16 : decode cX7_ones 16 = .ok (.iadd, 1) := by decide +kernel
theorem dX7_ones_17 : decode cX7_ones 17 = .ok (.istore_n 1, 1) := by decide +kernel
theorem dX7_ones_18 : decode cX7_ones 18 = .ok (.iinc 2 1, 3) := by decide +kernel
theorem dX7_ones_21 : decode cX7_ones 21 = .ok (.goto (-17), 3) := by decide +kernel
theorem dX7_ones_24 : decode cX7_ones 24 = .ok (.iload_n 1, 1) := by decide +kernel
theorem dX7_ones_25 : decode cX7_ones 25 = .ok (.ireturn, 1) := by decide +kernel
theorem dX7_letterAt_0 : decode cX7_letterAt 0 = .ok (.iload_n 1, 1) := by decide +kernel
theorem dX7_letterAt_1 : decode cX7_letterAt 1 = .ok (.aload_n 0, 1) := by decide +kernel
theorem dX7_letterAt_2 : decode cX7_letterAt 2 = .ok (.getfield 54, 3) := by decide +kernel
theorem dX7_letterAt_5 : decode cX7_letterAt 5 = .ok (.if_icmp .ge 12, 3) := by decide +kernel
theorem dX7_letterAt_8 : decode cX7_letterAt 8 = .ok (.aload_n 0, 1) := by decide +kernel
theorem dX7_letterAt_9 : decode cX7_letterAt 9 = .ok (.getfield 26, 3) := by decide +kernel
theorem dX7_letterAt_12 : decode cX7_letterAt 12 = .ok (.iload_n 1, 1) := by decide +kernel
theorem dX7_letterAt_13 : decode cX7_letterAt 13 = .ok (.iaload, 1) := by decide +kernel
theorem dX7_letterAt_14 : decode cX7_letterAt 14 = .ok (.goto 4, 3) := by decide +kernel
theorem dX7_letterAt_17 : decode cX7_letterAt 17 = .ok (.iconst (-1), 1) := by decide +kernel
theorem dX7_letterAt_18 : decode cX7_letterAt 18 = .ok (.ireturn, 1) := by decide +kernel
theorem dX7_type_0 : decode cX7_type 0 = .ok (.aload_n 0, 1) := by decide +kernel
theorem dX7_type_1 : decode cX7_type 1 = .ok (.iconst 0, 1) := by decide +kernel
theorem dX7_type_2 : decode cX7_type 2 = .ok (.putfield 50, 3) := by decide +kernel
theorem dX7_type_5 : decode cX7_type 5 = .ok (.iload_n 1, 1) := by decide +kernel
theorem dX7_type_6 : decode cX7_type 6 = .ok (.iconst 0, 1) := by decide +kernel
theorem dX7_type_7 : decode cX7_type 7 = .ok (.sipush 255, 3) := by decide +kernel
theorem dX7_type_10 : decode cX7_type 10 = .ok (.invokestatic 57, 3) := by decide +kernel
theorem dX7_type_13 : decode cX7_type 13 = .ok (.ifCond .ne 5, 3) := by decide +kernel
theorem dX7_type_16 : decode cX7_type 16 = .ok (.iconst (-1), 1) := by decide +kernel
theorem dX7_type_17 : decode cX7_type 17 = .ok (.ireturn, 1) := by decide +kernel
theorem dX7_type_18 : decode cX7_type 18 = .ok (.aload_n 0, 1) := by decide +kernel
theorem dX7_type_19 : decode cX7_type 19 = .ok (.getfield 54, 3) := by decide +kernel
theorem dX7_type_22 : decode cX7_type 22 = .ok (.bipush 100, 2) := by decide +kernel
theorem dX7_type_24 : decode cX7_type 24 = .ok (.if_icmp .ne 6, 3) := by decide +kernel
theorem dX7_type_27 : decode cX7_type 27 = .ok (.bipush (-3), 2) := by decide +kernel
theorem dX7_type_29 : decode cX7_type 29 = .ok (.ireturn, 1) := by decide +kernel
theorem dX7_type_30 : decode cX7_type 30 = .ok (.aload_n 0, 1) := by decide +kernel
theorem dX7_type_31 : decode cX7_type 31 = .ok (.getfield 26, 3) := by decide +kernel
theorem dX7_type_34 : decode cX7_type 34 = .ok (.aload_n 0, 1) := by decide +kernel
theorem dX7_type_35 : decode cX7_type 35 = .ok (.getfield 54, 3) := by decide +kernel
theorem dX7_type_38 : decode cX7_type 38 = .ok (.iload_n 1, 1) := by decide +kernel
theorem dX7_type_39 : decode cX7_type 39 = .ok (.iastore, 1) := by decide +kernel
theorem dX7_type_40 : decode cX7_type 40 = .ok (.aload_n 0, 1) := by decide +kernel
theorem dX7_type_41 : decode cX7_type 41 = .ok (.dup, 1) := by decide +kernel
theorem dX7_type_42 : decode cX7_type 42 = .ok (.getfield 54, 3) := by decide +kernel
theorem dX7_type_45 : decode cX7_type 45 = .ok (.iconst 1, 1) := by decide +kernel
theorem dX7_type_46 : decode cX7_type 46 = .ok (.iadd, 1) := by decide +kernel
theorem dX7_type_47 : decode cX7_type 47 = .ok (.putfield 54, 3) := by decide +kernel
theorem dX7_type_50 : decode cX7_type 50 = .ok (.aload_n 0, 1) := by decide +kernel
theorem dX7_type_51 : decode cX7_type 51 = .ok (.getfield 54, 3) := by decide +kernel
theorem dX7_type_54 : decode cX7_type 54 = .ok (.ireturn, 1) := by decide +kernel
theorem dX7_clear_0 : decode cX7_clear 0 = .ok (.aload_n 0, 1) := by decide +kernel
theorem dX7_clear_1 : decode cX7_clear 1 = .ok (.iconst 0, 1) := by decide +kernel
theorem dX7_clear_2 : decode cX7_clear 2 = .ok (.putfield 50, 3) := by decide +kernel
theorem dX7_clear_5 : decode cX7_clear 5 = .ok (.aload_n 0, 1) := by decide +kernel
theorem dX7_clear_6 : decode cX7_clear 6 = .ok (.getfield 54, 3) := by decide +kernel
theorem dX7_clear_9 : decode cX7_clear 9 = .ok (.istore_n 1, 1) := by decide +kernel
theorem dX7_clear_10 : decode cX7_clear 10 = .ok (.aload_n 0, 1) := by decide +kernel
theorem dX7_clear_11 : decode cX7_clear 11 = .ok (.iconst 0, 1) := by decide +kernel
theorem dX7_clear_12 : decode cX7_clear 12 = .ok (.putfield 54, 3) := by decide +kernel
theorem dX7_clear_15 : decode cX7_clear 15 = .ok (.iload_n 1, 1) := by decide +kernel
theorem dX7_clear_16 : decode cX7_clear 16 = .ok (.ireturn, 1) := by decide +kernel
theorem dX7_advances_0 : decode cX7_advances 0 = .ok (.aload_n 0, 1) := by decide +kernel
theorem dX7_advances_1 : decode cX7_advances 1 = .ok (.aload_n 0, 1) := by decide +kernel
theorem dX7_advances_2 : decode cX7_advances 2 = .ok (.getfield 61, 3) := by decide +kernel
theorem dX7_advances_5 : decode cX7_advances 5 = .ok (.invokevirtual 64, 3) := by decide +kernel
theorem dX7_advances_8 : decode cX7_advances 8 = .ok (.bipush 32, 2) := by decide +kernel
theorem dX7_advances_10 : decode cX7_advances 10 = .ok (.if_icmp .ne 16, 3) := by decide +kernel
theorem dX7_advances_13 : decode cX7_advances 13 = .ok (.aload_n 0, 1) := by decide +kernel
theorem dX7_advances_14 : decode cX7_advances 14 = .ok (.dup, 1) := by decide +kernel
theorem dX7_advances_15 : decode cX7_advances 15 = .ok (.getfield 61, 3) := by decide +kernel
theorem dX7_advances_18 : decode cX7_advances 18 = .ok (.iconst 1, 1) := by decide +kernel
theorem dX7_advances_19 : decode cX7_advances 19 = .ok (.iadd, 1) := by decide +kernel
theorem dX7_advances_20 : decode cX7_advances 20 = .ok (.putfield 61, 3) := by decide +kernel
theorem dX7_advances_23 : decode cX7_advances 23 = .ok (.goto (-23), 3) := by decide +kernel
theorem dX7_advances_26 : decode cX7_advances 26 = .ok (.aload_n 0, 1) := by decide +kernel
theorem dX7_advances_27 : decode cX7_advances 27 = .ok (.aload_n 0, 1) := by decide +kernel
theorem dX7_advances_28 : decode cX7_advances 28 = .ok (.getfield 61, 3) := by decide +kernel
theorem dX7_advances_31 : decode cX7_advances 31 = .ok (.putfield 68, 3) := by decide +kernel
theorem dX7_advances_34 : decode cX7_advances 34 = .ok (.aload_n 0, 1) := by decide +kernel
theorem dX7_advances_35 : decode cX7_advances 35 = .ok (.aload_n 0, 1) := by decide +kernel
theorem dX7_advances_36 : decode cX7_advances 36 = .ok (.aload_n 0, 1) := by decide +kernel
theorem dX7_advances_37 : decode cX7_advances 37 = .ok (.getfield 61, 3) := by decide +kernel
theorem dX7_advances_40 : decode cX7_advances 40 = .ok (.invokevirtual 64, 3) := by decide +kernel
theorem dX7_advances_43 : decode cX7_advances 43 = .ok (.putfield 71, 3) := by decide +kernel
theorem dX7_advances_46 : decode cX7_advances 46 = .ok (.aload_n 0, 1) := by decide +kernel
theorem dX7_advances_47 : decode cX7_advances 47 = .ok (.dup, 1) := by decide +kernel
theorem dX7_advances_48 : decode cX7_advances 48 = .ok (.getfield 61, 3) := by decide +kernel
theorem dX7_advances_51 : decode cX7_advances 51 = .ok (.aload_n 0, 1) := by decide +kernel
theorem dX7_advances_52 : decode cX7_advances 52 = .ok (.getfield 71, 3) := by decide +kernel
theorem dX7_advances_55 : decode cX7_advances 55 = .ok (.ifCond .ge 7, 3) := by decide +kernel
theorem dX7_advances_58 : decode cX7_advances 58 = .ok (.iconst 0, 1) := by decide +kernel
theorem dX7_advances_59 : decode cX7_advances 59 = .ok (.goto 4, 3) := by decide +kernel
theorem dX7_advances_62 : decode cX7_advances 62 = .ok (.iconst 1, 1) := by decide +kernel
theorem dX7_advances_63 : decode cX7_advances 63 = .ok (.iadd, 1) := by decide +kernel
theorem dX7_advances_64 : decode cX7_advances 64 = .ok (.putfield 61, 3) := by decide +kernel
theorem dX7_advances_67 : decode cX7_advances 67 = .ok (.aload_n 0, 1) := by decide +kernel
theorem dX7_advances_68 : decode cX7_advances 68 = .ok (.aload_n 0, 1) := by decide +kernel
theorem dX7_advances_69 : decode cX7_advances 69 = .ok (.getfield 71, 3) := by decide +kernel
theorem dX7_advances_72 : decode cX7_advances 72 = .ok (.ifCond .ge 7, 3) := by decide +kernel
theorem dX7_advances_75 : decode cX7_advances 75 = .ok (.iconst 0, 1) := by decide +kernel
theorem dX7_advances_76 : decode cX7_advances 76 = .ok (.goto 66, 3) := by decide +kernel
theorem dX7_advances_79 : decode cX7_advances 79 = .ok (.aload_n 0, 1) := by decide +kernel
theorem dX7_advances_80 : decode cX7_advances 80 = .ok (.getfield 71, 3) := by decide +kernel
theorem dX7_advances_83 : decode cX7_advances 83 = .ok (.bipush 99, 2) := by decide +kernel
theorem dX7_advances_85 : decode cX7_advances 85 = .ok (.if_icmp .eq 21, 3) := by decide +kernel
theorem dX7_advances_88 : decode cX7_advances 88 = .ok (.aload_n 0, 1) := by decide +kernel
theorem dX7_advances_89 : decode cX7_advances 89 = .ok (.getfield 71, 3) := by decide +kernel
theorem dX7_advances_92 : decode cX7_advances 92 = .ok (.bipush 100, 2) := by decide +kernel
theorem dX7_advances_94 : decode cX7_advances 94 = .ok (.if_icmp .eq 12, 3) := by decide +kernel
theorem dX7_advances_97 : decode cX7_advances 97 = .ok (.aload_n 0, 1) := by decide +kernel
theorem dX7_advances_98 : decode cX7_advances 98 = .ok (.getfield 71, 3) := by decide +kernel
theorem dX7_advances_101 : decode cX7_advances 101 = .ok (.bipush 114, 2) := by decide +kernel
theorem dX7_advances_103 : decode cX7_advances 103 = .ok (.if_icmp .ne 7, 3) := by decide +kernel
theorem dX7_advances_106 : decode cX7_advances 106 = .ok (.iconst 1, 1) := by decide +kernel
theorem dX7_advances_107 : decode cX7_advances 107 = .ok (.goto 35, 3) := by decide +kernel
theorem dX7_advances_110 : decode cX7_advances 110 = .ok (.aload_n 0, 1) := by decide +kernel
theorem dX7_advances_111 : decode cX7_advances 111 = .ok (.getfield 71, 3) := by decide +kernel
theorem dX7_advances_114 : decode cX7_advances 114 = .ok (.bipush 48, 2) := by decide +kernel
theorem dX7_advances_116 : decode cX7_advances 116 = .ok (.bipush 57, 2) := by decide +kernel
theorem dX7_advances_118 : decode cX7_advances 118 = .ok (.invokestatic 57, 3) := by decide +kernel
theorem dX7_advances_121 : decode cX7_advances 121 = .ok (.ifCond .eq 7, 3) := by decide +kernel
theorem dX7_advances_124 : decode cX7_advances 124 = .ok (.iconst 2, 1) := by decide +kernel
theorem dX7_advances_125 : decode cX7_advances 125 = .ok (.goto 17, 3) := by decide +kernel
theorem dX7_advances_128 : decode cX7_advances 128 = .ok (.aload_n 0, 1) := by decide +kernel
theorem dX7_advances_129 : decode cX7_advances 129 = .ok (.getfield 71, 3) := by decide +kernel
theorem dX7_advances_132 : decode cX7_advances 132 = .ok (.bipush 59, 2) := by decide +kernel
theorem dX7_advances_134 : decode cX7_advances 134 = .ok (.if_icmp .ne 7, 3) := by decide +kernel
theorem dX7_advances_137 : decode cX7_advances 137 = .ok (.iconst 3, 1) := by decide +kernel
theorem dX7_advances_138 : decode cX7_advances 138 = .ok (.goto 4, 3) := by decide +kernel
theorem dX7_advances_141 : decode cX7_advances 141 = .ok (.iconst 4, 1) := by decide +kernel
theorem dX7_advances_142 : decode cX7_advances 142 = .ok (.putfield 74, 3) := by decide +kernel
theorem dX7_advances_145 : decode cX7_advances 145 = .ok (.aload_n 0, 1) := by decide +kernel
theorem dX7_advances_146 : decode cX7_advances 146 = .ok (.dup, 1) := by decide +kernel
theorem dX7_advances_147 : decode cX7_advances 147 = .ok (.getfield 71, 3) := by decide +kernel
theorem dX7_advances_150 : decode cX7_advances 150 = .ok (.aload_n 0, 1) := by decide +kernel
theorem dX7_advances_151 : decode cX7_advances 151 = .ok (.getfield 74, 3) := by decide +kernel
theorem dX7_advances_154 : decode cX7_advances 154 = .ok (.iconst 2, 1) := by decide +kernel
theorem dX7_advances_155 : decode cX7_advances 155 = .ok (.if_icmp .ne 8, 3) := by decide +kernel
theorem dX7_advances_158 : decode cX7_advances 158 = .ok (.bipush 48, 2) := by decide +kernel
theorem dX7_advances_160 : decode cX7_advances 160 = .ok (.goto 4, 3) := by decide +kernel
theorem dX7_advances_163 : decode cX7_advances 163 = .ok (.iconst 0, 1) := by decide +kernel
theorem dX7_advances_164 : decode cX7_advances 164 = .ok (.isub, 1) := by decide +kernel
theorem dX7_advances_165 : decode cX7_advances 165 = .ok (.putfield 71, 3) := by decide +kernel
theorem dX7_advances_168 : decode cX7_advances 168 = .ok (.return_, 1) := by decide +kernel
theorem dX7_isWell_0 : decode cX7_isWell 0 = .ok (.aload_n 0, 1) := by decide +kernel
theorem dX7_isWell_1 : decode cX7_isWell 1 = .ok (.getfield 77, 3) := by decide +kernel
theorem dX7_isWell_4 : decode cX7_isWell 4 = .ok (.bipush (-9), 2) := by decide +kernel
theorem dX7_isWell_6 : decode cX7_isWell 6 = .ok (.if_icmp .ne 7, 3) := by decide +kernel
theorem dX7_isWell_9 : decode cX7_isWell 9 = .ok (.iconst 1, 1) := by decide +kernel
theorem dX7_isWell_10 : decode cX7_isWell 10 = .ok (.goto 4, 3) := by decide +kernel
theorem dX7_isWell_13 : decode cX7_isWell 13 = .ok (.iconst 0, 1) := by decide +kernel
theorem dX7_isWell_14 : decode cX7_isWell 14 = .ok (.ireturn, 1) := by decide +kernel
theorem dX7_takes_0 : decode cX7_takes 0 = .ok (.aload_n 0, 1) := by decide +kernel
theorem dX7_takes_1 : decode cX7_takes 1 = .ok (.getfield 71, 3) := by decide +kernel
theorem dX7_takes_4 : decode cX7_takes 4 = .ok (.istore_n 2, 1) := by decide +kernel
theorem dX7_takes_5 : decode cX7_takes 5 = .ok (.aload_n 0, 1) := by decide +kernel
theorem dX7_takes_6 : decode cX7_takes 6 = .ok (.invokevirtual 80, 3) := by decide +kernel
theorem dX7_takes_9 : decode cX7_takes 9 = .ok (.ifCond .eq 22, 3) := by decide +kernel
theorem dX7_takes_12 : decode cX7_takes 12 = .ok (.iload_n 1, 1) := by decide +kernel
theorem dX7_takes_13 : decode cX7_takes 13 = .ok (.ifCond .eq 10, 3) := by decide +kernel
theorem dX7_takes_16 : decode cX7_takes 16 = .ok (.aload_n 0, 1) := by decide +kernel
theorem dX7_takes_17 : decode cX7_takes 17 = .ok (.invokevirtual 84, 3) := by decide +kernel
theorem dX7_takes_20 : decode cX7_takes 20 = .ok (.goto 11, 3) := by decide +kernel
theorem dX7_takes_23 : decode cX7_takes 23 = .ok (.aload_n 0, 1) := by decide +kernel
theorem dX7_takes_24 : decode cX7_takes 24 = .ok (.aload_n 0, 1) := by decide +kernel
theorem dX7_takes_25 : decode cX7_takes 25 = .ok (.getfield 68, 3) := by decide +kernel
theorem dX7_takes_28 : decode cX7_takes 28 = .ok (.putfield 77, 3) := by decide +kernel
theorem dX7_takes_31 : decode cX7_takes 31 = .ok (.iload_n 2, 1) := by decide +kernel
theorem dX7_takes_32 : decode cX7_takes 32 = .ok (.ireturn, 1) := by decide +kernel
theorem dX7_readsInk_0 : decode cX7_readsInk 0 = .ok (.aload_n 0, 1) := by decide +kernel
theorem dX7_readsInk_1 : decode cX7_readsInk 1 = .ok (.aload_n 0, 1) := by decide +kernel
theorem dX7_readsInk_2 : decode cX7_readsInk 2 = .ok (.getfield 13, 3) := by decide +kernel
theorem dX7_readsInk_5 : decode cX7_readsInk 5 = .ok (.iconst 2, 1) := by decide +kernel
theorem dX7_readsInk_6 : decode cX7_readsInk 6 = .ok (.iaload, 1) := by decide +kernel
theorem dX7_readsInk_7 : decode cX7_readsInk 7 = .ok (.bipush 6, 2) := by decide +kernel
theorem dX7_readsInk_9 : decode cX7_readsInk 9 = .ok (.if_icmp .ge 7, 3) := by decide +kernel
theorem dX7_readsInk_12 : decode cX7_readsInk 12 = .ok (.iconst 1, 1) := by decide +kernel
theorem dX7_readsInk_13 : decode cX7_readsInk 13 = .ok (.goto 4, 3) := by decide +kernel
theorem dX7_readsInk_16 : decode cX7_readsInk 16 = .ok (.iconst 0, 1) := by decide +kernel
theorem dX7_readsInk_17 : decode cX7_readsInk 17 = .ok (.invokevirtual 87, 3) := by decide +kernel
theorem dX7_readsInk_20 : decode cX7_readsInk 20 = .ok (.pop, 1) := by decide +kernel
theorem dX7_readsInk_21 : decode cX7_readsInk 21 = .ok (.aload_n 0, 1) := by decide +kernel
theorem dX7_readsInk_22 : decode cX7_readsInk 22 = .ok (.aload_n 0, 1) := by decide +kernel
theorem dX7_readsInk_23 : decode cX7_readsInk 23 = .ok (.getfield 74, 3) := by decide +kernel
theorem dX7_readsInk_26 : decode cX7_readsInk 26 = .ok (.iconst 2, 1) := by decide +kernel
theorem dX7_readsInk_27 : decode cX7_readsInk 27 = .ok (.if_icmp .ne 20, 3) := by decide +kernel
