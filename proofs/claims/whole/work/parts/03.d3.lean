theorem dX7_readsInk_30 : decode cX7_readsInk 30 = .ok (.aload_n 0, 1) := by decide +kernel
theorem dX7_readsInk_31 : decode cX7_readsInk 31 = .ok (.getfield 71, 3) := by decide +kernel
theorem dX7_readsInk_34 : decode cX7_readsInk 34 = .ok (.iconst 1, 1) := by decide +kernel
theorem dX7_readsInk_35 : decode cX7_readsInk 35 = .ok (.bipush 7, 2) := by decide +kernel
theorem dX7_readsInk_37 : decode cX7_readsInk 37 = .ok (.invokestatic 57, 3) := by decide +kernel
theorem dX7_readsInk_40 : decode cX7_readsInk 40 = .ok (.ifCond .eq 7, 3) := by decide +kernel
theorem dX7_readsInk_43 : decode cX7_readsInk 43 = .ok (.iconst 1, 1) := by decide +kernel
theorem dX7_readsInk_44 : decode cX7_readsInk 44 = .ok (.goto 4, 3) := by decide +kernel
theorem dX7_readsInk_47 : decode cX7_readsInk 47 = .ok (.iconst 0, 1) := by decide +kernel
theorem dX7_readsInk_48 : decode cX7_readsInk 48 = .ok (.invokevirtual 87, 3) := by decide +kernel
theorem dX7_readsInk_51 : decode cX7_readsInk 51 = .ok (.istore_n 2, 1) := by decide +kernel
theorem dX7_readsInk_52 : decode cX7_readsInk 52 = .ok (.aload_n 0, 1) := by decide +kernel
theorem dX7_readsInk_53 : decode cX7_readsInk 53 = .ok (.invokevirtual 80, 3) := by decide +kernel
theorem dX7_readsInk_56 : decode cX7_readsInk 56 = .ok (.ifCond .eq 39, 3) := by decide +kernel
theorem dX7_readsInk_59 : decode cX7_readsInk 59 = .ok (.aload_n 0, 1) := by decide +kernel
theorem dX7_readsInk_60 : decode cX7_readsInk 60 = .ok (.getfield 13, 3) := by decide +kernel
theorem dX7_readsInk_63 : decode cX7_readsInk 63 = .ok (.bipush 39, 2) := by decide +kernel
theorem dX7_readsInk_65 : decode cX7_readsInk 65 = .ok (.aload_n 0, 1) := by decide +kernel
theorem dX7_readsInk_66 : decode cX7_readsInk 66 = .ok (.getfield 13, 3) := by decide +kernel
theorem dX7_readsInk_69 : decode cX7_readsInk 69 = .ok (.iconst 2, 1) := by decide +kernel
theorem dX7_readsInk_70 : decode cX7_readsInk 70 = .ok (.iaload, 1) := by decide +kernel
theorem dX7_readsInk_71 : decode cX7_readsInk 71 = .ok (.iadd, 1) := by decide +kernel
theorem dX7_readsInk_72 : decode cX7_readsInk 72 = .ok (.iload_n 1, 1) := by decide +kernel
theorem dX7_readsInk_73 : decode cX7_readsInk 73 = .ok (.ifCond .eq 10, 3) := by decide +kernel
theorem dX7_readsInk_76 : decode cX7_readsInk 76 = .ok (.bipush 8, 2) := by decide +kernel
theorem dX7_readsInk_78 : decode cX7_readsInk 78 = .ok (.iload_n 2, 1) := by decide +kernel
theorem dX7_readsInk_79 : decode cX7_readsInk 79 = .ok (.iadd, 1) := by decide +kernel
theorem dX7_readsInk_80 : decode cX7_readsInk 80 = .ok (.goto 4, 3) := by decide +kernel
theorem dX7_readsInk_83 : decode cX7_readsInk 83 = .ok (.iload_n 2, 1) := by decide +kernel
theorem dX7_readsInk_84 : decode cX7_readsInk 84 = .ok (.iastore, 1) := by decide +kernel
theorem dX7_readsInk_85 : decode cX7_readsInk 85 = .ok (.aload_n 0, 1) := by decide +kernel
theorem dX7_readsInk_86 : decode cX7_readsInk 86 = .ok (.getfield 13, 3) := by decide +kernel
theorem dX7_readsInk_89 : decode cX7_readsInk 89 = .ok (.iconst 2, 1) := by decide +kernel
theorem dX7_readsInk_90 : decode cX7_readsInk 90 = .ok (.dup2, 1) := by decide +kernel
theorem dX7_readsInk_91 : decode cX7_readsInk 91 = .ok (.iaload, 1) := by decide +kernel
theorem dX7_readsInk_92 : decode cX7_readsInk 92 = .ok (.iconst 1, 1) := by decide +kernel
theorem dX7_readsInk_93 : decode cX7_readsInk 93 = .ok (.iadd, 1) := by decide +kernel
theorem dX7_readsInk_94 : decode cX7_readsInk 94 = .ok (.iastore, 1) := by decide +kernel
theorem dX7_readsInk_95 : decode cX7_readsInk 95 = .ok (.return_, 1) := by decide +kernel
theorem dX7_readsRow_0 : decode cX7_readsRow 0 = .ok (.aload_n 0, 1) := by decide +kernel
theorem dX7_readsRow_1 : decode cX7_readsRow 1 = .ok (.aload_n 0, 1) := by decide +kernel
theorem dX7_readsRow_2 : decode cX7_readsRow 2 = .ok (.getfield 13, 3) := by decide +kernel
theorem dX7_readsRow_5 : decode cX7_readsRow 5 = .ok (.iconst 1, 1) := by decide +kernel
theorem dX7_readsRow_6 : decode cX7_readsRow 6 = .ok (.iaload, 1) := by decide +kernel
theorem dX7_readsRow_7 : decode cX7_readsRow 7 = .ok (.bipush 6, 2) := by decide +kernel
theorem dX7_readsRow_9 : decode cX7_readsRow 9 = .ok (.if_icmp .ge 7, 3) := by decide +kernel
theorem dX7_readsRow_12 : decode cX7_readsRow 12 = .ok (.iconst 1, 1) := by decide +kernel
theorem dX7_readsRow_13 : decode cX7_readsRow 13 = .ok (.goto 4, 3) := by decide +kernel
theorem dX7_readsRow_16 : decode cX7_readsRow 16 = .ok (.iconst 0, 1) := by decide +kernel
theorem dX7_readsRow_17 : decode cX7_readsRow 17 = .ok (.invokevirtual 87, 3) := by decide +kernel
theorem dX7_readsRow_20 : decode cX7_readsRow 20 = .ok (.pop, 1) := by decide +kernel
theorem dX7_readsRow_21 : decode cX7_readsRow 21 = .ok (.aload_n 0, 1) := by decide +kernel
theorem dX7_readsRow_22 : decode cX7_readsRow 22 = .ok (.getfield 13, 3) := by decide +kernel
theorem dX7_readsRow_25 : decode cX7_readsRow 25 = .ok (.iconst 1, 1) := by decide +kernel
theorem dX7_readsRow_26 : decode cX7_readsRow 26 = .ok (.iaload, 1) := by decide +kernel
theorem dX7_readsRow_27 : decode cX7_readsRow 27 = .ok (.ifCond .ne 8, 3) := by decide +kernel
theorem dX7_readsRow_30 : decode cX7_readsRow 30 = .ok (.bipush 6, 2) := by decide +kernel
theorem dX7_readsRow_32 : decode cX7_readsRow 32 = .ok (.goto 9, 3) := by decide +kernel
theorem dX7_readsRow_35 : decode cX7_readsRow 35 = .ok (.aload_n 0, 1) := by decide +kernel
theorem dX7_readsRow_36 : decode cX7_readsRow 36 = .ok (.getfield 13, 3) := by decide +kernel
theorem dX7_readsRow_39 : decode cX7_readsRow 39 = .ok (.iconst 0, 1) := by decide +kernel
theorem dX7_readsRow_40 : decode cX7_readsRow 40 = .ok (.iaload, 1) := by decide +kernel
theorem dX7_readsRow_41 : decode cX7_readsRow 41 = .ok (.istore_n 1, 1) := by decide +kernel
theorem dX7_readsRow_42 : decode cX7_readsRow 42 = .ok (.iconst 0, 1) := by decide +kernel
theorem dX7_readsRow_43 : decode cX7_readsRow 43 = .ok (.istore_n 2, 1) := by decide +kernel
theorem dX7_readsRow_44 : decode cX7_readsRow 44 = .ok (.aload_n 0, 1) := by decide +kernel
theorem dX7_readsRow_45 : decode cX7_readsRow 45 = .ok (.invokevirtual 80, 3) := by decide +kernel
theorem dX7_readsRow_48 : decode cX7_readsRow 48 = .ok (.ifCond .eq 102, 3) := by decide +kernel
theorem dX7_readsRow_51 : decode cX7_readsRow 51 = .ok (.iload_n 2, 1) := by decide +kernel
theorem dX7_readsRow_52 : decode cX7_readsRow 52 = .ok (.ifCond .eq 30, 3) := by decide +kernel
theorem dX7_readsRow_55 : decode cX7_readsRow 55 = .ok (.iload_n 2, 1) := by decide +kernel
theorem dX7_readsRow_56 : decode cX7_readsRow 56 = .ok (.aload_n 0, 1) := by decide +kernel
theorem dX7_readsRow_57 : decode cX7_readsRow 57 = .ok (.getfield 13, 3) := by decide +kernel
theorem dX7_readsRow_60 : decode cX7_readsRow 60 = .ok (.iconst 0, 1) := by decide +kernel
theorem dX7_readsRow_61 : decode cX7_readsRow 61 = .ok (.iaload, 1) := by decide +kernel
theorem dX7_readsRow_62 : decode cX7_readsRow 62 = .ok (.if_icmp .lt 20, 3) := by decide +kernel
theorem dX7_readsRow_65 : decode cX7_readsRow 65 = .ok (.aload_n 0, 1) := by decide +kernel
theorem dX7_readsRow_66 : decode cX7_readsRow 66 = .ok (.getfield 13, 3) := by decide +kernel
theorem dX7_readsRow_69 : decode cX7_readsRow 69 = .ok (.iconst 1, 1) := by decide +kernel
theorem dX7_readsRow_70 : decode cX7_readsRow 70 = .ok (.iaload, 1) := by decide +kernel
theorem dX7_readsRow_71 : decode cX7_readsRow 71 = .ok (.ifCond .ne 79, 3) := by decide +kernel
theorem dX7_readsRow_74 : decode cX7_readsRow 74 = .ok (.aload_n 0, 1) := by decide +kernel
theorem dX7_readsRow_75 : decode cX7_readsRow 75 = .ok (.getfield 74, 3) := by decide +kernel
theorem dX7_readsRow_78 : decode cX7_readsRow 78 = .ok (.iconst 3, 1) := by decide +kernel
theorem dX7_readsRow_79 : decode cX7_readsRow 79 = .ok (.if_icmp .eq 71, 3) := by decide +kernel
theorem dX7_readsRow_82 : decode cX7_readsRow 82 = .ok (.aload_n 0, 1) := by decide +kernel
theorem dX7_readsRow_83 : decode cX7_readsRow 83 = .ok (.aload_n 0, 1) := by decide +kernel
theorem dX7_readsRow_84 : decode cX7_readsRow 84 = .ok (.getfield 74, 3) := by decide +kernel
theorem dX7_readsRow_87 : decode cX7_readsRow 87 = .ok (.iconst 2, 1) := by decide +kernel
theorem dX7_readsRow_88 : decode cX7_readsRow 88 = .ok (.if_icmp .ne 25, 3) := by decide +kernel
theorem dX7_readsRow_91 : decode cX7_readsRow 91 = .ok (.aload_n 0, 1) := by decide +kernel
theorem dX7_readsRow_92 : decode cX7_readsRow 92 = .ok (.getfield 71, 3) := by decide +kernel
theorem dX7_readsRow_95 : decode cX7_readsRow 95 = .ok (.iconst 0, 1) := by decide +kernel
theorem dX7_readsRow_96 : decode cX7_readsRow 96 = .ok (.bipush 7, 2) := by decide +kernel
theorem dX7_readsRow_98 : decode cX7_readsRow 98 = .ok (.invokestatic 57, 3) := by decide +kernel
theorem dX7_readsRow_101 : decode cX7_readsRow 101 = .ok (.ifCond .eq 12, 3) := by decide +kernel
theorem dX7_readsRow_104 : decode cX7_readsRow 104 = .ok (.iload_n 2, 1) := by decide +kernel
theorem dX7_readsRow_105 : decode cX7_readsRow 105 = .ok (.iload_n 1, 1) := by decide +kernel
theorem dX7_readsRow_106 : decode cX7_readsRow 106 = .ok (.if_icmp .ge 7, 3) := by decide +kernel
theorem dX7_readsRow_109 : decode cX7_readsRow 109 = .ok (.iconst 1, 1) := by decide +kernel
theorem dX7_readsRow_110 : decode cX7_readsRow 110 = .ok (.goto 4, 3) := by decide +kernel
theorem dX7_readsRow_113 : decode cX7_readsRow 113 = .ok (.iconst 0, 1) := by decide +kernel
theorem dX7_readsRow_114 : decode cX7_readsRow 114 = .ok (.invokevirtual 87, 3) := by decide +kernel
theorem dX7_readsRow_117 : decode cX7_readsRow 117 = .ok (.istore_n 3, 1) := by decide +kernel
theorem dX7_readsRow_118 : decode cX7_readsRow 118 = .ok (.aload_n 0, 1) := by decide +kernel
theorem dX7_readsRow_119 : decode cX7_readsRow 119 = .ok (.invokevirtual 80, 3) := by decide +kernel
theorem dX7_readsRow_122 : decode cX7_readsRow 122 = .ok (.ifCond .eq 25, 3) := by decide +kernel
theorem dX7_readsRow_125 : decode cX7_readsRow 125 = .ok (.aload_n 0, 1) := by decide +kernel
theorem dX7_readsRow_126 : decode cX7_readsRow 126 = .ok (.getfield 13, 3) := by decide +kernel
theorem dX7_readsRow_129 : decode cX7_readsRow 129 = .ok (.iconst 3, 1) := by decide +kernel
theorem dX7_readsRow_130 : decode cX7_readsRow 130 = .ok (.bipush 6, 2) := by decide +kernel
theorem dX7_readsRow_132 : decode cX7_readsRow 132 = .ok (.aload_n 0, 1) := by decide +kernel
theorem dX7_readsRow_133 : decode cX7_readsRow 133 = .ok (.getfield 13, 3) := by decide +kernel
theorem dX7_readsRow_136 : decode cX7_readsRow 136 = .ok (.iconst 1, 1) := by decide +kernel
theorem dX7_readsRow_137 : decode cX7_readsRow 137 = .ok (.iaload, 1) := by decide +kernel
theorem dX7_readsRow_138 : decode cX7_readsRow 138 = .ok (.imul, 1) := by decide +kernel
theorem dX7_readsRow_139 : decode cX7_readsRow 139 = .ok (.iadd, 1) := by decide +kernel
theorem dX7_readsRow_140 : decode cX7_readsRow 140 = .ok (.iload_n 2, 1) := by decide +kernel
theorem dX7_readsRow_141 : decode cX7_readsRow 141 = .ok (.iadd, 1) := by decide +kernel
theorem dX7_readsRow_142 : decode cX7_readsRow 142 = .ok (.iload_n 3, 1) := by decide +kernel
theorem dX7_readsRow_143 : decode cX7_readsRow 143 = .ok (.iastore, 1) := by decide +kernel
theorem dX7_readsRow_144 : decode cX7_readsRow 144 = .ok (.iinc 2 1, 3) := by decide +kernel
theorem dX7_readsRow_147 : decode cX7_readsRow 147 = .ok (.goto (-103), 3) := by decide +kernel
theorem dX7_readsRow_150 : decode cX7_readsRow 150 = .ok (.aload_n 0, 1) := by decide +kernel
theorem dX7_readsRow_151 : decode cX7_readsRow 151 = .ok (.getfield 13, 3) := by decide +kernel
theorem dX7_readsRow_154 : decode cX7_readsRow 154 = .ok (.iconst 0, 1) := by decide +kernel
theorem dX7_readsRow_155 : decode cX7_readsRow 155 = .ok (.aload_n 0, 1) := by decide +kernel
theorem dX7_readsRow_156 : decode cX7_readsRow 156 = .ok (.getfield 13, 3) := by decide +kernel
theorem dX7_readsRow_159 : decode cX7_readsRow 159 = .ok (.iconst 1, 1) := by decide +kernel
theorem dX7_readsRow_160 : decode cX7_readsRow 160 = .ok (.iaload, 1) := by decide +kernel
theorem dX7_readsRow_161 : decode cX7_readsRow 161 = .ok (.ifCond .ne 7, 3) := by decide +kernel
theorem dX7_readsRow_164 : decode cX7_readsRow 164 = .ok (.iload_n 2, 1) := by decide +kernel
theorem dX7_readsRow_165 : decode cX7_readsRow 165 = .ok (.goto 9, 3) := by decide +kernel
theorem dX7_readsRow_168 : decode cX7_readsRow 168 = .ok (.aload_n 0, 1) := by decide +kernel
theorem dX7_readsRow_169 : decode cX7_readsRow 169 = .ok (.getfield 13, 3) := by decide +kernel
theorem dX7_readsRow_172 : decode cX7_readsRow 172 = .ok (.iconst 0, 1) := by decide +kernel
theorem dX7_readsRow_173 : decode cX7_readsRow 173 = .ok (.iaload, 1) := by decide +kernel
theorem dX7_readsRow_174 : decode cX7_readsRow 174 = .ok (.iastore, 1) := by decide +kernel
theorem dX7_readsRow_175 : decode cX7_readsRow 175 = .ok (.aload_n 0, 1) := by decide +kernel
theorem dX7_readsRow_176 : decode cX7_readsRow 176 = .ok (.getfield 13, 3) := by decide +kernel
theorem dX7_readsRow_179 : decode cX7_readsRow 179 = .ok (.iconst 1, 1) := by decide +kernel
theorem dX7_readsRow_180 : decode cX7_readsRow 180 = .ok (.dup2, 1) := by decide +kernel
theorem dX7_readsRow_181 : decode cX7_readsRow 181 = .ok (.iaload, 1) := by decide +kernel
theorem dX7_readsRow_182 : decode cX7_readsRow 182 = .ok (.iconst 1, 1) := by decide +kernel
theorem dX7_readsRow_183 : decode cX7_readsRow 183 = .ok (.iadd, 1) := by decide +kernel
theorem dX7_readsRow_184 : decode cX7_readsRow 184 = .ok (.iastore, 1) := by decide +kernel
theorem dX7_readsRow_185 : decode cX7_readsRow 185 = .ok (.return_, 1) := by decide +kernel
theorem dX7_readsText_0 : decode cX7_readsText 0 = .ok (.iconst 0, 1) := by decide +kernel
theorem dX7_readsText_1 : decode cX7_readsText 1 = .ok (.istore_n 1, 1) := by decide +kernel
theorem dX7_readsText_2 : decode cX7_readsText 2 = .ok (.iload_n 1, 1) := by decide +kernel
theorem dX7_readsText_3 : decode cX7_readsText 3 = .ok (.bipush 99, 2) := by decide +kernel
theorem dX7_readsText_5 : decode cX7_readsText 5 = .ok (.if_icmp .ge 16, 3) := by decide +kernel
theorem dX7_readsText_8 : decode cX7_readsText 8 = .ok (.aload_n 0, 1) := by decide +kernel
theorem dX7_readsText_9 : decode cX7_readsText 9 = .ok (.getfield 13, 3) := by decide +kernel
theorem dX7_readsText_12 : decode cX7_readsText 12 = .ok (.iload_n 1, 1) := by decide +kernel
theorem dX7_readsText_13 : decode cX7_readsText 13 = .ok (.iconst 0, 1) := by decide +kernel
theorem dX7_readsText_14 : decode cX7_readsText 14 = .ok (.iastore, 1) := by decide +kernel
theorem dX7_readsText_15 : decode cX7_readsText 15 = .ok (.iinc 1 1, 3) := by decide +kernel
theorem dX7_readsText_18 : decode cX7_readsText 18 = .ok (.goto (-16), 3) := by decide +kernel
theorem dX7_readsText_21 : decode cX7_readsText 21 = .ok (.aload_n 0, 1) := by decide +kernel
theorem dX7_readsText_22 : decode cX7_readsText 22 = .ok (.iconst 0, 1) := by decide +kernel
theorem dX7_readsText_23 : decode cX7_readsText 23 = .ok (.putfield 61, 3) := by decide +kernel
theorem dX7_readsText_26 : decode cX7_readsText 26 = .ok (.aload_n 0, 1) := by decide +kernel
theorem dX7_readsText_27 : decode cX7_readsText 27 = .ok (.bipush (-9), 2) := by decide +kernel
theorem dX7_readsText_29 : decode cX7_readsText 29 = .ok (.putfield 77, 3) := by decide +kernel
theorem dX7_readsText_32 : decode cX7_readsText 32 = .ok (.aload_n 0, 1) := by decide +kernel
theorem dX7_readsText_33 : decode cX7_readsText 33 = .ok (.invokevirtual 84, 3) := by decide +kernel
theorem dX7_readsText_36 : decode cX7_readsText 36 = .ok (.iconst 0, 1) := by decide +kernel
theorem dX7_readsText_37 : decode cX7_readsText 37 = .ok (.istore_n 1, 1) := by decide +kernel
theorem dX7_readsText_38 : decode cX7_readsText 38 = .ok (.aload_n 0, 1) := by decide +kernel
theorem dX7_readsText_39 : decode cX7_readsText 39 = .ok (.invokevirtual 80, 3) := by decide +kernel
theorem dX7_readsText_42 : decode cX7_readsText 42 = .ok (.ifCond .eq 102, 3) := by decide +kernel
theorem dX7_readsText_45 : decode cX7_readsText 45 = .ok (.aload_n 0, 1) := by decide +kernel
theorem dX7_readsText_46 : decode cX7_readsText 46 = .ok (.getfield 74, 3) := by decide +kernel
theorem dX7_readsText_49 : decode cX7_readsText 49 = .ok (.ifCond .ne 12, 3) := by decide +kernel
theorem dX7_readsText_52 : decode cX7_readsText 52 = .ok (.aload_n 0, 1) := by decide +kernel
theorem dX7_readsText_53 : decode cX7_readsText 53 = .ok (.getfield 13, 3) := by decide +kernel
theorem dX7_readsText_56 : decode cX7_readsText 56 = .ok (.iconst 1, 1) := by decide +kernel
theorem dX7_readsText_57 : decode cX7_readsText 57 = .ok (.iaload, 1) := by decide +kernel
theorem dX7_readsText_58 : decode cX7_readsText 58 = .ok (.ifCond .ne 86, 3) := by decide +kernel
theorem dX7_readsText_61 : decode cX7_readsText 61 = .ok (.aload_n 0, 1) := by decide +kernel
theorem dX7_readsText_62 : decode cX7_readsText 62 = .ok (.getfield 74, 3) := by decide +kernel
theorem dX7_readsText_65 : decode cX7_readsText 65 = .ok (.iconst 1, 1) := by decide +kernel
theorem dX7_readsText_66 : decode cX7_readsText 66 = .ok (.if_icmp .ne 19, 3) := by decide +kernel
theorem dX7_readsText_69 : decode cX7_readsText 69 = .ok (.aload_n 0, 1) := by decide +kernel
theorem dX7_readsText_70 : decode cX7_readsText 70 = .ok (.getfield 71, 3) := by decide +kernel
theorem dX7_readsText_73 : decode cX7_readsText 73 = .ok (.bipush 114, 2) := by decide +kernel
theorem dX7_readsText_75 : decode cX7_readsText 75 = .ok (.if_icmp .ne 10, 3) := by decide +kernel
theorem dX7_readsText_78 : decode cX7_readsText 78 = .ok (.aload_n 0, 1) := by decide +kernel
theorem dX7_readsText_79 : decode cX7_readsText 79 = .ok (.invokevirtual 91, 3) := by decide +kernel
theorem dX7_readsText_82 : decode cX7_readsText 82 = .ok (.goto 38, 3) := by decide +kernel
theorem dX7_readsText_85 : decode cX7_readsText 85 = .ok (.aload_n 0, 1) := by decide +kernel
theorem dX7_readsText_86 : decode cX7_readsText 86 = .ok (.getfield 74, 3) := by decide +kernel
theorem dX7_readsText_89 : decode cX7_readsText 89 = .ok (.iconst 1, 1) := by decide +kernel
theorem dX7_readsText_90 : decode cX7_readsText 90 = .ok (.if_icmp .ne 24, 3) := by decide +kernel
theorem dX7_readsText_93 : decode cX7_readsText 93 = .ok (.aload_n 0, 1) := by decide +kernel
theorem dX7_readsText_94 : decode cX7_readsText 94 = .ok (.aload_n 0, 1) := by decide +kernel
theorem dX7_readsText_95 : decode cX7_readsText 95 = .ok (.getfield 71, 3) := by decide +kernel
theorem dX7_readsText_98 : decode cX7_readsText 98 = .ok (.bipush 100, 2) := by decide +kernel
theorem dX7_readsText_100 : decode cX7_readsText 100 = .ok (.if_icmp .ne 7, 3) := by decide +kernel
theorem dX7_readsText_103 : decode cX7_readsText 103 = .ok (.iconst 1, 1) := by decide +kernel
theorem dX7_readsText_104 : decode cX7_readsText 104 = .ok (.goto 4, 3) := by decide +kernel
theorem dX7_readsText_107 : decode cX7_readsText 107 = .ok (.iconst 0, 1) := by decide +kernel
theorem dX7_readsText_108 : decode cX7_readsText 108 = .ok (.invokevirtual 94, 3) := by decide +kernel
theorem dX7_readsText_111 : decode cX7_readsText 111 = .ok (.goto 9, 3) := by decide +kernel
theorem dX7_readsText_114 : decode cX7_readsText 114 = .ok (.aload_n 0, 1) := by decide +kernel
theorem dX7_readsText_115 : decode cX7_readsText 115 = .ok (.iconst 0, 1) := by decide +kernel
theorem dX7_readsText_116 : decode cX7_readsText 116 = .ok (.invokevirtual 87, 3) := by decide +kernel
theorem dX7_readsText_119 : decode cX7_readsText 119 = .ok (.pop, 1) := by decide +kernel
theorem dX7_readsText_120 : decode cX7_readsText 120 = .ok (.aload_n 0, 1) := by decide +kernel
theorem dX7_readsText_121 : decode cX7_readsText 121 = .ok (.aload_n 0, 1) := by decide +kernel
theorem dX7_readsText_122 : decode cX7_readsText 122 = .ok (.getfield 74, 3) := by decide +kernel
theorem dX7_readsText_125 : decode cX7_readsText 125 = .ok (.iconst 3, 1) := by decide +kernel
theorem dX7_readsText_126 : decode cX7_readsText 126 = .ok (.if_icmp .ne 7, 3) := by decide +kernel
theorem dX7_readsText_129 : decode cX7_readsText 129 = .ok (.iconst 1, 1) := by decide +kernel
theorem dX7_readsText_130 : decode cX7_readsText 130 = .ok (.goto 4, 3) := by decide +kernel
theorem dX7_readsText_133 : decode cX7_readsText 133 = .ok (.iconst 0, 1) := by decide +kernel
theorem dX7_readsText_134 : decode cX7_readsText 134 = .ok (.invokevirtual 87, 3) := by decide +kernel
theorem dX7_readsText_137 : decode cX7_readsText 137 = .ok (.pop, 1) := by decide +kernel
theorem dX7_readsText_138 : decode cX7_readsText 138 = .ok (.iinc 1 1, 3) := by decide +kernel
theorem dX7_readsText_141 : decode cX7_readsText 141 = .ok (.goto (-103), 3) := by decide +kernel
theorem dX7_readsText_144 : decode cX7_readsText 144 = .ok (.iconst 0, 1) := by decide +kernel
theorem dX7_readsText_145 : decode cX7_readsText 145 = .ok (.istore_n 2, 1) := by decide +kernel
theorem dX7_readsText_146 : decode cX7_readsText 146 = .ok (.iload_n 2, 1) := by decide +kernel
theorem dX7_readsText_147 : decode cX7_readsText 147 = .ok (.bipush 6, 2) := by decide +kernel
theorem dX7_readsText_149 : decode cX7_readsText 149 = .ok (.if_icmp .ge 19, 3) := by decide +kernel
theorem dX7_readsText_152 : decode cX7_readsText 152 = .ok (.aload_n 0, 1) := by decide +kernel
theorem dX7_readsText_153 : decode cX7_readsText 153 = .ok (.getfield 13, 3) := by decide +kernel
theorem dX7_readsText_156 : decode cX7_readsText 156 = .ok (.bipush 45, 2) := by decide +kernel
theorem dX7_readsText_158 : decode cX7_readsText 158 = .ok (.iload_n 2, 1) := by decide +kernel
theorem dX7_readsText_159 : decode cX7_readsText 159 = .ok (.iadd, 1) := by decide +kernel
theorem dX7_readsText_160 : decode cX7_readsText 160 = .ok (.iload_n 2, 1) := by decide +kernel
theorem dX7_readsText_161 : decode cX7_readsText 161 = .ok (.iastore, 1) := by decide +kernel
theorem dX7_readsText_162 : decode cX7_readsText 162 = .ok (.iinc 2 1, 3) := by decide +kernel
theorem dX7_readsText_165 : decode cX7_readsText 165 = .ok (.goto (-19), 3) := by decide +kernel
theorem dX7_readsText_168 : decode cX7_readsText 168 = .ok (.iload_n 1, 1) := by decide +kernel
theorem dX7_readsText_169 : decode cX7_readsText 169 = .ok (.ireturn, 1) := by decide +kernel
theorem dX7_tells_0 : decode cX7_tells 0 = .ok (.aload_n 0, 1) := by decide +kernel
theorem dX7_tells_1 : decode cX7_tells 1 = .ok (.iconst 0, 1) := by decide +kernel
theorem dX7_tells_2 : decode cX7_tells 2 = .ok (.putfield 50, 3) := by decide +kernel
theorem dX7_tells_5 : decode cX7_tells 5 = .ok (.aload_n 0, 1) := by decide +kernel
theorem dX7_tells_6 : decode cX7_tells 6 = .ok (.invokevirtual 98, 3) := by decide +kernel
theorem dX7_tells_9 : decode cX7_tells 9 = .ok (.istore_n 1, 1) := by decide +kernel
theorem dX7_tells_10 : decode cX7_tells 10 = .ok (.aload_n 0, 1) := by decide +kernel
theorem dX7_tells_11 : decode cX7_tells 11 = .ok (.invokevirtual 80, 3) := by decide +kernel
theorem dX7_tells_14 : decode cX7_tells 14 = .ok (.ifCond .ne 11, 3) := by decide +kernel
theorem dX7_tells_17 : decode cX7_tells 17 = .ok (.bipush (-10), 2) := by decide +kernel
theorem dX7_tells_19 : decode cX7_tells 19 = .ok (.aload_n 0, 1) := by decide +kernel
theorem dX7_tells_20 : decode cX7_tells 20 = .ok (.getfield 77, 3) := by decide +kernel
theorem dX7_tells_23 : decode cX7_tells 23 = .ok (.isub, 1) := by decide +kernel
theorem dX7_tells_24 : decode cX7_tells 24 = .ok (.ireturn, 1) := by decide +kernel
theorem dX7_tells_25 : decode cX7_tells 25 = .ok (.aload_n 0, 1) := by decide +kernel
theorem dX7_tells_26 : decode cX7_tells 26 = .ok (.invokevirtual 102, 3) := by decide +kernel
theorem dX7_tells_29 : decode cX7_tells 29 = .ok (.iconst 0, 1) := by decide +kernel
theorem dX7_tells_30 : decode cX7_tells 30 = .ok (.istore_n 2, 1) := by decide +kernel
theorem dX7_tells_31 : decode cX7_tells 31 = .ok (.iload_n 2, 1) := by decide +kernel
theorem dX7_tells_32 : decode cX7_tells 32 = .ok (.bipush 99, 2) := by decide +kernel
theorem dX7_tells_34 : decode cX7_tells 34 = .ok (.if_icmp .ge 21, 3) := by decide +kernel
theorem dX7_tells_37 : decode cX7_tells 37 = .ok (.aload_n 0, 1) := by decide +kernel
theorem dX7_tells_38 : decode cX7_tells 38 = .ok (.getfield 7, 3) := by decide +kernel
theorem dX7_tells_41 : decode cX7_tells 41 = .ok (.iload_n 2, 1) := by decide +kernel
theorem dX7_tells_42 : decode cX7_tells 42 = .ok (.aload_n 0, 1) := by decide +kernel
theorem dX7_tells_43 : decode cX7_tells 43 = .ok (.getfield 13, 3) := by decide +kernel
theorem dX7_tells_46 : decode cX7_tells 46 = .ok (.iload_n 2, 1) := by decide +kernel
theorem dX7_tells_47 : decode cX7_tells 47 = .ok (.iaload, 1) := by decide +kernel
theorem dX7_tells_48 : decode cX7_tells 48 = .ok (.iastore, 1) := by decide +kernel
theorem dX7_tells_49 : decode cX7_tells 49 = .ok (.iinc 2 1, 3) := by decide +kernel
theorem dX7_tells_52 : decode cX7_tells 52 = .ok (.goto (-21), 3) := by decide +kernel
theorem dX7_tells_55 : decode cX7_tells 55 = .ok (.aload_n 0, 1) := by decide +kernel
theorem dX7_tells_56 : decode cX7_tells 56 = .ok (.iconst 0, 1) := by decide +kernel
theorem dX7_tells_57 : decode cX7_tells 57 = .ok (.putfield 54, 3) := by decide +kernel
theorem dX7_tells_60 : decode cX7_tells 60 = .ok (.aload_n 0, 1) := by decide +kernel
theorem dX7_tells_61 : decode cX7_tells 61 = .ok (.iconst 0, 1) := by decide +kernel
theorem dX7_tells_62 : decode cX7_tells 62 = .ok (.putfield 105, 3) := by decide +kernel
theorem dX7_tells_65 : decode cX7_tells 65 = .ok (.aload_n 0, 1) := by decide +kernel
theorem dX7_tells_66 : decode cX7_tells 66 = .ok (.getfield 22, 3) := by decide +kernel
theorem dX7_tells_69 : decode cX7_tells 69 = .ok (.iconst 0, 1) := by decide +kernel
theorem dX7_tells_70 : decode cX7_tells 70 = .ok (.iconst 0, 1) := by decide +kernel
theorem dX7_tells_71 : decode cX7_tells 71 = .ok (.bastore, 1) := by decide +kernel
theorem dX7_tells_72 : decode cX7_tells 72 = .ok (.aload_n 0, 1) := by decide +kernel
theorem dX7_tells_73 : decode cX7_tells 73 = .ok (.getfield 22, 3) := by decide +kernel
theorem dX7_tells_76 : decode cX7_tells 76 = .ok (.iconst 1, 1) := by decide +kernel
theorem dX7_tells_77 : decode cX7_tells 77 = .ok (.iconst 0, 1) := by decide +kernel
theorem dX7_tells_78 : decode cX7_tells 78 = .ok (.bastore, 1) := by decide +kernel
theorem dX7_tells_79 : decode cX7_tells 79 = .ok (.iload_n 1, 1) := by decide +kernel
theorem dX7_tells_80 : decode cX7_tells 80 = .ok (.ireturn, 1) := by decide +kernel
theorem dX7_printed_0 : decode cX7_printed 0 = .ok (.iload_n 0, 1) := by decide +kernel
theorem dX7_printed_1 : decode cX7_printed 1 = .ok (.bipush 8, 2) := by decide +kernel
theorem dX7_printed_3 : decode cX7_printed 3 = .ok (.if_icmp .lt 10, 3) := by decide +kernel
theorem dX7_printed_6 : decode cX7_printed 6 = .ok (.iload_n 0, 1) := by decide +kernel
theorem dX7_printed_7 : decode cX7_printed 7 = .ok (.bipush 8, 2) := by decide +kernel
theorem dX7_printed_9 : decode cX7_printed 9 = .ok (.isub, 1) := by decide +kernel
theorem dX7_printed_10 : decode cX7_printed 10 = .ok (.goto 6, 3) := by decide +kernel
theorem dX7_printed_13 : decode cX7_printed 13 = .ok (.iload_n 1, 1) := by decide +kernel
theorem dX7_printed_14 : decode cX7_printed 14 = .ok (.iload_n 0, 1) := by decide +kernel
theorem dX7_printed_15 : decode cX7_printed 15 = .ok (.ior, 1) := by decide +kernel
theorem dX7_printed_16 : decode cX7_printed 16 = .ok (.ireturn, 1) := by decide +kernel
theorem dX7_proves_0 : decode cX7_proves 0 = .ok (.iconst 0, 1) := by decide +kernel
theorem dX7_proves_1 : decode cX7_proves 1 = .ok (.istore 4, 2) := by decide +kernel
theorem dX7_proves_3 : decode cX7_proves 3 = .ok (.iload 4, 2) := by decide +kernel
theorem dX7_proves_5 : decode cX7_proves 5 = .ok (.bipush 36, 2) := by decide +kernel
theorem dX7_proves_7 : decode cX7_proves 7 = .ok (.if_icmp .ge 17, 3) := by decide +kernel
theorem dX7_proves_10 : decode cX7_proves 10 = .ok (.aload_n 0, 1) := by decide +kernel
theorem dX7_proves_11 : decode cX7_proves 11 = .ok (.getfield 32, 3) := by decide +kernel
theorem dX7_proves_14 : decode cX7_proves 14 = .ok (.iload 4, 2) := by decide +kernel
theorem dX7_proves_16 : decode cX7_proves 16 = .ok (.iconst 0, 1) := by decide +kernel
theorem dX7_proves_17 : decode cX7_proves 17 = .ok (.iastore, 1) := by decide +kernel
theorem dX7_proves_18 : decode cX7_proves 18 = .ok (.iinc 4 1, 3) := by decide +kernel
theorem dX7_proves_21 : decode cX7_proves 21 = .ok (.goto (-18), 3) := by decide +kernel
theorem dX7_proves_24 : decode cX7_proves 24 = .ok (.iconst 0, 1) := by decide +kernel
theorem dX7_proves_25 : decode cX7_proves 25 = .ok (.istore 4, 2) := by decide +kernel
theorem dX7_proves_27 : decode cX7_proves 27 = .ok (.iload 4, 2) := by decide +kernel
theorem dX7_proves_29 : decode cX7_proves 29 = .ok (.aload_n 0, 1) := by decide +kernel
theorem dX7_proves_30 : decode cX7_proves 30 = .ok (.getfield 7, 3) := by decide +kernel
theorem dX7_proves_33 : decode cX7_proves 33 = .ok (.iconst 2, 1) := by decide +kernel
theorem dX7_proves_34 : decode cX7_proves 34 = .ok (.iaload, 1) := by decide +kernel
theorem dX7_proves_35 : decode cX7_proves 35 = .ok (.if_icmp .ge 67, 3) := by decide +kernel
theorem dX7_proves_38 : decode cX7_proves 38 = .ok (.aload_n 0, 1) := by decide +kernel
theorem dX7_proves_39 : decode cX7_proves 39 = .ok (.getfield 7, 3) := by decide +kernel
theorem dX7_proves_42 : decode cX7_proves 42 = .ok (.bipush 45, 2) := by decide +kernel
theorem dX7_proves_44 : decode cX7_proves 44 = .ok (.iload 4, 2) := by decide +kernel
theorem dX7_proves_46 : decode cX7_proves 46 = .ok (.iadd, 1) := by decide +kernel
theorem dX7_proves_47 : decode cX7_proves 47 = .ok (.iaload, 1) := by decide +kernel
theorem dX7_proves_48 : decode cX7_proves 48 = .ok (.istore 5, 2) := by decide +kernel
theorem dX7_proves_50 : decode cX7_proves 50 = .ok (.aload_n 0, 1) := by decide +kernel
theorem dX7_proves_51 : decode cX7_proves 51 = .ok (.iload 5, 2) := by decide +kernel
theorem dX7_proves_53 : decode cX7_proves 53 = .ok (.iload 5, 2) := by decide +kernel
theorem dX7_proves_55 : decode cX7_proves 55 = .ok (.iload_n 1, 1) := by decide +kernel
theorem dX7_proves_56 : decode cX7_proves 56 = .ok (.if_icmp .ne 7, 3) := by decide +kernel
theorem dX7_proves_59 : decode cX7_proves 59 = .ok (.iload_n 2, 1) := by decide +kernel
theorem dX7_proves_60 : decode cX7_proves 60 = .ok (.goto 13, 3) := by decide +kernel
theorem dX7_proves_63 : decode cX7_proves 63 = .ok (.aload_n 0, 1) := by decide +kernel
theorem dX7_proves_64 : decode cX7_proves 64 = .ok (.getfield 7, 3) := by decide +kernel
theorem dX7_proves_67 : decode cX7_proves 67 = .ok (.bipush 87, 2) := by decide +kernel
theorem dX7_proves_69 : decode cX7_proves 69 = .ok (.iload 5, 2) := by decide +kernel
theorem dX7_proves_71 : decode cX7_proves 71 = .ok (.iadd, 1) := by decide +kernel
theorem dX7_proves_72 : decode cX7_proves 72 = .ok (.iaload, 1) := by decide +kernel
theorem dX7_proves_73 : decode cX7_proves 73 = .ok (.iload 5, 2) := by decide +kernel
theorem dX7_proves_75 : decode cX7_proves 75 = .ok (.iload_n 1, 1) := by decide +kernel
theorem dX7_proves_76 : decode cX7_proves 76 = .ok (.if_icmp .ne 7, 3) := by decide +kernel
theorem dX7_proves_79 : decode cX7_proves 79 = .ok (.iload_n 3, 1) := by decide +kernel
theorem dX7_proves_80 : decode cX7_proves 80 = .ok (.goto 13, 3) := by decide +kernel
theorem dX7_proves_83 : decode cX7_proves 83 = .ok (.aload_n 0, 1) := by decide +kernel
theorem dX7_proves_84 : decode cX7_proves 84 = .ok (.getfield 7, 3) := by decide +kernel
theorem dX7_proves_87 : decode cX7_proves 87 = .ok (.bipush 93, 2) := by decide +kernel
theorem dX7_proves_89 : decode cX7_proves 89 = .ok (.iload 5, 2) := by decide +kernel
theorem dX7_proves_91 : decode cX7_proves 91 = .ok (.iadd, 1) := by decide +kernel
theorem dX7_proves_92 : decode cX7_proves 92 = .ok (.iaload, 1) := by decide +kernel
theorem dX7_proves_93 : decode cX7_proves 93 = .ok (.invokevirtual 108, 3) := by decide +kernel
theorem dX7_proves_96 : decode cX7_proves 96 = .ok (.iinc 4 1, 3) := by decide +kernel
theorem dX7_proves_99 : decode cX7_proves 99 = .ok (.goto (-72), 3) := by decide +kernel
theorem dX7_proves_102 : decode cX7_proves 102 = .ok (.return_, 1) := by decide +kernel
theorem dX7_prints_0 : decode cX7_prints 0 = .ok (.iconst 0, 1) := by decide +kernel
theorem dX7_prints_1 : decode cX7_prints 1 = .ok (.istore 4, 2) := by decide +kernel
theorem dX7_prints_3 : decode cX7_prints 3 = .ok (.iload 4, 2) := by decide +kernel
theorem dX7_prints_5 : decode cX7_prints 5 = .ok (.bipush 36, 2) := by decide +kernel
theorem dX7_prints_7 : decode cX7_prints 7 = .ok (.if_icmp .ge 141, 3) := by decide +kernel
theorem dX7_prints_10 : decode cX7_prints 10 = .ok (.iload 4, 2) := by decide +kernel
theorem dX7_prints_12 : decode cX7_prints 12 = .ok (.bipush 6, 2) := by decide +kernel
theorem dX7_prints_14 : decode cX7_prints 14 = .ok (.irem, 1) := by decide +kernel
theorem dX7_prints_15 : decode cX7_prints 15 = .ok (.iload_n 2, 1) := by decide +kernel
theorem dX7_prints_16 : decode cX7_prints 16 = .ok (.iadd, 1) := by decide +kernel
theorem dX7_prints_17 : decode cX7_prints 17 = .ok (.istore 5, 2) := by decide +kernel
theorem dX7_prints_19 : decode cX7_prints 19 = .ok (.iload 4, 2) := by decide +kernel
theorem dX7_prints_21 : decode cX7_prints 21 = .ok (.bipush 6, 2) := by decide +kernel
theorem dX7_prints_23 : decode cX7_prints 23 = .ok (.idiv, 1) := by decide +kernel
theorem dX7_prints_24 : decode cX7_prints 24 = .ok (.iload_n 3, 1) := by decide +kernel
theorem dX7_prints_25 : decode cX7_prints 25 = .ok (.iadd, 1) := by decide +kernel
theorem dX7_prints_26 : decode cX7_prints 26 = .ok (.istore 6, 2) := by decide +kernel
theorem dX7_prints_28 : decode cX7_prints 28 = .ok (.aload_n 0, 1) := by decide +kernel
theorem dX7_prints_29 : decode cX7_prints 29 = .ok (.getfield 7, 3) := by decide +kernel
theorem dX7_prints_32 : decode cX7_prints 32 = .ok (.bipush 51, 2) := by decide +kernel
theorem dX7_prints_34 : decode cX7_prints 34 = .ok (.bipush 6, 2) := by decide +kernel
theorem dX7_prints_36 : decode cX7_prints 36 = .ok (.iload_n 1, 1) := by decide +kernel
theorem dX7_prints_37 : decode cX7_prints 37 = .ok (.imul, 1) := by decide +kernel
theorem dX7_prints_38 : decode cX7_prints 38 = .ok (.iadd, 1) := by decide +kernel
theorem dX7_prints_39 : decode cX7_prints 39 = .ok (.iload 4, 2) := by decide +kernel
theorem dX7_prints_41 : decode cX7_prints 41 = .ok (.bipush 6, 2) := by decide +kernel
theorem dX7_prints_43 : decode cX7_prints 43 = .ok (.idiv, 1) := by decide +kernel
theorem dX7_prints_44 : decode cX7_prints 44 = .ok (.iadd, 1) := by decide +kernel
theorem dX7_prints_45 : decode cX7_prints 45 = .ok (.iaload, 1) := by decide +kernel
theorem dX7_prints_46 : decode cX7_prints 46 = .ok (.iload 4, 2) := by decide +kernel
theorem dX7_prints_48 : decode cX7_prints 48 = .ok (.bipush 6, 2) := by decide +kernel
theorem dX7_prints_50 : decode cX7_prints 50 = .ok (.irem, 1) := by decide +kernel
theorem dX7_prints_51 : decode cX7_prints 51 = .ok (.ishr, 1) := by decide +kernel
theorem dX7_prints_52 : decode cX7_prints 52 = .ok (.iconst 1, 1) := by decide +kernel
theorem dX7_prints_53 : decode cX7_prints 53 = .ok (.iand, 1) := by decide +kernel
theorem dX7_prints_54 : decode cX7_prints 54 = .ok (.iconst 1, 1) := by decide +kernel
theorem dX7_prints_55 : decode cX7_prints 55 = .ok (.if_icmp .ne 7, 3) := by decide +kernel
theorem dX7_prints_58 : decode cX7_prints 58 = .ok (.iconst 1, 1) := by decide +kernel
theorem dX7_prints_59 : decode cX7_prints 59 = .ok (.goto 4, 3) := by decide +kernel
theorem dX7_prints_62 : decode cX7_prints 62 = .ok (.iconst 0, 1) := by decide +kernel
theorem dX7_prints_63 : decode cX7_prints 63 = .ok (.istore 7, 2) := by decide +kernel
theorem dX7_prints_65 : decode cX7_prints 65 = .ok (.iload 7, 2) := by decide +kernel
theorem dX7_prints_67 : decode cX7_prints 67 = .ok (.ifCond .eq 75, 3) := by decide +kernel
theorem dX7_prints_70 : decode cX7_prints 70 = .ok (.iload 5, 2) := by decide +kernel
theorem dX7_prints_72 : decode cX7_prints 72 = .ok (.iconst 0, 1) := by decide +kernel
theorem dX7_prints_73 : decode cX7_prints 73 = .ok (.aload_n 0, 1) := by decide +kernel
theorem dX7_prints_74 : decode cX7_prints 74 = .ok (.getfield 7, 3) := by decide +kernel
theorem dX7_prints_77 : decode cX7_prints 77 = .ok (.iconst 0, 1) := by decide +kernel
theorem dX7_prints_78 : decode cX7_prints 78 = .ok (.iaload, 1) := by decide +kernel
theorem dX7_prints_79 : decode cX7_prints 79 = .ok (.iconst 1, 1) := by decide +kernel
theorem dX7_prints_80 : decode cX7_prints 80 = .ok (.isub, 1) := by decide +kernel
theorem dX7_prints_81 : decode cX7_prints 81 = .ok (.invokestatic 57, 3) := by decide +kernel
theorem dX7_prints_84 : decode cX7_prints 84 = .ok (.ifCond .eq 58, 3) := by decide +kernel
theorem dX7_prints_87 : decode cX7_prints 87 = .ok (.iload 6, 2) := by decide +kernel
theorem dX7_prints_89 : decode cX7_prints 89 = .ok (.iconst 0, 1) := by decide +kernel
theorem dX7_prints_90 : decode cX7_prints 90 = .ok (.aload_n 0, 1) := by decide +kernel
theorem dX7_prints_91 : decode cX7_prints 91 = .ok (.getfield 7, 3) := by decide +kernel
theorem dX7_prints_94 : decode cX7_prints 94 = .ok (.iconst 1, 1) := by decide +kernel
theorem dX7_prints_95 : decode cX7_prints 95 = .ok (.iaload, 1) := by decide +kernel
theorem dX7_prints_96 : decode cX7_prints 96 = .ok (.iconst 1, 1) := by decide +kernel
theorem dX7_prints_97 : decode cX7_prints 97 = .ok (.isub, 1) := by decide +kernel
theorem dX7_prints_98 : decode cX7_prints 98 = .ok (.invokestatic 57, 3) := by decide +kernel
theorem dX7_prints_101 : decode cX7_prints 101 = .ok (.ifCond .eq 41, 3) := by decide +kernel
theorem dX7_prints_104 : decode cX7_prints 104 = .ok (.aload_n 0, 1) := by decide +kernel
theorem dX7_prints_105 : decode cX7_prints 105 = .ok (.getfield 32, 3) := by decide +kernel
theorem dX7_prints_108 : decode cX7_prints 108 = .ok (.bipush 6, 2) := by decide +kernel
theorem dX7_prints_110 : decode cX7_prints 110 = .ok (.iload 6, 2) := by decide +kernel
theorem dX7_prints_112 : decode cX7_prints 112 = .ok (.imul, 1) := by decide +kernel
theorem dX7_prints_113 : decode cX7_prints 113 = .ok (.iload 5, 2) := by decide +kernel
theorem dX7_prints_115 : decode cX7_prints 115 = .ok (.iadd, 1) := by decide +kernel
theorem dX7_prints_116 : decode cX7_prints 116 = .ok (.aload_n 0, 1) := by decide +kernel
theorem dX7_prints_117 : decode cX7_prints 117 = .ok (.getfield 7, 3) := by decide +kernel
theorem dX7_prints_120 : decode cX7_prints 120 = .ok (.bipush 39, 2) := by decide +kernel
theorem dX7_prints_122 : decode cX7_prints 122 = .ok (.iload_n 1, 1) := by decide +kernel
theorem dX7_prints_123 : decode cX7_prints 123 = .ok (.iadd, 1) := by decide +kernel
theorem dX7_prints_124 : decode cX7_prints 124 = .ok (.iaload, 1) := by decide +kernel
theorem dX7_prints_125 : decode cX7_prints 125 = .ok (.aload_n 0, 1) := by decide +kernel
theorem dX7_prints_126 : decode cX7_prints 126 = .ok (.getfield 32, 3) := by decide +kernel
theorem dX7_prints_129 : decode cX7_prints 129 = .ok (.bipush 6, 2) := by decide +kernel
theorem dX7_prints_131 : decode cX7_prints 131 = .ok (.iload 6, 2) := by decide +kernel
theorem dX7_prints_133 : decode cX7_prints 133 = .ok (.imul, 1) := by decide +kernel
theorem dX7_prints_134 : decode cX7_prints 134 = .ok (.iload 5, 2) := by decide +kernel
theorem dX7_prints_136 : decode cX7_prints 136 = .ok (.iadd, 1) := by decide +kernel
theorem dX7_prints_137 : decode cX7_prints 137 = .ok (.iaload, 1) := by decide +kernel
theorem dX7_prints_138 : decode cX7_prints 138 = .ok (.invokestatic 112, 3) := by decide +kernel
theorem dX7_prints_141 : decode cX7_prints 141 = .ok (.iastore, 1) := by decide +kernel
theorem dX7_prints_142 : decode cX7_prints 142 = .ok (.iinc 4 1, 3) := by decide +kernel
theorem dX7_prints_145 : decode cX7_prints 145 = .ok (.goto (-142), 3) := by decide +kernel
theorem dX7_prints_148 : decode cX7_prints 148 = .ok (.return_, 1) := by decide +kernel
theorem dX7_wrongCells_0 : decode cX7_wrongCells 0 = .ok (.iconst 0, 1) := by decide +kernel
theorem dX7_wrongCells_1 : decode cX7_wrongCells 1 = .ok (.istore_n 1, 1) := by decide +kernel
theorem dX7_wrongCells_2 : decode cX7_wrongCells 2 = .ok (.iconst 0, 1) := by decide +kernel
theorem dX7_wrongCells_3 : decode cX7_wrongCells 3 = .ok (.istore_n 2, 1) := by decide +kernel
theorem dX7_wrongCells_4 : decode cX7_wrongCells 4 = .ok (.iload_n 2, 1) := by decide +kernel
theorem dX7_wrongCells_5 : decode cX7_wrongCells 5 = .ok (.aload_n 0, 1) := by decide +kernel
theorem dX7_wrongCells_6 : decode cX7_wrongCells 6 = .ok (.getfield 7, 3) := by decide +kernel
theorem dX7_wrongCells_9 : decode cX7_wrongCells 9 = .ok (.iconst 1, 1) := by decide +kernel
theorem dX7_wrongCells_10 : decode cX7_wrongCells 10 = .ok (.iaload, 1) := by decide +kernel
theorem dX7_wrongCells_11 : decode cX7_wrongCells 11 = .ok (.if_icmp .ge 62, 3) := by decide +kernel
theorem dX7_wrongCells_14 : decode cX7_wrongCells 14 = .ok (.iconst 0, 1) := by decide +kernel
theorem dX7_wrongCells_15 : decode cX7_wrongCells 15 = .ok (.istore_n 3, 1) := by decide +kernel
theorem dX7_wrongCells_16 : decode cX7_wrongCells 16 = .ok (.iload_n 3, 1) := by decide +kernel
theorem dX7_wrongCells_17 : decode cX7_wrongCells 17 = .ok (.aload_n 0, 1) := by decide +kernel
theorem dX7_wrongCells_18 : decode cX7_wrongCells 18 = .ok (.getfield 7, 3) := by decide +kernel
theorem dX7_wrongCells_21 : decode cX7_wrongCells 21 = .ok (.iconst 0, 1) := by decide +kernel
theorem dX7_wrongCells_22 : decode cX7_wrongCells 22 = .ok (.iaload, 1) := by decide +kernel
theorem dX7_wrongCells_23 : decode cX7_wrongCells 23 = .ok (.if_icmp .ge 44, 3) := by decide +kernel
theorem dX7_wrongCells_26 : decode cX7_wrongCells 26 = .ok (.iload_n 1, 1) := by decide +kernel
theorem dX7_wrongCells_27 : decode cX7_wrongCells 27 = .ok (.aload_n 0, 1) := by decide +kernel
theorem dX7_wrongCells_28 : decode cX7_wrongCells 28 = .ok (.getfield 32, 3) := by decide +kernel
theorem dX7_wrongCells_31 : decode cX7_wrongCells 31 = .ok (.bipush 6, 2) := by decide +kernel
theorem dX7_wrongCells_33 : decode cX7_wrongCells 33 = .ok (.iload_n 2, 1) := by decide +kernel
theorem dX7_wrongCells_34 : decode cX7_wrongCells 34 = .ok (.imul, 1) := by decide +kernel
theorem dX7_wrongCells_35 : decode cX7_wrongCells 35 = .ok (.iload_n 3, 1) := by decide +kernel
theorem dX7_wrongCells_36 : decode cX7_wrongCells 36 = .ok (.iadd, 1) := by decide +kernel
theorem dX7_wrongCells_37 : decode cX7_wrongCells 37 = .ok (.iaload, 1) := by decide +kernel
theorem dX7_wrongCells_38 : decode cX7_wrongCells 38 = .ok (.aload_n 0, 1) := by decide +kernel
theorem dX7_wrongCells_39 : decode cX7_wrongCells 39 = .ok (.getfield 7, 3) := by decide +kernel
theorem dX7_wrongCells_42 : decode cX7_wrongCells 42 = .ok (.iconst 3, 1) := by decide +kernel
theorem dX7_wrongCells_43 : decode cX7_wrongCells 43 = .ok (.bipush 6, 2) := by decide +kernel
theorem dX7_wrongCells_45 : decode cX7_wrongCells 45 = .ok (.iload_n 2, 1) := by decide +kernel
theorem dX7_wrongCells_46 : decode cX7_wrongCells 46 = .ok (.imul, 1) := by decide +kernel
theorem dX7_wrongCells_47 : decode cX7_wrongCells 47 = .ok (.iadd, 1) := by decide +kernel
theorem dX7_wrongCells_48 : decode cX7_wrongCells 48 = .ok (.iload_n 3, 1) := by decide +kernel
theorem dX7_wrongCells_49 : decode cX7_wrongCells 49 = .ok (.iadd, 1) := by decide +kernel
theorem dX7_wrongCells_50 : decode cX7_wrongCells 50 = .ok (.iaload, 1) := by decide +kernel
theorem dX7_wrongCells_51 : decode cX7_wrongCells 51 = .ok (.if_icmp .ne 7, 3) := by decide +kernel
theorem dX7_wrongCells_54 : decode cX7_wrongCells 54 = .ok (.iconst 0, 1) := by decide +kernel
theorem dX7_wrongCells_55 : decode cX7_wrongCells 55 = .ok (.goto 4, 3) := by decide +kernel
theorem dX7_wrongCells_58 : decode cX7_wrongCells 58 = .ok (.iconst 1, 1) := by decide +kernel
theorem dX7_wrongCells_59 : decode cX7_wrongCells 59 = .ok (.iadd, 1) := by decide +kernel
theorem dX7_wrongCells_60 : decode cX7_wrongCells 60 = .ok (.istore_n 1, 1) := by decide +kernel
theorem dX7_wrongCells_61 : decode cX7_wrongCells 61 = .ok (.iinc 3 1, 3) := by decide +kernel
theorem dX7_wrongCells_64 : decode cX7_wrongCells 64 = .ok (.goto (-48), 3) := by decide +kernel
theorem dX7_wrongCells_67 : decode cX7_wrongCells 67 = .ok (.iinc 2 1, 3) := by decide +kernel
theorem dX7_wrongCells_70 : decode cX7_wrongCells 70 = .ok (.goto (-66), 3) := by decide +kernel
theorem dX7_wrongCells_73 : decode cX7_wrongCells 73 = .ok (.iload_n 1, 1) := by decide +kernel
theorem dX7_wrongCells_74 : decode cX7_wrongCells 74 = .ok (.ireturn, 1) := by decide +kernel
theorem dX7_mixes_0 : decode cX7_mixes 0 = .ok (.iconst 0, 1) := by decide +kernel
theorem dX7_mixes_1 : decode cX7_mixes 1 = .ok (.istore_n 1, 1) := by decide +kernel
theorem dX7_mixes_2 : decode cX7_mixes 2 = .ok (.iload_n 1, 1) := by decide +kernel
theorem dX7_mixes_3 : decode cX7_mixes 3 = .ok (.iconst 1, 1) := by decide +kernel
theorem dX7_mixes_4 : decode cX7_mixes 4 = .ok (.aload_n 0, 1) := by decide +kernel
theorem dX7_mixes_5 : decode cX7_mixes 5 = .ok (.getfield 7, 3) := by decide +kernel
theorem dX7_mixes_8 : decode cX7_mixes 8 = .ok (.iconst 2, 1) := by decide +kernel
theorem dX7_mixes_9 : decode cX7_mixes 9 = .ok (.iaload, 1) := by decide +kernel
theorem dX7_mixes_10 : decode cX7_mixes 10 = .ok (.ishl, 1) := by decide +kernel
theorem dX7_mixes_11 : decode cX7_mixes 11 = .ok (.if_icmp .ge 73, 3) := by decide +kernel
theorem dX7_mixes_14 : decode cX7_mixes 14 = .ok (.iconst 0, 1) := by decide +kernel
theorem dX7_mixes_15 : decode cX7_mixes 15 = .ok (.istore_n 2, 1) := by decide +kernel
theorem dX7_mixes_16 : decode cX7_mixes 16 = .ok (.iconst 0, 1) := by decide +kernel
theorem dX7_mixes_17 : decode cX7_mixes 17 = .ok (.istore_n 3, 1) := by decide +kernel
theorem dX7_mixes_18 : decode cX7_mixes 18 = .ok (.iload_n 3, 1) := by decide +kernel
theorem dX7_mixes_19 : decode cX7_mixes 19 = .ok (.aload_n 0, 1) := by decide +kernel
theorem dX7_mixes_20 : decode cX7_mixes 20 = .ok (.getfield 7, 3) := by decide +kernel
theorem dX7_mixes_23 : decode cX7_mixes 23 = .ok (.iconst 2, 1) := by decide +kernel
theorem dX7_mixes_24 : decode cX7_mixes 24 = .ok (.iaload, 1) := by decide +kernel
theorem dX7_mixes_25 : decode cX7_mixes 25 = .ok (.if_icmp .ge 46, 3) := by decide +kernel
theorem dX7_mixes_28 : decode cX7_mixes 28 = .ok (.iload_n 1, 1) := by decide +kernel
theorem dX7_mixes_29 : decode cX7_mixes 29 = .ok (.aload_n 0, 1) := by decide +kernel
theorem dX7_mixes_30 : decode cX7_mixes 30 = .ok (.getfield 35, 3) := by decide +kernel
theorem dX7_mixes_33 : decode cX7_mixes 33 = .ok (.iload_n 3, 1) := by decide +kernel
theorem dX7_mixes_34 : decode cX7_mixes 34 = .ok (.iaload, 1) := by decide +kernel
theorem dX7_mixes_35 : decode cX7_mixes 35 = .ok (.ishr, 1) := by decide +kernel
theorem dX7_mixes_36 : decode cX7_mixes 36 = .ok (.iconst 1, 1) := by decide +kernel
theorem dX7_mixes_37 : decode cX7_mixes 37 = .ok (.iand, 1) := by decide +kernel
theorem dX7_mixes_38 : decode cX7_mixes 38 = .ok (.iconst 1, 1) := by decide +kernel
theorem dX7_mixes_39 : decode cX7_mixes 39 = .ok (.if_icmp .ne 24, 3) := by decide +kernel
theorem dX7_mixes_42 : decode cX7_mixes 42 = .ok (.aload_n 0, 1) := by decide +kernel
theorem dX7_mixes_43 : decode cX7_mixes 43 = .ok (.getfield 7, 3) := by decide +kernel
theorem dX7_mixes_46 : decode cX7_mixes 46 = .ok (.bipush 39, 2) := by decide +kernel
theorem dX7_mixes_48 : decode cX7_mixes 48 = .ok (.aload_n 0, 1) := by decide +kernel
theorem dX7_mixes_49 : decode cX7_mixes 49 = .ok (.getfield 35, 3) := by decide +kernel
theorem dX7_mixes_52 : decode cX7_mixes 52 = .ok (.iload_n 3, 1) := by decide +kernel
theorem dX7_mixes_53 : decode cX7_mixes 53 = .ok (.iaload, 1) := by decide +kernel
theorem dX7_mixes_54 : decode cX7_mixes 54 = .ok (.iadd, 1) := by decide +kernel
theorem dX7_mixes_55 : decode cX7_mixes 55 = .ok (.iaload, 1) := by decide +kernel
theorem dX7_mixes_56 : decode cX7_mixes 56 = .ok (.iload_n 2, 1) := by decide +kernel
theorem dX7_mixes_57 : decode cX7_mixes 57 = .ok (.invokestatic 112, 3) := by decide +kernel
theorem dX7_mixes_60 : decode cX7_mixes 60 = .ok (.goto 4, 3) := by decide +kernel
theorem dX7_mixes_63 : decode cX7_mixes 63 = .ok (.iload_n 2, 1) := by decide +kernel
theorem dX7_mixes_64 : decode cX7_mixes 64 = .ok (.istore_n 2, 1) := by decide +kernel
theorem dX7_mixes_65 : decode cX7_mixes 65 = .ok (.iinc 3 1, 3) := by decide +kernel
theorem dX7_mixes_68 : decode cX7_mixes 68 = .ok (.goto (-50), 3) := by decide +kernel
theorem dX7_mixes_71 : decode cX7_mixes 71 = .ok (.aload_n 0, 1) := by decide +kernel
theorem dX7_mixes_72 : decode cX7_mixes 72 = .ok (.getfield 38, 3) := by decide +kernel
theorem dX7_mixes_75 : decode cX7_mixes 75 = .ok (.iload_n 1, 1) := by decide +kernel
theorem dX7_mixes_76 : decode cX7_mixes 76 = .ok (.iload_n 2, 1) := by decide +kernel
theorem dX7_mixes_77 : decode cX7_mixes 77 = .ok (.iastore, 1) := by decide +kernel
theorem dX7_mixes_78 : decode cX7_mixes 78 = .ok (.iinc 1 1, 3) := by decide +kernel
theorem dX7_mixes_81 : decode cX7_mixes 81 = .ok (.goto (-79), 3) := by decide +kernel
theorem dX7_mixes_84 : decode cX7_mixes 84 = .ok (.iconst 0, 1) := by decide +kernel
theorem dX7_mixes_85 : decode cX7_mixes 85 = .ok (.istore_n 1, 1) := by decide +kernel
theorem dX7_mixes_86 : decode cX7_mixes 86 = .ok (.iload_n 1, 1) := by decide +kernel
theorem dX7_mixes_87 : decode cX7_mixes 87 = .ok (.iconst 1, 1) := by decide +kernel
theorem dX7_mixes_88 : decode cX7_mixes 88 = .ok (.aload_n 0, 1) := by decide +kernel
theorem dX7_mixes_89 : decode cX7_mixes 89 = .ok (.getfield 7, 3) := by decide +kernel
theorem dX7_mixes_92 : decode cX7_mixes 92 = .ok (.iconst 2, 1) := by decide +kernel
theorem dX7_mixes_93 : decode cX7_mixes 93 = .ok (.iaload, 1) := by decide +kernel
theorem dX7_mixes_94 : decode cX7_mixes 94 = .ok (.ishl, 1) := by decide +kernel
theorem dX7_mixes_95 : decode cX7_mixes 95 = .ok (.if_icmp .ge 58, 3) := by decide +kernel
theorem dX7_mixes_98 : decode cX7_mixes 98 = .ok (.aload_n 0, 1) := by decide +kernel
theorem dX7_mixes_99 : decode cX7_mixes 99 = .ok (.getfield 41, 3) := by decide +kernel
theorem dX7_mixes_102 : decode cX7_mixes 102 = .ok (.iload_n 1, 1) := by decide +kernel
theorem dX7_mixes_103 : decode cX7_mixes 103 = .ok (.iconst 0, 1) := by decide +kernel
theorem dX7_mixes_104 : decode cX7_mixes 104 = .ok (.iastore, 1) := by decide +kernel
theorem dX7_mixes_105 : decode cX7_mixes 105 = .ok (.iconst 0, 1) := by decide +kernel
theorem dX7_mixes_106 : decode cX7_mixes 106 = .ok (.istore_n 2, 1) := by decide +kernel
theorem dX7_mixes_107 : decode cX7_mixes 107 = .ok (.iload_n 2, 1) := by decide +kernel
theorem dX7_mixes_108 : decode cX7_mixes 108 = .ok (.iload_n 1, 1) := by decide +kernel
theorem dX7_mixes_109 : decode cX7_mixes 109 = .ok (.if_icmp .gt 38, 3) := by decide +kernel
theorem dX7_mixes_112 : decode cX7_mixes 112 = .ok (.aload_n 0, 1) := by decide +kernel
theorem dX7_mixes_113 : decode cX7_mixes 113 = .ok (.getfield 41, 3) := by decide +kernel
theorem dX7_mixes_116 : decode cX7_mixes 116 = .ok (.iload_n 1, 1) := by decide +kernel
theorem dX7_mixes_117 : decode cX7_mixes 117 = .ok (.dup2, 1) := by decide +kernel
theorem dX7_mixes_118 : decode cX7_mixes 118 = .ok (.iaload, 1) := by decide +kernel
theorem dX7_mixes_119 : decode cX7_mixes 119 = .ok (.iload_n 2, 1) := by decide +kernel
theorem dX7_mixes_120 : decode cX7_mixes 120 = .ok (.iload_n 1, 1) := by decide +kernel
theorem dX7_mixes_121 : decode cX7_mixes 121 = .ok (.iconst (-1), 1) := by decide +kernel
theorem dX7_mixes_122 : decode cX7_mixes 122 = .ok (.ixor, 1) := by decide +kernel
theorem dX7_mixes_123 : decode cX7_mixes 123 = .ok (.iand, 1) := by decide +kernel
theorem dX7_mixes_124 : decode cX7_mixes 124 = .ok (.ifCond .ne 14, 3) := by decide +kernel
theorem dX7_mixes_127 : decode cX7_mixes 127 = .ok (.iconst 1, 1) := by decide +kernel
theorem dX7_mixes_128 : decode cX7_mixes 128 = .ok (.aload_n 0, 1) := by decide +kernel
theorem dX7_mixes_129 : decode cX7_mixes 129 = .ok (.getfield 38, 3) := by decide +kernel
theorem dX7_mixes_132 : decode cX7_mixes 132 = .ok (.iload_n 2, 1) := by decide +kernel
theorem dX7_mixes_133 : decode cX7_mixes 133 = .ok (.iaload, 1) := by decide +kernel
theorem dX7_mixes_134 : decode cX7_mixes 134 = .ok (.ishl, 1) := by decide +kernel
theorem dX7_mixes_135 : decode cX7_mixes 135 = .ok (.goto 4, 3) := by decide +kernel
theorem dX7_mixes_138 : decode cX7_mixes 138 = .ok (.iconst 0, 1) := by decide +kernel
theorem dX7_mixes_139 : decode cX7_mixes 139 = .ok (.ior, 1) := by decide +kernel
theorem dX7_mixes_140 : decode cX7_mixes 140 = .ok (.iastore, 1) := by decide +kernel
theorem dX7_mixes_141 : decode cX7_mixes 141 = .ok (.iinc 2 1, 3) := by decide +kernel
theorem dX7_mixes_144 : decode cX7_mixes 144 = .ok (.goto (-37), 3) := by decide +kernel
theorem dX7_mixes_147 : decode cX7_mixes 147 = .ok (.iinc 1 1, 3) := by decide +kernel
theorem dX7_mixes_150 : decode cX7_mixes 150 = .ok (.goto (-64), 3) := by decide +kernel
theorem dX7_mixes_153 : decode cX7_mixes 153 = .ok (.return_, 1) := by decide +kernel
theorem dX7_asOrdered_0 : decode cX7_asOrdered 0 = .ok (.iconst 0, 1) := by decide +kernel
theorem dX7_asOrdered_1 : decode cX7_asOrdered 1 = .ok (.istore_n 1, 1) := by decide +kernel
theorem dX7_asOrdered_2 : decode cX7_asOrdered 2 = .ok (.iload_n 1, 1) := by decide +kernel
theorem dX7_asOrdered_3 : decode cX7_asOrdered 3 = .ok (.bipush 6, 2) := by decide +kernel
theorem dX7_asOrdered_5 : decode cX7_asOrdered 5 = .ok (.if_icmp .ge 24, 3) := by decide +kernel
theorem dX7_asOrdered_8 : decode cX7_asOrdered 8 = .ok (.aload_n 0, 1) := by decide +kernel
theorem dX7_asOrdered_9 : decode cX7_asOrdered 9 = .ok (.getfield 35, 3) := by decide +kernel
theorem dX7_asOrdered_12 : decode cX7_asOrdered 12 = .ok (.iload_n 1, 1) := by decide +kernel
theorem dX7_asOrdered_13 : decode cX7_asOrdered 13 = .ok (.aload_n 0, 1) := by decide +kernel
theorem dX7_asOrdered_14 : decode cX7_asOrdered 14 = .ok (.getfield 7, 3) := by decide +kernel
theorem dX7_asOrdered_17 : decode cX7_asOrdered 17 = .ok (.bipush 45, 2) := by decide +kernel
theorem dX7_asOrdered_19 : decode cX7_asOrdered 19 = .ok (.iload_n 1, 1) := by decide +kernel
theorem dX7_asOrdered_20 : decode cX7_asOrdered 20 = .ok (.iadd, 1) := by decide +kernel
theorem dX7_asOrdered_21 : decode cX7_asOrdered 21 = .ok (.iaload, 1) := by decide +kernel
theorem dX7_asOrdered_22 : decode cX7_asOrdered 22 = .ok (.iastore, 1) := by decide +kernel
theorem dX7_asOrdered_23 : decode cX7_asOrdered 23 = .ok (.iinc 1 1, 3) := by decide +kernel
theorem dX7_asOrdered_26 : decode cX7_asOrdered 26 = .ok (.goto (-24), 3) := by decide +kernel
theorem dX7_asOrdered_29 : decode cX7_asOrdered 29 = .ok (.return_, 1) := by decide +kernel
theorem dX7_wanted_0 : decode cX7_wanted 0 = .ok (.iconst 0, 1) := by decide +kernel
theorem dX7_wanted_1 : decode cX7_wanted 1 = .ok (.istore_n 1, 1) := by decide +kernel
theorem dX7_wanted_2 : decode cX7_wanted 2 = .ok (.iconst 0, 1) := by decide +kernel
theorem dX7_wanted_3 : decode cX7_wanted 3 = .ok (.istore_n 2, 1) := by decide +kernel
theorem dX7_wanted_4 : decode cX7_wanted 4 = .ok (.iload_n 2, 1) := by decide +kernel
theorem dX7_wanted_5 : decode cX7_wanted 5 = .ok (.aload_n 0, 1) := by decide +kernel
theorem dX7_wanted_6 : decode cX7_wanted 6 = .ok (.getfield 7, 3) := by decide +kernel
theorem dX7_wanted_9 : decode cX7_wanted 9 = .ok (.iconst 1, 1) := by decide +kernel
theorem dX7_wanted_10 : decode cX7_wanted 10 = .ok (.iaload, 1) := by decide +kernel
theorem dX7_wanted_11 : decode cX7_wanted 11 = .ok (.if_icmp .ge 45, 3) := by decide +kernel
theorem dX7_wanted_14 : decode cX7_wanted 14 = .ok (.iconst 0, 1) := by decide +kernel
theorem dX7_wanted_15 : decode cX7_wanted 15 = .ok (.istore_n 3, 1) := by decide +kernel
theorem dX7_wanted_16 : decode cX7_wanted 16 = .ok (.iload_n 3, 1) := by decide +kernel
theorem dX7_wanted_17 : decode cX7_wanted 17 = .ok (.aload_n 0, 1) := by decide +kernel
theorem dX7_wanted_18 : decode cX7_wanted 18 = .ok (.getfield 7, 3) := by decide +kernel
theorem dX7_wanted_21 : decode cX7_wanted 21 = .ok (.iconst 0, 1) := by decide +kernel
theorem dX7_wanted_22 : decode cX7_wanted 22 = .ok (.iaload, 1) := by decide +kernel
theorem dX7_wanted_23 : decode cX7_wanted 23 = .ok (.if_icmp .ge 27, 3) := by decide +kernel
theorem dX7_wanted_26 : decode cX7_wanted 26 = .ok (.iload_n 1, 1) := by decide +kernel
theorem dX7_wanted_27 : decode cX7_wanted 27 = .ok (.iconst 1, 1) := by decide +kernel
theorem dX7_wanted_28 : decode cX7_wanted 28 = .ok (.aload_n 0, 1) := by decide +kernel
theorem dX7_wanted_29 : decode cX7_wanted 29 = .ok (.getfield 7, 3) := by decide +kernel
theorem dX7_wanted_32 : decode cX7_wanted 32 = .ok (.iconst 3, 1) := by decide +kernel
theorem dX7_wanted_33 : decode cX7_wanted 33 = .ok (.bipush 6, 2) := by decide +kernel
theorem dX7_wanted_35 : decode cX7_wanted 35 = .ok (.iload_n 2, 1) := by decide +kernel
theorem dX7_wanted_36 : decode cX7_wanted 36 = .ok (.imul, 1) := by decide +kernel
theorem dX7_wanted_37 : decode cX7_wanted 37 = .ok (.iadd, 1) := by decide +kernel
theorem dX7_wanted_38 : decode cX7_wanted 38 = .ok (.iload_n 3, 1) := by decide +kernel
theorem dX7_wanted_39 : decode cX7_wanted 39 = .ok (.iadd, 1) := by decide +kernel
theorem dX7_wanted_40 : decode cX7_wanted 40 = .ok (.iaload, 1) := by decide +kernel
theorem dX7_wanted_41 : decode cX7_wanted 41 = .ok (.ishl, 1) := by decide +kernel
theorem dX7_wanted_42 : decode cX7_wanted 42 = .ok (.ior, 1) := by decide +kernel
theorem dX7_wanted_43 : decode cX7_wanted 43 = .ok (.istore_n 1, 1) := by decide +kernel
theorem dX7_wanted_44 : decode cX7_wanted 44 = .ok (.iinc 3 1, 3) := by decide +kernel
theorem dX7_wanted_47 : decode cX7_wanted 47 = .ok (.goto (-31), 3) := by decide +kernel
theorem dX7_wanted_50 : decode cX7_wanted 50 = .ok (.iinc 2 1, 3) := by decide +kernel
theorem dX7_wanted_53 : decode cX7_wanted 53 = .ok (.goto (-49), 3) := by decide +kernel
theorem dX7_wanted_56 : decode cX7_wanted 56 = .ok (.iload_n 1, 1) := by decide +kernel
theorem dX7_wanted_57 : decode cX7_wanted 57 = .ok (.ireturn, 1) := by decide +kernel
theorem dX7_leastSet_0 : decode cX7_leastSet 0 = .ok (.aload_n 0, 1) := by decide +kernel
theorem dX7_leastSet_1 : decode cX7_leastSet 1 = .ok (.invokevirtual 116, 3) := by decide +kernel
theorem dX7_leastSet_4 : decode cX7_leastSet 4 = .ok (.aload_n 0, 1) := by decide +kernel
theorem dX7_leastSet_5 : decode cX7_leastSet 5 = .ok (.invokevirtual 119, 3) := by decide +kernel
theorem dX7_leastSet_8 : decode cX7_leastSet 8 = .ok (.istore_n 1, 1) := by decide +kernel
theorem dX7_leastSet_9 : decode cX7_leastSet 9 = .ok (.bipush (-9), 2) := by decide +kernel
theorem dX7_leastSet_11 : decode cX7_leastSet 11 = .ok (.istore_n 2, 1) := by decide +kernel
theorem dX7_leastSet_12 : decode cX7_leastSet 12 = .ok (.iconst 0, 1) := by decide +kernel
theorem dX7_leastSet_13 : decode cX7_leastSet 13 = .ok (.istore_n 3, 1) := by decide +kernel
theorem dX7_leastSet_14 : decode cX7_leastSet 14 = .ok (.iload_n 3, 1) := by decide +kernel
theorem dX7_leastSet_15 : decode cX7_leastSet 15 = .ok (.iconst 1, 1) := by decide +kernel
theorem dX7_leastSet_16 : decode cX7_leastSet 16 = .ok (.aload_n 0, 1) := by decide +kernel
theorem dX7_leastSet_17 : decode cX7_leastSet 17 = .ok (.getfield 7, 3) := by decide +kernel
theorem dX7_leastSet_20 : decode cX7_leastSet 20 = .ok (.iconst 2, 1) := by decide +kernel
theorem dX7_leastSet_21 : decode cX7_leastSet 21 = .ok (.iaload, 1) := by decide +kernel
theorem dX7_leastSet_22 : decode cX7_leastSet 22 = .ok (.ishl, 1) := by decide +kernel
theorem dX7_leastSet_23 : decode cX7_leastSet 23 = .ok (.if_icmp .ge 57, 3) := by decide +kernel
theorem dX7_leastSet_26 : decode cX7_leastSet 26 = .ok (.iload_n 2, 1) := by decide +kernel
theorem dX7_leastSet_27 : decode cX7_leastSet 27 = .ok (.bipush (-9), 2) := by decide +kernel
theorem dX7_leastSet_29 : decode cX7_leastSet 29 = .ok (.if_icmp .eq 14, 3) := by decide +kernel
theorem dX7_leastSet_32 : decode cX7_leastSet 32 = .ok (.iload_n 3, 1) := by decide +kernel
theorem dX7_leastSet_33 : decode cX7_leastSet 33 = .ok (.invokestatic 122, 3) := by decide +kernel
theorem dX7_leastSet_36 : decode cX7_leastSet 36 = .ok (.iload_n 2, 1) := by decide +kernel
theorem dX7_leastSet_37 : decode cX7_leastSet 37 = .ok (.invokestatic 122, 3) := by decide +kernel
theorem dX7_leastSet_40 : decode cX7_leastSet 40 = .ok (.if_icmp .ge 7, 3) := by decide +kernel
theorem dX7_leastSet_43 : decode cX7_leastSet 43 = .ok (.iconst 1, 1) := by decide +kernel
theorem dX7_leastSet_44 : decode cX7_leastSet 44 = .ok (.goto 4, 3) := by decide +kernel
theorem dX7_leastSet_47 : decode cX7_leastSet 47 = .ok (.iconst 0, 1) := by decide +kernel
theorem dX7_leastSet_48 : decode cX7_leastSet 48 = .ok (.istore 4, 2) := by decide +kernel
theorem dX7_leastSet_50 : decode cX7_leastSet 50 = .ok (.iload 4, 2) := by decide +kernel
theorem dX7_leastSet_52 : decode cX7_leastSet 52 = .ok (.ifCond .eq 20, 3) := by decide +kernel
theorem dX7_leastSet_55 : decode cX7_leastSet 55 = .ok (.iload_n 1, 1) := by decide +kernel
theorem dX7_leastSet_56 : decode cX7_leastSet 56 = .ok (.aload_n 0, 1) := by decide +kernel
theorem dX7_leastSet_57 : decode cX7_leastSet 57 = .ok (.getfield 41, 3) := by decide +kernel
theorem dX7_leastSet_60 : decode cX7_leastSet 60 = .ok (.iload_n 3, 1) := by decide +kernel
theorem dX7_leastSet_61 : decode cX7_leastSet 61 = .ok (.iaload, 1) := by decide +kernel
theorem dX7_leastSet_62 : decode cX7_leastSet 62 = .ok (.iconst (-1), 1) := by decide +kernel
theorem dX7_leastSet_63 : decode cX7_leastSet 63 = .ok (.ixor, 1) := by decide +kernel
theorem dX7_leastSet_64 : decode cX7_leastSet 64 = .ok (.iand, 1) := by decide +kernel
theorem dX7_leastSet_65 : decode cX7_leastSet 65 = .ok (.ifCond .ne 7, 3) := by decide +kernel
theorem dX7_leastSet_68 : decode cX7_leastSet 68 = .ok (.iload_n 3, 1) := by decide +kernel
theorem dX7_leastSet_69 : decode cX7_leastSet 69 = .ok (.goto 4, 3) := by decide +kernel
theorem dX7_leastSet_72 : decode cX7_leastSet 72 = .ok (.iload_n 2, 1) := by decide +kernel
theorem dX7_leastSet_73 : decode cX7_leastSet 73 = .ok (.istore_n 2, 1) := by decide +kernel
theorem dX7_leastSet_74 : decode cX7_leastSet 74 = .ok (.iinc 3 1, 3) := by decide +kernel
theorem dX7_leastSet_77 : decode cX7_leastSet 77 = .ok (.goto (-63), 3) := by decide +kernel
theorem dX7_leastSet_80 : decode cX7_leastSet 80 = .ok (.iload_n 2, 1) := by decide +kernel
theorem dX7_leastSet_81 : decode cX7_leastSet 81 = .ok (.ireturn, 1) := by decide +kernel
theorem dX7_notes_0 : decode cX7_notes 0 = .ok (.aload_n 0, 1) := by decide +kernel
theorem dX7_notes_1 : decode cX7_notes 1 = .ok (.getfield 125, 3) := by decide +kernel
theorem dX7_notes_4 : decode cX7_notes 4 = .ok (.bipush 6, 2) := by decide +kernel
theorem dX7_notes_6 : decode cX7_notes 6 = .ok (.if_icmp .ne 43, 3) := by decide +kernel
theorem dX7_notes_9 : decode cX7_notes 9 = .ok (.iconst 0, 1) := by decide +kernel
theorem dX7_notes_10 : decode cX7_notes 10 = .ok (.istore_n 1, 1) := by decide +kernel
theorem dX7_notes_11 : decode cX7_notes 11 = .ok (.iload_n 1, 1) := by decide +kernel
theorem dX7_notes_12 : decode cX7_notes 12 = .ok (.sipush 495, 3) := by decide +kernel
theorem dX7_notes_15 : decode cX7_notes 15 = .ok (.if_icmp .ge 24, 3) := by decide +kernel
theorem dX7_notes_18 : decode cX7_notes 18 = .ok (.aload_n 0, 1) := by decide +kernel
theorem dX7_notes_19 : decode cX7_notes 19 = .ok (.getfield 16, 3) := by decide +kernel
theorem dX7_notes_22 : decode cX7_notes 22 = .ok (.iload_n 1, 1) := by decide +kernel
theorem dX7_notes_23 : decode cX7_notes 23 = .ok (.aload_n 0, 1) := by decide +kernel
theorem dX7_notes_24 : decode cX7_notes 24 = .ok (.getfield 16, 3) := by decide +kernel
theorem dX7_notes_27 : decode cX7_notes 27 = .ok (.bipush 99, 2) := by decide +kernel
theorem dX7_notes_29 : decode cX7_notes 29 = .ok (.iload_n 1, 1) := by decide +kernel
theorem dX7_notes_30 : decode cX7_notes 30 = .ok (.iadd, 1) := by decide +kernel
theorem dX7_notes_31 : decode cX7_notes 31 = .ok (.iaload, 1) := by decide +kernel
theorem dX7_notes_32 : decode cX7_notes 32 = .ok (.iastore, 1) := by decide +kernel
theorem dX7_notes_33 : decode cX7_notes 33 = .ok (.iinc 1 1, 3) := by decide +kernel
theorem dX7_notes_36 : decode cX7_notes 36 = .ok (.goto (-25), 3) := by decide +kernel
theorem dX7_notes_39 : decode cX7_notes 39 = .ok (.aload_n 0, 1) := by decide +kernel
theorem dX7_notes_40 : decode cX7_notes 40 = .ok (.dup, 1) := by decide +kernel
theorem dX7_notes_41 : decode cX7_notes 41 = .ok (.getfield 125, 3) := by decide +kernel
theorem dX7_notes_44 : decode cX7_notes 44 = .ok (.iconst 1, 1) := by decide +kernel
theorem dX7_notes_45 : decode cX7_notes 45 = .ok (.isub, 1) := by decide +kernel
theorem dX7_notes_46 : decode cX7_notes 46 = .ok (.putfield 125, 3) := by decide +kernel
theorem dX7_notes_49 : decode cX7_notes 49 = .ok (.iconst 0, 1) := by decide +kernel
theorem dX7_notes_50 : decode cX7_notes 50 = .ok (.istore_n 1, 1) := by decide +kernel
theorem dX7_notes_51 : decode cX7_notes 51 = .ok (.iload_n 1, 1) := by decide +kernel
theorem dX7_notes_52 : decode cX7_notes 52 = .ok (.bipush 99, 2) := by decide +kernel
theorem dX7_notes_54 : decode cX7_notes 54 = .ok (.if_icmp .ge 29, 3) := by decide +kernel
theorem dX7_notes_57 : decode cX7_notes 57 = .ok (.aload_n 0, 1) := by decide +kernel
theorem dX7_notes_58 : decode cX7_notes 58 = .ok (.getfield 16, 3) := by decide +kernel
theorem dX7_notes_61 : decode cX7_notes 61 = .ok (.bipush 99, 2) := by decide +kernel
theorem dX7_notes_63 : decode cX7_notes 63 = .ok (.aload_n 0, 1) := by decide +kernel
theorem dX7_notes_64 : decode cX7_notes 64 = .ok (.getfield 125, 3) := by decide +kernel
theorem dX7_notes_67 : decode cX7_notes 67 = .ok (.imul, 1) := by decide +kernel
theorem dX7_notes_68 : decode cX7_notes 68 = .ok (.iload_n 1, 1) := by decide +kernel
theorem dX7_notes_69 : decode cX7_notes 69 = .ok (.iadd, 1) := by decide +kernel
theorem dX7_notes_70 : decode cX7_notes 70 = .ok (.aload_n 0, 1) := by decide +kernel
theorem dX7_notes_71 : decode cX7_notes 71 = .ok (.getfield 7, 3) := by decide +kernel
theorem dX7_notes_74 : decode cX7_notes 74 = .ok (.iload_n 1, 1) := by decide +kernel
theorem dX7_notes_75 : decode cX7_notes 75 = .ok (.iaload, 1) := by decide +kernel
theorem dX7_notes_76 : decode cX7_notes 76 = .ok (.iastore, 1) := by decide +kernel
theorem dX7_notes_77 : decode cX7_notes 77 = .ok (.iinc 1 1, 3) := by decide +kernel
theorem dX7_notes_80 : decode cX7_notes 80 = .ok (.goto (-29), 3) := by decide +kernel
theorem dX7_notes_83 : decode cX7_notes 83 = .ok (.aload_n 0, 1) := by decide +kernel
theorem dX7_notes_84 : decode cX7_notes 84 = .ok (.dup, 1) := by decide +kernel
theorem dX7_notes_85 : decode cX7_notes 85 = .ok (.getfield 125, 3) := by decide +kernel
theorem dX7_notes_88 : decode cX7_notes 88 = .ok (.iconst 1, 1) := by decide +kernel
theorem dX7_notes_89 : decode cX7_notes 89 = .ok (.iadd, 1) := by decide +kernel
theorem dX7_notes_90 : decode cX7_notes 90 = .ok (.putfield 125, 3) := by decide +kernel
theorem dX7_notes_93 : decode cX7_notes 93 = .ok (.return_, 1) := by decide +kernel
theorem dX7_isInk_0 : decode cX7_isInk 0 = .ok (.iload_n 1, 1) := by decide +kernel
theorem dX7_isInk_1 : decode cX7_isInk 1 = .ok (.iconst 0, 1) := by decide +kernel
theorem dX7_isInk_2 : decode cX7_isInk 2 = .ok (.aload_n 0, 1) := by decide +kernel
theorem dX7_isInk_3 : decode cX7_isInk 3 = .ok (.getfield 7, 3) := by decide +kernel
theorem dX7_isInk_6 : decode cX7_isInk 6 = .ok (.iconst 2, 1) := by decide +kernel
theorem dX7_isInk_7 : decode cX7_isInk 7 = .ok (.iaload, 1) := by decide +kernel
theorem dX7_isInk_8 : decode cX7_isInk 8 = .ok (.iconst 1, 1) := by decide +kernel
theorem dX7_isInk_9 : decode cX7_isInk 9 = .ok (.isub, 1) := by decide +kernel
theorem dX7_isInk_10 : decode cX7_isInk 10 = .ok (.invokestatic 57, 3) := by decide +kernel
theorem dX7_isInk_13 : decode cX7_isInk 13 = .ok (.ireturn, 1) := by decide +kernel
theorem dX7_isCell_0 : decode cX7_isCell 0 = .ok (.iload_n 1, 1) := by decide +kernel
theorem dX7_isCell_1 : decode cX7_isCell 1 = .ok (.iconst 0, 1) := by decide +kernel
theorem dX7_isCell_2 : decode cX7_isCell 2 = .ok (.aload_n 0, 1) := by decide +kernel
theorem dX7_isCell_3 : decode cX7_isCell 3 = .ok (.getfield 7, 3) := by decide +kernel
theorem dX7_isCell_6 : decode cX7_isCell 6 = .ok (.iconst 0, 1) := by decide +kernel
theorem dX7_isCell_7 : decode cX7_isCell 7 = .ok (.iaload, 1) := by decide +kernel
theorem dX7_isCell_8 : decode cX7_isCell 8 = .ok (.iconst 1, 1) := by decide +kernel
theorem dX7_isCell_9 : decode cX7_isCell 9 = .ok (.isub, 1) := by decide +kernel
theorem dX7_isCell_10 : decode cX7_isCell 10 = .ok (.invokestatic 57, 3) := by decide +kernel
theorem dX7_isCell_13 : decode cX7_isCell 13 = .ok (.ifCond .eq 23, 3) := by decide +kernel
theorem dX7_isCell_16 : decode cX7_isCell 16 = .ok (.iload_n 2, 1) := by decide +kernel
theorem dX7_isCell_17 : decode cX7_isCell 17 = .ok (.iconst 0, 1) := by decide +kernel
theorem dX7_isCell_18 : decode cX7_isCell 18 = .ok (.aload_n 0, 1) := by decide +kernel
theorem dX7_isCell_19 : decode cX7_isCell 19 = .ok (.getfield 7, 3) := by decide +kernel
theorem dX7_isCell_22 : decode cX7_isCell 22 = .ok (.iconst 1, 1) := by decide +kernel
theorem dX7_isCell_23 : decode cX7_isCell 23 = .ok (.iaload, 1) := by decide +kernel
theorem dX7_isCell_24 : decode cX7_isCell 24 = .ok (.iconst 1, 1) := by decide +kernel
theorem dX7_isCell_25 : decode cX7_isCell 25 = .ok (.isub, 1) := by decide +kernel
theorem dX7_isCell_26 : decode cX7_isCell 26 = .ok (.invokestatic 57, 3) := by decide +kernel
theorem dX7_isCell_29 : decode cX7_isCell 29 = .ok (.ifCond .eq 7, 3) := by decide +kernel
theorem dX7_isCell_32 : decode cX7_isCell 32 = .ok (.iconst 1, 1) := by decide +kernel
theorem dX7_isCell_33 : decode cX7_isCell 33 = .ok (.goto 4, 3) := by decide +kernel
theorem dX7_isCell_36 : decode cX7_isCell 36 = .ok (.iconst 0, 1) := by decide +kernel
theorem dX7_isCell_37 : decode cX7_isCell 37 = .ok (.ireturn, 1) := by decide +kernel
theorem dX7_partOf_0 : decode cX7_partOf 0 = .ok (.iconst 0, 1) := by decide +kernel
theorem dX7_partOf_1 : decode cX7_partOf 1 = .ok (.istore_n 3, 1) := by decide +kernel
theorem dX7_partOf_2 : decode cX7_partOf 2 = .ok (.iload_n 3, 1) := by decide +kernel
theorem dX7_partOf_3 : decode cX7_partOf 3 = .ok (.iload_n 1, 1) := by decide +kernel
theorem dX7_partOf_4 : decode cX7_partOf 4 = .ok (.iconst (-1), 1) := by decide +kernel
theorem dX7_partOf_5 : decode cX7_partOf 5 = .ok (.ixor, 1) := by decide +kernel
theorem dX7_partOf_6 : decode cX7_partOf 6 = .ok (.iand, 1) := by decide +kernel
theorem dX7_partOf_7 : decode cX7_partOf 7 = .ok (.ifCond .ne 13, 3) := by decide +kernel
theorem dX7_partOf_10 : decode cX7_partOf 10 = .ok (.aload_n 0, 1) := by decide +kernel
theorem dX7_partOf_11 : decode cX7_partOf 11 = .ok (.getfield 38, 3) := by decide +kernel
theorem dX7_partOf_14 : decode cX7_partOf 14 = .ok (.iload_n 3, 1) := by decide +kernel
theorem dX7_partOf_15 : decode cX7_partOf 15 = .ok (.iaload, 1) := by decide +kernel
theorem dX7_partOf_16 : decode cX7_partOf 16 = .ok (.iload_n 2, 1) := by decide +kernel
theorem dX7_partOf_17 : decode cX7_partOf 17 = .ok (.if_icmp .eq 9, 3) := by decide +kernel
theorem dX7_partOf_20 : decode cX7_partOf 20 = .ok (.iinc 3 1, 3) := by decide +kernel
theorem dX7_partOf_23 : decode cX7_partOf 23 = .ok (.goto (-21), 3) := by decide +kernel
theorem dX7_partOf_26 : decode cX7_partOf 26 = .ok (.iload_n 3, 1) := by decide +kernel
theorem dX7_partOf_27 : decode cX7_partOf 27 = .ok (.ireturn, 1) := by decide +kernel
theorem dX7_cuts_0 : decode cX7_cuts 0 = .ok (.aload_n 0, 1) := by decide +kernel
theorem dX7_cuts_1 : decode cX7_cuts 1 = .ok (.iconst 0, 1) := by decide +kernel
theorem dX7_cuts_2 : decode cX7_cuts 2 = .ok (.putfield 50, 3) := by decide +kernel
theorem dX7_cuts_5 : decode cX7_cuts 5 = .ok (.aload_n 0, 1) := by decide +kernel
theorem dX7_cuts_6 : decode cX7_cuts 6 = .ok (.invokevirtual 128, 3) := by decide +kernel
theorem dX7_cuts_9 : decode cX7_cuts 9 = .ok (.aload_n 0, 1) := by decide +kernel
theorem dX7_cuts_10 : decode cX7_cuts 10 = .ok (.invokevirtual 131, 3) := by decide +kernel
theorem dX7_cuts_13 : decode cX7_cuts 13 = .ok (.istore_n 1, 1) := by decide +kernel
theorem dX7_cuts_14 : decode cX7_cuts 14 = .ok (.iload_n 1, 1) := by decide +kernel
theorem dX7_cuts_15 : decode cX7_cuts 15 = .ok (.bipush (-9), 2) := by decide +kernel
theorem dX7_cuts_17 : decode cX7_cuts 17 = .ok (.if_icmp .ne 6, 3) := by decide +kernel
theorem dX7_cuts_20 : decode cX7_cuts 20 = .ok (.bipush (-2), 2) := by decide +kernel
theorem dX7_cuts_22 : decode cX7_cuts 22 = .ok (.ireturn, 1) := by decide +kernel
theorem dX7_cuts_23 : decode cX7_cuts 23 = .ok (.aload_n 0, 1) := by decide +kernel
theorem dX7_cuts_24 : decode cX7_cuts 24 = .ok (.invokevirtual 102, 3) := by decide +kernel
theorem dX7_cuts_27 : decode cX7_cuts 27 = .ok (.bipush 51, 2) := by decide +kernel
theorem dX7_cuts_29 : decode cX7_cuts 29 = .ok (.istore_n 2, 1) := by decide +kernel
theorem dX7_cuts_30 : decode cX7_cuts 30 = .ok (.iload_n 2, 1) := by decide +kernel
theorem dX7_cuts_31 : decode cX7_cuts 31 = .ok (.bipush 99, 2) := by decide +kernel
theorem dX7_cuts_33 : decode cX7_cuts 33 = .ok (.if_icmp .ge 16, 3) := by decide +kernel
theorem dX7_cuts_36 : decode cX7_cuts 36 = .ok (.aload_n 0, 1) := by decide +kernel
theorem dX7_cuts_37 : decode cX7_cuts 37 = .ok (.getfield 7, 3) := by decide +kernel
theorem dX7_cuts_40 : decode cX7_cuts 40 = .ok (.iload_n 2, 1) := by decide +kernel
theorem dX7_cuts_41 : decode cX7_cuts 41 = .ok (.iconst 0, 1) := by decide +kernel
theorem dX7_cuts_42 : decode cX7_cuts 42 = .ok (.iastore, 1) := by decide +kernel
theorem dX7_cuts_43 : decode cX7_cuts 43 = .ok (.iinc 2 1, 3) := by decide +kernel
theorem dX7_cuts_46 : decode cX7_cuts 46 = .ok (.goto (-16), 3) := by decide +kernel
theorem dX7_cuts_49 : decode cX7_cuts 49 = .ok (.iconst 0, 1) := by decide +kernel
theorem dX7_cuts_50 : decode cX7_cuts 50 = .ok (.istore_n 2, 1) := by decide +kernel
theorem dX7_cuts_51 : decode cX7_cuts 51 = .ok (.iload_n 2, 1) := by decide +kernel
theorem dX7_cuts_52 : decode cX7_cuts 52 = .ok (.aload_n 0, 1) := by decide +kernel
theorem dX7_cuts_53 : decode cX7_cuts 53 = .ok (.getfield 7, 3) := by decide +kernel
theorem dX7_cuts_56 : decode cX7_cuts 56 = .ok (.iconst 1, 1) := by decide +kernel
theorem dX7_cuts_57 : decode cX7_cuts 57 = .ok (.iaload, 1) := by decide +kernel
theorem dX7_cuts_58 : decode cX7_cuts 58 = .ok (.if_icmp .ge 94, 3) := by decide +kernel
theorem dX7_cuts_61 : decode cX7_cuts 61 = .ok (.iconst 0, 1) := by decide +kernel
theorem dX7_cuts_62 : decode cX7_cuts 62 = .ok (.istore_n 3, 1) := by decide +kernel
theorem dX7_cuts_63 : decode cX7_cuts 63 = .ok (.iload_n 3, 1) := by decide +kernel
theorem dX7_cuts_64 : decode cX7_cuts 64 = .ok (.aload_n 0, 1) := by decide +kernel
theorem dX7_cuts_65 : decode cX7_cuts 65 = .ok (.getfield 7, 3) := by decide +kernel
theorem dX7_cuts_68 : decode cX7_cuts 68 = .ok (.iconst 0, 1) := by decide +kernel
theorem dX7_cuts_69 : decode cX7_cuts 69 = .ok (.iaload, 1) := by decide +kernel
theorem dX7_cuts_70 : decode cX7_cuts 70 = .ok (.if_icmp .ge 76, 3) := by decide +kernel
theorem dX7_cuts_73 : decode cX7_cuts 73 = .ok (.aload_n 0, 1) := by decide +kernel
theorem dX7_cuts_74 : decode cX7_cuts 74 = .ok (.iload_n 1, 1) := by decide +kernel
theorem dX7_cuts_75 : decode cX7_cuts 75 = .ok (.aload_n 0, 1) := by decide +kernel
theorem dX7_cuts_76 : decode cX7_cuts 76 = .ok (.getfield 7, 3) := by decide +kernel
theorem dX7_cuts_79 : decode cX7_cuts 79 = .ok (.iconst 3, 1) := by decide +kernel
theorem dX7_cuts_80 : decode cX7_cuts 80 = .ok (.bipush 6, 2) := by decide +kernel
theorem dX7_cuts_82 : decode cX7_cuts 82 = .ok (.iload_n 2, 1) := by decide +kernel
theorem dX7_cuts_83 : decode cX7_cuts 83 = .ok (.imul, 1) := by decide +kernel
theorem dX7_cuts_84 : decode cX7_cuts 84 = .ok (.iadd, 1) := by decide +kernel
theorem dX7_cuts_85 : decode cX7_cuts 85 = .ok (.iload_n 3, 1) := by decide +kernel
theorem dX7_cuts_86 : decode cX7_cuts 86 = .ok (.iadd, 1) := by decide +kernel
theorem dX7_cuts_87 : decode cX7_cuts 87 = .ok (.iaload, 1) := by decide +kernel
theorem dX7_cuts_88 : decode cX7_cuts 88 = .ok (.invokevirtual 134, 3) := by decide +kernel
theorem dX7_cuts_91 : decode cX7_cuts 91 = .ok (.istore 4, 2) := by decide +kernel
theorem dX7_cuts_93 : decode cX7_cuts 93 = .ok (.iconst 0, 1) := by decide +kernel
theorem dX7_cuts_94 : decode cX7_cuts 94 = .ok (.istore 5, 2) := by decide +kernel
theorem dX7_cuts_96 : decode cX7_cuts 96 = .ok (.iload 5, 2) := by decide +kernel
theorem dX7_cuts_98 : decode cX7_cuts 98 = .ok (.aload_n 0, 1) := by decide +kernel
theorem dX7_cuts_99 : decode cX7_cuts 99 = .ok (.getfield 7, 3) := by decide +kernel
theorem dX7_cuts_102 : decode cX7_cuts 102 = .ok (.iconst 2, 1) := by decide +kernel
theorem dX7_cuts_103 : decode cX7_cuts 103 = .ok (.iaload, 1) := by decide +kernel
theorem dX7_cuts_104 : decode cX7_cuts 104 = .ok (.if_icmp .ge 36, 3) := by decide +kernel
theorem dX7_cuts_107 : decode cX7_cuts 107 = .ok (.aload_n 0, 1) := by decide +kernel
theorem dX7_cuts_108 : decode cX7_cuts 108 = .ok (.getfield 7, 3) := by decide +kernel
theorem dX7_cuts_111 : decode cX7_cuts 111 = .ok (.bipush 51, 2) := by decide +kernel
theorem dX7_cuts_113 : decode cX7_cuts 113 = .ok (.bipush 6, 2) := by decide +kernel
theorem dX7_cuts_115 : decode cX7_cuts 115 = .ok (.iload 5, 2) := by decide +kernel
theorem dX7_cuts_117 : decode cX7_cuts 117 = .ok (.imul, 1) := by decide +kernel
theorem dX7_cuts_118 : decode cX7_cuts 118 = .ok (.iadd, 1) := by decide +kernel
theorem dX7_cuts_119 : decode cX7_cuts 119 = .ok (.iload_n 2, 1) := by decide +kernel
theorem dX7_cuts_120 : decode cX7_cuts 120 = .ok (.iadd, 1) := by decide +kernel
theorem dX7_cuts_121 : decode cX7_cuts 121 = .ok (.dup2, 1) := by decide +kernel
theorem dX7_cuts_122 : decode cX7_cuts 122 = .ok (.iaload, 1) := by decide +kernel
theorem dX7_cuts_123 : decode cX7_cuts 123 = .ok (.iload 4, 2) := by decide +kernel
theorem dX7_cuts_125 : decode cX7_cuts 125 = .ok (.iload 5, 2) := by decide +kernel
theorem dX7_cuts_127 : decode cX7_cuts 127 = .ok (.ishr, 1) := by decide +kernel
theorem dX7_cuts_128 : decode cX7_cuts 128 = .ok (.iconst 1, 1) := by decide +kernel
theorem dX7_cuts_129 : decode cX7_cuts 129 = .ok (.iand, 1) := by decide +kernel
theorem dX7_cuts_130 : decode cX7_cuts 130 = .ok (.iload_n 3, 1) := by decide +kernel
theorem dX7_cuts_131 : decode cX7_cuts 131 = .ok (.ishl, 1) := by decide +kernel
theorem dX7_cuts_132 : decode cX7_cuts 132 = .ok (.ior, 1) := by decide +kernel
theorem dX7_cuts_133 : decode cX7_cuts 133 = .ok (.iastore, 1) := by decide +kernel
theorem dX7_cuts_134 : decode cX7_cuts 134 = .ok (.iinc 5 1, 3) := by decide +kernel
theorem dX7_cuts_137 : decode cX7_cuts 137 = .ok (.goto (-41), 3) := by decide +kernel
theorem dX7_cuts_140 : decode cX7_cuts 140 = .ok (.iinc 3 1, 3) := by decide +kernel
theorem dX7_cuts_143 : decode cX7_cuts 143 = .ok (.goto (-80), 3) := by decide +kernel
theorem dX7_cuts_146 : decode cX7_cuts 146 = .ok (.iinc 2 1, 3) := by decide +kernel
theorem dX7_cuts_149 : decode cX7_cuts 149 = .ok (.goto (-98), 3) := by decide +kernel
theorem dX7_cuts_152 : decode cX7_cuts 152 = .ok (.iload_n 1, 1) := by decide +kernel
theorem dX7_cuts_153 : decode cX7_cuts 153 = .ok (.invokestatic 122, 3) := by decide +kernel
theorem dX7_cuts_156 : decode cX7_cuts 156 = .ok (.ireturn, 1) := by decide +kernel
theorem dX7_carves_0 : decode cX7_carves 0 = .ok (.aload_n 0, 1) := by decide +kernel
theorem dX7_carves_1 : decode cX7_carves 1 = .ok (.iconst 0, 1) := by decide +kernel
theorem dX7_carves_2 : decode cX7_carves 2 = .ok (.putfield 50, 3) := by decide +kernel
theorem dX7_carves_5 : decode cX7_carves 5 = .ok (.aload_n 0, 1) := by decide +kernel
theorem dX7_carves_6 : decode cX7_carves 6 = .ok (.iload_n 1, 1) := by decide +kernel
theorem dX7_carves_7 : decode cX7_carves 7 = .ok (.invokevirtual 137, 3) := by decide +kernel
