theorem dX12_most_0 : decode cX12_most 0 = .ok (.aload_n 0, 1) := by decide +kernel
theorem dX12_most_1 : decode cX12_most 1 = .ok (.iconst 0, 1) := by decide +kernel
theorem dX12_most_2 : decode cX12_most 2 = .ok (.putfield 133, 3) := by decide +kernel
theorem dX12_most_5 : decode cX12_most 5 = .ok (.iload_n 1, 1) := by decide +kernel
theorem dX12_most_6 : decode cX12_most 6 = .ok (.i2l, 1) := by decide +kernel
theorem dX12_most_7 : decode cX12_most 7 = .ok (.lconst 0, 1) := by decide +kernel
theorem dX12_most_8 : decode cX12_most 8 = .ok (.ldc2_w 436, 3) := by decide +kernel
theorem dX12_most_11 : decode cX12_most 11 = .ok (.invokestatic 146, 3) := by decide +kernel
theorem dX12_most_14 : decode cX12_most 14 = .ok (.ifCond .ne 5, 3) := by decide +kernel
theorem dX12_most_17 : decode cX12_most 17 = .ok (.iconst (-1), 1) := by decide +kernel
theorem dX12_most_18 : decode cX12_most 18 = .ok (.ireturn, 1) := by decide +kernel
theorem dX12_most_19 : decode cX12_most 19 = .ok (.aload_n 0, 1) := by decide +kernel
theorem dX12_most_20 : decode cX12_most 20 = .ok (.iconst 0, 1) := by decide +kernel
theorem dX12_most_21 : decode cX12_most 21 = .ok (.putfield 447, 3) := by decide +kernel
theorem dX12_most_24 : decode cX12_most 24 = .ok (.aload_n 0, 1) := by decide +kernel
theorem dX12_most_25 : decode cX12_most 25 = .ok (.iconst 0, 1) := by decide +kernel
theorem dX12_most_26 : decode cX12_most 26 = .ok (.putfield 450, 3) := by decide +kernel
theorem dX12_most_29 : decode cX12_most 29 = .ok (.aload_n 0, 1) := by decide +kernel
theorem dX12_most_30 : decode cX12_most 30 = .ok (.iconst 0, 1) := by decide +kernel
theorem dX12_most_31 : decode cX12_most 31 = .ok (.iload_n 1, 1) := by decide +kernel
theorem dX12_most_32 : decode cX12_most 32 = .ok (.aload_n 0, 1) := by decide +kernel
theorem dX12_most_33 : decode cX12_most 33 = .ok (.aload_n 0, 1) := by decide +kernel
theorem dX12_most_34 : decode cX12_most 34 = .ok (.getfield 43, 3) := by decide +kernel
theorem dX12_most_37 : decode cX12_most 37 = .ok (.invokevirtual 418, 3) := by decide +kernel
theorem dX12_most_40 : decode cX12_most 40 = .ok (.invokevirtual 453, 3) := by decide +kernel
theorem dX12_most_43 : decode cX12_most 43 = .ok (.aload_n 0, 1) := by decide +kernel
theorem dX12_most_44 : decode cX12_most 44 = .ok (.iconst 0, 1) := by decide +kernel
theorem dX12_most_45 : decode cX12_most 45 = .ok (.putfield 140, 3) := by decide +kernel
theorem dX12_most_48 : decode cX12_most 48 = .ok (.iconst 0, 1) := by decide +kernel
theorem dX12_most_49 : decode cX12_most 49 = .ok (.istore_n 2, 1) := by decide +kernel
theorem dX12_most_50 : decode cX12_most 50 = .ok (.iload_n 2, 1) := by decide +kernel
theorem dX12_most_51 : decode cX12_most 51 = .ok (.iconst 3, 1) := by decide +kernel
theorem dX12_most_52 : decode cX12_most 52 = .ok (.aload_n 0, 1) := by decide +kernel
theorem dX12_most_53 : decode cX12_most 53 = .ok (.getfield 450, 3) := by decide +kernel
theorem dX12_most_56 : decode cX12_most 56 = .ok (.imul, 1) := by decide +kernel
theorem dX12_most_57 : decode cX12_most 57 = .ok (.if_icmp .ge 20, 3) := by decide +kernel
theorem dX12_most_60 : decode cX12_most 60 = .ok (.aload_n 0, 1) := by decide +kernel
theorem dX12_most_61 : decode cX12_most 61 = .ok (.aload_n 0, 1) := by decide +kernel
theorem dX12_most_62 : decode cX12_most 62 = .ok (.getfield 91, 3) := by decide +kernel
theorem dX12_most_65 : decode cX12_most 65 = .ok (.iload_n 2, 1) := by decide +kernel
theorem dX12_most_66 : decode cX12_most 66 = .ok (.iaload, 1) := by decide +kernel
theorem dX12_most_67 : decode cX12_most 67 = .ok (.i2l, 1) := by decide +kernel
theorem dX12_most_68 : decode cX12_most 68 = .ok (.invokevirtual 414, 3) := by decide +kernel
theorem dX12_most_71 : decode cX12_most 71 = .ok (.iinc 2 1, 3) := by decide +kernel
theorem dX12_most_74 : decode cX12_most 74 = .ok (.goto (-24), 3) := by decide +kernel
theorem dX12_most_77 : decode cX12_most 77 = .ok (.aload_n 0, 1) := by decide +kernel
theorem dX12_most_78 : decode cX12_most 78 = .ok (.getfield 447, 3) := by decide +kernel
theorem dX12_most_81 : decode cX12_most 81 = .ok (.ireturn, 1) := by decide +kernel
theorem dX12_open_0 : decode cX12_open 0 = .ok (.aload_n 0, 1) := by decide +kernel
theorem dX12_open_1 : decode cX12_open 1 = .ok (.iconst 0, 1) := by decide +kernel
theorem dX12_open_2 : decode cX12_open 2 = .ok (.putfield 133, 3) := by decide +kernel
theorem dX12_open_5 : decode cX12_open 5 = .ok (.iconst 0, 1) := by decide +kernel
theorem dX12_open_6 : decode cX12_open 6 = .ok (.istore_n 1, 1) := by decide +kernel
theorem dX12_open_7 : decode cX12_open 7 = .ok (.iconst 0, 1) := by decide +kernel
theorem dX12_open_8 : decode cX12_open 8 = .ok (.istore_n 2, 1) := by decide +kernel
theorem dX12_open_9 : decode cX12_open 9 = .ok (.iconst 0, 1) := by decide +kernel
theorem dX12_open_10 : decode cX12_open 10 = .ok (.istore_n 3, 1) := by decide +kernel
theorem dX12_open_11 : decode cX12_open 11 = .ok (.iload_n 3, 1) := by decide +kernel
theorem dX12_open_12 : decode cX12_open 12 = .ok (.aload_n 0, 1) := by decide +kernel
theorem dX12_open_13 : decode cX12_open 13 = .ok (.getfield 150, 3) := by decide +kernel
theorem dX12_open_16 : decode cX12_open 16 = .ok (.if_icmp .ge 146, 3) := by decide +kernel
theorem dX12_open_19 : decode cX12_open 19 = .ok (.iconst 0, 1) := by decide +kernel
theorem dX12_open_20 : decode cX12_open 20 = .ok (.istore 4, 2) := by decide +kernel
theorem dX12_open_22 : decode cX12_open 22 = .ok (.iconst 0, 1) := by decide +kernel
theorem dX12_open_23 : decode cX12_open 23 = .ok (.istore 5, 2) := by decide +kernel
theorem dX12_open_25 : decode cX12_open 25 = .ok (.iload 5, 2) := by decide +kernel
theorem dX12_open_27 : decode cX12_open 27 = .ok (.aload_n 0, 1) := by decide +kernel
theorem dX12_open_28 : decode cX12_open 28 = .ok (.getfield 43, 3) := by decide +kernel
theorem dX12_open_31 : decode cX12_open 31 = .ok (.bipush 45, 2) := by decide +kernel
theorem dX12_open_33 : decode cX12_open 33 = .ok (.iaload, 1) := by decide +kernel
theorem dX12_open_34 : decode cX12_open 34 = .ok (.if_icmp .ge 34, 3) := by decide +kernel
theorem dX12_open_37 : decode cX12_open 37 = .ok (.iload 4, 2) := by decide +kernel
theorem dX12_open_39 : decode cX12_open 39 = .ok (.ifCond .ne 16, 3) := by decide +kernel
theorem dX12_open_42 : decode cX12_open 42 = .ok (.aload_n 0, 1) := by decide +kernel
theorem dX12_open_43 : decode cX12_open 43 = .ok (.getfield 43, 3) := by decide +kernel
theorem dX12_open_46 : decode cX12_open 46 = .ok (.iload 5, 2) := by decide +kernel
theorem dX12_open_48 : decode cX12_open 48 = .ok (.invokestatic 278, 3) := by decide +kernel
theorem dX12_open_51 : decode cX12_open 51 = .ok (.iload_n 3, 1) := by decide +kernel
theorem dX12_open_52 : decode cX12_open 52 = .ok (.if_icmp .ne 7, 3) := by decide +kernel
theorem dX12_open_55 : decode cX12_open 55 = .ok (.iconst 1, 1) := by decide +kernel
theorem dX12_open_56 : decode cX12_open 56 = .ok (.goto 4, 3) := by decide +kernel
theorem dX12_open_59 : decode cX12_open 59 = .ok (.iconst 0, 1) := by decide +kernel
theorem dX12_open_60 : decode cX12_open 60 = .ok (.istore 4, 2) := by decide +kernel
theorem dX12_open_62 : decode cX12_open 62 = .ok (.iinc 5 1, 3) := by decide +kernel
theorem dX12_open_65 : decode cX12_open 65 = .ok (.goto (-40), 3) := by decide +kernel
theorem dX12_open_68 : decode cX12_open 68 = .ok (.iconst 0, 1) := by decide +kernel
theorem dX12_open_69 : decode cX12_open 69 = .ok (.istore 5, 2) := by decide +kernel
theorem dX12_open_71 : decode cX12_open 71 = .ok (.iconst 0, 1) := by decide +kernel
theorem dX12_open_72 : decode cX12_open 72 = .ok (.istore 6, 2) := by decide +kernel
theorem dX12_open_74 : decode cX12_open 74 = .ok (.iload 6, 2) := by decide +kernel
theorem dX12_open_76 : decode cX12_open 76 = .ok (.aload_n 0, 1) := by decide +kernel
theorem dX12_open_77 : decode cX12_open 77 = .ok (.getfield 143, 3) := by decide +kernel
theorem dX12_open_80 : decode cX12_open 80 = .ok (.if_icmp .ge 36, 3) := by decide +kernel
theorem dX12_open_83 : decode cX12_open 83 = .ok (.iload 4, 2) := by decide +kernel
theorem dX12_open_85 : decode cX12_open 85 = .ok (.ifCond .ne 31, 3) := by decide +kernel
theorem dX12_open_88 : decode cX12_open 88 = .ok (.iload 5, 2) := by decide +kernel
theorem dX12_open_90 : decode cX12_open 90 = .ok (.ifCond .ne 26, 3) := by decide +kernel
theorem dX12_open_93 : decode cX12_open 93 = .ok (.aload_n 0, 1) := by decide +kernel
theorem dX12_open_94 : decode cX12_open 94 = .ok (.iload 6, 2) := by decide +kernel
theorem dX12_open_96 : decode cX12_open 96 = .ok (.iload_n 3, 1) := by decide +kernel
theorem dX12_open_97 : decode cX12_open 97 = .ok (.invokevirtual 438, 3) := by decide +kernel
theorem dX12_open_100 : decode cX12_open 100 = .ok (.ifCond .lt 7, 3) := by decide +kernel
theorem dX12_open_103 : decode cX12_open 103 = .ok (.iconst 1, 1) := by decide +kernel
theorem dX12_open_104 : decode cX12_open 104 = .ok (.goto 4, 3) := by decide +kernel
theorem dX12_open_107 : decode cX12_open 107 = .ok (.iconst 0, 1) := by decide +kernel
theorem dX12_open_108 : decode cX12_open 108 = .ok (.istore 5, 2) := by decide +kernel
theorem dX12_open_110 : decode cX12_open 110 = .ok (.iinc 6 1, 3) := by decide +kernel
theorem dX12_open_113 : decode cX12_open 113 = .ok (.goto (-39), 3) := by decide +kernel
theorem dX12_open_116 : decode cX12_open 116 = .ok (.iload_n 1, 1) := by decide +kernel
theorem dX12_open_117 : decode cX12_open 117 = .ok (.iload 4, 2) := by decide +kernel
theorem dX12_open_119 : decode cX12_open 119 = .ok (.ifCond .ne 14, 3) := by decide +kernel
theorem dX12_open_122 : decode cX12_open 122 = .ok (.iload 5, 2) := by decide +kernel
theorem dX12_open_124 : decode cX12_open 124 = .ok (.ifCond .eq 9, 3) := by decide +kernel
theorem dX12_open_127 : decode cX12_open 127 = .ok (.iconst 1, 1) := by decide +kernel
theorem dX12_open_128 : decode cX12_open 128 = .ok (.iload_n 3, 1) := by decide +kernel
theorem dX12_open_129 : decode cX12_open 129 = .ok (.ishl, 1) := by decide +kernel
theorem dX12_open_130 : decode cX12_open 130 = .ok (.goto 4, 3) := by decide +kernel
theorem dX12_open_133 : decode cX12_open 133 = .ok (.iconst 0, 1) := by decide +kernel
theorem dX12_open_134 : decode cX12_open 134 = .ok (.ior, 1) := by decide +kernel
theorem dX12_open_135 : decode cX12_open 135 = .ok (.istore_n 1, 1) := by decide +kernel
theorem dX12_open_136 : decode cX12_open 136 = .ok (.iload_n 2, 1) := by decide +kernel
theorem dX12_open_137 : decode cX12_open 137 = .ok (.iload 4, 2) := by decide +kernel
theorem dX12_open_139 : decode cX12_open 139 = .ok (.ifCond .ne 14, 3) := by decide +kernel
theorem dX12_open_142 : decode cX12_open 142 = .ok (.iload 5, 2) := by decide +kernel
theorem dX12_open_144 : decode cX12_open 144 = .ok (.ifCond .ne 9, 3) := by decide +kernel
theorem dX12_open_147 : decode cX12_open 147 = .ok (.iconst 1, 1) := by decide +kernel
theorem dX12_open_148 : decode cX12_open 148 = .ok (.iload_n 3, 1) := by decide +kernel
theorem dX12_open_149 : decode cX12_open 149 = .ok (.ishl, 1) := by decide +kernel
theorem dX12_open_150 : decode cX12_open 150 = .ok (.goto 4, 3) := by decide +kernel
theorem dX12_open_153 : decode cX12_open 153 = .ok (.iconst 0, 1) := by decide +kernel
theorem dX12_open_154 : decode cX12_open 154 = .ok (.ior, 1) := by decide +kernel
theorem dX12_open_155 : decode cX12_open 155 = .ok (.istore_n 2, 1) := by decide +kernel
theorem dX12_open_156 : decode cX12_open 156 = .ok (.iinc 3 1, 3) := by decide +kernel
theorem dX12_open_159 : decode cX12_open 159 = .ok (.goto (-148), 3) := by decide +kernel
theorem dX12_open_162 : decode cX12_open 162 = .ok (.aload_n 0, 1) := by decide +kernel
theorem dX12_open_163 : decode cX12_open 163 = .ok (.iconst 0, 1) := by decide +kernel
theorem dX12_open_164 : decode cX12_open 164 = .ok (.putfield 140, 3) := by decide +kernel
theorem dX12_open_167 : decode cX12_open 167 = .ok (.aload_n 0, 1) := by decide +kernel
theorem dX12_open_168 : decode cX12_open 168 = .ok (.iload_n 2, 1) := by decide +kernel
theorem dX12_open_169 : decode cX12_open 169 = .ok (.i2l, 1) := by decide +kernel
theorem dX12_open_170 : decode cX12_open 170 = .ok (.invokevirtual 414, 3) := by decide +kernel
theorem dX12_open_173 : decode cX12_open 173 = .ok (.iload_n 1, 1) := by decide +kernel
theorem dX12_open_174 : decode cX12_open 174 = .ok (.ireturn, 1) := by decide +kernel
theorem dX12_isFine_0 : decode cX12_isFine 0 = .ok (.iconst 1, 1) := by decide +kernel
theorem dX12_isFine_1 : decode cX12_isFine 1 = .ok (.istore_n 2, 1) := by decide +kernel
theorem dX12_isFine_2 : decode cX12_isFine 2 = .ok (.iconst 0, 1) := by decide +kernel
theorem dX12_isFine_3 : decode cX12_isFine 3 = .ok (.istore_n 3, 1) := by decide +kernel
theorem dX12_isFine_4 : decode cX12_isFine 4 = .ok (.iload_n 3, 1) := by decide +kernel
theorem dX12_isFine_5 : decode cX12_isFine 5 = .ok (.aload_n 1, 1) := by decide +kernel
theorem dX12_isFine_6 : decode cX12_isFine 6 = .ok (.bipush 45, 2) := by decide +kernel
theorem dX12_isFine_8 : decode cX12_isFine 8 = .ok (.iaload, 1) := by decide +kernel
theorem dX12_isFine_9 : decode cX12_isFine 9 = .ok (.if_icmp .ge 28, 3) := by decide +kernel
theorem dX12_isFine_12 : decode cX12_isFine 12 = .ok (.iload_n 2, 1) := by decide +kernel
theorem dX12_isFine_13 : decode cX12_isFine 13 = .ok (.ifCond .eq 24, 3) := by decide +kernel
theorem dX12_isFine_16 : decode cX12_isFine 16 = .ok (.aload_n 0, 1) := by decide +kernel
theorem dX12_isFine_17 : decode cX12_isFine 17 = .ok (.aload_n 1, 1) := by decide +kernel
theorem dX12_isFine_18 : decode cX12_isFine 18 = .ok (.iload_n 3, 1) := by decide +kernel
theorem dX12_isFine_19 : decode cX12_isFine 19 = .ok (.invokevirtual 369, 3) := by decide +kernel
theorem dX12_isFine_22 : decode cX12_isFine 22 = .ok (.ifCond .ne 7, 3) := by decide +kernel
theorem dX12_isFine_25 : decode cX12_isFine 25 = .ok (.iconst 1, 1) := by decide +kernel
theorem dX12_isFine_26 : decode cX12_isFine 26 = .ok (.goto 4, 3) := by decide +kernel
theorem dX12_isFine_29 : decode cX12_isFine 29 = .ok (.iconst 0, 1) := by decide +kernel
theorem dX12_isFine_30 : decode cX12_isFine 30 = .ok (.istore_n 2, 1) := by decide +kernel
theorem dX12_isFine_31 : decode cX12_isFine 31 = .ok (.iinc 3 1, 3) := by decide +kernel
theorem dX12_isFine_34 : decode cX12_isFine 34 = .ok (.goto (-30), 3) := by decide +kernel
theorem dX12_isFine_37 : decode cX12_isFine 37 = .ok (.iconst 0, 1) := by decide +kernel
theorem dX12_isFine_38 : decode cX12_isFine 38 = .ok (.istore_n 3, 1) := by decide +kernel
theorem dX12_isFine_39 : decode cX12_isFine 39 = .ok (.iload_n 3, 1) := by decide +kernel
theorem dX12_isFine_40 : decode cX12_isFine 40 = .ok (.aload_n 0, 1) := by decide +kernel
theorem dX12_isFine_41 : decode cX12_isFine 41 = .ok (.getfield 13, 3) := by decide +kernel
theorem dX12_isFine_44 : decode cX12_isFine 44 = .ok (.if_icmp .ge 20, 3) := by decide +kernel
theorem dX12_isFine_47 : decode cX12_isFine 47 = .ok (.iload_n 2, 1) := by decide +kernel
theorem dX12_isFine_48 : decode cX12_isFine 48 = .ok (.ifCond .eq 16, 3) := by decide +kernel
theorem dX12_isFine_51 : decode cX12_isFine 51 = .ok (.aload_n 0, 1) := by decide +kernel
theorem dX12_isFine_52 : decode cX12_isFine 52 = .ok (.aload_n 1, 1) := by decide +kernel
theorem dX12_isFine_53 : decode cX12_isFine 53 = .ok (.iload_n 3, 1) := by decide +kernel
theorem dX12_isFine_54 : decode cX12_isFine 54 = .ok (.invokevirtual 329, 3) := by decide +kernel
theorem dX12_isFine_57 : decode cX12_isFine 57 = .ok (.istore_n 2, 1) := by decide +kernel
theorem dX12_isFine_58 : decode cX12_isFine 58 = .ok (.iinc 3 1, 3) := by decide +kernel
theorem dX12_isFine_61 : decode cX12_isFine 61 = .ok (.goto (-22), 3) := by decide +kernel
theorem dX12_isFine_64 : decode cX12_isFine 64 = .ok (.iload_n 2, 1) := by decide +kernel
theorem dX12_isFine_65 : decode cX12_isFine 65 = .ok (.ireturn, 1) := by decide +kernel
theorem dX12_strikesMore_0 : decode cX12_strikesMore 0 = .ok (.iload_n 2, 1) := by decide +kernel
theorem dX12_strikesMore_1 : decode cX12_strikesMore 1 = .ok (.ifCond .ne 53, 3) := by decide +kernel
theorem dX12_strikesMore_4 : decode cX12_strikesMore 4 = .ok (.aload_n 0, 1) := by decide +kernel
theorem dX12_strikesMore_5 : decode cX12_strikesMore 5 = .ok (.getfield 43, 3) := by decide +kernel
theorem dX12_strikesMore_8 : decode cX12_strikesMore 8 = .ok (.aload_n 0, 1) := by decide +kernel
theorem dX12_strikesMore_9 : decode cX12_strikesMore 9 = .ok (.getfield 46, 3) := by decide +kernel
theorem dX12_strikesMore_12 : decode cX12_strikesMore 12 = .ok (.invokestatic 346, 3) := by decide +kernel
theorem dX12_strikesMore_15 : decode cX12_strikesMore 15 = .ok (.iload_n 1, 1) := by decide +kernel
theorem dX12_strikesMore_16 : decode cX12_strikesMore 16 = .ok (.iconst 1, 1) := by decide +kernel
theorem dX12_strikesMore_17 : decode cX12_strikesMore 17 = .ok (.isub, 1) := by decide +kernel
theorem dX12_strikesMore_18 : decode cX12_strikesMore 18 = .ok (.istore 4, 2) := by decide +kernel
theorem dX12_strikesMore_20 : decode cX12_strikesMore 20 = .ok (.iload 4, 2) := by decide +kernel
theorem dX12_strikesMore_22 : decode cX12_strikesMore 22 = .ok (.ifCond .lt 23, 3) := by decide +kernel
theorem dX12_strikesMore_25 : decode cX12_strikesMore 25 = .ok (.aload_n 0, 1) := by decide +kernel
theorem dX12_strikesMore_26 : decode cX12_strikesMore 26 = .ok (.getfield 46, 3) := by decide +kernel
theorem dX12_strikesMore_29 : decode cX12_strikesMore 29 = .ok (.aload_n 0, 1) := by decide +kernel
theorem dX12_strikesMore_30 : decode cX12_strikesMore 30 = .ok (.getfield 94, 3) := by decide +kernel
theorem dX12_strikesMore_33 : decode cX12_strikesMore 33 = .ok (.iload 4, 2) := by decide +kernel
theorem dX12_strikesMore_35 : decode cX12_strikesMore 35 = .ok (.iaload, 1) := by decide +kernel
theorem dX12_strikesMore_36 : decode cX12_strikesMore 36 = .ok (.invokestatic 391, 3) := by decide +kernel
theorem dX12_strikesMore_39 : decode cX12_strikesMore 39 = .ok (.iinc 4 (-1), 3) := by decide +kernel
theorem dX12_strikesMore_42 : decode cX12_strikesMore 42 = .ok (.goto (-22), 3) := by decide +kernel
theorem dX12_strikesMore_45 : decode cX12_strikesMore 45 = .ok (.aload_n 0, 1) := by decide +kernel
theorem dX12_strikesMore_46 : decode cX12_strikesMore 46 = .ok (.aload_n 0, 1) := by decide +kernel
theorem dX12_strikesMore_47 : decode cX12_strikesMore 47 = .ok (.getfield 46, 3) := by decide +kernel
theorem dX12_strikesMore_50 : decode cX12_strikesMore 50 = .ok (.invokevirtual 457, 3) := by decide +kernel
theorem dX12_strikesMore_53 : decode cX12_strikesMore 53 = .ok (.ireturn, 1) := by decide +kernel
theorem dX12_strikesMore_54 : decode cX12_strikesMore 54 = .ok (.iload_n 3, 1) := by decide +kernel
theorem dX12_strikesMore_55 : decode cX12_strikesMore 55 = .ok (.istore 4, 2) := by decide +kernel
theorem dX12_strikesMore_57 : decode cX12_strikesMore 57 = .ok (.iload 4, 2) := by decide +kernel
theorem dX12_strikesMore_59 : decode cX12_strikesMore 59 = .ok (.aload_n 0, 1) := by decide +kernel
theorem dX12_strikesMore_60 : decode cX12_strikesMore 60 = .ok (.getfield 43, 3) := by decide +kernel
theorem dX12_strikesMore_63 : decode cX12_strikesMore 63 = .ok (.bipush 45, 2) := by decide +kernel
theorem dX12_strikesMore_65 : decode cX12_strikesMore 65 = .ok (.iaload, 1) := by decide +kernel
theorem dX12_strikesMore_66 : decode cX12_strikesMore 66 = .ok (.if_icmp .ge 36, 3) := by decide +kernel
theorem dX12_strikesMore_69 : decode cX12_strikesMore 69 = .ok (.aload_n 0, 1) := by decide +kernel
theorem dX12_strikesMore_70 : decode cX12_strikesMore 70 = .ok (.getfield 94, 3) := by decide +kernel
theorem dX12_strikesMore_73 : decode cX12_strikesMore 73 = .ok (.iload_n 1, 1) := by decide +kernel
theorem dX12_strikesMore_74 : decode cX12_strikesMore 74 = .ok (.iload 4, 2) := by decide +kernel
theorem dX12_strikesMore_76 : decode cX12_strikesMore 76 = .ok (.iastore, 1) := by decide +kernel
theorem dX12_strikesMore_77 : decode cX12_strikesMore 77 = .ok (.aload_n 0, 1) := by decide +kernel
theorem dX12_strikesMore_78 : decode cX12_strikesMore 78 = .ok (.iload_n 1, 1) := by decide +kernel
theorem dX12_strikesMore_79 : decode cX12_strikesMore 79 = .ok (.iconst 1, 1) := by decide +kernel
theorem dX12_strikesMore_80 : decode cX12_strikesMore 80 = .ok (.iadd, 1) := by decide +kernel
theorem dX12_strikesMore_81 : decode cX12_strikesMore 81 = .ok (.iload_n 2, 1) := by decide +kernel
theorem dX12_strikesMore_82 : decode cX12_strikesMore 82 = .ok (.iconst 1, 1) := by decide +kernel
theorem dX12_strikesMore_83 : decode cX12_strikesMore 83 = .ok (.isub, 1) := by decide +kernel
theorem dX12_strikesMore_84 : decode cX12_strikesMore 84 = .ok (.iload 4, 2) := by decide +kernel
theorem dX12_strikesMore_86 : decode cX12_strikesMore 86 = .ok (.iconst 1, 1) := by decide +kernel
theorem dX12_strikesMore_87 : decode cX12_strikesMore 87 = .ok (.iadd, 1) := by decide +kernel
theorem dX12_strikesMore_88 : decode cX12_strikesMore 88 = .ok (.invokevirtual 461, 3) := by decide +kernel
theorem dX12_strikesMore_91 : decode cX12_strikesMore 91 = .ok (.ifCond .eq 5, 3) := by decide +kernel
theorem dX12_strikesMore_94 : decode cX12_strikesMore 94 = .ok (.iconst 1, 1) := by decide +kernel
theorem dX12_strikesMore_95 : decode cX12_strikesMore 95 = .ok (.ireturn, 1) := by decide +kernel
theorem dX12_strikesMore_96 : decode cX12_strikesMore 96 = .ok (.iinc 4 1, 3) := by decide +kernel
theorem dX12_strikesMore_99 : decode cX12_strikesMore 99 = .ok (.goto (-42), 3) := by decide +kernel
theorem dX12_strikesMore_102 : decode cX12_strikesMore 102 = .ok (.iconst 0, 1) := by decide +kernel
theorem dX12_strikesMore_103 : decode cX12_strikesMore 103 = .ok (.ireturn, 1) := by decide +kernel
theorem dX12_mend_0 : decode cX12_mend 0 = .ok (.aload_n 0, 1) := by decide +kernel
theorem dX12_mend_1 : decode cX12_mend 1 = .ok (.iconst 0, 1) := by decide +kernel
theorem dX12_mend_2 : decode cX12_mend 2 = .ok (.putfield 133, 3) := by decide +kernel
theorem dX12_mend_5 : decode cX12_mend 5 = .ok (.iconst 0, 1) := by decide +kernel
theorem dX12_mend_6 : decode cX12_mend 6 = .ok (.istore_n 1, 1) := by decide +kernel
theorem dX12_mend_7 : decode cX12_mend 7 = .ok (.iload_n 1, 1) := by decide +kernel
theorem dX12_mend_8 : decode cX12_mend 8 = .ok (.iconst 3, 1) := by decide +kernel
theorem dX12_mend_9 : decode cX12_mend 9 = .ok (.if_icmp .gt 50, 3) := by decide +kernel
theorem dX12_mend_12 : decode cX12_mend 12 = .ok (.aload_n 0, 1) := by decide +kernel
theorem dX12_mend_13 : decode cX12_mend 13 = .ok (.iconst 0, 1) := by decide +kernel
theorem dX12_mend_14 : decode cX12_mend 14 = .ok (.iload_n 1, 1) := by decide +kernel
theorem dX12_mend_15 : decode cX12_mend 15 = .ok (.iconst 0, 1) := by decide +kernel
theorem dX12_mend_16 : decode cX12_mend 16 = .ok (.invokevirtual 461, 3) := by decide +kernel
theorem dX12_mend_19 : decode cX12_mend 19 = .ok (.ifCond .eq 34, 3) := by decide +kernel
theorem dX12_mend_22 : decode cX12_mend 22 = .ok (.aload_n 0, 1) := by decide +kernel
theorem dX12_mend_23 : decode cX12_mend 23 = .ok (.iconst 0, 1) := by decide +kernel
theorem dX12_mend_24 : decode cX12_mend 24 = .ok (.putfield 140, 3) := by decide +kernel
theorem dX12_mend_27 : decode cX12_mend 27 = .ok (.iconst 0, 1) := by decide +kernel
theorem dX12_mend_28 : decode cX12_mend 28 = .ok (.istore_n 2, 1) := by decide +kernel
theorem dX12_mend_29 : decode cX12_mend 29 = .ok (.iload_n 2, 1) := by decide +kernel
theorem dX12_mend_30 : decode cX12_mend 30 = .ok (.iload_n 1, 1) := by decide +kernel
theorem dX12_mend_31 : decode cX12_mend 31 = .ok (.if_icmp .ge 20, 3) := by decide +kernel
theorem dX12_mend_34 : decode cX12_mend 34 = .ok (.aload_n 0, 1) := by decide +kernel
theorem dX12_mend_35 : decode cX12_mend 35 = .ok (.aload_n 0, 1) := by decide +kernel
theorem dX12_mend_36 : decode cX12_mend 36 = .ok (.getfield 94, 3) := by decide +kernel
theorem dX12_mend_39 : decode cX12_mend 39 = .ok (.iload_n 2, 1) := by decide +kernel
theorem dX12_mend_40 : decode cX12_mend 40 = .ok (.iaload, 1) := by decide +kernel
theorem dX12_mend_41 : decode cX12_mend 41 = .ok (.i2l, 1) := by decide +kernel
theorem dX12_mend_42 : decode cX12_mend 42 = .ok (.invokevirtual 414, 3) := by decide +kernel
theorem dX12_mend_45 : decode cX12_mend 45 = .ok (.iinc 2 1, 3) := by decide +kernel
theorem dX12_mend_48 : decode cX12_mend 48 = .ok (.goto (-19), 3) := by decide +kernel
theorem dX12_mend_51 : decode cX12_mend 51 = .ok (.iload_n 1, 1) := by decide +kernel
theorem dX12_mend_52 : decode cX12_mend 52 = .ok (.ireturn, 1) := by decide +kernel
theorem dX12_mend_53 : decode cX12_mend 53 = .ok (.iinc 1 1, 3) := by decide +kernel
theorem dX12_mend_56 : decode cX12_mend 56 = .ok (.goto (-49), 3) := by decide +kernel
theorem dX12_mend_59 : decode cX12_mend 59 = .ok (.bipush (-2), 2) := by decide +kernel
theorem dX12_mend_61 : decode cX12_mend 61 = .ok (.ireturn, 1) := by decide +kernel
theorem dX12_parts_0 : decode cX12_parts 0 = .ok (.aload_n 0, 1) := by decide +kernel
theorem dX12_parts_1 : decode cX12_parts 1 = .ok (.iconst 0, 1) := by decide +kernel
theorem dX12_parts_2 : decode cX12_parts 2 = .ok (.putfield 133, 3) := by decide +kernel
theorem dX12_parts_5 : decode cX12_parts 5 = .ok (.aload_n 0, 1) := by decide +kernel
theorem dX12_parts_6 : decode cX12_parts 6 = .ok (.bipush 80, 2) := by decide +kernel
theorem dX12_parts_8 : decode cX12_parts 8 = .ok (.invokevirtual 231, 3) := by decide +kernel
theorem dX12_parts_11 : decode cX12_parts 11 = .ok (.pop, 1) := by decide +kernel
theorem dX12_parts_12 : decode cX12_parts 12 = .ok (.iconst 0, 1) := by decide +kernel
theorem dX12_parts_13 : decode cX12_parts 13 = .ok (.istore_n 1, 1) := by decide +kernel
theorem dX12_parts_14 : decode cX12_parts 14 = .ok (.iconst 0, 1) := by decide +kernel
theorem dX12_parts_15 : decode cX12_parts 15 = .ok (.istore_n 2, 1) := by decide +kernel
theorem dX12_parts_16 : decode cX12_parts 16 = .ok (.iconst 0, 1) := by decide +kernel
theorem dX12_parts_17 : decode cX12_parts 17 = .ok (.istore_n 3, 1) := by decide +kernel
theorem dX12_parts_18 : decode cX12_parts 18 = .ok (.iconst 1, 1) := by decide +kernel
theorem dX12_parts_19 : decode cX12_parts 19 = .ok (.istore 4, 2) := by decide +kernel
theorem dX12_parts_21 : decode cX12_parts 21 = .ok (.iload 4, 2) := by decide +kernel
theorem dX12_parts_23 : decode cX12_parts 23 = .ok (.ifCond .eq 72, 3) := by decide +kernel
theorem dX12_parts_26 : decode cX12_parts 26 = .ok (.iload_n 1, 1) := by decide +kernel
theorem dX12_parts_27 : decode cX12_parts 27 = .ok (.bipush 6, 2) := by decide +kernel
theorem dX12_parts_29 : decode cX12_parts 29 = .ok (.if_icmp .ge 11, 3) := by decide +kernel
theorem dX12_parts_32 : decode cX12_parts 32 = .ok (.aload_n 0, 1) := by decide +kernel
theorem dX12_parts_33 : decode cX12_parts 33 = .ok (.iconst 2, 1) := by decide +kernel
theorem dX12_parts_34 : decode cX12_parts 34 = .ok (.invokevirtual 212, 3) := by decide +kernel
theorem dX12_parts_37 : decode cX12_parts 37 = .ok (.goto 4, 3) := by decide +kernel
theorem dX12_parts_40 : decode cX12_parts 40 = .ok (.iconst (-1), 1) := by decide +kernel
theorem dX12_parts_41 : decode cX12_parts 41 = .ok (.istore 5, 2) := by decide +kernel
theorem dX12_parts_43 : decode cX12_parts 43 = .ok (.iload 5, 2) := by decide +kernel
theorem dX12_parts_45 : decode cX12_parts 45 = .ok (.ifCond .ge 10, 3) := by decide +kernel
theorem dX12_parts_48 : decode cX12_parts 48 = .ok (.iconst (-1), 1) := by decide +kernel
theorem dX12_parts_49 : decode cX12_parts 49 = .ok (.aload_n 0, 1) := by decide +kernel
theorem dX12_parts_50 : decode cX12_parts 50 = .ok (.getfield 156, 3) := by decide +kernel
theorem dX12_parts_53 : decode cX12_parts 53 = .ok (.isub, 1) := by decide +kernel
theorem dX12_parts_54 : decode cX12_parts 54 = .ok (.ireturn, 1) := by decide +kernel
theorem dX12_parts_55 : decode cX12_parts 55 = .ok (.iload_n 2, 1) := by decide +kernel
theorem dX12_parts_56 : decode cX12_parts 56 = .ok (.iconst 0, 1) := by decide +kernel
theorem dX12_parts_57 : decode cX12_parts 57 = .ok (.iload 5, 2) := by decide +kernel
theorem dX12_parts_59 : decode cX12_parts 59 = .ok (.aload_n 0, 1) := by decide +kernel
theorem dX12_parts_60 : decode cX12_parts 60 = .ok (.getfield 13, 3) := by decide +kernel
theorem dX12_parts_63 : decode cX12_parts 63 = .ok (.isub, 1) := by decide +kernel
theorem dX12_parts_64 : decode cX12_parts 64 = .ok (.invokestatic 311, 3) := by decide +kernel
theorem dX12_parts_67 : decode cX12_parts 67 = .ok (.iadd, 1) := by decide +kernel
theorem dX12_parts_68 : decode cX12_parts 68 = .ok (.istore_n 2, 1) := by decide +kernel
theorem dX12_parts_69 : decode cX12_parts 69 = .ok (.iload_n 3, 1) := by decide +kernel
theorem dX12_parts_70 : decode cX12_parts 70 = .ok (.iload 5, 2) := by decide +kernel
theorem dX12_parts_72 : decode cX12_parts 72 = .ok (.aload_n 0, 1) := by decide +kernel
theorem dX12_parts_73 : decode cX12_parts 73 = .ok (.getfield 13, 3) := by decide +kernel
theorem dX12_parts_76 : decode cX12_parts 76 = .ok (.invokestatic 162, 3) := by decide +kernel
theorem dX12_parts_79 : decode cX12_parts 79 = .ok (.iadd, 1) := by decide +kernel
theorem dX12_parts_80 : decode cX12_parts 80 = .ok (.istore_n 3, 1) := by decide +kernel
theorem dX12_parts_81 : decode cX12_parts 81 = .ok (.iinc 1 1, 3) := by decide +kernel
theorem dX12_parts_84 : decode cX12_parts 84 = .ok (.aload_n 0, 1) := by decide +kernel
theorem dX12_parts_85 : decode cX12_parts 85 = .ok (.bipush 44, 2) := by decide +kernel
theorem dX12_parts_87 : decode cX12_parts 87 = .ok (.invokevirtual 202, 3) := by decide +kernel
theorem dX12_parts_90 : decode cX12_parts 90 = .ok (.istore 4, 2) := by decide +kernel
theorem dX12_parts_92 : decode cX12_parts 92 = .ok (.goto (-71), 3) := by decide +kernel
theorem dX12_parts_95 : decode cX12_parts 95 = .ok (.aload_n 0, 1) := by decide +kernel
theorem dX12_parts_96 : decode cX12_parts 96 = .ok (.getfield 156, 3) := by decide +kernel
theorem dX12_parts_99 : decode cX12_parts 99 = .ok (.aload_n 0, 1) := by decide +kernel
theorem dX12_parts_100 : decode cX12_parts 100 = .ok (.getfield 168, 3) := by decide +kernel
theorem dX12_parts_103 : decode cX12_parts 103 = .ok (.if_icmp .ge 10, 3) := by decide +kernel
theorem dX12_parts_106 : decode cX12_parts 106 = .ok (.iconst (-1), 1) := by decide +kernel
theorem dX12_parts_107 : decode cX12_parts 107 = .ok (.aload_n 0, 1) := by decide +kernel
theorem dX12_parts_108 : decode cX12_parts 108 = .ok (.getfield 156, 3) := by decide +kernel
theorem dX12_parts_111 : decode cX12_parts 111 = .ok (.isub, 1) := by decide +kernel
theorem dX12_parts_112 : decode cX12_parts 112 = .ok (.ireturn, 1) := by decide +kernel
theorem dX12_parts_113 : decode cX12_parts 113 = .ok (.iload_n 2, 1) := by decide +kernel
theorem dX12_parts_114 : decode cX12_parts 114 = .ok (.iconst 0, 1) := by decide +kernel
theorem dX12_parts_115 : decode cX12_parts 115 = .ok (.iload_n 3, 1) := by decide +kernel
theorem dX12_parts_116 : decode cX12_parts 116 = .ok (.aload_n 0, 1) := by decide +kernel
theorem dX12_parts_117 : decode cX12_parts 117 = .ok (.getfield 13, 3) := by decide +kernel
theorem dX12_parts_120 : decode cX12_parts 120 = .ok (.iload_n 1, 1) := by decide +kernel
theorem dX12_parts_121 : decode cX12_parts 121 = .ok (.iconst 1, 1) := by decide +kernel
theorem dX12_parts_122 : decode cX12_parts 122 = .ok (.isub, 1) := by decide +kernel
theorem dX12_parts_123 : decode cX12_parts 123 = .ok (.imul, 1) := by decide +kernel
theorem dX12_parts_124 : decode cX12_parts 124 = .ok (.isub, 1) := by decide +kernel
theorem dX12_parts_125 : decode cX12_parts 125 = .ok (.invokestatic 311, 3) := by decide +kernel
theorem dX12_parts_128 : decode cX12_parts 128 = .ok (.iadd, 1) := by decide +kernel
theorem dX12_parts_129 : decode cX12_parts 129 = .ok (.istore 5, 2) := by decide +kernel
theorem dX12_parts_131 : decode cX12_parts 131 = .ok (.aload_n 0, 1) := by decide +kernel
theorem dX12_parts_132 : decode cX12_parts 132 = .ok (.iconst 0, 1) := by decide +kernel
theorem dX12_parts_133 : decode cX12_parts 133 = .ok (.putfield 140, 3) := by decide +kernel
theorem dX12_parts_136 : decode cX12_parts 136 = .ok (.aload_n 0, 1) := by decide +kernel
theorem dX12_parts_137 : decode cX12_parts 137 = .ok (.iload 5, 2) := by decide +kernel
theorem dX12_parts_139 : decode cX12_parts 139 = .ok (.i2l, 1) := by decide +kernel
theorem dX12_parts_140 : decode cX12_parts 140 = .ok (.invokevirtual 414, 3) := by decide +kernel
theorem dX12_parts_143 : decode cX12_parts 143 = .ok (.iload 5, 2) := by decide +kernel
theorem dX12_parts_145 : decode cX12_parts 145 = .ok (.ifCond .ne 7, 3) := by decide +kernel
theorem dX12_parts_148 : decode cX12_parts 148 = .ok (.iconst 1, 1) := by decide +kernel
theorem dX12_parts_149 : decode cX12_parts 149 = .ok (.goto 4, 3) := by decide +kernel
theorem dX12_parts_152 : decode cX12_parts 152 = .ok (.iconst 0, 1) := by decide +kernel
theorem dX12_parts_153 : decode cX12_parts 153 = .ok (.invokestatic 171, 3) := by decide +kernel
theorem dX12_parts_156 : decode cX12_parts 156 = .ok (.ireturn, 1) := by decide +kernel
theorem dX12_turn_0 : decode cX12_turn 0 = .ok (.aload_n 0, 1) := by decide +kernel
theorem dX12_turn_1 : decode cX12_turn 1 = .ok (.iconst 0, 1) := by decide +kernel
theorem dX12_turn_2 : decode cX12_turn 2 = .ok (.putfield 133, 3) := by decide +kernel
theorem dX12_turn_5 : decode cX12_turn 5 = .ok (.aload_n 0, 1) := by decide +kernel
theorem dX12_turn_6 : decode cX12_turn 6 = .ok (.bipush 40, 2) := by decide +kernel
theorem dX12_turn_8 : decode cX12_turn 8 = .ok (.invokevirtual 231, 3) := by decide +kernel
theorem dX12_turn_11 : decode cX12_turn 11 = .ok (.istore_n 1, 1) := by decide +kernel
theorem dX12_turn_12 : decode cX12_turn 12 = .ok (.aload_n 0, 1) := by decide +kernel
theorem dX12_turn_13 : decode cX12_turn 13 = .ok (.getfield 143, 3) := by decide +kernel
theorem dX12_turn_16 : decode cX12_turn 16 = .ok (.ifCond .ne 6, 3) := by decide +kernel
theorem dX12_turn_19 : decode cX12_turn 19 = .ok (.bipush (-100), 2) := by decide +kernel
theorem dX12_turn_21 : decode cX12_turn 21 = .ok (.ireturn, 1) := by decide +kernel
theorem dX12_turn_22 : decode cX12_turn 22 = .ok (.iconst 0, 1) := by decide +kernel
theorem dX12_turn_23 : decode cX12_turn 23 = .ok (.istore_n 2, 1) := by decide +kernel
theorem dX12_turn_24 : decode cX12_turn 24 = .ok (.iload_n 2, 1) := by decide +kernel
theorem dX12_turn_25 : decode cX12_turn 25 = .ok (.aload_n 0, 1) := by decide +kernel
theorem dX12_turn_26 : decode cX12_turn 26 = .ok (.getfield 143, 3) := by decide +kernel
theorem dX12_turn_29 : decode cX12_turn 29 = .ok (.if_icmp .ge 23, 3) := by decide +kernel
theorem dX12_turn_32 : decode cX12_turn 32 = .ok (.aload_n 0, 1) := by decide +kernel
theorem dX12_turn_33 : decode cX12_turn 33 = .ok (.getfield 97, 3) := by decide +kernel
theorem dX12_turn_36 : decode cX12_turn 36 = .ok (.iload_n 2, 1) := by decide +kernel
theorem dX12_turn_37 : decode cX12_turn 37 = .ok (.iconst 0, 1) := by decide +kernel
theorem dX12_turn_38 : decode cX12_turn 38 = .ok (.iastore, 1) := by decide +kernel
theorem dX12_turn_39 : decode cX12_turn 39 = .ok (.aload_n 0, 1) := by decide +kernel
theorem dX12_turn_40 : decode cX12_turn 40 = .ok (.getfield 100, 3) := by decide +kernel
theorem dX12_turn_43 : decode cX12_turn 43 = .ok (.iload_n 2, 1) := by decide +kernel
theorem dX12_turn_44 : decode cX12_turn 44 = .ok (.iconst (-1), 1) := by decide +kernel
theorem dX12_turn_45 : decode cX12_turn 45 = .ok (.iastore, 1) := by decide +kernel
theorem dX12_turn_46 : decode cX12_turn 46 = .ok (.iinc 2 1, 3) := by decide +kernel
theorem dX12_turn_49 : decode cX12_turn 49 = .ok (.goto (-25), 3) := by decide +kernel
theorem dX12_turn_52 : decode cX12_turn 52 = .ok (.iconst 0, 1) := by decide +kernel
theorem dX12_turn_53 : decode cX12_turn 53 = .ok (.istore_n 2, 1) := by decide +kernel
theorem dX12_turn_54 : decode cX12_turn 54 = .ok (.iconst 1, 1) := by decide +kernel
theorem dX12_turn_55 : decode cX12_turn 55 = .ok (.istore_n 3, 1) := by decide +kernel
theorem dX12_turn_56 : decode cX12_turn 56 = .ok (.iload_n 3, 1) := by decide +kernel
theorem dX12_turn_57 : decode cX12_turn 57 = .ok (.ifCond .eq 53, 3) := by decide +kernel
theorem dX12_turn_60 : decode cX12_turn 60 = .ok (.aload_n 0, 1) := by decide +kernel
theorem dX12_turn_61 : decode cX12_turn 61 = .ok (.aload_n 0, 1) := by decide +kernel
theorem dX12_turn_62 : decode cX12_turn 62 = .ok (.getfield 143, 3) := by decide +kernel
theorem dX12_turn_65 : decode cX12_turn 65 = .ok (.invokevirtual 333, 3) := by decide +kernel
theorem dX12_turn_68 : decode cX12_turn 68 = .ok (.istore 4, 2) := by decide +kernel
theorem dX12_turn_70 : decode cX12_turn 70 = .ok (.iload 4, 2) := by decide +kernel
theorem dX12_turn_72 : decode cX12_turn 72 = .ok (.ifCond .lt 7, 3) := by decide +kernel
theorem dX12_turn_75 : decode cX12_turn 75 = .ok (.iconst 1, 1) := by decide +kernel
theorem dX12_turn_76 : decode cX12_turn 76 = .ok (.goto 4, 3) := by decide +kernel
theorem dX12_turn_79 : decode cX12_turn 79 = .ok (.iconst 0, 1) := by decide +kernel
theorem dX12_turn_80 : decode cX12_turn 80 = .ok (.istore_n 3, 1) := by decide +kernel
theorem dX12_turn_81 : decode cX12_turn 81 = .ok (.iload_n 3, 1) := by decide +kernel
theorem dX12_turn_82 : decode cX12_turn 82 = .ok (.ifCond .eq 25, 3) := by decide +kernel
theorem dX12_turn_85 : decode cX12_turn 85 = .ok (.aload_n 0, 1) := by decide +kernel
theorem dX12_turn_86 : decode cX12_turn 86 = .ok (.getfield 97, 3) := by decide +kernel
theorem dX12_turn_89 : decode cX12_turn 89 = .ok (.iload 4, 2) := by decide +kernel
theorem dX12_turn_91 : decode cX12_turn 91 = .ok (.dup2, 1) := by decide +kernel
theorem dX12_turn_92 : decode cX12_turn 92 = .ok (.iaload, 1) := by decide +kernel
theorem dX12_turn_93 : decode cX12_turn 93 = .ok (.iconst 1, 1) := by decide +kernel
theorem dX12_turn_94 : decode cX12_turn 94 = .ok (.iadd, 1) := by decide +kernel
theorem dX12_turn_95 : decode cX12_turn 95 = .ok (.iastore, 1) := by decide +kernel
theorem dX12_turn_96 : decode cX12_turn 96 = .ok (.aload_n 0, 1) := by decide +kernel
theorem dX12_turn_97 : decode cX12_turn 97 = .ok (.getfield 100, 3) := by decide +kernel
theorem dX12_turn_100 : decode cX12_turn 100 = .ok (.iload 4, 2) := by decide +kernel
theorem dX12_turn_102 : decode cX12_turn 102 = .ok (.iload_n 2, 1) := by decide +kernel
theorem dX12_turn_103 : decode cX12_turn 103 = .ok (.iastore, 1) := by decide +kernel
theorem dX12_turn_104 : decode cX12_turn 104 = .ok (.iinc 2 1, 3) := by decide +kernel
theorem dX12_turn_107 : decode cX12_turn 107 = .ok (.goto (-51), 3) := by decide +kernel
theorem dX12_turn_110 : decode cX12_turn 110 = .ok (.aload_n 0, 1) := by decide +kernel
theorem dX12_turn_111 : decode cX12_turn 111 = .ok (.iload_n 1, 1) := by decide +kernel
theorem dX12_turn_112 : decode cX12_turn 112 = .ok (.bipush 40, 2) := by decide +kernel
theorem dX12_turn_114 : decode cX12_turn 114 = .ok (.iload_n 2, 1) := by decide +kernel
theorem dX12_turn_115 : decode cX12_turn 115 = .ok (.ifCond .le 7, 3) := by decide +kernel
theorem dX12_turn_118 : decode cX12_turn 118 = .ok (.iconst 1, 1) := by decide +kernel
theorem dX12_turn_119 : decode cX12_turn 119 = .ok (.goto 4, 3) := by decide +kernel
theorem dX12_turn_122 : decode cX12_turn 122 = .ok (.iconst 0, 1) := by decide +kernel
theorem dX12_turn_123 : decode cX12_turn 123 = .ok (.invokevirtual 237, 3) := by decide +kernel
theorem dX12_turn_126 : decode cX12_turn 126 = .ok (.istore 4, 2) := by decide +kernel
theorem dX12_turn_128 : decode cX12_turn 128 = .ok (.iload 4, 2) := by decide +kernel
theorem dX12_turn_130 : decode cX12_turn 130 = .ok (.ifCond .ge 6, 3) := by decide +kernel
theorem dX12_turn_133 : decode cX12_turn 133 = .ok (.iload 4, 2) := by decide +kernel
theorem dX12_turn_135 : decode cX12_turn 135 = .ok (.ireturn, 1) := by decide +kernel
theorem dX12_turn_136 : decode cX12_turn 136 = .ok (.iconst 0, 1) := by decide +kernel
theorem dX12_turn_137 : decode cX12_turn 137 = .ok (.istore 5, 2) := by decide +kernel
theorem dX12_turn_139 : decode cX12_turn 139 = .ok (.iconst 0, 1) := by decide +kernel
theorem dX12_turn_140 : decode cX12_turn 140 = .ok (.istore 6, 2) := by decide +kernel
theorem dX12_turn_142 : decode cX12_turn 142 = .ok (.iconst 0, 1) := by decide +kernel
theorem dX12_turn_143 : decode cX12_turn 143 = .ok (.istore 7, 2) := by decide +kernel
theorem dX12_turn_145 : decode cX12_turn 145 = .ok (.iload 7, 2) := by decide +kernel
theorem dX12_turn_147 : decode cX12_turn 147 = .ok (.aload_n 0, 1) := by decide +kernel
theorem dX12_turn_148 : decode cX12_turn 148 = .ok (.getfield 143, 3) := by decide +kernel
theorem dX12_turn_151 : decode cX12_turn 151 = .ok (.if_icmp .ge 83, 3) := by decide +kernel
theorem dX12_turn_154 : decode cX12_turn 154 = .ok (.aload_n 0, 1) := by decide +kernel
theorem dX12_turn_155 : decode cX12_turn 155 = .ok (.getfield 97, 3) := by decide +kernel
theorem dX12_turn_158 : decode cX12_turn 158 = .ok (.iload 7, 2) := by decide +kernel
theorem dX12_turn_160 : decode cX12_turn 160 = .ok (.iaload, 1) := by decide +kernel
theorem dX12_turn_161 : decode cX12_turn 161 = .ok (.aload_n 0, 1) := by decide +kernel
theorem dX12_turn_162 : decode cX12_turn 162 = .ok (.getfield 97, 3) := by decide +kernel
theorem dX12_turn_165 : decode cX12_turn 165 = .ok (.iload 5, 2) := by decide +kernel
theorem dX12_turn_167 : decode cX12_turn 167 = .ok (.iaload, 1) := by decide +kernel
theorem dX12_turn_168 : decode cX12_turn 168 = .ok (.if_icmp .lt 37, 3) := by decide +kernel
theorem dX12_turn_171 : decode cX12_turn 171 = .ok (.aload_n 0, 1) := by decide +kernel
theorem dX12_turn_172 : decode cX12_turn 172 = .ok (.getfield 97, 3) := by decide +kernel
theorem dX12_turn_175 : decode cX12_turn 175 = .ok (.iload 7, 2) := by decide +kernel
theorem dX12_turn_177 : decode cX12_turn 177 = .ok (.iaload, 1) := by decide +kernel
theorem dX12_turn_178 : decode cX12_turn 178 = .ok (.aload_n 0, 1) := by decide +kernel
theorem dX12_turn_179 : decode cX12_turn 179 = .ok (.getfield 97, 3) := by decide +kernel
theorem dX12_turn_182 : decode cX12_turn 182 = .ok (.iload 5, 2) := by decide +kernel
theorem dX12_turn_184 : decode cX12_turn 184 = .ok (.iaload, 1) := by decide +kernel
theorem dX12_turn_185 : decode cX12_turn 185 = .ok (.if_icmp .ne 25, 3) := by decide +kernel
theorem dX12_turn_188 : decode cX12_turn 188 = .ok (.aload_n 0, 1) := by decide +kernel
theorem dX12_turn_189 : decode cX12_turn 189 = .ok (.getfield 100, 3) := by decide +kernel
theorem dX12_turn_192 : decode cX12_turn 192 = .ok (.iload 7, 2) := by decide +kernel
theorem dX12_turn_194 : decode cX12_turn 194 = .ok (.iaload, 1) := by decide +kernel
theorem dX12_turn_195 : decode cX12_turn 195 = .ok (.aload_n 0, 1) := by decide +kernel
theorem dX12_turn_196 : decode cX12_turn 196 = .ok (.getfield 100, 3) := by decide +kernel
theorem dX12_turn_199 : decode cX12_turn 199 = .ok (.iload 5, 2) := by decide +kernel
theorem dX12_turn_201 : decode cX12_turn 201 = .ok (.iaload, 1) := by decide +kernel
theorem dX12_turn_202 : decode cX12_turn 202 = .ok (.if_icmp .ge 8, 3) := by decide +kernel
theorem dX12_turn_205 : decode cX12_turn 205 = .ok (.iload 7, 2) := by decide +kernel
theorem dX12_turn_207 : decode cX12_turn 207 = .ok (.goto 5, 3) := by decide +kernel
theorem dX12_turn_210 : decode cX12_turn 210 = .ok (.iload 5, 2) := by decide +kernel
theorem dX12_turn_212 : decode cX12_turn 212 = .ok (.istore 5, 2) := by decide +kernel
theorem dX12_turn_214 : decode cX12_turn 214 = .ok (.iload 6, 2) := by decide +kernel
theorem dX12_turn_216 : decode cX12_turn 216 = .ok (.aload_n 0, 1) := by decide +kernel
theorem dX12_turn_217 : decode cX12_turn 217 = .ok (.getfield 97, 3) := by decide +kernel
theorem dX12_turn_220 : decode cX12_turn 220 = .ok (.iload 7, 2) := by decide +kernel
theorem dX12_turn_222 : decode cX12_turn 222 = .ok (.iaload, 1) := by decide +kernel
theorem dX12_turn_223 : decode cX12_turn 223 = .ok (.invokestatic 311, 3) := by decide +kernel
theorem dX12_turn_226 : decode cX12_turn 226 = .ok (.istore 6, 2) := by decide +kernel
theorem dX12_turn_228 : decode cX12_turn 228 = .ok (.iinc 7 1, 3) := by decide +kernel
theorem dX12_turn_231 : decode cX12_turn 231 = .ok (.goto (-86), 3) := by decide +kernel
theorem dX12_turn_234 : decode cX12_turn 234 = .ok (.aload_n 0, 1) := by decide +kernel
theorem dX12_turn_235 : decode cX12_turn 235 = .ok (.iconst 0, 1) := by decide +kernel
theorem dX12_turn_236 : decode cX12_turn 236 = .ok (.putfield 140, 3) := by decide +kernel
theorem dX12_turn_239 : decode cX12_turn 239 = .ok (.aload_n 0, 1) := by decide +kernel
theorem dX12_turn_240 : decode cX12_turn 240 = .ok (.aload_n 0, 1) := by decide +kernel
theorem dX12_turn_241 : decode cX12_turn 241 = .ok (.getfield 97, 3) := by decide +kernel
theorem dX12_turn_244 : decode cX12_turn 244 = .ok (.iload 5, 2) := by decide +kernel
theorem dX12_turn_246 : decode cX12_turn 246 = .ok (.iaload, 1) := by decide +kernel
theorem dX12_turn_247 : decode cX12_turn 247 = .ok (.i2l, 1) := by decide +kernel
theorem dX12_turn_248 : decode cX12_turn 248 = .ok (.invokevirtual 414, 3) := by decide +kernel
theorem dX12_turn_251 : decode cX12_turn 251 = .ok (.aload_n 0, 1) := by decide +kernel
theorem dX12_turn_252 : decode cX12_turn 252 = .ok (.iload 6, 2) := by decide +kernel
theorem dX12_turn_254 : decode cX12_turn 254 = .ok (.i2l, 1) := by decide +kernel
theorem dX12_turn_255 : decode cX12_turn 255 = .ok (.invokevirtual 414, 3) := by decide +kernel
theorem dX12_turn_258 : decode cX12_turn 258 = .ok (.iload 5, 2) := by decide +kernel
theorem dX12_turn_260 : decode cX12_turn 260 = .ok (.ireturn, 1) := by decide +kernel
theorem dX12_readsBags_0 : decode cX12_readsBags 0 = .ok (.aload_n 0, 1) := by decide +kernel
theorem dX12_readsBags_1 : decode cX12_readsBags 1 = .ok (.iconst 0, 1) := by decide +kernel
theorem dX12_readsBags_2 : decode cX12_readsBags 2 = .ok (.putfield 464, 3) := by decide +kernel
theorem dX12_readsBags_5 : decode cX12_readsBags 5 = .ok (.aload_n 0, 1) := by decide +kernel
theorem dX12_readsBags_6 : decode cX12_readsBags 6 = .ok (.getfield 464, 3) := by decide +kernel
theorem dX12_readsBags_9 : decode cX12_readsBags 9 = .ok (.bipush 8, 2) := by decide +kernel
theorem dX12_readsBags_11 : decode cX12_readsBags 11 = .ok (.if_icmp .ge 65, 3) := by decide +kernel
theorem dX12_readsBags_14 : decode cX12_readsBags 14 = .ok (.aload_n 0, 1) := by decide +kernel
theorem dX12_readsBags_15 : decode cX12_readsBags 15 = .ok (.getfield 156, 3) := by decide +kernel
theorem dX12_readsBags_18 : decode cX12_readsBags 18 = .ok (.aload_n 0, 1) := by decide +kernel
theorem dX12_readsBags_19 : decode cX12_readsBags 19 = .ok (.getfield 168, 3) := by decide +kernel
theorem dX12_readsBags_22 : decode cX12_readsBags 22 = .ok (.if_icmp .ge 54, 3) := by decide +kernel
theorem dX12_readsBags_25 : decode cX12_readsBags 25 = .ok (.aload_n 0, 1) := by decide +kernel
theorem dX12_readsBags_26 : decode cX12_readsBags 26 = .ok (.getfield 49, 3) := by decide +kernel
theorem dX12_readsBags_29 : decode cX12_readsBags 29 = .ok (.aload_n 0, 1) := by decide +kernel
theorem dX12_readsBags_30 : decode cX12_readsBags 30 = .ok (.getfield 156, 3) := by decide +kernel
theorem dX12_readsBags_33 : decode cX12_readsBags 33 = .ok (.iaload, 1) := by decide +kernel
theorem dX12_readsBags_34 : decode cX12_readsBags 34 = .ok (.i2l, 1) := by decide +kernel
theorem dX12_readsBags_35 : decode cX12_readsBags 35 = .ok (.ldc2_w 467, 3) := by decide +kernel
theorem dX12_readsBags_38 : decode cX12_readsBags 38 = .ok (.ldc2_w 177, 3) := by decide +kernel
theorem dX12_readsBags_41 : decode cX12_readsBags 41 = .ok (.invokestatic 146, 3) := by decide +kernel
theorem dX12_readsBags_44 : decode cX12_readsBags 44 = .ok (.ifCond .eq 32, 3) := by decide +kernel
theorem dX12_readsBags_47 : decode cX12_readsBags 47 = .ok (.aload_n 0, 1) := by decide +kernel
theorem dX12_readsBags_48 : decode cX12_readsBags 48 = .ok (.getfield 103, 3) := by decide +kernel
theorem dX12_readsBags_51 : decode cX12_readsBags 51 = .ok (.aload_n 0, 1) := by decide +kernel
theorem dX12_readsBags_52 : decode cX12_readsBags 52 = .ok (.getfield 464, 3) := by decide +kernel
theorem dX12_readsBags_55 : decode cX12_readsBags 55 = .ok (.aload_n 0, 1) := by decide +kernel
theorem dX12_readsBags_56 : decode cX12_readsBags 56 = .ok (.iconst 1, 1) := by decide +kernel
theorem dX12_readsBags_57 : decode cX12_readsBags 57 = .ok (.bipush 9, 2) := by decide +kernel
theorem dX12_readsBags_59 : decode cX12_readsBags 59 = .ok (.invokevirtual 209, 3) := by decide +kernel
theorem dX12_readsBags_62 : decode cX12_readsBags 62 = .ok (.iastore, 1) := by decide +kernel
theorem dX12_readsBags_63 : decode cX12_readsBags 63 = .ok (.aload_n 0, 1) := by decide +kernel
theorem dX12_readsBags_64 : decode cX12_readsBags 64 = .ok (.dup, 1) := by decide +kernel
theorem dX12_readsBags_65 : decode cX12_readsBags 65 = .ok (.getfield 464, 3) := by decide +kernel
theorem dX12_readsBags_68 : decode cX12_readsBags 68 = .ok (.iconst 1, 1) := by decide +kernel
theorem dX12_readsBags_69 : decode cX12_readsBags 69 = .ok (.iadd, 1) := by decide +kernel
theorem dX12_readsBags_70 : decode cX12_readsBags 70 = .ok (.putfield 464, 3) := by decide +kernel
theorem dX12_readsBags_73 : decode cX12_readsBags 73 = .ok (.goto (-68), 3) := by decide +kernel
theorem dX12_readsBags_76 : decode cX12_readsBags 76 = .ok (.aload_n 0, 1) := by decide +kernel
theorem dX12_readsBags_77 : decode cX12_readsBags 77 = .ok (.getfield 464, 3) := by decide +kernel
theorem dX12_readsBags_80 : decode cX12_readsBags 80 = .ok (.ifCond .eq 14, 3) := by decide +kernel
theorem dX12_readsBags_83 : decode cX12_readsBags 83 = .ok (.aload_n 0, 1) := by decide +kernel
theorem dX12_readsBags_84 : decode cX12_readsBags 84 = .ok (.getfield 156, 3) := by decide +kernel
theorem dX12_readsBags_87 : decode cX12_readsBags 87 = .ok (.aload_n 0, 1) := by decide +kernel
theorem dX12_readsBags_88 : decode cX12_readsBags 88 = .ok (.getfield 168, 3) := by decide +kernel
theorem dX12_readsBags_91 : decode cX12_readsBags 91 = .ok (.if_icmp .ge 12, 3) := by decide +kernel
theorem dX12_readsBags_94 : decode cX12_readsBags 94 = .ok (.iconst (-1), 1) := by decide +kernel
theorem dX12_readsBags_95 : decode cX12_readsBags 95 = .ok (.aload_n 0, 1) := by decide +kernel
theorem dX12_readsBags_96 : decode cX12_readsBags 96 = .ok (.getfield 156, 3) := by decide +kernel
theorem dX12_readsBags_99 : decode cX12_readsBags 99 = .ok (.isub, 1) := by decide +kernel
theorem dX12_readsBags_100 : decode cX12_readsBags 100 = .ok (.goto 4, 3) := by decide +kernel
theorem dX12_readsBags_103 : decode cX12_readsBags 103 = .ok (.iconst 0, 1) := by decide +kernel
theorem dX12_readsBags_104 : decode cX12_readsBags 104 = .ok (.ireturn, 1) := by decide +kernel
theorem dX12_packs_0 : decode cX12_packs 0 = .ok (.iload_n 1, 1) := by decide +kernel
theorem dX12_packs_1 : decode cX12_packs 1 = .ok (.aload_n 0, 1) := by decide +kernel
theorem dX12_packs_2 : decode cX12_packs 2 = .ok (.getfield 464, 3) := by decide +kernel
theorem dX12_packs_5 : decode cX12_packs 5 = .ok (.if_icmp .ne 5, 3) := by decide +kernel
theorem dX12_packs_8 : decode cX12_packs 8 = .ok (.iconst 1, 1) := by decide +kernel
theorem dX12_packs_9 : decode cX12_packs 9 = .ok (.ireturn, 1) := by decide +kernel
theorem dX12_packs_10 : decode cX12_packs 10 = .ok (.iload 4, 2) := by decide +kernel
theorem dX12_packs_12 : decode cX12_packs 12 = .ok (.iload_n 1, 1) := by decide +kernel
theorem dX12_packs_13 : decode cX12_packs 13 = .ok (.invokestatic 358, 3) := by decide +kernel
theorem dX12_packs_16 : decode cX12_packs 16 = .ok (.ifCond .ne 15, 3) := by decide +kernel
theorem dX12_packs_19 : decode cX12_packs 19 = .ok (.aload_n 0, 1) := by decide +kernel
theorem dX12_packs_20 : decode cX12_packs 20 = .ok (.iload_n 1, 1) := by decide +kernel
theorem dX12_packs_21 : decode cX12_packs 21 = .ok (.iconst 1, 1) := by decide +kernel
theorem dX12_packs_22 : decode cX12_packs 22 = .ok (.iadd, 1) := by decide +kernel
theorem dX12_packs_23 : decode cX12_packs 23 = .ok (.iload_n 2, 1) := by decide +kernel
theorem dX12_packs_24 : decode cX12_packs 24 = .ok (.iload_n 3, 1) := by decide +kernel
theorem dX12_packs_25 : decode cX12_packs 25 = .ok (.iload 4, 2) := by decide +kernel
theorem dX12_packs_27 : decode cX12_packs 27 = .ok (.invokevirtual 469, 3) := by decide +kernel
theorem dX12_packs_30 : decode cX12_packs 30 = .ok (.ireturn, 1) := by decide +kernel
theorem dX12_packs_31 : decode cX12_packs 31 = .ok (.iconst 0, 1) := by decide +kernel
theorem dX12_packs_32 : decode cX12_packs 32 = .ok (.istore 5, 2) := by decide +kernel
theorem dX12_packs_34 : decode cX12_packs 34 = .ok (.iload 5, 2) := by decide +kernel
theorem dX12_packs_36 : decode cX12_packs 36 = .ok (.iload_n 2, 1) := by decide +kernel
theorem dX12_packs_37 : decode cX12_packs 37 = .ok (.if_icmp .gt 98, 3) := by decide +kernel
theorem dX12_packs_40 : decode cX12_packs 40 = .ok (.iload 5, 2) := by decide +kernel
theorem dX12_packs_42 : decode cX12_packs 42 = .ok (.iload_n 3, 1) := by decide +kernel
theorem dX12_packs_43 : decode cX12_packs 43 = .ok (.if_icmp .ge 92, 3) := by decide +kernel
theorem dX12_packs_46 : decode cX12_packs 46 = .ok (.aload_n 0, 1) := by decide +kernel
theorem dX12_packs_47 : decode cX12_packs 47 = .ok (.getfield 109, 3) := by decide +kernel
theorem dX12_packs_50 : decode cX12_packs 50 = .ok (.iload 5, 2) := by decide +kernel
theorem dX12_packs_52 : decode cX12_packs 52 = .ok (.iaload, 1) := by decide +kernel
theorem dX12_packs_53 : decode cX12_packs 53 = .ok (.aload_n 0, 1) := by decide +kernel
theorem dX12_packs_54 : decode cX12_packs 54 = .ok (.getfield 103, 3) := by decide +kernel
theorem dX12_packs_57 : decode cX12_packs 57 = .ok (.iload_n 1, 1) := by decide +kernel
theorem dX12_packs_58 : decode cX12_packs 58 = .ok (.iaload, 1) := by decide +kernel
theorem dX12_packs_59 : decode cX12_packs 59 = .ok (.if_icmp .lt 70, 3) := by decide +kernel
theorem dX12_packs_62 : decode cX12_packs 62 = .ok (.aload_n 0, 1) := by decide +kernel
theorem dX12_packs_63 : decode cX12_packs 63 = .ok (.getfield 109, 3) := by decide +kernel
theorem dX12_packs_66 : decode cX12_packs 66 = .ok (.iload 5, 2) := by decide +kernel
theorem dX12_packs_68 : decode cX12_packs 68 = .ok (.dup2, 1) := by decide +kernel
theorem dX12_packs_69 : decode cX12_packs 69 = .ok (.iaload, 1) := by decide +kernel
theorem dX12_packs_70 : decode cX12_packs 70 = .ok (.aload_n 0, 1) := by decide +kernel
theorem dX12_packs_71 : decode cX12_packs 71 = .ok (.getfield 103, 3) := by decide +kernel
theorem dX12_packs_74 : decode cX12_packs 74 = .ok (.iload_n 1, 1) := by decide +kernel
theorem dX12_packs_75 : decode cX12_packs 75 = .ok (.iaload, 1) := by decide +kernel
theorem dX12_packs_76 : decode cX12_packs 76 = .ok (.isub, 1) := by decide +kernel
theorem dX12_packs_77 : decode cX12_packs 77 = .ok (.iastore, 1) := by decide +kernel
theorem dX12_packs_78 : decode cX12_packs 78 = .ok (.aload_n 0, 1) := by decide +kernel
theorem dX12_packs_79 : decode cX12_packs 79 = .ok (.getfield 106, 3) := by decide +kernel
theorem dX12_packs_82 : decode cX12_packs 82 = .ok (.iload_n 1, 1) := by decide +kernel
theorem dX12_packs_83 : decode cX12_packs 83 = .ok (.iload 5, 2) := by decide +kernel
theorem dX12_packs_85 : decode cX12_packs 85 = .ok (.iastore, 1) := by decide +kernel
theorem dX12_packs_86 : decode cX12_packs 86 = .ok (.aload_n 0, 1) := by decide +kernel
theorem dX12_packs_87 : decode cX12_packs 87 = .ok (.iload_n 1, 1) := by decide +kernel
theorem dX12_packs_88 : decode cX12_packs 88 = .ok (.iconst 1, 1) := by decide +kernel
theorem dX12_packs_89 : decode cX12_packs 89 = .ok (.iadd, 1) := by decide +kernel
theorem dX12_packs_90 : decode cX12_packs 90 = .ok (.iload_n 2, 1) := by decide +kernel
theorem dX12_packs_91 : decode cX12_packs 91 = .ok (.iload 5, 2) := by decide +kernel
theorem dX12_packs_93 : decode cX12_packs 93 = .ok (.iconst 1, 1) := by decide +kernel
theorem dX12_packs_94 : decode cX12_packs 94 = .ok (.iadd, 1) := by decide +kernel
theorem dX12_packs_95 : decode cX12_packs 95 = .ok (.invokestatic 311, 3) := by decide +kernel
theorem dX12_packs_98 : decode cX12_packs 98 = .ok (.iload_n 3, 1) := by decide +kernel
theorem dX12_packs_99 : decode cX12_packs 99 = .ok (.iload 4, 2) := by decide +kernel
theorem dX12_packs_101 : decode cX12_packs 101 = .ok (.invokevirtual 469, 3) := by decide +kernel
theorem dX12_packs_104 : decode cX12_packs 104 = .ok (.istore 6, 2) := by decide +kernel
theorem dX12_packs_106 : decode cX12_packs 106 = .ok (.aload_n 0, 1) := by decide +kernel
theorem dX12_packs_107 : decode cX12_packs 107 = .ok (.getfield 109, 3) := by decide +kernel
theorem dX12_packs_110 : decode cX12_packs 110 = .ok (.iload 5, 2) := by decide +kernel
theorem dX12_packs_112 : decode cX12_packs 112 = .ok (.dup2, 1) := by decide +kernel
theorem dX12_packs_113 : decode cX12_packs 113 = .ok (.iaload, 1) := by decide +kernel
theorem dX12_packs_114 : decode cX12_packs 114 = .ok (.aload_n 0, 1) := by decide +kernel
theorem dX12_packs_115 : decode cX12_packs 115 = .ok (.getfield 103, 3) := by decide +kernel
theorem dX12_packs_118 : decode cX12_packs 118 = .ok (.iload_n 1, 1) := by decide +kernel
theorem dX12_packs_119 : decode cX12_packs 119 = .ok (.iaload, 1) := by decide +kernel
theorem dX12_packs_120 : decode cX12_packs 120 = .ok (.iadd, 1) := by decide +kernel
theorem dX12_packs_121 : decode cX12_packs 121 = .ok (.iastore, 1) := by decide +kernel
theorem dX12_packs_122 : decode cX12_packs 122 = .ok (.iload 6, 2) := by decide +kernel
theorem dX12_packs_124 : decode cX12_packs 124 = .ok (.ifCond .eq 5, 3) := by decide +kernel
theorem dX12_packs_127 : decode cX12_packs 127 = .ok (.iconst 1, 1) := by decide +kernel
theorem dX12_packs_128 : decode cX12_packs 128 = .ok (.ireturn, 1) := by decide +kernel
theorem dX12_packs_129 : decode cX12_packs 129 = .ok (.iinc 5 1, 3) := by decide +kernel
theorem dX12_packs_132 : decode cX12_packs 132 = .ok (.goto (-98), 3) := by decide +kernel
theorem dX12_packs_135 : decode cX12_packs 135 = .ok (.iconst 0, 1) := by decide +kernel
theorem dX12_packs_136 : decode cX12_packs 136 = .ok (.ireturn, 1) := by decide +kernel
theorem dX12_canPack_0 : decode cX12_canPack 0 = .ok (.iconst 0, 1) := by decide +kernel
theorem dX12_canPack_1 : decode cX12_canPack 1 = .ok (.istore 4, 2) := by decide +kernel
theorem dX12_canPack_3 : decode cX12_canPack 3 = .ok (.iload 4, 2) := by decide +kernel
theorem dX12_canPack_5 : decode cX12_canPack 5 = .ok (.bipush 8, 2) := by decide +kernel
theorem dX12_canPack_7 : decode cX12_canPack 7 = .ok (.if_icmp .ge 17, 3) := by decide +kernel
theorem dX12_canPack_10 : decode cX12_canPack 10 = .ok (.aload_n 0, 1) := by decide +kernel
theorem dX12_canPack_11 : decode cX12_canPack 11 = .ok (.getfield 109, 3) := by decide +kernel
theorem dX12_canPack_14 : decode cX12_canPack 14 = .ok (.iload 4, 2) := by decide +kernel
theorem dX12_canPack_16 : decode cX12_canPack 16 = .ok (.iload_n 2, 1) := by decide +kernel
theorem dX12_canPack_17 : decode cX12_canPack 17 = .ok (.iastore, 1) := by decide +kernel
theorem dX12_canPack_18 : decode cX12_canPack 18 = .ok (.iinc 4 1, 3) := by decide +kernel
theorem dX12_canPack_21 : decode cX12_canPack 21 = .ok (.goto (-18), 3) := by decide +kernel
theorem dX12_canPack_24 : decode cX12_canPack 24 = .ok (.aload_n 0, 1) := by decide +kernel
theorem dX12_canPack_25 : decode cX12_canPack 25 = .ok (.iconst 0, 1) := by decide +kernel
theorem dX12_canPack_26 : decode cX12_canPack 26 = .ok (.iconst 0, 1) := by decide +kernel
theorem dX12_canPack_27 : decode cX12_canPack 27 = .ok (.iload_n 1, 1) := by decide +kernel
theorem dX12_canPack_28 : decode cX12_canPack 28 = .ok (.iload_n 3, 1) := by decide +kernel
theorem dX12_canPack_29 : decode cX12_canPack 29 = .ok (.invokevirtual 469, 3) := by decide +kernel
theorem dX12_canPack_32 : decode cX12_canPack 32 = .ok (.ireturn, 1) := by decide +kernel
theorem dX12_lockers_0 : decode cX12_lockers 0 = .ok (.aload_n 0, 1) := by decide +kernel
theorem dX12_lockers_1 : decode cX12_lockers 1 = .ok (.iconst 0, 1) := by decide +kernel
theorem dX12_lockers_2 : decode cX12_lockers 2 = .ok (.putfield 133, 3) := by decide +kernel
theorem dX12_lockers_5 : decode cX12_lockers 5 = .ok (.aload_n 0, 1) := by decide +kernel
theorem dX12_lockers_6 : decode cX12_lockers 6 = .ok (.bipush 80, 2) := by decide +kernel
theorem dX12_lockers_8 : decode cX12_lockers 8 = .ok (.invokevirtual 231, 3) := by decide +kernel
theorem dX12_lockers_11 : decode cX12_lockers 11 = .ok (.pop, 1) := by decide +kernel
theorem dX12_lockers_12 : decode cX12_lockers 12 = .ok (.iload_n 1, 1) := by decide +kernel
theorem dX12_lockers_13 : decode cX12_lockers 13 = .ok (.i2l, 1) := by decide +kernel
theorem dX12_lockers_14 : decode cX12_lockers 14 = .ok (.lconst 1, 1) := by decide +kernel
theorem dX12_lockers_15 : decode cX12_lockers 15 = .ok (.ldc2_w 473, 3) := by decide +kernel
theorem dX12_lockers_18 : decode cX12_lockers 18 = .ok (.invokestatic 146, 3) := by decide +kernel
theorem dX12_lockers_21 : decode cX12_lockers 21 = .ok (.ifCond .ne 6, 3) := by decide +kernel
theorem dX12_lockers_24 : decode cX12_lockers 24 = .ok (.bipush (-100), 2) := by decide +kernel
theorem dX12_lockers_26 : decode cX12_lockers 26 = .ok (.ireturn, 1) := by decide +kernel
theorem dX12_lockers_27 : decode cX12_lockers 27 = .ok (.aload_n 0, 1) := by decide +kernel
theorem dX12_lockers_28 : decode cX12_lockers 28 = .ok (.invokevirtual 475, 3) := by decide +kernel
theorem dX12_lockers_31 : decode cX12_lockers 31 = .ok (.istore_n 2, 1) := by decide +kernel
theorem dX12_lockers_32 : decode cX12_lockers 32 = .ok (.iload_n 2, 1) := by decide +kernel
theorem dX12_lockers_33 : decode cX12_lockers 33 = .ok (.ifCond .ge 5, 3) := by decide +kernel
theorem dX12_lockers_36 : decode cX12_lockers 36 = .ok (.iload_n 2, 1) := by decide +kernel
theorem dX12_lockers_37 : decode cX12_lockers 37 = .ok (.ireturn, 1) := by decide +kernel
theorem dX12_lockers_38 : decode cX12_lockers 38 = .ok (.iconst 1, 1) := by decide +kernel
theorem dX12_lockers_39 : decode cX12_lockers 39 = .ok (.aload_n 0, 1) := by decide +kernel
theorem dX12_lockers_40 : decode cX12_lockers 40 = .ok (.getfield 464, 3) := by decide +kernel
theorem dX12_lockers_43 : decode cX12_lockers 43 = .ok (.ishl, 1) := by decide +kernel
theorem dX12_lockers_44 : decode cX12_lockers 44 = .ok (.iconst 1, 1) := by decide +kernel
theorem dX12_lockers_45 : decode cX12_lockers 45 = .ok (.isub, 1) := by decide +kernel
theorem dX12_lockers_46 : decode cX12_lockers 46 = .ok (.istore_n 3, 1) := by decide +kernel
theorem dX12_lockers_47 : decode cX12_lockers 47 = .ok (.iconst 0, 1) := by decide +kernel
theorem dX12_lockers_48 : decode cX12_lockers 48 = .ok (.istore 4, 2) := by decide +kernel
theorem dX12_lockers_50 : decode cX12_lockers 50 = .ok (.iload 4, 2) := by decide +kernel
theorem dX12_lockers_52 : decode cX12_lockers 52 = .ok (.aload_n 0, 1) := by decide +kernel
theorem dX12_lockers_53 : decode cX12_lockers 53 = .ok (.getfield 464, 3) := by decide +kernel
theorem dX12_lockers_56 : decode cX12_lockers 56 = .ok (.if_icmp .ge 24, 3) := by decide +kernel
theorem dX12_lockers_59 : decode cX12_lockers 59 = .ok (.aload_n 0, 1) := by decide +kernel
theorem dX12_lockers_60 : decode cX12_lockers 60 = .ok (.getfield 103, 3) := by decide +kernel
theorem dX12_lockers_63 : decode cX12_lockers 63 = .ok (.iload 4, 2) := by decide +kernel
theorem dX12_lockers_65 : decode cX12_lockers 65 = .ok (.iaload, 1) := by decide +kernel
theorem dX12_lockers_66 : decode cX12_lockers 66 = .ok (.iload_n 1, 1) := by decide +kernel
theorem dX12_lockers_67 : decode cX12_lockers 67 = .ok (.if_icmp .le 7, 3) := by decide +kernel
theorem dX12_lockers_70 : decode cX12_lockers 70 = .ok (.sipush (-200), 3) := by decide +kernel
theorem dX12_lockers_73 : decode cX12_lockers 73 = .ok (.ireturn, 1) := by decide +kernel
theorem dX12_lockers_74 : decode cX12_lockers 74 = .ok (.iinc 4 1, 3) := by decide +kernel
theorem dX12_lockers_77 : decode cX12_lockers 77 = .ok (.goto (-27), 3) := by decide +kernel
theorem dX12_lockers_80 : decode cX12_lockers 80 = .ok (.iconst 1, 1) := by decide +kernel
theorem dX12_lockers_81 : decode cX12_lockers 81 = .ok (.istore 4, 2) := by decide +kernel
theorem dX12_lockers_83 : decode cX12_lockers 83 = .ok (.aload_n 0, 1) := by decide +kernel
theorem dX12_lockers_84 : decode cX12_lockers 84 = .ok (.iload 4, 2) := by decide +kernel
theorem dX12_lockers_86 : decode cX12_lockers 86 = .ok (.iload_n 1, 1) := by decide +kernel
theorem dX12_lockers_87 : decode cX12_lockers 87 = .ok (.iload_n 3, 1) := by decide +kernel
theorem dX12_lockers_88 : decode cX12_lockers 88 = .ok (.invokevirtual 478, 3) := by decide +kernel
theorem dX12_lockers_91 : decode cX12_lockers 91 = .ok (.ifCond .ne 9, 3) := by decide +kernel
theorem dX12_lockers_94 : decode cX12_lockers 94 = .ok (.iinc 4 1, 3) := by decide +kernel
theorem dX12_lockers_97 : decode cX12_lockers 97 = .ok (.goto (-14), 3) := by decide +kernel
theorem dX12_lockers_100 : decode cX12_lockers 100 = .ok (.aload_n 0, 1) := by decide +kernel
theorem dX12_lockers_101 : decode cX12_lockers 101 = .ok (.iconst 0, 1) := by decide +kernel
theorem dX12_lockers_102 : decode cX12_lockers 102 = .ok (.putfield 140, 3) := by decide +kernel
theorem dX12_lockers_105 : decode cX12_lockers 105 = .ok (.iconst 0, 1) := by decide +kernel
theorem dX12_lockers_106 : decode cX12_lockers 106 = .ok (.istore 5, 2) := by decide +kernel
theorem dX12_lockers_108 : decode cX12_lockers 108 = .ok (.iload 5, 2) := by decide +kernel
theorem dX12_lockers_110 : decode cX12_lockers 110 = .ok (.aload_n 0, 1) := by decide +kernel
theorem dX12_lockers_111 : decode cX12_lockers 111 = .ok (.getfield 464, 3) := by decide +kernel
theorem dX12_lockers_114 : decode cX12_lockers 114 = .ok (.if_icmp .ge 21, 3) := by decide +kernel
theorem dX12_lockers_117 : decode cX12_lockers 117 = .ok (.aload_n 0, 1) := by decide +kernel
theorem dX12_lockers_118 : decode cX12_lockers 118 = .ok (.aload_n 0, 1) := by decide +kernel
theorem dX12_lockers_119 : decode cX12_lockers 119 = .ok (.getfield 106, 3) := by decide +kernel
theorem dX12_lockers_122 : decode cX12_lockers 122 = .ok (.iload 5, 2) := by decide +kernel
theorem dX12_lockers_124 : decode cX12_lockers 124 = .ok (.iaload, 1) := by decide +kernel
theorem dX12_lockers_125 : decode cX12_lockers 125 = .ok (.i2l, 1) := by decide +kernel
theorem dX12_lockers_126 : decode cX12_lockers 126 = .ok (.invokevirtual 414, 3) := by decide +kernel
theorem dX12_lockers_129 : decode cX12_lockers 129 = .ok (.iinc 5 1, 3) := by decide +kernel
theorem dX12_lockers_132 : decode cX12_lockers 132 = .ok (.goto (-24), 3) := by decide +kernel
theorem dX12_lockers_135 : decode cX12_lockers 135 = .ok (.iload 4, 2) := by decide +kernel
theorem dX12_lockers_137 : decode cX12_lockers 137 = .ok (.ireturn, 1) := by decide +kernel
theorem dX12_sizeOf_0 : decode cX12_sizeOf 0 = .ok (.iconst 0, 1) := by decide +kernel
theorem dX12_sizeOf_1 : decode cX12_sizeOf 1 = .ok (.istore_n 2, 1) := by decide +kernel
theorem dX12_sizeOf_2 : decode cX12_sizeOf 2 = .ok (.iconst 0, 1) := by decide +kernel
theorem dX12_sizeOf_3 : decode cX12_sizeOf 3 = .ok (.istore_n 3, 1) := by decide +kernel
theorem dX12_sizeOf_4 : decode cX12_sizeOf 4 = .ok (.iload_n 3, 1) := by decide +kernel
theorem dX12_sizeOf_5 : decode cX12_sizeOf 5 = .ok (.aload_n 0, 1) := by decide +kernel
theorem dX12_sizeOf_6 : decode cX12_sizeOf 6 = .ok (.getfield 464, 3) := by decide +kernel
theorem dX12_sizeOf_9 : decode cX12_sizeOf 9 = .ok (.if_icmp .ge 30, 3) := by decide +kernel
theorem dX12_sizeOf_12 : decode cX12_sizeOf 12 = .ok (.iload_n 2, 1) := by decide +kernel
theorem dX12_sizeOf_13 : decode cX12_sizeOf 13 = .ok (.iload_n 1, 1) := by decide +kernel
theorem dX12_sizeOf_14 : decode cX12_sizeOf 14 = .ok (.iload_n 3, 1) := by decide +kernel
theorem dX12_sizeOf_15 : decode cX12_sizeOf 15 = .ok (.invokestatic 358, 3) := by decide +kernel
theorem dX12_sizeOf_18 : decode cX12_sizeOf 18 = .ok (.ifCond .eq 12, 3) := by decide +kernel
theorem dX12_sizeOf_21 : decode cX12_sizeOf 21 = .ok (.aload_n 0, 1) := by decide +kernel
theorem dX12_sizeOf_22 : decode cX12_sizeOf 22 = .ok (.getfield 103, 3) := by decide +kernel
theorem dX12_sizeOf_25 : decode cX12_sizeOf 25 = .ok (.iload_n 3, 1) := by decide +kernel
theorem dX12_sizeOf_26 : decode cX12_sizeOf 26 = .ok (.iaload, 1) := by decide +kernel
theorem dX12_sizeOf_27 : decode cX12_sizeOf 27 = .ok (.goto 4, 3) := by decide +kernel
theorem dX12_sizeOf_30 : decode cX12_sizeOf 30 = .ok (.iconst 0, 1) := by decide +kernel
theorem dX12_sizeOf_31 : decode cX12_sizeOf 31 = .ok (.iadd, 1) := by decide +kernel
theorem dX12_sizeOf_32 : decode cX12_sizeOf 32 = .ok (.istore_n 2, 1) := by decide +kernel
theorem dX12_sizeOf_33 : decode cX12_sizeOf 33 = .ok (.iinc 3 1, 3) := by decide +kernel
theorem dX12_sizeOf_36 : decode cX12_sizeOf 36 = .ok (.goto (-32), 3) := by decide +kernel
theorem dX12_sizeOf_39 : decode cX12_sizeOf 39 = .ok (.iload_n 2, 1) := by decide +kernel
theorem dX12_sizeOf_40 : decode cX12_sizeOf 40 = .ok (.ireturn, 1) := by decide +kernel
theorem dX12_left_0 : decode cX12_left 0 = .ok (.aload_n 0, 1) := by decide +kernel
theorem dX12_left_1 : decode cX12_left 1 = .ok (.iconst 0, 1) := by decide +kernel
theorem dX12_left_2 : decode cX12_left 2 = .ok (.putfield 133, 3) := by decide +kernel
theorem dX12_left_5 : decode cX12_left 5 = .ok (.aload_n 0, 1) := by decide +kernel
theorem dX12_left_6 : decode cX12_left 6 = .ok (.bipush 80, 2) := by decide +kernel
theorem dX12_left_8 : decode cX12_left 8 = .ok (.invokevirtual 231, 3) := by decide +kernel
theorem dX12_left_11 : decode cX12_left 11 = .ok (.pop, 1) := by decide +kernel
theorem dX12_left_12 : decode cX12_left 12 = .ok (.iload_n 1, 1) := by decide +kernel
theorem dX12_left_13 : decode cX12_left 13 = .ok (.i2l, 1) := by decide +kernel
theorem dX12_left_14 : decode cX12_left 14 = .ok (.lconst 0, 1) := by decide +kernel
theorem dX12_left_15 : decode cX12_left 15 = .ok (.ldc2_w 481, 3) := by decide +kernel
theorem dX12_left_18 : decode cX12_left 18 = .ok (.invokestatic 146, 3) := by decide +kernel
theorem dX12_left_21 : decode cX12_left 21 = .ok (.ifCond .eq 15, 3) := by decide +kernel
theorem dX12_left_24 : decode cX12_left 24 = .ok (.iload_n 2, 1) := by decide +kernel
theorem dX12_left_25 : decode cX12_left 25 = .ok (.i2l, 1) := by decide +kernel
theorem dX12_left_26 : decode cX12_left 26 = .ok (.lconst 1, 1) := by decide +kernel
theorem dX12_left_27 : decode cX12_left 27 = .ok (.ldc2_w 473, 3) := by decide +kernel
theorem dX12_left_30 : decode cX12_left 30 = .ok (.invokestatic 146, 3) := by decide +kernel
theorem dX12_left_33 : decode cX12_left 33 = .ok (.ifCond .ne 6, 3) := by decide +kernel
theorem dX12_left_36 : decode cX12_left 36 = .ok (.bipush (-100), 2) := by decide +kernel
theorem dX12_left_38 : decode cX12_left 38 = .ok (.ireturn, 1) := by decide +kernel
theorem dX12_left_39 : decode cX12_left 39 = .ok (.aload_n 0, 1) := by decide +kernel
theorem dX12_left_40 : decode cX12_left 40 = .ok (.invokevirtual 475, 3) := by decide +kernel
theorem dX12_left_43 : decode cX12_left 43 = .ok (.istore_n 3, 1) := by decide +kernel
theorem dX12_left_44 : decode cX12_left 44 = .ok (.iload_n 3, 1) := by decide +kernel
theorem dX12_left_45 : decode cX12_left 45 = .ok (.ifCond .ge 5, 3) := by decide +kernel
theorem dX12_left_48 : decode cX12_left 48 = .ok (.iload_n 3, 1) := by decide +kernel
theorem dX12_left_49 : decode cX12_left 49 = .ok (.ireturn, 1) := by decide +kernel
theorem dX12_left_50 : decode cX12_left 50 = .ok (.iconst 1, 1) := by decide +kernel
theorem dX12_left_51 : decode cX12_left 51 = .ok (.aload_n 0, 1) := by decide +kernel
theorem dX12_left_52 : decode cX12_left 52 = .ok (.getfield 464, 3) := by decide +kernel
theorem dX12_left_55 : decode cX12_left 55 = .ok (.ishl, 1) := by decide +kernel
theorem dX12_left_56 : decode cX12_left 56 = .ok (.iconst 1, 1) := by decide +kernel
theorem dX12_left_57 : decode cX12_left 57 = .ok (.isub, 1) := by decide +kernel
theorem dX12_left_58 : decode cX12_left 58 = .ok (.istore 4, 2) := by decide +kernel
theorem dX12_left_60 : decode cX12_left 60 = .ok (.iconst 0, 1) := by decide +kernel
theorem dX12_left_61 : decode cX12_left 61 = .ok (.istore 5, 2) := by decide +kernel
theorem dX12_left_63 : decode cX12_left 63 = .ok (.iconst 1, 1) := by decide +kernel
theorem dX12_left_64 : decode cX12_left 64 = .ok (.istore 6, 2) := by decide +kernel
theorem dX12_left_66 : decode cX12_left 66 = .ok (.iload 6, 2) := by decide +kernel
theorem dX12_left_68 : decode cX12_left 68 = .ok (.iload 4, 2) := by decide +kernel
theorem dX12_left_70 : decode cX12_left 70 = .ok (.if_icmp .gt 79, 3) := by decide +kernel
theorem dX12_left_73 : decode cX12_left 73 = .ok (.aload_n 0, 1) := by decide +kernel
theorem dX12_left_74 : decode cX12_left 74 = .ok (.iload 6, 2) := by decide +kernel
theorem dX12_left_76 : decode cX12_left 76 = .ok (.invokevirtual 483, 3) := by decide +kernel
theorem dX12_left_79 : decode cX12_left 79 = .ok (.aload_n 0, 1) := by decide +kernel
theorem dX12_left_80 : decode cX12_left 80 = .ok (.iload 5, 2) := by decide +kernel
theorem dX12_left_82 : decode cX12_left 82 = .ok (.invokevirtual 483, 3) := by decide +kernel
theorem dX12_left_85 : decode cX12_left 85 = .ok (.isub, 1) := by decide +kernel
theorem dX12_left_86 : decode cX12_left 86 = .ok (.istore 7, 2) := by decide +kernel
theorem dX12_left_88 : decode cX12_left 88 = .ok (.iload 7, 2) := by decide +kernel
theorem dX12_left_90 : decode cX12_left 90 = .ok (.ifCond .gt 21, 3) := by decide +kernel
theorem dX12_left_93 : decode cX12_left 93 = .ok (.iload 7, 2) := by decide +kernel
theorem dX12_left_95 : decode cX12_left 95 = .ok (.ifCond .ne 20, 3) := by decide +kernel
theorem dX12_left_98 : decode cX12_left 98 = .ok (.iload 6, 2) := by decide +kernel
theorem dX12_left_100 : decode cX12_left 100 = .ok (.invokestatic 428, 3) := by decide +kernel
theorem dX12_left_103 : decode cX12_left 103 = .ok (.iload 5, 2) := by decide +kernel
theorem dX12_left_105 : decode cX12_left 105 = .ok (.invokestatic 428, 3) := by decide +kernel
theorem dX12_left_108 : decode cX12_left 108 = .ok (.if_icmp .ge 7, 3) := by decide +kernel
theorem dX12_left_111 : decode cX12_left 111 = .ok (.iconst 1, 1) := by decide +kernel
theorem dX12_left_112 : decode cX12_left 112 = .ok (.goto 4, 3) := by decide +kernel
theorem dX12_left_115 : decode cX12_left 115 = .ok (.iconst 0, 1) := by decide +kernel
theorem dX12_left_116 : decode cX12_left 116 = .ok (.istore 8, 2) := by decide +kernel
theorem dX12_left_118 : decode cX12_left 118 = .ok (.iload 8, 2) := by decide +kernel
theorem dX12_left_120 : decode cX12_left 120 = .ok (.ifCond .eq 19, 3) := by decide +kernel
theorem dX12_left_123 : decode cX12_left 123 = .ok (.aload_n 0, 1) := by decide +kernel
theorem dX12_left_124 : decode cX12_left 124 = .ok (.iload_n 1, 1) := by decide +kernel
theorem dX12_left_125 : decode cX12_left 125 = .ok (.iload_n 2, 1) := by decide +kernel
theorem dX12_left_126 : decode cX12_left 126 = .ok (.iload 6, 2) := by decide +kernel
theorem dX12_left_128 : decode cX12_left 128 = .ok (.invokevirtual 478, 3) := by decide +kernel
theorem dX12_left_131 : decode cX12_left 131 = .ok (.ifCond .eq 8, 3) := by decide +kernel
theorem dX12_left_134 : decode cX12_left 134 = .ok (.iload 6, 2) := by decide +kernel
theorem dX12_left_136 : decode cX12_left 136 = .ok (.goto 5, 3) := by decide +kernel
theorem dX12_left_139 : decode cX12_left 139 = .ok (.iload 5, 2) := by decide +kernel
theorem dX12_left_141 : decode cX12_left 141 = .ok (.istore 5, 2) := by decide +kernel
theorem dX12_left_143 : decode cX12_left 143 = .ok (.iinc 6 1, 3) := by decide +kernel
theorem dX12_left_146 : decode cX12_left 146 = .ok (.goto (-80), 3) := by decide +kernel
theorem dX12_left_149 : decode cX12_left 149 = .ok (.aload_n 0, 1) := by decide +kernel
theorem dX12_left_150 : decode cX12_left 150 = .ok (.iconst 0, 1) := by decide +kernel
theorem dX12_left_151 : decode cX12_left 151 = .ok (.putfield 140, 3) := by decide +kernel
theorem dX12_left_154 : decode cX12_left 154 = .ok (.aload_n 0, 1) := by decide +kernel
theorem dX12_left_155 : decode cX12_left 155 = .ok (.iload 5, 2) := by decide +kernel
theorem dX12_left_157 : decode cX12_left 157 = .ok (.i2l, 1) := by decide +kernel
theorem dX12_left_158 : decode cX12_left 158 = .ok (.invokevirtual 414, 3) := by decide +kernel
theorem dX12_left_161 : decode cX12_left 161 = .ok (.aload_n 0, 1) := by decide +kernel
theorem dX12_left_162 : decode cX12_left 162 = .ok (.iload 4, 2) := by decide +kernel
theorem dX12_left_164 : decode cX12_left 164 = .ok (.invokevirtual 483, 3) := by decide +kernel
theorem dX12_left_167 : decode cX12_left 167 = .ok (.aload_n 0, 1) := by decide +kernel
theorem dX12_left_168 : decode cX12_left 168 = .ok (.iload 5, 2) := by decide +kernel
theorem dX12_left_170 : decode cX12_left 170 = .ok (.invokevirtual 483, 3) := by decide +kernel
theorem dX12_left_173 : decode cX12_left 173 = .ok (.isub, 1) := by decide +kernel
theorem dX12_left_174 : decode cX12_left 174 = .ok (.ireturn, 1) := by decide +kernel
theorem dX12_slackOf_0 : decode cX12_slackOf 0 = .ok (.aload_n 0, 1) := by decide +kernel
theorem dX12_slackOf_1 : decode cX12_slackOf 1 = .ok (.aload_n 0, 1) := by decide +kernel
theorem dX12_slackOf_2 : decode cX12_slackOf 2 = .ok (.getfield 43, 3) := by decide +kernel
theorem dX12_slackOf_5 : decode cX12_slackOf 5 = .ok (.iload_n 1, 1) := by decide +kernel
theorem dX12_slackOf_6 : decode cX12_slackOf 6 = .ok (.invokevirtual 284, 3) := by decide +kernel
theorem dX12_slackOf_9 : decode cX12_slackOf 9 = .ok (.istore_n 2, 1) := by decide +kernel
theorem dX12_slackOf_10 : decode cX12_slackOf 10 = .ok (.aload_n 0, 1) := by decide +kernel
theorem dX12_slackOf_11 : decode cX12_slackOf 11 = .ok (.getfield 13, 3) := by decide +kernel
theorem dX12_slackOf_14 : decode cX12_slackOf 14 = .ok (.iload_n 2, 1) := by decide +kernel
theorem dX12_slackOf_15 : decode cX12_slackOf 15 = .ok (.isub, 1) := by decide +kernel
theorem dX12_slackOf_16 : decode cX12_slackOf 16 = .ok (.istore_n 3, 1) := by decide +kernel
theorem dX12_slackOf_17 : decode cX12_slackOf 17 = .ok (.iconst 0, 1) := by decide +kernel
theorem dX12_slackOf_18 : decode cX12_slackOf 18 = .ok (.istore 4, 2) := by decide +kernel
theorem dX12_slackOf_20 : decode cX12_slackOf 20 = .ok (.iload 4, 2) := by decide +kernel
theorem dX12_slackOf_22 : decode cX12_slackOf 22 = .ok (.aload_n 0, 1) := by decide +kernel
theorem dX12_slackOf_23 : decode cX12_slackOf 23 = .ok (.getfield 43, 3) := by decide +kernel
theorem dX12_slackOf_26 : decode cX12_slackOf 26 = .ok (.bipush 45, 2) := by decide +kernel
theorem dX12_slackOf_28 : decode cX12_slackOf 28 = .ok (.iaload, 1) := by decide +kernel
theorem dX12_slackOf_29 : decode cX12_slackOf 29 = .ok (.if_icmp .ge 58, 3) := by decide +kernel
theorem dX12_slackOf_32 : decode cX12_slackOf 32 = .ok (.aload_n 0, 1) := by decide +kernel
theorem dX12_slackOf_33 : decode cX12_slackOf 33 = .ok (.getfield 43, 3) := by decide +kernel
theorem dX12_slackOf_36 : decode cX12_slackOf 36 = .ok (.iload 4, 2) := by decide +kernel
theorem dX12_slackOf_38 : decode cX12_slackOf 38 = .ok (.invokestatic 293, 3) := by decide +kernel
theorem dX12_slackOf_41 : decode cX12_slackOf 41 = .ok (.aload_n 0, 1) := by decide +kernel
theorem dX12_slackOf_42 : decode cX12_slackOf 42 = .ok (.getfield 43, 3) := by decide +kernel
theorem dX12_slackOf_45 : decode cX12_slackOf 45 = .ok (.iload_n 1, 1) := by decide +kernel
theorem dX12_slackOf_46 : decode cX12_slackOf 46 = .ok (.invokestatic 293, 3) := by decide +kernel
theorem dX12_slackOf_49 : decode cX12_slackOf 49 = .ok (.if_icmp .ne 32, 3) := by decide +kernel
theorem dX12_slackOf_52 : decode cX12_slackOf 52 = .ok (.aload_n 0, 1) := by decide +kernel
theorem dX12_slackOf_53 : decode cX12_slackOf 53 = .ok (.getfield 43, 3) := by decide +kernel
theorem dX12_slackOf_56 : decode cX12_slackOf 56 = .ok (.iload 4, 2) := by decide +kernel
theorem dX12_slackOf_58 : decode cX12_slackOf 58 = .ok (.invokestatic 274, 3) := by decide +kernel
theorem dX12_slackOf_61 : decode cX12_slackOf 61 = .ok (.iload_n 2, 1) := by decide +kernel
theorem dX12_slackOf_62 : decode cX12_slackOf 62 = .ok (.if_icmp .lt 19, 3) := by decide +kernel
theorem dX12_slackOf_65 : decode cX12_slackOf 65 = .ok (.iload_n 3, 1) := by decide +kernel
theorem dX12_slackOf_66 : decode cX12_slackOf 66 = .ok (.aload_n 0, 1) := by decide +kernel
theorem dX12_slackOf_67 : decode cX12_slackOf 67 = .ok (.getfield 43, 3) := by decide +kernel
theorem dX12_slackOf_70 : decode cX12_slackOf 70 = .ok (.iload 4, 2) := by decide +kernel
theorem dX12_slackOf_72 : decode cX12_slackOf 72 = .ok (.invokestatic 274, 3) := by decide +kernel
theorem dX12_slackOf_75 : decode cX12_slackOf 75 = .ok (.iload_n 2, 1) := by decide +kernel
theorem dX12_slackOf_76 : decode cX12_slackOf 76 = .ok (.isub, 1) := by decide +kernel
theorem dX12_slackOf_77 : decode cX12_slackOf 77 = .ok (.invokestatic 162, 3) := by decide +kernel
theorem dX12_slackOf_80 : decode cX12_slackOf 80 = .ok (.istore_n 3, 1) := by decide +kernel
theorem dX12_slackOf_81 : decode cX12_slackOf 81 = .ok (.iinc 4 1, 3) := by decide +kernel
theorem dX12_slackOf_84 : decode cX12_slackOf 84 = .ok (.goto (-64), 3) := by decide +kernel
theorem dX12_slackOf_87 : decode cX12_slackOf 87 = .ok (.iload_n 3, 1) := by decide +kernel
theorem dX12_slackOf_88 : decode cX12_slackOf 88 = .ok (.ireturn, 1) := by decide +kernel
theorem dX12_isLawful_0 : decode cX12_isLawful 0 = .ok (.aload_n 0, 1) := by decide +kernel
theorem dX12_isLawful_1 : decode cX12_isLawful 1 = .ok (.aload_n 0, 1) := by decide +kernel
theorem dX12_isLawful_2 : decode cX12_isLawful 2 = .ok (.getfield 43, 3) := by decide +kernel
theorem dX12_isLawful_5 : decode cX12_isLawful 5 = .ok (.iload_n 1, 1) := by decide +kernel
theorem dX12_isLawful_6 : decode cX12_isLawful 6 = .ok (.invokevirtual 369, 3) := by decide +kernel
theorem dX12_isLawful_9 : decode cX12_isLawful 9 = .ok (.ifCond .ne 7, 3) := by decide +kernel
theorem dX12_isLawful_12 : decode cX12_isLawful 12 = .ok (.iconst 1, 1) := by decide +kernel
theorem dX12_isLawful_13 : decode cX12_isLawful 13 = .ok (.goto 4, 3) := by decide +kernel
theorem dX12_isLawful_16 : decode cX12_isLawful 16 = .ok (.iconst 0, 1) := by decide +kernel
theorem dX12_isLawful_17 : decode cX12_isLawful 17 = .ok (.ireturn, 1) := by decide +kernel
theorem dX12_slack_0 : decode cX12_slack 0 = .ok (.aload_n 0, 1) := by decide +kernel
theorem dX12_slack_1 : decode cX12_slack 1 = .ok (.iconst 0, 1) := by decide +kernel
theorem dX12_slack_2 : decode cX12_slack 2 = .ok (.putfield 133, 3) := by decide +kernel
theorem dX12_slack_5 : decode cX12_slack 5 = .ok (.aload_n 0, 1) := by decide +kernel
theorem dX12_slack_6 : decode cX12_slack 6 = .ok (.iload_n 1, 1) := by decide +kernel
theorem dX12_slack_7 : decode cX12_slack 7 = .ok (.invokevirtual 366, 3) := by decide +kernel
theorem dX12_slack_10 : decode cX12_slack 10 = .ok (.ifCond .eq 19, 3) := by decide +kernel
theorem dX12_slack_13 : decode cX12_slack 13 = .ok (.aload_n 0, 1) := by decide +kernel
theorem dX12_slack_14 : decode cX12_slack 14 = .ok (.iload_n 1, 1) := by decide +kernel
theorem dX12_slack_15 : decode cX12_slack 15 = .ok (.invokevirtual 486, 3) := by decide +kernel
theorem dX12_slack_18 : decode cX12_slack 18 = .ok (.ifCond .eq 11, 3) := by decide +kernel
theorem dX12_slack_21 : decode cX12_slack 21 = .ok (.aload_n 0, 1) := by decide +kernel
theorem dX12_slack_22 : decode cX12_slack 22 = .ok (.iload_n 1, 1) := by decide +kernel
theorem dX12_slack_23 : decode cX12_slack 23 = .ok (.invokevirtual 489, 3) := by decide +kernel
theorem dX12_slack_26 : decode cX12_slack 26 = .ok (.goto 4, 3) := by decide +kernel
theorem dX12_slack_29 : decode cX12_slack 29 = .ok (.iconst (-1), 1) := by decide +kernel
theorem dX12_slack_30 : decode cX12_slack 30 = .ok (.ireturn, 1) := by decide +kernel
theorem dX12_tight_0 : decode cX12_tight 0 = .ok (.aload_n 0, 1) := by decide +kernel
theorem dX12_tight_1 : decode cX12_tight 1 = .ok (.iconst 0, 1) := by decide +kernel
theorem dX12_tight_2 : decode cX12_tight 2 = .ok (.putfield 133, 3) := by decide +kernel
theorem dX12_tight_5 : decode cX12_tight 5 = .ok (.bipush (-2), 2) := by decide +kernel
theorem dX12_tight_7 : decode cX12_tight 7 = .ok (.istore_n 1, 1) := by decide +kernel
theorem dX12_tight_8 : decode cX12_tight 8 = .ok (.bipush (-2), 2) := by decide +kernel
theorem dX12_tight_10 : decode cX12_tight 10 = .ok (.istore_n 2, 1) := by decide +kernel
theorem dX12_tight_11 : decode cX12_tight 11 = .ok (.iconst 0, 1) := by decide +kernel
theorem dX12_tight_12 : decode cX12_tight 12 = .ok (.istore_n 3, 1) := by decide +kernel
theorem dX12_tight_13 : decode cX12_tight 13 = .ok (.iload_n 3, 1) := by decide +kernel
theorem dX12_tight_14 : decode cX12_tight 14 = .ok (.aload_n 0, 1) := by decide +kernel
theorem dX12_tight_15 : decode cX12_tight 15 = .ok (.getfield 43, 3) := by decide +kernel
theorem dX12_tight_18 : decode cX12_tight 18 = .ok (.bipush 45, 2) := by decide +kernel
theorem dX12_tight_20 : decode cX12_tight 20 = .ok (.iaload, 1) := by decide +kernel
theorem dX12_tight_21 : decode cX12_tight 21 = .ok (.if_icmp .ge 63, 3) := by decide +kernel
theorem dX12_tight_24 : decode cX12_tight 24 = .ok (.aload_n 0, 1) := by decide +kernel
theorem dX12_tight_25 : decode cX12_tight 25 = .ok (.iload_n 3, 1) := by decide +kernel
theorem dX12_tight_26 : decode cX12_tight 26 = .ok (.invokevirtual 486, 3) := by decide +kernel
theorem dX12_tight_29 : decode cX12_tight 29 = .ok (.ifCond .eq 49, 3) := by decide +kernel
theorem dX12_tight_32 : decode cX12_tight 32 = .ok (.iload_n 1, 1) := by decide +kernel
theorem dX12_tight_33 : decode cX12_tight 33 = .ok (.ifCond .lt 16, 3) := by decide +kernel
theorem dX12_tight_36 : decode cX12_tight 36 = .ok (.aload_n 0, 1) := by decide +kernel
theorem dX12_tight_37 : decode cX12_tight 37 = .ok (.iload_n 3, 1) := by decide +kernel
theorem dX12_tight_38 : decode cX12_tight 38 = .ok (.invokevirtual 489, 3) := by decide +kernel
theorem dX12_tight_41 : decode cX12_tight 41 = .ok (.aload_n 0, 1) := by decide +kernel
theorem dX12_tight_42 : decode cX12_tight 42 = .ok (.iload_n 1, 1) := by decide +kernel
theorem dX12_tight_43 : decode cX12_tight 43 = .ok (.invokevirtual 489, 3) := by decide +kernel
theorem dX12_tight_46 : decode cX12_tight 46 = .ok (.if_icmp .ge 7, 3) := by decide +kernel
theorem dX12_tight_49 : decode cX12_tight 49 = .ok (.iload_n 3, 1) := by decide +kernel
theorem dX12_tight_50 : decode cX12_tight 50 = .ok (.goto 4, 3) := by decide +kernel
theorem dX12_tight_53 : decode cX12_tight 53 = .ok (.iload_n 1, 1) := by decide +kernel
theorem dX12_tight_54 : decode cX12_tight 54 = .ok (.istore_n 1, 1) := by decide +kernel
theorem dX12_tight_55 : decode cX12_tight 55 = .ok (.iload_n 2, 1) := by decide +kernel
theorem dX12_tight_56 : decode cX12_tight 56 = .ok (.ifCond .lt 16, 3) := by decide +kernel
theorem dX12_tight_59 : decode cX12_tight 59 = .ok (.aload_n 0, 1) := by decide +kernel
theorem dX12_tight_60 : decode cX12_tight 60 = .ok (.iload_n 3, 1) := by decide +kernel
theorem dX12_tight_61 : decode cX12_tight 61 = .ok (.invokevirtual 489, 3) := by decide +kernel
theorem dX12_tight_64 : decode cX12_tight 64 = .ok (.aload_n 0, 1) := by decide +kernel
theorem dX12_tight_65 : decode cX12_tight 65 = .ok (.iload_n 2, 1) := by decide +kernel
theorem dX12_tight_66 : decode cX12_tight 66 = .ok (.invokevirtual 489, 3) := by decide +kernel
theorem dX12_tight_69 : decode cX12_tight 69 = .ok (.if_icmp .le 7, 3) := by decide +kernel
theorem dX12_tight_72 : decode cX12_tight 72 = .ok (.iload_n 3, 1) := by decide +kernel
theorem dX12_tight_73 : decode cX12_tight 73 = .ok (.goto 4, 3) := by decide +kernel
theorem dX12_tight_76 : decode cX12_tight 76 = .ok (.iload_n 2, 1) := by decide +kernel
theorem dX12_tight_77 : decode cX12_tight 77 = .ok (.istore_n 2, 1) := by decide +kernel
theorem dX12_tight_78 : decode cX12_tight 78 = .ok (.iinc 3 1, 3) := by decide +kernel
theorem dX12_tight_81 : decode cX12_tight 81 = .ok (.goto (-68), 3) := by decide +kernel
theorem dX12_tight_84 : decode cX12_tight 84 = .ok (.iload_n 1, 1) := by decide +kernel
theorem dX12_tight_85 : decode cX12_tight 85 = .ok (.ifCond .ge 6, 3) := by decide +kernel
theorem dX12_tight_88 : decode cX12_tight 88 = .ok (.bipush (-2), 2) := by decide +kernel
theorem dX12_tight_90 : decode cX12_tight 90 = .ok (.ireturn, 1) := by decide +kernel
theorem dX12_tight_91 : decode cX12_tight 91 = .ok (.aload_n 0, 1) := by decide +kernel
theorem dX12_tight_92 : decode cX12_tight 92 = .ok (.iconst 0, 1) := by decide +kernel
theorem dX12_tight_93 : decode cX12_tight 93 = .ok (.putfield 140, 3) := by decide +kernel
theorem dX12_tight_96 : decode cX12_tight 96 = .ok (.aload_n 0, 1) := by decide +kernel
theorem dX12_tight_97 : decode cX12_tight 97 = .ok (.aload_n 0, 1) := by decide +kernel
theorem dX12_tight_98 : decode cX12_tight 98 = .ok (.iload_n 1, 1) := by decide +kernel
theorem dX12_tight_99 : decode cX12_tight 99 = .ok (.invokevirtual 489, 3) := by decide +kernel
theorem dX12_tight_102 : decode cX12_tight 102 = .ok (.i2l, 1) := by decide +kernel
theorem dX12_tight_103 : decode cX12_tight 103 = .ok (.invokevirtual 414, 3) := by decide +kernel
theorem dX12_tight_106 : decode cX12_tight 106 = .ok (.aload_n 0, 1) := by decide +kernel
theorem dX12_tight_107 : decode cX12_tight 107 = .ok (.iload_n 2, 1) := by decide +kernel
theorem dX12_tight_108 : decode cX12_tight 108 = .ok (.i2l, 1) := by decide +kernel
theorem dX12_tight_109 : decode cX12_tight 109 = .ok (.invokevirtual 414, 3) := by decide +kernel
theorem dX12_tight_112 : decode cX12_tight 112 = .ok (.aload_n 0, 1) := by decide +kernel
theorem dX12_tight_113 : decode cX12_tight 113 = .ok (.aload_n 0, 1) := by decide +kernel
theorem dX12_tight_114 : decode cX12_tight 114 = .ok (.iload_n 2, 1) := by decide +kernel
theorem dX12_tight_115 : decode cX12_tight 115 = .ok (.invokevirtual 489, 3) := by decide +kernel
theorem dX12_tight_118 : decode cX12_tight 118 = .ok (.i2l, 1) := by decide +kernel
theorem dX12_tight_119 : decode cX12_tight 119 = .ok (.invokevirtual 414, 3) := by decide +kernel
theorem dX12_tight_122 : decode cX12_tight 122 = .ok (.iload_n 1, 1) := by decide +kernel
theorem dX12_tight_123 : decode cX12_tight 123 = .ok (.ireturn, 1) := by decide +kernel
theorem dX12_chance_0 : decode cX12_chance 0 = .ok (.aload_n 0, 1) := by decide +kernel
theorem dX12_chance_1 : decode cX12_chance 1 = .ok (.iconst 0, 1) := by decide +kernel
theorem dX12_chance_2 : decode cX12_chance 2 = .ok (.putfield 133, 3) := by decide +kernel
theorem dX12_chance_5 : decode cX12_chance 5 = .ok (.iload_n 1, 1) := by decide +kernel
theorem dX12_chance_6 : decode cX12_chance 6 = .ok (.i2l, 1) := by decide +kernel
theorem dX12_chance_7 : decode cX12_chance 7 = .ok (.lconst 1, 1) := by decide +kernel
theorem dX12_chance_8 : decode cX12_chance 8 = .ok (.ldc2_w 372, 3) := by decide +kernel
theorem dX12_chance_11 : decode cX12_chance 11 = .ok (.invokestatic 146, 3) := by decide +kernel
theorem dX12_chance_14 : decode cX12_chance 14 = .ok (.ifCond .eq 15, 3) := by decide +kernel
theorem dX12_chance_17 : decode cX12_chance 17 = .ok (.iload_n 2, 1) := by decide +kernel
theorem dX12_chance_18 : decode cX12_chance 18 = .ok (.i2l, 1) := by decide +kernel
theorem dX12_chance_19 : decode cX12_chance 19 = .ok (.lconst 0, 1) := by decide +kernel
theorem dX12_chance_20 : decode cX12_chance 20 = .ok (.ldc2_w 492, 3) := by decide +kernel
theorem dX12_chance_23 : decode cX12_chance 23 = .ok (.invokestatic 146, 3) := by decide +kernel
theorem dX12_chance_26 : decode cX12_chance 26 = .ok (.ifCond .ne 5, 3) := by decide +kernel
theorem dX12_chance_29 : decode cX12_chance 29 = .ok (.iconst (-1), 1) := by decide +kernel
theorem dX12_chance_30 : decode cX12_chance 30 = .ok (.ireturn, 1) := by decide +kernel
theorem dX12_chance_31 : decode cX12_chance 31 = .ok (.lconst 1, 1) := by decide +kernel
theorem dX12_chance_32 : decode cX12_chance 32 = .ok (.lstore_n 3, 1) := by decide +kernel
theorem dX12_chance_33 : decode cX12_chance 33 = .ok (.lconst 1, 1) := by decide +kernel
theorem dX12_chance_34 : decode cX12_chance 34 = .ok (.lstore 5, 2) := by decide +kernel
theorem dX12_chance_36 : decode cX12_chance 36 = .ok (.iconst 0, 1) := by decide +kernel
theorem dX12_chance_37 : decode cX12_chance 37 = .ok (.istore 7, 2) := by decide +kernel
theorem dX12_chance_39 : decode cX12_chance 39 = .ok (.iload 7, 2) := by decide +kernel
theorem dX12_chance_41 : decode cX12_chance 41 = .ok (.aload_n 0, 1) := by decide +kernel
theorem dX12_chance_42 : decode cX12_chance 42 = .ok (.getfield 43, 3) := by decide +kernel
theorem dX12_chance_45 : decode cX12_chance 45 = .ok (.bipush 45, 2) := by decide +kernel
theorem dX12_chance_47 : decode cX12_chance 47 = .ok (.iaload, 1) := by decide +kernel
theorem dX12_chance_48 : decode cX12_chance 48 = .ok (.if_icmp .ge 44, 3) := by decide +kernel
theorem dX12_chance_51 : decode cX12_chance 51 = .ok (.aload_n 0, 1) := by decide +kernel
theorem dX12_chance_52 : decode cX12_chance 52 = .ok (.iload 7, 2) := by decide +kernel
theorem dX12_chance_54 : decode cX12_chance 54 = .ok (.invokevirtual 486, 3) := by decide +kernel
theorem dX12_chance_57 : decode cX12_chance 57 = .ok (.ifCond .eq 29, 3) := by decide +kernel
theorem dX12_chance_60 : decode cX12_chance 60 = .ok (.iload_n 1, 1) := by decide +kernel
theorem dX12_chance_61 : decode cX12_chance 61 = .ok (.aload_n 0, 1) := by decide +kernel
theorem dX12_chance_62 : decode cX12_chance 62 = .ok (.iload 7, 2) := by decide +kernel
theorem dX12_chance_64 : decode cX12_chance 64 = .ok (.invokevirtual 489, 3) := by decide +kernel
theorem dX12_chance_67 : decode cX12_chance 67 = .ok (.if_icmp .le 19, 3) := by decide +kernel
theorem dX12_chance_70 : decode cX12_chance 70 = .ok (.lload_n 3, 1) := by decide +kernel
theorem dX12_chance_71 : decode cX12_chance 71 = .ok (.bipush 10, 2) := by decide +kernel
theorem dX12_chance_73 : decode cX12_chance 73 = .ok (.iload_n 2, 1) := by decide +kernel
theorem dX12_chance_74 : decode cX12_chance 74 = .ok (.isub, 1) := by decide +kernel
theorem dX12_chance_75 : decode cX12_chance 75 = .ok (.i2l, 1) := by decide +kernel
theorem dX12_chance_76 : decode cX12_chance 76 = .ok (.lmul, 1) := by decide +kernel
theorem dX12_chance_77 : decode cX12_chance 77 = .ok (.lstore_n 3, 1) := by decide +kernel
theorem dX12_chance_78 : decode cX12_chance 78 = .ok (.lload 5, 2) := by decide +kernel
theorem dX12_chance_80 : decode cX12_chance 80 = .ok (.ldc2_w 492, 3) := by decide +kernel
theorem dX12_chance_83 : decode cX12_chance 83 = .ok (.lmul, 1) := by decide +kernel
theorem dX12_chance_84 : decode cX12_chance 84 = .ok (.lstore 5, 2) := by decide +kernel
theorem dX12_chance_86 : decode cX12_chance 86 = .ok (.iinc 7 1, 3) := by decide +kernel
theorem dX12_chance_89 : decode cX12_chance 89 = .ok (.goto (-50), 3) := by decide +kernel
theorem dX12_chance_92 : decode cX12_chance 92 = .ok (.lload_n 3, 1) := by decide +kernel
theorem dX12_chance_93 : decode cX12_chance 93 = .ok (.lload 5, 2) := by decide +kernel
theorem dX12_chance_95 : decode cX12_chance 95 = .ok (.invokestatic 136, 3) := by decide +kernel
theorem dX12_chance_98 : decode cX12_chance 98 = .ok (.lstore 7, 2) := by decide +kernel
theorem dX12_chance_100 : decode cX12_chance 100 = .ok (.aload_n 0, 1) := by decide +kernel
theorem dX12_chance_101 : decode cX12_chance 101 = .ok (.iconst 0, 1) := by decide +kernel
theorem dX12_chance_102 : decode cX12_chance 102 = .ok (.putfield 140, 3) := by decide +kernel
theorem dX12_chance_105 : decode cX12_chance 105 = .ok (.aload_n 0, 1) := by decide +kernel
theorem dX12_chance_106 : decode cX12_chance 106 = .ok (.lload_n 3, 1) := by decide +kernel
theorem dX12_chance_107 : decode cX12_chance 107 = .ok (.lload 7, 2) := by decide +kernel
theorem dX12_chance_109 : decode cX12_chance 109 = .ok (.ldiv, 1) := by decide +kernel
theorem dX12_chance_110 : decode cX12_chance 110 = .ok (.invokevirtual 414, 3) := by decide +kernel
theorem dX12_chance_113 : decode cX12_chance 113 = .ok (.aload_n 0, 1) := by decide +kernel
theorem dX12_chance_114 : decode cX12_chance 114 = .ok (.lload 5, 2) := by decide +kernel
theorem dX12_chance_116 : decode cX12_chance 116 = .ok (.lload 7, 2) := by decide +kernel
theorem dX12_chance_118 : decode cX12_chance 118 = .ok (.ldiv, 1) := by decide +kernel
theorem dX12_chance_119 : decode cX12_chance 119 = .ok (.invokevirtual 414, 3) := by decide +kernel
theorem dX12_chance_122 : decode cX12_chance 122 = .ok (.iconst 0, 1) := by decide +kernel
theorem dX12_chance_123 : decode cX12_chance 123 = .ok (.ireturn, 1) := by decide +kernel
theorem dX12_seen_0 : decode cX12_seen 0 = .ok (.aload_n 0, 1) := by decide +kernel
theorem dX12_seen_1 : decode cX12_seen 1 = .ok (.iconst 0, 1) := by decide +kernel
theorem dX12_seen_2 : decode cX12_seen 2 = .ok (.putfield 133, 3) := by decide +kernel
theorem dX12_seen_5 : decode cX12_seen 5 = .ok (.aload_n 0, 1) := by decide +kernel
theorem dX12_seen_6 : decode cX12_seen 6 = .ok (.iload_n 1, 1) := by decide +kernel
theorem dX12_seen_7 : decode cX12_seen 7 = .ok (.iload_n 2, 1) := by decide +kernel
theorem dX12_seen_8 : decode cX12_seen 8 = .ok (.iload_n 3, 1) := by decide +kernel
theorem dX12_seen_9 : decode cX12_seen 9 = .ok (.invokevirtual 381, 3) := by decide +kernel
theorem dX12_seen_12 : decode cX12_seen 12 = .ok (.ifCond .eq 12, 3) := by decide +kernel
theorem dX12_seen_15 : decode cX12_seen 15 = .ok (.aload_n 0, 1) := by decide +kernel
theorem dX12_seen_16 : decode cX12_seen 16 = .ok (.getfield 494, 3) := by decide +kernel
theorem dX12_seen_19 : decode cX12_seen 19 = .ok (.bipush 12, 2) := by decide +kernel
theorem dX12_seen_21 : decode cX12_seen 21 = .ok (.if_icmp .ne 5, 3) := by decide +kernel
theorem dX12_seen_24 : decode cX12_seen 24 = .ok (.iconst (-1), 1) := by decide +kernel
theorem dX12_seen_25 : decode cX12_seen 25 = .ok (.ireturn, 1) := by decide +kernel
theorem dX12_seen_26 : decode cX12_seen 26 = .ok (.aload_n 0, 1) := by decide +kernel
theorem dX12_seen_27 : decode cX12_seen 27 = .ok (.getfield 112, 3) := by decide +kernel
theorem dX12_seen_30 : decode cX12_seen 30 = .ok (.aload_n 0, 1) := by decide +kernel
theorem dX12_seen_31 : decode cX12_seen 31 = .ok (.getfield 494, 3) := by decide +kernel
theorem dX12_seen_34 : decode cX12_seen 34 = .ok (.iload_n 1, 1) := by decide +kernel
theorem dX12_seen_35 : decode cX12_seen 35 = .ok (.iastore, 1) := by decide +kernel
theorem dX12_seen_36 : decode cX12_seen 36 = .ok (.aload_n 0, 1) := by decide +kernel
theorem dX12_seen_37 : decode cX12_seen 37 = .ok (.getfield 115, 3) := by decide +kernel
theorem dX12_seen_40 : decode cX12_seen 40 = .ok (.aload_n 0, 1) := by decide +kernel
theorem dX12_seen_41 : decode cX12_seen 41 = .ok (.getfield 494, 3) := by decide +kernel
theorem dX12_seen_44 : decode cX12_seen 44 = .ok (.iload_n 2, 1) := by decide +kernel
theorem dX12_seen_45 : decode cX12_seen 45 = .ok (.iastore, 1) := by decide +kernel
theorem dX12_seen_46 : decode cX12_seen 46 = .ok (.aload_n 0, 1) := by decide +kernel
theorem dX12_seen_47 : decode cX12_seen 47 = .ok (.getfield 118, 3) := by decide +kernel
theorem dX12_seen_50 : decode cX12_seen 50 = .ok (.aload_n 0, 1) := by decide +kernel
theorem dX12_seen_51 : decode cX12_seen 51 = .ok (.getfield 494, 3) := by decide +kernel
theorem dX12_seen_54 : decode cX12_seen 54 = .ok (.iload_n 3, 1) := by decide +kernel
theorem dX12_seen_55 : decode cX12_seen 55 = .ok (.iastore, 1) := by decide +kernel
theorem dX12_seen_56 : decode cX12_seen 56 = .ok (.aload_n 0, 1) := by decide +kernel
theorem dX12_seen_57 : decode cX12_seen 57 = .ok (.dup, 1) := by decide +kernel
theorem dX12_seen_58 : decode cX12_seen 58 = .ok (.getfield 494, 3) := by decide +kernel
theorem dX12_seen_61 : decode cX12_seen 61 = .ok (.iconst 1, 1) := by decide +kernel
theorem dX12_seen_62 : decode cX12_seen 62 = .ok (.iadd, 1) := by decide +kernel
theorem dX12_seen_63 : decode cX12_seen 63 = .ok (.putfield 494, 3) := by decide +kernel
theorem dX12_seen_66 : decode cX12_seen 66 = .ok (.aload_n 0, 1) := by decide +kernel
theorem dX12_seen_67 : decode cX12_seen 67 = .ok (.getfield 494, 3) := by decide +kernel
theorem dX12_seen_70 : decode cX12_seen 70 = .ok (.ireturn, 1) := by decide +kernel
theorem dX12_forget_0 : decode cX12_forget 0 = .ok (.aload_n 0, 1) := by decide +kernel
theorem dX12_forget_1 : decode cX12_forget 1 = .ok (.iconst 0, 1) := by decide +kernel
theorem dX12_forget_2 : decode cX12_forget 2 = .ok (.putfield 133, 3) := by decide +kernel
theorem dX12_forget_5 : decode cX12_forget 5 = .ok (.aload_n 0, 1) := by decide +kernel
theorem dX12_forget_6 : decode cX12_forget 6 = .ok (.getfield 494, 3) := by decide +kernel
theorem dX12_forget_9 : decode cX12_forget 9 = .ok (.istore_n 1, 1) := by decide +kernel
theorem dX12_forget_10 : decode cX12_forget 10 = .ok (.aload_n 0, 1) := by decide +kernel
theorem dX12_forget_11 : decode cX12_forget 11 = .ok (.iconst 0, 1) := by decide +kernel
theorem dX12_forget_12 : decode cX12_forget 12 = .ok (.putfield 494, 3) := by decide +kernel
theorem dX12_forget_15 : decode cX12_forget 15 = .ok (.iload_n 1, 1) := by decide +kernel
theorem dX12_forget_16 : decode cX12_forget 16 = .ok (.ireturn, 1) := by decide +kernel
theorem dX12_fits_0 : decode cX12_fits 0 = .ok (.aload_n 0, 1) := by decide +kernel
theorem dX12_fits_1 : decode cX12_fits 1 = .ok (.iconst 0, 1) := by decide +kernel
theorem dX12_fits_2 : decode cX12_fits 2 = .ok (.putfield 133, 3) := by decide +kernel
theorem dX12_fits_5 : decode cX12_fits 5 = .ok (.iconst 0, 1) := by decide +kernel
theorem dX12_fits_6 : decode cX12_fits 6 = .ok (.istore_n 1, 1) := by decide +kernel
theorem dX12_fits_7 : decode cX12_fits 7 = .ok (.iconst 0, 1) := by decide +kernel
theorem dX12_fits_8 : decode cX12_fits 8 = .ok (.istore_n 2, 1) := by decide +kernel
theorem dX12_fits_9 : decode cX12_fits 9 = .ok (.iload_n 2, 1) := by decide +kernel
theorem dX12_fits_10 : decode cX12_fits 10 = .ok (.aload_n 0, 1) := by decide +kernel
theorem dX12_fits_11 : decode cX12_fits 11 = .ok (.getfield 494, 3) := by decide +kernel
theorem dX12_fits_14 : decode cX12_fits 14 = .ok (.if_icmp .ge 90, 3) := by decide +kernel
theorem dX12_fits_17 : decode cX12_fits 17 = .ok (.iconst 0, 1) := by decide +kernel
theorem dX12_fits_18 : decode cX12_fits 18 = .ok (.istore_n 3, 1) := by decide +kernel
theorem dX12_fits_19 : decode cX12_fits 19 = .ok (.iload_n 3, 1) := by decide +kernel
theorem dX12_fits_20 : decode cX12_fits 20 = .ok (.aload_n 0, 1) := by decide +kernel
theorem dX12_fits_21 : decode cX12_fits 21 = .ok (.getfield 43, 3) := by decide +kernel
theorem dX12_fits_24 : decode cX12_fits 24 = .ok (.bipush 45, 2) := by decide +kernel
theorem dX12_fits_26 : decode cX12_fits 26 = .ok (.iaload, 1) := by decide +kernel
theorem dX12_fits_27 : decode cX12_fits 27 = .ok (.if_icmp .ge 71, 3) := by decide +kernel
theorem dX12_fits_30 : decode cX12_fits 30 = .ok (.iload_n 1, 1) := by decide +kernel
theorem dX12_fits_31 : decode cX12_fits 31 = .ok (.aload_n 0, 1) := by decide +kernel
theorem dX12_fits_32 : decode cX12_fits 32 = .ok (.getfield 43, 3) := by decide +kernel
theorem dX12_fits_35 : decode cX12_fits 35 = .ok (.iload_n 3, 1) := by decide +kernel
theorem dX12_fits_36 : decode cX12_fits 36 = .ok (.invokestatic 293, 3) := by decide +kernel
theorem dX12_fits_39 : decode cX12_fits 39 = .ok (.aload_n 0, 1) := by decide +kernel
theorem dX12_fits_40 : decode cX12_fits 40 = .ok (.getfield 112, 3) := by decide +kernel
theorem dX12_fits_43 : decode cX12_fits 43 = .ok (.iload_n 2, 1) := by decide +kernel
theorem dX12_fits_44 : decode cX12_fits 44 = .ok (.iaload, 1) := by decide +kernel
theorem dX12_fits_45 : decode cX12_fits 45 = .ok (.if_icmp .ne 44, 3) := by decide +kernel
theorem dX12_fits_48 : decode cX12_fits 48 = .ok (.aload_n 0, 1) := by decide +kernel
theorem dX12_fits_49 : decode cX12_fits 49 = .ok (.getfield 43, 3) := by decide +kernel
theorem dX12_fits_52 : decode cX12_fits 52 = .ok (.iload_n 3, 1) := by decide +kernel
theorem dX12_fits_53 : decode cX12_fits 53 = .ok (.invokestatic 278, 3) := by decide +kernel
theorem dX12_fits_56 : decode cX12_fits 56 = .ok (.aload_n 0, 1) := by decide +kernel
theorem dX12_fits_57 : decode cX12_fits 57 = .ok (.getfield 115, 3) := by decide +kernel
theorem dX12_fits_60 : decode cX12_fits 60 = .ok (.iload_n 2, 1) := by decide +kernel
theorem dX12_fits_61 : decode cX12_fits 61 = .ok (.iaload, 1) := by decide +kernel
theorem dX12_fits_62 : decode cX12_fits 62 = .ok (.if_icmp .ne 27, 3) := by decide +kernel
theorem dX12_fits_65 : decode cX12_fits 65 = .ok (.aload_n 0, 1) := by decide +kernel
theorem dX12_fits_66 : decode cX12_fits 66 = .ok (.aload_n 0, 1) := by decide +kernel
theorem dX12_fits_67 : decode cX12_fits 67 = .ok (.getfield 43, 3) := by decide +kernel
theorem dX12_fits_70 : decode cX12_fits 70 = .ok (.iload_n 3, 1) := by decide +kernel
theorem dX12_fits_71 : decode cX12_fits 71 = .ok (.aload_n 0, 1) := by decide +kernel
theorem dX12_fits_72 : decode cX12_fits 72 = .ok (.getfield 118, 3) := by decide +kernel
theorem dX12_fits_75 : decode cX12_fits 75 = .ok (.iload_n 2, 1) := by decide +kernel
theorem dX12_fits_76 : decode cX12_fits 76 = .ok (.iaload, 1) := by decide +kernel
theorem dX12_fits_77 : decode cX12_fits 77 = .ok (.invokevirtual 320, 3) := by decide +kernel
theorem dX12_fits_80 : decode cX12_fits 80 = .ok (.ifCond .eq 9, 3) := by decide +kernel
theorem dX12_fits_83 : decode cX12_fits 83 = .ok (.iconst 1, 1) := by decide +kernel
theorem dX12_fits_84 : decode cX12_fits 84 = .ok (.iload_n 2, 1) := by decide +kernel
theorem dX12_fits_85 : decode cX12_fits 85 = .ok (.ishl, 1) := by decide +kernel
theorem dX12_fits_86 : decode cX12_fits 86 = .ok (.goto 4, 3) := by decide +kernel
theorem dX12_fits_89 : decode cX12_fits 89 = .ok (.iconst 0, 1) := by decide +kernel
theorem dX12_fits_90 : decode cX12_fits 90 = .ok (.ior, 1) := by decide +kernel
theorem dX12_fits_91 : decode cX12_fits 91 = .ok (.istore_n 1, 1) := by decide +kernel
theorem dX12_fits_92 : decode cX12_fits 92 = .ok (.iinc 3 1, 3) := by decide +kernel
theorem dX12_fits_95 : decode cX12_fits 95 = .ok (.goto (-76), 3) := by decide +kernel
theorem dX12_fits_98 : decode cX12_fits 98 = .ok (.iinc 2 1, 3) := by decide +kernel
theorem dX12_fits_101 : decode cX12_fits 101 = .ok (.goto (-92), 3) := by decide +kernel
theorem dX12_fits_104 : decode cX12_fits 104 = .ok (.aload_n 0, 1) := by decide +kernel
theorem dX12_fits_105 : decode cX12_fits 105 = .ok (.iconst 0, 1) := by decide +kernel
theorem dX12_fits_106 : decode cX12_fits 106 = .ok (.putfield 140, 3) := by decide +kernel
theorem dX12_fits_109 : decode cX12_fits 109 = .ok (.aload_n 0, 1) := by decide +kernel
theorem dX12_fits_110 : decode cX12_fits 110 = .ok (.iload_n 1, 1) := by decide +kernel
theorem dX12_fits_111 : decode cX12_fits 111 = .ok (.i2l, 1) := by decide +kernel
theorem dX12_fits_112 : decode cX12_fits 112 = .ok (.invokevirtual 414, 3) := by decide +kernel
theorem dX12_fits_115 : decode cX12_fits 115 = .ok (.iload_n 1, 1) := by decide +kernel
theorem dX12_fits_116 : decode cX12_fits 116 = .ok (.invokestatic 428, 3) := by decide +kernel
theorem dX12_fits_119 : decode cX12_fits 119 = .ok (.ireturn, 1) := by decide +kernel
theorem dX12_canHaveGone_0 : decode cX12_canHaveGone 0 = .ok (.aload_n 0, 1) := by decide +kernel
theorem dX12_canHaveGone_1 : decode cX12_canHaveGone 1 = .ok (.getfield 46, 3) := by decide +kernel
theorem dX12_canHaveGone_4 : decode cX12_canHaveGone 4 = .ok (.bipush 45, 2) := by decide +kernel
theorem dX12_canHaveGone_6 : decode cX12_canHaveGone 6 = .ok (.iconst 0, 1) := by decide +kernel
theorem dX12_canHaveGone_7 : decode cX12_canHaveGone 7 = .ok (.iastore, 1) := by decide +kernel
theorem dX12_canHaveGone_8 : decode cX12_canHaveGone 8 = .ok (.aload_n 0, 1) := by decide +kernel
theorem dX12_canHaveGone_9 : decode cX12_canHaveGone 9 = .ok (.getfield 46, 3) := by decide +kernel
theorem dX12_canHaveGone_12 : decode cX12_canHaveGone 12 = .ok (.iload_n 1, 1) := by decide +kernel
theorem dX12_canHaveGone_13 : decode cX12_canHaveGone 13 = .ok (.iload_n 2, 1) := by decide +kernel
theorem dX12_canHaveGone_14 : decode cX12_canHaveGone 14 = .ok (.iload_n 3, 1) := by decide +kernel
theorem dX12_canHaveGone_15 : decode cX12_canHaveGone 15 = .ok (.invokestatic 336, 3) := by decide +kernel
theorem dX12_canHaveGone_18 : decode cX12_canHaveGone 18 = .ok (.iload_n 3, 1) := by decide +kernel
theorem dX12_canHaveGone_19 : decode cX12_canHaveGone 19 = .ok (.aload_n 0, 1) := by decide +kernel
theorem dX12_canHaveGone_20 : decode cX12_canHaveGone 20 = .ok (.iload_n 2, 1) := by decide +kernel
theorem dX12_canHaveGone_21 : decode cX12_canHaveGone 21 = .ok (.invokevirtual 281, 3) := by decide +kernel
theorem dX12_canHaveGone_24 : decode cX12_canHaveGone 24 = .ok (.iadd, 1) := by decide +kernel
theorem dX12_canHaveGone_25 : decode cX12_canHaveGone 25 = .ok (.aload_n 0, 1) := by decide +kernel
theorem dX12_canHaveGone_26 : decode cX12_canHaveGone 26 = .ok (.getfield 13, 3) := by decide +kernel
theorem dX12_canHaveGone_29 : decode cX12_canHaveGone 29 = .ok (.if_icmp .gt 16, 3) := by decide +kernel
theorem dX12_canHaveGone_32 : decode cX12_canHaveGone 32 = .ok (.aload_n 0, 1) := by decide +kernel
theorem dX12_canHaveGone_33 : decode cX12_canHaveGone 33 = .ok (.iload_n 2, 1) := by decide +kernel
theorem dX12_canHaveGone_34 : decode cX12_canHaveGone 34 = .ok (.iload_n 3, 1) := by decide +kernel
theorem dX12_canHaveGone_35 : decode cX12_canHaveGone 35 = .ok (.invokevirtual 289, 3) := by decide +kernel
theorem dX12_canHaveGone_38 : decode cX12_canHaveGone 38 = .ok (.ifCond .eq 7, 3) := by decide +kernel
theorem dX12_canHaveGone_41 : decode cX12_canHaveGone 41 = .ok (.iconst 1, 1) := by decide +kernel
theorem dX12_canHaveGone_42 : decode cX12_canHaveGone 42 = .ok (.goto 4, 3) := by decide +kernel
theorem dX12_canHaveGone_45 : decode cX12_canHaveGone 45 = .ok (.iconst 0, 1) := by decide +kernel
theorem dX12_canHaveGone_46 : decode cX12_canHaveGone 46 = .ok (.istore 4, 2) := by decide +kernel
theorem dX12_canHaveGone_48 : decode cX12_canHaveGone 48 = .ok (.iconst 0, 1) := by decide +kernel
theorem dX12_canHaveGone_49 : decode cX12_canHaveGone 49 = .ok (.istore 5, 2) := by decide +kernel
theorem dX12_canHaveGone_51 : decode cX12_canHaveGone 51 = .ok (.iload 5, 2) := by decide +kernel
theorem dX12_canHaveGone_53 : decode cX12_canHaveGone 53 = .ok (.aload_n 0, 1) := by decide +kernel
theorem dX12_canHaveGone_54 : decode cX12_canHaveGone 54 = .ok (.getfield 494, 3) := by decide +kernel
theorem dX12_canHaveGone_57 : decode cX12_canHaveGone 57 = .ok (.if_icmp .ge 84, 3) := by decide +kernel
theorem dX12_canHaveGone_60 : decode cX12_canHaveGone 60 = .ok (.iload 4, 2) := by decide +kernel
theorem dX12_canHaveGone_62 : decode cX12_canHaveGone 62 = .ok (.ifCond .eq 79, 3) := by decide +kernel
theorem dX12_canHaveGone_65 : decode cX12_canHaveGone 65 = .ok (.aload_n 0, 1) := by decide +kernel
theorem dX12_canHaveGone_66 : decode cX12_canHaveGone 66 = .ok (.getfield 112, 3) := by decide +kernel
theorem dX12_canHaveGone_69 : decode cX12_canHaveGone 69 = .ok (.iload 5, 2) := by decide +kernel
theorem dX12_canHaveGone_71 : decode cX12_canHaveGone 71 = .ok (.iaload, 1) := by decide +kernel
theorem dX12_canHaveGone_72 : decode cX12_canHaveGone 72 = .ok (.iload_n 1, 1) := by decide +kernel
theorem dX12_canHaveGone_73 : decode cX12_canHaveGone 73 = .ok (.if_icmp .ne 55, 3) := by decide +kernel
theorem dX12_canHaveGone_76 : decode cX12_canHaveGone 76 = .ok (.aload_n 0, 1) := by decide +kernel
theorem dX12_canHaveGone_77 : decode cX12_canHaveGone 77 = .ok (.getfield 115, 3) := by decide +kernel
theorem dX12_canHaveGone_80 : decode cX12_canHaveGone 80 = .ok (.iload 5, 2) := by decide +kernel
theorem dX12_canHaveGone_82 : decode cX12_canHaveGone 82 = .ok (.iaload, 1) := by decide +kernel
theorem dX12_canHaveGone_83 : decode cX12_canHaveGone 83 = .ok (.iload_n 2, 1) := by decide +kernel
theorem dX12_canHaveGone_84 : decode cX12_canHaveGone 84 = .ok (.if_icmp .ne 25, 3) := by decide +kernel
theorem dX12_canHaveGone_87 : decode cX12_canHaveGone 87 = .ok (.aload_n 0, 1) := by decide +kernel
theorem dX12_canHaveGone_88 : decode cX12_canHaveGone 88 = .ok (.aload_n 0, 1) := by decide +kernel
theorem dX12_canHaveGone_89 : decode cX12_canHaveGone 89 = .ok (.getfield 46, 3) := by decide +kernel
theorem dX12_canHaveGone_92 : decode cX12_canHaveGone 92 = .ok (.iconst 0, 1) := by decide +kernel
theorem dX12_canHaveGone_93 : decode cX12_canHaveGone 93 = .ok (.aload_n 0, 1) := by decide +kernel
theorem dX12_canHaveGone_94 : decode cX12_canHaveGone 94 = .ok (.getfield 118, 3) := by decide +kernel
theorem dX12_canHaveGone_97 : decode cX12_canHaveGone 97 = .ok (.iload 5, 2) := by decide +kernel
theorem dX12_canHaveGone_99 : decode cX12_canHaveGone 99 = .ok (.iaload, 1) := by decide +kernel
theorem dX12_canHaveGone_100 : decode cX12_canHaveGone 100 = .ok (.invokevirtual 320, 3) := by decide +kernel
theorem dX12_canHaveGone_103 : decode cX12_canHaveGone 103 = .ok (.ifCond .eq 29, 3) := by decide +kernel
theorem dX12_canHaveGone_106 : decode cX12_canHaveGone 106 = .ok (.goto 22, 3) := by decide +kernel
theorem dX12_canHaveGone_109 : decode cX12_canHaveGone 109 = .ok (.aload_n 0, 1) := by decide +kernel
theorem dX12_canHaveGone_110 : decode cX12_canHaveGone 110 = .ok (.aload_n 0, 1) := by decide +kernel
theorem dX12_canHaveGone_111 : decode cX12_canHaveGone 111 = .ok (.getfield 46, 3) := by decide +kernel
theorem dX12_canHaveGone_114 : decode cX12_canHaveGone 114 = .ok (.iconst 0, 1) := by decide +kernel
theorem dX12_canHaveGone_115 : decode cX12_canHaveGone 115 = .ok (.aload_n 0, 1) := by decide +kernel
theorem dX12_canHaveGone_116 : decode cX12_canHaveGone 116 = .ok (.getfield 118, 3) := by decide +kernel
theorem dX12_canHaveGone_119 : decode cX12_canHaveGone 119 = .ok (.iload 5, 2) := by decide +kernel
theorem dX12_canHaveGone_121 : decode cX12_canHaveGone 121 = .ok (.iaload, 1) := by decide +kernel
theorem dX12_canHaveGone_122 : decode cX12_canHaveGone 122 = .ok (.invokevirtual 317, 3) := by decide +kernel
theorem dX12_canHaveGone_125 : decode cX12_canHaveGone 125 = .ok (.ifCond .ne 7, 3) := by decide +kernel
theorem dX12_canHaveGone_128 : decode cX12_canHaveGone 128 = .ok (.iconst 1, 1) := by decide +kernel
theorem dX12_canHaveGone_129 : decode cX12_canHaveGone 129 = .ok (.goto 4, 3) := by decide +kernel
theorem dX12_canHaveGone_132 : decode cX12_canHaveGone 132 = .ok (.iconst 0, 1) := by decide +kernel
theorem dX12_canHaveGone_133 : decode cX12_canHaveGone 133 = .ok (.istore 4, 2) := by decide +kernel
theorem dX12_canHaveGone_135 : decode cX12_canHaveGone 135 = .ok (.iinc 5 1, 3) := by decide +kernel
theorem dX12_canHaveGone_138 : decode cX12_canHaveGone 138 = .ok (.goto (-87), 3) := by decide +kernel
theorem dX12_canHaveGone_141 : decode cX12_canHaveGone 141 = .ok (.iload 4, 2) := by decide +kernel
theorem dX12_canHaveGone_143 : decode cX12_canHaveGone 143 = .ok (.ireturn, 1) := by decide +kernel
theorem dX12_since_0 : decode cX12_since 0 = .ok (.aload_n 0, 1) := by decide +kernel
theorem dX12_since_1 : decode cX12_since 1 = .ok (.iconst 0, 1) := by decide +kernel
theorem dX12_since_2 : decode cX12_since 2 = .ok (.putfield 133, 3) := by decide +kernel
theorem dX12_since_5 : decode cX12_since 5 = .ok (.aload_n 0, 1) := by decide +kernel
theorem dX12_since_6 : decode cX12_since 6 = .ok (.iload_n 1, 1) := by decide +kernel
theorem dX12_since_7 : decode cX12_since 7 = .ok (.invokevirtual 247, 3) := by decide +kernel
theorem dX12_since_10 : decode cX12_since 10 = .ok (.ifCond .eq 11, 3) := by decide +kernel
theorem dX12_since_13 : decode cX12_since 13 = .ok (.aload_n 0, 1) := by decide +kernel
theorem dX12_since_14 : decode cX12_since 14 = .ok (.iload_n 2, 1) := by decide +kernel
theorem dX12_since_15 : decode cX12_since 15 = .ok (.invokevirtual 361, 3) := by decide +kernel
theorem dX12_since_18 : decode cX12_since 18 = .ok (.ifCond .ne 5, 3) := by decide +kernel
theorem dX12_since_21 : decode cX12_since 21 = .ok (.iconst (-1), 1) := by decide +kernel
theorem dX12_since_22 : decode cX12_since 22 = .ok (.ireturn, 1) := by decide +kernel
theorem dX12_since_23 : decode cX12_since 23 = .ok (.iconst 0, 1) := by decide +kernel
theorem dX12_since_24 : decode cX12_since 24 = .ok (.istore_n 3, 1) := by decide +kernel
theorem dX12_since_25 : decode cX12_since 25 = .ok (.iconst (-1), 1) := by decide +kernel
theorem dX12_since_26 : decode cX12_since 26 = .ok (.istore 4, 2) := by decide +kernel
theorem dX12_since_28 : decode cX12_since 28 = .ok (.iconst (-1), 1) := by decide +kernel
theorem dX12_since_29 : decode cX12_since 29 = .ok (.istore 5, 2) := by decide +kernel
theorem dX12_since_31 : decode cX12_since 31 = .ok (.iconst 0, 1) := by decide +kernel
theorem dX12_since_32 : decode cX12_since 32 = .ok (.istore 6, 2) := by decide +kernel
theorem dX12_since_34 : decode cX12_since 34 = .ok (.iload 6, 2) := by decide +kernel
theorem dX12_since_36 : decode cX12_since 36 = .ok (.bipush 99, 2) := by decide +kernel
theorem dX12_since_38 : decode cX12_since 38 = .ok (.if_icmp .gt 41, 3) := by decide +kernel
theorem dX12_since_41 : decode cX12_since 41 = .ok (.aload_n 0, 1) := by decide +kernel
theorem dX12_since_42 : decode cX12_since 42 = .ok (.iload_n 1, 1) := by decide +kernel
theorem dX12_since_43 : decode cX12_since 43 = .ok (.iload_n 2, 1) := by decide +kernel
theorem dX12_since_44 : decode cX12_since 44 = .ok (.iload 6, 2) := by decide +kernel
theorem dX12_since_46 : decode cX12_since 46 = .ok (.invokevirtual 497, 3) := by decide +kernel
theorem dX12_since_49 : decode cX12_since 49 = .ok (.ifCond .eq 24, 3) := by decide +kernel
theorem dX12_since_52 : decode cX12_since 52 = .ok (.iload 4, 2) := by decide +kernel
theorem dX12_since_54 : decode cX12_since 54 = .ok (.ifCond .ge 8, 3) := by decide +kernel
theorem dX12_since_57 : decode cX12_since 57 = .ok (.iload 6, 2) := by decide +kernel
theorem dX12_since_59 : decode cX12_since 59 = .ok (.goto 5, 3) := by decide +kernel
theorem dX12_since_62 : decode cX12_since 62 = .ok (.iload 4, 2) := by decide +kernel
theorem dX12_since_64 : decode cX12_since 64 = .ok (.istore 4, 2) := by decide +kernel
theorem dX12_since_66 : decode cX12_since 66 = .ok (.iload 6, 2) := by decide +kernel
theorem dX12_since_68 : decode cX12_since 68 = .ok (.istore 5, 2) := by decide +kernel
theorem dX12_since_70 : decode cX12_since 70 = .ok (.iinc 3 1, 3) := by decide +kernel
theorem dX12_since_73 : decode cX12_since 73 = .ok (.iinc 6 1, 3) := by decide +kernel
theorem dX12_since_76 : decode cX12_since 76 = .ok (.goto (-42), 3) := by decide +kernel
theorem dX12_since_79 : decode cX12_since 79 = .ok (.aload_n 0, 1) := by decide +kernel
theorem dX12_since_80 : decode cX12_since 80 = .ok (.iconst 0, 1) := by decide +kernel
theorem dX12_since_81 : decode cX12_since 81 = .ok (.putfield 140, 3) := by decide +kernel
theorem dX12_since_84 : decode cX12_since 84 = .ok (.aload_n 0, 1) := by decide +kernel
theorem dX12_since_85 : decode cX12_since 85 = .ok (.iload 4, 2) := by decide +kernel
theorem dX12_since_87 : decode cX12_since 87 = .ok (.i2l, 1) := by decide +kernel
theorem dX12_since_88 : decode cX12_since 88 = .ok (.invokevirtual 414, 3) := by decide +kernel
theorem dX12_since_91 : decode cX12_since 91 = .ok (.aload_n 0, 1) := by decide +kernel
theorem dX12_since_92 : decode cX12_since 92 = .ok (.iload 5, 2) := by decide +kernel
theorem dX12_since_94 : decode cX12_since 94 = .ok (.i2l, 1) := by decide +kernel
theorem dX12_since_95 : decode cX12_since 95 = .ok (.invokevirtual 414, 3) := by decide +kernel
theorem dX12_since_98 : decode cX12_since 98 = .ok (.iload_n 3, 1) := by decide +kernel
theorem dX12_since_99 : decode cX12_since 99 = .ok (.ireturn, 1) := by decide +kernel
theorem dX12_stayed_0 : decode cX12_stayed 0 = .ok (.aload_n 0, 1) := by decide +kernel
theorem dX12_stayed_1 : decode cX12_stayed 1 = .ok (.iconst 0, 1) := by decide +kernel
theorem dX12_stayed_2 : decode cX12_stayed 2 = .ok (.putfield 133, 3) := by decide +kernel
theorem dX12_stayed_5 : decode cX12_stayed 5 = .ok (.iload_n 1, 1) := by decide +kernel
theorem dX12_stayed_6 : decode cX12_stayed 6 = .ok (.i2l, 1) := by decide +kernel
theorem dX12_stayed_7 : decode cX12_stayed 7 = .ok (.lconst 0, 1) := by decide +kernel
theorem dX12_stayed_8 : decode cX12_stayed 8 = .ok (.ldc2_w 374, 3) := by decide +kernel
theorem dX12_stayed_11 : decode cX12_stayed 11 = .ok (.invokestatic 146, 3) := by decide +kernel
theorem dX12_stayed_14 : decode cX12_stayed 14 = .ok (.ifCond .ne 5, 3) := by decide +kernel
theorem dX12_stayed_17 : decode cX12_stayed 17 = .ok (.iconst (-1), 1) := by decide +kernel
theorem dX12_stayed_18 : decode cX12_stayed 18 = .ok (.ireturn, 1) := by decide +kernel
theorem dX12_stayed_19 : decode cX12_stayed 19 = .ok (.iconst 1, 1) := by decide +kernel
theorem dX12_stayed_20 : decode cX12_stayed 20 = .ok (.aload_n 0, 1) := by decide +kernel
theorem dX12_stayed_21 : decode cX12_stayed 21 = .ok (.getfield 143, 3) := by decide +kernel
theorem dX12_stayed_24 : decode cX12_stayed 24 = .ok (.ishl, 1) := by decide +kernel
theorem dX12_stayed_25 : decode cX12_stayed 25 = .ok (.iconst 1, 1) := by decide +kernel
theorem dX12_stayed_26 : decode cX12_stayed 26 = .ok (.isub, 1) := by decide +kernel
theorem dX12_stayed_27 : decode cX12_stayed 27 = .ok (.istore_n 2, 1) := by decide +kernel
theorem dX12_stayed_28 : decode cX12_stayed 28 = .ok (.iconst 0, 1) := by decide +kernel
theorem dX12_stayed_29 : decode cX12_stayed 29 = .ok (.istore_n 3, 1) := by decide +kernel
theorem dX12_stayed_30 : decode cX12_stayed 30 = .ok (.iload_n 3, 1) := by decide +kernel
theorem dX12_stayed_31 : decode cX12_stayed 31 = .ok (.aload_n 0, 1) := by decide +kernel
theorem dX12_stayed_32 : decode cX12_stayed 32 = .ok (.getfield 494, 3) := by decide +kernel
theorem dX12_stayed_35 : decode cX12_stayed 35 = .ok (.if_icmp .ge 51, 3) := by decide +kernel
theorem dX12_stayed_38 : decode cX12_stayed 38 = .ok (.iload_n 2, 1) := by decide +kernel
theorem dX12_stayed_39 : decode cX12_stayed 39 = .ok (.aload_n 0, 1) := by decide +kernel
theorem dX12_stayed_40 : decode cX12_stayed 40 = .ok (.getfield 118, 3) := by decide +kernel
theorem dX12_stayed_43 : decode cX12_stayed 43 = .ok (.iload_n 3, 1) := by decide +kernel
theorem dX12_stayed_44 : decode cX12_stayed 44 = .ok (.iaload, 1) := by decide +kernel
theorem dX12_stayed_45 : decode cX12_stayed 45 = .ok (.iload_n 1, 1) := by decide +kernel
theorem dX12_stayed_46 : decode cX12_stayed 46 = .ok (.isub, 1) := by decide +kernel
theorem dX12_stayed_47 : decode cX12_stayed 47 = .ok (.invokestatic 500, 3) := by decide +kernel
theorem dX12_stayed_50 : decode cX12_stayed 50 = .ok (.aload_n 0, 1) := by decide +kernel
theorem dX12_stayed_51 : decode cX12_stayed 51 = .ok (.getfield 25, 3) := by decide +kernel
theorem dX12_stayed_54 : decode cX12_stayed 54 = .ok (.aload_n 0, 1) := by decide +kernel
theorem dX12_stayed_55 : decode cX12_stayed 55 = .ok (.getfield 115, 3) := by decide +kernel
theorem dX12_stayed_58 : decode cX12_stayed 58 = .ok (.iload_n 3, 1) := by decide +kernel
theorem dX12_stayed_59 : decode cX12_stayed 59 = .ok (.iaload, 1) := by decide +kernel
theorem dX12_stayed_60 : decode cX12_stayed 60 = .ok (.iaload, 1) := by decide +kernel
theorem dX12_stayed_61 : decode cX12_stayed 61 = .ok (.if_icmp .gt 16, 3) := by decide +kernel
theorem dX12_stayed_64 : decode cX12_stayed 64 = .ok (.iconst 1, 1) := by decide +kernel
theorem dX12_stayed_65 : decode cX12_stayed 65 = .ok (.aload_n 0, 1) := by decide +kernel
theorem dX12_stayed_66 : decode cX12_stayed 66 = .ok (.getfield 112, 3) := by decide +kernel
theorem dX12_stayed_69 : decode cX12_stayed 69 = .ok (.iload_n 3, 1) := by decide +kernel
theorem dX12_stayed_70 : decode cX12_stayed 70 = .ok (.iaload, 1) := by decide +kernel
theorem dX12_stayed_71 : decode cX12_stayed 71 = .ok (.ishl, 1) := by decide +kernel
theorem dX12_stayed_72 : decode cX12_stayed 72 = .ok (.iconst (-1), 1) := by decide +kernel
theorem dX12_stayed_73 : decode cX12_stayed 73 = .ok (.ixor, 1) := by decide +kernel
theorem dX12_stayed_74 : decode cX12_stayed 74 = .ok (.goto 4, 3) := by decide +kernel
theorem dX12_stayed_77 : decode cX12_stayed 77 = .ok (.iconst (-1), 1) := by decide +kernel
theorem dX12_stayed_78 : decode cX12_stayed 78 = .ok (.iand, 1) := by decide +kernel
theorem dX12_stayed_79 : decode cX12_stayed 79 = .ok (.istore_n 2, 1) := by decide +kernel
theorem dX12_stayed_80 : decode cX12_stayed 80 = .ok (.iinc 3 1, 3) := by decide +kernel
theorem dX12_stayed_83 : decode cX12_stayed 83 = .ok (.goto (-53), 3) := by decide +kernel
theorem dX12_stayed_86 : decode cX12_stayed 86 = .ok (.iload_n 2, 1) := by decide +kernel
theorem dX12_stayed_87 : decode cX12_stayed 87 = .ok (.ireturn, 1) := by decide +kernel
theorem dX12_journey_0 : decode cX12_journey 0 = .ok (.aload_n 0, 1) := by decide +kernel
theorem dX12_journey_1 : decode cX12_journey 1 = .ok (.iconst 0, 1) := by decide +kernel
theorem dX12_journey_2 : decode cX12_journey 2 = .ok (.putfield 133, 3) := by decide +kernel
theorem dX12_journey_5 : decode cX12_journey 5 = .ok (.iload_n 2, 1) := by decide +kernel
theorem dX12_journey_6 : decode cX12_journey 6 = .ok (.i2l, 1) := by decide +kernel
theorem dX12_journey_7 : decode cX12_journey 7 = .ok (.lconst 1, 1) := by decide +kernel
theorem dX12_journey_8 : decode cX12_journey 8 = .ok (.ldc2_w 503, 3) := by decide +kernel
theorem dX12_journey_11 : decode cX12_journey 11 = .ok (.invokestatic 146, 3) := by decide +kernel
theorem dX12_journey_14 : decode cX12_journey 14 = .ok (.ifCond .eq 15, 3) := by decide +kernel
theorem dX12_journey_17 : decode cX12_journey 17 = .ok (.iload_n 3, 1) := by decide +kernel
theorem dX12_journey_18 : decode cX12_journey 18 = .ok (.i2l, 1) := by decide +kernel
theorem dX12_journey_19 : decode cX12_journey 19 = .ok (.lconst 1, 1) := by decide +kernel
theorem dX12_journey_20 : decode cX12_journey 20 = .ok (.ldc2_w 372, 3) := by decide +kernel
theorem dX12_journey_23 : decode cX12_journey 23 = .ok (.invokestatic 146, 3) := by decide +kernel
theorem dX12_journey_26 : decode cX12_journey 26 = .ok (.ifCond .ne 5, 3) := by decide +kernel
theorem dX12_journey_29 : decode cX12_journey 29 = .ok (.iconst (-1), 1) := by decide +kernel
theorem dX12_journey_30 : decode cX12_journey 30 = .ok (.ireturn, 1) := by decide +kernel
theorem dX12_journey_31 : decode cX12_journey 31 = .ok (.iload_n 1, 1) := by decide +kernel
theorem dX12_journey_32 : decode cX12_journey 32 = .ok (.istore 4, 2) := by decide +kernel
theorem dX12_journey_34 : decode cX12_journey 34 = .ok (.iconst 0, 1) := by decide +kernel
theorem dX12_journey_35 : decode cX12_journey 35 = .ok (.istore 5, 2) := by decide +kernel
theorem dX12_journey_37 : decode cX12_journey 37 = .ok (.iconst 0, 1) := by decide +kernel
theorem dX12_journey_38 : decode cX12_journey 38 = .ok (.istore 6, 2) := by decide +kernel
theorem dX12_journey_40 : decode cX12_journey 40 = .ok (.iload 6, 2) := by decide +kernel
theorem dX12_journey_42 : decode cX12_journey 42 = .ok (.bipush 12, 2) := by decide +kernel
theorem dX12_journey_44 : decode cX12_journey 44 = .ok (.if_icmp .ge 17, 3) := by decide +kernel
theorem dX12_journey_47 : decode cX12_journey 47 = .ok (.aload_n 0, 1) := by decide +kernel
theorem dX12_journey_48 : decode cX12_journey 48 = .ok (.getfield 121, 3) := by decide +kernel
theorem dX12_journey_51 : decode cX12_journey 51 = .ok (.iload 6, 2) := by decide +kernel
theorem dX12_journey_53 : decode cX12_journey 53 = .ok (.iconst 0, 1) := by decide +kernel
theorem dX12_journey_54 : decode cX12_journey 54 = .ok (.iastore, 1) := by decide +kernel
theorem dX12_journey_55 : decode cX12_journey 55 = .ok (.iinc 6 1, 3) := by decide +kernel
theorem dX12_journey_58 : decode cX12_journey 58 = .ok (.goto (-18), 3) := by decide +kernel
theorem dX12_journey_61 : decode cX12_journey 61 = .ok (.iconst 0, 1) := by decide +kernel
theorem dX12_journey_62 : decode cX12_journey 62 = .ok (.istore 6, 2) := by decide +kernel
theorem dX12_journey_64 : decode cX12_journey 64 = .ok (.iload 6, 2) := by decide +kernel
theorem dX12_journey_66 : decode cX12_journey 66 = .ok (.iload_n 2, 1) := by decide +kernel
theorem dX12_journey_67 : decode cX12_journey 67 = .ok (.if_icmp .ge 119, 3) := by decide +kernel
theorem dX12_journey_70 : decode cX12_journey 70 = .ok (.iconst 1, 1) := by decide +kernel
theorem dX12_journey_71 : decode cX12_journey 71 = .ok (.istore 7, 2) := by decide +kernel
theorem dX12_journey_73 : decode cX12_journey 73 = .ok (.iconst 0, 1) := by decide +kernel
theorem dX12_journey_74 : decode cX12_journey 74 = .ok (.istore 8, 2) := by decide +kernel
theorem dX12_journey_76 : decode cX12_journey 76 = .ok (.iload 8, 2) := by decide +kernel
theorem dX12_journey_78 : decode cX12_journey 78 = .ok (.aload_n 0, 1) := by decide +kernel
theorem dX12_journey_79 : decode cX12_journey 79 = .ok (.getfield 43, 3) := by decide +kernel
theorem dX12_journey_82 : decode cX12_journey 82 = .ok (.bipush 45, 2) := by decide +kernel
theorem dX12_journey_84 : decode cX12_journey 84 = .ok (.iaload, 1) := by decide +kernel
theorem dX12_journey_85 : decode cX12_journey 85 = .ok (.if_icmp .ge 85, 3) := by decide +kernel
theorem dX12_journey_88 : decode cX12_journey 88 = .ok (.aload_n 0, 1) := by decide +kernel
theorem dX12_journey_89 : decode cX12_journey 89 = .ok (.iload 8, 2) := by decide +kernel
theorem dX12_journey_91 : decode cX12_journey 91 = .ok (.invokevirtual 486, 3) := by decide +kernel
theorem dX12_journey_94 : decode cX12_journey 94 = .ok (.ifCond .eq 70, 3) := by decide +kernel
theorem dX12_journey_97 : decode cX12_journey 97 = .ok (.iload 4, 2) := by decide +kernel
theorem dX12_journey_99 : decode cX12_journey 99 = .ok (.ldc_w 505, 3) := by decide +kernel
theorem dX12_journey_102 : decode cX12_journey 102 = .ok (.imul, 1) := by decide +kernel
theorem dX12_journey_103 : decode cX12_journey 103 = .ok (.sipush 12345, 3) := by decide +kernel
theorem dX12_journey_106 : decode cX12_journey 106 = .ok (.iadd, 1) := by decide +kernel
theorem dX12_journey_107 : decode cX12_journey 107 = .ok (.istore 4, 2) := by decide +kernel
theorem dX12_journey_109 : decode cX12_journey 109 = .ok (.iload 4, 2) := by decide +kernel
theorem dX12_journey_111 : decode cX12_journey 111 = .ok (.bipush 16, 2) := by decide +kernel
theorem dX12_journey_113 : decode cX12_journey 113 = .ok (.iushr, 1) := by decide +kernel
theorem dX12_journey_114 : decode cX12_journey 114 = .ok (.iload_n 3, 1) := by decide +kernel
theorem dX12_journey_115 : decode cX12_journey 115 = .ok (.irem, 1) := by decide +kernel
theorem dX12_journey_116 : decode cX12_journey 116 = .ok (.aload_n 0, 1) := by decide +kernel
theorem dX12_journey_117 : decode cX12_journey 117 = .ok (.iload 8, 2) := by decide +kernel
theorem dX12_journey_119 : decode cX12_journey 119 = .ok (.invokevirtual 489, 3) := by decide +kernel
theorem dX12_journey_122 : decode cX12_journey 122 = .ok (.if_icmp .le 7, 3) := by decide +kernel
theorem dX12_journey_125 : decode cX12_journey 125 = .ok (.iconst 1, 1) := by decide +kernel
theorem dX12_journey_126 : decode cX12_journey 126 = .ok (.goto 4, 3) := by decide +kernel
theorem dX12_journey_129 : decode cX12_journey 129 = .ok (.iconst 0, 1) := by decide +kernel
theorem dX12_journey_130 : decode cX12_journey 130 = .ok (.istore 9, 2) := by decide +kernel
theorem dX12_journey_132 : decode cX12_journey 132 = .ok (.aload_n 0, 1) := by decide +kernel
theorem dX12_journey_133 : decode cX12_journey 133 = .ok (.getfield 121, 3) := by decide +kernel
theorem dX12_journey_136 : decode cX12_journey 136 = .ok (.iload 8, 2) := by decide +kernel
theorem dX12_journey_138 : decode cX12_journey 138 = .ok (.dup2, 1) := by decide +kernel
theorem dX12_journey_139 : decode cX12_journey 139 = .ok (.iaload, 1) := by decide +kernel
theorem dX12_journey_140 : decode cX12_journey 140 = .ok (.iload 9, 2) := by decide +kernel
theorem dX12_journey_142 : decode cX12_journey 142 = .ok (.invokestatic 171, 3) := by decide +kernel
theorem dX12_journey_145 : decode cX12_journey 145 = .ok (.iadd, 1) := by decide +kernel
theorem dX12_journey_146 : decode cX12_journey 146 = .ok (.iastore, 1) := by decide +kernel
theorem dX12_journey_147 : decode cX12_journey 147 = .ok (.iload 7, 2) := by decide +kernel
theorem dX12_journey_149 : decode cX12_journey 149 = .ok (.ifCond .eq 12, 3) := by decide +kernel
theorem dX12_journey_152 : decode cX12_journey 152 = .ok (.iload 9, 2) := by decide +kernel
theorem dX12_journey_154 : decode cX12_journey 154 = .ok (.ifCond .ne 7, 3) := by decide +kernel
theorem dX12_journey_157 : decode cX12_journey 157 = .ok (.iconst 1, 1) := by decide +kernel
theorem dX12_journey_158 : decode cX12_journey 158 = .ok (.goto 4, 3) := by decide +kernel
theorem dX12_journey_161 : decode cX12_journey 161 = .ok (.iconst 0, 1) := by decide +kernel
theorem dX12_journey_162 : decode cX12_journey 162 = .ok (.istore 7, 2) := by decide +kernel
theorem dX12_journey_164 : decode cX12_journey 164 = .ok (.iinc 8 1, 3) := by decide +kernel
theorem dX12_journey_167 : decode cX12_journey 167 = .ok (.goto (-91), 3) := by decide +kernel
theorem dX12_journey_170 : decode cX12_journey 170 = .ok (.iload 5, 2) := by decide +kernel
theorem dX12_journey_172 : decode cX12_journey 172 = .ok (.iload 7, 2) := by decide +kernel
theorem dX12_journey_174 : decode cX12_journey 174 = .ok (.invokestatic 171, 3) := by decide +kernel
theorem dX12_journey_177 : decode cX12_journey 177 = .ok (.iadd, 1) := by decide +kernel
theorem dX12_journey_178 : decode cX12_journey 178 = .ok (.istore 5, 2) := by decide +kernel
theorem dX12_journey_180 : decode cX12_journey 180 = .ok (.iinc 6 1, 3) := by decide +kernel
theorem dX12_journey_183 : decode cX12_journey 183 = .ok (.goto (-119), 3) := by decide +kernel
theorem dX12_journey_186 : decode cX12_journey 186 = .ok (.iconst (-1), 1) := by decide +kernel
theorem dX12_journey_187 : decode cX12_journey 187 = .ok (.istore 6, 2) := by decide +kernel
theorem dX12_journey_189 : decode cX12_journey 189 = .ok (.iconst 0, 1) := by decide +kernel
theorem dX12_journey_190 : decode cX12_journey 190 = .ok (.istore 7, 2) := by decide +kernel
theorem dX12_journey_192 : decode cX12_journey 192 = .ok (.iconst 0, 1) := by decide +kernel
theorem dX12_journey_193 : decode cX12_journey 193 = .ok (.istore 8, 2) := by decide +kernel
theorem dX12_journey_195 : decode cX12_journey 195 = .ok (.iload 8, 2) := by decide +kernel
theorem dX12_journey_197 : decode cX12_journey 197 = .ok (.aload_n 0, 1) := by decide +kernel
theorem dX12_journey_198 : decode cX12_journey 198 = .ok (.getfield 43, 3) := by decide +kernel
theorem dX12_journey_201 : decode cX12_journey 201 = .ok (.bipush 45, 2) := by decide +kernel
theorem dX12_journey_203 : decode cX12_journey 203 = .ok (.iaload, 1) := by decide +kernel
theorem dX12_journey_204 : decode cX12_journey 204 = .ok (.if_icmp .ge 44, 3) := by decide +kernel
theorem dX12_journey_207 : decode cX12_journey 207 = .ok (.aload_n 0, 1) := by decide +kernel
theorem dX12_journey_208 : decode cX12_journey 208 = .ok (.getfield 121, 3) := by decide +kernel
theorem dX12_journey_211 : decode cX12_journey 211 = .ok (.iload 8, 2) := by decide +kernel
theorem dX12_journey_213 : decode cX12_journey 213 = .ok (.iaload, 1) := by decide +kernel
theorem dX12_journey_214 : decode cX12_journey 214 = .ok (.iload 7, 2) := by decide +kernel
theorem dX12_journey_216 : decode cX12_journey 216 = .ok (.if_icmp .le 8, 3) := by decide +kernel
theorem dX12_journey_219 : decode cX12_journey 219 = .ok (.iload 8, 2) := by decide +kernel
theorem dX12_journey_221 : decode cX12_journey 221 = .ok (.goto 5, 3) := by decide +kernel
theorem dX12_journey_224 : decode cX12_journey 224 = .ok (.iload 6, 2) := by decide +kernel
theorem dX12_journey_226 : decode cX12_journey 226 = .ok (.istore 6, 2) := by decide +kernel
theorem dX12_journey_228 : decode cX12_journey 228 = .ok (.iload 7, 2) := by decide +kernel
theorem dX12_journey_230 : decode cX12_journey 230 = .ok (.aload_n 0, 1) := by decide +kernel
theorem dX12_journey_231 : decode cX12_journey 231 = .ok (.getfield 121, 3) := by decide +kernel
theorem dX12_journey_234 : decode cX12_journey 234 = .ok (.iload 8, 2) := by decide +kernel
theorem dX12_journey_236 : decode cX12_journey 236 = .ok (.iaload, 1) := by decide +kernel
theorem dX12_journey_237 : decode cX12_journey 237 = .ok (.invokestatic 311, 3) := by decide +kernel
theorem dX12_journey_240 : decode cX12_journey 240 = .ok (.istore 7, 2) := by decide +kernel
theorem dX12_journey_242 : decode cX12_journey 242 = .ok (.iinc 8 1, 3) := by decide +kernel
theorem dX12_journey_245 : decode cX12_journey 245 = .ok (.goto (-50), 3) := by decide +kernel
theorem dX12_journey_248 : decode cX12_journey 248 = .ok (.aload_n 0, 1) := by decide +kernel
theorem dX12_journey_249 : decode cX12_journey 249 = .ok (.iconst 0, 1) := by decide +kernel
theorem dX12_journey_250 : decode cX12_journey 250 = .ok (.putfield 140, 3) := by decide +kernel
theorem dX12_journey_253 : decode cX12_journey 253 = .ok (.aload_n 0, 1) := by decide +kernel
theorem dX12_journey_254 : decode cX12_journey 254 = .ok (.iload 6, 2) := by decide +kernel
theorem dX12_journey_256 : decode cX12_journey 256 = .ok (.i2l, 1) := by decide +kernel
theorem dX12_journey_257 : decode cX12_journey 257 = .ok (.invokevirtual 414, 3) := by decide +kernel
theorem dX12_journey_260 : decode cX12_journey 260 = .ok (.aload_n 0, 1) := by decide +kernel
theorem dX12_journey_261 : decode cX12_journey 261 = .ok (.iload 7, 2) := by decide +kernel
theorem dX12_journey_263 : decode cX12_journey 263 = .ok (.i2l, 1) := by decide +kernel
theorem dX12_journey_264 : decode cX12_journey 264 = .ok (.invokevirtual 414, 3) := by decide +kernel
theorem dX12_journey_267 : decode cX12_journey 267 = .ok (.iload 5, 2) := by decide +kernel
theorem dX12_journey_269 : decode cX12_journey 269 = .ok (.ireturn, 1) := by decide +kernel
theorem dX12_keep_0 : decode cX12_keep 0 = .ok (.aload_n 0, 1) := by decide +kernel
theorem dX12_keep_1 : decode cX12_keep 1 = .ok (.iconst 0, 1) := by decide +kernel
theorem dX12_keep_2 : decode cX12_keep 2 = .ok (.putfield 133, 3) := by decide +kernel
theorem dX12_keep_5 : decode cX12_keep 5 = .ok (.iload_n 1, 1) := by decide +kernel
theorem dX12_keep_6 : decode cX12_keep 6 = .ok (.i2l, 1) := by decide +kernel
theorem dX12_keep_7 : decode cX12_keep 7 = .ok (.lconst 0, 1) := by decide +kernel
theorem dX12_keep_8 : decode cX12_keep 8 = .ok (.ldc2_w 436, 3) := by decide +kernel
theorem dX12_keep_11 : decode cX12_keep 11 = .ok (.invokestatic 146, 3) := by decide +kernel
theorem dX12_keep_14 : decode cX12_keep 14 = .ok (.ifCond .ne 5, 3) := by decide +kernel
theorem dX12_keep_17 : decode cX12_keep 17 = .ok (.iconst 0, 1) := by decide +kernel
theorem dX12_keep_18 : decode cX12_keep 18 = .ok (.ireturn, 1) := by decide +kernel
theorem dX12_keep_19 : decode cX12_keep 19 = .ok (.aload_n 0, 1) := by decide +kernel
theorem dX12_keep_20 : decode cX12_keep 20 = .ok (.getfield 124, 3) := by decide +kernel
theorem dX12_keep_23 : decode cX12_keep 23 = .ok (.iload_n 1, 1) := by decide +kernel
theorem dX12_keep_24 : decode cX12_keep 24 = .ok (.iconst 1, 1) := by decide +kernel
theorem dX12_keep_25 : decode cX12_keep 25 = .ok (.bastore, 1) := by decide +kernel
theorem dX12_keep_26 : decode cX12_keep 26 = .ok (.aload_n 0, 1) := by decide +kernel
theorem dX12_keep_27 : decode cX12_keep 27 = .ok (.getfield 127, 3) := by decide +kernel
theorem dX12_keep_30 : decode cX12_keep 30 = .ok (.iload_n 1, 1) := by decide +kernel
theorem dX12_keep_31 : decode cX12_keep 31 = .ok (.aload_n 0, 1) := by decide +kernel
theorem dX12_keep_32 : decode cX12_keep 32 = .ok (.getfield 244, 3) := by decide +kernel
theorem dX12_keep_35 : decode cX12_keep 35 = .ok (.iastore, 1) := by decide +kernel
theorem dX12_keep_36 : decode cX12_keep 36 = .ok (.iconst 0, 1) := by decide +kernel
theorem dX12_keep_37 : decode cX12_keep 37 = .ok (.istore_n 2, 1) := by decide +kernel
theorem dX12_keep_38 : decode cX12_keep 38 = .ok (.iload_n 2, 1) := by decide +kernel
theorem dX12_keep_39 : decode cX12_keep 39 = .ok (.bipush 46, 2) := by decide +kernel
theorem dX12_keep_41 : decode cX12_keep 41 = .ok (.if_icmp .ge 26, 3) := by decide +kernel
theorem dX12_keep_44 : decode cX12_keep 44 = .ok (.aload_n 0, 1) := by decide +kernel
theorem dX12_keep_45 : decode cX12_keep 45 = .ok (.getfield 130, 3) := by decide +kernel
theorem dX12_keep_48 : decode cX12_keep 48 = .ok (.bipush 46, 2) := by decide +kernel
theorem dX12_keep_50 : decode cX12_keep 50 = .ok (.iload_n 1, 1) := by decide +kernel
theorem dX12_keep_51 : decode cX12_keep 51 = .ok (.imul, 1) := by decide +kernel
theorem dX12_keep_52 : decode cX12_keep 52 = .ok (.iload_n 2, 1) := by decide +kernel
theorem dX12_keep_53 : decode cX12_keep 53 = .ok (.iadd, 1) := by decide +kernel
theorem dX12_keep_54 : decode cX12_keep 54 = .ok (.aload_n 0, 1) := by decide +kernel
theorem dX12_keep_55 : decode cX12_keep 55 = .ok (.getfield 43, 3) := by decide +kernel
theorem dX12_keep_58 : decode cX12_keep 58 = .ok (.iload_n 2, 1) := by decide +kernel
theorem dX12_keep_59 : decode cX12_keep 59 = .ok (.iaload, 1) := by decide +kernel
theorem dX12_keep_60 : decode cX12_keep 60 = .ok (.iastore, 1) := by decide +kernel
theorem dX12_keep_61 : decode cX12_keep 61 = .ok (.iinc 2 1, 3) := by decide +kernel
theorem dX12_keep_64 : decode cX12_keep 64 = .ok (.goto (-26), 3) := by decide +kernel
theorem dX12_keep_67 : decode cX12_keep 67 = .ok (.iconst 1, 1) := by decide +kernel
theorem dX12_keep_68 : decode cX12_keep 68 = .ok (.ireturn, 1) := by decide +kernel
theorem dX12_again_0 : decode cX12_again 0 = .ok (.aload_n 0, 1) := by decide +kernel
theorem dX12_again_1 : decode cX12_again 1 = .ok (.iconst 0, 1) := by decide +kernel
theorem dX12_again_2 : decode cX12_again 2 = .ok (.putfield 133, 3) := by decide +kernel
theorem dX12_again_5 : decode cX12_again 5 = .ok (.iload_n 1, 1) := by decide +kernel
theorem dX12_again_6 : decode cX12_again 6 = .ok (.i2l, 1) := by decide +kernel
theorem dX12_again_7 : decode cX12_again 7 = .ok (.lconst 0, 1) := by decide +kernel
theorem dX12_again_8 : decode cX12_again 8 = .ok (.ldc2_w 436, 3) := by decide +kernel
theorem dX12_again_11 : decode cX12_again 11 = .ok (.invokestatic 146, 3) := by decide +kernel
theorem dX12_again_14 : decode cX12_again 14 = .ok (.ifCond .eq 25, 3) := by decide +kernel
theorem dX12_again_17 : decode cX12_again 17 = .ok (.aload_n 0, 1) := by decide +kernel
theorem dX12_again_18 : decode cX12_again 18 = .ok (.getfield 124, 3) := by decide +kernel
theorem dX12_again_21 : decode cX12_again 21 = .ok (.iload_n 1, 1) := by decide +kernel
theorem dX12_again_22 : decode cX12_again 22 = .ok (.baload, 1) := by decide +kernel
theorem dX12_again_23 : decode cX12_again 23 = .ok (.ifCond .eq 16, 3) := by decide +kernel
theorem dX12_again_26 : decode cX12_again 26 = .ok (.aload_n 0, 1) := by decide +kernel
theorem dX12_again_27 : decode cX12_again 27 = .ok (.getfield 127, 3) := by decide +kernel
theorem dX12_again_30 : decode cX12_again 30 = .ok (.iload_n 1, 1) := by decide +kernel
theorem dX12_again_31 : decode cX12_again 31 = .ok (.iaload, 1) := by decide +kernel
theorem dX12_again_32 : decode cX12_again 32 = .ok (.aload_n 0, 1) := by decide +kernel
theorem dX12_again_33 : decode cX12_again 33 = .ok (.getfield 244, 3) := by decide +kernel
theorem dX12_again_36 : decode cX12_again 36 = .ok (.if_icmp .eq 5, 3) := by decide +kernel
theorem dX12_again_39 : decode cX12_again 39 = .ok (.iconst 0, 1) := by decide +kernel
theorem dX12_again_40 : decode cX12_again 40 = .ok (.ireturn, 1) := by decide +kernel
theorem dX12_again_41 : decode cX12_again 41 = .ok (.iconst 0, 1) := by decide +kernel
theorem dX12_again_42 : decode cX12_again 42 = .ok (.istore_n 2, 1) := by decide +kernel
theorem dX12_again_43 : decode cX12_again 43 = .ok (.iload_n 2, 1) := by decide +kernel
theorem dX12_again_44 : decode cX12_again 44 = .ok (.bipush 46, 2) := by decide +kernel
theorem dX12_again_46 : decode cX12_again 46 = .ok (.if_icmp .ge 26, 3) := by decide +kernel
theorem dX12_again_49 : decode cX12_again 49 = .ok (.aload_n 0, 1) := by decide +kernel
theorem dX12_again_50 : decode cX12_again 50 = .ok (.getfield 43, 3) := by decide +kernel
theorem dX12_again_53 : decode cX12_again 53 = .ok (.iload_n 2, 1) := by decide +kernel
theorem dX12_again_54 : decode cX12_again 54 = .ok (.aload_n 0, 1) := by decide +kernel
theorem dX12_again_55 : decode cX12_again 55 = .ok (.getfield 130, 3) := by decide +kernel
theorem dX12_again_58 : decode cX12_again 58 = .ok (.bipush 46, 2) := by decide +kernel
theorem dX12_again_60 : decode cX12_again 60 = .ok (.iload_n 1, 1) := by decide +kernel
theorem dX12_again_61 : decode cX12_again 61 = .ok (.imul, 1) := by decide +kernel
theorem dX12_again_62 : decode cX12_again 62 = .ok (.iload_n 2, 1) := by decide +kernel
theorem dX12_again_63 : decode cX12_again 63 = .ok (.iadd, 1) := by decide +kernel
theorem dX12_again_64 : decode cX12_again 64 = .ok (.iaload, 1) := by decide +kernel
theorem dX12_again_65 : decode cX12_again 65 = .ok (.iastore, 1) := by decide +kernel
theorem dX12_again_66 : decode cX12_again 66 = .ok (.iinc 2 1, 3) := by decide +kernel
theorem dX12_again_69 : decode cX12_again 69 = .ok (.goto (-26), 3) := by decide +kernel
theorem dX12_again_72 : decode cX12_again 72 = .ok (.aload_n 0, 1) := by decide +kernel
theorem dX12_again_73 : decode cX12_again 73 = .ok (.iconst 0, 1) := by decide +kernel
theorem dX12_again_74 : decode cX12_again 74 = .ok (.putfield 241, 3) := by decide +kernel
theorem dX12_again_77 : decode cX12_again 77 = .ok (.iconst 1, 1) := by decide +kernel
theorem dX12_again_78 : decode cX12_again 78 = .ok (.ireturn, 1) := by decide +kernel
theorem dX12_shyOnes_0 : decode cX12_shyOnes 0 = .ok (.iconst 0, 1) := by decide +kernel
theorem dX12_shyOnes_1 : decode cX12_shyOnes 1 = .ok (.istore_n 1, 1) := by decide +kernel
theorem dX12_shyOnes_2 : decode cX12_shyOnes 2 = .ok (.iconst 0, 1) := by decide +kernel
theorem dX12_shyOnes_3 : decode cX12_shyOnes 3 = .ok (.istore_n 2, 1) := by decide +kernel
theorem dX12_shyOnes_4 : decode cX12_shyOnes 4 = .ok (.iload_n 2, 1) := by decide +kernel
theorem dX12_shyOnes_5 : decode cX12_shyOnes 5 = .ok (.aload_n 0, 1) := by decide +kernel
theorem dX12_shyOnes_6 : decode cX12_shyOnes 6 = .ok (.getfield 143, 3) := by decide +kernel
theorem dX12_shyOnes_9 : decode cX12_shyOnes 9 = .ok (.if_icmp .ge 28, 3) := by decide +kernel
theorem dX12_shyOnes_12 : decode cX12_shyOnes 12 = .ok (.iload_n 1, 1) := by decide +kernel
theorem dX12_shyOnes_13 : decode cX12_shyOnes 13 = .ok (.aload_n 0, 1) := by decide +kernel
theorem dX12_shyOnes_14 : decode cX12_shyOnes 14 = .ok (.getfield 17, 3) := by decide +kernel
theorem dX12_shyOnes_17 : decode cX12_shyOnes 17 = .ok (.iload_n 2, 1) := by decide +kernel
theorem dX12_shyOnes_18 : decode cX12_shyOnes 18 = .ok (.baload, 1) := by decide +kernel
theorem dX12_shyOnes_19 : decode cX12_shyOnes 19 = .ok (.ifCond .eq 9, 3) := by decide +kernel
theorem dX12_shyOnes_22 : decode cX12_shyOnes 22 = .ok (.iconst 1, 1) := by decide +kernel
theorem dX12_shyOnes_23 : decode cX12_shyOnes 23 = .ok (.iload_n 2, 1) := by decide +kernel
theorem dX12_shyOnes_24 : decode cX12_shyOnes 24 = .ok (.ishl, 1) := by decide +kernel
theorem dX12_shyOnes_25 : decode cX12_shyOnes 25 = .ok (.goto 4, 3) := by decide +kernel
theorem dX12_shyOnes_28 : decode cX12_shyOnes 28 = .ok (.iconst 0, 1) := by decide +kernel
theorem dX12_shyOnes_29 : decode cX12_shyOnes 29 = .ok (.ior, 1) := by decide +kernel
theorem dX12_shyOnes_30 : decode cX12_shyOnes 30 = .ok (.istore_n 1, 1) := by decide +kernel
theorem dX12_shyOnes_31 : decode cX12_shyOnes 31 = .ok (.iinc 2 1, 3) := by decide +kernel
theorem dX12_shyOnes_34 : decode cX12_shyOnes 34 = .ok (.goto (-30), 3) := by decide +kernel
theorem dX12_shyOnes_37 : decode cX12_shyOnes 37 = .ok (.iload_n 1, 1) := by decide +kernel
theorem dX12_shyOnes_38 : decode cX12_shyOnes 38 = .ok (.ireturn, 1) := by decide +kernel
theorem dX12_count_0 : decode cX12_count 0 = .ok (.aload_n 0, 1) := by decide +kernel
theorem dX12_count_1 : decode cX12_count 1 = .ok (.iconst 0, 1) := by decide +kernel
theorem dX12_count_2 : decode cX12_count 2 = .ok (.putfield 133, 3) := by decide +kernel
theorem dX12_count_5 : decode cX12_count 5 = .ok (.iload_n 1, 1) := by decide +kernel
theorem dX12_count_6 : decode cX12_count 6 = .ok (.tableswitch 98 0 8 #[50, 55, 60, 65, 73, 78, 83, 88, 93], 50) := by decide +kernel
theorem dX12_count_56 : decode cX12_count 56 = .ok (.aload_n 0, 1) := by decide +kernel
theorem dX12_count_57 : decode cX12_count 57 = .ok (.getfield 143, 3) := by decide +kernel
theorem dX12_count_60 : decode cX12_count 60 = .ok (.ireturn, 1) := by decide +kernel
theorem dX12_count_61 : decode cX12_count 61 = .ok (.aload_n 0, 1) := by decide +kernel
theorem dX12_count_62 : decode cX12_count 62 = .ok (.getfield 150, 3) := by decide +kernel
theorem dX12_count_65 : decode cX12_count 65 = .ok (.ireturn, 1) := by decide +kernel
theorem dX12_count_66 : decode cX12_count 66 = .ok (.aload_n 0, 1) := by decide +kernel
theorem dX12_count_67 : decode cX12_count 67 = .ok (.getfield 13, 3) := by decide +kernel
theorem dX12_count_70 : decode cX12_count 70 = .ok (.ireturn, 1) := by decide +kernel
theorem dX12_count_71 : decode cX12_count 71 = .ok (.aload_n 0, 1) := by decide +kernel
theorem dX12_count_72 : decode cX12_count 72 = .ok (.getfield 43, 3) := by decide +kernel
theorem dX12_count_75 : decode cX12_count 75 = .ok (.bipush 45, 2) := by decide +kernel
theorem dX12_count_77 : decode cX12_count 77 = .ok (.iaload, 1) := by decide +kernel
theorem dX12_count_78 : decode cX12_count 78 = .ok (.ireturn, 1) := by decide +kernel
theorem dX12_count_79 : decode cX12_count 79 = .ok (.aload_n 0, 1) := by decide +kernel
theorem dX12_count_80 : decode cX12_count 80 = .ok (.invokevirtual 506, 3) := by decide +kernel
theorem dX12_count_83 : decode cX12_count 83 = .ok (.ireturn, 1) := by decide +kernel
theorem dX12_count_84 : decode cX12_count 84 = .ok (.aload_n 0, 1) := by decide +kernel
theorem dX12_count_85 : decode cX12_count 85 = .ok (.getfield 241, 3) := by decide +kernel
theorem dX12_count_88 : decode cX12_count 88 = .ok (.ireturn, 1) := by decide +kernel
theorem dX12_count_89 : decode cX12_count 89 = .ok (.aload_n 0, 1) := by decide +kernel
theorem dX12_count_90 : decode cX12_count 90 = .ok (.getfield 494, 3) := by decide +kernel
theorem dX12_count_93 : decode cX12_count 93 = .ok (.ireturn, 1) := by decide +kernel
theorem dX12_count_94 : decode cX12_count 94 = .ok (.aload_n 0, 1) := by decide +kernel
theorem dX12_count_95 : decode cX12_count 95 = .ok (.getfield 140, 3) := by decide +kernel
theorem dX12_count_98 : decode cX12_count 98 = .ok (.ireturn, 1) := by decide +kernel
theorem dX12_count_99 : decode cX12_count 99 = .ok (.aload_n 0, 1) := by decide +kernel
theorem dX12_count_100 : decode cX12_count 100 = .ok (.getfield 153, 3) := by decide +kernel
theorem dX12_count_103 : decode cX12_count 103 = .ok (.ireturn, 1) := by decide +kernel
theorem dX12_count_104 : decode cX12_count 104 = .ok (.bipush (-100), 2) := by decide +kernel
theorem dX12_count_106 : decode cX12_count 106 = .ok (.ireturn, 1) := by decide +kernel
theorem dX12_row_0 : decode cX12_row 0 = .ok (.aload_n 0, 1) := by decide +kernel
theorem dX12_row_1 : decode cX12_row 1 = .ok (.iconst 0, 1) := by decide +kernel
theorem dX12_row_2 : decode cX12_row 2 = .ok (.putfield 133, 3) := by decide +kernel
theorem dX12_row_5 : decode cX12_row 5 = .ok (.iload_n 1, 1) := by decide +kernel
theorem dX12_row_6 : decode cX12_row 6 = .ok (.i2l, 1) := by decide +kernel
theorem dX12_row_7 : decode cX12_row 7 = .ok (.lconst 0, 1) := by decide +kernel
theorem dX12_row_8 : decode cX12_row 8 = .ok (.aload_n 0, 1) := by decide +kernel
theorem dX12_row_9 : decode cX12_row 9 = .ok (.getfield 140, 3) := by decide +kernel
theorem dX12_row_12 : decode cX12_row 12 = .ok (.iconst 1, 1) := by decide +kernel
theorem dX12_row_13 : decode cX12_row 13 = .ok (.isub, 1) := by decide +kernel
theorem dX12_row_14 : decode cX12_row 14 = .ok (.i2l, 1) := by decide +kernel
theorem dX12_row_15 : decode cX12_row 15 = .ok (.invokestatic 146, 3) := by decide +kernel
theorem dX12_row_18 : decode cX12_row 18 = .ok (.ifCond .ne 10, 3) := by decide +kernel
theorem dX12_row_21 : decode cX12_row 21 = .ok (.aload_n 0, 1) := by decide +kernel
theorem dX12_row_22 : decode cX12_row 22 = .ok (.iconst 1, 1) := by decide +kernel
theorem dX12_row_23 : decode cX12_row 23 = .ok (.putfield 133, 3) := by decide +kernel
theorem dX12_row_26 : decode cX12_row 26 = .ok (.lconst 0, 1) := by decide +kernel
theorem dX12_row_27 : decode cX12_row 27 = .ok (.lreturn, 1) := by decide +kernel
theorem dX12_row_28 : decode cX12_row 28 = .ok (.aload_n 0, 1) := by decide +kernel
theorem dX12_row_29 : decode cX12_row 29 = .ok (.getfield 9, 3) := by decide +kernel
theorem dX12_row_32 : decode cX12_row 32 = .ok (.iload_n 1, 1) := by decide +kernel
theorem dX12_row_33 : decode cX12_row 33 = .ok (.laload, 1) := by decide +kernel
theorem dX12_row_34 : decode cX12_row 34 = .ok (.lreturn, 1) := by decide +kernel
theorem dJ11_isValidCodePoint_9a6ad_0 : decode cJ11_isValidCodePoint_9a6ad 0 = .ok (.iload_n 0, 1) := by decide +kernel
theorem dJ11_isValidCodePoint_9a6ad_1 : decode cJ11_isValidCodePoint_9a6ad 1 = .ok (.bipush 16, 2) := by decide +kernel
theorem dJ11_isValidCodePoint_9a6ad_3 : decode cJ11_isValidCodePoint_9a6ad 3 = .ok (.iushr, 1) := by decide +kernel
theorem dJ11_isValidCodePoint_9a6ad_4 : decode cJ11_isValidCodePoint_9a6ad 4 = .ok (.istore_n 1, 1) := by decide +kernel
theorem dJ11_isValidCodePoint_9a6ad_5 : decode cJ11_isValidCodePoint_9a6ad 5 = .ok (.iload_n 1, 1) := by decide +kernel
theorem dJ11_isValidCodePoint_9a6ad_6 : decode cJ11_isValidCodePoint_9a6ad 6 = .ok (.bipush 17, 2) := by decide +kernel
theorem dJ11_isValidCodePoint_9a6ad_8 : decode cJ11_isValidCodePoint_9a6ad 8 = .ok (.if_icmp .ge 7, 3) := by decide +kernel
theorem dJ11_isValidCodePoint_9a6ad_11 : decode cJ11_isValidCodePoint_9a6ad 11 = .ok (.iconst 1, 1) := by decide +kernel
theorem dJ11_isValidCodePoint_9a6ad_12 : decode cJ11_isValidCodePoint_9a6ad 12 = .ok (.goto 4, 3) := by decide +kernel
theorem dJ11_isValidCodePoint_9a6ad_15 : decode cJ11_isValidCodePoint_9a6ad 15 = .ok (.iconst 0, 1) := by decide +kernel
theorem dJ11_isValidCodePoint_9a6ad_16 : decode cJ11_isValidCodePoint_9a6ad 16 = .ok (.ireturn, 1) := by decide +kernel
theorem dJ11_highSurrogate_5068e_0 : decode cJ11_highSurrogate_5068e 0 = .ok (.iload_n 0, 1) := by decide +kernel
theorem dJ11_highSurrogate_5068e_1 : decode cJ11_highSurrogate_5068e 1 = .ok (.bipush 10, 2) := by decide +kernel
theorem dJ11_highSurrogate_5068e_3 : decode cJ11_highSurrogate_5068e 3 = .ok (.iushr, 1) := by decide +kernel
theorem dJ11_highSurrogate_5068e_4 : decode cJ11_highSurrogate_5068e 4 = .ok (.ldc 110, 2) := by decide +kernel
theorem dJ11_highSurrogate_5068e_6 : decode cJ11_highSurrogate_5068e 6 = .ok (.iadd, 1) := by decide +kernel
theorem dJ11_highSurrogate_5068e_7 : decode cJ11_highSurrogate_5068e 7 = .ok (.i2c, 1) := by decide +kernel
theorem dJ11_highSurrogate_5068e_8 : decode cJ11_highSurrogate_5068e 8 = .ok (.ireturn, 1) := by decide +kernel
theorem dJ11_lowSurrogate_5068e_0 : decode cJ11_lowSurrogate_5068e 0 = .ok (.iload_n 0, 1) := by decide +kernel
theorem dJ11_lowSurrogate_5068e_1 : decode cJ11_lowSurrogate_5068e 1 = .ok (.sipush 1023, 3) := by decide +kernel
theorem dJ11_lowSurrogate_5068e_4 : decode cJ11_lowSurrogate_5068e 4 = .ok (.iand, 1) := by decide +kernel
theorem dJ11_lowSurrogate_5068e_5 : decode cJ11_lowSurrogate_5068e 5 = .ok (.ldc 76, 2) := by decide +kernel
theorem dJ11_lowSurrogate_5068e_7 : decode cJ11_lowSurrogate_5068e 7 = .ok (.iadd, 1) := by decide +kernel
theorem dJ11_lowSurrogate_5068e_8 : decode cJ11_lowSurrogate_5068e 8 = .ok (.i2c, 1) := by decide +kernel
theorem dJ11_lowSurrogate_5068e_9 : decode cJ11_lowSurrogate_5068e 9 = .ok (.ireturn, 1) := by decide +kernel
theorem dJ6_numberOfTrailingZeros_0f7a4_0 : decode cJ6_numberOfTrailingZeros_0f7a4 0 = .ok (.iload_n 0, 1) := by decide +kernel
theorem dJ6_numberOfTrailingZeros_0f7a4_1 : decode cJ6_numberOfTrailingZeros_0f7a4 1 = .ok (.iconst (-1), 1) := by decide +kernel
theorem dJ6_numberOfTrailingZeros_0f7a4_2 : decode cJ6_numberOfTrailingZeros_0f7a4 2 = .ok (.ixor, 1) := by decide +kernel
theorem dJ6_numberOfTrailingZeros_0f7a4_3 : decode cJ6_numberOfTrailingZeros_0f7a4 3 = .ok (.iload_n 0, 1) := by decide +kernel
theorem dJ6_numberOfTrailingZeros_0f7a4_4 : decode cJ6_numberOfTrailingZeros_0f7a4 4 = .ok (.iconst 1, 1) := by decide +kernel
theorem dJ6_numberOfTrailingZeros_0f7a4_5 : decode cJ6_numberOfTrailingZeros_0f7a4 5 = .ok (.isub, 1) := by decide +kernel
theorem dJ6_numberOfTrailingZeros_0f7a4_6 : decode cJ6_numberOfTrailingZeros_0f7a4 6 = .ok (.iand, 1) := by decide +kernel
theorem dJ6_numberOfTrailingZeros_0f7a4_7 : decode cJ6_numberOfTrailingZeros_0f7a4 7 = .ok (.istore_n 0, 1) := by decide +kernel
theorem dJ6_numberOfTrailingZeros_0f7a4_8 : decode cJ6_numberOfTrailingZeros_0f7a4 8 = .ok (.iload_n 0, 1) := by decide +kernel
theorem dJ6_numberOfTrailingZeros_0f7a4_9 : decode cJ6_numberOfTrailingZeros_0f7a4 9 = .ok (.ifCond .gt 8, 3) := by decide +kernel
theorem dJ6_numberOfTrailingZeros_0f7a4_12 : decode cJ6_numberOfTrailingZeros_0f7a4 12 = .ok (.iload_n 0, 1) := by decide +kernel
theorem dJ6_numberOfTrailingZeros_0f7a4_13 : decode cJ6_numberOfTrailingZeros_0f7a4 13 = .ok (.bipush 32, 2) := by decide +kernel
theorem dJ6_numberOfTrailingZeros_0f7a4_15 : decode cJ6_numberOfTrailingZeros_0f7a4 15 = .ok (.iand, 1) := by decide +kernel
theorem dJ6_numberOfTrailingZeros_0f7a4_16 : decode cJ6_numberOfTrailingZeros_0f7a4 16 = .ok (.ireturn, 1) := by decide +kernel
theorem dJ6_numberOfTrailingZeros_0f7a4_17 : decode cJ6_numberOfTrailingZeros_0f7a4 17 = .ok (.iconst 1, 1) := by decide +kernel
theorem dJ6_numberOfTrailingZeros_0f7a4_18 : decode cJ6_numberOfTrailingZeros_0f7a4 18 = .ok (.istore_n 1, 1) := by decide +kernel
theorem dJ6_numberOfTrailingZeros_0f7a4_19 : decode cJ6_numberOfTrailingZeros_0f7a4 19 = .ok (.iload_n 0, 1) := by decide +kernel
theorem dJ6_numberOfTrailingZeros_0f7a4_20 : decode cJ6_numberOfTrailingZeros_0f7a4 20 = .ok (.ldc_w 264, 3) := by decide +kernel
theorem dJ6_numberOfTrailingZeros_0f7a4_23 : decode cJ6_numberOfTrailingZeros_0f7a4 23 = .ok (.if_icmp .le 11, 3) := by decide +kernel
theorem dJ6_numberOfTrailingZeros_0f7a4_26 : decode cJ6_numberOfTrailingZeros_0f7a4 26 = .ok (.iinc 1 16, 3) := by decide +kernel
theorem dJ6_numberOfTrailingZeros_0f7a4_29 : decode cJ6_numberOfTrailingZeros_0f7a4 29 = .ok (.iload_n 0, 1) := by decide +kernel
theorem dJ6_numberOfTrailingZeros_0f7a4_30 : decode cJ6_numberOfTrailingZeros_0f7a4 30 = .ok (.bipush 16, 2) := by decide +kernel
theorem dJ6_numberOfTrailingZeros_0f7a4_32 : decode cJ6_numberOfTrailingZeros_0f7a4 32 = .ok (.iushr, 1) := by decide +kernel
theorem dJ6_numberOfTrailingZeros_0f7a4_33 : decode cJ6_numberOfTrailingZeros_0f7a4 33 = .ok (.istore_n 0, 1) := by decide +kernel
theorem dJ6_numberOfTrailingZeros_0f7a4_34 : decode cJ6_numberOfTrailingZeros_0f7a4 34 = .ok (.iload_n 0, 1) := by decide +kernel
theorem dJ6_numberOfTrailingZeros_0f7a4_35 : decode cJ6_numberOfTrailingZeros_0f7a4 35 = .ok (.sipush 256, 3) := by decide +kernel
theorem dJ6_numberOfTrailingZeros_0f7a4_38 : decode cJ6_numberOfTrailingZeros_0f7a4 38 = .ok (.if_icmp .le 11, 3) := by decide +kernel
theorem dJ6_numberOfTrailingZeros_0f7a4_41 : decode cJ6_numberOfTrailingZeros_0f7a4 41 = .ok (.iinc 1 8, 3) := by decide +kernel
theorem dJ6_numberOfTrailingZeros_0f7a4_44 : decode cJ6_numberOfTrailingZeros_0f7a4 44 = .ok (.iload_n 0, 1) := by decide +kernel
theorem dJ6_numberOfTrailingZeros_0f7a4_45 : decode cJ6_numberOfTrailingZeros_0f7a4 45 = .ok (.bipush 8, 2) := by decide +kernel
theorem dJ6_numberOfTrailingZeros_0f7a4_47 : decode cJ6_numberOfTrailingZeros_0f7a4 47 = .ok (.iushr, 1) := by decide +kernel
theorem dJ6_numberOfTrailingZeros_0f7a4_48 : decode cJ6_numberOfTrailingZeros_0f7a4 48 = .ok (.istore_n 0, 1) := by decide +kernel
theorem dJ6_numberOfTrailingZeros_0f7a4_49 : decode cJ6_numberOfTrailingZeros_0f7a4 49 = .ok (.iload_n 0, 1) := by decide +kernel
theorem dJ6_numberOfTrailingZeros_0f7a4_50 : decode cJ6_numberOfTrailingZeros_0f7a4 50 = .ok (.bipush 16, 2) := by decide +kernel
theorem dJ6_numberOfTrailingZeros_0f7a4_52 : decode cJ6_numberOfTrailingZeros_0f7a4 52 = .ok (.if_icmp .le 10, 3) := by decide +kernel
theorem dJ6_numberOfTrailingZeros_0f7a4_55 : decode cJ6_numberOfTrailingZeros_0f7a4 55 = .ok (.iinc 1 4, 3) := by decide +kernel
theorem dJ6_numberOfTrailingZeros_0f7a4_58 : decode cJ6_numberOfTrailingZeros_0f7a4 58 = .ok (.iload_n 0, 1) := by decide +kernel
theorem dJ6_numberOfTrailingZeros_0f7a4_59 : decode cJ6_numberOfTrailingZeros_0f7a4 59 = .ok (.iconst 4, 1) := by decide +kernel
theorem dJ6_numberOfTrailingZeros_0f7a4_60 : decode cJ6_numberOfTrailingZeros_0f7a4 60 = .ok (.iushr, 1) := by decide +kernel
theorem dJ6_numberOfTrailingZeros_0f7a4_61 : decode cJ6_numberOfTrailingZeros_0f7a4 61 = .ok (.istore_n 0, 1) := by decide +kernel
theorem dJ6_numberOfTrailingZeros_0f7a4_62 : decode cJ6_numberOfTrailingZeros_0f7a4 62 = .ok (.iload_n 0, 1) := by decide +kernel
theorem dJ6_numberOfTrailingZeros_0f7a4_63 : decode cJ6_numberOfTrailingZeros_0f7a4 63 = .ok (.iconst 4, 1) := by decide +kernel
theorem dJ6_numberOfTrailingZeros_0f7a4_64 : decode cJ6_numberOfTrailingZeros_0f7a4 64 = .ok (.if_icmp .le 10, 3) := by decide +kernel
theorem dJ6_numberOfTrailingZeros_0f7a4_67 : decode cJ6_numberOfTrailingZeros_0f7a4 67 = .ok (.iinc 1 2, 3) := by decide +kernel
theorem dJ6_numberOfTrailingZeros_0f7a4_70 : decode cJ6_numberOfTrailingZeros_0f7a4 70 = .ok (.iload_n 0, 1) := by decide +kernel
theorem dJ6_numberOfTrailingZeros_0f7a4_71 : decode cJ6_numberOfTrailingZeros_0f7a4 71 = .ok (.iconst 2, 1) := by decide +kernel
theorem dJ6_numberOfTrailingZeros_0f7a4_72 : decode cJ6_numberOfTrailingZeros_0f7a4 72 = .ok (.iushr, 1) := by decide +kernel
theorem dJ6_numberOfTrailingZeros_0f7a4_73 : decode cJ6_numberOfTrailingZeros_0f7a4 73 = .ok (.istore_n 0, 1) := by decide +kernel
theorem dJ6_numberOfTrailingZeros_0f7a4_74 : decode cJ6_numberOfTrailingZeros_0f7a4 74 = .ok (.iload_n 1, 1) := by decide +kernel
theorem dJ6_numberOfTrailingZeros_0f7a4_75 : decode cJ6_numberOfTrailingZeros_0f7a4 75 = .ok (.iload_n 0, 1) := by decide +kernel
theorem dJ6_numberOfTrailingZeros_0f7a4_76 : decode cJ6_numberOfTrailingZeros_0f7a4 76 = .ok (.iconst 1, 1) := by decide +kernel
theorem dJ6_numberOfTrailingZeros_0f7a4_77 : decode cJ6_numberOfTrailingZeros_0f7a4 77 = .ok (.iushr, 1) := by decide +kernel
theorem dJ6_numberOfTrailingZeros_0f7a4_78 : decode cJ6_numberOfTrailingZeros_0f7a4 78 = .ok (.iadd, 1) := by decide +kernel
theorem dJ6_numberOfTrailingZeros_0f7a4_79 : decode cJ6_numberOfTrailingZeros_0f7a4 79 = .ok (.ireturn, 1) := by decide +kernel
theorem dJ6_bitCount_0f7a4_0 : decode cJ6_bitCount_0f7a4 0 = .ok (.iload_n 0, 1) := by decide +kernel
theorem dJ6_bitCount_0f7a4_1 : decode cJ6_bitCount_0f7a4 1 = .ok (.iload_n 0, 1) := by decide +kernel
theorem dJ6_bitCount_0f7a4_2 : decode cJ6_bitCount_0f7a4 2 = .ok (.iconst 1, 1) := by decide +kernel
theorem dJ6_bitCount_0f7a4_3 : decode cJ6_bitCount_0f7a4 3 = .ok (.iushr, 1) := by decide +kernel
theorem dJ6_bitCount_0f7a4_4 : decode cJ6_bitCount_0f7a4 4 = .ok (.ldc_w 265, 3) := by decide +kernel
theorem dJ6_bitCount_0f7a4_7 : decode cJ6_bitCount_0f7a4 7 = .ok (.iand, 1) := by decide +kernel
theorem dJ6_bitCount_0f7a4_8 : decode cJ6_bitCount_0f7a4 8 = .ok (.isub, 1) := by decide +kernel
theorem dJ6_bitCount_0f7a4_9 : decode cJ6_bitCount_0f7a4 9 = .ok (.istore_n 0, 1) := by decide +kernel
theorem dJ6_bitCount_0f7a4_10 : decode cJ6_bitCount_0f7a4 10 = .ok (.iload_n 0, 1) := by decide +kernel
theorem dJ6_bitCount_0f7a4_11 : decode cJ6_bitCount_0f7a4 11 = .ok (.ldc_w 266, 3) := by decide +kernel
theorem dJ6_bitCount_0f7a4_14 : decode cJ6_bitCount_0f7a4 14 = .ok (.iand, 1) := by decide +kernel
theorem dJ6_bitCount_0f7a4_15 : decode cJ6_bitCount_0f7a4 15 = .ok (.iload_n 0, 1) := by decide +kernel
theorem dJ6_bitCount_0f7a4_16 : decode cJ6_bitCount_0f7a4 16 = .ok (.iconst 2, 1) := by decide +kernel
theorem dJ6_bitCount_0f7a4_17 : decode cJ6_bitCount_0f7a4 17 = .ok (.iushr, 1) := by decide +kernel
theorem dJ6_bitCount_0f7a4_18 : decode cJ6_bitCount_0f7a4 18 = .ok (.ldc_w 266, 3) := by decide +kernel
theorem dJ6_bitCount_0f7a4_21 : decode cJ6_bitCount_0f7a4 21 = .ok (.iand, 1) := by decide +kernel
theorem dJ6_bitCount_0f7a4_22 : decode cJ6_bitCount_0f7a4 22 = .ok (.iadd, 1) := by decide +kernel
theorem dJ6_bitCount_0f7a4_23 : decode cJ6_bitCount_0f7a4 23 = .ok (.istore_n 0, 1) := by decide +kernel
theorem dJ6_bitCount_0f7a4_24 : decode cJ6_bitCount_0f7a4 24 = .ok (.iload_n 0, 1) := by decide +kernel
theorem dJ6_bitCount_0f7a4_25 : decode cJ6_bitCount_0f7a4 25 = .ok (.iload_n 0, 1) := by decide +kernel
theorem dJ6_bitCount_0f7a4_26 : decode cJ6_bitCount_0f7a4 26 = .ok (.iconst 4, 1) := by decide +kernel
theorem dJ6_bitCount_0f7a4_27 : decode cJ6_bitCount_0f7a4 27 = .ok (.iushr, 1) := by decide +kernel
theorem dJ6_bitCount_0f7a4_28 : decode cJ6_bitCount_0f7a4 28 = .ok (.iadd, 1) := by decide +kernel
theorem dJ6_bitCount_0f7a4_29 : decode cJ6_bitCount_0f7a4 29 = .ok (.ldc_w 267, 3) := by decide +kernel
theorem dJ6_bitCount_0f7a4_32 : decode cJ6_bitCount_0f7a4 32 = .ok (.iand, 1) := by decide +kernel
theorem dJ6_bitCount_0f7a4_33 : decode cJ6_bitCount_0f7a4 33 = .ok (.istore_n 0, 1) := by decide +kernel
theorem dJ6_bitCount_0f7a4_34 : decode cJ6_bitCount_0f7a4 34 = .ok (.iload_n 0, 1) := by decide +kernel
theorem dJ6_bitCount_0f7a4_35 : decode cJ6_bitCount_0f7a4 35 = .ok (.iload_n 0, 1) := by decide +kernel
theorem dJ6_bitCount_0f7a4_36 : decode cJ6_bitCount_0f7a4 36 = .ok (.bipush 8, 2) := by decide +kernel
theorem dJ6_bitCount_0f7a4_38 : decode cJ6_bitCount_0f7a4 38 = .ok (.iushr, 1) := by decide +kernel
theorem dJ6_bitCount_0f7a4_39 : decode cJ6_bitCount_0f7a4 39 = .ok (.iadd, 1) := by decide +kernel
theorem dJ6_bitCount_0f7a4_40 : decode cJ6_bitCount_0f7a4 40 = .ok (.istore_n 0, 1) := by decide +kernel
theorem dJ6_bitCount_0f7a4_41 : decode cJ6_bitCount_0f7a4 41 = .ok (.iload_n 0, 1) := by decide +kernel
theorem dJ6_bitCount_0f7a4_42 : decode cJ6_bitCount_0f7a4 42 = .ok (.iload_n 0, 1) := by decide +kernel
theorem dJ6_bitCount_0f7a4_43 : decode cJ6_bitCount_0f7a4 43 = .ok (.bipush 16, 2) := by decide +kernel
theorem dJ6_bitCount_0f7a4_45 : decode cJ6_bitCount_0f7a4 45 = .ok (.iushr, 1) := by decide +kernel
theorem dJ6_bitCount_0f7a4_46 : decode cJ6_bitCount_0f7a4 46 = .ok (.iadd, 1) := by decide +kernel
theorem dJ6_bitCount_0f7a4_47 : decode cJ6_bitCount_0f7a4 47 = .ok (.istore_n 0, 1) := by decide +kernel
theorem dJ6_bitCount_0f7a4_48 : decode cJ6_bitCount_0f7a4 48 = .ok (.iload_n 0, 1) := by decide +kernel
theorem dJ6_bitCount_0f7a4_49 : decode cJ6_bitCount_0f7a4 49 = .ok (.bipush 63, 2) := by decide +kernel
theorem dJ6_bitCount_0f7a4_51 : decode cJ6_bitCount_0f7a4 51 = .ok (.iand, 1) := by decide +kernel
theorem dJ6_bitCount_0f7a4_52 : decode cJ6_bitCount_0f7a4 52 = .ok (.ireturn, 1) := by decide +kernel
theorem dJ9_abs_0f7a4_0 : decode cJ9_abs_0f7a4 0 = .ok (.iload_n 0, 1) := by decide +kernel
theorem dJ9_abs_0f7a4_1 : decode cJ9_abs_0f7a4 1 = .ok (.ifCond .ge 8, 3) := by decide +kernel
theorem dJ9_abs_0f7a4_4 : decode cJ9_abs_0f7a4 4 = .ok (.iload_n 0, 1) := by decide +kernel
theorem dJ9_abs_0f7a4_5 : decode cJ9_abs_0f7a4 5 = .ok (.ineg, 1) := by decide +kernel
theorem dJ9_abs_0f7a4_6 : decode cJ9_abs_0f7a4 6 = .ok (.goto 4, 3) := by decide +kernel
theorem dJ9_abs_0f7a4_9 : decode cJ9_abs_0f7a4 9 = .ok (.iload_n 0, 1) := by decide +kernel
theorem dJ9_abs_0f7a4_10 : decode cJ9_abs_0f7a4 10 = .ok (.ireturn, 1) := by decide +kernel
theorem dJ9_max_7cf53_0 : decode cJ9_max_7cf53 0 = .ok (.iload_n 0, 1) := by decide +kernel
theorem dJ9_max_7cf53_1 : decode cJ9_max_7cf53 1 = .ok (.iload_n 1, 1) := by decide +kernel
theorem dJ9_max_7cf53_2 : decode cJ9_max_7cf53 2 = .ok (.if_icmp .lt 7, 3) := by decide +kernel
theorem dJ9_max_7cf53_5 : decode cJ9_max_7cf53 5 = .ok (.iload_n 0, 1) := by decide +kernel
theorem dJ9_max_7cf53_6 : decode cJ9_max_7cf53 6 = .ok (.goto 4, 3) := by decide +kernel
theorem dJ9_max_7cf53_9 : decode cJ9_max_7cf53 9 = .ok (.iload_n 1, 1) := by decide +kernel
theorem dJ9_max_7cf53_10 : decode cJ9_max_7cf53 10 = .ok (.ireturn, 1) := by decide +kernel
theorem dJ9_min_7cf53_0 : decode cJ9_min_7cf53 0 = .ok (.iload_n 0, 1) := by decide +kernel
theorem dJ9_min_7cf53_1 : decode cJ9_min_7cf53 1 = .ok (.iload_n 1, 1) := by decide +kernel
theorem dJ9_min_7cf53_2 : decode cJ9_min_7cf53 2 = .ok (.if_icmp .gt 7, 3) := by decide +kernel
theorem dJ9_min_7cf53_5 : decode cJ9_min_7cf53 5 = .ok (.iload_n 0, 1) := by decide +kernel
theorem dJ9_min_7cf53_6 : decode cJ9_min_7cf53 6 = .ok (.goto 4, 3) := by decide +kernel
theorem dJ9_min_7cf53_9 : decode cJ9_min_7cf53 9 = .ok (.iload_n 1, 1) := by decide +kernel
theorem dJ9_min_7cf53_10 : decode cJ9_min_7cf53 10 = .ok (.ireturn, 1) := by decide +kernel
theorem dJ0_length_8abf5_0 : decode cJ0_length_8abf5 0 = .ok (.aload_n 0, 1) := by decide +kernel
theorem dJ0_length_8abf5_1 : decode cJ0_length_8abf5 1 = .ok (.getfield 9, 3) := by decide +kernel
theorem dJ0_length_8abf5_4 : decode cJ0_length_8abf5 4 = .ok (.arraylength, 1) := by decide +kernel
theorem dJ0_length_8abf5_5 : decode cJ0_length_8abf5 5 = .ok (.aload_n 0, 1) := by decide +kernel
theorem dJ0_length_8abf5_6 : decode cJ0_length_8abf5 6 = .ok (.invokevirtual 335, 3) := by decide +kernel
theorem dJ0_length_8abf5_9 : decode cJ0_length_8abf5 9 = .ok (.ishr, 1) := by decide +kernel
theorem dJ0_length_8abf5_10 : decode cJ0_length_8abf5 10 = .ok (.ireturn, 1) := by decide +kernel
theorem dJ0_charAt_5068e_0 : decode cJ0_charAt_5068e 0 = .ok (.aload_n 0, 1) := by decide +kernel
theorem dJ0_charAt_5068e_1 : decode cJ0_charAt_5068e 1 = .ok (.invokevirtual 492, 3) := by decide +kernel
theorem dJ0_charAt_5068e_4 : decode cJ0_charAt_5068e 4 = .ok (.ifCond .eq 12, 3) := by decide +kernel
theorem dJ0_charAt_5068e_7 : decode cJ0_charAt_5068e 7 = .ok (.aload_n 0, 1) := by decide +kernel
theorem dJ0_charAt_5068e_8 : decode cJ0_charAt_5068e 8 = .ok (.getfield 9, 3) := by decide +kernel
theorem dJ0_charAt_5068e_11 : decode cJ0_charAt_5068e 11 = .ok (.iload_n 1, 1) := by decide +kernel
theorem dJ0_charAt_5068e_12 : decode cJ0_charAt_5068e 12 = .ok (.invokestatic 495, 3) := by decide +kernel
theorem dJ0_charAt_5068e_15 : decode cJ0_charAt_5068e 15 = .ok (.ireturn, 1) := by decide +kernel
theorem dJ0_charAt_5068e_16 : decode cJ0_charAt_5068e 16 = .ok (.aload_n 0, 1) := by decide +kernel
theorem dJ0_charAt_5068e_17 : decode cJ0_charAt_5068e 17 = .ok (.getfield 9, 3) := by decide +kernel
theorem dJ0_charAt_5068e_20 : decode cJ0_charAt_5068e 20 = .ok (.iload_n 1, 1) := by decide +kernel
theorem dJ0_charAt_5068e_21 : decode cJ0_charAt_5068e 21 = .ok (.invokestatic 498, 3) := by decide +kernel
theorem dJ0_charAt_5068e_24 : decode cJ0_charAt_5068e 24 = .ok (.ireturn, 1) := by decide +kernel
theorem dJ0_indexOf_0f7a4_0 : decode cJ0_indexOf_0f7a4 0 = .ok (.aload_n 0, 1) := by decide +kernel
theorem dJ0_indexOf_0f7a4_1 : decode cJ0_indexOf_0f7a4 1 = .ok (.iload_n 1, 1) := by decide +kernel
theorem dJ0_indexOf_0f7a4_2 : decode cJ0_indexOf_0f7a4 2 = .ok (.iconst 0, 1) := by decide +kernel
theorem dJ0_indexOf_0f7a4_3 : decode cJ0_indexOf_0f7a4 3 = .ok (.invokevirtual 633, 3) := by decide +kernel
theorem dJ0_indexOf_0f7a4_6 : decode cJ0_indexOf_0f7a4 6 = .ok (.ireturn, 1) := by decide +kernel
theorem dJ0_indexOf_7cf53_0 : decode cJ0_indexOf_7cf53 0 = .ok (.aload_n 0, 1) := by decide +kernel
theorem dJ0_indexOf_7cf53_1 : decode cJ0_indexOf_7cf53 1 = .ok (.invokevirtual 492, 3) := by decide +kernel
theorem dJ0_indexOf_7cf53_4 : decode cJ0_indexOf_7cf53 4 = .ok (.ifCond .eq 19, 3) := by decide +kernel
theorem dJ0_indexOf_7cf53_7 : decode cJ0_indexOf_7cf53 7 = .ok (.aload_n 0, 1) := by decide +kernel
theorem dJ0_indexOf_7cf53_8 : decode cJ0_indexOf_7cf53 8 = .ok (.getfield 9, 3) := by decide +kernel
theorem dJ0_indexOf_7cf53_11 : decode cJ0_indexOf_7cf53 11 = .ok (.iload_n 1, 1) := by decide +kernel
theorem dJ0_indexOf_7cf53_12 : decode cJ0_indexOf_7cf53 12 = .ok (.iload_n 2, 1) := by decide +kernel
theorem dJ0_indexOf_7cf53_13 : decode cJ0_indexOf_7cf53 13 = .ok (.aload_n 0, 1) := by decide +kernel
theorem dJ0_indexOf_7cf53_14 : decode cJ0_indexOf_7cf53 14 = .ok (.invokevirtual 505, 3) := by decide +kernel
theorem dJ0_indexOf_7cf53_17 : decode cJ0_indexOf_7cf53 17 = .ok (.invokestatic 637, 3) := by decide +kernel
theorem dJ0_indexOf_7cf53_20 : decode cJ0_indexOf_7cf53 20 = .ok (.goto 16, 3) := by decide +kernel
theorem dJ0_indexOf_7cf53_23 : decode cJ0_indexOf_7cf53 23 = .ok (.aload_n 0, 1) := by decide +kernel
theorem dJ0_indexOf_7cf53_24 : decode cJ0_indexOf_7cf53 24 = .ok (.getfield 9, 3) := by decide +kernel
theorem dJ0_indexOf_7cf53_27 : decode cJ0_indexOf_7cf53 27 = .ok (.iload_n 1, 1) := by decide +kernel
theorem dJ0_indexOf_7cf53_28 : decode cJ0_indexOf_7cf53 28 = .ok (.iload_n 2, 1) := by decide +kernel
theorem dJ0_indexOf_7cf53_29 : decode cJ0_indexOf_7cf53 29 = .ok (.aload_n 0, 1) := by decide +kernel
theorem dJ0_indexOf_7cf53_30 : decode cJ0_indexOf_7cf53 30 = .ok (.invokevirtual 505, 3) := by decide +kernel
theorem dJ0_indexOf_7cf53_33 : decode cJ0_indexOf_7cf53 33 = .ok (.invokestatic 640, 3) := by decide +kernel
theorem dJ0_indexOf_7cf53_36 : decode cJ0_indexOf_7cf53 36 = .ok (.ireturn, 1) := by decide +kernel
theorem dJ0_coder_7d493_0 : decode cJ0_coder_7d493 0 = .ok (.getstatic 38, 3) := by decide +kernel
theorem dJ0_coder_7d493_3 : decode cJ0_coder_7d493 3 = .ok (.ifCond .eq 10, 3) := by decide +kernel
theorem dJ0_coder_7d493_6 : decode cJ0_coder_7d493 6 = .ok (.aload_n 0, 1) := by decide +kernel
theorem dJ0_coder_7d493_7 : decode cJ0_coder_7d493 7 = .ok (.getfield 15, 3) := by decide +kernel
theorem dJ0_coder_7d493_10 : decode cJ0_coder_7d493 10 = .ok (.goto 4, 3) := by decide +kernel
theorem dJ0_coder_7d493_13 : decode cJ0_coder_7d493 13 = .ok (.iconst 1, 1) := by decide +kernel
theorem dJ0_coder_7d493_14 : decode cJ0_coder_7d493 14 = .ok (.ireturn, 1) := by decide +kernel
theorem dJ0_isLatin1_aae02_0 : decode cJ0_isLatin1_aae02 0 = .ok (.getstatic 38, 3) := by decide +kernel
theorem dJ0_isLatin1_aae02_3 : decode cJ0_isLatin1_aae02 3 = .ok (.ifCond .eq 14, 3) := by decide +kernel
theorem dJ0_isLatin1_aae02_6 : decode cJ0_isLatin1_aae02 6 = .ok (.aload_n 0, 1) := by decide +kernel
theorem dJ0_isLatin1_aae02_7 : decode cJ0_isLatin1_aae02 7 = .ok (.getfield 15, 3) := by decide +kernel
theorem dJ0_isLatin1_aae02_10 : decode cJ0_isLatin1_aae02 10 = .ok (.ifCond .ne 7, 3) := by decide +kernel
theorem dJ0_isLatin1_aae02_13 : decode cJ0_isLatin1_aae02 13 = .ok (.iconst 1, 1) := by decide +kernel
theorem dJ0_isLatin1_aae02_14 : decode cJ0_isLatin1_aae02 14 = .ok (.goto 4, 3) := by decide +kernel
theorem dJ0_isLatin1_aae02_17 : decode cJ0_isLatin1_aae02 17 = .ok (.iconst 0, 1) := by decide +kernel
theorem dJ0_isLatin1_aae02_18 : decode cJ0_isLatin1_aae02 18 = .ok (.ireturn, 1) := by decide +kernel
theorem dJ0_checkIndex_df160_0 : decode cJ0_checkIndex_df160 0 = .ok (.iload_n 0, 1) := by decide +kernel
theorem dJ0_checkIndex_df160_1 : decode cJ0_checkIndex_df160 1 = .ok (.iload_n 1, 1) := by decide +kernel
theorem dJ0_checkIndex_df160_2 : decode cJ0_checkIndex_df160 2 = .ok (.getstatic 1053, 3) := by decide +kernel
theorem dJ0_checkIndex_df160_5 : decode cJ0_checkIndex_df160 5 = .ok (.invokestatic 1059, 3) := by decide +kernel
theorem dJ0_checkIndex_df160_8 : decode cJ0_checkIndex_df160 8 = .ok (.pop, 1) := by decide +kernel
theorem dJ0_checkIndex_df160_9 : decode cJ0_checkIndex_df160 9 = .ok (.return_, 1) := by decide +kernel
theorem dJ0_checkBoundsBeginEnd_23922_0 : decode cJ0_checkBoundsBeginEnd_23922 0 = .ok (.iload_n 0, 1) := by decide +kernel
theorem dJ0_checkBoundsBeginEnd_23922_1 : decode cJ0_checkBoundsBeginEnd_23922 1 = .ok (.iload_n 1, 1) := by decide +kernel
theorem dJ0_checkBoundsBeginEnd_23922_2 : decode cJ0_checkBoundsBeginEnd_23922 2 = .ok (.iload_n 2, 1) := by decide +kernel
theorem dJ0_checkBoundsBeginEnd_23922_3 : decode cJ0_checkBoundsBeginEnd_23922 3 = .ok (.getstatic 1053, 3) := by decide +kernel
theorem dJ0_checkBoundsBeginEnd_23922_6 : decode cJ0_checkBoundsBeginEnd_23922 6 = .ok (.invokestatic 1062, 3) := by decide +kernel
theorem dJ0_checkBoundsBeginEnd_23922_9 : decode cJ0_checkBoundsBeginEnd_23922 9 = .ok (.pop, 1) := by decide +kernel
theorem dJ0_checkBoundsBeginEnd_23922_10 : decode cJ0_checkBoundsBeginEnd_23922 10 = .ok (.return_, 1) := by decide +kernel
theorem dJ1_charAt_3b067_0 : decode cJ1_charAt_3b067 0 = .ok (.iload_n 1, 1) := by decide +kernel
theorem dJ1_charAt_3b067_1 : decode cJ1_charAt_3b067 1 = .ok (.aload_n 0, 1) := by decide +kernel
theorem dJ1_charAt_3b067_2 : decode cJ1_charAt_3b067 2 = .ok (.arraylength, 1) := by decide +kernel
theorem dJ1_charAt_3b067_3 : decode cJ1_charAt_3b067 3 = .ok (.invokestatic 9, 3) := by decide +kernel
theorem dJ1_charAt_3b067_6 : decode cJ1_charAt_3b067 6 = .ok (.aload_n 0, 1) := by decide +kernel
theorem dJ1_charAt_3b067_7 : decode cJ1_charAt_3b067 7 = .ok (.iload_n 1, 1) := by decide +kernel
theorem dJ1_charAt_3b067_8 : decode cJ1_charAt_3b067 8 = .ok (.baload, 1) := by decide +kernel
theorem dJ1_charAt_3b067_9 : decode cJ1_charAt_3b067 9 = .ok (.sipush 255, 3) := by decide +kernel
theorem dJ1_charAt_3b067_12 : decode cJ1_charAt_3b067 12 = .ok (.iand, 1) := by decide +kernel
theorem dJ1_charAt_3b067_13 : decode cJ1_charAt_3b067 13 = .ok (.i2c, 1) := by decide +kernel
theorem dJ1_charAt_3b067_14 : decode cJ1_charAt_3b067 14 = .ok (.ireturn, 1) := by decide +kernel
theorem dJ1_canEncode_9a6ad_0 : decode cJ1_canEncode_9a6ad 0 = .ok (.iload_n 0, 1) := by decide +kernel
theorem dJ1_canEncode_9a6ad_1 : decode cJ1_canEncode_9a6ad 1 = .ok (.ifCond .lt 14, 3) := by decide +kernel
theorem dJ1_canEncode_9a6ad_4 : decode cJ1_canEncode_9a6ad 4 = .ok (.iload_n 0, 1) := by decide +kernel
theorem dJ1_canEncode_9a6ad_5 : decode cJ1_canEncode_9a6ad 5 = .ok (.sipush 255, 3) := by decide +kernel
theorem dJ1_canEncode_9a6ad_8 : decode cJ1_canEncode_9a6ad 8 = .ok (.if_icmp .gt 7, 3) := by decide +kernel
theorem dJ1_canEncode_9a6ad_11 : decode cJ1_canEncode_9a6ad 11 = .ok (.iconst 1, 1) := by decide +kernel
theorem dJ1_canEncode_9a6ad_12 : decode cJ1_canEncode_9a6ad 12 = .ok (.goto 4, 3) := by decide +kernel
theorem dJ1_canEncode_9a6ad_15 : decode cJ1_canEncode_9a6ad 15 = .ok (.iconst 0, 1) := by decide +kernel
theorem dJ1_canEncode_9a6ad_16 : decode cJ1_canEncode_9a6ad 16 = .ok (.ireturn, 1) := by decide +kernel
theorem dJ1_indexOf_4cfef_0 : decode cJ1_indexOf_4cfef 0 = .ok (.iload_n 1, 1) := by decide +kernel
theorem dJ1_indexOf_4cfef_1 : decode cJ1_indexOf_4cfef 1 = .ok (.invokestatic 88, 3) := by decide +kernel
theorem dJ1_indexOf_4cfef_4 : decode cJ1_indexOf_4cfef 4 = .ok (.ifCond .ne 5, 3) := by decide +kernel
theorem dJ1_indexOf_4cfef_7 : decode cJ1_indexOf_4cfef 7 = .ok (.iconst (-1), 1) := by decide +kernel
theorem dJ1_indexOf_4cfef_8 : decode cJ1_indexOf_4cfef 8 = .ok (.ireturn, 1) := by decide +kernel
theorem dJ1_indexOf_4cfef_9 : decode cJ1_indexOf_4cfef 9 = .ok (.iload_n 2, 1) := by decide +kernel
theorem dJ1_indexOf_4cfef_10 : decode cJ1_indexOf_4cfef 10 = .ok (.iconst 0, 1) := by decide +kernel
theorem dJ1_indexOf_4cfef_11 : decode cJ1_indexOf_4cfef 11 = .ok (.invokestatic 92, 3) := by decide +kernel
theorem dJ1_indexOf_4cfef_14 : decode cJ1_indexOf_4cfef 14 = .ok (.istore_n 2, 1) := by decide +kernel
theorem dJ1_indexOf_4cfef_15 : decode cJ1_indexOf_4cfef 15 = .ok (.iload_n 3, 1) := by decide +kernel
theorem dJ1_indexOf_4cfef_16 : decode cJ1_indexOf_4cfef 16 = .ok (.aload_n 0, 1) := by decide +kernel
theorem dJ1_indexOf_4cfef_17 : decode cJ1_indexOf_4cfef 17 = .ok (.arraylength, 1) := by decide +kernel
theorem dJ1_indexOf_4cfef_18 : decode cJ1_indexOf_4cfef 18 = .ok (.invokestatic 38, 3) := by decide +kernel
theorem dJ1_indexOf_4cfef_21 : decode cJ1_indexOf_4cfef 21 = .ok (.istore_n 3, 1) := by decide +kernel
theorem dJ1_indexOf_4cfef_22 : decode cJ1_indexOf_4cfef 22 = .ok (.iload_n 2, 1) := by decide +kernel
theorem dJ1_indexOf_4cfef_23 : decode cJ1_indexOf_4cfef 23 = .ok (.iload_n 3, 1) := by decide +kernel
theorem dJ1_indexOf_4cfef_24 : decode cJ1_indexOf_4cfef 24 = .ok (.if_icmp .lt 5, 3) := by decide +kernel
theorem dJ1_indexOf_4cfef_27 : decode cJ1_indexOf_4cfef 27 = .ok (.iconst (-1), 1) := by decide +kernel
theorem dJ1_indexOf_4cfef_28 : decode cJ1_indexOf_4cfef 28 = .ok (.ireturn, 1) := by decide +kernel
theorem dJ1_indexOf_4cfef_29 : decode cJ1_indexOf_4cfef 29 = .ok (.aload_n 0, 1) := by decide +kernel
theorem dJ1_indexOf_4cfef_30 : decode cJ1_indexOf_4cfef 30 = .ok (.iload_n 1, 1) := by decide +kernel
theorem dJ1_indexOf_4cfef_31 : decode cJ1_indexOf_4cfef 31 = .ok (.iload_n 2, 1) := by decide +kernel
theorem dJ1_indexOf_4cfef_32 : decode cJ1_indexOf_4cfef 32 = .ok (.iload_n 3, 1) := by decide +kernel
theorem dJ1_indexOf_4cfef_33 : decode cJ1_indexOf_4cfef 33 = .ok (.invokestatic 95, 3) := by decide +kernel
theorem dJ1_indexOf_4cfef_36 : decode cJ1_indexOf_4cfef 36 = .ok (.ireturn, 1) := by decide +kernel
theorem dJ1_indexOfChar_4cfef_0 : decode cJ1_indexOfChar_4cfef 0 = .ok (.iload_n 1, 1) := by decide +kernel
theorem dJ1_indexOfChar_4cfef_1 : decode cJ1_indexOfChar_4cfef 1 = .ok (.i2b, 1) := by decide +kernel
theorem dJ1_indexOfChar_4cfef_2 : decode cJ1_indexOfChar_4cfef 2 = .ok (.istore 4, 2) := by decide +kernel
theorem dJ1_indexOfChar_4cfef_4 : decode cJ1_indexOfChar_4cfef 4 = .ok (.iload_n 2, 1) := by decide +kernel
theorem dJ1_indexOfChar_4cfef_5 : decode cJ1_indexOfChar_4cfef 5 = .ok (.istore 5, 2) := by decide +kernel
theorem dJ1_indexOfChar_4cfef_7 : decode cJ1_indexOfChar_4cfef 7 = .ok (.iload 5, 2) := by decide +kernel
theorem dJ1_indexOfChar_4cfef_9 : decode cJ1_indexOfChar_4cfef 9 = .ok (.iload_n 3, 1) := by decide +kernel
theorem dJ1_indexOfChar_4cfef_10 : decode cJ1_indexOfChar_4cfef 10 = .ok (.if_icmp .ge 21, 3) := by decide +kernel
theorem dJ1_indexOfChar_4cfef_13 : decode cJ1_indexOfChar_4cfef 13 = .ok (.aload_n 0, 1) := by decide +kernel
theorem dJ1_indexOfChar_4cfef_14 : decode cJ1_indexOfChar_4cfef 14 = .ok (.iload 5, 2) := by decide +kernel
theorem dJ1_indexOfChar_4cfef_16 : decode cJ1_indexOfChar_4cfef 16 = .ok (.baload, 1) := by decide +kernel
theorem dJ1_indexOfChar_4cfef_17 : decode cJ1_indexOfChar_4cfef 17 = .ok (.iload 4, 2) := by decide +kernel
theorem dJ1_indexOfChar_4cfef_19 : decode cJ1_indexOfChar_4cfef 19 = .ok (.if_icmp .ne 6, 3) := by decide +kernel
theorem dJ1_indexOfChar_4cfef_22 : decode cJ1_indexOfChar_4cfef 22 = .ok (.iload 5, 2) := by decide +kernel
theorem dJ1_indexOfChar_4cfef_24 : decode cJ1_indexOfChar_4cfef 24 = .ok (.ireturn, 1) := by decide +kernel
theorem dJ1_indexOfChar_4cfef_25 : decode cJ1_indexOfChar_4cfef 25 = .ok (.iinc 5 1, 3) := by decide +kernel
theorem dJ1_indexOfChar_4cfef_28 : decode cJ1_indexOfChar_4cfef 28 = .ok (.goto (-21), 3) := by decide +kernel
theorem dJ1_indexOfChar_4cfef_31 : decode cJ1_indexOfChar_4cfef 31 = .ok (.iconst (-1), 1) := by decide +kernel
theorem dJ1_indexOfChar_4cfef_32 : decode cJ1_indexOfChar_4cfef 32 = .ok (.ireturn, 1) := by decide +kernel
theorem dJ2_getChar_3b067_0 : decode cJ2_getChar_3b067 0 = .ok (.getstatic 44, 3) := by decide +kernel
theorem dJ2_getChar_3b067_3 : decode cJ2_getChar_3b067 3 = .ok (.ifCond .ne 25, 3) := by decide +kernel
theorem dJ2_getChar_3b067_6 : decode cJ2_getChar_3b067 6 = .ok (.iload_n 1, 1) := by decide +kernel
theorem dJ2_getChar_3b067_7 : decode cJ2_getChar_3b067 7 = .ok (.ifCond .lt 11, 3) := by decide +kernel
theorem dJ2_getChar_3b067_10 : decode cJ2_getChar_3b067 10 = .ok (.iload_n 1, 1) := by decide +kernel
theorem dJ2_getChar_3b067_11 : decode cJ2_getChar_3b067 11 = .ok (.aload_n 0, 1) := by decide +kernel
theorem dJ2_getChar_3b067_12 : decode cJ2_getChar_3b067 12 = .ok (.invokestatic 48, 3) := by decide +kernel
theorem dJ2_getChar_3b067_15 : decode cJ2_getChar_3b067 15 = .ok (.if_icmp .lt 13, 3) := by decide +kernel
theorem dJ2_getChar_3b067_18 : decode cJ2_getChar_3b067 18 = .ok (.new 52, 3) := by decide +kernel
theorem dJ2_getChar_3b067_21 : decode cJ2_getChar_3b067 21 = .ok (.dup, 1) := by decide +kernel
theorem dJ2_getChar_3b067_22 : decode cJ2_getChar_3b067 22 = .ok (.ldc 54, 2) := by decide +kernel
theorem dJ2_getChar_3b067_24 : decode cJ2_getChar_3b067 24 = .ok (.invokespecial 56, 3) := by decide +kernel
theorem dJ2_getChar_3b067_27 : decode cJ2_getChar_3b067 27 = .ok (.athrow, 1) := by decide +kernel
theorem dJ2_getChar_3b067_28 : decode cJ2_getChar_3b067 28 = .ok (.iload_n 1, 1) := by decide +kernel
theorem dJ2_getChar_3b067_29 : decode cJ2_getChar_3b067 29 = .ok (.iconst 1, 1) := by decide +kernel
theorem dJ2_getChar_3b067_30 : decode cJ2_getChar_3b067 30 = .ok (.ishl, 1) := by decide +kernel
theorem dJ2_getChar_3b067_31 : decode cJ2_getChar_3b067 31 = .ok (.istore_n 1, 1) := by decide +kernel
theorem dJ2_getChar_3b067_32 : decode cJ2_getChar_3b067 32 = .ok (.aload_n 0, 1) := by decide +kernel
theorem dJ2_getChar_3b067_33 : decode cJ2_getChar_3b067 33 = .ok (.iload_n 1, 1) := by decide +kernel
theorem dJ2_getChar_3b067_34 : decode cJ2_getChar_3b067 34 = .ok (.iinc 1 1, 3) := by decide +kernel
theorem dJ2_getChar_3b067_37 : decode cJ2_getChar_3b067 37 = .ok (.baload, 1) := by decide +kernel
theorem dJ2_getChar_3b067_38 : decode cJ2_getChar_3b067 38 = .ok (.sipush 255, 3) := by decide +kernel
theorem dJ2_getChar_3b067_41 : decode cJ2_getChar_3b067 41 = .ok (.iand, 1) := by decide +kernel
theorem dJ2_getChar_3b067_42 : decode cJ2_getChar_3b067 42 = .ok (.getstatic 59, 3) := by decide +kernel
theorem dJ2_getChar_3b067_45 : decode cJ2_getChar_3b067 45 = .ok (.ishl, 1) := by decide +kernel
theorem dJ2_getChar_3b067_46 : decode cJ2_getChar_3b067 46 = .ok (.aload_n 0, 1) := by decide +kernel
theorem dJ2_getChar_3b067_47 : decode cJ2_getChar_3b067 47 = .ok (.iload_n 1, 1) := by decide +kernel
theorem dJ2_getChar_3b067_48 : decode cJ2_getChar_3b067 48 = .ok (.baload, 1) := by decide +kernel
theorem dJ2_getChar_3b067_49 : decode cJ2_getChar_3b067 49 = .ok (.sipush 255, 3) := by decide +kernel
theorem dJ2_getChar_3b067_52 : decode cJ2_getChar_3b067 52 = .ok (.iand, 1) := by decide +kernel
theorem dJ2_getChar_3b067_53 : decode cJ2_getChar_3b067 53 = .ok (.getstatic 63, 3) := by decide +kernel
theorem dJ2_getChar_3b067_56 : decode cJ2_getChar_3b067 56 = .ok (.ishl, 1) := by decide +kernel
theorem dJ2_getChar_3b067_57 : decode cJ2_getChar_3b067 57 = .ok (.ior, 1) := by decide +kernel
theorem dJ2_getChar_3b067_58 : decode cJ2_getChar_3b067 58 = .ok (.i2c, 1) := by decide +kernel
theorem dJ2_getChar_3b067_59 : decode cJ2_getChar_3b067 59 = .ok (.ireturn, 1) := by decide +kernel
theorem dJ2_length_9d52b_0 : decode cJ2_length_9d52b 0 = .ok (.aload_n 0, 1) := by decide +kernel
theorem dJ2_length_9d52b_1 : decode cJ2_length_9d52b 1 = .ok (.arraylength, 1) := by decide +kernel
theorem dJ2_length_9d52b_2 : decode cJ2_length_9d52b 2 = .ok (.iconst 1, 1) := by decide +kernel
theorem dJ2_length_9d52b_3 : decode cJ2_length_9d52b 3 = .ok (.ishr, 1) := by decide +kernel
theorem dJ2_length_9d52b_4 : decode cJ2_length_9d52b 4 = .ok (.ireturn, 1) := by decide +kernel
theorem dJ2_indexOf_4cfef_0 : decode cJ2_indexOf_4cfef 0 = .ok (.iload_n 2, 1) := by decide +kernel
theorem dJ2_indexOf_4cfef_1 : decode cJ2_indexOf_4cfef 1 = .ok (.iconst 0, 1) := by decide +kernel
theorem dJ2_indexOf_4cfef_2 : decode cJ2_indexOf_4cfef 2 = .ok (.invokestatic 224, 3) := by decide +kernel
theorem dJ2_indexOf_4cfef_5 : decode cJ2_indexOf_4cfef 5 = .ok (.istore_n 2, 1) := by decide +kernel
theorem dJ2_indexOf_4cfef_6 : decode cJ2_indexOf_4cfef 6 = .ok (.iload_n 3, 1) := by decide +kernel
theorem dJ2_indexOf_4cfef_7 : decode cJ2_indexOf_4cfef 7 = .ok (.aload_n 0, 1) := by decide +kernel
theorem dJ2_indexOf_4cfef_8 : decode cJ2_indexOf_4cfef 8 = .ok (.arraylength, 1) := by decide +kernel
theorem dJ2_indexOf_4cfef_9 : decode cJ2_indexOf_4cfef 9 = .ok (.iconst 1, 1) := by decide +kernel
theorem dJ2_indexOf_4cfef_10 : decode cJ2_indexOf_4cfef 10 = .ok (.ishr, 1) := by decide +kernel
theorem dJ2_indexOf_4cfef_11 : decode cJ2_indexOf_4cfef 11 = .ok (.invokestatic 183, 3) := by decide +kernel
theorem dJ2_indexOf_4cfef_14 : decode cJ2_indexOf_4cfef 14 = .ok (.istore_n 3, 1) := by decide +kernel
theorem dJ2_indexOf_4cfef_15 : decode cJ2_indexOf_4cfef 15 = .ok (.iload_n 2, 1) := by decide +kernel
theorem dJ2_indexOf_4cfef_16 : decode cJ2_indexOf_4cfef 16 = .ok (.iload_n 3, 1) := by decide +kernel
theorem dJ2_indexOf_4cfef_17 : decode cJ2_indexOf_4cfef 17 = .ok (.if_icmp .lt 5, 3) := by decide +kernel
theorem dJ2_indexOf_4cfef_20 : decode cJ2_indexOf_4cfef 20 = .ok (.iconst (-1), 1) := by decide +kernel
theorem dJ2_indexOf_4cfef_21 : decode cJ2_indexOf_4cfef 21 = .ok (.ireturn, 1) := by decide +kernel
theorem dJ2_indexOf_4cfef_22 : decode cJ2_indexOf_4cfef 22 = .ok (.iload_n 1, 1) := by decide +kernel
theorem dJ2_indexOf_4cfef_23 : decode cJ2_indexOf_4cfef 23 = .ok (.ldc 227, 2) := by decide +kernel
theorem dJ2_indexOf_4cfef_25 : decode cJ2_indexOf_4cfef 25 = .ok (.if_icmp .ge 11, 3) := by decide +kernel
theorem dJ2_indexOf_4cfef_28 : decode cJ2_indexOf_4cfef 28 = .ok (.aload_n 0, 1) := by decide +kernel
theorem dJ2_indexOf_4cfef_29 : decode cJ2_indexOf_4cfef 29 = .ok (.iload_n 1, 1) := by decide +kernel
theorem dJ2_indexOf_4cfef_30 : decode cJ2_indexOf_4cfef 30 = .ok (.iload_n 2, 1) := by decide +kernel
theorem dJ2_indexOf_4cfef_31 : decode cJ2_indexOf_4cfef 31 = .ok (.iload_n 3, 1) := by decide +kernel
theorem dJ2_indexOf_4cfef_32 : decode cJ2_indexOf_4cfef 32 = .ok (.invokestatic 228, 3) := by decide +kernel
theorem dJ2_indexOf_4cfef_35 : decode cJ2_indexOf_4cfef 35 = .ok (.ireturn, 1) := by decide +kernel
theorem dJ2_indexOf_4cfef_36 : decode cJ2_indexOf_4cfef 36 = .ok (.aload_n 0, 1) := by decide +kernel
theorem dJ2_indexOf_4cfef_37 : decode cJ2_indexOf_4cfef 37 = .ok (.iload_n 1, 1) := by decide +kernel
theorem dJ2_indexOf_4cfef_38 : decode cJ2_indexOf_4cfef 38 = .ok (.iload_n 2, 1) := by decide +kernel
theorem dJ2_indexOf_4cfef_39 : decode cJ2_indexOf_4cfef 39 = .ok (.iload_n 3, 1) := by decide +kernel
theorem dJ2_indexOf_4cfef_40 : decode cJ2_indexOf_4cfef 40 = .ok (.invokestatic 232, 3) := by decide +kernel
theorem dJ2_indexOf_4cfef_43 : decode cJ2_indexOf_4cfef 43 = .ok (.ireturn, 1) := by decide +kernel
theorem dJ2_indexOfChar_4cfef_0 : decode cJ2_indexOfChar_4cfef 0 = .ok (.iload_n 2, 1) := by decide +kernel
theorem dJ2_indexOfChar_4cfef_1 : decode cJ2_indexOfChar_4cfef 1 = .ok (.iload_n 3, 1) := by decide +kernel
theorem dJ2_indexOfChar_4cfef_2 : decode cJ2_indexOfChar_4cfef 2 = .ok (.aload_n 0, 1) := by decide +kernel
theorem dJ2_indexOfChar_4cfef_3 : decode cJ2_indexOfChar_4cfef 3 = .ok (.invokestatic 96, 3) := by decide +kernel
theorem dJ2_indexOfChar_4cfef_6 : decode cJ2_indexOfChar_4cfef 6 = .ok (.aload_n 0, 1) := by decide +kernel
theorem dJ2_indexOfChar_4cfef_7 : decode cJ2_indexOfChar_4cfef 7 = .ok (.iload_n 1, 1) := by decide +kernel
theorem dJ2_indexOfChar_4cfef_8 : decode cJ2_indexOfChar_4cfef 8 = .ok (.iload_n 2, 1) := by decide +kernel
theorem dJ2_indexOfChar_4cfef_9 : decode cJ2_indexOfChar_4cfef 9 = .ok (.iload_n 3, 1) := by decide +kernel
theorem dJ2_indexOfChar_4cfef_10 : decode cJ2_indexOfChar_4cfef 10 = .ok (.invokestatic 244, 3) := by decide +kernel
theorem dJ2_indexOfChar_4cfef_13 : decode cJ2_indexOfChar_4cfef 13 = .ok (.ireturn, 1) := by decide +kernel
theorem dJ2_indexOfCharUnsafe_4cfef_0 : decode cJ2_indexOfCharUnsafe_4cfef 0 = .ok (.iload_n 2, 1) := by decide +kernel
theorem dJ2_indexOfCharUnsafe_4cfef_1 : decode cJ2_indexOfCharUnsafe_4cfef 1 = .ok (.istore 4, 2) := by decide +kernel
theorem dJ2_indexOfCharUnsafe_4cfef_3 : decode cJ2_indexOfCharUnsafe_4cfef 3 = .ok (.iload 4, 2) := by decide +kernel
theorem dJ2_indexOfCharUnsafe_4cfef_5 : decode cJ2_indexOfCharUnsafe_4cfef 5 = .ok (.iload_n 3, 1) := by decide +kernel
theorem dJ2_indexOfCharUnsafe_4cfef_6 : decode cJ2_indexOfCharUnsafe_4cfef 6 = .ok (.if_icmp .ge 22, 3) := by decide +kernel
theorem dJ2_indexOfCharUnsafe_4cfef_9 : decode cJ2_indexOfCharUnsafe_4cfef 9 = .ok (.aload_n 0, 1) := by decide +kernel
theorem dJ2_indexOfCharUnsafe_4cfef_10 : decode cJ2_indexOfCharUnsafe_4cfef 10 = .ok (.iload 4, 2) := by decide +kernel
theorem dJ2_indexOfCharUnsafe_4cfef_12 : decode cJ2_indexOfCharUnsafe_4cfef 12 = .ok (.invokestatic 71, 3) := by decide +kernel
theorem dJ2_indexOfCharUnsafe_4cfef_15 : decode cJ2_indexOfCharUnsafe_4cfef 15 = .ok (.iload_n 1, 1) := by decide +kernel
theorem dJ2_indexOfCharUnsafe_4cfef_16 : decode cJ2_indexOfCharUnsafe_4cfef 16 = .ok (.if_icmp .ne 6, 3) := by decide +kernel
theorem dJ2_indexOfCharUnsafe_4cfef_19 : decode cJ2_indexOfCharUnsafe_4cfef 19 = .ok (.iload 4, 2) := by decide +kernel
theorem dJ2_indexOfCharUnsafe_4cfef_21 : decode cJ2_indexOfCharUnsafe_4cfef 21 = .ok (.ireturn, 1) := by decide +kernel
theorem dJ2_indexOfCharUnsafe_4cfef_22 : decode cJ2_indexOfCharUnsafe_4cfef 22 = .ok (.iinc 4 1, 3) := by decide +kernel
theorem dJ2_indexOfCharUnsafe_4cfef_25 : decode cJ2_indexOfCharUnsafe_4cfef 25 = .ok (.goto (-22), 3) := by decide +kernel
theorem dJ2_indexOfCharUnsafe_4cfef_28 : decode cJ2_indexOfCharUnsafe_4cfef 28 = .ok (.iconst (-1), 1) := by decide +kernel
theorem dJ2_indexOfCharUnsafe_4cfef_29 : decode cJ2_indexOfCharUnsafe_4cfef 29 = .ok (.ireturn, 1) := by decide +kernel
theorem dJ2_indexOfSupplementary_4cfef_0 : decode cJ2_indexOfSupplementary_4cfef 0 = .ok (.iload_n 1, 1) := by decide +kernel
theorem dJ2_indexOfSupplementary_4cfef_1 : decode cJ2_indexOfSupplementary_4cfef 1 = .ok (.invokestatic 164, 3) := by decide +kernel
theorem dJ2_indexOfSupplementary_4cfef_4 : decode cJ2_indexOfSupplementary_4cfef 4 = .ok (.ifCond .eq 65, 3) := by decide +kernel
theorem dJ2_indexOfSupplementary_4cfef_7 : decode cJ2_indexOfSupplementary_4cfef 7 = .ok (.iload_n 1, 1) := by decide +kernel
theorem dJ2_indexOfSupplementary_4cfef_8 : decode cJ2_indexOfSupplementary_4cfef 8 = .ok (.invokestatic 157, 3) := by decide +kernel
theorem dJ2_indexOfSupplementary_4cfef_11 : decode cJ2_indexOfSupplementary_4cfef 11 = .ok (.istore 4, 2) := by decide +kernel
theorem dJ2_indexOfSupplementary_4cfef_13 : decode cJ2_indexOfSupplementary_4cfef 13 = .ok (.iload_n 1, 1) := by decide +kernel
theorem dJ2_indexOfSupplementary_4cfef_14 : decode cJ2_indexOfSupplementary_4cfef 14 = .ok (.invokestatic 161, 3) := by decide +kernel
theorem dJ2_indexOfSupplementary_4cfef_17 : decode cJ2_indexOfSupplementary_4cfef 17 = .ok (.istore 5, 2) := by decide +kernel
theorem dJ2_indexOfSupplementary_4cfef_19 : decode cJ2_indexOfSupplementary_4cfef 19 = .ok (.iload_n 2, 1) := by decide +kernel
theorem dJ2_indexOfSupplementary_4cfef_20 : decode cJ2_indexOfSupplementary_4cfef 20 = .ok (.iload_n 3, 1) := by decide +kernel
theorem dJ2_indexOfSupplementary_4cfef_21 : decode cJ2_indexOfSupplementary_4cfef 21 = .ok (.aload_n 0, 1) := by decide +kernel
theorem dJ2_indexOfSupplementary_4cfef_22 : decode cJ2_indexOfSupplementary_4cfef 22 = .ok (.invokestatic 96, 3) := by decide +kernel
theorem dJ2_indexOfSupplementary_4cfef_25 : decode cJ2_indexOfSupplementary_4cfef 25 = .ok (.iload_n 2, 1) := by decide +kernel
theorem dJ2_indexOfSupplementary_4cfef_26 : decode cJ2_indexOfSupplementary_4cfef 26 = .ok (.istore 6, 2) := by decide +kernel
theorem dJ2_indexOfSupplementary_4cfef_28 : decode cJ2_indexOfSupplementary_4cfef 28 = .ok (.iload 6, 2) := by decide +kernel
theorem dJ2_indexOfSupplementary_4cfef_30 : decode cJ2_indexOfSupplementary_4cfef 30 = .ok (.iload_n 3, 1) := by decide +kernel
theorem dJ2_indexOfSupplementary_4cfef_31 : decode cJ2_indexOfSupplementary_4cfef 31 = .ok (.iconst 1, 1) := by decide +kernel
theorem dJ2_indexOfSupplementary_4cfef_32 : decode cJ2_indexOfSupplementary_4cfef 32 = .ok (.isub, 1) := by decide +kernel
theorem dJ2_indexOfSupplementary_4cfef_33 : decode cJ2_indexOfSupplementary_4cfef 33 = .ok (.if_icmp .ge 36, 3) := by decide +kernel
theorem dJ2_indexOfSupplementary_4cfef_36 : decode cJ2_indexOfSupplementary_4cfef 36 = .ok (.aload_n 0, 1) := by decide +kernel
theorem dJ2_indexOfSupplementary_4cfef_37 : decode cJ2_indexOfSupplementary_4cfef 37 = .ok (.iload 6, 2) := by decide +kernel
theorem dJ2_indexOfSupplementary_4cfef_39 : decode cJ2_indexOfSupplementary_4cfef 39 = .ok (.invokestatic 71, 3) := by decide +kernel
theorem dJ2_indexOfSupplementary_4cfef_42 : decode cJ2_indexOfSupplementary_4cfef 42 = .ok (.iload 4, 2) := by decide +kernel
theorem dJ2_indexOfSupplementary_4cfef_44 : decode cJ2_indexOfSupplementary_4cfef 44 = .ok (.if_icmp .ne 19, 3) := by decide +kernel
theorem dJ2_indexOfSupplementary_4cfef_47 : decode cJ2_indexOfSupplementary_4cfef 47 = .ok (.aload_n 0, 1) := by decide +kernel
theorem dJ2_indexOfSupplementary_4cfef_48 : decode cJ2_indexOfSupplementary_4cfef 48 = .ok (.iload 6, 2) := by decide +kernel
theorem dJ2_indexOfSupplementary_4cfef_50 : decode cJ2_indexOfSupplementary_4cfef 50 = .ok (.iconst 1, 1) := by decide +kernel
theorem dJ2_indexOfSupplementary_4cfef_51 : decode cJ2_indexOfSupplementary_4cfef 51 = .ok (.iadd, 1) := by decide +kernel
theorem dJ2_indexOfSupplementary_4cfef_52 : decode cJ2_indexOfSupplementary_4cfef 52 = .ok (.invokestatic 71, 3) := by decide +kernel
theorem dJ2_indexOfSupplementary_4cfef_55 : decode cJ2_indexOfSupplementary_4cfef 55 = .ok (.iload 5, 2) := by decide +kernel
theorem dJ2_indexOfSupplementary_4cfef_57 : decode cJ2_indexOfSupplementary_4cfef 57 = .ok (.if_icmp .ne 6, 3) := by decide +kernel
theorem dJ2_indexOfSupplementary_4cfef_60 : decode cJ2_indexOfSupplementary_4cfef 60 = .ok (.iload 6, 2) := by decide +kernel
theorem dJ2_indexOfSupplementary_4cfef_62 : decode cJ2_indexOfSupplementary_4cfef 62 = .ok (.ireturn, 1) := by decide +kernel
theorem dJ2_indexOfSupplementary_4cfef_63 : decode cJ2_indexOfSupplementary_4cfef 63 = .ok (.iinc 6 1, 3) := by decide +kernel
theorem dJ2_indexOfSupplementary_4cfef_66 : decode cJ2_indexOfSupplementary_4cfef 66 = .ok (.goto (-38), 3) := by decide +kernel
theorem dJ2_indexOfSupplementary_4cfef_69 : decode cJ2_indexOfSupplementary_4cfef 69 = .ok (.iconst (-1), 1) := by decide +kernel
theorem dJ2_indexOfSupplementary_4cfef_70 : decode cJ2_indexOfSupplementary_4cfef 70 = .ok (.ireturn, 1) := by decide +kernel
theorem dJ2_charAt_3b067_0 : decode cJ2_charAt_3b067 0 = .ok (.iload_n 1, 1) := by decide +kernel
theorem dJ2_charAt_3b067_1 : decode cJ2_charAt_3b067 1 = .ok (.aload_n 0, 1) := by decide +kernel
theorem dJ2_charAt_3b067_2 : decode cJ2_charAt_3b067 2 = .ok (.invokestatic 67, 3) := by decide +kernel
theorem dJ2_charAt_3b067_5 : decode cJ2_charAt_3b067 5 = .ok (.aload_n 0, 1) := by decide +kernel
theorem dJ2_charAt_3b067_6 : decode cJ2_charAt_3b067 6 = .ok (.iload_n 1, 1) := by decide +kernel
theorem dJ2_charAt_3b067_7 : decode cJ2_charAt_3b067 7 = .ok (.invokestatic 71, 3) := by decide +kernel
theorem dJ2_charAt_3b067_10 : decode cJ2_charAt_3b067 10 = .ok (.ireturn, 1) := by decide +kernel
theorem dJ2_checkIndex_2214a_0 : decode cJ2_checkIndex_2214a 0 = .ok (.iload_n 0, 1) := by decide +kernel
theorem dJ2_checkIndex_2214a_1 : decode cJ2_checkIndex_2214a 1 = .ok (.aload_n 1, 1) := by decide +kernel
theorem dJ2_checkIndex_2214a_2 : decode cJ2_checkIndex_2214a 2 = .ok (.invokestatic 48, 3) := by decide +kernel
theorem dJ2_checkIndex_2214a_5 : decode cJ2_checkIndex_2214a 5 = .ok (.invokestatic 414, 3) := by decide +kernel
theorem dJ2_checkIndex_2214a_8 : decode cJ2_checkIndex_2214a 8 = .ok (.return_, 1) := by decide +kernel
theorem dJ2_checkBoundsBeginEnd_d044e_0 : decode cJ2_checkBoundsBeginEnd_d044e 0 = .ok (.iload_n 0, 1) := by decide +kernel
theorem dJ2_checkBoundsBeginEnd_d044e_1 : decode cJ2_checkBoundsBeginEnd_d044e 1 = .ok (.iload_n 1, 1) := by decide +kernel
theorem dJ2_checkBoundsBeginEnd_d044e_2 : decode cJ2_checkBoundsBeginEnd_d044e 2 = .ok (.aload_n 2, 1) := by decide +kernel
theorem dJ2_checkBoundsBeginEnd_d044e_3 : decode cJ2_checkBoundsBeginEnd_d044e 3 = .ok (.invokestatic 48, 3) := by decide +kernel
theorem dJ2_checkBoundsBeginEnd_d044e_6 : decode cJ2_checkBoundsBeginEnd_d044e 6 = .ok (.invokestatic 241, 3) := by decide +kernel
theorem dJ2_checkBoundsBeginEnd_d044e_9 : decode cJ2_checkBoundsBeginEnd_d044e 9 = .ok (.return_, 1) := by decide +kernel
theorem dJ7_fill_53178_0 : decode cJ7_fill_53178 0 = .ok (.iconst 0, 1) := by decide +kernel
theorem dJ7_fill_53178_1 : decode cJ7_fill_53178 1 = .ok (.istore_n 2, 1) := by decide +kernel
theorem dJ7_fill_53178_2 : decode cJ7_fill_53178 2 = .ok (.aload_n 0, 1) := by decide +kernel
theorem dJ7_fill_53178_3 : decode cJ7_fill_53178 3 = .ok (.arraylength, 1) := by decide +kernel
theorem dJ7_fill_53178_4 : decode cJ7_fill_53178 4 = .ok (.istore_n 3, 1) := by decide +kernel
theorem dJ7_fill_53178_5 : decode cJ7_fill_53178 5 = .ok (.iload_n 2, 1) := by decide +kernel
theorem dJ7_fill_53178_6 : decode cJ7_fill_53178 6 = .ok (.iload_n 3, 1) := by decide +kernel
theorem dJ7_fill_53178_7 : decode cJ7_fill_53178 7 = .ok (.if_icmp .ge 13, 3) := by decide +kernel
theorem dJ7_fill_53178_10 : decode cJ7_fill_53178 10 = .ok (.aload_n 0, 1) := by decide +kernel
theorem dJ7_fill_53178_11 : decode cJ7_fill_53178 11 = .ok (.iload_n 2, 1) := by decide +kernel
theorem dJ7_fill_53178_12 : decode cJ7_fill_53178 12 = .ok (.iload_n 1, 1) := by decide +kernel
theorem dJ7_fill_53178_13 : decode cJ7_fill_53178 13 = .ok (.iastore, 1) := by decide +kernel
theorem dJ7_fill_53178_14 : decode cJ7_fill_53178 14 = .ok (.iinc 2 1, 3) := by decide +kernel
theorem dJ7_fill_53178_17 : decode cJ7_fill_53178 17 = .ok (.goto (-12), 3) := by decide +kernel
theorem dJ7_fill_53178_20 : decode cJ7_fill_53178 20 = .ok (.return_, 1) := by decide +kernel
theorem dJ3_checkIndex_8e157_0 : decode cJ3_checkIndex_8e157 0 = .ok (.iload_n 0, 1) := by decide +kernel
theorem dJ3_checkIndex_8e157_1 : decode cJ3_checkIndex_8e157 1 = .ok (.ifCond .lt 8, 3) := by decide +kernel
theorem dJ3_checkIndex_8e157_4 : decode cJ3_checkIndex_8e157 4 = .ok (.iload_n 0, 1) := by decide +kernel
theorem dJ3_checkIndex_8e157_5 : decode cJ3_checkIndex_8e157 5 = .ok (.iload_n 1, 1) := by decide +kernel
theorem dJ3_checkIndex_8e157_6 : decode cJ3_checkIndex_8e157 6 = .ok (.if_icmp .lt 10, 3) := by decide +kernel
theorem dJ3_checkIndex_8e157_9 : decode cJ3_checkIndex_8e157 9 = .ok (.aload_n 2, 1) := by decide +kernel
theorem dJ3_checkIndex_8e157_10 : decode cJ3_checkIndex_8e157 10 = .ok (.iload_n 0, 1) := by decide +kernel
theorem dJ3_checkIndex_8e157_11 : decode cJ3_checkIndex_8e157 11 = .ok (.iload_n 1, 1) := by decide +kernel
theorem dJ3_checkIndex_8e157_12 : decode cJ3_checkIndex_8e157 12 = .ok (.invokestatic 95, 3) := by decide +kernel
theorem dJ3_checkIndex_8e157_15 : decode cJ3_checkIndex_8e157 15 = .ok (.athrow, 1) := by decide +kernel
theorem dJ3_checkIndex_8e157_16 : decode cJ3_checkIndex_8e157 16 = .ok (.iload_n 0, 1) := by decide +kernel
theorem dJ3_checkIndex_8e157_17 : decode cJ3_checkIndex_8e157 17 = .ok (.ireturn, 1) := by decide +kernel
theorem dJ3_checkFromToIndex_8c36e_0 : decode cJ3_checkFromToIndex_8c36e 0 = .ok (.iload_n 0, 1) := by decide +kernel
theorem dJ3_checkFromToIndex_8c36e_1 : decode cJ3_checkFromToIndex_8c36e 1 = .ok (.ifCond .lt 13, 3) := by decide +kernel
theorem dJ3_checkFromToIndex_8c36e_4 : decode cJ3_checkFromToIndex_8c36e 4 = .ok (.iload_n 0, 1) := by decide +kernel
theorem dJ3_checkFromToIndex_8c36e_5 : decode cJ3_checkFromToIndex_8c36e 5 = .ok (.iload_n 1, 1) := by decide +kernel
theorem dJ3_checkFromToIndex_8c36e_6 : decode cJ3_checkFromToIndex_8c36e 6 = .ok (.if_icmp .gt 8, 3) := by decide +kernel
theorem dJ3_checkFromToIndex_8c36e_9 : decode cJ3_checkFromToIndex_8c36e 9 = .ok (.iload_n 1, 1) := by decide +kernel
theorem dJ3_checkFromToIndex_8c36e_10 : decode cJ3_checkFromToIndex_8c36e 10 = .ok (.iload_n 2, 1) := by decide +kernel
theorem dJ3_checkFromToIndex_8c36e_11 : decode cJ3_checkFromToIndex_8c36e 11 = .ok (.if_icmp .le 11, 3) := by decide +kernel
theorem dJ3_checkFromToIndex_8c36e_14 : decode cJ3_checkFromToIndex_8c36e 14 = .ok (.aload_n 3, 1) := by decide +kernel
theorem dJ3_checkFromToIndex_8c36e_15 : decode cJ3_checkFromToIndex_8c36e 15 = .ok (.iload_n 0, 1) := by decide +kernel
theorem dJ3_checkFromToIndex_8c36e_16 : decode cJ3_checkFromToIndex_8c36e 16 = .ok (.iload_n 1, 1) := by decide +kernel
theorem dJ3_checkFromToIndex_8c36e_17 : decode cJ3_checkFromToIndex_8c36e 17 = .ok (.iload_n 2, 1) := by decide +kernel
theorem dJ3_checkFromToIndex_8c36e_18 : decode cJ3_checkFromToIndex_8c36e 18 = .ok (.invokestatic 99, 3) := by decide +kernel
theorem dJ3_checkFromToIndex_8c36e_21 : decode cJ3_checkFromToIndex_8c36e 21 = .ok (.athrow, 1) := by decide +kernel
theorem dJ3_checkFromToIndex_8c36e_22 : decode cJ3_checkFromToIndex_8c36e 22 = .ok (.iload_n 0, 1) := by decide +kernel
theorem dJ3_checkFromToIndex_8c36e_23 : decode cJ3_checkFromToIndex_8c36e 23 = .ok (.ireturn, 1) := by decide +kernel
theorem dL_person_0 : decode cL_person 0 = .ok (.aload_n 3, 1) := by decide +kernel
theorem dL_person_1 : decode cL_person 1 = .ok (.iconst 0, 1) := by decide +kernel
theorem dL_person_2 : decode cL_person 2 = .ok (.aload_n 0, 1) := by decide +kernel
theorem dL_person_3 : decode cL_person 3 = .ok (.iload_n 1, 1) := by decide +kernel
theorem dL_person_4 : decode cL_person 4 = .ok (.iload_n 2, 1) := by decide +kernel
theorem dL_person_5 : decode cL_person 5 = .ok (.invokevirtual 7, 3) := by decide +kernel
theorem dL_person_8 : decode cL_person 8 = .ok (.i2l, 1) := by decide +kernel
theorem dL_person_9 : decode cL_person 9 = .ok (.lastore, 1) := by decide +kernel
theorem dL_person_10 : decode cL_person 10 = .ok (.goto 7, 3) := by decide +kernel
theorem dL_person_13 : decode cL_person 13 = .ok (.astore 4, 2) := by decide +kernel
theorem dL_person_15 : decode cL_person 15 = .ok (.iconst 1, 1) := by decide +kernel
theorem dL_person_16 : decode cL_person 16 = .ok (.ireturn, 1) := by decide +kernel
theorem dL_person_17 : decode cL_person 17 = .ok (.iconst 0, 1) := by decide +kernel
theorem dL_person_18 : decode cL_person 18 = .ok (.ireturn, 1) := by decide +kernel
theorem dL_errand_0 : decode cL_errand 0 = .ok (.aload_n 3, 1) := by decide +kernel
theorem dL_errand_1 : decode cL_errand 1 = .ok (.iconst 0, 1) := by decide +kernel
theorem dL_errand_2 : decode cL_errand 2 = .ok (.aload_n 0, 1) := by decide +kernel
theorem dL_errand_3 : decode cL_errand 3 = .ok (.iload_n 1, 1) := by decide +kernel
theorem dL_errand_4 : decode cL_errand 4 = .ok (.iload_n 2, 1) := by decide +kernel
theorem dL_errand_5 : decode cL_errand 5 = .ok (.invokevirtual 15, 3) := by decide +kernel
theorem dL_errand_8 : decode cL_errand 8 = .ok (.i2l, 1) := by decide +kernel
theorem dL_errand_9 : decode cL_errand 9 = .ok (.lastore, 1) := by decide +kernel
theorem dL_errand_10 : decode cL_errand 10 = .ok (.goto 7, 3) := by decide +kernel
theorem dL_errand_13 : decode cL_errand 13 = .ok (.astore 4, 2) := by decide +kernel
theorem dL_errand_15 : decode cL_errand 15 = .ok (.iconst 1, 1) := by decide +kernel
theorem dL_errand_16 : decode cL_errand 16 = .ok (.ireturn, 1) := by decide +kernel
theorem dL_errand_17 : decode cL_errand 17 = .ok (.iconst 0, 1) := by decide +kernel
theorem dL_errand_18 : decode cL_errand 18 = .ok (.ireturn, 1) := by decide +kernel
theorem dL_trip_0 : decode cL_trip 0 = .ok (.aload_n 3, 1) := by decide +kernel
theorem dL_trip_1 : decode cL_trip 1 = .ok (.iconst 0, 1) := by decide +kernel
theorem dL_trip_2 : decode cL_trip 2 = .ok (.aload_n 0, 1) := by decide +kernel
theorem dL_trip_3 : decode cL_trip 3 = .ok (.iload_n 1, 1) := by decide +kernel
theorem dL_trip_4 : decode cL_trip 4 = .ok (.iload_n 2, 1) := by decide +kernel
theorem dL_trip_5 : decode cL_trip 5 = .ok (.invokevirtual 18, 3) := by decide +kernel
theorem dL_trip_8 : decode cL_trip 8 = .ok (.i2l, 1) := by decide +kernel
theorem dL_trip_9 : decode cL_trip 9 = .ok (.lastore, 1) := by decide +kernel
theorem dL_trip_10 : decode cL_trip 10 = .ok (.goto 7, 3) := by decide +kernel
theorem dL_trip_13 : decode cL_trip 13 = .ok (.astore 4, 2) := by decide +kernel
theorem dL_trip_15 : decode cL_trip 15 = .ok (.iconst 1, 1) := by decide +kernel
theorem dL_trip_16 : decode cL_trip 16 = .ok (.ireturn, 1) := by decide +kernel
theorem dL_trip_17 : decode cL_trip 17 = .ok (.iconst 0, 1) := by decide +kernel
theorem dL_trip_18 : decode cL_trip 18 = .ok (.ireturn, 1) := by decide +kernel
theorem dL_row_0 : decode cL_row 0 = .ok (.aload_n 2, 1) := by decide +kernel
theorem dL_row_1 : decode cL_row 1 = .ok (.iconst 0, 1) := by decide +kernel
theorem dL_row_2 : decode cL_row 2 = .ok (.aload_n 0, 1) := by decide +kernel
theorem dL_row_3 : decode cL_row 3 = .ok (.iload_n 1, 1) := by decide +kernel
theorem dL_row_4 : decode cL_row 4 = .ok (.invokevirtual 21, 3) := by decide +kernel
theorem dL_row_7 : decode cL_row 7 = .ok (.lastore, 1) := by decide +kernel
theorem dL_row_8 : decode cL_row 8 = .ok (.goto 6, 3) := by decide +kernel
theorem dL_row_11 : decode cL_row 11 = .ok (.astore_n 3, 1) := by decide +kernel
theorem dL_row_12 : decode cL_row 12 = .ok (.iconst 1, 1) := by decide +kernel
theorem dL_row_13 : decode cL_row 13 = .ok (.ireturn, 1) := by decide +kernel
theorem dL_row_14 : decode cL_row 14 = .ok (.iconst 0, 1) := by decide +kernel
theorem dL_row_15 : decode cL_row 15 = .ok (.ireturn, 1) := by decide +kernel
theorem dL_law_0 : decode cL_law 0 = .ok (.new 8, 3) := by decide +kernel
theorem dL_law_3 : decode cL_law 3 = .ok (.dup, 1) := by decide +kernel
theorem dL_law_4 : decode cL_law 4 = .ok (.invokespecial 25, 3) := by decide +kernel
theorem dL_law_7 : decode cL_law 7 = .ok (.astore_n 1, 1) := by decide +kernel
theorem dL_law_8 : decode cL_law 8 = .ok (.new 26, 3) := by decide +kernel
theorem dL_law_11 : decode cL_law 11 = .ok (.dup, 1) := by decide +kernel
theorem dL_law_12 : decode cL_law 12 = .ok (.invokespecial 28, 3) := by decide +kernel
theorem dL_law_15 : decode cL_law 15 = .ok (.astore_n 2, 1) := by decide +kernel
theorem dL_law_16 : decode cL_law 16 = .ok (.iconst 1, 1) := by decide +kernel
theorem dL_law_17 : decode cL_law 17 = .ok (.newarray .long, 2) := by decide +kernel
theorem dL_law_19 : decode cL_law 19 = .ok (.astore_n 3, 1) := by decide +kernel
theorem dL_law_20 : decode cL_law 20 = .ok (.iconst 0, 1) := by decide +kernel
theorem dL_law_21 : decode cL_law 21 = .ok (.istore 4, 2) := by decide +kernel
theorem dL_law_23 : decode cL_law 23 = .ok (.iload 4, 2) := by decide +kernel
theorem dL_law_25 : decode cL_law 25 = .ok (.aload_n 0, 1) := by decide +kernel
theorem dL_law_26 : decode cL_law 26 = .ok (.arraylength, 1) := by decide +kernel
theorem dL_law_27 : decode cL_law 27 = .ok (.iconst 5, 1) := by decide +kernel
theorem dL_law_28 : decode cL_law 28 = .ok (.isub, 1) := by decide +kernel
theorem dL_law_29 : decode cL_law 29 = .ok (.if_icmp .gt 1664, 3) := by decide +kernel
theorem dL_law_32 : decode cL_law 32 = .ok (.aload_n 0, 1) := by decide +kernel
theorem dL_law_33 : decode cL_law 33 = .ok (.iload 4, 2) := by decide +kernel
theorem dL_law_35 : decode cL_law 35 = .ok (.iaload, 1) := by decide +kernel
theorem dL_law_36 : decode cL_law 36 = .ok (.bipush 63, 2) := by decide +kernel
theorem dL_law_38 : decode cL_law 38 = .ok (.iand, 1) := by decide +kernel
theorem dL_law_39 : decode cL_law 39 = .ok (.tableswitch 1648 0 47 #[205, 230, 255, 268, 293, 306, 319, 387, 455, 523, 572, 597, 658, 707, 756, 817, 842, 879, 892, 905, 918, 943, 956, 969, 982, 1019, 1056, 1093, 1118, 1143, 1156, 1169, 1182, 1195, 1220, 1257, 1282, 1295, 1332, 1381, 1394, 1407, 1444, 1469, 1518, 1543, 1568, 1593], 205) := by decide +kernel
theorem dL_law_244 : decode cL_law 244 = .ok (.aload_n 1, 1) := by decide +kernel
theorem dL_law_245 : decode cL_law 245 = .ok (.aload_n 0, 1) := by decide +kernel
theorem dL_law_246 : decode cL_law 246 = .ok (.iload 4, 2) := by decide +kernel
theorem dL_law_248 : decode cL_law 248 = .ok (.iconst 1, 1) := by decide +kernel
theorem dL_law_249 : decode cL_law 249 = .ok (.iadd, 1) := by decide +kernel
theorem dL_law_250 : decode cL_law 250 = .ok (.iaload, 1) := by decide +kernel
theorem dL_law_251 : decode cL_law 251 = .ok (.invokevirtual 29, 3) := by decide +kernel
theorem dL_law_254 : decode cL_law 254 = .ok (.aload_n 2, 1) := by decide +kernel
theorem dL_law_255 : decode cL_law 255 = .ok (.aload_n 0, 1) := by decide +kernel
theorem dL_law_256 : decode cL_law 256 = .ok (.iload 4, 2) := by decide +kernel
theorem dL_law_258 : decode cL_law 258 = .ok (.iconst 1, 1) := by decide +kernel
theorem dL_law_259 : decode cL_law 259 = .ok (.iadd, 1) := by decide +kernel
theorem dL_law_260 : decode cL_law 260 = .ok (.iaload, 1) := by decide +kernel
theorem dL_law_261 : decode cL_law 261 = .ok (.invokevirtual 33, 3) := by decide +kernel
theorem dL_law_264 : decode cL_law 264 = .ok (.if_icmp .eq 1423, 3) := by decide +kernel
theorem dL_law_267 : decode cL_law 267 = .ok (.iconst 0, 1) := by decide +kernel
theorem dL_law_268 : decode cL_law 268 = .ok (.ireturn, 1) := by decide +kernel
theorem dL_law_269 : decode cL_law 269 = .ok (.aload_n 1, 1) := by decide +kernel
theorem dL_law_270 : decode cL_law 270 = .ok (.aload_n 0, 1) := by decide +kernel
theorem dL_law_271 : decode cL_law 271 = .ok (.iload 4, 2) := by decide +kernel
theorem dL_law_273 : decode cL_law 273 = .ok (.iconst 1, 1) := by decide +kernel
theorem dL_law_274 : decode cL_law 274 = .ok (.iadd, 1) := by decide +kernel
theorem dL_law_275 : decode cL_law 275 = .ok (.iaload, 1) := by decide +kernel
theorem dL_law_276 : decode cL_law 276 = .ok (.invokevirtual 34, 3) := by decide +kernel
theorem dL_law_279 : decode cL_law 279 = .ok (.aload_n 2, 1) := by decide +kernel
theorem dL_law_280 : decode cL_law 280 = .ok (.aload_n 0, 1) := by decide +kernel
theorem dL_law_281 : decode cL_law 281 = .ok (.iload 4, 2) := by decide +kernel
theorem dL_law_283 : decode cL_law 283 = .ok (.iconst 1, 1) := by decide +kernel
theorem dL_law_284 : decode cL_law 284 = .ok (.iadd, 1) := by decide +kernel
theorem dL_law_285 : decode cL_law 285 = .ok (.iaload, 1) := by decide +kernel
theorem dL_law_286 : decode cL_law 286 = .ok (.invokevirtual 38, 3) := by decide +kernel
theorem dL_law_289 : decode cL_law 289 = .ok (.if_icmp .eq 1398, 3) := by decide +kernel
theorem dL_law_292 : decode cL_law 292 = .ok (.iconst 0, 1) := by decide +kernel
theorem dL_law_293 : decode cL_law 293 = .ok (.ireturn, 1) := by decide +kernel
theorem dL_law_294 : decode cL_law 294 = .ok (.aload_n 1, 1) := by decide +kernel
theorem dL_law_295 : decode cL_law 295 = .ok (.invokevirtual 39, 3) := by decide +kernel
theorem dL_law_298 : decode cL_law 298 = .ok (.aload_n 2, 1) := by decide +kernel
theorem dL_law_299 : decode cL_law 299 = .ok (.invokevirtual 43, 3) := by decide +kernel
theorem dL_law_302 : decode cL_law 302 = .ok (.if_icmp .eq 1385, 3) := by decide +kernel
theorem dL_law_305 : decode cL_law 305 = .ok (.iconst 0, 1) := by decide +kernel
theorem dL_law_306 : decode cL_law 306 = .ok (.ireturn, 1) := by decide +kernel
theorem dL_law_307 : decode cL_law 307 = .ok (.aload_n 1, 1) := by decide +kernel
theorem dL_law_308 : decode cL_law 308 = .ok (.aload_n 0, 1) := by decide +kernel
theorem dL_law_309 : decode cL_law 309 = .ok (.iload 4, 2) := by decide +kernel
theorem dL_law_311 : decode cL_law 311 = .ok (.iconst 1, 1) := by decide +kernel
theorem dL_law_312 : decode cL_law 312 = .ok (.iadd, 1) := by decide +kernel
theorem dL_law_313 : decode cL_law 313 = .ok (.iaload, 1) := by decide +kernel
theorem dL_law_314 : decode cL_law 314 = .ok (.invokevirtual 44, 3) := by decide +kernel
theorem dL_law_317 : decode cL_law 317 = .ok (.aload_n 2, 1) := by decide +kernel
theorem dL_law_318 : decode cL_law 318 = .ok (.aload_n 0, 1) := by decide +kernel
theorem dL_law_319 : decode cL_law 319 = .ok (.iload 4, 2) := by decide +kernel
theorem dL_law_321 : decode cL_law 321 = .ok (.iconst 1, 1) := by decide +kernel
theorem dL_law_322 : decode cL_law 322 = .ok (.iadd, 1) := by decide +kernel
theorem dL_law_323 : decode cL_law 323 = .ok (.iaload, 1) := by decide +kernel
theorem dL_law_324 : decode cL_law 324 = .ok (.invokevirtual 47, 3) := by decide +kernel
theorem dL_law_327 : decode cL_law 327 = .ok (.if_icmp .eq 1360, 3) := by decide +kernel
theorem dL_law_330 : decode cL_law 330 = .ok (.iconst 0, 1) := by decide +kernel
theorem dL_law_331 : decode cL_law 331 = .ok (.ireturn, 1) := by decide +kernel
theorem dL_law_332 : decode cL_law 332 = .ok (.aload_n 1, 1) := by decide +kernel
theorem dL_law_333 : decode cL_law 333 = .ok (.invokevirtual 48, 3) := by decide +kernel
theorem dL_law_336 : decode cL_law 336 = .ok (.aload_n 2, 1) := by decide +kernel
theorem dL_law_337 : decode cL_law 337 = .ok (.invokevirtual 51, 3) := by decide +kernel
theorem dL_law_340 : decode cL_law 340 = .ok (.if_icmp .eq 1347, 3) := by decide +kernel
theorem dL_law_343 : decode cL_law 343 = .ok (.iconst 0, 1) := by decide +kernel
theorem dL_law_344 : decode cL_law 344 = .ok (.ireturn, 1) := by decide +kernel
theorem dL_law_345 : decode cL_law 345 = .ok (.aload_n 1, 1) := by decide +kernel
theorem dL_law_346 : decode cL_law 346 = .ok (.invokevirtual 52, 3) := by decide +kernel
theorem dL_law_349 : decode cL_law 349 = .ok (.aload_n 2, 1) := by decide +kernel
theorem dL_law_350 : decode cL_law 350 = .ok (.invokevirtual 55, 3) := by decide +kernel
theorem dL_law_353 : decode cL_law 353 = .ok (.if_icmp .eq 1334, 3) := by decide +kernel
theorem dL_law_356 : decode cL_law 356 = .ok (.iconst 0, 1) := by decide +kernel
theorem dL_law_357 : decode cL_law 357 = .ok (.ireturn, 1) := by decide +kernel
theorem dL_law_358 : decode cL_law 358 = .ok (.aload_n 1, 1) := by decide +kernel
theorem dL_law_359 : decode cL_law 359 = .ok (.aload_n 0, 1) := by decide +kernel
theorem dL_law_360 : decode cL_law 360 = .ok (.iload 4, 2) := by decide +kernel
theorem dL_law_362 : decode cL_law 362 = .ok (.iconst 1, 1) := by decide +kernel
theorem dL_law_363 : decode cL_law 363 = .ok (.iadd, 1) := by decide +kernel
theorem dL_law_364 : decode cL_law 364 = .ok (.iaload, 1) := by decide +kernel
theorem dL_law_365 : decode cL_law 365 = .ok (.aload_n 0, 1) := by decide +kernel
theorem dL_law_366 : decode cL_law 366 = .ok (.iload 4, 2) := by decide +kernel
theorem dL_law_368 : decode cL_law 368 = .ok (.iconst 2, 1) := by decide +kernel
theorem dL_law_369 : decode cL_law 369 = .ok (.iadd, 1) := by decide +kernel
theorem dL_law_370 : decode cL_law 370 = .ok (.iaload, 1) := by decide +kernel
theorem dL_law_371 : decode cL_law 371 = .ok (.aload_n 3, 1) := by decide +kernel
theorem dL_law_372 : decode cL_law 372 = .ok (.invokestatic 56, 3) := by decide +kernel
theorem dL_law_375 : decode cL_law 375 = .ok (.istore 5, 2) := by decide +kernel
theorem dL_law_377 : decode cL_law 377 = .ok (.aload_n 2, 1) := by decide +kernel
theorem dL_law_378 : decode cL_law 378 = .ok (.aload_n 0, 1) := by decide +kernel
theorem dL_law_379 : decode cL_law 379 = .ok (.iload 4, 2) := by decide +kernel
theorem dL_law_381 : decode cL_law 381 = .ok (.iconst 1, 1) := by decide +kernel
theorem dL_law_382 : decode cL_law 382 = .ok (.iadd, 1) := by decide +kernel
theorem dL_law_383 : decode cL_law 383 = .ok (.iaload, 1) := by decide +kernel
theorem dL_law_384 : decode cL_law 384 = .ok (.aload_n 0, 1) := by decide +kernel
theorem dL_law_385 : decode cL_law 385 = .ok (.iload 4, 2) := by decide +kernel
theorem dL_law_387 : decode cL_law 387 = .ok (.iconst 2, 1) := by decide +kernel
theorem dL_law_388 : decode cL_law 388 = .ok (.iadd, 1) := by decide +kernel
theorem dL_law_389 : decode cL_law 389 = .ok (.iaload, 1) := by decide +kernel
theorem dL_law_390 : decode cL_law 390 = .ok (.invokevirtual 61, 3) := by decide +kernel
theorem dL_law_393 : decode cL_law 393 = .ok (.istore 6, 2) := by decide +kernel
theorem dL_law_395 : decode cL_law 395 = .ok (.aload_n 2, 1) := by decide +kernel
theorem dL_law_396 : decode cL_law 396 = .ok (.invokevirtual 62, 3) := by decide +kernel
theorem dL_law_399 : decode cL_law 399 = .ok (.iload 5, 2) := by decide +kernel
theorem dL_law_401 : decode cL_law 401 = .ok (.if_icmp .eq 5, 3) := by decide +kernel
theorem dL_law_404 : decode cL_law 404 = .ok (.iconst 0, 1) := by decide +kernel
theorem dL_law_405 : decode cL_law 405 = .ok (.ireturn, 1) := by decide +kernel
theorem dL_law_406 : decode cL_law 406 = .ok (.iload 5, 2) := by decide +kernel
theorem dL_law_408 : decode cL_law 408 = .ok (.ifCond .ne 15, 3) := by decide +kernel
theorem dL_law_411 : decode cL_law 411 = .ok (.aload_n 3, 1) := by decide +kernel
theorem dL_law_412 : decode cL_law 412 = .ok (.iconst 0, 1) := by decide +kernel
theorem dL_law_413 : decode cL_law 413 = .ok (.laload, 1) := by decide +kernel
theorem dL_law_414 : decode cL_law 414 = .ok (.iload 6, 2) := by decide +kernel
theorem dL_law_416 : decode cL_law 416 = .ok (.i2l, 1) := by decide +kernel
theorem dL_law_417 : decode cL_law 417 = .ok (.lcmp, 1) := by decide +kernel
theorem dL_law_418 : decode cL_law 418 = .ok (.ifCond .eq 5, 3) := by decide +kernel
theorem dL_law_421 : decode cL_law 421 = .ok (.iconst 0, 1) := by decide +kernel
theorem dL_law_422 : decode cL_law 422 = .ok (.ireturn, 1) := by decide +kernel
theorem dL_law_423 : decode cL_law 423 = .ok (.goto 1264, 3) := by decide +kernel
theorem dL_law_426 : decode cL_law 426 = .ok (.aload_n 1, 1) := by decide +kernel
theorem dL_law_427 : decode cL_law 427 = .ok (.aload_n 0, 1) := by decide +kernel
theorem dL_law_428 : decode cL_law 428 = .ok (.iload 4, 2) := by decide +kernel
theorem dL_law_430 : decode cL_law 430 = .ok (.iconst 1, 1) := by decide +kernel
theorem dL_law_431 : decode cL_law 431 = .ok (.iadd, 1) := by decide +kernel
theorem dL_law_432 : decode cL_law 432 = .ok (.iaload, 1) := by decide +kernel
theorem dL_law_433 : decode cL_law 433 = .ok (.aload_n 0, 1) := by decide +kernel
theorem dL_law_434 : decode cL_law 434 = .ok (.iload 4, 2) := by decide +kernel
theorem dL_law_436 : decode cL_law 436 = .ok (.iconst 2, 1) := by decide +kernel
theorem dL_law_437 : decode cL_law 437 = .ok (.iadd, 1) := by decide +kernel
theorem dL_law_438 : decode cL_law 438 = .ok (.iaload, 1) := by decide +kernel
theorem dL_law_439 : decode cL_law 439 = .ok (.aload_n 3, 1) := by decide +kernel
theorem dL_law_440 : decode cL_law 440 = .ok (.invokestatic 65, 3) := by decide +kernel
theorem dL_law_443 : decode cL_law 443 = .ok (.istore 5, 2) := by decide +kernel
theorem dL_law_445 : decode cL_law 445 = .ok (.aload_n 2, 1) := by decide +kernel
theorem dL_law_446 : decode cL_law 446 = .ok (.aload_n 0, 1) := by decide +kernel
theorem dL_law_447 : decode cL_law 447 = .ok (.iload 4, 2) := by decide +kernel
theorem dL_law_449 : decode cL_law 449 = .ok (.iconst 1, 1) := by decide +kernel
theorem dL_law_450 : decode cL_law 450 = .ok (.iadd, 1) := by decide +kernel
theorem dL_law_451 : decode cL_law 451 = .ok (.iaload, 1) := by decide +kernel
theorem dL_law_452 : decode cL_law 452 = .ok (.aload_n 0, 1) := by decide +kernel
theorem dL_law_453 : decode cL_law 453 = .ok (.iload 4, 2) := by decide +kernel
theorem dL_law_455 : decode cL_law 455 = .ok (.iconst 2, 1) := by decide +kernel
theorem dL_law_456 : decode cL_law 456 = .ok (.iadd, 1) := by decide +kernel
theorem dL_law_457 : decode cL_law 457 = .ok (.iaload, 1) := by decide +kernel
theorem dL_law_458 : decode cL_law 458 = .ok (.invokevirtual 67, 3) := by decide +kernel
theorem dL_law_461 : decode cL_law 461 = .ok (.istore 6, 2) := by decide +kernel
theorem dL_law_463 : decode cL_law 463 = .ok (.aload_n 2, 1) := by decide +kernel
theorem dL_law_464 : decode cL_law 464 = .ok (.invokevirtual 62, 3) := by decide +kernel
theorem dL_law_467 : decode cL_law 467 = .ok (.iload 5, 2) := by decide +kernel
theorem dL_law_469 : decode cL_law 469 = .ok (.if_icmp .eq 5, 3) := by decide +kernel
theorem dL_law_472 : decode cL_law 472 = .ok (.iconst 0, 1) := by decide +kernel
theorem dL_law_473 : decode cL_law 473 = .ok (.ireturn, 1) := by decide +kernel
theorem dL_law_474 : decode cL_law 474 = .ok (.iload 5, 2) := by decide +kernel
theorem dL_law_476 : decode cL_law 476 = .ok (.ifCond .ne 15, 3) := by decide +kernel
theorem dL_law_479 : decode cL_law 479 = .ok (.aload_n 3, 1) := by decide +kernel
theorem dL_law_480 : decode cL_law 480 = .ok (.iconst 0, 1) := by decide +kernel
theorem dL_law_481 : decode cL_law 481 = .ok (.laload, 1) := by decide +kernel
theorem dL_law_482 : decode cL_law 482 = .ok (.iload 6, 2) := by decide +kernel
theorem dL_law_484 : decode cL_law 484 = .ok (.i2l, 1) := by decide +kernel
theorem dL_law_485 : decode cL_law 485 = .ok (.lcmp, 1) := by decide +kernel
theorem dL_law_486 : decode cL_law 486 = .ok (.ifCond .eq 5, 3) := by decide +kernel
theorem dL_law_489 : decode cL_law 489 = .ok (.iconst 0, 1) := by decide +kernel
theorem dL_law_490 : decode cL_law 490 = .ok (.ireturn, 1) := by decide +kernel
theorem dL_law_491 : decode cL_law 491 = .ok (.goto 1196, 3) := by decide +kernel
theorem dL_law_494 : decode cL_law 494 = .ok (.aload_n 1, 1) := by decide +kernel
theorem dL_law_495 : decode cL_law 495 = .ok (.aload_n 0, 1) := by decide +kernel
theorem dL_law_496 : decode cL_law 496 = .ok (.iload 4, 2) := by decide +kernel
theorem dL_law_498 : decode cL_law 498 = .ok (.iconst 1, 1) := by decide +kernel
theorem dL_law_499 : decode cL_law 499 = .ok (.iadd, 1) := by decide +kernel
theorem dL_law_500 : decode cL_law 500 = .ok (.iaload, 1) := by decide +kernel
theorem dL_law_501 : decode cL_law 501 = .ok (.aload_n 0, 1) := by decide +kernel
theorem dL_law_502 : decode cL_law 502 = .ok (.iload 4, 2) := by decide +kernel
theorem dL_law_504 : decode cL_law 504 = .ok (.iconst 2, 1) := by decide +kernel
theorem dL_law_505 : decode cL_law 505 = .ok (.iadd, 1) := by decide +kernel
theorem dL_law_506 : decode cL_law 506 = .ok (.iaload, 1) := by decide +kernel
theorem dL_law_507 : decode cL_law 507 = .ok (.aload_n 3, 1) := by decide +kernel
theorem dL_law_508 : decode cL_law 508 = .ok (.invokestatic 68, 3) := by decide +kernel
theorem dL_law_511 : decode cL_law 511 = .ok (.istore 5, 2) := by decide +kernel
theorem dL_law_513 : decode cL_law 513 = .ok (.aload_n 2, 1) := by decide +kernel
theorem dL_law_514 : decode cL_law 514 = .ok (.aload_n 0, 1) := by decide +kernel
theorem dL_law_515 : decode cL_law 515 = .ok (.iload 4, 2) := by decide +kernel
theorem dL_law_517 : decode cL_law 517 = .ok (.iconst 1, 1) := by decide +kernel
theorem dL_law_518 : decode cL_law 518 = .ok (.iadd, 1) := by decide +kernel
theorem dL_law_519 : decode cL_law 519 = .ok (.iaload, 1) := by decide +kernel
theorem dL_law_520 : decode cL_law 520 = .ok (.aload_n 0, 1) := by decide +kernel
theorem dL_law_521 : decode cL_law 521 = .ok (.iload 4, 2) := by decide +kernel
theorem dL_law_523 : decode cL_law 523 = .ok (.iconst 2, 1) := by decide +kernel
theorem dL_law_524 : decode cL_law 524 = .ok (.iadd, 1) := by decide +kernel
theorem dL_law_525 : decode cL_law 525 = .ok (.iaload, 1) := by decide +kernel
theorem dL_law_526 : decode cL_law 526 = .ok (.invokevirtual 70, 3) := by decide +kernel
theorem dL_law_529 : decode cL_law 529 = .ok (.istore 6, 2) := by decide +kernel
theorem dL_law_531 : decode cL_law 531 = .ok (.aload_n 2, 1) := by decide +kernel
theorem dL_law_532 : decode cL_law 532 = .ok (.invokevirtual 62, 3) := by decide +kernel
theorem dL_law_535 : decode cL_law 535 = .ok (.iload 5, 2) := by decide +kernel
theorem dL_law_537 : decode cL_law 537 = .ok (.if_icmp .eq 5, 3) := by decide +kernel
theorem dL_law_540 : decode cL_law 540 = .ok (.iconst 0, 1) := by decide +kernel
theorem dL_law_541 : decode cL_law 541 = .ok (.ireturn, 1) := by decide +kernel
theorem dL_law_542 : decode cL_law 542 = .ok (.iload 5, 2) := by decide +kernel
theorem dL_law_544 : decode cL_law 544 = .ok (.ifCond .ne 15, 3) := by decide +kernel
theorem dL_law_547 : decode cL_law 547 = .ok (.aload_n 3, 1) := by decide +kernel
theorem dL_law_548 : decode cL_law 548 = .ok (.iconst 0, 1) := by decide +kernel
theorem dL_law_549 : decode cL_law 549 = .ok (.laload, 1) := by decide +kernel
theorem dL_law_550 : decode cL_law 550 = .ok (.iload 6, 2) := by decide +kernel
theorem dL_law_552 : decode cL_law 552 = .ok (.i2l, 1) := by decide +kernel
theorem dL_law_553 : decode cL_law 553 = .ok (.lcmp, 1) := by decide +kernel
theorem dL_law_554 : decode cL_law 554 = .ok (.ifCond .eq 5, 3) := by decide +kernel
theorem dL_law_557 : decode cL_law 557 = .ok (.iconst 0, 1) := by decide +kernel
theorem dL_law_558 : decode cL_law 558 = .ok (.ireturn, 1) := by decide +kernel
theorem dL_law_559 : decode cL_law 559 = .ok (.goto 1128, 3) := by decide +kernel
theorem dL_law_562 : decode cL_law 562 = .ok (.aload_n 1, 1) := by decide +kernel
theorem dL_law_563 : decode cL_law 563 = .ok (.aload_n 0, 1) := by decide +kernel
theorem dL_law_564 : decode cL_law 564 = .ok (.iload 4, 2) := by decide +kernel
theorem dL_law_566 : decode cL_law 566 = .ok (.iconst 1, 1) := by decide +kernel
theorem dL_law_567 : decode cL_law 567 = .ok (.iadd, 1) := by decide +kernel
theorem dL_law_568 : decode cL_law 568 = .ok (.iaload, 1) := by decide +kernel
theorem dL_law_569 : decode cL_law 569 = .ok (.aload_n 0, 1) := by decide +kernel
theorem dL_law_570 : decode cL_law 570 = .ok (.iload 4, 2) := by decide +kernel
theorem dL_law_572 : decode cL_law 572 = .ok (.iconst 2, 1) := by decide +kernel
theorem dL_law_573 : decode cL_law 573 = .ok (.iadd, 1) := by decide +kernel
theorem dL_law_574 : decode cL_law 574 = .ok (.iaload, 1) := by decide +kernel
theorem dL_law_575 : decode cL_law 575 = .ok (.aload_n 0, 1) := by decide +kernel
theorem dL_law_576 : decode cL_law 576 = .ok (.iload 4, 2) := by decide +kernel
theorem dL_law_578 : decode cL_law 578 = .ok (.iconst 3, 1) := by decide +kernel
theorem dL_law_579 : decode cL_law 579 = .ok (.iadd, 1) := by decide +kernel
theorem dL_law_580 : decode cL_law 580 = .ok (.iaload, 1) := by decide +kernel
theorem dL_law_581 : decode cL_law 581 = .ok (.invokevirtual 71, 3) := by decide +kernel
theorem dL_law_584 : decode cL_law 584 = .ok (.aload_n 2, 1) := by decide +kernel
theorem dL_law_585 : decode cL_law 585 = .ok (.aload_n 0, 1) := by decide +kernel
theorem dL_law_586 : decode cL_law 586 = .ok (.iload 4, 2) := by decide +kernel
theorem dL_law_588 : decode cL_law 588 = .ok (.iconst 1, 1) := by decide +kernel
theorem dL_law_589 : decode cL_law 589 = .ok (.iadd, 1) := by decide +kernel
theorem dL_law_590 : decode cL_law 590 = .ok (.iaload, 1) := by decide +kernel
theorem dL_law_591 : decode cL_law 591 = .ok (.aload_n 0, 1) := by decide +kernel
theorem dL_law_592 : decode cL_law 592 = .ok (.iload 4, 2) := by decide +kernel
theorem dL_law_594 : decode cL_law 594 = .ok (.iconst 2, 1) := by decide +kernel
theorem dL_law_595 : decode cL_law 595 = .ok (.iadd, 1) := by decide +kernel
theorem dL_law_596 : decode cL_law 596 = .ok (.iaload, 1) := by decide +kernel
theorem dL_law_597 : decode cL_law 597 = .ok (.aload_n 0, 1) := by decide +kernel
theorem dL_law_598 : decode cL_law 598 = .ok (.iload 4, 2) := by decide +kernel
theorem dL_law_600 : decode cL_law 600 = .ok (.iconst 3, 1) := by decide +kernel
theorem dL_law_601 : decode cL_law 601 = .ok (.iadd, 1) := by decide +kernel
theorem dL_law_602 : decode cL_law 602 = .ok (.iaload, 1) := by decide +kernel
theorem dL_law_603 : decode cL_law 603 = .ok (.invokevirtual 75, 3) := by decide +kernel
theorem dL_law_606 : decode cL_law 606 = .ok (.if_icmp .eq 1081, 3) := by decide +kernel
theorem dL_law_609 : decode cL_law 609 = .ok (.iconst 0, 1) := by decide +kernel
theorem dL_law_610 : decode cL_law 610 = .ok (.ireturn, 1) := by decide +kernel
theorem dL_law_611 : decode cL_law 611 = .ok (.aload_n 1, 1) := by decide +kernel
theorem dL_law_612 : decode cL_law 612 = .ok (.aload_n 0, 1) := by decide +kernel
theorem dL_law_613 : decode cL_law 613 = .ok (.iload 4, 2) := by decide +kernel
theorem dL_law_615 : decode cL_law 615 = .ok (.iconst 1, 1) := by decide +kernel
theorem dL_law_616 : decode cL_law 616 = .ok (.iadd, 1) := by decide +kernel
theorem dL_law_617 : decode cL_law 617 = .ok (.iaload, 1) := by decide +kernel
theorem dL_law_618 : decode cL_law 618 = .ok (.invokevirtual 76, 3) := by decide +kernel
theorem dL_law_621 : decode cL_law 621 = .ok (.aload_n 2, 1) := by decide +kernel
theorem dL_law_622 : decode cL_law 622 = .ok (.aload_n 0, 1) := by decide +kernel
theorem dL_law_623 : decode cL_law 623 = .ok (.iload 4, 2) := by decide +kernel
theorem dL_law_625 : decode cL_law 625 = .ok (.iconst 1, 1) := by decide +kernel
theorem dL_law_626 : decode cL_law 626 = .ok (.iadd, 1) := by decide +kernel
theorem dL_law_627 : decode cL_law 627 = .ok (.iaload, 1) := by decide +kernel
theorem dL_law_628 : decode cL_law 628 = .ok (.invokevirtual 79, 3) := by decide +kernel
theorem dL_law_631 : decode cL_law 631 = .ok (.if_icmp .eq 1056, 3) := by decide +kernel
theorem dL_law_634 : decode cL_law 634 = .ok (.iconst 0, 1) := by decide +kernel
theorem dL_law_635 : decode cL_law 635 = .ok (.ireturn, 1) := by decide +kernel
theorem dL_law_636 : decode cL_law 636 = .ok (.aload_n 1, 1) := by decide +kernel
theorem dL_law_637 : decode cL_law 637 = .ok (.aload_n 0, 1) := by decide +kernel
theorem dL_law_638 : decode cL_law 638 = .ok (.iload 4, 2) := by decide +kernel
theorem dL_law_640 : decode cL_law 640 = .ok (.iconst 1, 1) := by decide +kernel
theorem dL_law_641 : decode cL_law 641 = .ok (.iadd, 1) := by decide +kernel
theorem dL_law_642 : decode cL_law 642 = .ok (.iaload, 1) := by decide +kernel
theorem dL_law_643 : decode cL_law 643 = .ok (.aload_n 0, 1) := by decide +kernel
theorem dL_law_644 : decode cL_law 644 = .ok (.iload 4, 2) := by decide +kernel
theorem dL_law_646 : decode cL_law 646 = .ok (.iconst 2, 1) := by decide +kernel
theorem dL_law_647 : decode cL_law 647 = .ok (.iadd, 1) := by decide +kernel
theorem dL_law_648 : decode cL_law 648 = .ok (.iaload, 1) := by decide +kernel
theorem dL_law_649 : decode cL_law 649 = .ok (.aload_n 0, 1) := by decide +kernel
theorem dL_law_650 : decode cL_law 650 = .ok (.iload 4, 2) := by decide +kernel
theorem dL_law_652 : decode cL_law 652 = .ok (.iconst 3, 1) := by decide +kernel
theorem dL_law_653 : decode cL_law 653 = .ok (.iadd, 1) := by decide +kernel
theorem dL_law_654 : decode cL_law 654 = .ok (.iaload, 1) := by decide +kernel
theorem dL_law_655 : decode cL_law 655 = .ok (.aload_n 0, 1) := by decide +kernel
theorem dL_law_656 : decode cL_law 656 = .ok (.iload 4, 2) := by decide +kernel
theorem dL_law_658 : decode cL_law 658 = .ok (.iconst 4, 1) := by decide +kernel
theorem dL_law_659 : decode cL_law 659 = .ok (.iadd, 1) := by decide +kernel
theorem dL_law_660 : decode cL_law 660 = .ok (.iaload, 1) := by decide +kernel
theorem dL_law_661 : decode cL_law 661 = .ok (.invokevirtual 80, 3) := by decide +kernel
theorem dL_law_664 : decode cL_law 664 = .ok (.aload_n 2, 1) := by decide +kernel
theorem dL_law_665 : decode cL_law 665 = .ok (.aload_n 0, 1) := by decide +kernel
theorem dL_law_666 : decode cL_law 666 = .ok (.iload 4, 2) := by decide +kernel
theorem dL_law_668 : decode cL_law 668 = .ok (.iconst 1, 1) := by decide +kernel
theorem dL_law_669 : decode cL_law 669 = .ok (.iadd, 1) := by decide +kernel
theorem dL_law_670 : decode cL_law 670 = .ok (.iaload, 1) := by decide +kernel
theorem dL_law_671 : decode cL_law 671 = .ok (.aload_n 0, 1) := by decide +kernel
theorem dL_law_672 : decode cL_law 672 = .ok (.iload 4, 2) := by decide +kernel
theorem dL_law_674 : decode cL_law 674 = .ok (.iconst 2, 1) := by decide +kernel
theorem dL_law_675 : decode cL_law 675 = .ok (.iadd, 1) := by decide +kernel
theorem dL_law_676 : decode cL_law 676 = .ok (.iaload, 1) := by decide +kernel
theorem dL_law_677 : decode cL_law 677 = .ok (.aload_n 0, 1) := by decide +kernel
theorem dL_law_678 : decode cL_law 678 = .ok (.iload 4, 2) := by decide +kernel
theorem dL_law_680 : decode cL_law 680 = .ok (.iconst 3, 1) := by decide +kernel
theorem dL_law_681 : decode cL_law 681 = .ok (.iadd, 1) := by decide +kernel
theorem dL_law_682 : decode cL_law 682 = .ok (.iaload, 1) := by decide +kernel
theorem dL_law_683 : decode cL_law 683 = .ok (.aload_n 0, 1) := by decide +kernel
theorem dL_law_684 : decode cL_law 684 = .ok (.iload 4, 2) := by decide +kernel
theorem dL_law_686 : decode cL_law 686 = .ok (.iconst 4, 1) := by decide +kernel
theorem dL_law_687 : decode cL_law 687 = .ok (.iadd, 1) := by decide +kernel
theorem dL_law_688 : decode cL_law 688 = .ok (.iaload, 1) := by decide +kernel
theorem dL_law_689 : decode cL_law 689 = .ok (.invokevirtual 84, 3) := by decide +kernel
theorem dL_law_692 : decode cL_law 692 = .ok (.if_icmp .eq 995, 3) := by decide +kernel
theorem dL_law_695 : decode cL_law 695 = .ok (.iconst 0, 1) := by decide +kernel
theorem dL_law_696 : decode cL_law 696 = .ok (.ireturn, 1) := by decide +kernel
theorem dL_law_697 : decode cL_law 697 = .ok (.aload_n 1, 1) := by decide +kernel
theorem dL_law_698 : decode cL_law 698 = .ok (.aload_n 0, 1) := by decide +kernel
theorem dL_law_699 : decode cL_law 699 = .ok (.iload 4, 2) := by decide +kernel
theorem dL_law_701 : decode cL_law 701 = .ok (.iconst 1, 1) := by decide +kernel
theorem dL_law_702 : decode cL_law 702 = .ok (.iadd, 1) := by decide +kernel
theorem dL_law_703 : decode cL_law 703 = .ok (.iaload, 1) := by decide +kernel
theorem dL_law_704 : decode cL_law 704 = .ok (.aload_n 0, 1) := by decide +kernel
theorem dL_law_705 : decode cL_law 705 = .ok (.iload 4, 2) := by decide +kernel
theorem dL_law_707 : decode cL_law 707 = .ok (.iconst 2, 1) := by decide +kernel
theorem dL_law_708 : decode cL_law 708 = .ok (.iadd, 1) := by decide +kernel
theorem dL_law_709 : decode cL_law 709 = .ok (.iaload, 1) := by decide +kernel
theorem dL_law_710 : decode cL_law 710 = .ok (.aload_n 0, 1) := by decide +kernel
theorem dL_law_711 : decode cL_law 711 = .ok (.iload 4, 2) := by decide +kernel
theorem dL_law_713 : decode cL_law 713 = .ok (.iconst 3, 1) := by decide +kernel
theorem dL_law_714 : decode cL_law 714 = .ok (.iadd, 1) := by decide +kernel
theorem dL_law_715 : decode cL_law 715 = .ok (.iaload, 1) := by decide +kernel
theorem dL_law_716 : decode cL_law 716 = .ok (.invokevirtual 85, 3) := by decide +kernel
theorem dL_law_719 : decode cL_law 719 = .ok (.aload_n 2, 1) := by decide +kernel
theorem dL_law_720 : decode cL_law 720 = .ok (.aload_n 0, 1) := by decide +kernel
theorem dL_law_721 : decode cL_law 721 = .ok (.iload 4, 2) := by decide +kernel
theorem dL_law_723 : decode cL_law 723 = .ok (.iconst 1, 1) := by decide +kernel
theorem dL_law_724 : decode cL_law 724 = .ok (.iadd, 1) := by decide +kernel
theorem dL_law_725 : decode cL_law 725 = .ok (.iaload, 1) := by decide +kernel
theorem dL_law_726 : decode cL_law 726 = .ok (.aload_n 0, 1) := by decide +kernel
theorem dL_law_727 : decode cL_law 727 = .ok (.iload 4, 2) := by decide +kernel
theorem dL_law_729 : decode cL_law 729 = .ok (.iconst 2, 1) := by decide +kernel
theorem dL_law_730 : decode cL_law 730 = .ok (.iadd, 1) := by decide +kernel
theorem dL_law_731 : decode cL_law 731 = .ok (.iaload, 1) := by decide +kernel
theorem dL_law_732 : decode cL_law 732 = .ok (.aload_n 0, 1) := by decide +kernel
theorem dL_law_733 : decode cL_law 733 = .ok (.iload 4, 2) := by decide +kernel
theorem dL_law_735 : decode cL_law 735 = .ok (.iconst 3, 1) := by decide +kernel
theorem dL_law_736 : decode cL_law 736 = .ok (.iadd, 1) := by decide +kernel
theorem dL_law_737 : decode cL_law 737 = .ok (.iaload, 1) := by decide +kernel
theorem dL_law_738 : decode cL_law 738 = .ok (.invokevirtual 88, 3) := by decide +kernel
theorem dL_law_741 : decode cL_law 741 = .ok (.if_icmp .eq 946, 3) := by decide +kernel
theorem dL_law_744 : decode cL_law 744 = .ok (.iconst 0, 1) := by decide +kernel
theorem dL_law_745 : decode cL_law 745 = .ok (.ireturn, 1) := by decide +kernel
theorem dL_law_746 : decode cL_law 746 = .ok (.aload_n 1, 1) := by decide +kernel
theorem dL_law_747 : decode cL_law 747 = .ok (.aload_n 0, 1) := by decide +kernel
theorem dL_law_748 : decode cL_law 748 = .ok (.iload 4, 2) := by decide +kernel
theorem dL_law_750 : decode cL_law 750 = .ok (.iconst 1, 1) := by decide +kernel
theorem dL_law_751 : decode cL_law 751 = .ok (.iadd, 1) := by decide +kernel
theorem dL_law_752 : decode cL_law 752 = .ok (.iaload, 1) := by decide +kernel
theorem dL_law_753 : decode cL_law 753 = .ok (.aload_n 0, 1) := by decide +kernel
theorem dL_law_754 : decode cL_law 754 = .ok (.iload 4, 2) := by decide +kernel
theorem dL_law_756 : decode cL_law 756 = .ok (.iconst 2, 1) := by decide +kernel
theorem dL_law_757 : decode cL_law 757 = .ok (.iadd, 1) := by decide +kernel
theorem dL_law_758 : decode cL_law 758 = .ok (.iaload, 1) := by decide +kernel
theorem dL_law_759 : decode cL_law 759 = .ok (.aload_n 0, 1) := by decide +kernel
theorem dL_law_760 : decode cL_law 760 = .ok (.iload 4, 2) := by decide +kernel
theorem dL_law_762 : decode cL_law 762 = .ok (.iconst 3, 1) := by decide +kernel
theorem dL_law_763 : decode cL_law 763 = .ok (.iadd, 1) := by decide +kernel
theorem dL_law_764 : decode cL_law 764 = .ok (.iaload, 1) := by decide +kernel
theorem dL_law_765 : decode cL_law 765 = .ok (.invokevirtual 89, 3) := by decide +kernel
theorem dL_law_768 : decode cL_law 768 = .ok (.aload_n 2, 1) := by decide +kernel
theorem dL_law_769 : decode cL_law 769 = .ok (.aload_n 0, 1) := by decide +kernel
theorem dL_law_770 : decode cL_law 770 = .ok (.iload 4, 2) := by decide +kernel
theorem dL_law_772 : decode cL_law 772 = .ok (.iconst 1, 1) := by decide +kernel
theorem dL_law_773 : decode cL_law 773 = .ok (.iadd, 1) := by decide +kernel
theorem dL_law_774 : decode cL_law 774 = .ok (.iaload, 1) := by decide +kernel
theorem dL_law_775 : decode cL_law 775 = .ok (.aload_n 0, 1) := by decide +kernel
theorem dL_law_776 : decode cL_law 776 = .ok (.iload 4, 2) := by decide +kernel
theorem dL_law_778 : decode cL_law 778 = .ok (.iconst 2, 1) := by decide +kernel
theorem dL_law_779 : decode cL_law 779 = .ok (.iadd, 1) := by decide +kernel
theorem dL_law_780 : decode cL_law 780 = .ok (.iaload, 1) := by decide +kernel
theorem dL_law_781 : decode cL_law 781 = .ok (.aload_n 0, 1) := by decide +kernel
theorem dL_law_782 : decode cL_law 782 = .ok (.iload 4, 2) := by decide +kernel
theorem dL_law_784 : decode cL_law 784 = .ok (.iconst 3, 1) := by decide +kernel
theorem dL_law_785 : decode cL_law 785 = .ok (.iadd, 1) := by decide +kernel
theorem dL_law_786 : decode cL_law 786 = .ok (.iaload, 1) := by decide +kernel
theorem dL_law_787 : decode cL_law 787 = .ok (.invokevirtual 92, 3) := by decide +kernel
theorem dL_law_790 : decode cL_law 790 = .ok (.if_icmp .eq 897, 3) := by decide +kernel
theorem dL_law_793 : decode cL_law 793 = .ok (.iconst 0, 1) := by decide +kernel
theorem dL_law_794 : decode cL_law 794 = .ok (.ireturn, 1) := by decide +kernel
theorem dL_law_795 : decode cL_law 795 = .ok (.aload_n 1, 1) := by decide +kernel
theorem dL_law_796 : decode cL_law 796 = .ok (.aload_n 0, 1) := by decide +kernel
theorem dL_law_797 : decode cL_law 797 = .ok (.iload 4, 2) := by decide +kernel
theorem dL_law_799 : decode cL_law 799 = .ok (.iconst 1, 1) := by decide +kernel
theorem dL_law_800 : decode cL_law 800 = .ok (.iadd, 1) := by decide +kernel
theorem dL_law_801 : decode cL_law 801 = .ok (.iaload, 1) := by decide +kernel
theorem dL_law_802 : decode cL_law 802 = .ok (.aload_n 0, 1) := by decide +kernel
theorem dL_law_803 : decode cL_law 803 = .ok (.iload 4, 2) := by decide +kernel
theorem dL_law_805 : decode cL_law 805 = .ok (.iconst 2, 1) := by decide +kernel
theorem dL_law_806 : decode cL_law 806 = .ok (.iadd, 1) := by decide +kernel
theorem dL_law_807 : decode cL_law 807 = .ok (.iaload, 1) := by decide +kernel
theorem dL_law_808 : decode cL_law 808 = .ok (.aload_n 0, 1) := by decide +kernel
theorem dL_law_809 : decode cL_law 809 = .ok (.iload 4, 2) := by decide +kernel
theorem dL_law_811 : decode cL_law 811 = .ok (.iconst 3, 1) := by decide +kernel
theorem dL_law_812 : decode cL_law 812 = .ok (.iadd, 1) := by decide +kernel
theorem dL_law_813 : decode cL_law 813 = .ok (.iaload, 1) := by decide +kernel
theorem dL_law_814 : decode cL_law 814 = .ok (.aload_n 0, 1) := by decide +kernel
theorem dL_law_815 : decode cL_law 815 = .ok (.iload 4, 2) := by decide +kernel
theorem dL_law_817 : decode cL_law 817 = .ok (.iconst 4, 1) := by decide +kernel
theorem dL_law_818 : decode cL_law 818 = .ok (.iadd, 1) := by decide +kernel
theorem dL_law_819 : decode cL_law 819 = .ok (.iaload, 1) := by decide +kernel
theorem dL_law_820 : decode cL_law 820 = .ok (.invokevirtual 93, 3) := by decide +kernel
theorem dL_law_823 : decode cL_law 823 = .ok (.aload_n 2, 1) := by decide +kernel
theorem dL_law_824 : decode cL_law 824 = .ok (.aload_n 0, 1) := by decide +kernel
theorem dL_law_825 : decode cL_law 825 = .ok (.iload 4, 2) := by decide +kernel
theorem dL_law_827 : decode cL_law 827 = .ok (.iconst 1, 1) := by decide +kernel
theorem dL_law_828 : decode cL_law 828 = .ok (.iadd, 1) := by decide +kernel
theorem dL_law_829 : decode cL_law 829 = .ok (.iaload, 1) := by decide +kernel
theorem dL_law_830 : decode cL_law 830 = .ok (.aload_n 0, 1) := by decide +kernel
theorem dL_law_831 : decode cL_law 831 = .ok (.iload 4, 2) := by decide +kernel
theorem dL_law_833 : decode cL_law 833 = .ok (.iconst 2, 1) := by decide +kernel
theorem dL_law_834 : decode cL_law 834 = .ok (.iadd, 1) := by decide +kernel
theorem dL_law_835 : decode cL_law 835 = .ok (.iaload, 1) := by decide +kernel
theorem dL_law_836 : decode cL_law 836 = .ok (.aload_n 0, 1) := by decide +kernel
theorem dL_law_837 : decode cL_law 837 = .ok (.iload 4, 2) := by decide +kernel
theorem dL_law_839 : decode cL_law 839 = .ok (.iconst 3, 1) := by decide +kernel
theorem dL_law_840 : decode cL_law 840 = .ok (.iadd, 1) := by decide +kernel
theorem dL_law_841 : decode cL_law 841 = .ok (.iaload, 1) := by decide +kernel
theorem dL_law_842 : decode cL_law 842 = .ok (.aload_n 0, 1) := by decide +kernel
theorem dL_law_843 : decode cL_law 843 = .ok (.iload 4, 2) := by decide +kernel
theorem dL_law_845 : decode cL_law 845 = .ok (.iconst 4, 1) := by decide +kernel
theorem dL_law_846 : decode cL_law 846 = .ok (.iadd, 1) := by decide +kernel
theorem dL_law_847 : decode cL_law 847 = .ok (.iaload, 1) := by decide +kernel
theorem dL_law_848 : decode cL_law 848 = .ok (.invokevirtual 96, 3) := by decide +kernel
theorem dL_law_851 : decode cL_law 851 = .ok (.if_icmp .eq 836, 3) := by decide +kernel
theorem dL_law_854 : decode cL_law 854 = .ok (.iconst 0, 1) := by decide +kernel
theorem dL_law_855 : decode cL_law 855 = .ok (.ireturn, 1) := by decide +kernel
theorem dL_law_856 : decode cL_law 856 = .ok (.aload_n 1, 1) := by decide +kernel
theorem dL_law_857 : decode cL_law 857 = .ok (.aload_n 0, 1) := by decide +kernel
theorem dL_law_858 : decode cL_law 858 = .ok (.iload 4, 2) := by decide +kernel
theorem dL_law_860 : decode cL_law 860 = .ok (.iconst 1, 1) := by decide +kernel
theorem dL_law_861 : decode cL_law 861 = .ok (.iadd, 1) := by decide +kernel
theorem dL_law_862 : decode cL_law 862 = .ok (.iaload, 1) := by decide +kernel
theorem dL_law_863 : decode cL_law 863 = .ok (.invokevirtual 97, 3) := by decide +kernel
theorem dL_law_866 : decode cL_law 866 = .ok (.aload_n 2, 1) := by decide +kernel
theorem dL_law_867 : decode cL_law 867 = .ok (.aload_n 0, 1) := by decide +kernel
theorem dL_law_868 : decode cL_law 868 = .ok (.iload 4, 2) := by decide +kernel
theorem dL_law_870 : decode cL_law 870 = .ok (.iconst 1, 1) := by decide +kernel
theorem dL_law_871 : decode cL_law 871 = .ok (.iadd, 1) := by decide +kernel
theorem dL_law_872 : decode cL_law 872 = .ok (.iaload, 1) := by decide +kernel
theorem dL_law_873 : decode cL_law 873 = .ok (.invokevirtual 100, 3) := by decide +kernel
theorem dL_law_876 : decode cL_law 876 = .ok (.if_icmp .eq 811, 3) := by decide +kernel
theorem dL_law_879 : decode cL_law 879 = .ok (.iconst 0, 1) := by decide +kernel
theorem dL_law_880 : decode cL_law 880 = .ok (.ireturn, 1) := by decide +kernel
theorem dL_law_881 : decode cL_law 881 = .ok (.aload_n 1, 1) := by decide +kernel
theorem dL_law_882 : decode cL_law 882 = .ok (.aload_n 0, 1) := by decide +kernel
theorem dL_law_883 : decode cL_law 883 = .ok (.iload 4, 2) := by decide +kernel
theorem dL_law_885 : decode cL_law 885 = .ok (.iconst 1, 1) := by decide +kernel
theorem dL_law_886 : decode cL_law 886 = .ok (.iadd, 1) := by decide +kernel
theorem dL_law_887 : decode cL_law 887 = .ok (.iaload, 1) := by decide +kernel
theorem dL_law_888 : decode cL_law 888 = .ok (.aload_n 0, 1) := by decide +kernel
theorem dL_law_889 : decode cL_law 889 = .ok (.iload 4, 2) := by decide +kernel
theorem dL_law_891 : decode cL_law 891 = .ok (.iconst 2, 1) := by decide +kernel
theorem dL_law_892 : decode cL_law 892 = .ok (.iadd, 1) := by decide +kernel
theorem dL_law_893 : decode cL_law 893 = .ok (.iaload, 1) := by decide +kernel
theorem dL_law_894 : decode cL_law 894 = .ok (.invokevirtual 101, 3) := by decide +kernel
theorem dL_law_897 : decode cL_law 897 = .ok (.aload_n 2, 1) := by decide +kernel
theorem dL_law_898 : decode cL_law 898 = .ok (.aload_n 0, 1) := by decide +kernel
theorem dL_law_899 : decode cL_law 899 = .ok (.iload 4, 2) := by decide +kernel
theorem dL_law_901 : decode cL_law 901 = .ok (.iconst 1, 1) := by decide +kernel
theorem dL_law_902 : decode cL_law 902 = .ok (.iadd, 1) := by decide +kernel
theorem dL_law_903 : decode cL_law 903 = .ok (.iaload, 1) := by decide +kernel
theorem dL_law_904 : decode cL_law 904 = .ok (.aload_n 0, 1) := by decide +kernel
theorem dL_law_905 : decode cL_law 905 = .ok (.iload 4, 2) := by decide +kernel
theorem dL_law_907 : decode cL_law 907 = .ok (.iconst 2, 1) := by decide +kernel
theorem dL_law_908 : decode cL_law 908 = .ok (.iadd, 1) := by decide +kernel
theorem dL_law_909 : decode cL_law 909 = .ok (.iaload, 1) := by decide +kernel
theorem dL_law_910 : decode cL_law 910 = .ok (.invokevirtual 104, 3) := by decide +kernel
theorem dL_law_913 : decode cL_law 913 = .ok (.if_icmp .eq 774, 3) := by decide +kernel
theorem dL_law_916 : decode cL_law 916 = .ok (.iconst 0, 1) := by decide +kernel
theorem dL_law_917 : decode cL_law 917 = .ok (.ireturn, 1) := by decide +kernel
theorem dL_law_918 : decode cL_law 918 = .ok (.aload_n 1, 1) := by decide +kernel
theorem dL_law_919 : decode cL_law 919 = .ok (.invokevirtual 105, 3) := by decide +kernel
theorem dL_law_922 : decode cL_law 922 = .ok (.aload_n 2, 1) := by decide +kernel
theorem dL_law_923 : decode cL_law 923 = .ok (.invokevirtual 108, 3) := by decide +kernel
theorem dL_law_926 : decode cL_law 926 = .ok (.if_icmp .eq 761, 3) := by decide +kernel
theorem dL_law_929 : decode cL_law 929 = .ok (.iconst 0, 1) := by decide +kernel
theorem dL_law_930 : decode cL_law 930 = .ok (.ireturn, 1) := by decide +kernel
theorem dL_law_931 : decode cL_law 931 = .ok (.aload_n 1, 1) := by decide +kernel
theorem dL_law_932 : decode cL_law 932 = .ok (.invokevirtual 109, 3) := by decide +kernel
theorem dL_law_935 : decode cL_law 935 = .ok (.aload_n 2, 1) := by decide +kernel
theorem dL_law_936 : decode cL_law 936 = .ok (.invokevirtual 112, 3) := by decide +kernel
theorem dL_law_939 : decode cL_law 939 = .ok (.if_icmp .eq 748, 3) := by decide +kernel
theorem dL_law_942 : decode cL_law 942 = .ok (.iconst 0, 1) := by decide +kernel
theorem dL_law_943 : decode cL_law 943 = .ok (.ireturn, 1) := by decide +kernel
theorem dL_law_944 : decode cL_law 944 = .ok (.aload_n 1, 1) := by decide +kernel
theorem dL_law_945 : decode cL_law 945 = .ok (.invokevirtual 113, 3) := by decide +kernel
theorem dL_law_948 : decode cL_law 948 = .ok (.aload_n 2, 1) := by decide +kernel
theorem dL_law_949 : decode cL_law 949 = .ok (.invokevirtual 116, 3) := by decide +kernel
theorem dL_law_952 : decode cL_law 952 = .ok (.if_icmp .eq 735, 3) := by decide +kernel
theorem dL_law_955 : decode cL_law 955 = .ok (.iconst 0, 1) := by decide +kernel
theorem dL_law_956 : decode cL_law 956 = .ok (.ireturn, 1) := by decide +kernel
theorem dL_law_957 : decode cL_law 957 = .ok (.aload_n 1, 1) := by decide +kernel
theorem dL_law_958 : decode cL_law 958 = .ok (.aload_n 0, 1) := by decide +kernel
theorem dL_law_959 : decode cL_law 959 = .ok (.iload 4, 2) := by decide +kernel
theorem dL_law_961 : decode cL_law 961 = .ok (.iconst 1, 1) := by decide +kernel
theorem dL_law_962 : decode cL_law 962 = .ok (.iadd, 1) := by decide +kernel
theorem dL_law_963 : decode cL_law 963 = .ok (.iaload, 1) := by decide +kernel
theorem dL_law_964 : decode cL_law 964 = .ok (.invokevirtual 117, 3) := by decide +kernel
theorem dL_law_967 : decode cL_law 967 = .ok (.aload_n 2, 1) := by decide +kernel
theorem dL_law_968 : decode cL_law 968 = .ok (.aload_n 0, 1) := by decide +kernel
theorem dL_law_969 : decode cL_law 969 = .ok (.iload 4, 2) := by decide +kernel
theorem dL_law_971 : decode cL_law 971 = .ok (.iconst 1, 1) := by decide +kernel
theorem dL_law_972 : decode cL_law 972 = .ok (.iadd, 1) := by decide +kernel
theorem dL_law_973 : decode cL_law 973 = .ok (.iaload, 1) := by decide +kernel
theorem dL_law_974 : decode cL_law 974 = .ok (.invokevirtual 120, 3) := by decide +kernel
theorem dL_law_977 : decode cL_law 977 = .ok (.if_icmp .eq 710, 3) := by decide +kernel
theorem dL_law_980 : decode cL_law 980 = .ok (.iconst 0, 1) := by decide +kernel
theorem dL_law_981 : decode cL_law 981 = .ok (.ireturn, 1) := by decide +kernel
theorem dL_law_982 : decode cL_law 982 = .ok (.aload_n 1, 1) := by decide +kernel
theorem dL_law_983 : decode cL_law 983 = .ok (.invokevirtual 121, 3) := by decide +kernel
theorem dL_law_986 : decode cL_law 986 = .ok (.aload_n 2, 1) := by decide +kernel
theorem dL_law_987 : decode cL_law 987 = .ok (.invokevirtual 124, 3) := by decide +kernel
theorem dL_law_990 : decode cL_law 990 = .ok (.if_icmp .eq 697, 3) := by decide +kernel
theorem dL_law_993 : decode cL_law 993 = .ok (.iconst 0, 1) := by decide +kernel
theorem dL_law_994 : decode cL_law 994 = .ok (.ireturn, 1) := by decide +kernel
theorem dL_law_995 : decode cL_law 995 = .ok (.aload_n 1, 1) := by decide +kernel
theorem dL_law_996 : decode cL_law 996 = .ok (.invokevirtual 125, 3) := by decide +kernel
theorem dL_law_999 : decode cL_law 999 = .ok (.aload_n 2, 1) := by decide +kernel
theorem dL_law_1000 : decode cL_law 1000 = .ok (.invokevirtual 128, 3) := by decide +kernel
theorem dL_law_1003 : decode cL_law 1003 = .ok (.if_icmp .eq 684, 3) := by decide +kernel
theorem dL_law_1006 : decode cL_law 1006 = .ok (.iconst 0, 1) := by decide +kernel
theorem dL_law_1007 : decode cL_law 1007 = .ok (.ireturn, 1) := by decide +kernel
theorem dL_law_1008 : decode cL_law 1008 = .ok (.aload_n 1, 1) := by decide +kernel
theorem dL_law_1009 : decode cL_law 1009 = .ok (.invokevirtual 129, 3) := by decide +kernel
theorem dL_law_1012 : decode cL_law 1012 = .ok (.aload_n 2, 1) := by decide +kernel
theorem dL_law_1013 : decode cL_law 1013 = .ok (.invokevirtual 132, 3) := by decide +kernel
theorem dL_law_1016 : decode cL_law 1016 = .ok (.if_icmp .eq 671, 3) := by decide +kernel
theorem dL_law_1019 : decode cL_law 1019 = .ok (.iconst 0, 1) := by decide +kernel
theorem dL_law_1020 : decode cL_law 1020 = .ok (.ireturn, 1) := by decide +kernel
theorem dL_law_1021 : decode cL_law 1021 = .ok (.aload_n 1, 1) := by decide +kernel
theorem dL_law_1022 : decode cL_law 1022 = .ok (.aload_n 0, 1) := by decide +kernel
theorem dL_law_1023 : decode cL_law 1023 = .ok (.iload 4, 2) := by decide +kernel
theorem dL_law_1025 : decode cL_law 1025 = .ok (.iconst 1, 1) := by decide +kernel
theorem dL_law_1026 : decode cL_law 1026 = .ok (.iadd, 1) := by decide +kernel
theorem dL_law_1027 : decode cL_law 1027 = .ok (.iaload, 1) := by decide +kernel
theorem dL_law_1028 : decode cL_law 1028 = .ok (.aload_n 0, 1) := by decide +kernel
theorem dL_law_1029 : decode cL_law 1029 = .ok (.iload 4, 2) := by decide +kernel
theorem dL_law_1031 : decode cL_law 1031 = .ok (.iconst 2, 1) := by decide +kernel
theorem dL_law_1032 : decode cL_law 1032 = .ok (.iadd, 1) := by decide +kernel
theorem dL_law_1033 : decode cL_law 1033 = .ok (.iaload, 1) := by decide +kernel
theorem dL_law_1034 : decode cL_law 1034 = .ok (.invokevirtual 133, 3) := by decide +kernel
theorem dL_law_1037 : decode cL_law 1037 = .ok (.aload_n 2, 1) := by decide +kernel
theorem dL_law_1038 : decode cL_law 1038 = .ok (.aload_n 0, 1) := by decide +kernel
theorem dL_law_1039 : decode cL_law 1039 = .ok (.iload 4, 2) := by decide +kernel
theorem dL_law_1041 : decode cL_law 1041 = .ok (.iconst 1, 1) := by decide +kernel
theorem dL_law_1042 : decode cL_law 1042 = .ok (.iadd, 1) := by decide +kernel
theorem dL_law_1043 : decode cL_law 1043 = .ok (.iaload, 1) := by decide +kernel
theorem dL_law_1044 : decode cL_law 1044 = .ok (.aload_n 0, 1) := by decide +kernel
theorem dL_law_1045 : decode cL_law 1045 = .ok (.iload 4, 2) := by decide +kernel
theorem dL_law_1047 : decode cL_law 1047 = .ok (.iconst 2, 1) := by decide +kernel
theorem dL_law_1048 : decode cL_law 1048 = .ok (.iadd, 1) := by decide +kernel
theorem dL_law_1049 : decode cL_law 1049 = .ok (.iaload, 1) := by decide +kernel
theorem dL_law_1050 : decode cL_law 1050 = .ok (.invokevirtual 136, 3) := by decide +kernel
theorem dL_law_1053 : decode cL_law 1053 = .ok (.if_icmp .eq 634, 3) := by decide +kernel
theorem dL_law_1056 : decode cL_law 1056 = .ok (.iconst 0, 1) := by decide +kernel
theorem dL_law_1057 : decode cL_law 1057 = .ok (.ireturn, 1) := by decide +kernel
theorem dL_law_1058 : decode cL_law 1058 = .ok (.aload_n 1, 1) := by decide +kernel
theorem dL_law_1059 : decode cL_law 1059 = .ok (.aload_n 0, 1) := by decide +kernel
theorem dL_law_1060 : decode cL_law 1060 = .ok (.iload 4, 2) := by decide +kernel
theorem dL_law_1062 : decode cL_law 1062 = .ok (.iconst 1, 1) := by decide +kernel
theorem dL_law_1063 : decode cL_law 1063 = .ok (.iadd, 1) := by decide +kernel
theorem dL_law_1064 : decode cL_law 1064 = .ok (.iaload, 1) := by decide +kernel
theorem dL_law_1065 : decode cL_law 1065 = .ok (.aload_n 0, 1) := by decide +kernel
theorem dL_law_1066 : decode cL_law 1066 = .ok (.iload 4, 2) := by decide +kernel
theorem dL_law_1068 : decode cL_law 1068 = .ok (.iconst 2, 1) := by decide +kernel
theorem dL_law_1069 : decode cL_law 1069 = .ok (.iadd, 1) := by decide +kernel
theorem dL_law_1070 : decode cL_law 1070 = .ok (.iaload, 1) := by decide +kernel
theorem dL_law_1071 : decode cL_law 1071 = .ok (.invokevirtual 137, 3) := by decide +kernel
theorem dL_law_1074 : decode cL_law 1074 = .ok (.aload_n 2, 1) := by decide +kernel
theorem dL_law_1075 : decode cL_law 1075 = .ok (.aload_n 0, 1) := by decide +kernel
theorem dL_law_1076 : decode cL_law 1076 = .ok (.iload 4, 2) := by decide +kernel
theorem dL_law_1078 : decode cL_law 1078 = .ok (.iconst 1, 1) := by decide +kernel
theorem dL_law_1079 : decode cL_law 1079 = .ok (.iadd, 1) := by decide +kernel
theorem dL_law_1080 : decode cL_law 1080 = .ok (.iaload, 1) := by decide +kernel
theorem dL_law_1081 : decode cL_law 1081 = .ok (.aload_n 0, 1) := by decide +kernel
theorem dL_law_1082 : decode cL_law 1082 = .ok (.iload 4, 2) := by decide +kernel
theorem dL_law_1084 : decode cL_law 1084 = .ok (.iconst 2, 1) := by decide +kernel
theorem dL_law_1085 : decode cL_law 1085 = .ok (.iadd, 1) := by decide +kernel
theorem dL_law_1086 : decode cL_law 1086 = .ok (.iaload, 1) := by decide +kernel
theorem dL_law_1087 : decode cL_law 1087 = .ok (.invokevirtual 140, 3) := by decide +kernel
theorem dL_law_1090 : decode cL_law 1090 = .ok (.if_icmp .eq 597, 3) := by decide +kernel
theorem dL_law_1093 : decode cL_law 1093 = .ok (.iconst 0, 1) := by decide +kernel
theorem dL_law_1094 : decode cL_law 1094 = .ok (.ireturn, 1) := by decide +kernel
theorem dL_law_1095 : decode cL_law 1095 = .ok (.aload_n 1, 1) := by decide +kernel
theorem dL_law_1096 : decode cL_law 1096 = .ok (.aload_n 0, 1) := by decide +kernel
theorem dL_law_1097 : decode cL_law 1097 = .ok (.iload 4, 2) := by decide +kernel
theorem dL_law_1099 : decode cL_law 1099 = .ok (.iconst 1, 1) := by decide +kernel
theorem dL_law_1100 : decode cL_law 1100 = .ok (.iadd, 1) := by decide +kernel
theorem dL_law_1101 : decode cL_law 1101 = .ok (.iaload, 1) := by decide +kernel
theorem dL_law_1102 : decode cL_law 1102 = .ok (.aload_n 0, 1) := by decide +kernel
theorem dL_law_1103 : decode cL_law 1103 = .ok (.iload 4, 2) := by decide +kernel
theorem dL_law_1105 : decode cL_law 1105 = .ok (.iconst 2, 1) := by decide +kernel
theorem dL_law_1106 : decode cL_law 1106 = .ok (.iadd, 1) := by decide +kernel
theorem dL_law_1107 : decode cL_law 1107 = .ok (.iaload, 1) := by decide +kernel
theorem dL_law_1108 : decode cL_law 1108 = .ok (.invokevirtual 141, 3) := by decide +kernel
theorem dL_law_1111 : decode cL_law 1111 = .ok (.aload_n 2, 1) := by decide +kernel
theorem dL_law_1112 : decode cL_law 1112 = .ok (.aload_n 0, 1) := by decide +kernel
theorem dL_law_1113 : decode cL_law 1113 = .ok (.iload 4, 2) := by decide +kernel
theorem dL_law_1115 : decode cL_law 1115 = .ok (.iconst 1, 1) := by decide +kernel
theorem dL_law_1116 : decode cL_law 1116 = .ok (.iadd, 1) := by decide +kernel
theorem dL_law_1117 : decode cL_law 1117 = .ok (.iaload, 1) := by decide +kernel
theorem dL_law_1118 : decode cL_law 1118 = .ok (.aload_n 0, 1) := by decide +kernel
theorem dL_law_1119 : decode cL_law 1119 = .ok (.iload 4, 2) := by decide +kernel
theorem dL_law_1121 : decode cL_law 1121 = .ok (.iconst 2, 1) := by decide +kernel
theorem dL_law_1122 : decode cL_law 1122 = .ok (.iadd, 1) := by decide +kernel
theorem dL_law_1123 : decode cL_law 1123 = .ok (.iaload, 1) := by decide +kernel
theorem dL_law_1124 : decode cL_law 1124 = .ok (.invokevirtual 144, 3) := by decide +kernel
theorem dL_law_1127 : decode cL_law 1127 = .ok (.if_icmp .eq 560, 3) := by decide +kernel
theorem dL_law_1130 : decode cL_law 1130 = .ok (.iconst 0, 1) := by decide +kernel
theorem dL_law_1131 : decode cL_law 1131 = .ok (.ireturn, 1) := by decide +kernel
theorem dL_law_1132 : decode cL_law 1132 = .ok (.aload_n 1, 1) := by decide +kernel
theorem dL_law_1133 : decode cL_law 1133 = .ok (.aload_n 0, 1) := by decide +kernel
theorem dL_law_1134 : decode cL_law 1134 = .ok (.iload 4, 2) := by decide +kernel
theorem dL_law_1136 : decode cL_law 1136 = .ok (.iconst 1, 1) := by decide +kernel
theorem dL_law_1137 : decode cL_law 1137 = .ok (.iadd, 1) := by decide +kernel
theorem dL_law_1138 : decode cL_law 1138 = .ok (.iaload, 1) := by decide +kernel
theorem dL_law_1139 : decode cL_law 1139 = .ok (.invokevirtual 145, 3) := by decide +kernel
theorem dL_law_1142 : decode cL_law 1142 = .ok (.aload_n 2, 1) := by decide +kernel
theorem dL_law_1143 : decode cL_law 1143 = .ok (.aload_n 0, 1) := by decide +kernel
theorem dL_law_1144 : decode cL_law 1144 = .ok (.iload 4, 2) := by decide +kernel
theorem dL_law_1146 : decode cL_law 1146 = .ok (.iconst 1, 1) := by decide +kernel
theorem dL_law_1147 : decode cL_law 1147 = .ok (.iadd, 1) := by decide +kernel
theorem dL_law_1148 : decode cL_law 1148 = .ok (.iaload, 1) := by decide +kernel
theorem dL_law_1149 : decode cL_law 1149 = .ok (.invokevirtual 148, 3) := by decide +kernel
theorem dL_law_1152 : decode cL_law 1152 = .ok (.if_icmp .eq 535, 3) := by decide +kernel
theorem dL_law_1155 : decode cL_law 1155 = .ok (.iconst 0, 1) := by decide +kernel
theorem dL_law_1156 : decode cL_law 1156 = .ok (.ireturn, 1) := by decide +kernel
theorem dL_law_1157 : decode cL_law 1157 = .ok (.aload_n 1, 1) := by decide +kernel
theorem dL_law_1158 : decode cL_law 1158 = .ok (.aload_n 0, 1) := by decide +kernel
theorem dL_law_1159 : decode cL_law 1159 = .ok (.iload 4, 2) := by decide +kernel
theorem dL_law_1161 : decode cL_law 1161 = .ok (.iconst 1, 1) := by decide +kernel
theorem dL_law_1162 : decode cL_law 1162 = .ok (.iadd, 1) := by decide +kernel
theorem dL_law_1163 : decode cL_law 1163 = .ok (.iaload, 1) := by decide +kernel
theorem dL_law_1164 : decode cL_law 1164 = .ok (.invokevirtual 149, 3) := by decide +kernel
theorem dL_law_1167 : decode cL_law 1167 = .ok (.aload_n 2, 1) := by decide +kernel
theorem dL_law_1168 : decode cL_law 1168 = .ok (.aload_n 0, 1) := by decide +kernel
theorem dL_law_1169 : decode cL_law 1169 = .ok (.iload 4, 2) := by decide +kernel
theorem dL_law_1171 : decode cL_law 1171 = .ok (.iconst 1, 1) := by decide +kernel
theorem dL_law_1172 : decode cL_law 1172 = .ok (.iadd, 1) := by decide +kernel
theorem dL_law_1173 : decode cL_law 1173 = .ok (.iaload, 1) := by decide +kernel
theorem dL_law_1174 : decode cL_law 1174 = .ok (.invokevirtual 152, 3) := by decide +kernel
theorem dL_law_1177 : decode cL_law 1177 = .ok (.if_icmp .eq 510, 3) := by decide +kernel
theorem dL_law_1180 : decode cL_law 1180 = .ok (.iconst 0, 1) := by decide +kernel
theorem dL_law_1181 : decode cL_law 1181 = .ok (.ireturn, 1) := by decide +kernel
theorem dL_law_1182 : decode cL_law 1182 = .ok (.aload_n 1, 1) := by decide +kernel
theorem dL_law_1183 : decode cL_law 1183 = .ok (.invokevirtual 153, 3) := by decide +kernel
theorem dL_law_1186 : decode cL_law 1186 = .ok (.aload_n 2, 1) := by decide +kernel
theorem dL_law_1187 : decode cL_law 1187 = .ok (.invokevirtual 156, 3) := by decide +kernel
theorem dL_law_1190 : decode cL_law 1190 = .ok (.if_icmp .eq 497, 3) := by decide +kernel
theorem dL_law_1193 : decode cL_law 1193 = .ok (.iconst 0, 1) := by decide +kernel
theorem dL_law_1194 : decode cL_law 1194 = .ok (.ireturn, 1) := by decide +kernel
theorem dL_law_1195 : decode cL_law 1195 = .ok (.aload_n 1, 1) := by decide +kernel
theorem dL_law_1196 : decode cL_law 1196 = .ok (.invokevirtual 157, 3) := by decide +kernel
theorem dL_law_1199 : decode cL_law 1199 = .ok (.aload_n 2, 1) := by decide +kernel
theorem dL_law_1200 : decode cL_law 1200 = .ok (.invokevirtual 160, 3) := by decide +kernel
theorem dL_law_1203 : decode cL_law 1203 = .ok (.if_icmp .eq 484, 3) := by decide +kernel
theorem dL_law_1206 : decode cL_law 1206 = .ok (.iconst 0, 1) := by decide +kernel
theorem dL_law_1207 : decode cL_law 1207 = .ok (.ireturn, 1) := by decide +kernel
theorem dL_law_1208 : decode cL_law 1208 = .ok (.aload_n 1, 1) := by decide +kernel
theorem dL_law_1209 : decode cL_law 1209 = .ok (.invokevirtual 161, 3) := by decide +kernel
theorem dL_law_1212 : decode cL_law 1212 = .ok (.aload_n 2, 1) := by decide +kernel
theorem dL_law_1213 : decode cL_law 1213 = .ok (.invokevirtual 164, 3) := by decide +kernel
theorem dL_law_1216 : decode cL_law 1216 = .ok (.if_icmp .eq 471, 3) := by decide +kernel
theorem dL_law_1219 : decode cL_law 1219 = .ok (.iconst 0, 1) := by decide +kernel
theorem dL_law_1220 : decode cL_law 1220 = .ok (.ireturn, 1) := by decide +kernel
theorem dL_law_1221 : decode cL_law 1221 = .ok (.aload_n 1, 1) := by decide +kernel
theorem dL_law_1222 : decode cL_law 1222 = .ok (.invokevirtual 165, 3) := by decide +kernel
theorem dL_law_1225 : decode cL_law 1225 = .ok (.aload_n 2, 1) := by decide +kernel
theorem dL_law_1226 : decode cL_law 1226 = .ok (.invokevirtual 168, 3) := by decide +kernel
theorem dL_law_1229 : decode cL_law 1229 = .ok (.if_icmp .eq 458, 3) := by decide +kernel
theorem dL_law_1232 : decode cL_law 1232 = .ok (.iconst 0, 1) := by decide +kernel
theorem dL_law_1233 : decode cL_law 1233 = .ok (.ireturn, 1) := by decide +kernel
theorem dL_law_1234 : decode cL_law 1234 = .ok (.aload_n 1, 1) := by decide +kernel
theorem dL_law_1235 : decode cL_law 1235 = .ok (.aload_n 0, 1) := by decide +kernel
theorem dL_law_1236 : decode cL_law 1236 = .ok (.iload 4, 2) := by decide +kernel
theorem dL_law_1238 : decode cL_law 1238 = .ok (.iconst 1, 1) := by decide +kernel
theorem dL_law_1239 : decode cL_law 1239 = .ok (.iadd, 1) := by decide +kernel
theorem dL_law_1240 : decode cL_law 1240 = .ok (.iaload, 1) := by decide +kernel
theorem dL_law_1241 : decode cL_law 1241 = .ok (.invokevirtual 169, 3) := by decide +kernel
theorem dL_law_1244 : decode cL_law 1244 = .ok (.aload_n 2, 1) := by decide +kernel
theorem dL_law_1245 : decode cL_law 1245 = .ok (.aload_n 0, 1) := by decide +kernel
theorem dL_law_1246 : decode cL_law 1246 = .ok (.iload 4, 2) := by decide +kernel
theorem dL_law_1248 : decode cL_law 1248 = .ok (.iconst 1, 1) := by decide +kernel
theorem dL_law_1249 : decode cL_law 1249 = .ok (.iadd, 1) := by decide +kernel
theorem dL_law_1250 : decode cL_law 1250 = .ok (.iaload, 1) := by decide +kernel
theorem dL_law_1251 : decode cL_law 1251 = .ok (.invokevirtual 172, 3) := by decide +kernel
theorem dL_law_1254 : decode cL_law 1254 = .ok (.if_icmp .eq 433, 3) := by decide +kernel
theorem dL_law_1257 : decode cL_law 1257 = .ok (.iconst 0, 1) := by decide +kernel
theorem dL_law_1258 : decode cL_law 1258 = .ok (.ireturn, 1) := by decide +kernel
theorem dL_law_1259 : decode cL_law 1259 = .ok (.aload_n 1, 1) := by decide +kernel
theorem dL_law_1260 : decode cL_law 1260 = .ok (.aload_n 0, 1) := by decide +kernel
theorem dL_law_1261 : decode cL_law 1261 = .ok (.iload 4, 2) := by decide +kernel
theorem dL_law_1263 : decode cL_law 1263 = .ok (.iconst 1, 1) := by decide +kernel
theorem dL_law_1264 : decode cL_law 1264 = .ok (.iadd, 1) := by decide +kernel
theorem dL_law_1265 : decode cL_law 1265 = .ok (.iaload, 1) := by decide +kernel
theorem dL_law_1266 : decode cL_law 1266 = .ok (.aload_n 0, 1) := by decide +kernel
theorem dL_law_1267 : decode cL_law 1267 = .ok (.iload 4, 2) := by decide +kernel
theorem dL_law_1269 : decode cL_law 1269 = .ok (.iconst 2, 1) := by decide +kernel
theorem dL_law_1270 : decode cL_law 1270 = .ok (.iadd, 1) := by decide +kernel
theorem dL_law_1271 : decode cL_law 1271 = .ok (.iaload, 1) := by decide +kernel
theorem dL_law_1272 : decode cL_law 1272 = .ok (.invokevirtual 173, 3) := by decide +kernel
theorem dL_law_1275 : decode cL_law 1275 = .ok (.aload_n 2, 1) := by decide +kernel
theorem dL_law_1276 : decode cL_law 1276 = .ok (.aload_n 0, 1) := by decide +kernel
theorem dL_law_1277 : decode cL_law 1277 = .ok (.iload 4, 2) := by decide +kernel
theorem dL_law_1279 : decode cL_law 1279 = .ok (.iconst 1, 1) := by decide +kernel
theorem dL_law_1280 : decode cL_law 1280 = .ok (.iadd, 1) := by decide +kernel
theorem dL_law_1281 : decode cL_law 1281 = .ok (.iaload, 1) := by decide +kernel
theorem dL_law_1282 : decode cL_law 1282 = .ok (.aload_n 0, 1) := by decide +kernel
theorem dL_law_1283 : decode cL_law 1283 = .ok (.iload 4, 2) := by decide +kernel
theorem dL_law_1285 : decode cL_law 1285 = .ok (.iconst 2, 1) := by decide +kernel
theorem dL_law_1286 : decode cL_law 1286 = .ok (.iadd, 1) := by decide +kernel
theorem dL_law_1287 : decode cL_law 1287 = .ok (.iaload, 1) := by decide +kernel
theorem dL_law_1288 : decode cL_law 1288 = .ok (.invokevirtual 176, 3) := by decide +kernel
theorem dL_law_1291 : decode cL_law 1291 = .ok (.if_icmp .eq 396, 3) := by decide +kernel
theorem dL_law_1294 : decode cL_law 1294 = .ok (.iconst 0, 1) := by decide +kernel
theorem dL_law_1295 : decode cL_law 1295 = .ok (.ireturn, 1) := by decide +kernel
theorem dL_law_1296 : decode cL_law 1296 = .ok (.aload_n 1, 1) := by decide +kernel
theorem dL_law_1297 : decode cL_law 1297 = .ok (.aload_n 0, 1) := by decide +kernel
theorem dL_law_1298 : decode cL_law 1298 = .ok (.iload 4, 2) := by decide +kernel
theorem dL_law_1300 : decode cL_law 1300 = .ok (.iconst 1, 1) := by decide +kernel
theorem dL_law_1301 : decode cL_law 1301 = .ok (.iadd, 1) := by decide +kernel
theorem dL_law_1302 : decode cL_law 1302 = .ok (.iaload, 1) := by decide +kernel
theorem dL_law_1303 : decode cL_law 1303 = .ok (.invokevirtual 177, 3) := by decide +kernel
theorem dL_law_1306 : decode cL_law 1306 = .ok (.aload_n 2, 1) := by decide +kernel
theorem dL_law_1307 : decode cL_law 1307 = .ok (.aload_n 0, 1) := by decide +kernel
theorem dL_law_1308 : decode cL_law 1308 = .ok (.iload 4, 2) := by decide +kernel
theorem dL_law_1310 : decode cL_law 1310 = .ok (.iconst 1, 1) := by decide +kernel
theorem dL_law_1311 : decode cL_law 1311 = .ok (.iadd, 1) := by decide +kernel
theorem dL_law_1312 : decode cL_law 1312 = .ok (.iaload, 1) := by decide +kernel
theorem dL_law_1313 : decode cL_law 1313 = .ok (.invokevirtual 180, 3) := by decide +kernel
theorem dL_law_1316 : decode cL_law 1316 = .ok (.if_icmp .eq 371, 3) := by decide +kernel
theorem dL_law_1319 : decode cL_law 1319 = .ok (.iconst 0, 1) := by decide +kernel
theorem dL_law_1320 : decode cL_law 1320 = .ok (.ireturn, 1) := by decide +kernel
theorem dL_law_1321 : decode cL_law 1321 = .ok (.aload_n 1, 1) := by decide +kernel
theorem dL_law_1322 : decode cL_law 1322 = .ok (.invokevirtual 181, 3) := by decide +kernel
theorem dL_law_1325 : decode cL_law 1325 = .ok (.aload_n 2, 1) := by decide +kernel
theorem dL_law_1326 : decode cL_law 1326 = .ok (.invokevirtual 184, 3) := by decide +kernel
theorem dL_law_1329 : decode cL_law 1329 = .ok (.if_icmp .eq 358, 3) := by decide +kernel
theorem dL_law_1332 : decode cL_law 1332 = .ok (.iconst 0, 1) := by decide +kernel
theorem dL_law_1333 : decode cL_law 1333 = .ok (.ireturn, 1) := by decide +kernel
theorem dL_law_1334 : decode cL_law 1334 = .ok (.aload_n 1, 1) := by decide +kernel
theorem dL_law_1335 : decode cL_law 1335 = .ok (.aload_n 0, 1) := by decide +kernel
theorem dL_law_1336 : decode cL_law 1336 = .ok (.iload 4, 2) := by decide +kernel
theorem dL_law_1338 : decode cL_law 1338 = .ok (.iconst 1, 1) := by decide +kernel
theorem dL_law_1339 : decode cL_law 1339 = .ok (.iadd, 1) := by decide +kernel
theorem dL_law_1340 : decode cL_law 1340 = .ok (.iaload, 1) := by decide +kernel
theorem dL_law_1341 : decode cL_law 1341 = .ok (.aload_n 0, 1) := by decide +kernel
theorem dL_law_1342 : decode cL_law 1342 = .ok (.iload 4, 2) := by decide +kernel
theorem dL_law_1344 : decode cL_law 1344 = .ok (.iconst 2, 1) := by decide +kernel
theorem dL_law_1345 : decode cL_law 1345 = .ok (.iadd, 1) := by decide +kernel
theorem dL_law_1346 : decode cL_law 1346 = .ok (.iaload, 1) := by decide +kernel
theorem dL_law_1347 : decode cL_law 1347 = .ok (.invokevirtual 185, 3) := by decide +kernel
theorem dL_law_1350 : decode cL_law 1350 = .ok (.aload_n 2, 1) := by decide +kernel
theorem dL_law_1351 : decode cL_law 1351 = .ok (.aload_n 0, 1) := by decide +kernel
theorem dL_law_1352 : decode cL_law 1352 = .ok (.iload 4, 2) := by decide +kernel
theorem dL_law_1354 : decode cL_law 1354 = .ok (.iconst 1, 1) := by decide +kernel
theorem dL_law_1355 : decode cL_law 1355 = .ok (.iadd, 1) := by decide +kernel
theorem dL_law_1356 : decode cL_law 1356 = .ok (.iaload, 1) := by decide +kernel
theorem dL_law_1357 : decode cL_law 1357 = .ok (.aload_n 0, 1) := by decide +kernel
theorem dL_law_1358 : decode cL_law 1358 = .ok (.iload 4, 2) := by decide +kernel
theorem dL_law_1360 : decode cL_law 1360 = .ok (.iconst 2, 1) := by decide +kernel
theorem dL_law_1361 : decode cL_law 1361 = .ok (.iadd, 1) := by decide +kernel
theorem dL_law_1362 : decode cL_law 1362 = .ok (.iaload, 1) := by decide +kernel
theorem dL_law_1363 : decode cL_law 1363 = .ok (.invokevirtual 188, 3) := by decide +kernel
theorem dL_law_1366 : decode cL_law 1366 = .ok (.if_icmp .eq 321, 3) := by decide +kernel
theorem dL_law_1369 : decode cL_law 1369 = .ok (.iconst 0, 1) := by decide +kernel
theorem dL_law_1370 : decode cL_law 1370 = .ok (.ireturn, 1) := by decide +kernel
theorem dL_law_1371 : decode cL_law 1371 = .ok (.aload_n 1, 1) := by decide +kernel
theorem dL_law_1372 : decode cL_law 1372 = .ok (.aload_n 0, 1) := by decide +kernel
theorem dL_law_1373 : decode cL_law 1373 = .ok (.iload 4, 2) := by decide +kernel
theorem dL_law_1375 : decode cL_law 1375 = .ok (.iconst 1, 1) := by decide +kernel
theorem dL_law_1376 : decode cL_law 1376 = .ok (.iadd, 1) := by decide +kernel
theorem dL_law_1377 : decode cL_law 1377 = .ok (.iaload, 1) := by decide +kernel
theorem dL_law_1378 : decode cL_law 1378 = .ok (.aload_n 0, 1) := by decide +kernel
theorem dL_law_1379 : decode cL_law 1379 = .ok (.iload 4, 2) := by decide +kernel
theorem dL_law_1381 : decode cL_law 1381 = .ok (.iconst 2, 1) := by decide +kernel
theorem dL_law_1382 : decode cL_law 1382 = .ok (.iadd, 1) := by decide +kernel
theorem dL_law_1383 : decode cL_law 1383 = .ok (.iaload, 1) := by decide +kernel
theorem dL_law_1384 : decode cL_law 1384 = .ok (.aload_n 0, 1) := by decide +kernel
theorem dL_law_1385 : decode cL_law 1385 = .ok (.iload 4, 2) := by decide +kernel
theorem dL_law_1387 : decode cL_law 1387 = .ok (.iconst 3, 1) := by decide +kernel
theorem dL_law_1388 : decode cL_law 1388 = .ok (.iadd, 1) := by decide +kernel
theorem dL_law_1389 : decode cL_law 1389 = .ok (.iaload, 1) := by decide +kernel
theorem dL_law_1390 : decode cL_law 1390 = .ok (.invokevirtual 189, 3) := by decide +kernel
theorem dL_law_1393 : decode cL_law 1393 = .ok (.aload_n 2, 1) := by decide +kernel
theorem dL_law_1394 : decode cL_law 1394 = .ok (.aload_n 0, 1) := by decide +kernel
theorem dL_law_1395 : decode cL_law 1395 = .ok (.iload 4, 2) := by decide +kernel
theorem dL_law_1397 : decode cL_law 1397 = .ok (.iconst 1, 1) := by decide +kernel
theorem dL_law_1398 : decode cL_law 1398 = .ok (.iadd, 1) := by decide +kernel
theorem dL_law_1399 : decode cL_law 1399 = .ok (.iaload, 1) := by decide +kernel
theorem dL_law_1400 : decode cL_law 1400 = .ok (.aload_n 0, 1) := by decide +kernel
theorem dL_law_1401 : decode cL_law 1401 = .ok (.iload 4, 2) := by decide +kernel
theorem dL_law_1403 : decode cL_law 1403 = .ok (.iconst 2, 1) := by decide +kernel
theorem dL_law_1404 : decode cL_law 1404 = .ok (.iadd, 1) := by decide +kernel
theorem dL_law_1405 : decode cL_law 1405 = .ok (.iaload, 1) := by decide +kernel
theorem dL_law_1406 : decode cL_law 1406 = .ok (.aload_n 0, 1) := by decide +kernel
theorem dL_law_1407 : decode cL_law 1407 = .ok (.iload 4, 2) := by decide +kernel
theorem dL_law_1409 : decode cL_law 1409 = .ok (.iconst 3, 1) := by decide +kernel
theorem dL_law_1410 : decode cL_law 1410 = .ok (.iadd, 1) := by decide +kernel
theorem dL_law_1411 : decode cL_law 1411 = .ok (.iaload, 1) := by decide +kernel
theorem dL_law_1412 : decode cL_law 1412 = .ok (.invokevirtual 192, 3) := by decide +kernel
theorem dL_law_1415 : decode cL_law 1415 = .ok (.if_icmp .eq 272, 3) := by decide +kernel
theorem dL_law_1418 : decode cL_law 1418 = .ok (.iconst 0, 1) := by decide +kernel
theorem dL_law_1419 : decode cL_law 1419 = .ok (.ireturn, 1) := by decide +kernel
theorem dL_law_1420 : decode cL_law 1420 = .ok (.aload_n 1, 1) := by decide +kernel
theorem dL_law_1421 : decode cL_law 1421 = .ok (.invokevirtual 193, 3) := by decide +kernel
theorem dL_law_1424 : decode cL_law 1424 = .ok (.aload_n 2, 1) := by decide +kernel
theorem dL_law_1425 : decode cL_law 1425 = .ok (.invokevirtual 196, 3) := by decide +kernel
theorem dL_law_1428 : decode cL_law 1428 = .ok (.if_icmp .eq 259, 3) := by decide +kernel
theorem dL_law_1431 : decode cL_law 1431 = .ok (.iconst 0, 1) := by decide +kernel
theorem dL_law_1432 : decode cL_law 1432 = .ok (.ireturn, 1) := by decide +kernel
theorem dL_law_1433 : decode cL_law 1433 = .ok (.aload_n 1, 1) := by decide +kernel
theorem dL_law_1434 : decode cL_law 1434 = .ok (.invokevirtual 197, 3) := by decide +kernel
theorem dL_law_1437 : decode cL_law 1437 = .ok (.aload_n 2, 1) := by decide +kernel
theorem dL_law_1438 : decode cL_law 1438 = .ok (.invokevirtual 200, 3) := by decide +kernel
theorem dL_law_1441 : decode cL_law 1441 = .ok (.if_icmp .eq 246, 3) := by decide +kernel
theorem dL_law_1444 : decode cL_law 1444 = .ok (.iconst 0, 1) := by decide +kernel
theorem dL_law_1445 : decode cL_law 1445 = .ok (.ireturn, 1) := by decide +kernel
theorem dL_law_1446 : decode cL_law 1446 = .ok (.aload_n 1, 1) := by decide +kernel
theorem dL_law_1447 : decode cL_law 1447 = .ok (.aload_n 0, 1) := by decide +kernel
theorem dL_law_1448 : decode cL_law 1448 = .ok (.iload 4, 2) := by decide +kernel
theorem dL_law_1450 : decode cL_law 1450 = .ok (.iconst 1, 1) := by decide +kernel
theorem dL_law_1451 : decode cL_law 1451 = .ok (.iadd, 1) := by decide +kernel
theorem dL_law_1452 : decode cL_law 1452 = .ok (.iaload, 1) := by decide +kernel
theorem dL_law_1453 : decode cL_law 1453 = .ok (.aload_n 0, 1) := by decide +kernel
theorem dL_law_1454 : decode cL_law 1454 = .ok (.iload 4, 2) := by decide +kernel
theorem dL_law_1456 : decode cL_law 1456 = .ok (.iconst 2, 1) := by decide +kernel
theorem dL_law_1457 : decode cL_law 1457 = .ok (.iadd, 1) := by decide +kernel
theorem dL_law_1458 : decode cL_law 1458 = .ok (.iaload, 1) := by decide +kernel
theorem dL_law_1459 : decode cL_law 1459 = .ok (.invokevirtual 201, 3) := by decide +kernel
theorem dL_law_1462 : decode cL_law 1462 = .ok (.aload_n 2, 1) := by decide +kernel
theorem dL_law_1463 : decode cL_law 1463 = .ok (.aload_n 0, 1) := by decide +kernel
theorem dL_law_1464 : decode cL_law 1464 = .ok (.iload 4, 2) := by decide +kernel
theorem dL_law_1466 : decode cL_law 1466 = .ok (.iconst 1, 1) := by decide +kernel
theorem dL_law_1467 : decode cL_law 1467 = .ok (.iadd, 1) := by decide +kernel
theorem dL_law_1468 : decode cL_law 1468 = .ok (.iaload, 1) := by decide +kernel
theorem dL_law_1469 : decode cL_law 1469 = .ok (.aload_n 0, 1) := by decide +kernel
theorem dL_law_1470 : decode cL_law 1470 = .ok (.iload 4, 2) := by decide +kernel
theorem dL_law_1472 : decode cL_law 1472 = .ok (.iconst 2, 1) := by decide +kernel
theorem dL_law_1473 : decode cL_law 1473 = .ok (.iadd, 1) := by decide +kernel
theorem dL_law_1474 : decode cL_law 1474 = .ok (.iaload, 1) := by decide +kernel
theorem dL_law_1475 : decode cL_law 1475 = .ok (.invokevirtual 204, 3) := by decide +kernel
theorem dL_law_1478 : decode cL_law 1478 = .ok (.if_icmp .eq 209, 3) := by decide +kernel
theorem dL_law_1481 : decode cL_law 1481 = .ok (.iconst 0, 1) := by decide +kernel
theorem dL_law_1482 : decode cL_law 1482 = .ok (.ireturn, 1) := by decide +kernel
theorem dL_law_1483 : decode cL_law 1483 = .ok (.aload_n 1, 1) := by decide +kernel
theorem dL_law_1484 : decode cL_law 1484 = .ok (.aload_n 0, 1) := by decide +kernel
theorem dL_law_1485 : decode cL_law 1485 = .ok (.iload 4, 2) := by decide +kernel
theorem dL_law_1487 : decode cL_law 1487 = .ok (.iconst 1, 1) := by decide +kernel
theorem dL_law_1488 : decode cL_law 1488 = .ok (.iadd, 1) := by decide +kernel
theorem dL_law_1489 : decode cL_law 1489 = .ok (.iaload, 1) := by decide +kernel
theorem dL_law_1490 : decode cL_law 1490 = .ok (.invokevirtual 205, 3) := by decide +kernel
theorem dL_law_1493 : decode cL_law 1493 = .ok (.aload_n 2, 1) := by decide +kernel
theorem dL_law_1494 : decode cL_law 1494 = .ok (.aload_n 0, 1) := by decide +kernel
theorem dL_law_1495 : decode cL_law 1495 = .ok (.iload 4, 2) := by decide +kernel
theorem dL_law_1497 : decode cL_law 1497 = .ok (.iconst 1, 1) := by decide +kernel
theorem dL_law_1498 : decode cL_law 1498 = .ok (.iadd, 1) := by decide +kernel
theorem dL_law_1499 : decode cL_law 1499 = .ok (.iaload, 1) := by decide +kernel
theorem dL_law_1500 : decode cL_law 1500 = .ok (.invokevirtual 208, 3) := by decide +kernel
theorem dL_law_1503 : decode cL_law 1503 = .ok (.if_icmp .eq 184, 3) := by decide +kernel
theorem dL_law_1506 : decode cL_law 1506 = .ok (.iconst 0, 1) := by decide +kernel
theorem dL_law_1507 : decode cL_law 1507 = .ok (.ireturn, 1) := by decide +kernel
theorem dL_law_1508 : decode cL_law 1508 = .ok (.aload_n 1, 1) := by decide +kernel
theorem dL_law_1509 : decode cL_law 1509 = .ok (.aload_n 0, 1) := by decide +kernel
theorem dL_law_1510 : decode cL_law 1510 = .ok (.iload 4, 2) := by decide +kernel
theorem dL_law_1512 : decode cL_law 1512 = .ok (.iconst 1, 1) := by decide +kernel
theorem dL_law_1513 : decode cL_law 1513 = .ok (.iadd, 1) := by decide +kernel
theorem dL_law_1514 : decode cL_law 1514 = .ok (.iaload, 1) := by decide +kernel
theorem dL_law_1515 : decode cL_law 1515 = .ok (.aload_n 0, 1) := by decide +kernel
theorem dL_law_1516 : decode cL_law 1516 = .ok (.iload 4, 2) := by decide +kernel
theorem dL_law_1518 : decode cL_law 1518 = .ok (.iconst 2, 1) := by decide +kernel
theorem dL_law_1519 : decode cL_law 1519 = .ok (.iadd, 1) := by decide +kernel
theorem dL_law_1520 : decode cL_law 1520 = .ok (.iaload, 1) := by decide +kernel
theorem dL_law_1521 : decode cL_law 1521 = .ok (.aload_n 0, 1) := by decide +kernel
theorem dL_law_1522 : decode cL_law 1522 = .ok (.iload 4, 2) := by decide +kernel
theorem dL_law_1524 : decode cL_law 1524 = .ok (.iconst 3, 1) := by decide +kernel
theorem dL_law_1525 : decode cL_law 1525 = .ok (.iadd, 1) := by decide +kernel
theorem dL_law_1526 : decode cL_law 1526 = .ok (.iaload, 1) := by decide +kernel
theorem dL_law_1527 : decode cL_law 1527 = .ok (.invokevirtual 209, 3) := by decide +kernel
theorem dL_law_1530 : decode cL_law 1530 = .ok (.aload_n 2, 1) := by decide +kernel
theorem dL_law_1531 : decode cL_law 1531 = .ok (.aload_n 0, 1) := by decide +kernel
theorem dL_law_1532 : decode cL_law 1532 = .ok (.iload 4, 2) := by decide +kernel
theorem dL_law_1534 : decode cL_law 1534 = .ok (.iconst 1, 1) := by decide +kernel
theorem dL_law_1535 : decode cL_law 1535 = .ok (.iadd, 1) := by decide +kernel
theorem dL_law_1536 : decode cL_law 1536 = .ok (.iaload, 1) := by decide +kernel
theorem dL_law_1537 : decode cL_law 1537 = .ok (.aload_n 0, 1) := by decide +kernel
theorem dL_law_1538 : decode cL_law 1538 = .ok (.iload 4, 2) := by decide +kernel
theorem dL_law_1540 : decode cL_law 1540 = .ok (.iconst 2, 1) := by decide +kernel
theorem dL_law_1541 : decode cL_law 1541 = .ok (.iadd, 1) := by decide +kernel
theorem dL_law_1542 : decode cL_law 1542 = .ok (.iaload, 1) := by decide +kernel
theorem dL_law_1543 : decode cL_law 1543 = .ok (.aload_n 0, 1) := by decide +kernel
theorem dL_law_1544 : decode cL_law 1544 = .ok (.iload 4, 2) := by decide +kernel
theorem dL_law_1546 : decode cL_law 1546 = .ok (.iconst 3, 1) := by decide +kernel
theorem dL_law_1547 : decode cL_law 1547 = .ok (.iadd, 1) := by decide +kernel
theorem dL_law_1548 : decode cL_law 1548 = .ok (.iaload, 1) := by decide +kernel
theorem dL_law_1549 : decode cL_law 1549 = .ok (.invokevirtual 212, 3) := by decide +kernel
theorem dL_law_1552 : decode cL_law 1552 = .ok (.if_icmp .eq 135, 3) := by decide +kernel
theorem dL_law_1555 : decode cL_law 1555 = .ok (.iconst 0, 1) := by decide +kernel
theorem dL_law_1556 : decode cL_law 1556 = .ok (.ireturn, 1) := by decide +kernel
theorem dL_law_1557 : decode cL_law 1557 = .ok (.aload_n 1, 1) := by decide +kernel
theorem dL_law_1558 : decode cL_law 1558 = .ok (.aload_n 0, 1) := by decide +kernel
theorem dL_law_1559 : decode cL_law 1559 = .ok (.iload 4, 2) := by decide +kernel
theorem dL_law_1561 : decode cL_law 1561 = .ok (.iconst 1, 1) := by decide +kernel
theorem dL_law_1562 : decode cL_law 1562 = .ok (.iadd, 1) := by decide +kernel
theorem dL_law_1563 : decode cL_law 1563 = .ok (.iaload, 1) := by decide +kernel
theorem dL_law_1564 : decode cL_law 1564 = .ok (.invokevirtual 213, 3) := by decide +kernel
theorem dL_law_1567 : decode cL_law 1567 = .ok (.aload_n 2, 1) := by decide +kernel
theorem dL_law_1568 : decode cL_law 1568 = .ok (.aload_n 0, 1) := by decide +kernel
theorem dL_law_1569 : decode cL_law 1569 = .ok (.iload 4, 2) := by decide +kernel
theorem dL_law_1571 : decode cL_law 1571 = .ok (.iconst 1, 1) := by decide +kernel
theorem dL_law_1572 : decode cL_law 1572 = .ok (.iadd, 1) := by decide +kernel
theorem dL_law_1573 : decode cL_law 1573 = .ok (.iaload, 1) := by decide +kernel
theorem dL_law_1574 : decode cL_law 1574 = .ok (.invokevirtual 216, 3) := by decide +kernel
theorem dL_law_1577 : decode cL_law 1577 = .ok (.if_icmp .eq 110, 3) := by decide +kernel
theorem dL_law_1580 : decode cL_law 1580 = .ok (.iconst 0, 1) := by decide +kernel
theorem dL_law_1581 : decode cL_law 1581 = .ok (.ireturn, 1) := by decide +kernel
theorem dL_law_1582 : decode cL_law 1582 = .ok (.aload_n 1, 1) := by decide +kernel
theorem dL_law_1583 : decode cL_law 1583 = .ok (.aload_n 0, 1) := by decide +kernel
theorem dL_law_1584 : decode cL_law 1584 = .ok (.iload 4, 2) := by decide +kernel
theorem dL_law_1586 : decode cL_law 1586 = .ok (.iconst 1, 1) := by decide +kernel
theorem dL_law_1587 : decode cL_law 1587 = .ok (.iadd, 1) := by decide +kernel
theorem dL_law_1588 : decode cL_law 1588 = .ok (.iaload, 1) := by decide +kernel
theorem dL_law_1589 : decode cL_law 1589 = .ok (.invokevirtual 217, 3) := by decide +kernel
theorem dL_law_1592 : decode cL_law 1592 = .ok (.aload_n 2, 1) := by decide +kernel
theorem dL_law_1593 : decode cL_law 1593 = .ok (.aload_n 0, 1) := by decide +kernel
theorem dL_law_1594 : decode cL_law 1594 = .ok (.iload 4, 2) := by decide +kernel
theorem dL_law_1596 : decode cL_law 1596 = .ok (.iconst 1, 1) := by decide +kernel
theorem dL_law_1597 : decode cL_law 1597 = .ok (.iadd, 1) := by decide +kernel
theorem dL_law_1598 : decode cL_law 1598 = .ok (.iaload, 1) := by decide +kernel
theorem dL_law_1599 : decode cL_law 1599 = .ok (.invokevirtual 220, 3) := by decide +kernel
theorem dL_law_1602 : decode cL_law 1602 = .ok (.if_icmp .eq 85, 3) := by decide +kernel
theorem dL_law_1605 : decode cL_law 1605 = .ok (.iconst 0, 1) := by decide +kernel
theorem dL_law_1606 : decode cL_law 1606 = .ok (.ireturn, 1) := by decide +kernel
theorem dL_law_1607 : decode cL_law 1607 = .ok (.aload_n 1, 1) := by decide +kernel
theorem dL_law_1608 : decode cL_law 1608 = .ok (.aload_n 0, 1) := by decide +kernel
theorem dL_law_1609 : decode cL_law 1609 = .ok (.iload 4, 2) := by decide +kernel
theorem dL_law_1611 : decode cL_law 1611 = .ok (.iconst 1, 1) := by decide +kernel
theorem dL_law_1612 : decode cL_law 1612 = .ok (.iadd, 1) := by decide +kernel
theorem dL_law_1613 : decode cL_law 1613 = .ok (.iaload, 1) := by decide +kernel
theorem dL_law_1614 : decode cL_law 1614 = .ok (.invokevirtual 221, 3) := by decide +kernel
theorem dL_law_1617 : decode cL_law 1617 = .ok (.aload_n 2, 1) := by decide +kernel
theorem dL_law_1618 : decode cL_law 1618 = .ok (.aload_n 0, 1) := by decide +kernel
theorem dL_law_1619 : decode cL_law 1619 = .ok (.iload 4, 2) := by decide +kernel
theorem dL_law_1621 : decode cL_law 1621 = .ok (.iconst 1, 1) := by decide +kernel
theorem dL_law_1622 : decode cL_law 1622 = .ok (.iadd, 1) := by decide +kernel
theorem dL_law_1623 : decode cL_law 1623 = .ok (.iaload, 1) := by decide +kernel
theorem dL_law_1624 : decode cL_law 1624 = .ok (.invokevirtual 224, 3) := by decide +kernel
theorem dL_law_1627 : decode cL_law 1627 = .ok (.if_icmp .eq 60, 3) := by decide +kernel
theorem dL_law_1630 : decode cL_law 1630 = .ok (.iconst 0, 1) := by decide +kernel
theorem dL_law_1631 : decode cL_law 1631 = .ok (.ireturn, 1) := by decide +kernel
theorem dL_law_1632 : decode cL_law 1632 = .ok (.aload_n 1, 1) := by decide +kernel
theorem dL_law_1633 : decode cL_law 1633 = .ok (.aload_n 0, 1) := by decide +kernel
theorem dL_law_1634 : decode cL_law 1634 = .ok (.iload 4, 2) := by decide +kernel
theorem dL_law_1636 : decode cL_law 1636 = .ok (.iconst 1, 1) := by decide +kernel
theorem dL_law_1637 : decode cL_law 1637 = .ok (.iadd, 1) := by decide +kernel
theorem dL_law_1638 : decode cL_law 1638 = .ok (.iaload, 1) := by decide +kernel
theorem dL_law_1639 : decode cL_law 1639 = .ok (.aload_n 3, 1) := by decide +kernel
theorem dL_law_1640 : decode cL_law 1640 = .ok (.invokestatic 225, 3) := by decide +kernel
theorem dL_law_1643 : decode cL_law 1643 = .ok (.istore 5, 2) := by decide +kernel
theorem dL_law_1645 : decode cL_law 1645 = .ok (.aload_n 2, 1) := by decide +kernel
theorem dL_law_1646 : decode cL_law 1646 = .ok (.aload_n 0, 1) := by decide +kernel
theorem dL_law_1647 : decode cL_law 1647 = .ok (.iload 4, 2) := by decide +kernel
theorem dL_law_1649 : decode cL_law 1649 = .ok (.iconst 1, 1) := by decide +kernel
theorem dL_law_1650 : decode cL_law 1650 = .ok (.iadd, 1) := by decide +kernel
theorem dL_law_1651 : decode cL_law 1651 = .ok (.iaload, 1) := by decide +kernel
theorem dL_law_1652 : decode cL_law 1652 = .ok (.invokevirtual 228, 3) := by decide +kernel
theorem dL_law_1655 : decode cL_law 1655 = .ok (.lstore 6, 2) := by decide +kernel
theorem dL_law_1657 : decode cL_law 1657 = .ok (.aload_n 2, 1) := by decide +kernel
theorem dL_law_1658 : decode cL_law 1658 = .ok (.invokevirtual 62, 3) := by decide +kernel
theorem dL_law_1661 : decode cL_law 1661 = .ok (.iload 5, 2) := by decide +kernel
theorem dL_law_1663 : decode cL_law 1663 = .ok (.if_icmp .eq 5, 3) := by decide +kernel
theorem dL_law_1666 : decode cL_law 1666 = .ok (.iconst 0, 1) := by decide +kernel
theorem dL_law_1667 : decode cL_law 1667 = .ok (.ireturn, 1) := by decide +kernel
theorem dL_law_1668 : decode cL_law 1668 = .ok (.iload 5, 2) := by decide +kernel
theorem dL_law_1670 : decode cL_law 1670 = .ok (.ifCond .ne 14, 3) := by decide +kernel
theorem dL_law_1673 : decode cL_law 1673 = .ok (.aload_n 3, 1) := by decide +kernel
theorem dL_law_1674 : decode cL_law 1674 = .ok (.iconst 0, 1) := by decide +kernel
theorem dL_law_1675 : decode cL_law 1675 = .ok (.laload, 1) := by decide +kernel
theorem dL_law_1676 : decode cL_law 1676 = .ok (.lload 6, 2) := by decide +kernel
theorem dL_law_1678 : decode cL_law 1678 = .ok (.lcmp, 1) := by decide +kernel
theorem dL_law_1679 : decode cL_law 1679 = .ok (.ifCond .eq 5, 3) := by decide +kernel
theorem dL_law_1682 : decode cL_law 1682 = .ok (.iconst 0, 1) := by decide +kernel
theorem dL_law_1683 : decode cL_law 1683 = .ok (.ireturn, 1) := by decide +kernel
theorem dL_law_1684 : decode cL_law 1684 = .ok (.goto 3, 3) := by decide +kernel
theorem dL_law_1687 : decode cL_law 1687 = .ok (.iinc 4 5, 3) := by decide +kernel
theorem dL_law_1690 : decode cL_law 1690 = .ok (.goto (-1667), 3) := by decide +kernel
theorem dL_law_1693 : decode cL_law 1693 = .ok (.iconst 1, 1) := by decide +kernel
theorem dL_law_1694 : decode cL_law 1694 = .ok (.ireturn, 1) := by decide +kernel
