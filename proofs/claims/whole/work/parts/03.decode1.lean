theorem dX0_init_0 : decode cX0_init 0 = .ok (.aload_n 0, 1) := by decide +kernel
theorem dX0_init_1 : decode cX0_init 1 = .ok (.invokespecial 3, 3) := by decide +kernel
theorem dX0_init_4 : decode cX0_init 4 = .ok (.aload_n 0, 1) := by decide +kernel
theorem dX0_init_5 : decode cX0_init 5 = .ok (.bipush 8, 2) := by decide +kernel
theorem dX0_init_7 : decode cX0_init 7 = .ok (.newarray .int, 2) := by decide +kernel
theorem dX0_init_9 : decode cX0_init 9 = .ok (.putfield 11, 3) := by decide +kernel
theorem dX0_init_12 : decode cX0_init 12 = .ok (.aload_n 0, 1) := by decide +kernel
theorem dX0_init_13 : decode cX0_init 13 = .ok (.bipush 8, 2) := by decide +kernel
theorem dX0_init_15 : decode cX0_init 15 = .ok (.newarray .int, 2) := by decide +kernel
theorem dX0_init_17 : decode cX0_init 17 = .ok (.putfield 15, 3) := by decide +kernel
theorem dX0_init_20 : decode cX0_init 20 = .ok (.aload_n 0, 1) := by decide +kernel
theorem dX0_init_21 : decode cX0_init 21 = .ok (.bipush 8, 2) := by decide +kernel
theorem dX0_init_23 : decode cX0_init 23 = .ok (.newarray .int, 2) := by decide +kernel
theorem dX0_init_25 : decode cX0_init 25 = .ok (.putfield 18, 3) := by decide +kernel
theorem dX0_init_28 : decode cX0_init 28 = .ok (.aload_n 0, 1) := by decide +kernel
theorem dX0_init_29 : decode cX0_init 29 = .ok (.sipush 256, 3) := by decide +kernel
theorem dX0_init_32 : decode cX0_init 32 = .ok (.newarray .int, 2) := by decide +kernel
theorem dX0_init_34 : decode cX0_init 34 = .ok (.putfield 21, 3) := by decide +kernel
theorem dX0_init_37 : decode cX0_init 37 = .ok (.return_, 1) := by decide +kernel
theorem dX0_read_0 : decode cX0_read 0 = .ok (.aload_n 0, 1) := by decide +kernel
theorem dX0_read_1 : decode cX0_read 1 = .ok (.iconst 0, 1) := by decide +kernel
theorem dX0_read_2 : decode cX0_read 2 = .ok (.putfield 24, 3) := by decide +kernel
theorem dX0_read_5 : decode cX0_read 5 = .ok (.iconst 0, 1) := by decide +kernel
theorem dX0_read_6 : decode cX0_read 6 = .ok (.istore_n 2, 1) := by decide +kernel
theorem dX0_read_7 : decode cX0_read 7 = .ok (.iload_n 2, 1) := by decide +kernel
theorem dX0_read_8 : decode cX0_read 8 = .ok (.bipush 8, 2) := by decide +kernel
theorem dX0_read_10 : decode cX0_read 10 = .ok (.if_icmp .ge 52, 3) := by decide +kernel
theorem dX0_read_13 : decode cX0_read 13 = .ok (.iload_n 2, 1) := by decide +kernel
theorem dX0_read_14 : decode cX0_read 14 = .ok (.ifCond .eq 10, 3) := by decide +kernel
theorem dX0_read_17 : decode cX0_read 17 = .ok (.aload_n 1, 1) := by decide +kernel
theorem dX0_read_18 : decode cX0_read 18 = .ok (.invokevirtual 28, 3) := by decide +kernel
theorem dX0_read_21 : decode cX0_read 21 = .ok (.ifCond .ne 41, 3) := by decide +kernel
theorem dX0_read_24 : decode cX0_read 24 = .ok (.aload_n 0, 1) := by decide +kernel
theorem dX0_read_25 : decode cX0_read 25 = .ok (.getfield 15, 3) := by decide +kernel
theorem dX0_read_28 : decode cX0_read 28 = .ok (.iload_n 2, 1) := by decide +kernel
theorem dX0_read_29 : decode cX0_read 29 = .ok (.aload_n 1, 1) := by decide +kernel
theorem dX0_read_30 : decode cX0_read 30 = .ok (.iconst 1, 1) := by decide +kernel
theorem dX0_read_31 : decode cX0_read 31 = .ok (.invokevirtual 34, 3) := by decide +kernel
theorem dX0_read_34 : decode cX0_read 34 = .ok (.iastore, 1) := by decide +kernel
theorem dX0_read_35 : decode cX0_read 35 = .ok (.aload_n 0, 1) := by decide +kernel
theorem dX0_read_36 : decode cX0_read 36 = .ok (.getfield 15, 3) := by decide +kernel
theorem dX0_read_39 : decode cX0_read 39 = .ok (.iload_n 2, 1) := by decide +kernel
theorem dX0_read_40 : decode cX0_read 40 = .ok (.iaload, 1) := by decide +kernel
theorem dX0_read_41 : decode cX0_read 41 = .ok (.ifCond .ge 5, 3) := by decide +kernel
theorem dX0_read_44 : decode cX0_read 44 = .ok (.iconst 0, 1) := by decide +kernel
theorem dX0_read_45 : decode cX0_read 45 = .ok (.ireturn, 1) := by decide +kernel
theorem dX0_read_46 : decode cX0_read 46 = .ok (.aload_n 0, 1) := by decide +kernel
theorem dX0_read_47 : decode cX0_read 47 = .ok (.dup, 1) := by decide +kernel
theorem dX0_read_48 : decode cX0_read 48 = .ok (.getfield 24, 3) := by decide +kernel
theorem dX0_read_51 : decode cX0_read 51 = .ok (.iconst 1, 1) := by decide +kernel
theorem dX0_read_52 : decode cX0_read 52 = .ok (.iadd, 1) := by decide +kernel
theorem dX0_read_53 : decode cX0_read 53 = .ok (.putfield 24, 3) := by decide +kernel
theorem dX0_read_56 : decode cX0_read 56 = .ok (.iinc 2 1, 3) := by decide +kernel
theorem dX0_read_59 : decode cX0_read 59 = .ok (.goto (-52), 3) := by decide +kernel
theorem dX0_read_62 : decode cX0_read 62 = .ok (.aload_n 1, 1) := by decide +kernel
theorem dX0_read_63 : decode cX0_read 63 = .ok (.invokevirtual 28, 3) := by decide +kernel
theorem dX0_read_66 : decode cX0_read 66 = .ok (.ireturn, 1) := by decide +kernel
theorem dX0_sizeOf_0 : decode cX0_sizeOf 0 = .ok (.iconst 0, 1) := by decide +kernel
theorem dX0_sizeOf_1 : decode cX0_sizeOf 1 = .ok (.istore_n 2, 1) := by decide +kernel
theorem dX0_sizeOf_2 : decode cX0_sizeOf 2 = .ok (.iconst 0, 1) := by decide +kernel
theorem dX0_sizeOf_3 : decode cX0_sizeOf 3 = .ok (.istore_n 3, 1) := by decide +kernel
theorem dX0_sizeOf_4 : decode cX0_sizeOf 4 = .ok (.iload_n 3, 1) := by decide +kernel
theorem dX0_sizeOf_5 : decode cX0_sizeOf 5 = .ok (.aload_n 0, 1) := by decide +kernel
theorem dX0_sizeOf_6 : decode cX0_sizeOf 6 = .ok (.getfield 24, 3) := by decide +kernel
theorem dX0_sizeOf_9 : decode cX0_sizeOf 9 = .ok (.if_icmp .ge 30, 3) := by decide +kernel
theorem dX0_sizeOf_12 : decode cX0_sizeOf 12 = .ok (.iload_n 2, 1) := by decide +kernel
theorem dX0_sizeOf_13 : decode cX0_sizeOf 13 = .ok (.iload_n 1, 1) := by decide +kernel
theorem dX0_sizeOf_14 : decode cX0_sizeOf 14 = .ok (.iload_n 3, 1) := by decide +kernel
theorem dX0_sizeOf_15 : decode cX0_sizeOf 15 = .ok (.ishr, 1) := by decide +kernel
theorem dX0_sizeOf_16 : decode cX0_sizeOf 16 = .ok (.iconst 1, 1) := by decide +kernel
theorem dX0_sizeOf_17 : decode cX0_sizeOf 17 = .ok (.iand, 1) := by decide +kernel
theorem dX0_sizeOf_18 : decode cX0_sizeOf 18 = .ok (.ifCond .eq 12, 3) := by decide +kernel
theorem dX0_sizeOf_21 : decode cX0_sizeOf 21 = .ok (.aload_n 0, 1) := by decide +kernel
theorem dX0_sizeOf_22 : decode cX0_sizeOf 22 = .ok (.getfield 15, 3) := by decide +kernel
theorem dX0_sizeOf_25 : decode cX0_sizeOf 25 = .ok (.iload_n 3, 1) := by decide +kernel
theorem dX0_sizeOf_26 : decode cX0_sizeOf 26 = .ok (.iaload, 1) := by decide +kernel
theorem dX0_sizeOf_27 : decode cX0_sizeOf 27 = .ok (.goto 4, 3) := by decide +kernel
theorem dX0_sizeOf_30 : decode cX0_sizeOf 30 = .ok (.iconst 0, 1) := by decide +kernel
theorem dX0_sizeOf_31 : decode cX0_sizeOf 31 = .ok (.iadd, 1) := by decide +kernel
theorem dX0_sizeOf_32 : decode cX0_sizeOf 32 = .ok (.istore_n 2, 1) := by decide +kernel
theorem dX0_sizeOf_33 : decode cX0_sizeOf 33 = .ok (.iinc 3 1, 3) := by decide +kernel
theorem dX0_sizeOf_36 : decode cX0_sizeOf 36 = .ok (.goto (-32), 3) := by decide +kernel
theorem dX0_sizeOf_39 : decode cX0_sizeOf 39 = .ok (.iload_n 2, 1) := by decide +kernel
theorem dX0_sizeOf_40 : decode cX0_sizeOf 40 = .ok (.ireturn, 1) := by decide +kernel
theorem dX0_weigh_0 : decode cX0_weigh 0 = .ok (.aload_n 0, 1) := by decide +kernel
theorem dX0_weigh_1 : decode cX0_weigh 1 = .ok (.getfield 21, 3) := by decide +kernel
theorem dX0_weigh_4 : decode cX0_weigh 4 = .ok (.iconst 0, 1) := by decide +kernel
theorem dX0_weigh_5 : decode cX0_weigh 5 = .ok (.iload_n 1, 1) := by decide +kernel
theorem dX0_weigh_6 : decode cX0_weigh 6 = .ok (.iastore, 1) := by decide +kernel
theorem dX0_weigh_7 : decode cX0_weigh 7 = .ok (.iconst 1, 1) := by decide +kernel
theorem dX0_weigh_8 : decode cX0_weigh 8 = .ok (.istore_n 2, 1) := by decide +kernel
theorem dX0_weigh_9 : decode cX0_weigh 9 = .ok (.iload_n 2, 1) := by decide +kernel
theorem dX0_weigh_10 : decode cX0_weigh 10 = .ok (.iconst 1, 1) := by decide +kernel
theorem dX0_weigh_11 : decode cX0_weigh 11 = .ok (.aload_n 0, 1) := by decide +kernel
theorem dX0_weigh_12 : decode cX0_weigh 12 = .ok (.getfield 24, 3) := by decide +kernel
theorem dX0_weigh_15 : decode cX0_weigh 15 = .ok (.ishl, 1) := by decide +kernel
theorem dX0_weigh_16 : decode cX0_weigh 16 = .ok (.if_icmp .ge 86, 3) := by decide +kernel
theorem dX0_weigh_19 : decode cX0_weigh 19 = .ok (.aload_n 0, 1) := by decide +kernel
theorem dX0_weigh_20 : decode cX0_weigh 20 = .ok (.getfield 21, 3) := by decide +kernel
theorem dX0_weigh_23 : decode cX0_weigh 23 = .ok (.iload_n 2, 1) := by decide +kernel
theorem dX0_weigh_24 : decode cX0_weigh 24 = .ok (.ldc 38, 2) := by decide +kernel
theorem dX0_weigh_26 : decode cX0_weigh 26 = .ok (.iastore, 1) := by decide +kernel
theorem dX0_weigh_27 : decode cX0_weigh 27 = .ok (.iconst 0, 1) := by decide +kernel
theorem dX0_weigh_28 : decode cX0_weigh 28 = .ok (.istore_n 3, 1) := by decide +kernel
theorem dX0_weigh_29 : decode cX0_weigh 29 = .ok (.iload_n 3, 1) := by decide +kernel
theorem dX0_weigh_30 : decode cX0_weigh 30 = .ok (.aload_n 0, 1) := by decide +kernel
theorem dX0_weigh_31 : decode cX0_weigh 31 = .ok (.getfield 24, 3) := by decide +kernel
theorem dX0_weigh_34 : decode cX0_weigh 34 = .ok (.if_icmp .ge 62, 3) := by decide +kernel
theorem dX0_weigh_37 : decode cX0_weigh 37 = .ok (.iload_n 2, 1) := by decide +kernel
theorem dX0_weigh_38 : decode cX0_weigh 38 = .ok (.iload_n 3, 1) := by decide +kernel
theorem dX0_weigh_39 : decode cX0_weigh 39 = .ok (.ishr, 1) := by decide +kernel
theorem dX0_weigh_40 : decode cX0_weigh 40 = .ok (.iconst 1, 1) := by decide +kernel
theorem dX0_weigh_41 : decode cX0_weigh 41 = .ok (.iand, 1) := by decide +kernel
theorem dX0_weigh_42 : decode cX0_weigh 42 = .ok (.ifCond .eq 48, 3) := by decide +kernel
theorem dX0_weigh_45 : decode cX0_weigh 45 = .ok (.aload_n 0, 1) := by decide +kernel
theorem dX0_weigh_46 : decode cX0_weigh 46 = .ok (.getfield 15, 3) := by decide +kernel
theorem dX0_weigh_49 : decode cX0_weigh 49 = .ok (.iload_n 3, 1) := by decide +kernel
theorem dX0_weigh_50 : decode cX0_weigh 50 = .ok (.iaload, 1) := by decide +kernel
theorem dX0_weigh_51 : decode cX0_weigh 51 = .ok (.iload_n 1, 1) := by decide +kernel
theorem dX0_weigh_52 : decode cX0_weigh 52 = .ok (.if_icmp .gt 38, 3) := by decide +kernel
theorem dX0_weigh_55 : decode cX0_weigh 55 = .ok (.aload_n 0, 1) := by decide +kernel
theorem dX0_weigh_56 : decode cX0_weigh 56 = .ok (.getfield 21, 3) := by decide +kernel
theorem dX0_weigh_59 : decode cX0_weigh 59 = .ok (.iload_n 2, 1) := by decide +kernel
theorem dX0_weigh_60 : decode cX0_weigh 60 = .ok (.aload_n 0, 1) := by decide +kernel
theorem dX0_weigh_61 : decode cX0_weigh 61 = .ok (.getfield 21, 3) := by decide +kernel
theorem dX0_weigh_64 : decode cX0_weigh 64 = .ok (.iload_n 2, 1) := by decide +kernel
theorem dX0_weigh_65 : decode cX0_weigh 65 = .ok (.iaload, 1) := by decide +kernel
theorem dX0_weigh_66 : decode cX0_weigh 66 = .ok (.aload_n 0, 1) := by decide +kernel
theorem dX0_weigh_67 : decode cX0_weigh 67 = .ok (.getfield 21, 3) := by decide +kernel
theorem dX0_weigh_70 : decode cX0_weigh 70 = .ok (.iload_n 2, 1) := by decide +kernel
theorem dX0_weigh_71 : decode cX0_weigh 71 = .ok (.iconst 1, 1) := by decide +kernel
theorem dX0_weigh_72 : decode cX0_weigh 72 = .ok (.iload_n 3, 1) := by decide +kernel
theorem dX0_weigh_73 : decode cX0_weigh 73 = .ok (.ishl, 1) := by decide +kernel
theorem dX0_weigh_74 : decode cX0_weigh 74 = .ok (.ixor, 1) := by decide +kernel
theorem dX0_weigh_75 : decode cX0_weigh 75 = .ok (.iaload, 1) := by decide +kernel
theorem dX0_weigh_76 : decode cX0_weigh 76 = .ok (.aload_n 0, 1) := by decide +kernel
theorem dX0_weigh_77 : decode cX0_weigh 77 = .ok (.getfield 15, 3) := by decide +kernel
theorem dX0_weigh_80 : decode cX0_weigh 80 = .ok (.iload_n 3, 1) := by decide +kernel
theorem dX0_weigh_81 : decode cX0_weigh 81 = .ok (.iaload, 1) := by decide +kernel
theorem dX0_weigh_82 : decode cX0_weigh 82 = .ok (.iload_n 1, 1) := by decide +kernel
theorem dX0_weigh_83 : decode cX0_weigh 83 = .ok (.invokestatic 39, 3) := by decide +kernel
theorem dX0_weigh_86 : decode cX0_weigh 86 = .ok (.invokestatic 43, 3) := by decide +kernel
theorem dX0_weigh_89 : decode cX0_weigh 89 = .ok (.iastore, 1) := by decide +kernel
theorem dX0_weigh_90 : decode cX0_weigh 90 = .ok (.iinc 3 1, 3) := by decide +kernel
theorem dX0_weigh_93 : decode cX0_weigh 93 = .ok (.goto (-64), 3) := by decide +kernel
theorem dX0_weigh_96 : decode cX0_weigh 96 = .ok (.iinc 2 1, 3) := by decide +kernel
theorem dX0_weigh_99 : decode cX0_weigh 99 = .ok (.goto (-90), 3) := by decide +kernel
theorem dX0_weigh_102 : decode cX0_weigh 102 = .ok (.return_, 1) := by decide +kernel
theorem dX0_withOneMore_0 : decode cX0_withOneMore 0 = .ok (.iload_n 0, 1) := by decide +kernel
theorem dX0_withOneMore_1 : decode cX0_withOneMore 1 = .ok (.ldc 38, 2) := by decide +kernel
theorem dX0_withOneMore_3 : decode cX0_withOneMore 3 = .ok (.if_icmp .lt 6, 3) := by decide +kernel
theorem dX0_withOneMore_6 : decode cX0_withOneMore 6 = .ok (.ldc 38, 2) := by decide +kernel
theorem dX0_withOneMore_8 : decode cX0_withOneMore 8 = .ok (.ireturn, 1) := by decide +kernel
theorem dX0_withOneMore_9 : decode cX0_withOneMore 9 = .ok (.iload_n 0, 1) := by decide +kernel
theorem dX0_withOneMore_10 : decode cX0_withOneMore 10 = .ok (.bipush 31, 2) := by decide +kernel
theorem dX0_withOneMore_12 : decode cX0_withOneMore 12 = .ok (.iand, 1) := by decide +kernel
theorem dX0_withOneMore_13 : decode cX0_withOneMore 13 = .ok (.iload_n 1, 1) := by decide +kernel
theorem dX0_withOneMore_14 : decode cX0_withOneMore 14 = .ok (.iadd, 1) := by decide +kernel
theorem dX0_withOneMore_15 : decode cX0_withOneMore 15 = .ok (.iload_n 2, 1) := by decide +kernel
theorem dX0_withOneMore_16 : decode cX0_withOneMore 16 = .ok (.if_icmp .gt 7, 3) := by decide +kernel
theorem dX0_withOneMore_19 : decode cX0_withOneMore 19 = .ok (.iconst 1, 1) := by decide +kernel
theorem dX0_withOneMore_20 : decode cX0_withOneMore 20 = .ok (.goto 4, 3) := by decide +kernel
theorem dX0_withOneMore_23 : decode cX0_withOneMore 23 = .ok (.iconst 0, 1) := by decide +kernel
theorem dX0_withOneMore_24 : decode cX0_withOneMore 24 = .ok (.istore_n 3, 1) := by decide +kernel
theorem dX0_withOneMore_25 : decode cX0_withOneMore 25 = .ok (.iload_n 3, 1) := by decide +kernel
theorem dX0_withOneMore_26 : decode cX0_withOneMore 26 = .ok (.ifCond .eq 9, 3) := by decide +kernel
theorem dX0_withOneMore_29 : decode cX0_withOneMore 29 = .ok (.iload_n 0, 1) := by decide +kernel
theorem dX0_withOneMore_30 : decode cX0_withOneMore 30 = .ok (.iload_n 1, 1) := by decide +kernel
theorem dX0_withOneMore_31 : decode cX0_withOneMore 31 = .ok (.iadd, 1) := by decide +kernel
theorem dX0_withOneMore_32 : decode cX0_withOneMore 32 = .ok (.goto 12, 3) := by decide +kernel
theorem dX0_withOneMore_35 : decode cX0_withOneMore 35 = .ok (.iload_n 0, 1) := by decide +kernel
theorem dX0_withOneMore_36 : decode cX0_withOneMore 36 = .ok (.bipush (-32), 2) := by decide +kernel
theorem dX0_withOneMore_38 : decode cX0_withOneMore 38 = .ok (.iand, 1) := by decide +kernel
theorem dX0_withOneMore_39 : decode cX0_withOneMore 39 = .ok (.bipush 32, 2) := by decide +kernel
theorem dX0_withOneMore_41 : decode cX0_withOneMore 41 = .ok (.iadd, 1) := by decide +kernel
theorem dX0_withOneMore_42 : decode cX0_withOneMore 42 = .ok (.iload_n 1, 1) := by decide +kernel
theorem dX0_withOneMore_43 : decode cX0_withOneMore 43 = .ok (.iadd, 1) := by decide +kernel
theorem dX0_withOneMore_44 : decode cX0_withOneMore 44 = .ok (.ireturn, 1) := by decide +kernel
theorem dX0_fewest_0 : decode cX0_fewest 0 = .ok (.aload_n 0, 1) := by decide +kernel
theorem dX0_fewest_1 : decode cX0_fewest 1 = .ok (.iload_n 1, 1) := by decide +kernel
theorem dX0_fewest_2 : decode cX0_fewest 2 = .ok (.invokevirtual 49, 3) := by decide +kernel
theorem dX0_fewest_5 : decode cX0_fewest 5 = .ok (.aload_n 0, 1) := by decide +kernel
theorem dX0_fewest_6 : decode cX0_fewest 6 = .ok (.getfield 21, 3) := by decide +kernel
theorem dX0_fewest_9 : decode cX0_fewest 9 = .ok (.iconst 1, 1) := by decide +kernel
theorem dX0_fewest_10 : decode cX0_fewest 10 = .ok (.aload_n 0, 1) := by decide +kernel
theorem dX0_fewest_11 : decode cX0_fewest 11 = .ok (.getfield 24, 3) := by decide +kernel
theorem dX0_fewest_14 : decode cX0_fewest 14 = .ok (.ishl, 1) := by decide +kernel
theorem dX0_fewest_15 : decode cX0_fewest 15 = .ok (.iconst 1, 1) := by decide +kernel
theorem dX0_fewest_16 : decode cX0_fewest 16 = .ok (.isub, 1) := by decide +kernel
theorem dX0_fewest_17 : decode cX0_fewest 17 = .ok (.iaload, 1) := by decide +kernel
theorem dX0_fewest_18 : decode cX0_fewest 18 = .ok (.istore_n 2, 1) := by decide +kernel
theorem dX0_fewest_19 : decode cX0_fewest 19 = .ok (.iload_n 2, 1) := by decide +kernel
theorem dX0_fewest_20 : decode cX0_fewest 20 = .ok (.ldc 38, 2) := by decide +kernel
theorem dX0_fewest_22 : decode cX0_fewest 22 = .ok (.if_icmp .lt 5, 3) := by decide +kernel
theorem dX0_fewest_25 : decode cX0_fewest 25 = .ok (.iconst (-1), 1) := by decide +kernel
theorem dX0_fewest_26 : decode cX0_fewest 26 = .ok (.ireturn, 1) := by decide +kernel
theorem dX0_fewest_27 : decode cX0_fewest 27 = .ok (.aload_n 0, 1) := by decide +kernel
theorem dX0_fewest_28 : decode cX0_fewest 28 = .ok (.getfield 18, 3) := by decide +kernel
theorem dX0_fewest_31 : decode cX0_fewest 31 = .ok (.iload_n 1, 1) := by decide +kernel
theorem dX0_fewest_32 : decode cX0_fewest 32 = .ok (.invokestatic 53, 3) := by decide +kernel
theorem dX0_fewest_35 : decode cX0_fewest 35 = .ok (.aload_n 0, 1) := by decide +kernel
theorem dX0_fewest_36 : decode cX0_fewest 36 = .ok (.iconst 0, 1) := by decide +kernel
theorem dX0_fewest_37 : decode cX0_fewest 37 = .ok (.iconst 0, 1) := by decide +kernel
theorem dX0_fewest_38 : decode cX0_fewest 38 = .ok (.iload_n 2, 1) := by decide +kernel
theorem dX0_fewest_39 : decode cX0_fewest 39 = .ok (.iconst 5, 1) := by decide +kernel
theorem dX0_fewest_40 : decode cX0_fewest 40 = .ok (.ishr, 1) := by decide +kernel
theorem dX0_fewest_41 : decode cX0_fewest 41 = .ok (.invokevirtual 59, 3) := by decide +kernel
theorem dX0_fewest_44 : decode cX0_fewest 44 = .ok (.pop, 1) := by decide +kernel
theorem dX0_fewest_45 : decode cX0_fewest 45 = .ok (.iload_n 2, 1) := by decide +kernel
theorem dX0_fewest_46 : decode cX0_fewest 46 = .ok (.iconst 5, 1) := by decide +kernel
theorem dX0_fewest_47 : decode cX0_fewest 47 = .ok (.ishr, 1) := by decide +kernel
theorem dX0_fewest_48 : decode cX0_fewest 48 = .ok (.ireturn, 1) := by decide +kernel
theorem dX0_place_0 : decode cX0_place 0 = .ok (.iload_n 1, 1) := by decide +kernel
theorem dX0_place_1 : decode cX0_place 1 = .ok (.aload_n 0, 1) := by decide +kernel
theorem dX0_place_2 : decode cX0_place 2 = .ok (.getfield 24, 3) := by decide +kernel
theorem dX0_place_5 : decode cX0_place 5 = .ok (.if_icmp .lt 5, 3) := by decide +kernel
theorem dX0_place_8 : decode cX0_place 8 = .ok (.iconst 1, 1) := by decide +kernel
theorem dX0_place_9 : decode cX0_place 9 = .ok (.ireturn, 1) := by decide +kernel
theorem dX0_place_10 : decode cX0_place 10 = .ok (.iconst 0, 1) := by decide +kernel
theorem dX0_place_11 : decode cX0_place 11 = .ok (.istore 4, 2) := by decide +kernel
theorem dX0_place_13 : decode cX0_place 13 = .ok (.iload 4, 2) := by decide +kernel
theorem dX0_place_15 : decode cX0_place 15 = .ok (.bipush 8, 2) := by decide +kernel
theorem dX0_place_17 : decode cX0_place 17 = .ok (.if_icmp .ge 101, 3) := by decide +kernel
theorem dX0_place_20 : decode cX0_place 20 = .ok (.iload 4, 2) := by decide +kernel
theorem dX0_place_22 : decode cX0_place 22 = .ok (.iload_n 2, 1) := by decide +kernel
theorem dX0_place_23 : decode cX0_place 23 = .ok (.if_icmp .gt 95, 3) := by decide +kernel
theorem dX0_place_26 : decode cX0_place 26 = .ok (.iload 4, 2) := by decide +kernel
theorem dX0_place_28 : decode cX0_place 28 = .ok (.iload_n 3, 1) := by decide +kernel
theorem dX0_place_29 : decode cX0_place 29 = .ok (.if_icmp .ge 89, 3) := by decide +kernel
theorem dX0_place_32 : decode cX0_place 32 = .ok (.aload_n 0, 1) := by decide +kernel
theorem dX0_place_33 : decode cX0_place 33 = .ok (.getfield 18, 3) := by decide +kernel
theorem dX0_place_36 : decode cX0_place 36 = .ok (.iload 4, 2) := by decide +kernel
theorem dX0_place_38 : decode cX0_place 38 = .ok (.iaload, 1) := by decide +kernel
theorem dX0_place_39 : decode cX0_place 39 = .ok (.aload_n 0, 1) := by decide +kernel
theorem dX0_place_40 : decode cX0_place 40 = .ok (.getfield 15, 3) := by decide +kernel
theorem dX0_place_43 : decode cX0_place 43 = .ok (.iload_n 1, 1) := by decide +kernel
theorem dX0_place_44 : decode cX0_place 44 = .ok (.iaload, 1) := by decide +kernel
theorem dX0_place_45 : decode cX0_place 45 = .ok (.if_icmp .ge 6, 3) := by decide +kernel
theorem dX0_place_48 : decode cX0_place 48 = .ok (.goto 64, 3) := by decide +kernel
theorem dX0_place_51 : decode cX0_place 51 = .ok (.aload_n 0, 1) := by decide +kernel
theorem dX0_place_52 : decode cX0_place 52 = .ok (.getfield 18, 3) := by decide +kernel
theorem dX0_place_55 : decode cX0_place 55 = .ok (.iload 4, 2) := by decide +kernel
theorem dX0_place_57 : decode cX0_place 57 = .ok (.dup2, 1) := by decide +kernel
theorem dX0_place_58 : decode cX0_place 58 = .ok (.iaload, 1) := by decide +kernel
theorem dX0_place_59 : decode cX0_place 59 = .ok (.aload_n 0, 1) := by decide +kernel
theorem dX0_place_60 : decode cX0_place 60 = .ok (.getfield 15, 3) := by decide +kernel
theorem dX0_place_63 : decode cX0_place 63 = .ok (.iload_n 1, 1) := by decide +kernel
theorem dX0_place_64 : decode cX0_place 64 = .ok (.iaload, 1) := by decide +kernel
theorem dX0_place_65 : decode cX0_place 65 = .ok (.isub, 1) := by decide +kernel
theorem dX0_place_66 : decode cX0_place 66 = .ok (.iastore, 1) := by decide +kernel
theorem dX0_place_67 : decode cX0_place 67 = .ok (.aload_n 0, 1) := by decide +kernel
theorem dX0_place_68 : decode cX0_place 68 = .ok (.getfield 11, 3) := by decide +kernel
theorem dX0_place_71 : decode cX0_place 71 = .ok (.iload_n 1, 1) := by decide +kernel
theorem dX0_place_72 : decode cX0_place 72 = .ok (.iload 4, 2) := by decide +kernel
theorem dX0_place_74 : decode cX0_place 74 = .ok (.iastore, 1) := by decide +kernel
theorem dX0_place_75 : decode cX0_place 75 = .ok (.aload_n 0, 1) := by decide +kernel
theorem dX0_place_76 : decode cX0_place 76 = .ok (.iload_n 1, 1) := by decide +kernel
theorem dX0_place_77 : decode cX0_place 77 = .ok (.iconst 1, 1) := by decide +kernel
theorem dX0_place_78 : decode cX0_place 78 = .ok (.iadd, 1) := by decide +kernel
theorem dX0_place_79 : decode cX0_place 79 = .ok (.iload_n 2, 1) := by decide +kernel
theorem dX0_place_80 : decode cX0_place 80 = .ok (.iload 4, 2) := by decide +kernel
theorem dX0_place_82 : decode cX0_place 82 = .ok (.iconst 1, 1) := by decide +kernel
theorem dX0_place_83 : decode cX0_place 83 = .ok (.iadd, 1) := by decide +kernel
theorem dX0_place_84 : decode cX0_place 84 = .ok (.invokestatic 63, 3) := by decide +kernel
theorem dX0_place_87 : decode cX0_place 87 = .ok (.iload_n 3, 1) := by decide +kernel
theorem dX0_place_88 : decode cX0_place 88 = .ok (.invokevirtual 59, 3) := by decide +kernel
theorem dX0_place_91 : decode cX0_place 91 = .ok (.ifCond .eq 5, 3) := by decide +kernel
theorem dX0_place_94 : decode cX0_place 94 = .ok (.iconst 1, 1) := by decide +kernel
theorem dX0_place_95 : decode cX0_place 95 = .ok (.ireturn, 1) := by decide +kernel
theorem dX0_place_96 : decode cX0_place 96 = .ok (.aload_n 0, 1) := by decide +kernel
theorem dX0_place_97 : decode cX0_place 97 = .ok (.getfield 18, 3) := by decide +kernel
theorem dX0_place_100 : decode cX0_place 100 = .ok (.iload 4, 2) := by decide +kernel
theorem dX0_place_102 : decode cX0_place 102 = .ok (.dup2, 1) := by decide +kernel
theorem dX0_place_103 : decode cX0_place 103 = .ok (.iaload, 1) := by decide +kernel
theorem dX0_place_104 : decode cX0_place 104 = .ok (.aload_n 0, 1) := by decide +kernel
theorem dX0_place_105 : decode cX0_place 105 = .ok (.getfield 15, 3) := by decide +kernel
theorem dX0_place_108 : decode cX0_place 108 = .ok (.iload_n 1, 1) := by decide +kernel
theorem dX0_place_109 : decode cX0_place 109 = .ok (.iaload, 1) := by decide +kernel
theorem dX0_place_110 : decode cX0_place 110 = .ok (.iadd, 1) := by decide +kernel
theorem dX0_place_111 : decode cX0_place 111 = .ok (.iastore, 1) := by decide +kernel
theorem dX0_place_112 : decode cX0_place 112 = .ok (.iinc 4 1, 3) := by decide +kernel
theorem dX0_place_115 : decode cX0_place 115 = .ok (.goto (-102), 3) := by decide +kernel
theorem dX0_place_118 : decode cX0_place 118 = .ok (.iconst 0, 1) := by decide +kernel
theorem dX0_place_119 : decode cX0_place 119 = .ok (.ireturn, 1) := by decide +kernel
theorem dX0_mostInto_0 : decode cX0_mostInto 0 = .ok (.aload_n 0, 1) := by decide +kernel
theorem dX0_mostInto_1 : decode cX0_mostInto 1 = .ok (.iload_n 2, 1) := by decide +kernel
theorem dX0_mostInto_2 : decode cX0_mostInto 2 = .ok (.invokevirtual 49, 3) := by decide +kernel
theorem dX0_mostInto_5 : decode cX0_mostInto 5 = .ok (.iconst 0, 1) := by decide +kernel
theorem dX0_mostInto_6 : decode cX0_mostInto 6 = .ok (.istore_n 3, 1) := by decide +kernel
theorem dX0_mostInto_7 : decode cX0_mostInto 7 = .ok (.iconst 1, 1) := by decide +kernel
theorem dX0_mostInto_8 : decode cX0_mostInto 8 = .ok (.istore 4, 2) := by decide +kernel
theorem dX0_mostInto_10 : decode cX0_mostInto 10 = .ok (.iload 4, 2) := by decide +kernel
theorem dX0_mostInto_12 : decode cX0_mostInto 12 = .ok (.iconst 1, 1) := by decide +kernel
theorem dX0_mostInto_13 : decode cX0_mostInto 13 = .ok (.aload_n 0, 1) := by decide +kernel
theorem dX0_mostInto_14 : decode cX0_mostInto 14 = .ok (.getfield 24, 3) := by decide +kernel
theorem dX0_mostInto_17 : decode cX0_mostInto 17 = .ok (.ishl, 1) := by decide +kernel
theorem dX0_mostInto_18 : decode cX0_mostInto 18 = .ok (.if_icmp .ge 64, 3) := by decide +kernel
theorem dX0_mostInto_21 : decode cX0_mostInto 21 = .ok (.aload_n 0, 1) := by decide +kernel
theorem dX0_mostInto_22 : decode cX0_mostInto 22 = .ok (.getfield 21, 3) := by decide +kernel
theorem dX0_mostInto_25 : decode cX0_mostInto 25 = .ok (.iload 4, 2) := by decide +kernel
theorem dX0_mostInto_27 : decode cX0_mostInto 27 = .ok (.iaload, 1) := by decide +kernel
theorem dX0_mostInto_28 : decode cX0_mostInto 28 = .ok (.iconst 5, 1) := by decide +kernel
theorem dX0_mostInto_29 : decode cX0_mostInto 29 = .ok (.ishr, 1) := by decide +kernel
theorem dX0_mostInto_30 : decode cX0_mostInto 30 = .ok (.iload_n 1, 1) := by decide +kernel
theorem dX0_mostInto_31 : decode cX0_mostInto 31 = .ok (.if_icmp .le 6, 3) := by decide +kernel
theorem dX0_mostInto_34 : decode cX0_mostInto 34 = .ok (.goto 42, 3) := by decide +kernel
theorem dX0_mostInto_37 : decode cX0_mostInto 37 = .ok (.aload_n 0, 1) := by decide +kernel
theorem dX0_mostInto_38 : decode cX0_mostInto 38 = .ok (.iload 4, 2) := by decide +kernel
theorem dX0_mostInto_40 : decode cX0_mostInto 40 = .ok (.invokevirtual 66, 3) := by decide +kernel
theorem dX0_mostInto_43 : decode cX0_mostInto 43 = .ok (.aload_n 0, 1) := by decide +kernel
theorem dX0_mostInto_44 : decode cX0_mostInto 44 = .ok (.iload_n 3, 1) := by decide +kernel
theorem dX0_mostInto_45 : decode cX0_mostInto 45 = .ok (.invokevirtual 66, 3) := by decide +kernel
theorem dX0_mostInto_48 : decode cX0_mostInto 48 = .ok (.isub, 1) := by decide +kernel
theorem dX0_mostInto_49 : decode cX0_mostInto 49 = .ok (.istore 5, 2) := by decide +kernel
theorem dX0_mostInto_51 : decode cX0_mostInto 51 = .ok (.iload 5, 2) := by decide +kernel
theorem dX0_mostInto_53 : decode cX0_mostInto 53 = .ok (.ifCond .gt 20, 3) := by decide +kernel
theorem dX0_mostInto_56 : decode cX0_mostInto 56 = .ok (.iload 5, 2) := by decide +kernel
theorem dX0_mostInto_58 : decode cX0_mostInto 58 = .ok (.ifCond .ne 18, 3) := by decide +kernel
theorem dX0_mostInto_61 : decode cX0_mostInto 61 = .ok (.iload 4, 2) := by decide +kernel
theorem dX0_mostInto_63 : decode cX0_mostInto 63 = .ok (.invokestatic 69, 3) := by decide +kernel
theorem dX0_mostInto_66 : decode cX0_mostInto 66 = .ok (.iload_n 3, 1) := by decide +kernel
theorem dX0_mostInto_67 : decode cX0_mostInto 67 = .ok (.invokestatic 69, 3) := by decide +kernel
theorem dX0_mostInto_70 : decode cX0_mostInto 70 = .ok (.if_icmp .ge 6, 3) := by decide +kernel
theorem dX0_mostInto_73 : decode cX0_mostInto 73 = .ok (.iload 4, 2) := by decide +kernel
theorem dX0_mostInto_75 : decode cX0_mostInto 75 = .ok (.istore_n 3, 1) := by decide +kernel
theorem dX0_mostInto_76 : decode cX0_mostInto 76 = .ok (.iinc 4 1, 3) := by decide +kernel
theorem dX0_mostInto_79 : decode cX0_mostInto 79 = .ok (.goto (-69), 3) := by decide +kernel
theorem dX0_mostInto_82 : decode cX0_mostInto 82 = .ok (.iload_n 3, 1) := by decide +kernel
theorem dX0_mostInto_83 : decode cX0_mostInto 83 = .ok (.ireturn, 1) := by decide +kernel
theorem dX1_init_0 : decode cX1_init 0 = .ok (.aload_n 0, 1) := by decide +kernel
theorem dX1_init_1 : decode cX1_init 1 = .ok (.invokespecial 3, 3) := by decide +kernel
theorem dX1_init_4 : decode cX1_init 4 = .ok (.aload_n 0, 1) := by decide +kernel
theorem dX1_init_5 : decode cX1_init 5 = .ok (.bipush 6, 2) := by decide +kernel
theorem dX1_init_7 : decode cX1_init 7 = .ok (.anewarray 11, 3) := by decide +kernel
theorem dX1_init_10 : decode cX1_init 10 = .ok (.putfield 13, 3) := by decide +kernel
theorem dX1_init_13 : decode cX1_init 13 = .ok (.aload_n 0, 1) := by decide +kernel
theorem dX1_init_14 : decode cX1_init 14 = .ok (.bipush 6, 2) := by decide +kernel
theorem dX1_init_16 : decode cX1_init 16 = .ok (.anewarray 11, 3) := by decide +kernel
theorem dX1_init_19 : decode cX1_init 19 = .ok (.putfield 19, 3) := by decide +kernel
theorem dX1_init_22 : decode cX1_init 22 = .ok (.aload_n 0, 1) := by decide +kernel
theorem dX1_init_23 : decode cX1_init 23 = .ok (.bipush 6, 2) := by decide +kernel
theorem dX1_init_25 : decode cX1_init 25 = .ok (.anewarray 11, 3) := by decide +kernel
theorem dX1_init_28 : decode cX1_init 28 = .ok (.putfield 22, 3) := by decide +kernel
theorem dX1_init_31 : decode cX1_init 31 = .ok (.aload_n 0, 1) := by decide +kernel
theorem dX1_init_32 : decode cX1_init 32 = .ok (.new 11, 3) := by decide +kernel
theorem dX1_init_35 : decode cX1_init 35 = .ok (.dup, 1) := by decide +kernel
theorem dX1_init_36 : decode cX1_init 36 = .ok (.invokespecial 25, 3) := by decide +kernel
theorem dX1_init_39 : decode cX1_init 39 = .ok (.putfield 26, 3) := by decide +kernel
theorem dX1_init_42 : decode cX1_init 42 = .ok (.aload_n 0, 1) := by decide +kernel
theorem dX1_init_43 : decode cX1_init 43 = .ok (.bipush 6, 2) := by decide +kernel
theorem dX1_init_45 : decode cX1_init 45 = .ok (.anewarray 11, 3) := by decide +kernel
theorem dX1_init_48 : decode cX1_init 48 = .ok (.putfield 30, 3) := by decide +kernel
theorem dX1_init_51 : decode cX1_init 51 = .ok (.aload_n 0, 1) := by decide +kernel
theorem dX1_init_52 : decode cX1_init 52 = .ok (.new 11, 3) := by decide +kernel
theorem dX1_init_55 : decode cX1_init 55 = .ok (.dup, 1) := by decide +kernel
theorem dX1_init_56 : decode cX1_init 56 = .ok (.invokespecial 25, 3) := by decide +kernel
theorem dX1_init_59 : decode cX1_init 59 = .ok (.putfield 33, 3) := by decide +kernel
theorem dX1_init_62 : decode cX1_init 62 = .ok (.aload_n 0, 1) := by decide +kernel
theorem dX1_init_63 : decode cX1_init 63 = .ok (.bipush 12, 2) := by decide +kernel
theorem dX1_init_65 : decode cX1_init 65 = .ok (.newarray .int, 2) := by decide +kernel
theorem dX1_init_67 : decode cX1_init 67 = .ok (.putfield 38, 3) := by decide +kernel
theorem dX1_init_70 : decode cX1_init 70 = .ok (.aload_n 0, 1) := by decide +kernel
theorem dX1_init_71 : decode cX1_init 71 = .ok (.bipush 12, 2) := by decide +kernel
theorem dX1_init_73 : decode cX1_init 73 = .ok (.newarray .int, 2) := by decide +kernel
theorem dX1_init_75 : decode cX1_init 75 = .ok (.putfield 42, 3) := by decide +kernel
theorem dX1_init_78 : decode cX1_init 78 = .ok (.aload_n 0, 1) := by decide +kernel
theorem dX1_init_79 : decode cX1_init 79 = .ok (.aload_n 1, 1) := by decide +kernel
theorem dX1_init_80 : decode cX1_init 80 = .ok (.putfield 45, 3) := by decide +kernel
theorem dX1_init_83 : decode cX1_init 83 = .ok (.aload_n 0, 1) := by decide +kernel
theorem dX1_init_84 : decode cX1_init 84 = .ok (.aload_n 2, 1) := by decide +kernel
theorem dX1_init_85 : decode cX1_init 85 = .ok (.putfield 49, 3) := by decide +kernel
theorem dX1_init_88 : decode cX1_init 88 = .ok (.iconst 0, 1) := by decide +kernel
theorem dX1_init_89 : decode cX1_init 89 = .ok (.istore_n 3, 1) := by decide +kernel
theorem dX1_init_90 : decode cX1_init 90 = .ok (.iload_n 3, 1) := by decide +kernel
theorem dX1_init_91 : decode cX1_init 91 = .ok (.bipush 6, 2) := by decide +kernel
theorem dX1_init_93 : decode cX1_init 93 = .ok (.if_icmp .ge 61, 3) := by decide +kernel
theorem dX1_init_96 : decode cX1_init 96 = .ok (.aload_n 0, 1) := by decide +kernel
theorem dX1_init_97 : decode cX1_init 97 = .ok (.getfield 13, 3) := by decide +kernel
theorem dX1_init_100 : decode cX1_init 100 = .ok (.iload_n 3, 1) := by decide +kernel
theorem dX1_init_101 : decode cX1_init 101 = .ok (.new 11, 3) := by decide +kernel
theorem dX1_init_104 : decode cX1_init 104 = .ok (.dup, 1) := by decide +kernel
theorem dX1_init_105 : decode cX1_init 105 = .ok (.invokespecial 25, 3) := by decide +kernel
theorem dX1_init_108 : decode cX1_init 108 = .ok (.aastore, 1) := by decide +kernel
theorem dX1_init_109 : decode cX1_init 109 = .ok (.aload_n 0, 1) := by decide +kernel
theorem dX1_init_110 : decode cX1_init 110 = .ok (.getfield 19, 3) := by decide +kernel
theorem dX1_init_113 : decode cX1_init 113 = .ok (.iload_n 3, 1) := by decide +kernel
theorem dX1_init_114 : decode cX1_init 114 = .ok (.new 11, 3) := by decide +kernel
theorem dX1_init_117 : decode cX1_init 117 = .ok (.dup, 1) := by decide +kernel
theorem dX1_init_118 : decode cX1_init 118 = .ok (.invokespecial 25, 3) := by decide +kernel
theorem dX1_init_121 : decode cX1_init 121 = .ok (.aastore, 1) := by decide +kernel
theorem dX1_init_122 : decode cX1_init 122 = .ok (.aload_n 0, 1) := by decide +kernel
theorem dX1_init_123 : decode cX1_init 123 = .ok (.getfield 22, 3) := by decide +kernel
theorem dX1_init_126 : decode cX1_init 126 = .ok (.iload_n 3, 1) := by decide +kernel
theorem dX1_init_127 : decode cX1_init 127 = .ok (.new 11, 3) := by decide +kernel
theorem dX1_init_130 : decode cX1_init 130 = .ok (.dup, 1) := by decide +kernel
theorem dX1_init_131 : decode cX1_init 131 = .ok (.invokespecial 25, 3) := by decide +kernel
theorem dX1_init_134 : decode cX1_init 134 = .ok (.aastore, 1) := by decide +kernel
theorem dX1_init_135 : decode cX1_init 135 = .ok (.aload_n 0, 1) := by decide +kernel
theorem dX1_init_136 : decode cX1_init 136 = .ok (.getfield 30, 3) := by decide +kernel
theorem dX1_init_139 : decode cX1_init 139 = .ok (.iload_n 3, 1) := by decide +kernel
theorem dX1_init_140 : decode cX1_init 140 = .ok (.new 11, 3) := by decide +kernel
theorem dX1_init_143 : decode cX1_init 143 = .ok (.dup, 1) := by decide +kernel
theorem dX1_init_144 : decode cX1_init 144 = .ok (.invokespecial 25, 3) := by decide +kernel
theorem dX1_init_147 : decode cX1_init 147 = .ok (.aastore, 1) := by decide +kernel
theorem dX1_init_148 : decode cX1_init 148 = .ok (.iinc 3 1, 3) := by decide +kernel
theorem dX1_init_151 : decode cX1_init 151 = .ok (.goto (-61), 3) := by decide +kernel
theorem dX1_init_154 : decode cX1_init 154 = .ok (.return_, 1) := by decide +kernel
theorem dX1_look_0 : decode cX1_look 0 = .ok (.aload_n 0, 1) := by decide +kernel
theorem dX1_look_1 : decode cX1_look 1 = .ok (.getfield 33, 3) := by decide +kernel
theorem dX1_look_4 : decode cX1_look 4 = .ok (.invokevirtual 53, 3) := by decide +kernel
theorem dX1_look_7 : decode cX1_look 7 = .ok (.iconst 0, 1) := by decide +kernel
theorem dX1_look_8 : decode cX1_look 8 = .ok (.istore_n 1, 1) := by decide +kernel
theorem dX1_look_9 : decode cX1_look 9 = .ok (.iload_n 1, 1) := by decide +kernel
theorem dX1_look_10 : decode cX1_look 10 = .ok (.aload_n 0, 1) := by decide +kernel
theorem dX1_look_11 : decode cX1_look 11 = .ok (.getfield 45, 3) := by decide +kernel
theorem dX1_look_14 : decode cX1_look 14 = .ok (.getfield 56, 3) := by decide +kernel
theorem dX1_look_17 : decode cX1_look 17 = .ok (.if_icmp .ge 36, 3) := by decide +kernel
theorem dX1_look_20 : decode cX1_look 20 = .ok (.aload_n 0, 1) := by decide +kernel
theorem dX1_look_21 : decode cX1_look 21 = .ok (.getfield 13, 3) := by decide +kernel
theorem dX1_look_24 : decode cX1_look 24 = .ok (.iload_n 1, 1) := by decide +kernel
theorem dX1_look_25 : decode cX1_look 25 = .ok (.aaload, 1) := by decide +kernel
theorem dX1_look_26 : decode cX1_look 26 = .ok (.invokevirtual 53, 3) := by decide +kernel
theorem dX1_look_29 : decode cX1_look 29 = .ok (.aload_n 0, 1) := by decide +kernel
theorem dX1_look_30 : decode cX1_look 30 = .ok (.getfield 19, 3) := by decide +kernel
theorem dX1_look_33 : decode cX1_look 33 = .ok (.iload_n 1, 1) := by decide +kernel
theorem dX1_look_34 : decode cX1_look 34 = .ok (.aaload, 1) := by decide +kernel
theorem dX1_look_35 : decode cX1_look 35 = .ok (.invokevirtual 53, 3) := by decide +kernel
theorem dX1_look_38 : decode cX1_look 38 = .ok (.aload_n 0, 1) := by decide +kernel
theorem dX1_look_39 : decode cX1_look 39 = .ok (.getfield 22, 3) := by decide +kernel
theorem dX1_look_42 : decode cX1_look 42 = .ok (.iload_n 1, 1) := by decide +kernel
theorem dX1_look_43 : decode cX1_look 43 = .ok (.aaload, 1) := by decide +kernel
theorem dX1_look_44 : decode cX1_look 44 = .ok (.invokevirtual 53, 3) := by decide +kernel
theorem dX1_look_47 : decode cX1_look 47 = .ok (.iinc 1 1, 3) := by decide +kernel
theorem dX1_look_50 : decode cX1_look 50 = .ok (.goto (-41), 3) := by decide +kernel
theorem dX1_look_53 : decode cX1_look 53 = .ok (.iconst 0, 1) := by decide +kernel
theorem dX1_look_54 : decode cX1_look 54 = .ok (.istore_n 1, 1) := by decide +kernel
theorem dX1_look_55 : decode cX1_look 55 = .ok (.iload_n 1, 1) := by decide +kernel
theorem dX1_look_56 : decode cX1_look 56 = .ok (.aload_n 0, 1) := by decide +kernel
theorem dX1_look_57 : decode cX1_look 57 = .ok (.getfield 49, 3) := by decide +kernel
theorem dX1_look_60 : decode cX1_look 60 = .ok (.getfield 60, 3) := by decide +kernel
theorem dX1_look_63 : decode cX1_look 63 = .ok (.if_icmp .ge 141, 3) := by decide +kernel
theorem dX1_look_66 : decode cX1_look 66 = .ok (.aload_n 0, 1) := by decide +kernel
theorem dX1_look_67 : decode cX1_look 67 = .ok (.getfield 49, 3) := by decide +kernel
theorem dX1_look_70 : decode cX1_look 70 = .ok (.iload_n 1, 1) := by decide +kernel
theorem dX1_look_71 : decode cX1_look 71 = .ok (.invokevirtual 63, 3) := by decide +kernel
theorem dX1_look_74 : decode cX1_look 74 = .ok (.istore_n 2, 1) := by decide +kernel
theorem dX1_look_75 : decode cX1_look 75 = .ok (.aload_n 0, 1) := by decide +kernel
theorem dX1_look_76 : decode cX1_look 76 = .ok (.getfield 49, 3) := by decide +kernel
theorem dX1_look_79 : decode cX1_look 79 = .ok (.iload_n 1, 1) := by decide +kernel
theorem dX1_look_80 : decode cX1_look 80 = .ok (.invokevirtual 67, 3) := by decide +kernel
theorem dX1_look_83 : decode cX1_look 83 = .ok (.istore_n 3, 1) := by decide +kernel
theorem dX1_look_84 : decode cX1_look 84 = .ok (.aload_n 0, 1) := by decide +kernel
theorem dX1_look_85 : decode cX1_look 85 = .ok (.getfield 49, 3) := by decide +kernel
theorem dX1_look_88 : decode cX1_look 88 = .ok (.iload_n 1, 1) := by decide +kernel
theorem dX1_look_89 : decode cX1_look 89 = .ok (.invokevirtual 70, 3) := by decide +kernel
theorem dX1_look_92 : decode cX1_look 92 = .ok (.istore 4, 2) := by decide +kernel
theorem dX1_look_94 : decode cX1_look 94 = .ok (.aload_n 0, 1) := by decide +kernel
theorem dX1_look_95 : decode cX1_look 95 = .ok (.getfield 13, 3) := by decide +kernel
theorem dX1_look_98 : decode cX1_look 98 = .ok (.iload_n 2, 1) := by decide +kernel
theorem dX1_look_99 : decode cX1_look 99 = .ok (.aaload, 1) := by decide +kernel
theorem dX1_look_100 : decode cX1_look 100 = .ok (.iload 4, 2) := by decide +kernel
theorem dX1_look_102 : decode cX1_look 102 = .ok (.aload_n 0, 1) := by decide +kernel
theorem dX1_look_103 : decode cX1_look 103 = .ok (.getfield 45, 3) := by decide +kernel
theorem dX1_look_106 : decode cX1_look 106 = .ok (.iload_n 3, 1) := by decide +kernel
theorem dX1_look_107 : decode cX1_look 107 = .ok (.invokevirtual 73, 3) := by decide +kernel
theorem dX1_look_110 : decode cX1_look 110 = .ok (.invokevirtual 76, 3) := by decide +kernel
theorem dX1_look_113 : decode cX1_look 113 = .ok (.aload_n 0, 1) := by decide +kernel
theorem dX1_look_114 : decode cX1_look 114 = .ok (.getfield 19, 3) := by decide +kernel
theorem dX1_look_117 : decode cX1_look 117 = .ok (.iload_n 2, 1) := by decide +kernel
theorem dX1_look_118 : decode cX1_look 118 = .ok (.aaload, 1) := by decide +kernel
theorem dX1_look_119 : decode cX1_look 119 = .ok (.iload 4, 2) := by decide +kernel
theorem dX1_look_121 : decode cX1_look 121 = .ok (.aload_n 0, 1) := by decide +kernel
theorem dX1_look_122 : decode cX1_look 122 = .ok (.getfield 45, 3) := by decide +kernel
theorem dX1_look_125 : decode cX1_look 125 = .ok (.getfield 80, 3) := by decide +kernel
theorem dX1_look_128 : decode cX1_look 128 = .ok (.iload_n 3, 1) := by decide +kernel
theorem dX1_look_129 : decode cX1_look 129 = .ok (.iaload, 1) := by decide +kernel
theorem dX1_look_130 : decode cX1_look 130 = .ok (.iadd, 1) := by decide +kernel
theorem dX1_look_131 : decode cX1_look 131 = .ok (.aload_n 0, 1) := by decide +kernel
theorem dX1_look_132 : decode cX1_look 132 = .ok (.getfield 45, 3) := by decide +kernel
theorem dX1_look_135 : decode cX1_look 135 = .ok (.getfield 83, 3) := by decide +kernel
theorem dX1_look_138 : decode cX1_look 138 = .ok (.iload_n 3, 1) := by decide +kernel
theorem dX1_look_139 : decode cX1_look 139 = .ok (.iaload, 1) := by decide +kernel
theorem dX1_look_140 : decode cX1_look 140 = .ok (.invokevirtual 76, 3) := by decide +kernel
theorem dX1_look_143 : decode cX1_look 143 = .ok (.aload_n 0, 1) := by decide +kernel
theorem dX1_look_144 : decode cX1_look 144 = .ok (.getfield 45, 3) := by decide +kernel
theorem dX1_look_147 : decode cX1_look 147 = .ok (.getfield 86, 3) := by decide +kernel
theorem dX1_look_150 : decode cX1_look 150 = .ok (.iload_n 3, 1) := by decide +kernel
theorem dX1_look_151 : decode cX1_look 151 = .ok (.baload, 1) := by decide +kernel
theorem dX1_look_152 : decode cX1_look 152 = .ok (.ifCond .eq 46, 3) := by decide +kernel
theorem dX1_look_155 : decode cX1_look 155 = .ok (.aload_n 0, 1) := by decide +kernel
theorem dX1_look_156 : decode cX1_look 156 = .ok (.getfield 22, 3) := by decide +kernel
theorem dX1_look_159 : decode cX1_look 159 = .ok (.iload_n 2, 1) := by decide +kernel
theorem dX1_look_160 : decode cX1_look 160 = .ok (.aaload, 1) := by decide +kernel
theorem dX1_look_161 : decode cX1_look 161 = .ok (.iload 4, 2) := by decide +kernel
theorem dX1_look_163 : decode cX1_look 163 = .ok (.aload_n 0, 1) := by decide +kernel
theorem dX1_look_164 : decode cX1_look 164 = .ok (.getfield 45, 3) := by decide +kernel
theorem dX1_look_167 : decode cX1_look 167 = .ok (.getfield 80, 3) := by decide +kernel
theorem dX1_look_170 : decode cX1_look 170 = .ok (.iload_n 3, 1) := by decide +kernel
theorem dX1_look_171 : decode cX1_look 171 = .ok (.iaload, 1) := by decide +kernel
theorem dX1_look_172 : decode cX1_look 172 = .ok (.iadd, 1) := by decide +kernel
theorem dX1_look_173 : decode cX1_look 173 = .ok (.aload_n 0, 1) := by decide +kernel
theorem dX1_look_174 : decode cX1_look 174 = .ok (.getfield 45, 3) := by decide +kernel
theorem dX1_look_177 : decode cX1_look 177 = .ok (.getfield 83, 3) := by decide +kernel
theorem dX1_look_180 : decode cX1_look 180 = .ok (.iload_n 3, 1) := by decide +kernel
theorem dX1_look_181 : decode cX1_look 181 = .ok (.iaload, 1) := by decide +kernel
theorem dX1_look_182 : decode cX1_look 182 = .ok (.invokevirtual 76, 3) := by decide +kernel
theorem dX1_look_185 : decode cX1_look 185 = .ok (.aload_n 0, 1) := by decide +kernel
theorem dX1_look_186 : decode cX1_look 186 = .ok (.getfield 33, 3) := by decide +kernel
theorem dX1_look_189 : decode cX1_look 189 = .ok (.aload_n 0, 1) := by decide +kernel
theorem dX1_look_190 : decode cX1_look 190 = .ok (.getfield 22, 3) := by decide +kernel
theorem dX1_look_193 : decode cX1_look 193 = .ok (.iload_n 2, 1) := by decide +kernel
theorem dX1_look_194 : decode cX1_look 194 = .ok (.aaload, 1) := by decide +kernel
theorem dX1_look_195 : decode cX1_look 195 = .ok (.invokevirtual 90, 3) := by decide +kernel
theorem dX1_look_198 : decode cX1_look 198 = .ok (.iinc 1 1, 3) := by decide +kernel
theorem dX1_look_201 : decode cX1_look 201 = .ok (.goto (-146), 3) := by decide +kernel
theorem dX1_look_204 : decode cX1_look 204 = .ok (.aload_n 0, 1) := by decide +kernel
theorem dX1_look_205 : decode cX1_look 205 = .ok (.invokevirtual 94, 3) := by decide +kernel
theorem dX1_look_208 : decode cX1_look 208 = .ok (.return_, 1) := by decide +kernel
theorem dX1_lookAtBags_0 : decode cX1_lookAtBags 0 = .ok (.aload_n 0, 1) := by decide +kernel
theorem dX1_lookAtBags_1 : decode cX1_lookAtBags 1 = .ok (.getfield 26, 3) := by decide +kernel
theorem dX1_lookAtBags_4 : decode cX1_lookAtBags 4 = .ok (.aload_n 0, 1) := by decide +kernel
theorem dX1_lookAtBags_5 : decode cX1_lookAtBags 5 = .ok (.getfield 45, 3) := by decide +kernel
theorem dX1_lookAtBags_8 : decode cX1_lookAtBags 8 = .ok (.getfield 97, 3) := by decide +kernel
theorem dX1_lookAtBags_11 : decode cX1_lookAtBags 11 = .ok (.invokevirtual 100, 3) := by decide +kernel
theorem dX1_lookAtBags_14 : decode cX1_lookAtBags 14 = .ok (.aload_n 0, 1) := by decide +kernel
theorem dX1_lookAtBags_15 : decode cX1_lookAtBags 15 = .ok (.getfield 26, 3) := by decide +kernel
theorem dX1_lookAtBags_18 : decode cX1_lookAtBags 18 = .ok (.aload_n 0, 1) := by decide +kernel
theorem dX1_lookAtBags_19 : decode cX1_lookAtBags 19 = .ok (.getfield 33, 3) := by decide +kernel
theorem dX1_lookAtBags_22 : decode cX1_lookAtBags 22 = .ok (.invokevirtual 104, 3) := by decide +kernel
theorem dX1_lookAtBags_25 : decode cX1_lookAtBags 25 = .ok (.iconst 0, 1) := by decide +kernel
theorem dX1_lookAtBags_26 : decode cX1_lookAtBags 26 = .ok (.istore_n 1, 1) := by decide +kernel
theorem dX1_lookAtBags_27 : decode cX1_lookAtBags 27 = .ok (.iload_n 1, 1) := by decide +kernel
theorem dX1_lookAtBags_28 : decode cX1_lookAtBags 28 = .ok (.aload_n 0, 1) := by decide +kernel
theorem dX1_lookAtBags_29 : decode cX1_lookAtBags 29 = .ok (.getfield 45, 3) := by decide +kernel
theorem dX1_lookAtBags_32 : decode cX1_lookAtBags 32 = .ok (.getfield 56, 3) := by decide +kernel
theorem dX1_lookAtBags_35 : decode cX1_lookAtBags 35 = .ok (.if_icmp .ge 90, 3) := by decide +kernel
theorem dX1_lookAtBags_38 : decode cX1_lookAtBags 38 = .ok (.aload_n 0, 1) := by decide +kernel
theorem dX1_lookAtBags_39 : decode cX1_lookAtBags 39 = .ok (.getfield 30, 3) := by decide +kernel
theorem dX1_lookAtBags_42 : decode cX1_lookAtBags 42 = .ok (.iload_n 1, 1) := by decide +kernel
theorem dX1_lookAtBags_43 : decode cX1_lookAtBags 43 = .ok (.aaload, 1) := by decide +kernel
theorem dX1_lookAtBags_44 : decode cX1_lookAtBags 44 = .ok (.aload_n 0, 1) := by decide +kernel
theorem dX1_lookAtBags_45 : decode cX1_lookAtBags 45 = .ok (.getfield 45, 3) := by decide +kernel
theorem dX1_lookAtBags_48 : decode cX1_lookAtBags 48 = .ok (.getfield 97, 3) := by decide +kernel
theorem dX1_lookAtBags_51 : decode cX1_lookAtBags 51 = .ok (.invokevirtual 100, 3) := by decide +kernel
theorem dX1_lookAtBags_54 : decode cX1_lookAtBags 54 = .ok (.aload_n 0, 1) := by decide +kernel
theorem dX1_lookAtBags_55 : decode cX1_lookAtBags 55 = .ok (.getfield 30, 3) := by decide +kernel
theorem dX1_lookAtBags_58 : decode cX1_lookAtBags 58 = .ok (.iload_n 1, 1) := by decide +kernel
theorem dX1_lookAtBags_59 : decode cX1_lookAtBags 59 = .ok (.aaload, 1) := by decide +kernel
theorem dX1_lookAtBags_60 : decode cX1_lookAtBags 60 = .ok (.aload_n 0, 1) := by decide +kernel
theorem dX1_lookAtBags_61 : decode cX1_lookAtBags 61 = .ok (.getfield 33, 3) := by decide +kernel
theorem dX1_lookAtBags_64 : decode cX1_lookAtBags 64 = .ok (.invokevirtual 104, 3) := by decide +kernel
theorem dX1_lookAtBags_67 : decode cX1_lookAtBags 67 = .ok (.iconst 0, 1) := by decide +kernel
theorem dX1_lookAtBags_68 : decode cX1_lookAtBags 68 = .ok (.istore_n 2, 1) := by decide +kernel
theorem dX1_lookAtBags_69 : decode cX1_lookAtBags 69 = .ok (.iload_n 2, 1) := by decide +kernel
theorem dX1_lookAtBags_70 : decode cX1_lookAtBags 70 = .ok (.aload_n 0, 1) := by decide +kernel
theorem dX1_lookAtBags_71 : decode cX1_lookAtBags 71 = .ok (.getfield 45, 3) := by decide +kernel
theorem dX1_lookAtBags_74 : decode cX1_lookAtBags 74 = .ok (.getfield 56, 3) := by decide +kernel
theorem dX1_lookAtBags_77 : decode cX1_lookAtBags 77 = .ok (.if_icmp .ge 29, 3) := by decide +kernel
theorem dX1_lookAtBags_80 : decode cX1_lookAtBags 80 = .ok (.iload_n 2, 1) := by decide +kernel
theorem dX1_lookAtBags_81 : decode cX1_lookAtBags 81 = .ok (.iload_n 1, 1) := by decide +kernel
theorem dX1_lookAtBags_82 : decode cX1_lookAtBags 82 = .ok (.if_icmp .eq 18, 3) := by decide +kernel
theorem dX1_lookAtBags_85 : decode cX1_lookAtBags 85 = .ok (.aload_n 0, 1) := by decide +kernel
theorem dX1_lookAtBags_86 : decode cX1_lookAtBags 86 = .ok (.getfield 30, 3) := by decide +kernel
theorem dX1_lookAtBags_89 : decode cX1_lookAtBags 89 = .ok (.iload_n 1, 1) := by decide +kernel
theorem dX1_lookAtBags_90 : decode cX1_lookAtBags 90 = .ok (.aaload, 1) := by decide +kernel
theorem dX1_lookAtBags_91 : decode cX1_lookAtBags 91 = .ok (.aload_n 0, 1) := by decide +kernel
theorem dX1_lookAtBags_92 : decode cX1_lookAtBags 92 = .ok (.getfield 13, 3) := by decide +kernel
theorem dX1_lookAtBags_95 : decode cX1_lookAtBags 95 = .ok (.iload_n 2, 1) := by decide +kernel
theorem dX1_lookAtBags_96 : decode cX1_lookAtBags 96 = .ok (.aaload, 1) := by decide +kernel
theorem dX1_lookAtBags_97 : decode cX1_lookAtBags 97 = .ok (.invokevirtual 107, 3) := by decide +kernel
theorem dX1_lookAtBags_100 : decode cX1_lookAtBags 100 = .ok (.iinc 2 1, 3) := by decide +kernel
theorem dX1_lookAtBags_103 : decode cX1_lookAtBags 103 = .ok (.goto (-34), 3) := by decide +kernel
theorem dX1_lookAtBags_106 : decode cX1_lookAtBags 106 = .ok (.aload_n 0, 1) := by decide +kernel
theorem dX1_lookAtBags_107 : decode cX1_lookAtBags 107 = .ok (.getfield 26, 3) := by decide +kernel
theorem dX1_lookAtBags_110 : decode cX1_lookAtBags 110 = .ok (.aload_n 0, 1) := by decide +kernel
theorem dX1_lookAtBags_111 : decode cX1_lookAtBags 111 = .ok (.getfield 13, 3) := by decide +kernel
theorem dX1_lookAtBags_114 : decode cX1_lookAtBags 114 = .ok (.iload_n 1, 1) := by decide +kernel
theorem dX1_lookAtBags_115 : decode cX1_lookAtBags 115 = .ok (.aaload, 1) := by decide +kernel
theorem dX1_lookAtBags_116 : decode cX1_lookAtBags 116 = .ok (.invokevirtual 107, 3) := by decide +kernel
theorem dX1_lookAtBags_119 : decode cX1_lookAtBags 119 = .ok (.iinc 1 1, 3) := by decide +kernel
theorem dX1_lookAtBags_122 : decode cX1_lookAtBags 122 = .ok (.goto (-95), 3) := by decide +kernel
theorem dX1_lookAtBags_125 : decode cX1_lookAtBags 125 = .ok (.return_, 1) := by decide +kernel
theorem dX1_benchIn_0 : decode cX1_benchIn 0 = .ok (.iconst 0, 1) := by decide +kernel
theorem dX1_benchIn_1 : decode cX1_benchIn 1 = .ok (.istore_n 2, 1) := by decide +kernel
theorem dX1_benchIn_2 : decode cX1_benchIn 2 = .ok (.iconst 0, 1) := by decide +kernel
theorem dX1_benchIn_3 : decode cX1_benchIn 3 = .ok (.istore_n 3, 1) := by decide +kernel
theorem dX1_benchIn_4 : decode cX1_benchIn 4 = .ok (.iload_n 3, 1) := by decide +kernel
theorem dX1_benchIn_5 : decode cX1_benchIn 5 = .ok (.aload_n 0, 1) := by decide +kernel
theorem dX1_benchIn_6 : decode cX1_benchIn 6 = .ok (.getfield 45, 3) := by decide +kernel
theorem dX1_benchIn_9 : decode cX1_benchIn 9 = .ok (.getfield 56, 3) := by decide +kernel
theorem dX1_benchIn_12 : decode cX1_benchIn 12 = .ok (.if_icmp .ge 32, 3) := by decide +kernel
theorem dX1_benchIn_15 : decode cX1_benchIn 15 = .ok (.iload_n 2, 1) := by decide +kernel
theorem dX1_benchIn_16 : decode cX1_benchIn 16 = .ok (.aload_n 0, 1) := by decide +kernel
theorem dX1_benchIn_17 : decode cX1_benchIn 17 = .ok (.getfield 13, 3) := by decide +kernel
theorem dX1_benchIn_20 : decode cX1_benchIn 20 = .ok (.iload_n 3, 1) := by decide +kernel
theorem dX1_benchIn_21 : decode cX1_benchIn 21 = .ok (.aaload, 1) := by decide +kernel
theorem dX1_benchIn_22 : decode cX1_benchIn 22 = .ok (.iload_n 1, 1) := by decide +kernel
theorem dX1_benchIn_23 : decode cX1_benchIn 23 = .ok (.invokevirtual 110, 3) := by decide +kernel
theorem dX1_benchIn_26 : decode cX1_benchIn 26 = .ok (.ifCond .eq 7, 3) := by decide +kernel
theorem dX1_benchIn_29 : decode cX1_benchIn 29 = .ok (.iconst 0, 1) := by decide +kernel
theorem dX1_benchIn_30 : decode cX1_benchIn 30 = .ok (.goto 6, 3) := by decide +kernel
theorem dX1_benchIn_33 : decode cX1_benchIn 33 = .ok (.iconst 1, 1) := by decide +kernel
theorem dX1_benchIn_34 : decode cX1_benchIn 34 = .ok (.iload_n 3, 1) := by decide +kernel
theorem dX1_benchIn_35 : decode cX1_benchIn 35 = .ok (.ishl, 1) := by decide +kernel
theorem dX1_benchIn_36 : decode cX1_benchIn 36 = .ok (.ior, 1) := by decide +kernel
theorem dX1_benchIn_37 : decode cX1_benchIn 37 = .ok (.istore_n 2, 1) := by decide +kernel
theorem dX1_benchIn_38 : decode cX1_benchIn 38 = .ok (.iinc 3 1, 3) := by decide +kernel
theorem dX1_benchIn_41 : decode cX1_benchIn 41 = .ok (.goto (-37), 3) := by decide +kernel
theorem dX1_benchIn_44 : decode cX1_benchIn 44 = .ok (.iload_n 2, 1) := by decide +kernel
theorem dX1_benchIn_45 : decode cX1_benchIn 45 = .ok (.ireturn, 1) := by decide +kernel
theorem dX1_atBench_0 : decode cX1_atBench 0 = .ok (.iconst 0, 1) := by decide +kernel
theorem dX1_atBench_1 : decode cX1_atBench 1 = .ok (.istore_n 2, 1) := by decide +kernel
theorem dX1_atBench_2 : decode cX1_atBench 2 = .ok (.iconst 0, 1) := by decide +kernel
theorem dX1_atBench_3 : decode cX1_atBench 3 = .ok (.istore_n 3, 1) := by decide +kernel
theorem dX1_atBench_4 : decode cX1_atBench 4 = .ok (.iload_n 3, 1) := by decide +kernel
theorem dX1_atBench_5 : decode cX1_atBench 5 = .ok (.aload_n 0, 1) := by decide +kernel
theorem dX1_atBench_6 : decode cX1_atBench 6 = .ok (.getfield 45, 3) := by decide +kernel
theorem dX1_atBench_9 : decode cX1_atBench 9 = .ok (.getfield 97, 3) := by decide +kernel
theorem dX1_atBench_12 : decode cX1_atBench 12 = .ok (.if_icmp .ge 30, 3) := by decide +kernel
theorem dX1_atBench_15 : decode cX1_atBench 15 = .ok (.iload_n 2, 1) := by decide +kernel
theorem dX1_atBench_16 : decode cX1_atBench 16 = .ok (.aload_n 0, 1) := by decide +kernel
theorem dX1_atBench_17 : decode cX1_atBench 17 = .ok (.getfield 13, 3) := by decide +kernel
theorem dX1_atBench_20 : decode cX1_atBench 20 = .ok (.iload_n 1, 1) := by decide +kernel
theorem dX1_atBench_21 : decode cX1_atBench 21 = .ok (.aaload, 1) := by decide +kernel
theorem dX1_atBench_22 : decode cX1_atBench 22 = .ok (.iload_n 3, 1) := by decide +kernel
theorem dX1_atBench_23 : decode cX1_atBench 23 = .ok (.invokevirtual 110, 3) := by decide +kernel
theorem dX1_atBench_26 : decode cX1_atBench 26 = .ok (.ifCond .eq 7, 3) := by decide +kernel
theorem dX1_atBench_29 : decode cX1_atBench 29 = .ok (.iconst 0, 1) := by decide +kernel
theorem dX1_atBench_30 : decode cX1_atBench 30 = .ok (.goto 4, 3) := by decide +kernel
theorem dX1_atBench_33 : decode cX1_atBench 33 = .ok (.iconst 1, 1) := by decide +kernel
theorem dX1_atBench_34 : decode cX1_atBench 34 = .ok (.iadd, 1) := by decide +kernel
theorem dX1_atBench_35 : decode cX1_atBench 35 = .ok (.istore_n 2, 1) := by decide +kernel
theorem dX1_atBench_36 : decode cX1_atBench 36 = .ok (.iinc 3 1, 3) := by decide +kernel
theorem dX1_atBench_39 : decode cX1_atBench 39 = .ok (.goto (-35), 3) := by decide +kernel
theorem dX1_atBench_42 : decode cX1_atBench 42 = .ok (.iload_n 2, 1) := by decide +kernel
theorem dX1_atBench_43 : decode cX1_atBench 43 = .ok (.ireturn, 1) := by decide +kernel
theorem dX1_longestAtBench_0 : decode cX1_longestAtBench 0 = .ok (.iconst 0, 1) := by decide +kernel
theorem dX1_longestAtBench_1 : decode cX1_longestAtBench 1 = .ok (.istore_n 2, 1) := by decide +kernel
theorem dX1_longestAtBench_2 : decode cX1_longestAtBench 2 = .ok (.iconst 0, 1) := by decide +kernel
theorem dX1_longestAtBench_3 : decode cX1_longestAtBench 3 = .ok (.istore_n 3, 1) := by decide +kernel
theorem dX1_longestAtBench_4 : decode cX1_longestAtBench 4 = .ok (.iconst 0, 1) := by decide +kernel
theorem dX1_longestAtBench_5 : decode cX1_longestAtBench 5 = .ok (.istore 4, 2) := by decide +kernel
theorem dX1_longestAtBench_7 : decode cX1_longestAtBench 7 = .ok (.iload 4, 2) := by decide +kernel
theorem dX1_longestAtBench_9 : decode cX1_longestAtBench 9 = .ok (.aload_n 0, 1) := by decide +kernel
theorem dX1_longestAtBench_10 : decode cX1_longestAtBench 10 = .ok (.getfield 45, 3) := by decide +kernel
theorem dX1_longestAtBench_13 : decode cX1_longestAtBench 13 = .ok (.getfield 97, 3) := by decide +kernel
theorem dX1_longestAtBench_16 : decode cX1_longestAtBench 16 = .ok (.if_icmp .ge 37, 3) := by decide +kernel
theorem dX1_longestAtBench_19 : decode cX1_longestAtBench 19 = .ok (.aload_n 0, 1) := by decide +kernel
theorem dX1_longestAtBench_20 : decode cX1_longestAtBench 20 = .ok (.getfield 13, 3) := by decide +kernel
theorem dX1_longestAtBench_23 : decode cX1_longestAtBench 23 = .ok (.iload_n 1, 1) := by decide +kernel
theorem dX1_longestAtBench_24 : decode cX1_longestAtBench 24 = .ok (.aaload, 1) := by decide +kernel
theorem dX1_longestAtBench_25 : decode cX1_longestAtBench 25 = .ok (.iload 4, 2) := by decide +kernel
theorem dX1_longestAtBench_27 : decode cX1_longestAtBench 27 = .ok (.invokevirtual 110, 3) := by decide +kernel
theorem dX1_longestAtBench_30 : decode cX1_longestAtBench 30 = .ok (.ifCond .eq 7, 3) := by decide +kernel
theorem dX1_longestAtBench_33 : decode cX1_longestAtBench 33 = .ok (.iconst 0, 1) := by decide +kernel
theorem dX1_longestAtBench_34 : decode cX1_longestAtBench 34 = .ok (.goto 6, 3) := by decide +kernel
theorem dX1_longestAtBench_37 : decode cX1_longestAtBench 37 = .ok (.iload_n 2, 1) := by decide +kernel
theorem dX1_longestAtBench_38 : decode cX1_longestAtBench 38 = .ok (.iconst 1, 1) := by decide +kernel
theorem dX1_longestAtBench_39 : decode cX1_longestAtBench 39 = .ok (.iadd, 1) := by decide +kernel
theorem dX1_longestAtBench_40 : decode cX1_longestAtBench 40 = .ok (.istore_n 2, 1) := by decide +kernel
theorem dX1_longestAtBench_41 : decode cX1_longestAtBench 41 = .ok (.iload_n 3, 1) := by decide +kernel
theorem dX1_longestAtBench_42 : decode cX1_longestAtBench 42 = .ok (.iload_n 2, 1) := by decide +kernel
theorem dX1_longestAtBench_43 : decode cX1_longestAtBench 43 = .ok (.invokestatic 114, 3) := by decide +kernel
theorem dX1_longestAtBench_46 : decode cX1_longestAtBench 46 = .ok (.istore_n 3, 1) := by decide +kernel
theorem dX1_longestAtBench_47 : decode cX1_longestAtBench 47 = .ok (.iinc 4 1, 3) := by decide +kernel
theorem dX1_longestAtBench_50 : decode cX1_longestAtBench 50 = .ok (.goto (-43), 3) := by decide +kernel
theorem dX1_longestAtBench_53 : decode cX1_longestAtBench 53 = .ok (.iload_n 3, 1) := by decide +kernel
theorem dX1_longestAtBench_54 : decode cX1_longestAtBench 54 = .ok (.ireturn, 1) := by decide +kernel
theorem dX1_back_0 : decode cX1_back 0 = .ok (.aload_n 0, 1) := by decide +kernel
theorem dX1_back_1 : decode cX1_back 1 = .ok (.getfield 49, 3) := by decide +kernel
theorem dX1_back_4 : decode cX1_back 4 = .ok (.iload_n 1, 1) := by decide +kernel
theorem dX1_back_5 : decode cX1_back 5 = .ok (.invokevirtual 70, 3) := by decide +kernel
theorem dX1_back_8 : decode cX1_back 8 = .ok (.aload_n 0, 1) := by decide +kernel
theorem dX1_back_9 : decode cX1_back 9 = .ok (.getfield 45, 3) := by decide +kernel
theorem dX1_back_12 : decode cX1_back 12 = .ok (.aload_n 0, 1) := by decide +kernel
theorem dX1_back_13 : decode cX1_back 13 = .ok (.getfield 49, 3) := by decide +kernel
theorem dX1_back_16 : decode cX1_back 16 = .ok (.iload_n 1, 1) := by decide +kernel
theorem dX1_back_17 : decode cX1_back 17 = .ok (.invokevirtual 67, 3) := by decide +kernel
theorem dX1_back_20 : decode cX1_back 20 = .ok (.invokevirtual 73, 3) := by decide +kernel
theorem dX1_back_23 : decode cX1_back 23 = .ok (.iadd, 1) := by decide +kernel
theorem dX1_back_24 : decode cX1_back 24 = .ok (.ireturn, 1) := by decide +kernel
theorem dX1_brokenBy_0 : decode cX1_brokenBy 0 = .ok (.aload_n 0, 1) := by decide +kernel
theorem dX1_brokenBy_1 : decode cX1_brokenBy 1 = .ok (.getfield 49, 3) := by decide +kernel
theorem dX1_brokenBy_4 : decode cX1_brokenBy 4 = .ok (.iload_n 1, 1) := by decide +kernel
theorem dX1_brokenBy_5 : decode cX1_brokenBy 5 = .ok (.invokevirtual 63, 3) := by decide +kernel
theorem dX1_brokenBy_8 : decode cX1_brokenBy 8 = .ok (.istore_n 2, 1) := by decide +kernel
theorem dX1_brokenBy_9 : decode cX1_brokenBy 9 = .ok (.aload_n 0, 1) := by decide +kernel
theorem dX1_brokenBy_10 : decode cX1_brokenBy 10 = .ok (.getfield 49, 3) := by decide +kernel
theorem dX1_brokenBy_13 : decode cX1_brokenBy 13 = .ok (.iload_n 1, 1) := by decide +kernel
theorem dX1_brokenBy_14 : decode cX1_brokenBy 14 = .ok (.invokevirtual 67, 3) := by decide +kernel
theorem dX1_brokenBy_17 : decode cX1_brokenBy 17 = .ok (.istore_n 3, 1) := by decide +kernel
theorem dX1_brokenBy_18 : decode cX1_brokenBy 18 = .ok (.aload_n 0, 1) := by decide +kernel
theorem dX1_brokenBy_19 : decode cX1_brokenBy 19 = .ok (.getfield 49, 3) := by decide +kernel
theorem dX1_brokenBy_22 : decode cX1_brokenBy 22 = .ok (.iload_n 1, 1) := by decide +kernel
theorem dX1_brokenBy_23 : decode cX1_brokenBy 23 = .ok (.invokevirtual 70, 3) := by decide +kernel
theorem dX1_brokenBy_26 : decode cX1_brokenBy 26 = .ok (.istore 4, 2) := by decide +kernel
theorem dX1_brokenBy_28 : decode cX1_brokenBy 28 = .ok (.aload_n 0, 1) := by decide +kernel
theorem dX1_brokenBy_29 : decode cX1_brokenBy 29 = .ok (.getfield 45, 3) := by decide +kernel
theorem dX1_brokenBy_32 : decode cX1_brokenBy 32 = .ok (.iload_n 3, 1) := by decide +kernel
theorem dX1_brokenBy_33 : decode cX1_brokenBy 33 = .ok (.iload 4, 2) := by decide +kernel
theorem dX1_brokenBy_35 : decode cX1_brokenBy 35 = .ok (.invokevirtual 120, 3) := by decide +kernel
theorem dX1_brokenBy_38 : decode cX1_brokenBy 38 = .ok (.ifCond .ne 5, 3) := by decide +kernel
theorem dX1_brokenBy_41 : decode cX1_brokenBy 41 = .ok (.iconst 1, 1) := by decide +kernel
theorem dX1_brokenBy_42 : decode cX1_brokenBy 42 = .ok (.ireturn, 1) := by decide +kernel
theorem dX1_brokenBy_43 : decode cX1_brokenBy 43 = .ok (.aload_n 0, 1) := by decide +kernel
theorem dX1_brokenBy_44 : decode cX1_brokenBy 44 = .ok (.getfield 45, 3) := by decide +kernel
theorem dX1_brokenBy_47 : decode cX1_brokenBy 47 = .ok (.iload_n 3, 1) := by decide +kernel
theorem dX1_brokenBy_48 : decode cX1_brokenBy 48 = .ok (.iload 4, 2) := by decide +kernel
theorem dX1_brokenBy_50 : decode cX1_brokenBy 50 = .ok (.invokevirtual 124, 3) := by decide +kernel
theorem dX1_brokenBy_53 : decode cX1_brokenBy 53 = .ok (.ifCond .ne 5, 3) := by decide +kernel
theorem dX1_brokenBy_56 : decode cX1_brokenBy 56 = .ok (.iconst 2, 1) := by decide +kernel
theorem dX1_brokenBy_57 : decode cX1_brokenBy 57 = .ok (.ireturn, 1) := by decide +kernel
theorem dX1_brokenBy_58 : decode cX1_brokenBy 58 = .ok (.aload_n 0, 1) := by decide +kernel
theorem dX1_brokenBy_59 : decode cX1_brokenBy 59 = .ok (.iload_n 1, 1) := by decide +kernel
theorem dX1_brokenBy_60 : decode cX1_brokenBy 60 = .ok (.invokevirtual 127, 3) := by decide +kernel
theorem dX1_brokenBy_63 : decode cX1_brokenBy 63 = .ok (.ifCond .eq 5, 3) := by decide +kernel
theorem dX1_brokenBy_66 : decode cX1_brokenBy 66 = .ok (.iconst 3, 1) := by decide +kernel
theorem dX1_brokenBy_67 : decode cX1_brokenBy 67 = .ok (.ireturn, 1) := by decide +kernel
theorem dX1_brokenBy_68 : decode cX1_brokenBy 68 = .ok (.aload_n 0, 1) := by decide +kernel
theorem dX1_brokenBy_69 : decode cX1_brokenBy 69 = .ok (.iload_n 3, 1) := by decide +kernel
theorem dX1_brokenBy_70 : decode cX1_brokenBy 70 = .ok (.iload 4, 2) := by decide +kernel
theorem dX1_brokenBy_72 : decode cX1_brokenBy 72 = .ok (.invokevirtual 130, 3) := by decide +kernel
theorem dX1_brokenBy_75 : decode cX1_brokenBy 75 = .ok (.ifCond .eq 5, 3) := by decide +kernel
theorem dX1_brokenBy_78 : decode cX1_brokenBy 78 = .ok (.iconst 4, 1) := by decide +kernel
theorem dX1_brokenBy_79 : decode cX1_brokenBy 79 = .ok (.ireturn, 1) := by decide +kernel
theorem dX1_brokenBy_80 : decode cX1_brokenBy 80 = .ok (.aload_n 0, 1) := by decide +kernel
theorem dX1_brokenBy_81 : decode cX1_brokenBy 81 = .ok (.getfield 45, 3) := by decide +kernel
theorem dX1_brokenBy_84 : decode cX1_brokenBy 84 = .ok (.getfield 133, 3) := by decide +kernel
theorem dX1_brokenBy_87 : decode cX1_brokenBy 87 = .ok (.iload_n 2, 1) := by decide +kernel
theorem dX1_brokenBy_88 : decode cX1_brokenBy 88 = .ok (.baload, 1) := by decide +kernel
theorem dX1_brokenBy_89 : decode cX1_brokenBy 89 = .ok (.ifCond .eq 18, 3) := by decide +kernel
theorem dX1_brokenBy_92 : decode cX1_brokenBy 92 = .ok (.aload_n 0, 1) := by decide +kernel
theorem dX1_brokenBy_93 : decode cX1_brokenBy 93 = .ok (.iload_n 2, 1) := by decide +kernel
theorem dX1_brokenBy_94 : decode cX1_brokenBy 94 = .ok (.iload_n 3, 1) := by decide +kernel
theorem dX1_brokenBy_95 : decode cX1_brokenBy 95 = .ok (.iload 4, 2) := by decide +kernel
theorem dX1_brokenBy_97 : decode cX1_brokenBy 97 = .ok (.invokevirtual 136, 3) := by decide +kernel
theorem dX1_brokenBy_100 : decode cX1_brokenBy 100 = .ok (.ifCond .ne 7, 3) := by decide +kernel
theorem dX1_brokenBy_103 : decode cX1_brokenBy 103 = .ok (.iconst 5, 1) := by decide +kernel
theorem dX1_brokenBy_104 : decode cX1_brokenBy 104 = .ok (.goto 4, 3) := by decide +kernel
theorem dX1_brokenBy_107 : decode cX1_brokenBy 107 = .ok (.iconst 0, 1) := by decide +kernel
theorem dX1_brokenBy_108 : decode cX1_brokenBy 108 = .ok (.ireturn, 1) := by decide +kernel
theorem dX1_hindrance_0 : decode cX1_hindrance 0 = .ok (.aload_n 0, 1) := by decide +kernel
theorem dX1_hindrance_1 : decode cX1_hindrance 1 = .ok (.getfield 45, 3) := by decide +kernel
theorem dX1_hindrance_4 : decode cX1_hindrance 4 = .ok (.iload_n 2, 1) := by decide +kernel
theorem dX1_hindrance_5 : decode cX1_hindrance 5 = .ok (.iload_n 3, 1) := by decide +kernel
theorem dX1_hindrance_6 : decode cX1_hindrance 6 = .ok (.invokevirtual 120, 3) := by decide +kernel
theorem dX1_hindrance_9 : decode cX1_hindrance 9 = .ok (.ifCond .ne 5, 3) := by decide +kernel
theorem dX1_hindrance_12 : decode cX1_hindrance 12 = .ok (.iconst 1, 1) := by decide +kernel
theorem dX1_hindrance_13 : decode cX1_hindrance 13 = .ok (.ireturn, 1) := by decide +kernel
theorem dX1_hindrance_14 : decode cX1_hindrance 14 = .ok (.aload_n 0, 1) := by decide +kernel
theorem dX1_hindrance_15 : decode cX1_hindrance 15 = .ok (.getfield 45, 3) := by decide +kernel
theorem dX1_hindrance_18 : decode cX1_hindrance 18 = .ok (.iload_n 2, 1) := by decide +kernel
theorem dX1_hindrance_19 : decode cX1_hindrance 19 = .ok (.iload_n 3, 1) := by decide +kernel
theorem dX1_hindrance_20 : decode cX1_hindrance 20 = .ok (.invokevirtual 124, 3) := by decide +kernel
theorem dX1_hindrance_23 : decode cX1_hindrance 23 = .ok (.ifCond .ne 5, 3) := by decide +kernel
theorem dX1_hindrance_26 : decode cX1_hindrance 26 = .ok (.iconst 2, 1) := by decide +kernel
theorem dX1_hindrance_27 : decode cX1_hindrance 27 = .ok (.ireturn, 1) := by decide +kernel
theorem dX1_hindrance_28 : decode cX1_hindrance 28 = .ok (.aload_n 0, 1) := by decide +kernel
theorem dX1_hindrance_29 : decode cX1_hindrance 29 = .ok (.getfield 13, 3) := by decide +kernel
theorem dX1_hindrance_32 : decode cX1_hindrance 32 = .ok (.iload_n 1, 1) := by decide +kernel
theorem dX1_hindrance_33 : decode cX1_hindrance 33 = .ok (.aaload, 1) := by decide +kernel
theorem dX1_hindrance_34 : decode cX1_hindrance 34 = .ok (.iload_n 3, 1) := by decide +kernel
theorem dX1_hindrance_35 : decode cX1_hindrance 35 = .ok (.aload_n 0, 1) := by decide +kernel
theorem dX1_hindrance_36 : decode cX1_hindrance 36 = .ok (.getfield 45, 3) := by decide +kernel
theorem dX1_hindrance_39 : decode cX1_hindrance 39 = .ok (.iload_n 2, 1) := by decide +kernel
theorem dX1_hindrance_40 : decode cX1_hindrance 40 = .ok (.invokevirtual 73, 3) := by decide +kernel
theorem dX1_hindrance_43 : decode cX1_hindrance 43 = .ok (.invokevirtual 140, 3) := by decide +kernel
theorem dX1_hindrance_46 : decode cX1_hindrance 46 = .ok (.lconst 0, 1) := by decide +kernel
theorem dX1_hindrance_47 : decode cX1_hindrance 47 = .ok (.lcmp, 1) := by decide +kernel
theorem dX1_hindrance_48 : decode cX1_hindrance 48 = .ok (.ifCond .eq 5, 3) := by decide +kernel
theorem dX1_hindrance_51 : decode cX1_hindrance 51 = .ok (.iconst 3, 1) := by decide +kernel
theorem dX1_hindrance_52 : decode cX1_hindrance 52 = .ok (.ireturn, 1) := by decide +kernel
theorem dX1_hindrance_53 : decode cX1_hindrance 53 = .ok (.aload_n 0, 1) := by decide +kernel
theorem dX1_hindrance_54 : decode cX1_hindrance 54 = .ok (.iload_n 2, 1) := by decide +kernel
theorem dX1_hindrance_55 : decode cX1_hindrance 55 = .ok (.iload_n 3, 1) := by decide +kernel
theorem dX1_hindrance_56 : decode cX1_hindrance 56 = .ok (.invokevirtual 130, 3) := by decide +kernel
theorem dX1_hindrance_59 : decode cX1_hindrance 59 = .ok (.ifCond .eq 5, 3) := by decide +kernel
theorem dX1_hindrance_62 : decode cX1_hindrance 62 = .ok (.iconst 4, 1) := by decide +kernel
theorem dX1_hindrance_63 : decode cX1_hindrance 63 = .ok (.ireturn, 1) := by decide +kernel
theorem dX1_hindrance_64 : decode cX1_hindrance 64 = .ok (.aload_n 0, 1) := by decide +kernel
theorem dX1_hindrance_65 : decode cX1_hindrance 65 = .ok (.getfield 45, 3) := by decide +kernel
theorem dX1_hindrance_68 : decode cX1_hindrance 68 = .ok (.getfield 133, 3) := by decide +kernel
theorem dX1_hindrance_71 : decode cX1_hindrance 71 = .ok (.iload_n 1, 1) := by decide +kernel
theorem dX1_hindrance_72 : decode cX1_hindrance 72 = .ok (.baload, 1) := by decide +kernel
theorem dX1_hindrance_73 : decode cX1_hindrance 73 = .ok (.ifCond .eq 15, 3) := by decide +kernel
theorem dX1_hindrance_76 : decode cX1_hindrance 76 = .ok (.aload_n 0, 1) := by decide +kernel
theorem dX1_hindrance_77 : decode cX1_hindrance 77 = .ok (.iload_n 1, 1) := by decide +kernel
theorem dX1_hindrance_78 : decode cX1_hindrance 78 = .ok (.iload_n 2, 1) := by decide +kernel
theorem dX1_hindrance_79 : decode cX1_hindrance 79 = .ok (.iload_n 3, 1) := by decide +kernel
theorem dX1_hindrance_80 : decode cX1_hindrance 80 = .ok (.invokevirtual 136, 3) := by decide +kernel
theorem dX1_hindrance_83 : decode cX1_hindrance 83 = .ok (.ifCond .ne 5, 3) := by decide +kernel
theorem dX1_hindrance_86 : decode cX1_hindrance 86 = .ok (.iconst 5, 1) := by decide +kernel
theorem dX1_hindrance_87 : decode cX1_hindrance 87 = .ok (.ireturn, 1) := by decide +kernel
theorem dX1_hindrance_88 : decode cX1_hindrance 88 = .ok (.aload_n 0, 1) := by decide +kernel
theorem dX1_hindrance_89 : decode cX1_hindrance 89 = .ok (.iload_n 1, 1) := by decide +kernel
theorem dX1_hindrance_90 : decode cX1_hindrance 90 = .ok (.iload_n 2, 1) := by decide +kernel
theorem dX1_hindrance_91 : decode cX1_hindrance 91 = .ok (.iload_n 3, 1) := by decide +kernel
theorem dX1_hindrance_92 : decode cX1_hindrance 92 = .ok (.invokevirtual 144, 3) := by decide +kernel
theorem dX1_hindrance_95 : decode cX1_hindrance 95 = .ok (.ifCond .eq 6, 3) := by decide +kernel
theorem dX1_hindrance_98 : decode cX1_hindrance 98 = .ok (.bipush 6, 2) := by decide +kernel
theorem dX1_hindrance_100 : decode cX1_hindrance 100 = .ok (.ireturn, 1) := by decide +kernel
theorem dX1_hindrance_101 : decode cX1_hindrance 101 = .ok (.aload_n 0, 1) := by decide +kernel
theorem dX1_hindrance_102 : decode cX1_hindrance 102 = .ok (.getfield 49, 3) := by decide +kernel
theorem dX1_hindrance_105 : decode cX1_hindrance 105 = .ok (.getfield 60, 3) := by decide +kernel
theorem dX1_hindrance_108 : decode cX1_hindrance 108 = .ok (.bipush 12, 2) := by decide +kernel
theorem dX1_hindrance_110 : decode cX1_hindrance 110 = .ok (.if_icmp .lt 8, 3) := by decide +kernel
theorem dX1_hindrance_113 : decode cX1_hindrance 113 = .ok (.bipush 7, 2) := by decide +kernel
theorem dX1_hindrance_115 : decode cX1_hindrance 115 = .ok (.goto 4, 3) := by decide +kernel
theorem dX1_hindrance_118 : decode cX1_hindrance 118 = .ok (.iconst 0, 1) := by decide +kernel
theorem dX1_hindrance_119 : decode cX1_hindrance 119 = .ok (.ireturn, 1) := by decide +kernel
theorem dX1_wouldBeMissed_0 : decode cX1_wouldBeMissed 0 = .ok (.aload_n 0, 1) := by decide +kernel
theorem dX1_wouldBeMissed_1 : decode cX1_wouldBeMissed 1 = .ok (.getfield 30, 3) := by decide +kernel
theorem dX1_wouldBeMissed_4 : decode cX1_wouldBeMissed 4 = .ok (.iload_n 1, 1) := by decide +kernel
theorem dX1_wouldBeMissed_5 : decode cX1_wouldBeMissed 5 = .ok (.aaload, 1) := by decide +kernel
theorem dX1_wouldBeMissed_6 : decode cX1_wouldBeMissed 6 = .ok (.iload_n 3, 1) := by decide +kernel
theorem dX1_wouldBeMissed_7 : decode cX1_wouldBeMissed 7 = .ok (.aload_n 0, 1) := by decide +kernel
theorem dX1_wouldBeMissed_8 : decode cX1_wouldBeMissed 8 = .ok (.getfield 45, 3) := by decide +kernel
theorem dX1_wouldBeMissed_11 : decode cX1_wouldBeMissed 11 = .ok (.iload_n 2, 1) := by decide +kernel
theorem dX1_wouldBeMissed_12 : decode cX1_wouldBeMissed 12 = .ok (.invokevirtual 73, 3) := by decide +kernel
theorem dX1_wouldBeMissed_15 : decode cX1_wouldBeMissed 15 = .ok (.invokevirtual 140, 3) := by decide +kernel
theorem dX1_wouldBeMissed_18 : decode cX1_wouldBeMissed 18 = .ok (.lstore 4, 2) := by decide +kernel
theorem dX1_wouldBeMissed_20 : decode cX1_wouldBeMissed 20 = .ok (.aload_n 0, 1) := by decide +kernel
theorem dX1_wouldBeMissed_21 : decode cX1_wouldBeMissed 21 = .ok (.getfield 45, 3) := by decide +kernel
theorem dX1_wouldBeMissed_24 : decode cX1_wouldBeMissed 24 = .ok (.getfield 86, 3) := by decide +kernel
theorem dX1_wouldBeMissed_27 : decode cX1_wouldBeMissed 27 = .ok (.iload_n 2, 1) := by decide +kernel
theorem dX1_wouldBeMissed_28 : decode cX1_wouldBeMissed 28 = .ok (.baload, 1) := by decide +kernel
theorem dX1_wouldBeMissed_29 : decode cX1_wouldBeMissed 29 = .ok (.ifCond .eq 35, 3) := by decide +kernel
theorem dX1_wouldBeMissed_32 : decode cX1_wouldBeMissed 32 = .ok (.lload 4, 2) := by decide +kernel
theorem dX1_wouldBeMissed_34 : decode cX1_wouldBeMissed 34 = .ok (.lconst 1, 1) := by decide +kernel
theorem dX1_wouldBeMissed_35 : decode cX1_wouldBeMissed 35 = .ok (.aload_n 0, 1) := by decide +kernel
theorem dX1_wouldBeMissed_36 : decode cX1_wouldBeMissed 36 = .ok (.getfield 45, 3) := by decide +kernel
theorem dX1_wouldBeMissed_39 : decode cX1_wouldBeMissed 39 = .ok (.getfield 83, 3) := by decide +kernel
theorem dX1_wouldBeMissed_42 : decode cX1_wouldBeMissed 42 = .ok (.iload_n 2, 1) := by decide +kernel
theorem dX1_wouldBeMissed_43 : decode cX1_wouldBeMissed 43 = .ok (.iaload, 1) := by decide +kernel
theorem dX1_wouldBeMissed_44 : decode cX1_wouldBeMissed 44 = .ok (.lshl, 1) := by decide +kernel
theorem dX1_wouldBeMissed_45 : decode cX1_wouldBeMissed 45 = .ok (.lconst 1, 1) := by decide +kernel
theorem dX1_wouldBeMissed_46 : decode cX1_wouldBeMissed 46 = .ok (.lsub, 1) := by decide +kernel
theorem dX1_wouldBeMissed_47 : decode cX1_wouldBeMissed 47 = .ok (.aload_n 0, 1) := by decide +kernel
theorem dX1_wouldBeMissed_48 : decode cX1_wouldBeMissed 48 = .ok (.getfield 45, 3) := by decide +kernel
theorem dX1_wouldBeMissed_51 : decode cX1_wouldBeMissed 51 = .ok (.getfield 80, 3) := by decide +kernel
theorem dX1_wouldBeMissed_54 : decode cX1_wouldBeMissed 54 = .ok (.iload_n 2, 1) := by decide +kernel
theorem dX1_wouldBeMissed_55 : decode cX1_wouldBeMissed 55 = .ok (.iaload, 1) := by decide +kernel
theorem dX1_wouldBeMissed_56 : decode cX1_wouldBeMissed 56 = .ok (.lshl, 1) := by decide +kernel
theorem dX1_wouldBeMissed_57 : decode cX1_wouldBeMissed 57 = .ok (.ldc2_w 147, 3) := by decide +kernel
theorem dX1_wouldBeMissed_60 : decode cX1_wouldBeMissed 60 = .ok (.lxor, 1) := by decide +kernel
theorem dX1_wouldBeMissed_61 : decode cX1_wouldBeMissed 61 = .ok (.land, 1) := by decide +kernel
theorem dX1_wouldBeMissed_62 : decode cX1_wouldBeMissed 62 = .ok (.lstore 4, 2) := by decide +kernel
theorem dX1_wouldBeMissed_64 : decode cX1_wouldBeMissed 64 = .ok (.lload 4, 2) := by decide +kernel
theorem dX1_wouldBeMissed_66 : decode cX1_wouldBeMissed 66 = .ok (.lconst 0, 1) := by decide +kernel
theorem dX1_wouldBeMissed_67 : decode cX1_wouldBeMissed 67 = .ok (.lcmp, 1) := by decide +kernel
theorem dX1_wouldBeMissed_68 : decode cX1_wouldBeMissed 68 = .ok (.ifCond .eq 7, 3) := by decide +kernel
theorem dX1_wouldBeMissed_71 : decode cX1_wouldBeMissed 71 = .ok (.iconst 1, 1) := by decide +kernel
theorem dX1_wouldBeMissed_72 : decode cX1_wouldBeMissed 72 = .ok (.goto 4, 3) := by decide +kernel
theorem dX1_wouldBeMissed_75 : decode cX1_wouldBeMissed 75 = .ok (.iconst 0, 1) := by decide +kernel
theorem dX1_wouldBeMissed_76 : decode cX1_wouldBeMissed 76 = .ok (.ireturn, 1) := by decide +kernel
theorem dX1_isAwayByAnother_0 : decode cX1_isAwayByAnother 0 = .ok (.iconst 0, 1) := by decide +kernel
theorem dX1_isAwayByAnother_1 : decode cX1_isAwayByAnother 1 = .ok (.istore_n 2, 1) := by decide +kernel
theorem dX1_isAwayByAnother_2 : decode cX1_isAwayByAnother 2 = .ok (.iload_n 2, 1) := by decide +kernel
theorem dX1_isAwayByAnother_3 : decode cX1_isAwayByAnother 3 = .ok (.aload_n 0, 1) := by decide +kernel
theorem dX1_isAwayByAnother_4 : decode cX1_isAwayByAnother 4 = .ok (.getfield 49, 3) := by decide +kernel
theorem dX1_isAwayByAnother_7 : decode cX1_isAwayByAnother 7 = .ok (.getfield 60, 3) := by decide +kernel
theorem dX1_isAwayByAnother_10 : decode cX1_isAwayByAnother 10 = .ok (.if_icmp .ge 77, 3) := by decide +kernel
theorem dX1_isAwayByAnother_13 : decode cX1_isAwayByAnother 13 = .ok (.iload_n 2, 1) := by decide +kernel
theorem dX1_isAwayByAnother_14 : decode cX1_isAwayByAnother 14 = .ok (.iload_n 1, 1) := by decide +kernel
theorem dX1_isAwayByAnother_15 : decode cX1_isAwayByAnother 15 = .ok (.if_icmp .eq 26, 3) := by decide +kernel
theorem dX1_isAwayByAnother_18 : decode cX1_isAwayByAnother 18 = .ok (.aload_n 0, 1) := by decide +kernel
theorem dX1_isAwayByAnother_19 : decode cX1_isAwayByAnother 19 = .ok (.getfield 49, 3) := by decide +kernel
theorem dX1_isAwayByAnother_22 : decode cX1_isAwayByAnother 22 = .ok (.iload_n 2, 1) := by decide +kernel
theorem dX1_isAwayByAnother_23 : decode cX1_isAwayByAnother 23 = .ok (.invokevirtual 63, 3) := by decide +kernel
theorem dX1_isAwayByAnother_26 : decode cX1_isAwayByAnother 26 = .ok (.aload_n 0, 1) := by decide +kernel
theorem dX1_isAwayByAnother_27 : decode cX1_isAwayByAnother 27 = .ok (.getfield 49, 3) := by decide +kernel
theorem dX1_isAwayByAnother_30 : decode cX1_isAwayByAnother 30 = .ok (.iload_n 1, 1) := by decide +kernel
theorem dX1_isAwayByAnother_31 : decode cX1_isAwayByAnother 31 = .ok (.invokevirtual 63, 3) := by decide +kernel
theorem dX1_isAwayByAnother_34 : decode cX1_isAwayByAnother 34 = .ok (.if_icmp .ne 7, 3) := by decide +kernel
theorem dX1_isAwayByAnother_37 : decode cX1_isAwayByAnother 37 = .ok (.iconst 1, 1) := by decide +kernel
theorem dX1_isAwayByAnother_38 : decode cX1_isAwayByAnother 38 = .ok (.goto 4, 3) := by decide +kernel
theorem dX1_isAwayByAnother_41 : decode cX1_isAwayByAnother 41 = .ok (.iconst 0, 1) := by decide +kernel
theorem dX1_isAwayByAnother_42 : decode cX1_isAwayByAnother 42 = .ok (.istore_n 3, 1) := by decide +kernel
theorem dX1_isAwayByAnother_43 : decode cX1_isAwayByAnother 43 = .ok (.iload_n 3, 1) := by decide +kernel
theorem dX1_isAwayByAnother_44 : decode cX1_isAwayByAnother 44 = .ok (.ifCond .eq 37, 3) := by decide +kernel
theorem dX1_isAwayByAnother_47 : decode cX1_isAwayByAnother 47 = .ok (.aload_n 0, 1) := by decide +kernel
theorem dX1_isAwayByAnother_48 : decode cX1_isAwayByAnother 48 = .ok (.getfield 49, 3) := by decide +kernel
theorem dX1_isAwayByAnother_51 : decode cX1_isAwayByAnother 51 = .ok (.iload_n 2, 1) := by decide +kernel
theorem dX1_isAwayByAnother_52 : decode cX1_isAwayByAnother 52 = .ok (.invokevirtual 70, 3) := by decide +kernel
theorem dX1_isAwayByAnother_55 : decode cX1_isAwayByAnother 55 = .ok (.aload_n 0, 1) := by decide +kernel
theorem dX1_isAwayByAnother_56 : decode cX1_isAwayByAnother 56 = .ok (.iload_n 1, 1) := by decide +kernel
theorem dX1_isAwayByAnother_57 : decode cX1_isAwayByAnother 57 = .ok (.invokevirtual 149, 3) := by decide +kernel
theorem dX1_isAwayByAnother_60 : decode cX1_isAwayByAnother 60 = .ok (.if_icmp .ge 21, 3) := by decide +kernel
theorem dX1_isAwayByAnother_63 : decode cX1_isAwayByAnother 63 = .ok (.aload_n 0, 1) := by decide +kernel
theorem dX1_isAwayByAnother_64 : decode cX1_isAwayByAnother 64 = .ok (.getfield 49, 3) := by decide +kernel
theorem dX1_isAwayByAnother_67 : decode cX1_isAwayByAnother 67 = .ok (.iload_n 1, 1) := by decide +kernel
theorem dX1_isAwayByAnother_68 : decode cX1_isAwayByAnother 68 = .ok (.invokevirtual 70, 3) := by decide +kernel
theorem dX1_isAwayByAnother_71 : decode cX1_isAwayByAnother 71 = .ok (.aload_n 0, 1) := by decide +kernel
theorem dX1_isAwayByAnother_72 : decode cX1_isAwayByAnother 72 = .ok (.iload_n 2, 1) := by decide +kernel
theorem dX1_isAwayByAnother_73 : decode cX1_isAwayByAnother 73 = .ok (.invokevirtual 149, 3) := by decide +kernel
theorem dX1_isAwayByAnother_76 : decode cX1_isAwayByAnother 76 = .ok (.if_icmp .ge 5, 3) := by decide +kernel
theorem dX1_isAwayByAnother_79 : decode cX1_isAwayByAnother 79 = .ok (.iconst 1, 1) := by decide +kernel
theorem dX1_isAwayByAnother_80 : decode cX1_isAwayByAnother 80 = .ok (.ireturn, 1) := by decide +kernel
theorem dX1_isAwayByAnother_81 : decode cX1_isAwayByAnother 81 = .ok (.iinc 2 1, 3) := by decide +kernel
theorem dX1_isAwayByAnother_84 : decode cX1_isAwayByAnother 84 = .ok (.goto (-82), 3) := by decide +kernel
theorem dX1_isAwayByAnother_87 : decode cX1_isAwayByAnother 87 = .ok (.iconst 0, 1) := by decide +kernel
theorem dX1_isAwayByAnother_88 : decode cX1_isAwayByAnother 88 = .ok (.ireturn, 1) := by decide +kernel
theorem dX1_thingIsOut_0 : decode cX1_thingIsOut 0 = .ok (.aload_n 0, 1) := by decide +kernel
theorem dX1_thingIsOut_1 : decode cX1_thingIsOut 1 = .ok (.getfield 45, 3) := by decide +kernel
theorem dX1_thingIsOut_4 : decode cX1_thingIsOut 4 = .ok (.getfield 152, 3) := by decide +kernel
theorem dX1_thingIsOut_7 : decode cX1_thingIsOut 7 = .ok (.iload_n 1, 1) := by decide +kernel
theorem dX1_thingIsOut_8 : decode cX1_thingIsOut 8 = .ok (.iaload, 1) := by decide +kernel
theorem dX1_thingIsOut_9 : decode cX1_thingIsOut 9 = .ok (.ifCond .ne 5, 3) := by decide +kernel
theorem dX1_thingIsOut_12 : decode cX1_thingIsOut 12 = .ok (.iconst 0, 1) := by decide +kernel
theorem dX1_thingIsOut_13 : decode cX1_thingIsOut 13 = .ok (.ireturn, 1) := by decide +kernel
theorem dX1_thingIsOut_14 : decode cX1_thingIsOut 14 = .ok (.iload_n 2, 1) := by decide +kernel
theorem dX1_thingIsOut_15 : decode cX1_thingIsOut 15 = .ok (.aload_n 0, 1) := by decide +kernel
theorem dX1_thingIsOut_16 : decode cX1_thingIsOut 16 = .ok (.getfield 45, 3) := by decide +kernel
theorem dX1_thingIsOut_19 : decode cX1_thingIsOut 19 = .ok (.iload_n 1, 1) := by decide +kernel
theorem dX1_thingIsOut_20 : decode cX1_thingIsOut 20 = .ok (.invokevirtual 73, 3) := by decide +kernel
theorem dX1_thingIsOut_23 : decode cX1_thingIsOut 23 = .ok (.iadd, 1) := by decide +kernel
theorem dX1_thingIsOut_24 : decode cX1_thingIsOut 24 = .ok (.istore_n 3, 1) := by decide +kernel
theorem dX1_thingIsOut_25 : decode cX1_thingIsOut 25 = .ok (.iconst 0, 1) := by decide +kernel
theorem dX1_thingIsOut_26 : decode cX1_thingIsOut 26 = .ok (.istore 4, 2) := by decide +kernel
theorem dX1_thingIsOut_28 : decode cX1_thingIsOut 28 = .ok (.iload 4, 2) := by decide +kernel
theorem dX1_thingIsOut_30 : decode cX1_thingIsOut 30 = .ok (.aload_n 0, 1) := by decide +kernel
theorem dX1_thingIsOut_31 : decode cX1_thingIsOut 31 = .ok (.getfield 49, 3) := by decide +kernel
theorem dX1_thingIsOut_34 : decode cX1_thingIsOut 34 = .ok (.getfield 60, 3) := by decide +kernel
theorem dX1_thingIsOut_37 : decode cX1_thingIsOut 37 = .ok (.if_icmp .ge 101, 3) := by decide +kernel
theorem dX1_thingIsOut_40 : decode cX1_thingIsOut 40 = .ok (.aload_n 0, 1) := by decide +kernel
theorem dX1_thingIsOut_41 : decode cX1_thingIsOut 41 = .ok (.getfield 45, 3) := by decide +kernel
theorem dX1_thingIsOut_44 : decode cX1_thingIsOut 44 = .ok (.getfield 152, 3) := by decide +kernel
theorem dX1_thingIsOut_47 : decode cX1_thingIsOut 47 = .ok (.aload_n 0, 1) := by decide +kernel
theorem dX1_thingIsOut_48 : decode cX1_thingIsOut 48 = .ok (.getfield 49, 3) := by decide +kernel
theorem dX1_thingIsOut_51 : decode cX1_thingIsOut 51 = .ok (.iload 4, 2) := by decide +kernel
theorem dX1_thingIsOut_53 : decode cX1_thingIsOut 53 = .ok (.invokevirtual 67, 3) := by decide +kernel
theorem dX1_thingIsOut_56 : decode cX1_thingIsOut 56 = .ok (.iaload, 1) := by decide +kernel
theorem dX1_thingIsOut_57 : decode cX1_thingIsOut 57 = .ok (.aload_n 0, 1) := by decide +kernel
theorem dX1_thingIsOut_58 : decode cX1_thingIsOut 58 = .ok (.getfield 45, 3) := by decide +kernel
theorem dX1_thingIsOut_61 : decode cX1_thingIsOut 61 = .ok (.getfield 152, 3) := by decide +kernel
theorem dX1_thingIsOut_64 : decode cX1_thingIsOut 64 = .ok (.iload_n 1, 1) := by decide +kernel
theorem dX1_thingIsOut_65 : decode cX1_thingIsOut 65 = .ok (.iaload, 1) := by decide +kernel
theorem dX1_thingIsOut_66 : decode cX1_thingIsOut 66 = .ok (.if_icmp .ne 7, 3) := by decide +kernel
theorem dX1_thingIsOut_69 : decode cX1_thingIsOut 69 = .ok (.iconst 1, 1) := by decide +kernel
theorem dX1_thingIsOut_70 : decode cX1_thingIsOut 70 = .ok (.goto 4, 3) := by decide +kernel
theorem dX1_thingIsOut_73 : decode cX1_thingIsOut 73 = .ok (.iconst 0, 1) := by decide +kernel
theorem dX1_thingIsOut_74 : decode cX1_thingIsOut 74 = .ok (.istore 5, 2) := by decide +kernel
theorem dX1_thingIsOut_76 : decode cX1_thingIsOut 76 = .ok (.aload_n 0, 1) := by decide +kernel
theorem dX1_thingIsOut_77 : decode cX1_thingIsOut 77 = .ok (.getfield 49, 3) := by decide +kernel
theorem dX1_thingIsOut_80 : decode cX1_thingIsOut 80 = .ok (.iload 4, 2) := by decide +kernel
theorem dX1_thingIsOut_82 : decode cX1_thingIsOut 82 = .ok (.invokevirtual 70, 3) := by decide +kernel
theorem dX1_thingIsOut_85 : decode cX1_thingIsOut 85 = .ok (.iload_n 3, 1) := by decide +kernel
theorem dX1_thingIsOut_86 : decode cX1_thingIsOut 86 = .ok (.if_icmp .ge 17, 3) := by decide +kernel
theorem dX1_thingIsOut_89 : decode cX1_thingIsOut 89 = .ok (.iload_n 2, 1) := by decide +kernel
theorem dX1_thingIsOut_90 : decode cX1_thingIsOut 90 = .ok (.aload_n 0, 1) := by decide +kernel
theorem dX1_thingIsOut_91 : decode cX1_thingIsOut 91 = .ok (.iload 4, 2) := by decide +kernel
theorem dX1_thingIsOut_93 : decode cX1_thingIsOut 93 = .ok (.invokevirtual 149, 3) := by decide +kernel
theorem dX1_thingIsOut_96 : decode cX1_thingIsOut 96 = .ok (.if_icmp .ge 7, 3) := by decide +kernel
theorem dX1_thingIsOut_99 : decode cX1_thingIsOut 99 = .ok (.iconst 1, 1) := by decide +kernel
theorem dX1_thingIsOut_100 : decode cX1_thingIsOut 100 = .ok (.goto 4, 3) := by decide +kernel
theorem dX1_thingIsOut_103 : decode cX1_thingIsOut 103 = .ok (.iconst 0, 1) := by decide +kernel
theorem dX1_thingIsOut_104 : decode cX1_thingIsOut 104 = .ok (.istore 6, 2) := by decide +kernel
theorem dX1_thingIsOut_106 : decode cX1_thingIsOut 106 = .ok (.iload 5, 2) := by decide +kernel
theorem dX1_thingIsOut_108 : decode cX1_thingIsOut 108 = .ok (.ifCond .eq 24, 3) := by decide +kernel
theorem dX1_thingIsOut_111 : decode cX1_thingIsOut 111 = .ok (.iload 6, 2) := by decide +kernel
theorem dX1_thingIsOut_113 : decode cX1_thingIsOut 113 = .ok (.ifCond .eq 19, 3) := by decide +kernel
theorem dX1_thingIsOut_116 : decode cX1_thingIsOut 116 = .ok (.aload_n 0, 1) := by decide +kernel
theorem dX1_thingIsOut_117 : decode cX1_thingIsOut 117 = .ok (.getfield 49, 3) := by decide +kernel
theorem dX1_thingIsOut_120 : decode cX1_thingIsOut 120 = .ok (.iload 4, 2) := by decide +kernel
theorem dX1_thingIsOut_122 : decode cX1_thingIsOut 122 = .ok (.iload_n 1, 1) := by decide +kernel
theorem dX1_thingIsOut_123 : decode cX1_thingIsOut 123 = .ok (.iload_n 2, 1) := by decide +kernel
theorem dX1_thingIsOut_124 : decode cX1_thingIsOut 124 = .ok (.invokevirtual 155, 3) := by decide +kernel
theorem dX1_thingIsOut_127 : decode cX1_thingIsOut 127 = .ok (.ifCond .ne 5, 3) := by decide +kernel
theorem dX1_thingIsOut_130 : decode cX1_thingIsOut 130 = .ok (.iconst 1, 1) := by decide +kernel
theorem dX1_thingIsOut_131 : decode cX1_thingIsOut 131 = .ok (.ireturn, 1) := by decide +kernel
theorem dX1_thingIsOut_132 : decode cX1_thingIsOut 132 = .ok (.iinc 4 1, 3) := by decide +kernel
theorem dX1_thingIsOut_135 : decode cX1_thingIsOut 135 = .ok (.goto (-107), 3) := by decide +kernel
theorem dX1_thingIsOut_138 : decode cX1_thingIsOut 138 = .ok (.iconst 0, 1) := by decide +kernel
theorem dX1_thingIsOut_139 : decode cX1_thingIsOut 139 = .ok (.ireturn, 1) := by decide +kernel
theorem dX1_hasCompany_0 : decode cX1_hasCompany 0 = .ok (.iconst 0, 1) := by decide +kernel
theorem dX1_hasCompany_1 : decode cX1_hasCompany 1 = .ok (.istore 4, 2) := by decide +kernel
theorem dX1_hasCompany_3 : decode cX1_hasCompany 3 = .ok (.iload 4, 2) := by decide +kernel
theorem dX1_hasCompany_5 : decode cX1_hasCompany 5 = .ok (.aload_n 0, 1) := by decide +kernel
theorem dX1_hasCompany_6 : decode cX1_hasCompany 6 = .ok (.getfield 49, 3) := by decide +kernel
theorem dX1_hasCompany_9 : decode cX1_hasCompany 9 = .ok (.getfield 60, 3) := by decide +kernel
theorem dX1_hasCompany_12 : decode cX1_hasCompany 12 = .ok (.if_icmp .ge 38, 3) := by decide +kernel
theorem dX1_hasCompany_15 : decode cX1_hasCompany 15 = .ok (.aload_n 0, 1) := by decide +kernel
theorem dX1_hasCompany_16 : decode cX1_hasCompany 16 = .ok (.getfield 49, 3) := by decide +kernel
theorem dX1_hasCompany_19 : decode cX1_hasCompany 19 = .ok (.iload 4, 2) := by decide +kernel
theorem dX1_hasCompany_21 : decode cX1_hasCompany 21 = .ok (.invokevirtual 63, 3) := by decide +kernel
theorem dX1_hasCompany_24 : decode cX1_hasCompany 24 = .ok (.iload_n 1, 1) := by decide +kernel
theorem dX1_hasCompany_25 : decode cX1_hasCompany 25 = .ok (.if_icmp .eq 19, 3) := by decide +kernel
theorem dX1_hasCompany_28 : decode cX1_hasCompany 28 = .ok (.aload_n 0, 1) := by decide +kernel
theorem dX1_hasCompany_29 : decode cX1_hasCompany 29 = .ok (.getfield 49, 3) := by decide +kernel
theorem dX1_hasCompany_32 : decode cX1_hasCompany 32 = .ok (.iload 4, 2) := by decide +kernel
theorem dX1_hasCompany_34 : decode cX1_hasCompany 34 = .ok (.iload_n 2, 1) := by decide +kernel
theorem dX1_hasCompany_35 : decode cX1_hasCompany 35 = .ok (.iload_n 3, 1) := by decide +kernel
theorem dX1_hasCompany_36 : decode cX1_hasCompany 36 = .ok (.invokevirtual 155, 3) := by decide +kernel
theorem dX1_hasCompany_39 : decode cX1_hasCompany 39 = .ok (.ifCond .eq 5, 3) := by decide +kernel
theorem dX1_hasCompany_42 : decode cX1_hasCompany 42 = .ok (.iconst 1, 1) := by decide +kernel
theorem dX1_hasCompany_43 : decode cX1_hasCompany 43 = .ok (.ireturn, 1) := by decide +kernel
theorem dX1_hasCompany_44 : decode cX1_hasCompany 44 = .ok (.iinc 4 1, 3) := by decide +kernel
theorem dX1_hasCompany_47 : decode cX1_hasCompany 47 = .ok (.goto (-44), 3) := by decide +kernel
theorem dX1_hasCompany_50 : decode cX1_hasCompany 50 = .ok (.iconst 0, 1) := by decide +kernel
theorem dX1_hasCompany_51 : decode cX1_hasCompany 51 = .ok (.ireturn, 1) := by decide +kernel
theorem dX1_slackOf_0 : decode cX1_slackOf 0 = .ok (.aload_n 0, 1) := by decide +kernel
theorem dX1_slackOf_1 : decode cX1_slackOf 1 = .ok (.iload_n 1, 1) := by decide +kernel
theorem dX1_slackOf_2 : decode cX1_slackOf 2 = .ok (.invokevirtual 158, 3) := by decide +kernel
theorem dX1_slackOf_5 : decode cX1_slackOf 5 = .ok (.ifCond .eq 5, 3) := by decide +kernel
theorem dX1_slackOf_8 : decode cX1_slackOf 8 = .ok (.iconst (-1), 1) := by decide +kernel
theorem dX1_slackOf_9 : decode cX1_slackOf 9 = .ok (.ireturn, 1) := by decide +kernel
theorem dX1_slackOf_10 : decode cX1_slackOf 10 = .ok (.aload_n 0, 1) := by decide +kernel
theorem dX1_slackOf_11 : decode cX1_slackOf 11 = .ok (.iload_n 1, 1) := by decide +kernel
theorem dX1_slackOf_12 : decode cX1_slackOf 12 = .ok (.invokevirtual 149, 3) := by decide +kernel
theorem dX1_slackOf_15 : decode cX1_slackOf 15 = .ok (.istore_n 2, 1) := by decide +kernel
theorem dX1_slackOf_16 : decode cX1_slackOf 16 = .ok (.aload_n 0, 1) := by decide +kernel
theorem dX1_slackOf_17 : decode cX1_slackOf 17 = .ok (.getfield 45, 3) := by decide +kernel
theorem dX1_slackOf_20 : decode cX1_slackOf 20 = .ok (.getfield 97, 3) := by decide +kernel
theorem dX1_slackOf_23 : decode cX1_slackOf 23 = .ok (.istore_n 3, 1) := by decide +kernel
theorem dX1_slackOf_24 : decode cX1_slackOf 24 = .ok (.iconst 0, 1) := by decide +kernel
theorem dX1_slackOf_25 : decode cX1_slackOf 25 = .ok (.istore 4, 2) := by decide +kernel
theorem dX1_slackOf_27 : decode cX1_slackOf 27 = .ok (.iload 4, 2) := by decide +kernel
theorem dX1_slackOf_29 : decode cX1_slackOf 29 = .ok (.aload_n 0, 1) := by decide +kernel
theorem dX1_slackOf_30 : decode cX1_slackOf 30 = .ok (.getfield 49, 3) := by decide +kernel
theorem dX1_slackOf_33 : decode cX1_slackOf 33 = .ok (.getfield 60, 3) := by decide +kernel
theorem dX1_slackOf_36 : decode cX1_slackOf 36 = .ok (.if_icmp .ge 78, 3) := by decide +kernel
theorem dX1_slackOf_39 : decode cX1_slackOf 39 = .ok (.iload 4, 2) := by decide +kernel
theorem dX1_slackOf_41 : decode cX1_slackOf 41 = .ok (.iload_n 1, 1) := by decide +kernel
theorem dX1_slackOf_42 : decode cX1_slackOf 42 = .ok (.if_icmp .eq 40, 3) := by decide +kernel
theorem dX1_slackOf_45 : decode cX1_slackOf 45 = .ok (.aload_n 0, 1) := by decide +kernel
theorem dX1_slackOf_46 : decode cX1_slackOf 46 = .ok (.getfield 49, 3) := by decide +kernel
theorem dX1_slackOf_49 : decode cX1_slackOf 49 = .ok (.iload 4, 2) := by decide +kernel
theorem dX1_slackOf_51 : decode cX1_slackOf 51 = .ok (.invokevirtual 63, 3) := by decide +kernel
theorem dX1_slackOf_54 : decode cX1_slackOf 54 = .ok (.aload_n 0, 1) := by decide +kernel
theorem dX1_slackOf_55 : decode cX1_slackOf 55 = .ok (.getfield 49, 3) := by decide +kernel
theorem dX1_slackOf_58 : decode cX1_slackOf 58 = .ok (.iload_n 1, 1) := by decide +kernel
theorem dX1_slackOf_59 : decode cX1_slackOf 59 = .ok (.invokevirtual 63, 3) := by decide +kernel
theorem dX1_slackOf_62 : decode cX1_slackOf 62 = .ok (.if_icmp .ne 20, 3) := by decide +kernel
theorem dX1_slackOf_65 : decode cX1_slackOf 65 = .ok (.aload_n 0, 1) := by decide +kernel
theorem dX1_slackOf_66 : decode cX1_slackOf 66 = .ok (.getfield 49, 3) := by decide +kernel
theorem dX1_slackOf_69 : decode cX1_slackOf 69 = .ok (.iload 4, 2) := by decide +kernel
theorem dX1_slackOf_71 : decode cX1_slackOf 71 = .ok (.invokevirtual 70, 3) := by decide +kernel
theorem dX1_slackOf_74 : decode cX1_slackOf 74 = .ok (.iload_n 2, 1) := by decide +kernel
theorem dX1_slackOf_75 : decode cX1_slackOf 75 = .ok (.if_icmp .lt 7, 3) := by decide +kernel
theorem dX1_slackOf_78 : decode cX1_slackOf 78 = .ok (.iconst 1, 1) := by decide +kernel
theorem dX1_slackOf_79 : decode cX1_slackOf 79 = .ok (.goto 4, 3) := by decide +kernel
theorem dX1_slackOf_82 : decode cX1_slackOf 82 = .ok (.iconst 0, 1) := by decide +kernel
theorem dX1_slackOf_83 : decode cX1_slackOf 83 = .ok (.istore 5, 2) := by decide +kernel
theorem dX1_slackOf_85 : decode cX1_slackOf 85 = .ok (.iload 5, 2) := by decide +kernel
theorem dX1_slackOf_87 : decode cX1_slackOf 87 = .ok (.ifCond .eq 19, 3) := by decide +kernel
theorem dX1_slackOf_90 : decode cX1_slackOf 90 = .ok (.iload_n 3, 1) := by decide +kernel
theorem dX1_slackOf_91 : decode cX1_slackOf 91 = .ok (.aload_n 0, 1) := by decide +kernel
theorem dX1_slackOf_92 : decode cX1_slackOf 92 = .ok (.getfield 49, 3) := by decide +kernel
theorem dX1_slackOf_95 : decode cX1_slackOf 95 = .ok (.iload 4, 2) := by decide +kernel
theorem dX1_slackOf_97 : decode cX1_slackOf 97 = .ok (.invokevirtual 70, 3) := by decide +kernel
theorem dX1_slackOf_100 : decode cX1_slackOf 100 = .ok (.invokestatic 161, 3) := by decide +kernel
theorem dX1_slackOf_103 : decode cX1_slackOf 103 = .ok (.goto 4, 3) := by decide +kernel
theorem dX1_slackOf_106 : decode cX1_slackOf 106 = .ok (.iload_n 3, 1) := by decide +kernel
theorem dX1_slackOf_107 : decode cX1_slackOf 107 = .ok (.istore_n 3, 1) := by decide +kernel
theorem dX1_slackOf_108 : decode cX1_slackOf 108 = .ok (.iinc 4 1, 3) := by decide +kernel
theorem dX1_slackOf_111 : decode cX1_slackOf 111 = .ok (.goto (-84), 3) := by decide +kernel
theorem dX1_slackOf_114 : decode cX1_slackOf 114 = .ok (.iload_n 3, 1) := by decide +kernel
theorem dX1_slackOf_115 : decode cX1_slackOf 115 = .ok (.iload_n 2, 1) := by decide +kernel
theorem dX1_slackOf_116 : decode cX1_slackOf 116 = .ok (.isub, 1) := by decide +kernel
theorem dX1_slackOf_117 : decode cX1_slackOf 117 = .ok (.ireturn, 1) := by decide +kernel
theorem dX1_lookForSlack_0 : decode cX1_lookForSlack 0 = .ok (.iconst 0, 1) := by decide +kernel
theorem dX1_lookForSlack_1 : decode cX1_lookForSlack 1 = .ok (.istore_n 1, 1) := by decide +kernel
theorem dX1_lookForSlack_2 : decode cX1_lookForSlack 2 = .ok (.iload_n 1, 1) := by decide +kernel
theorem dX1_lookForSlack_3 : decode cX1_lookForSlack 3 = .ok (.aload_n 0, 1) := by decide +kernel
theorem dX1_lookForSlack_4 : decode cX1_lookForSlack 4 = .ok (.getfield 49, 3) := by decide +kernel
theorem dX1_lookForSlack_7 : decode cX1_lookForSlack 7 = .ok (.getfield 60, 3) := by decide +kernel
theorem dX1_lookForSlack_10 : decode cX1_lookForSlack 10 = .ok (.if_icmp .ge 20, 3) := by decide +kernel
theorem dX1_lookForSlack_13 : decode cX1_lookForSlack 13 = .ok (.aload_n 0, 1) := by decide +kernel
theorem dX1_lookForSlack_14 : decode cX1_lookForSlack 14 = .ok (.getfield 38, 3) := by decide +kernel
theorem dX1_lookForSlack_17 : decode cX1_lookForSlack 17 = .ok (.iload_n 1, 1) := by decide +kernel
theorem dX1_lookForSlack_18 : decode cX1_lookForSlack 18 = .ok (.aload_n 0, 1) := by decide +kernel
theorem dX1_lookForSlack_19 : decode cX1_lookForSlack 19 = .ok (.iload_n 1, 1) := by decide +kernel
theorem dX1_lookForSlack_20 : decode cX1_lookForSlack 20 = .ok (.invokevirtual 164, 3) := by decide +kernel
theorem dX1_lookForSlack_23 : decode cX1_lookForSlack 23 = .ok (.iastore, 1) := by decide +kernel
theorem dX1_lookForSlack_24 : decode cX1_lookForSlack 24 = .ok (.iinc 1 1, 3) := by decide +kernel
theorem dX1_lookForSlack_27 : decode cX1_lookForSlack 27 = .ok (.goto (-25), 3) := by decide +kernel
theorem dX1_lookForSlack_30 : decode cX1_lookForSlack 30 = .ok (.return_, 1) := by decide +kernel
theorem dX2_init_0 : decode cX2_init 0 = .ok (.aload_n 0, 1) := by decide +kernel
theorem dX2_init_1 : decode cX2_init 1 = .ok (.invokespecial 1, 3) := by decide +kernel
theorem dX2_init_4 : decode cX2_init 4 = .ok (.return_, 1) := by decide +kernel
theorem dX2_clear_0 : decode cX2_clear 0 = .ok (.aload_n 0, 1) := by decide +kernel
theorem dX2_clear_1 : decode cX2_clear 1 = .ok (.lconst 0, 1) := by decide +kernel
theorem dX2_clear_2 : decode cX2_clear 2 = .ok (.putfield 7, 3) := by decide +kernel
theorem dX2_clear_5 : decode cX2_clear 5 = .ok (.aload_n 0, 1) := by decide +kernel
theorem dX2_clear_6 : decode cX2_clear 6 = .ok (.lconst 0, 1) := by decide +kernel
theorem dX2_clear_7 : decode cX2_clear 7 = .ok (.putfield 13, 3) := by decide +kernel
theorem dX2_clear_10 : decode cX2_clear 10 = .ok (.return_, 1) := by decide +kernel
theorem dX2_fillTo_0 : decode cX2_fillTo 0 = .ok (.aload_n 0, 1) := by decide +kernel
theorem dX2_fillTo_1 : decode cX2_fillTo 1 = .ok (.iload_n 1, 1) := by decide +kernel
theorem dX2_fillTo_2 : decode cX2_fillTo 2 = .ok (.bipush 64, 2) := by decide +kernel
theorem dX2_fillTo_4 : decode cX2_fillTo 4 = .ok (.if_icmp .lt 9, 3) := by decide +kernel
theorem dX2_fillTo_7 : decode cX2_fillTo 7 = .ok (.ldc2_w 16, 3) := by decide +kernel
theorem dX2_fillTo_10 : decode cX2_fillTo 10 = .ok (.goto 8, 3) := by decide +kernel
theorem dX2_fillTo_13 : decode cX2_fillTo 13 = .ok (.lconst 1, 1) := by decide +kernel
theorem dX2_fillTo_14 : decode cX2_fillTo 14 = .ok (.iload_n 1, 1) := by decide +kernel
theorem dX2_fillTo_15 : decode cX2_fillTo 15 = .ok (.lshl, 1) := by decide +kernel
theorem dX2_fillTo_16 : decode cX2_fillTo 16 = .ok (.lconst 1, 1) := by decide +kernel
theorem dX2_fillTo_17 : decode cX2_fillTo 17 = .ok (.lsub, 1) := by decide +kernel
theorem dX2_fillTo_18 : decode cX2_fillTo 18 = .ok (.putfield 7, 3) := by decide +kernel
theorem dX2_fillTo_21 : decode cX2_fillTo 21 = .ok (.aload_n 0, 1) := by decide +kernel
theorem dX2_fillTo_22 : decode cX2_fillTo 22 = .ok (.iload_n 1, 1) := by decide +kernel
theorem dX2_fillTo_23 : decode cX2_fillTo 23 = .ok (.bipush 64, 2) := by decide +kernel
theorem dX2_fillTo_25 : decode cX2_fillTo 25 = .ok (.if_icmp .le 14, 3) := by decide +kernel
theorem dX2_fillTo_28 : decode cX2_fillTo 28 = .ok (.lconst 1, 1) := by decide +kernel
theorem dX2_fillTo_29 : decode cX2_fillTo 29 = .ok (.iload_n 1, 1) := by decide +kernel
theorem dX2_fillTo_30 : decode cX2_fillTo 30 = .ok (.bipush 64, 2) := by decide +kernel
theorem dX2_fillTo_32 : decode cX2_fillTo 32 = .ok (.isub, 1) := by decide +kernel
theorem dX2_fillTo_33 : decode cX2_fillTo 33 = .ok (.lshl, 1) := by decide +kernel
theorem dX2_fillTo_34 : decode cX2_fillTo 34 = .ok (.lconst 1, 1) := by decide +kernel
theorem dX2_fillTo_35 : decode cX2_fillTo 35 = .ok (.lsub, 1) := by decide +kernel
theorem dX2_fillTo_36 : decode cX2_fillTo 36 = .ok (.goto 4, 3) := by decide +kernel
theorem dX2_fillTo_39 : decode cX2_fillTo 39 = .ok (.lconst 0, 1) := by decide +kernel
theorem dX2_fillTo_40 : decode cX2_fillTo 40 = .ok (.putfield 13, 3) := by decide +kernel
theorem dX2_fillTo_43 : decode cX2_fillTo 43 = .ok (.return_, 1) := by decide +kernel
theorem dX2_add_0 : decode cX2_add 0 = .ok (.lconst 1, 1) := by decide +kernel
theorem dX2_add_1 : decode cX2_add 1 = .ok (.iload_n 2, 1) := by decide +kernel
theorem dX2_add_2 : decode cX2_add 2 = .ok (.lshl, 1) := by decide +kernel
theorem dX2_add_3 : decode cX2_add 3 = .ok (.lconst 1, 1) := by decide +kernel
theorem dX2_add_4 : decode cX2_add 4 = .ok (.lsub, 1) := by decide +kernel
theorem dX2_add_5 : decode cX2_add 5 = .ok (.lstore_n 3, 1) := by decide +kernel
theorem dX2_add_6 : decode cX2_add 6 = .ok (.iload_n 1, 1) := by decide +kernel
theorem dX2_add_7 : decode cX2_add 7 = .ok (.bipush 64, 2) := by decide +kernel
theorem dX2_add_9 : decode cX2_add 9 = .ok (.if_icmp .lt 19, 3) := by decide +kernel
theorem dX2_add_12 : decode cX2_add 12 = .ok (.aload_n 0, 1) := by decide +kernel
theorem dX2_add_13 : decode cX2_add 13 = .ok (.dup, 1) := by decide +kernel
theorem dX2_add_14 : decode cX2_add 14 = .ok (.getfield 13, 3) := by decide +kernel
theorem dX2_add_17 : decode cX2_add 17 = .ok (.lload_n 3, 1) := by decide +kernel
theorem dX2_add_18 : decode cX2_add 18 = .ok (.iload_n 1, 1) := by decide +kernel
theorem dX2_add_19 : decode cX2_add 19 = .ok (.bipush 64, 2) := by decide +kernel
theorem dX2_add_21 : decode cX2_add 21 = .ok (.isub, 1) := by decide +kernel
theorem dX2_add_22 : decode cX2_add 22 = .ok (.lshl, 1) := by decide +kernel
theorem dX2_add_23 : decode cX2_add 23 = .ok (.lor, 1) := by decide +kernel
theorem dX2_add_24 : decode cX2_add 24 = .ok (.putfield 13, 3) := by decide +kernel
theorem dX2_add_27 : decode cX2_add 27 = .ok (.return_, 1) := by decide +kernel
theorem dX2_add_28 : decode cX2_add 28 = .ok (.aload_n 0, 1) := by decide +kernel
theorem dX2_add_29 : decode cX2_add 29 = .ok (.dup, 1) := by decide +kernel
theorem dX2_add_30 : decode cX2_add 30 = .ok (.getfield 7, 3) := by decide +kernel
theorem dX2_add_33 : decode cX2_add 33 = .ok (.lload_n 3, 1) := by decide +kernel
theorem dX2_add_34 : decode cX2_add 34 = .ok (.iload_n 1, 1) := by decide +kernel
theorem dX2_add_35 : decode cX2_add 35 = .ok (.lshl, 1) := by decide +kernel
theorem dX2_add_36 : decode cX2_add 36 = .ok (.lor, 1) := by decide +kernel
theorem dX2_add_37 : decode cX2_add 37 = .ok (.putfield 7, 3) := by decide +kernel
theorem dX2_add_40 : decode cX2_add 40 = .ok (.iload_n 1, 1) := by decide +kernel
theorem dX2_add_41 : decode cX2_add 41 = .ok (.ifCond .le 18, 3) := by decide +kernel
theorem dX2_add_44 : decode cX2_add 44 = .ok (.aload_n 0, 1) := by decide +kernel
theorem dX2_add_45 : decode cX2_add 45 = .ok (.dup, 1) := by decide +kernel
theorem dX2_add_46 : decode cX2_add 46 = .ok (.getfield 13, 3) := by decide +kernel
theorem dX2_add_49 : decode cX2_add 49 = .ok (.lload_n 3, 1) := by decide +kernel
theorem dX2_add_50 : decode cX2_add 50 = .ok (.bipush 64, 2) := by decide +kernel
theorem dX2_add_52 : decode cX2_add 52 = .ok (.iload_n 1, 1) := by decide +kernel
theorem dX2_add_53 : decode cX2_add 53 = .ok (.isub, 1) := by decide +kernel
theorem dX2_add_54 : decode cX2_add 54 = .ok (.lushr, 1) := by decide +kernel
theorem dX2_add_55 : decode cX2_add 55 = .ok (.lor, 1) := by decide +kernel
theorem dX2_add_56 : decode cX2_add 56 = .ok (.putfield 13, 3) := by decide +kernel
theorem dX2_add_59 : decode cX2_add 59 = .ok (.return_, 1) := by decide +kernel
theorem dX2_has_0 : decode cX2_has 0 = .ok (.iload_n 1, 1) := by decide +kernel
theorem dX2_has_1 : decode cX2_has 1 = .ok (.bipush 64, 2) := by decide +kernel
theorem dX2_has_3 : decode cX2_has 3 = .ok (.if_icmp .lt 15, 3) := by decide +kernel
theorem dX2_has_6 : decode cX2_has 6 = .ok (.aload_n 0, 1) := by decide +kernel
theorem dX2_has_7 : decode cX2_has 7 = .ok (.getfield 13, 3) := by decide +kernel
theorem dX2_has_10 : decode cX2_has 10 = .ok (.iload_n 1, 1) := by decide +kernel
theorem dX2_has_11 : decode cX2_has 11 = .ok (.bipush 64, 2) := by decide +kernel
theorem dX2_has_13 : decode cX2_has 13 = .ok (.isub, 1) := by decide +kernel
theorem dX2_has_14 : decode cX2_has 14 = .ok (.lushr, 1) := by decide +kernel
theorem dX2_has_15 : decode cX2_has 15 = .ok (.goto 9, 3) := by decide +kernel
theorem dX2_has_18 : decode cX2_has 18 = .ok (.aload_n 0, 1) := by decide +kernel
theorem dX2_has_19 : decode cX2_has 19 = .ok (.getfield 7, 3) := by decide +kernel
theorem dX2_has_22 : decode cX2_has 22 = .ok (.iload_n 1, 1) := by decide +kernel
theorem dX2_has_23 : decode cX2_has 23 = .ok (.lushr, 1) := by decide +kernel
theorem dX2_has_24 : decode cX2_has 24 = .ok (.lconst 1, 1) := by decide +kernel
theorem dX2_has_25 : decode cX2_has 25 = .ok (.land, 1) := by decide +kernel
theorem dX2_has_26 : decode cX2_has 26 = .ok (.lconst 0, 1) := by decide +kernel
theorem dX2_has_27 : decode cX2_has 27 = .ok (.lcmp, 1) := by decide +kernel
theorem dX2_has_28 : decode cX2_has 28 = .ok (.ifCond .eq 7, 3) := by decide +kernel
theorem dX2_has_31 : decode cX2_has 31 = .ok (.iconst 1, 1) := by decide +kernel
theorem dX2_has_32 : decode cX2_has 32 = .ok (.goto 4, 3) := by decide +kernel
theorem dX2_has_35 : decode cX2_has 35 = .ok (.iconst 0, 1) := by decide +kernel
theorem dX2_has_36 : decode cX2_has 36 = .ok (.ireturn, 1) := by decide +kernel
theorem dX2_part_0 : decode cX2_part 0 = .ok (.iload_n 1, 1) := by decide +kernel
theorem dX2_part_1 : decode cX2_part 1 = .ok (.bipush 64, 2) := by decide +kernel
theorem dX2_part_3 : decode cX2_part 3 = .ok (.if_icmp .lt 15, 3) := by decide +kernel
theorem dX2_part_6 : decode cX2_part 6 = .ok (.aload_n 0, 1) := by decide +kernel
theorem dX2_part_7 : decode cX2_part 7 = .ok (.getfield 13, 3) := by decide +kernel
theorem dX2_part_10 : decode cX2_part 10 = .ok (.iload_n 1, 1) := by decide +kernel
theorem dX2_part_11 : decode cX2_part 11 = .ok (.bipush 64, 2) := by decide +kernel
theorem dX2_part_13 : decode cX2_part 13 = .ok (.isub, 1) := by decide +kernel
theorem dX2_part_14 : decode cX2_part 14 = .ok (.lushr, 1) := by decide +kernel
theorem dX2_part_15 : decode cX2_part 15 = .ok (.goto 9, 3) := by decide +kernel
theorem dX2_part_18 : decode cX2_part 18 = .ok (.aload_n 0, 1) := by decide +kernel
theorem dX2_part_19 : decode cX2_part 19 = .ok (.getfield 7, 3) := by decide +kernel
theorem dX2_part_22 : decode cX2_part 22 = .ok (.iload_n 1, 1) := by decide +kernel
theorem dX2_part_23 : decode cX2_part 23 = .ok (.lushr, 1) := by decide +kernel
theorem dX2_part_24 : decode cX2_part 24 = .ok (.lstore_n 3, 1) := by decide +kernel
theorem dX2_part_25 : decode cX2_part 25 = .ok (.iload_n 1, 1) := by decide +kernel
theorem dX2_part_26 : decode cX2_part 26 = .ok (.ifCond .le 21, 3) := by decide +kernel
theorem dX2_part_29 : decode cX2_part 29 = .ok (.iload_n 1, 1) := by decide +kernel
theorem dX2_part_30 : decode cX2_part 30 = .ok (.bipush 64, 2) := by decide +kernel
theorem dX2_part_32 : decode cX2_part 32 = .ok (.if_icmp .ge 15, 3) := by decide +kernel
theorem dX2_part_35 : decode cX2_part 35 = .ok (.lload_n 3, 1) := by decide +kernel
theorem dX2_part_36 : decode cX2_part 36 = .ok (.aload_n 0, 1) := by decide +kernel
theorem dX2_part_37 : decode cX2_part 37 = .ok (.getfield 13, 3) := by decide +kernel
theorem dX2_part_40 : decode cX2_part 40 = .ok (.bipush 64, 2) := by decide +kernel
theorem dX2_part_42 : decode cX2_part 42 = .ok (.iload_n 1, 1) := by decide +kernel
theorem dX2_part_43 : decode cX2_part 43 = .ok (.isub, 1) := by decide +kernel
theorem dX2_part_44 : decode cX2_part 44 = .ok (.lshl, 1) := by decide +kernel
theorem dX2_part_45 : decode cX2_part 45 = .ok (.lor, 1) := by decide +kernel
theorem dX2_part_46 : decode cX2_part 46 = .ok (.lstore_n 3, 1) := by decide +kernel
theorem dX2_part_47 : decode cX2_part 47 = .ok (.lload_n 3, 1) := by decide +kernel
theorem dX2_part_48 : decode cX2_part 48 = .ok (.lconst 1, 1) := by decide +kernel
theorem dX2_part_49 : decode cX2_part 49 = .ok (.iload_n 2, 1) := by decide +kernel
theorem dX2_part_50 : decode cX2_part 50 = .ok (.lshl, 1) := by decide +kernel
theorem dX2_part_51 : decode cX2_part 51 = .ok (.lconst 1, 1) := by decide +kernel
theorem dX2_part_52 : decode cX2_part 52 = .ok (.lsub, 1) := by decide +kernel
theorem dX2_part_53 : decode cX2_part 53 = .ok (.land, 1) := by decide +kernel
theorem dX2_part_54 : decode cX2_part 54 = .ok (.lreturn, 1) := by decide +kernel
theorem dX2_isEmpty_0 : decode cX2_isEmpty 0 = .ok (.aload_n 0, 1) := by decide +kernel
theorem dX2_isEmpty_1 : decode cX2_isEmpty 1 = .ok (.getfield 7, 3) := by decide +kernel
theorem dX2_isEmpty_4 : decode cX2_isEmpty 4 = .ok (.aload_n 0, 1) := by decide +kernel
theorem dX2_isEmpty_5 : decode cX2_isEmpty 5 = .ok (.getfield 13, 3) := by decide +kernel
theorem dX2_isEmpty_8 : decode cX2_isEmpty 8 = .ok (.lor, 1) := by decide +kernel
theorem dX2_isEmpty_9 : decode cX2_isEmpty 9 = .ok (.lconst 0, 1) := by decide +kernel
theorem dX2_isEmpty_10 : decode cX2_isEmpty 10 = .ok (.lcmp, 1) := by decide +kernel
theorem dX2_isEmpty_11 : decode cX2_isEmpty 11 = .ok (.ifCond .ne 7, 3) := by decide +kernel
theorem dX2_isEmpty_14 : decode cX2_isEmpty 14 = .ok (.iconst 1, 1) := by decide +kernel
theorem dX2_isEmpty_15 : decode cX2_isEmpty 15 = .ok (.goto 4, 3) := by decide +kernel
theorem dX2_isEmpty_18 : decode cX2_isEmpty 18 = .ok (.iconst 0, 1) := by decide +kernel
theorem dX2_isEmpty_19 : decode cX2_isEmpty 19 = .ok (.ireturn, 1) := by decide +kernel
theorem dX2_hasMoreThan_0 : decode cX2_hasMoreThan 0 = .ok (.aload_n 0, 1) := by decide +kernel
theorem dX2_hasMoreThan_1 : decode cX2_hasMoreThan 1 = .ok (.getfield 7, 3) := by decide +kernel
theorem dX2_hasMoreThan_4 : decode cX2_hasMoreThan 4 = .ok (.aload_n 1, 1) := by decide +kernel
theorem dX2_hasMoreThan_5 : decode cX2_hasMoreThan 5 = .ok (.getfield 7, 3) := by decide +kernel
theorem dX2_hasMoreThan_8 : decode cX2_hasMoreThan 8 = .ok (.ldc2_w 16, 3) := by decide +kernel
theorem dX2_hasMoreThan_11 : decode cX2_hasMoreThan 11 = .ok (.lxor, 1) := by decide +kernel
theorem dX2_hasMoreThan_12 : decode cX2_hasMoreThan 12 = .ok (.land, 1) := by decide +kernel
theorem dX2_hasMoreThan_13 : decode cX2_hasMoreThan 13 = .ok (.aload_n 0, 1) := by decide +kernel
theorem dX2_hasMoreThan_14 : decode cX2_hasMoreThan 14 = .ok (.getfield 13, 3) := by decide +kernel
theorem dX2_hasMoreThan_17 : decode cX2_hasMoreThan 17 = .ok (.aload_n 1, 1) := by decide +kernel
theorem dX2_hasMoreThan_18 : decode cX2_hasMoreThan 18 = .ok (.getfield 13, 3) := by decide +kernel
theorem dX2_hasMoreThan_21 : decode cX2_hasMoreThan 21 = .ok (.ldc2_w 16, 3) := by decide +kernel
theorem dX2_hasMoreThan_24 : decode cX2_hasMoreThan 24 = .ok (.lxor, 1) := by decide +kernel
theorem dX2_hasMoreThan_25 : decode cX2_hasMoreThan 25 = .ok (.land, 1) := by decide +kernel
theorem dX2_hasMoreThan_26 : decode cX2_hasMoreThan 26 = .ok (.lor, 1) := by decide +kernel
theorem dX2_hasMoreThan_27 : decode cX2_hasMoreThan 27 = .ok (.lconst 0, 1) := by decide +kernel
theorem dX2_hasMoreThan_28 : decode cX2_hasMoreThan 28 = .ok (.lcmp, 1) := by decide +kernel
theorem dX2_hasMoreThan_29 : decode cX2_hasMoreThan 29 = .ok (.ifCond .eq 7, 3) := by decide +kernel
theorem dX2_hasMoreThan_32 : decode cX2_hasMoreThan 32 = .ok (.iconst 1, 1) := by decide +kernel
theorem dX2_hasMoreThan_33 : decode cX2_hasMoreThan 33 = .ok (.goto 4, 3) := by decide +kernel
theorem dX2_hasMoreThan_36 : decode cX2_hasMoreThan 36 = .ok (.iconst 0, 1) := by decide +kernel
theorem dX2_hasMoreThan_37 : decode cX2_hasMoreThan 37 = .ok (.ireturn, 1) := by decide +kernel
theorem dX2_join_0 : decode cX2_join 0 = .ok (.aload_n 0, 1) := by decide +kernel
theorem dX2_join_1 : decode cX2_join 1 = .ok (.dup, 1) := by decide +kernel
theorem dX2_join_2 : decode cX2_join 2 = .ok (.getfield 7, 3) := by decide +kernel
theorem dX2_join_5 : decode cX2_join 5 = .ok (.aload_n 1, 1) := by decide +kernel
theorem dX2_join_6 : decode cX2_join 6 = .ok (.getfield 7, 3) := by decide +kernel
theorem dX2_join_9 : decode cX2_join 9 = .ok (.lor, 1) := by decide +kernel
theorem dX2_join_10 : decode cX2_join 10 = .ok (.putfield 7, 3) := by decide +kernel
theorem dX2_join_13 : decode cX2_join 13 = .ok (.aload_n 0, 1) := by decide +kernel
theorem dX2_join_14 : decode cX2_join 14 = .ok (.dup, 1) := by decide +kernel
theorem dX2_join_15 : decode cX2_join 15 = .ok (.getfield 13, 3) := by decide +kernel
theorem dX2_join_18 : decode cX2_join 18 = .ok (.aload_n 1, 1) := by decide +kernel
theorem dX2_join_19 : decode cX2_join 19 = .ok (.getfield 13, 3) := by decide +kernel
theorem dX2_join_22 : decode cX2_join 22 = .ok (.lor, 1) := by decide +kernel
theorem dX2_join_23 : decode cX2_join 23 = .ok (.putfield 13, 3) := by decide +kernel
theorem dX2_join_26 : decode cX2_join 26 = .ok (.return_, 1) := by decide +kernel
theorem dX2_without_0 : decode cX2_without 0 = .ok (.aload_n 0, 1) := by decide +kernel
theorem dX2_without_1 : decode cX2_without 1 = .ok (.aload_n 0, 1) := by decide +kernel
theorem dX2_without_2 : decode cX2_without 2 = .ok (.getfield 7, 3) := by decide +kernel
theorem dX2_without_5 : decode cX2_without 5 = .ok (.aload_n 1, 1) := by decide +kernel
theorem dX2_without_6 : decode cX2_without 6 = .ok (.getfield 7, 3) := by decide +kernel
theorem dX2_without_9 : decode cX2_without 9 = .ok (.ldc2_w 16, 3) := by decide +kernel
theorem dX2_without_12 : decode cX2_without 12 = .ok (.lxor, 1) := by decide +kernel
theorem dX2_without_13 : decode cX2_without 13 = .ok (.land, 1) := by decide +kernel
theorem dX2_without_14 : decode cX2_without 14 = .ok (.putfield 7, 3) := by decide +kernel
theorem dX2_without_17 : decode cX2_without 17 = .ok (.aload_n 0, 1) := by decide +kernel
theorem dX2_without_18 : decode cX2_without 18 = .ok (.aload_n 0, 1) := by decide +kernel
theorem dX2_without_19 : decode cX2_without 19 = .ok (.getfield 13, 3) := by decide +kernel
theorem dX2_without_22 : decode cX2_without 22 = .ok (.aload_n 1, 1) := by decide +kernel
theorem dX2_without_23 : decode cX2_without 23 = .ok (.getfield 13, 3) := by decide +kernel
theorem dX2_without_26 : decode cX2_without 26 = .ok (.ldc2_w 16, 3) := by decide +kernel
theorem dX2_without_29 : decode cX2_without 29 = .ok (.lxor, 1) := by decide +kernel
theorem dX2_without_30 : decode cX2_without 30 = .ok (.land, 1) := by decide +kernel
theorem dX2_without_31 : decode cX2_without 31 = .ok (.putfield 13, 3) := by decide +kernel
theorem dX2_without_34 : decode cX2_without 34 = .ok (.return_, 1) := by decide +kernel
theorem dX2_keepOnly_0 : decode cX2_keepOnly 0 = .ok (.aload_n 0, 1) := by decide +kernel
theorem dX2_keepOnly_1 : decode cX2_keepOnly 1 = .ok (.dup, 1) := by decide +kernel
theorem dX2_keepOnly_2 : decode cX2_keepOnly 2 = .ok (.getfield 7, 3) := by decide +kernel
theorem dX2_keepOnly_5 : decode cX2_keepOnly 5 = .ok (.aload_n 1, 1) := by decide +kernel
theorem dX2_keepOnly_6 : decode cX2_keepOnly 6 = .ok (.getfield 7, 3) := by decide +kernel
theorem dX2_keepOnly_9 : decode cX2_keepOnly 9 = .ok (.land, 1) := by decide +kernel
theorem dX2_keepOnly_10 : decode cX2_keepOnly 10 = .ok (.putfield 7, 3) := by decide +kernel
theorem dX2_keepOnly_13 : decode cX2_keepOnly 13 = .ok (.aload_n 0, 1) := by decide +kernel
theorem dX2_keepOnly_14 : decode cX2_keepOnly 14 = .ok (.dup, 1) := by decide +kernel
theorem dX2_keepOnly_15 : decode cX2_keepOnly 15 = .ok (.getfield 13, 3) := by decide +kernel
theorem dX2_keepOnly_18 : decode cX2_keepOnly 18 = .ok (.aload_n 1, 1) := by decide +kernel
theorem dX2_keepOnly_19 : decode cX2_keepOnly 19 = .ok (.getfield 13, 3) := by decide +kernel
theorem dX2_keepOnly_22 : decode cX2_keepOnly 22 = .ok (.land, 1) := by decide +kernel
theorem dX2_keepOnly_23 : decode cX2_keepOnly 23 = .ok (.putfield 13, 3) := by decide +kernel
theorem dX2_keepOnly_26 : decode cX2_keepOnly 26 = .ok (.return_, 1) := by decide +kernel
theorem dX3_init_0 : decode cX3_init 0 = .ok (.aload_n 0, 1) := by decide +kernel
theorem dX3_init_1 : decode cX3_init 1 = .ok (.invokespecial 3, 3) := by decide +kernel
theorem dX3_init_4 : decode cX3_init 4 = .ok (.aload_n 0, 1) := by decide +kernel
theorem dX3_init_5 : decode cX3_init 5 = .ok (.bipush 6, 2) := by decide +kernel
theorem dX3_init_7 : decode cX3_init 7 = .ok (.newarray .int, 2) := by decide +kernel
theorem dX3_init_9 : decode cX3_init 9 = .ok (.putfield 9, 3) := by decide +kernel
theorem dX3_init_12 : decode cX3_init 12 = .ok (.aload_n 0, 1) := by decide +kernel
theorem dX3_init_13 : decode cX3_init 13 = .ok (.bipush 6, 2) := by decide +kernel
theorem dX3_init_15 : decode cX3_init 15 = .ok (.newarray .int, 2) := by decide +kernel
theorem dX3_init_17 : decode cX3_init 17 = .ok (.putfield 15, 3) := by decide +kernel
theorem dX3_init_20 : decode cX3_init 20 = .ok (.aload_n 0, 1) := by decide +kernel
theorem dX3_init_21 : decode cX3_init 21 = .ok (.aload_n 1, 1) := by decide +kernel
theorem dX3_init_22 : decode cX3_init 22 = .ok (.putfield 18, 3) := by decide +kernel
theorem dX3_init_25 : decode cX3_init 25 = .ok (.aload_n 0, 1) := by decide +kernel
theorem dX3_init_26 : decode cX3_init 26 = .ok (.aload_n 2, 1) := by decide +kernel
theorem dX3_init_27 : decode cX3_init 27 = .ok (.putfield 22, 3) := by decide +kernel
theorem dX3_init_30 : decode cX3_init 30 = .ok (.aload_n 0, 1) := by decide +kernel
theorem dX3_init_31 : decode cX3_init 31 = .ok (.aload_n 3, 1) := by decide +kernel
theorem dX3_init_32 : decode cX3_init 32 = .ok (.putfield 26, 3) := by decide +kernel
theorem dX3_init_35 : decode cX3_init 35 = .ok (.aload_n 0, 1) := by decide +kernel
theorem dX3_init_36 : decode cX3_init 36 = .ok (.aload 4, 2) := by decide +kernel
theorem dX3_init_38 : decode cX3_init 38 = .ok (.putfield 30, 3) := by decide +kernel
theorem dX3_init_41 : decode cX3_init 41 = .ok (.return_, 1) := by decide +kernel
theorem dX3_firstOpen_0 : decode cX3_firstOpen 0 = .ok (.iconst 0, 1) := by decide +kernel
theorem dX3_firstOpen_1 : decode cX3_firstOpen 1 = .ok (.aload_n 0, 1) := by decide +kernel
theorem dX3_firstOpen_2 : decode cX3_firstOpen 2 = .ok (.getfield 18, 3) := by decide +kernel
theorem dX3_firstOpen_5 : decode cX3_firstOpen 5 = .ok (.getfield 34, 3) := by decide +kernel
theorem dX3_firstOpen_8 : decode cX3_firstOpen 8 = .ok (.iload_n 1, 1) := by decide +kernel
theorem dX3_firstOpen_9 : decode cX3_firstOpen 9 = .ok (.iaload, 1) := by decide +kernel
theorem dX3_firstOpen_10 : decode cX3_firstOpen 10 = .ok (.aload_n 0, 1) := by decide +kernel
theorem dX3_firstOpen_11 : decode cX3_firstOpen 11 = .ok (.getfield 18, 3) := by decide +kernel
theorem dX3_firstOpen_14 : decode cX3_firstOpen 14 = .ok (.getfield 39, 3) := by decide +kernel
theorem dX3_firstOpen_17 : decode cX3_firstOpen 17 = .ok (.iload_n 1, 1) := by decide +kernel
theorem dX3_firstOpen_18 : decode cX3_firstOpen 18 = .ok (.iaload, 1) := by decide +kernel
theorem dX3_firstOpen_19 : decode cX3_firstOpen 19 = .ok (.isub, 1) := by decide +kernel
theorem dX3_firstOpen_20 : decode cX3_firstOpen 20 = .ok (.invokestatic 42, 3) := by decide +kernel
theorem dX3_firstOpen_23 : decode cX3_firstOpen 23 = .ok (.ireturn, 1) := by decide +kernel
theorem dX3_lastOpen_0 : decode cX3_lastOpen 0 = .ok (.bipush 99, 2) := by decide +kernel
theorem dX3_lastOpen_2 : decode cX3_lastOpen 2 = .ok (.aload_n 0, 1) := by decide +kernel
theorem dX3_lastOpen_3 : decode cX3_lastOpen 3 = .ok (.getfield 18, 3) := by decide +kernel
theorem dX3_lastOpen_6 : decode cX3_lastOpen 6 = .ok (.getfield 48, 3) := by decide +kernel
theorem dX3_lastOpen_9 : decode cX3_lastOpen 9 = .ok (.iload_n 1, 1) := by decide +kernel
theorem dX3_lastOpen_10 : decode cX3_lastOpen 10 = .ok (.iaload, 1) := by decide +kernel
theorem dX3_lastOpen_11 : decode cX3_lastOpen 11 = .ok (.aload_n 0, 1) := by decide +kernel
theorem dX3_lastOpen_12 : decode cX3_lastOpen 12 = .ok (.getfield 18, 3) := by decide +kernel
theorem dX3_lastOpen_15 : decode cX3_lastOpen 15 = .ok (.getfield 39, 3) := by decide +kernel
theorem dX3_lastOpen_18 : decode cX3_lastOpen 18 = .ok (.iload_n 1, 1) := by decide +kernel
theorem dX3_lastOpen_19 : decode cX3_lastOpen 19 = .ok (.iaload, 1) := by decide +kernel
theorem dX3_lastOpen_20 : decode cX3_lastOpen 20 = .ok (.isub, 1) := by decide +kernel
theorem dX3_lastOpen_21 : decode cX3_lastOpen 21 = .ok (.aload_n 0, 1) := by decide +kernel
theorem dX3_lastOpen_22 : decode cX3_lastOpen 22 = .ok (.getfield 18, 3) := by decide +kernel
theorem dX3_lastOpen_25 : decode cX3_lastOpen 25 = .ok (.getfield 51, 3) := by decide +kernel
theorem dX3_lastOpen_28 : decode cX3_lastOpen 28 = .ok (.iload_n 1, 1) := by decide +kernel
theorem dX3_lastOpen_29 : decode cX3_lastOpen 29 = .ok (.iaload, 1) := by decide +kernel
theorem dX3_lastOpen_30 : decode cX3_lastOpen 30 = .ok (.isub, 1) := by decide +kernel
theorem dX3_lastOpen_31 : decode cX3_lastOpen 31 = .ok (.invokestatic 54, 3) := by decide +kernel
theorem dX3_lastOpen_34 : decode cX3_lastOpen 34 = .ok (.ireturn, 1) := by decide +kernel
theorem dX3_soonest_0 : decode cX3_soonest 0 = .ok (.aload_n 0, 1) := by decide +kernel
theorem dX3_soonest_1 : decode cX3_soonest 1 = .ok (.iload_n 2, 1) := by decide +kernel
theorem dX3_soonest_2 : decode cX3_soonest 2 = .ok (.invokevirtual 57, 3) := by decide +kernel
theorem dX3_soonest_5 : decode cX3_soonest 5 = .ok (.istore_n 3, 1) := by decide +kernel
theorem dX3_soonest_6 : decode cX3_soonest 6 = .ok (.iload_n 3, 1) := by decide +kernel
theorem dX3_soonest_7 : decode cX3_soonest 7 = .ok (.aload_n 0, 1) := by decide +kernel
theorem dX3_soonest_8 : decode cX3_soonest 8 = .ok (.iload_n 2, 1) := by decide +kernel
theorem dX3_soonest_9 : decode cX3_soonest 9 = .ok (.invokevirtual 61, 3) := by decide +kernel
theorem dX3_soonest_12 : decode cX3_soonest 12 = .ok (.if_icmp .gt 24, 3) := by decide +kernel
theorem dX3_soonest_15 : decode cX3_soonest 15 = .ok (.aload_n 0, 1) := by decide +kernel
theorem dX3_soonest_16 : decode cX3_soonest 16 = .ok (.getfield 26, 3) := by decide +kernel
theorem dX3_soonest_19 : decode cX3_soonest 19 = .ok (.iload_n 1, 1) := by decide +kernel
theorem dX3_soonest_20 : decode cX3_soonest 20 = .ok (.iload_n 2, 1) := by decide +kernel
theorem dX3_soonest_21 : decode cX3_soonest 21 = .ok (.iload_n 3, 1) := by decide +kernel
theorem dX3_soonest_22 : decode cX3_soonest 22 = .ok (.invokevirtual 64, 3) := by decide +kernel
theorem dX3_soonest_25 : decode cX3_soonest 25 = .ok (.ifCond .ne 5, 3) := by decide +kernel
theorem dX3_soonest_28 : decode cX3_soonest 28 = .ok (.iload_n 3, 1) := by decide +kernel
theorem dX3_soonest_29 : decode cX3_soonest 29 = .ok (.ireturn, 1) := by decide +kernel
theorem dX3_soonest_30 : decode cX3_soonest 30 = .ok (.iinc 3 1, 3) := by decide +kernel
theorem dX3_soonest_33 : decode cX3_soonest 33 = .ok (.goto (-27), 3) := by decide +kernel
theorem dX3_soonest_36 : decode cX3_soonest 36 = .ok (.iconst (-1), 1) := by decide +kernel
theorem dX3_soonest_37 : decode cX3_soonest 37 = .ok (.ireturn, 1) := by decide +kernel
theorem dX3_last_0 : decode cX3_last 0 = .ok (.aload_n 0, 1) := by decide +kernel
theorem dX3_last_1 : decode cX3_last 1 = .ok (.iload_n 2, 1) := by decide +kernel
theorem dX3_last_2 : decode cX3_last 2 = .ok (.invokevirtual 61, 3) := by decide +kernel
theorem dX3_last_5 : decode cX3_last 5 = .ok (.istore_n 3, 1) := by decide +kernel
theorem dX3_last_6 : decode cX3_last 6 = .ok (.iload_n 3, 1) := by decide +kernel
theorem dX3_last_7 : decode cX3_last 7 = .ok (.aload_n 0, 1) := by decide +kernel
theorem dX3_last_8 : decode cX3_last 8 = .ok (.iload_n 2, 1) := by decide +kernel
theorem dX3_last_9 : decode cX3_last 9 = .ok (.invokevirtual 57, 3) := by decide +kernel
theorem dX3_last_12 : decode cX3_last 12 = .ok (.if_icmp .lt 24, 3) := by decide +kernel
theorem dX3_last_15 : decode cX3_last 15 = .ok (.aload_n 0, 1) := by decide +kernel
theorem dX3_last_16 : decode cX3_last 16 = .ok (.getfield 26, 3) := by decide +kernel
theorem dX3_last_19 : decode cX3_last 19 = .ok (.iload_n 1, 1) := by decide +kernel
theorem dX3_last_20 : decode cX3_last 20 = .ok (.iload_n 2, 1) := by decide +kernel
theorem dX3_last_21 : decode cX3_last 21 = .ok (.iload_n 3, 1) := by decide +kernel
theorem dX3_last_22 : decode cX3_last 22 = .ok (.invokevirtual 64, 3) := by decide +kernel
theorem dX3_last_25 : decode cX3_last 25 = .ok (.ifCond .ne 5, 3) := by decide +kernel
theorem dX3_last_28 : decode cX3_last 28 = .ok (.iload_n 3, 1) := by decide +kernel
theorem dX3_last_29 : decode cX3_last 29 = .ok (.ireturn, 1) := by decide +kernel
theorem dX3_last_30 : decode cX3_last 30 = .ok (.iinc 3 (-1), 3) := by decide +kernel
theorem dX3_last_33 : decode cX3_last 33 = .ok (.goto (-27), 3) := by decide +kernel
theorem dX3_last_36 : decode cX3_last 36 = .ok (.iconst (-1), 1) := by decide +kernel
theorem dX3_last_37 : decode cX3_last 37 = .ok (.ireturn, 1) := by decide +kernel
theorem dX3_someone_0 : decode cX3_someone 0 = .ok (.iconst 0, 1) := by decide +kernel
theorem dX3_someone_1 : decode cX3_someone 1 = .ok (.istore_n 2, 1) := by decide +kernel
theorem dX3_someone_2 : decode cX3_someone 2 = .ok (.iload_n 2, 1) := by decide +kernel
theorem dX3_someone_3 : decode cX3_someone 3 = .ok (.aload_n 0, 1) := by decide +kernel
theorem dX3_someone_4 : decode cX3_someone 4 = .ok (.getfield 18, 3) := by decide +kernel
theorem dX3_someone_7 : decode cX3_someone 7 = .ok (.getfield 70, 3) := by decide +kernel
theorem dX3_someone_10 : decode cX3_someone 10 = .ok (.if_icmp .ge 20, 3) := by decide +kernel
theorem dX3_someone_13 : decode cX3_someone 13 = .ok (.aload_n 0, 1) := by decide +kernel
theorem dX3_someone_14 : decode cX3_someone 14 = .ok (.iload_n 2, 1) := by decide +kernel
theorem dX3_someone_15 : decode cX3_someone 15 = .ok (.iload_n 1, 1) := by decide +kernel
theorem dX3_someone_16 : decode cX3_someone 16 = .ok (.invokevirtual 74, 3) := by decide +kernel
theorem dX3_someone_19 : decode cX3_someone 19 = .ok (.ifCond .lt 5, 3) := by decide +kernel
theorem dX3_someone_22 : decode cX3_someone 22 = .ok (.iconst 1, 1) := by decide +kernel
theorem dX3_someone_23 : decode cX3_someone 23 = .ok (.ireturn, 1) := by decide +kernel
theorem dX3_someone_24 : decode cX3_someone 24 = .ok (.iinc 2 1, 3) := by decide +kernel
theorem dX3_someone_27 : decode cX3_someone 27 = .ok (.goto (-25), 3) := by decide +kernel
theorem dX3_someone_30 : decode cX3_someone 30 = .ok (.iconst 0, 1) := by decide +kernel
theorem dX3_someone_31 : decode cX3_someone 31 = .ok (.ireturn, 1) := by decide +kernel
theorem dX3_bestFor_0 : decode cX3_bestFor 0 = .ok (.iconst (-1), 1) := by decide +kernel
theorem dX3_bestFor_1 : decode cX3_bestFor 1 = .ok (.istore_n 2, 1) := by decide +kernel
theorem dX3_bestFor_2 : decode cX3_bestFor 2 = .ok (.iconst 0, 1) := by decide +kernel
theorem dX3_bestFor_3 : decode cX3_bestFor 3 = .ok (.istore_n 3, 1) := by decide +kernel
theorem dX3_bestFor_4 : decode cX3_bestFor 4 = .ok (.iload_n 3, 1) := by decide +kernel
theorem dX3_bestFor_5 : decode cX3_bestFor 5 = .ok (.aload_n 0, 1) := by decide +kernel
theorem dX3_bestFor_6 : decode cX3_bestFor 6 = .ok (.getfield 18, 3) := by decide +kernel
theorem dX3_bestFor_9 : decode cX3_bestFor 9 = .ok (.getfield 77, 3) := by decide +kernel
theorem dX3_bestFor_12 : decode cX3_bestFor 12 = .ok (.if_icmp .ge 140, 3) := by decide +kernel
theorem dX3_bestFor_15 : decode cX3_bestFor 15 = .ok (.aload_n 0, 1) := by decide +kernel
theorem dX3_bestFor_16 : decode cX3_bestFor 16 = .ok (.iload_n 1, 1) := by decide +kernel
theorem dX3_bestFor_17 : decode cX3_bestFor 17 = .ok (.iload_n 3, 1) := by decide +kernel
theorem dX3_bestFor_18 : decode cX3_bestFor 18 = .ok (.invokevirtual 74, 3) := by decide +kernel
theorem dX3_bestFor_21 : decode cX3_bestFor 21 = .ok (.istore 4, 2) := by decide +kernel
theorem dX3_bestFor_23 : decode cX3_bestFor 23 = .ok (.iload 4, 2) := by decide +kernel
theorem dX3_bestFor_25 : decode cX3_bestFor 25 = .ok (.ifCond .ge 6, 3) := by decide +kernel
theorem dX3_bestFor_28 : decode cX3_bestFor 28 = .ok (.goto 118, 3) := by decide +kernel
theorem dX3_bestFor_31 : decode cX3_bestFor 31 = .ok (.aload_n 0, 1) := by decide +kernel
theorem dX3_bestFor_32 : decode cX3_bestFor 32 = .ok (.getfield 22, 3) := by decide +kernel
theorem dX3_bestFor_35 : decode cX3_bestFor 35 = .ok (.iload_n 1, 1) := by decide +kernel
theorem dX3_bestFor_36 : decode cX3_bestFor 36 = .ok (.iload_n 3, 1) := by decide +kernel
theorem dX3_bestFor_37 : decode cX3_bestFor 37 = .ok (.iload 4, 2) := by decide +kernel
theorem dX3_bestFor_39 : decode cX3_bestFor 39 = .ok (.invokevirtual 80, 3) := by decide +kernel
theorem dX3_bestFor_42 : decode cX3_bestFor 42 = .ok (.aload_n 0, 1) := by decide +kernel
theorem dX3_bestFor_43 : decode cX3_bestFor 43 = .ok (.getfield 30, 3) := by decide +kernel
theorem dX3_bestFor_46 : decode cX3_bestFor 46 = .ok (.aload_n 0, 1) := by decide +kernel
theorem dX3_bestFor_47 : decode cX3_bestFor 47 = .ok (.getfield 22, 3) := by decide +kernel
theorem dX3_bestFor_50 : decode cX3_bestFor 50 = .ok (.getfield 86, 3) := by decide +kernel
theorem dX3_bestFor_53 : decode cX3_bestFor 53 = .ok (.iconst 1, 1) := by decide +kernel
theorem dX3_bestFor_54 : decode cX3_bestFor 54 = .ok (.isub, 1) := by decide +kernel
theorem dX3_bestFor_55 : decode cX3_bestFor 55 = .ok (.invokevirtual 89, 3) := by decide +kernel
theorem dX3_bestFor_58 : decode cX3_bestFor 58 = .ok (.istore 5, 2) := by decide +kernel
theorem dX3_bestFor_60 : decode cX3_bestFor 60 = .ok (.aload_n 0, 1) := by decide +kernel
theorem dX3_bestFor_61 : decode cX3_bestFor 61 = .ok (.getfield 22, 3) := by decide +kernel
theorem dX3_bestFor_64 : decode cX3_bestFor 64 = .ok (.invokevirtual 94, 3) := by decide +kernel
theorem dX3_bestFor_67 : decode cX3_bestFor 67 = .ok (.iload_n 2, 1) := by decide +kernel
theorem dX3_bestFor_68 : decode cX3_bestFor 68 = .ok (.ifCond .lt 43, 3) := by decide +kernel
theorem dX3_bestFor_71 : decode cX3_bestFor 71 = .ok (.iload 5, 2) := by decide +kernel
theorem dX3_bestFor_73 : decode cX3_bestFor 73 = .ok (.aload_n 0, 1) := by decide +kernel
theorem dX3_bestFor_74 : decode cX3_bestFor 74 = .ok (.getfield 97, 3) := by decide +kernel
theorem dX3_bestFor_77 : decode cX3_bestFor 77 = .ok (.if_icmp .ne 34, 3) := by decide +kernel
theorem dX3_bestFor_80 : decode cX3_bestFor 80 = .ok (.iload 4, 2) := by decide +kernel
theorem dX3_bestFor_82 : decode cX3_bestFor 82 = .ok (.aload_n 0, 1) := by decide +kernel
theorem dX3_bestFor_83 : decode cX3_bestFor 83 = .ok (.getfield 18, 3) := by decide +kernel
theorem dX3_bestFor_86 : decode cX3_bestFor 86 = .ok (.iload_n 3, 1) := by decide +kernel
theorem dX3_bestFor_87 : decode cX3_bestFor 87 = .ok (.invokevirtual 100, 3) := by decide +kernel
theorem dX3_bestFor_90 : decode cX3_bestFor 90 = .ok (.iadd, 1) := by decide +kernel
theorem dX3_bestFor_91 : decode cX3_bestFor 91 = .ok (.aload_n 0, 1) := by decide +kernel
theorem dX3_bestFor_92 : decode cX3_bestFor 92 = .ok (.getfield 103, 3) := by decide +kernel
theorem dX3_bestFor_95 : decode cX3_bestFor 95 = .ok (.aload_n 0, 1) := by decide +kernel
theorem dX3_bestFor_96 : decode cX3_bestFor 96 = .ok (.getfield 18, 3) := by decide +kernel
theorem dX3_bestFor_99 : decode cX3_bestFor 99 = .ok (.iload_n 2, 1) := by decide +kernel
theorem dX3_bestFor_100 : decode cX3_bestFor 100 = .ok (.invokevirtual 100, 3) := by decide +kernel
theorem dX3_bestFor_103 : decode cX3_bestFor 103 = .ok (.iadd, 1) := by decide +kernel
theorem dX3_bestFor_104 : decode cX3_bestFor 104 = .ok (.if_icmp .ge 7, 3) := by decide +kernel
theorem dX3_bestFor_107 : decode cX3_bestFor 107 = .ok (.iconst 1, 1) := by decide +kernel
theorem dX3_bestFor_108 : decode cX3_bestFor 108 = .ok (.goto 4, 3) := by decide +kernel
theorem dX3_bestFor_111 : decode cX3_bestFor 111 = .ok (.iconst 0, 1) := by decide +kernel
theorem dX3_bestFor_112 : decode cX3_bestFor 112 = .ok (.istore 6, 2) := by decide +kernel
theorem dX3_bestFor_114 : decode cX3_bestFor 114 = .ok (.iload_n 2, 1) := by decide +kernel
theorem dX3_bestFor_115 : decode cX3_bestFor 115 = .ok (.ifCond .lt 17, 3) := by decide +kernel
theorem dX3_bestFor_118 : decode cX3_bestFor 118 = .ok (.iload 5, 2) := by decide +kernel
theorem dX3_bestFor_120 : decode cX3_bestFor 120 = .ok (.aload_n 0, 1) := by decide +kernel
theorem dX3_bestFor_121 : decode cX3_bestFor 121 = .ok (.getfield 97, 3) := by decide +kernel
theorem dX3_bestFor_124 : decode cX3_bestFor 124 = .ok (.if_icmp .gt 8, 3) := by decide +kernel
theorem dX3_bestFor_127 : decode cX3_bestFor 127 = .ok (.iload 6, 2) := by decide +kernel
theorem dX3_bestFor_129 : decode cX3_bestFor 129 = .ok (.ifCond .eq 17, 3) := by decide +kernel
theorem dX3_bestFor_132 : decode cX3_bestFor 132 = .ok (.iload_n 3, 1) := by decide +kernel
theorem dX3_bestFor_133 : decode cX3_bestFor 133 = .ok (.istore_n 2, 1) := by decide +kernel
theorem dX3_bestFor_134 : decode cX3_bestFor 134 = .ok (.aload_n 0, 1) := by decide +kernel
theorem dX3_bestFor_135 : decode cX3_bestFor 135 = .ok (.iload 4, 2) := by decide +kernel
theorem dX3_bestFor_137 : decode cX3_bestFor 137 = .ok (.putfield 103, 3) := by decide +kernel
theorem dX3_bestFor_140 : decode cX3_bestFor 140 = .ok (.aload_n 0, 1) := by decide +kernel
theorem dX3_bestFor_141 : decode cX3_bestFor 141 = .ok (.iload 5, 2) := by decide +kernel
theorem dX3_bestFor_143 : decode cX3_bestFor 143 = .ok (.putfield 97, 3) := by decide +kernel
theorem dX3_bestFor_146 : decode cX3_bestFor 146 = .ok (.iinc 3 1, 3) := by decide +kernel
theorem dX3_bestFor_149 : decode cX3_bestFor 149 = .ok (.goto (-145), 3) := by decide +kernel
theorem dX3_bestFor_152 : decode cX3_bestFor 152 = .ok (.iload_n 2, 1) := by decide +kernel
theorem dX3_bestFor_153 : decode cX3_bestFor 153 = .ok (.ireturn, 1) := by decide +kernel
theorem dX3_search_0 : decode cX3_search 0 = .ok (.aload_n 0, 1) := by decide +kernel
theorem dX3_search_1 : decode cX3_search 1 = .ok (.iconst 0, 1) := by decide +kernel
theorem dX3_search_2 : decode cX3_search 2 = .ok (.putfield 106, 3) := by decide +kernel
theorem dX3_search_5 : decode cX3_search 5 = .ok (.aload_n 0, 1) := by decide +kernel
theorem dX3_search_6 : decode cX3_search 6 = .ok (.iconst 0, 1) := by decide +kernel
theorem dX3_search_7 : decode cX3_search 7 = .ok (.putfield 109, 3) := by decide +kernel
theorem dX3_search_10 : decode cX3_search 10 = .ok (.iconst 1, 1) := by decide +kernel
theorem dX3_search_11 : decode cX3_search 11 = .ok (.istore_n 2, 1) := by decide +kernel
theorem dX3_search_12 : decode cX3_search 12 = .ok (.iload_n 2, 1) := by decide +kernel
theorem dX3_search_13 : decode cX3_search 13 = .ok (.iload_n 1, 1) := by decide +kernel
theorem dX3_search_14 : decode cX3_search 14 = .ok (.if_icmp .gt 113, 3) := by decide +kernel
theorem dX3_search_17 : decode cX3_search 17 = .ok (.iconst 0, 1) := by decide +kernel
theorem dX3_search_18 : decode cX3_search 18 = .ok (.istore_n 3, 1) := by decide +kernel
theorem dX3_search_19 : decode cX3_search 19 = .ok (.iload_n 3, 1) := by decide +kernel
theorem dX3_search_20 : decode cX3_search 20 = .ok (.aload_n 0, 1) := by decide +kernel
theorem dX3_search_21 : decode cX3_search 21 = .ok (.getfield 18, 3) := by decide +kernel
theorem dX3_search_24 : decode cX3_search 24 = .ok (.getfield 70, 3) := by decide +kernel
theorem dX3_search_27 : decode cX3_search 27 = .ok (.if_icmp .ge 94, 3) := by decide +kernel
theorem dX3_search_30 : decode cX3_search 30 = .ok (.iconst 0, 1) := by decide +kernel
theorem dX3_search_31 : decode cX3_search 31 = .ok (.istore 4, 2) := by decide +kernel
theorem dX3_search_33 : decode cX3_search 33 = .ok (.iload 4, 2) := by decide +kernel
theorem dX3_search_35 : decode cX3_search 35 = .ok (.aload_n 0, 1) := by decide +kernel
theorem dX3_search_36 : decode cX3_search 36 = .ok (.getfield 18, 3) := by decide +kernel
theorem dX3_search_39 : decode cX3_search 39 = .ok (.getfield 77, 3) := by decide +kernel
theorem dX3_search_42 : decode cX3_search 42 = .ok (.if_icmp .ge 73, 3) := by decide +kernel
theorem dX3_search_45 : decode cX3_search 45 = .ok (.aload_n 0, 1) := by decide +kernel
theorem dX3_search_46 : decode cX3_search 46 = .ok (.getfield 26, 3) := by decide +kernel
theorem dX3_search_49 : decode cX3_search 49 = .ok (.invokevirtual 112, 3) := by decide +kernel
theorem dX3_search_52 : decode cX3_search 52 = .ok (.aload_n 0, 1) := by decide +kernel
theorem dX3_search_53 : decode cX3_search 53 = .ok (.iload_n 3, 1) := by decide +kernel
theorem dX3_search_54 : decode cX3_search 54 = .ok (.iload 4, 2) := by decide +kernel
theorem dX3_search_56 : decode cX3_search 56 = .ok (.invokevirtual 74, 3) := by decide +kernel
theorem dX3_search_59 : decode cX3_search 59 = .ok (.istore 5, 2) := by decide +kernel
theorem dX3_search_61 : decode cX3_search 61 = .ok (.iload 5, 2) := by decide +kernel
theorem dX3_search_63 : decode cX3_search 63 = .ok (.ifCond .ge 6, 3) := by decide +kernel
theorem dX3_search_66 : decode cX3_search 66 = .ok (.goto 43, 3) := by decide +kernel
theorem dX3_search_69 : decode cX3_search 69 = .ok (.aload_n 0, 1) := by decide +kernel
theorem dX3_search_70 : decode cX3_search 70 = .ok (.iload_n 3, 1) := by decide +kernel
theorem dX3_search_71 : decode cX3_search 71 = .ok (.iload 4, 2) := by decide +kernel
theorem dX3_search_73 : decode cX3_search 73 = .ok (.iload 5, 2) := by decide +kernel
theorem dX3_search_75 : decode cX3_search 75 = .ok (.iconst 0, 1) := by decide +kernel
theorem dX3_search_76 : decode cX3_search 76 = .ok (.invokevirtual 115, 3) := by decide +kernel
theorem dX3_search_79 : decode cX3_search 79 = .ok (.istore 6, 2) := by decide +kernel
theorem dX3_search_81 : decode cX3_search 81 = .ok (.iload_n 2, 1) := by decide +kernel
theorem dX3_search_82 : decode cX3_search 82 = .ok (.iconst 1, 1) := by decide +kernel
theorem dX3_search_83 : decode cX3_search 83 = .ok (.if_icmp .ne 13, 3) := by decide +kernel
theorem dX3_search_86 : decode cX3_search 86 = .ok (.aload_n 0, 1) := by decide +kernel
theorem dX3_search_87 : decode cX3_search 87 = .ok (.iload 6, 2) := by decide +kernel
theorem dX3_search_89 : decode cX3_search 89 = .ok (.iconst 1, 1) := by decide +kernel
theorem dX3_search_90 : decode cX3_search 90 = .ok (.invokevirtual 119, 3) := by decide +kernel
theorem dX3_search_93 : decode cX3_search 93 = .ok (.goto 9, 3) := by decide +kernel
theorem dX3_search_96 : decode cX3_search 96 = .ok (.aload_n 0, 1) := by decide +kernel
theorem dX3_search_97 : decode cX3_search 97 = .ok (.iload 6, 2) := by decide +kernel
theorem dX3_search_99 : decode cX3_search 99 = .ok (.invokevirtual 123, 3) := by decide +kernel
theorem dX3_search_102 : decode cX3_search 102 = .ok (.aload_n 0, 1) := by decide +kernel
theorem dX3_search_103 : decode cX3_search 103 = .ok (.getfield 22, 3) := by decide +kernel
theorem dX3_search_106 : decode cX3_search 106 = .ok (.invokevirtual 94, 3) := by decide +kernel
theorem dX3_search_109 : decode cX3_search 109 = .ok (.iinc 4 1, 3) := by decide +kernel
theorem dX3_search_112 : decode cX3_search 112 = .ok (.goto (-79), 3) := by decide +kernel
theorem dX3_search_115 : decode cX3_search 115 = .ok (.iinc 3 1, 3) := by decide +kernel
theorem dX3_search_118 : decode cX3_search 118 = .ok (.goto (-99), 3) := by decide +kernel
theorem dX3_search_121 : decode cX3_search 121 = .ok (.iinc 2 1, 3) := by decide +kernel
theorem dX3_search_124 : decode cX3_search 124 = .ok (.goto (-112), 3) := by decide +kernel
theorem dX3_search_127 : decode cX3_search 127 = .ok (.return_, 1) := by decide +kernel
theorem dX3_trySecond_0 : decode cX3_trySecond 0 = .ok (.aload_n 0, 1) := by decide +kernel
theorem dX3_trySecond_1 : decode cX3_trySecond 1 = .ok (.getfield 26, 3) := by decide +kernel
theorem dX3_trySecond_4 : decode cX3_trySecond 4 = .ok (.invokevirtual 112, 3) := by decide +kernel
theorem dX3_trySecond_7 : decode cX3_trySecond 7 = .ok (.iconst 0, 1) := by decide +kernel
theorem dX3_trySecond_8 : decode cX3_trySecond 8 = .ok (.istore_n 2, 1) := by decide +kernel
theorem dX3_trySecond_9 : decode cX3_trySecond 9 = .ok (.iload_n 2, 1) := by decide +kernel
theorem dX3_trySecond_10 : decode cX3_trySecond 10 = .ok (.aload_n 0, 1) := by decide +kernel
theorem dX3_trySecond_11 : decode cX3_trySecond 11 = .ok (.getfield 18, 3) := by decide +kernel
theorem dX3_trySecond_14 : decode cX3_trySecond 14 = .ok (.getfield 70, 3) := by decide +kernel
theorem dX3_trySecond_17 : decode cX3_trySecond 17 = .ok (.if_icmp .ge 64, 3) := by decide +kernel
theorem dX3_trySecond_20 : decode cX3_trySecond 20 = .ok (.iconst 0, 1) := by decide +kernel
theorem dX3_trySecond_21 : decode cX3_trySecond 21 = .ok (.istore_n 3, 1) := by decide +kernel
theorem dX3_trySecond_22 : decode cX3_trySecond 22 = .ok (.iload_n 3, 1) := by decide +kernel
theorem dX3_trySecond_23 : decode cX3_trySecond 23 = .ok (.aload_n 0, 1) := by decide +kernel
theorem dX3_trySecond_24 : decode cX3_trySecond 24 = .ok (.getfield 18, 3) := by decide +kernel
theorem dX3_trySecond_27 : decode cX3_trySecond 27 = .ok (.getfield 77, 3) := by decide +kernel
theorem dX3_trySecond_30 : decode cX3_trySecond 30 = .ok (.if_icmp .ge 45, 3) := by decide +kernel
theorem dX3_trySecond_33 : decode cX3_trySecond 33 = .ok (.aload_n 0, 1) := by decide +kernel
theorem dX3_trySecond_34 : decode cX3_trySecond 34 = .ok (.iload_n 2, 1) := by decide +kernel
theorem dX3_trySecond_35 : decode cX3_trySecond 35 = .ok (.iload_n 3, 1) := by decide +kernel
theorem dX3_trySecond_36 : decode cX3_trySecond 36 = .ok (.invokevirtual 74, 3) := by decide +kernel
theorem dX3_trySecond_39 : decode cX3_trySecond 39 = .ok (.istore 4, 2) := by decide +kernel
theorem dX3_trySecond_41 : decode cX3_trySecond 41 = .ok (.iload 4, 2) := by decide +kernel
theorem dX3_trySecond_43 : decode cX3_trySecond 43 = .ok (.ifCond .lt 26, 3) := by decide +kernel
theorem dX3_trySecond_46 : decode cX3_trySecond 46 = .ok (.aload_n 0, 1) := by decide +kernel
theorem dX3_trySecond_47 : decode cX3_trySecond 47 = .ok (.iload_n 1, 1) := by decide +kernel
theorem dX3_trySecond_48 : decode cX3_trySecond 48 = .ok (.aload_n 0, 1) := by decide +kernel
theorem dX3_trySecond_49 : decode cX3_trySecond 49 = .ok (.iload_n 2, 1) := by decide +kernel
theorem dX3_trySecond_50 : decode cX3_trySecond 50 = .ok (.iload_n 3, 1) := by decide +kernel
theorem dX3_trySecond_51 : decode cX3_trySecond 51 = .ok (.iload 4, 2) := by decide +kernel
theorem dX3_trySecond_53 : decode cX3_trySecond 53 = .ok (.iconst 3, 1) := by decide +kernel
theorem dX3_trySecond_54 : decode cX3_trySecond 54 = .ok (.invokevirtual 115, 3) := by decide +kernel
theorem dX3_trySecond_57 : decode cX3_trySecond 57 = .ok (.iadd, 1) := by decide +kernel
theorem dX3_trySecond_58 : decode cX3_trySecond 58 = .ok (.iconst 2, 1) := by decide +kernel
theorem dX3_trySecond_59 : decode cX3_trySecond 59 = .ok (.invokevirtual 119, 3) := by decide +kernel
theorem dX3_trySecond_62 : decode cX3_trySecond 62 = .ok (.aload_n 0, 1) := by decide +kernel
theorem dX3_trySecond_63 : decode cX3_trySecond 63 = .ok (.getfield 22, 3) := by decide +kernel
theorem dX3_trySecond_66 : decode cX3_trySecond 66 = .ok (.invokevirtual 94, 3) := by decide +kernel
theorem dX3_trySecond_69 : decode cX3_trySecond 69 = .ok (.iinc 3 1, 3) := by decide +kernel
theorem dX3_trySecond_72 : decode cX3_trySecond 72 = .ok (.goto (-50), 3) := by decide +kernel
theorem dX3_trySecond_75 : decode cX3_trySecond 75 = .ok (.iinc 2 1, 3) := by decide +kernel
theorem dX3_trySecond_78 : decode cX3_trySecond 78 = .ok (.goto (-69), 3) := by decide +kernel
theorem dX3_trySecond_81 : decode cX3_trySecond 81 = .ok (.return_, 1) := by decide +kernel
theorem dX3_put_0 : decode cX3_put 0 = .ok (.aload_n 0, 1) := by decide +kernel
theorem dX3_put_1 : decode cX3_put 1 = .ok (.getfield 30, 3) := by decide +kernel
theorem dX3_put_4 : decode cX3_put 4 = .ok (.iload_n 2, 1) := by decide +kernel
theorem dX3_put_5 : decode cX3_put 5 = .ok (.iload_n 3, 1) := by decide +kernel
theorem dX3_put_6 : decode cX3_put 6 = .ok (.invokevirtual 127, 3) := by decide +kernel
theorem dX3_put_9 : decode cX3_put 9 = .ok (.istore 5, 2) := by decide +kernel
theorem dX3_put_11 : decode cX3_put 11 = .ok (.aload_n 0, 1) := by decide +kernel
theorem dX3_put_12 : decode cX3_put 12 = .ok (.getfield 22, 3) := by decide +kernel
theorem dX3_put_15 : decode cX3_put 15 = .ok (.iload_n 1, 1) := by decide +kernel
theorem dX3_put_16 : decode cX3_put 16 = .ok (.iload_n 2, 1) := by decide +kernel
theorem dX3_put_17 : decode cX3_put 17 = .ok (.iload_n 3, 1) := by decide +kernel
theorem dX3_put_18 : decode cX3_put 18 = .ok (.invokevirtual 80, 3) := by decide +kernel
theorem dX3_put_21 : decode cX3_put 21 = .ok (.aload_n 0, 1) := by decide +kernel
theorem dX3_put_22 : decode cX3_put 22 = .ok (.getfield 15, 3) := by decide +kernel
theorem dX3_put_25 : decode cX3_put 25 = .ok (.iload 4, 2) := by decide +kernel
theorem dX3_put_27 : decode cX3_put 27 = .ok (.iload_n 1, 1) := by decide +kernel
theorem dX3_put_28 : decode cX3_put 28 = .ok (.iastore, 1) := by decide +kernel
theorem dX3_put_29 : decode cX3_put 29 = .ok (.aload_n 0, 1) := by decide +kernel
theorem dX3_put_30 : decode cX3_put 30 = .ok (.getfield 15, 3) := by decide +kernel
theorem dX3_put_33 : decode cX3_put 33 = .ok (.iload 4, 2) := by decide +kernel
theorem dX3_put_35 : decode cX3_put 35 = .ok (.iconst 1, 1) := by decide +kernel
theorem dX3_put_36 : decode cX3_put 36 = .ok (.iadd, 1) := by decide +kernel
theorem dX3_put_37 : decode cX3_put 37 = .ok (.iload_n 2, 1) := by decide +kernel
theorem dX3_put_38 : decode cX3_put 38 = .ok (.iastore, 1) := by decide +kernel
theorem dX3_put_39 : decode cX3_put 39 = .ok (.aload_n 0, 1) := by decide +kernel
theorem dX3_put_40 : decode cX3_put 40 = .ok (.getfield 15, 3) := by decide +kernel
theorem dX3_put_43 : decode cX3_put 43 = .ok (.iload 4, 2) := by decide +kernel
theorem dX3_put_45 : decode cX3_put 45 = .ok (.iconst 2, 1) := by decide +kernel
theorem dX3_put_46 : decode cX3_put 46 = .ok (.iadd, 1) := by decide +kernel
theorem dX3_put_47 : decode cX3_put 47 = .ok (.iload_n 3, 1) := by decide +kernel
theorem dX3_put_48 : decode cX3_put 48 = .ok (.iastore, 1) := by decide +kernel
theorem dX3_put_49 : decode cX3_put 49 = .ok (.aload_n 0, 1) := by decide +kernel
theorem dX3_put_50 : decode cX3_put 50 = .ok (.getfield 30, 3) := by decide +kernel
theorem dX3_put_53 : decode cX3_put 53 = .ok (.iload_n 2, 1) := by decide +kernel
theorem dX3_put_54 : decode cX3_put 54 = .ok (.iload_n 3, 1) := by decide +kernel
theorem dX3_put_55 : decode cX3_put 55 = .ok (.invokevirtual 127, 3) := by decide +kernel
theorem dX3_put_58 : decode cX3_put 58 = .ok (.iload 5, 2) := by decide +kernel
theorem dX3_put_60 : decode cX3_put 60 = .ok (.isub, 1) := by decide +kernel
theorem dX3_put_61 : decode cX3_put 61 = .ok (.ireturn, 1) := by decide +kernel
theorem dX3_take_0 : decode cX3_take 0 = .ok (.iload_n 1, 1) := by decide +kernel
theorem dX3_take_1 : decode cX3_take 1 = .ok (.aload_n 0, 1) := by decide +kernel
theorem dX3_take_2 : decode cX3_take 2 = .ok (.getfield 109, 3) := by decide +kernel
theorem dX3_take_5 : decode cX3_take 5 = .ok (.if_icmp .le 28, 3) := by decide +kernel
theorem dX3_take_8 : decode cX3_take 8 = .ok (.aload_n 0, 1) := by decide +kernel
theorem dX3_take_9 : decode cX3_take 9 = .ok (.iload_n 1, 1) := by decide +kernel
theorem dX3_take_10 : decode cX3_take 10 = .ok (.putfield 109, 3) := by decide +kernel
theorem dX3_take_13 : decode cX3_take 13 = .ok (.aload_n 0, 1) := by decide +kernel
theorem dX3_take_14 : decode cX3_take 14 = .ok (.iload_n 2, 1) := by decide +kernel
theorem dX3_take_15 : decode cX3_take 15 = .ok (.putfield 106, 3) := by decide +kernel
theorem dX3_take_18 : decode cX3_take 18 = .ok (.aload_n 0, 1) := by decide +kernel
theorem dX3_take_19 : decode cX3_take 19 = .ok (.getfield 15, 3) := by decide +kernel
theorem dX3_take_22 : decode cX3_take 22 = .ok (.iconst 0, 1) := by decide +kernel
theorem dX3_take_23 : decode cX3_take 23 = .ok (.aload_n 0, 1) := by decide +kernel
theorem dX3_take_24 : decode cX3_take 24 = .ok (.getfield 9, 3) := by decide +kernel
theorem dX3_take_27 : decode cX3_take 27 = .ok (.iconst 0, 1) := by decide +kernel
theorem dX3_take_28 : decode cX3_take 28 = .ok (.bipush 6, 2) := by decide +kernel
theorem dX3_take_30 : decode cX3_take 30 = .ok (.invokestatic 130, 3) := by decide +kernel
theorem dX3_take_33 : decode cX3_take 33 = .ok (.return_, 1) := by decide +kernel
theorem dX4_init_0 : decode cX4_init 0 = .ok (.aload_n 0, 1) := by decide +kernel
theorem dX4_init_1 : decode cX4_init 1 = .ok (.invokespecial 3, 3) := by decide +kernel
theorem dX4_init_4 : decode cX4_init 4 = .ok (.aload_n 0, 1) := by decide +kernel
theorem dX4_init_5 : decode cX4_init 5 = .ok (.bipush 15, 2) := by decide +kernel
theorem dX4_init_7 : decode cX4_init 7 = .ok (.anewarray 11, 3) := by decide +kernel
theorem dX4_init_10 : decode cX4_init 10 = .ok (.putfield 13, 3) := by decide +kernel
theorem dX4_init_13 : decode cX4_init 13 = .ok (.aload_n 0, 1) := by decide +kernel
theorem dX4_init_14 : decode cX4_init 14 = .ok (.iconst 3, 1) := by decide +kernel
theorem dX4_init_15 : decode cX4_init 15 = .ok (.anewarray 11, 3) := by decide +kernel
theorem dX4_init_18 : decode cX4_init 18 = .ok (.putfield 17, 3) := by decide +kernel
theorem dX4_init_21 : decode cX4_init 21 = .ok (.aload_n 0, 1) := by decide +kernel
theorem dX4_init_22 : decode cX4_init 22 = .ok (.iconst 3, 1) := by decide +kernel
theorem dX4_init_23 : decode cX4_init 23 = .ok (.newarray .int, 2) := by decide +kernel
theorem dX4_init_25 : decode cX4_init 25 = .ok (.putfield 20, 3) := by decide +kernel
theorem dX4_init_28 : decode cX4_init 28 = .ok (.aload_n 0, 1) := by decide +kernel
theorem dX4_init_29 : decode cX4_init 29 = .ok (.iconst 3, 1) := by decide +kernel
theorem dX4_init_30 : decode cX4_init 30 = .ok (.newarray .int, 2) := by decide +kernel
theorem dX4_init_32 : decode cX4_init 32 = .ok (.putfield 24, 3) := by decide +kernel
theorem dX4_init_35 : decode cX4_init 35 = .ok (.iconst 0, 1) := by decide +kernel
theorem dX4_init_36 : decode cX4_init 36 = .ok (.istore_n 1, 1) := by decide +kernel
theorem dX4_init_37 : decode cX4_init 37 = .ok (.iload_n 1, 1) := by decide +kernel
theorem dX4_init_38 : decode cX4_init 38 = .ok (.bipush 15, 2) := by decide +kernel
theorem dX4_init_40 : decode cX4_init 40 = .ok (.if_icmp .ge 22, 3) := by decide +kernel
theorem dX4_init_43 : decode cX4_init 43 = .ok (.aload_n 0, 1) := by decide +kernel
theorem dX4_init_44 : decode cX4_init 44 = .ok (.getfield 13, 3) := by decide +kernel
theorem dX4_init_47 : decode cX4_init 47 = .ok (.iload_n 1, 1) := by decide +kernel
theorem dX4_init_48 : decode cX4_init 48 = .ok (.new 11, 3) := by decide +kernel
theorem dX4_init_51 : decode cX4_init 51 = .ok (.dup, 1) := by decide +kernel
theorem dX4_init_52 : decode cX4_init 52 = .ok (.invokespecial 27, 3) := by decide +kernel
theorem dX4_init_55 : decode cX4_init 55 = .ok (.aastore, 1) := by decide +kernel
theorem dX4_init_56 : decode cX4_init 56 = .ok (.iinc 1 1, 3) := by decide +kernel
theorem dX4_init_59 : decode cX4_init 59 = .ok (.goto (-22), 3) := by decide +kernel
theorem dX4_init_62 : decode cX4_init 62 = .ok (.iconst 0, 1) := by decide +kernel
theorem dX4_init_63 : decode cX4_init 63 = .ok (.istore_n 1, 1) := by decide +kernel
theorem dX4_init_64 : decode cX4_init 64 = .ok (.iload_n 1, 1) := by decide +kernel
theorem dX4_init_65 : decode cX4_init 65 = .ok (.iconst 3, 1) := by decide +kernel
theorem dX4_init_66 : decode cX4_init 66 = .ok (.if_icmp .ge 29, 3) := by decide +kernel
theorem dX4_init_69 : decode cX4_init 69 = .ok (.aload_n 0, 1) := by decide +kernel
theorem dX4_init_70 : decode cX4_init 70 = .ok (.getfield 17, 3) := by decide +kernel
theorem dX4_init_73 : decode cX4_init 73 = .ok (.iload_n 1, 1) := by decide +kernel
theorem dX4_init_74 : decode cX4_init 74 = .ok (.new 11, 3) := by decide +kernel
theorem dX4_init_77 : decode cX4_init 77 = .ok (.dup, 1) := by decide +kernel
theorem dX4_init_78 : decode cX4_init 78 = .ok (.invokespecial 27, 3) := by decide +kernel
theorem dX4_init_81 : decode cX4_init 81 = .ok (.aastore, 1) := by decide +kernel
theorem dX4_init_82 : decode cX4_init 82 = .ok (.aload_n 0, 1) := by decide +kernel
theorem dX4_init_83 : decode cX4_init 83 = .ok (.getfield 20, 3) := by decide +kernel
theorem dX4_init_86 : decode cX4_init 86 = .ok (.iload_n 1, 1) := by decide +kernel
theorem dX4_init_87 : decode cX4_init 87 = .ok (.iconst (-1), 1) := by decide +kernel
theorem dX4_init_88 : decode cX4_init 88 = .ok (.iastore, 1) := by decide +kernel
theorem dX4_init_89 : decode cX4_init 89 = .ok (.iinc 1 1, 3) := by decide +kernel
theorem dX4_init_92 : decode cX4_init 92 = .ok (.goto (-28), 3) := by decide +kernel
theorem dX4_init_95 : decode cX4_init 95 = .ok (.return_, 1) := by decide +kernel
theorem dX4_push_0 : decode cX4_push 0 = .ok (.aload_n 0, 1) := by decide +kernel
theorem dX4_push_1 : decode cX4_push 1 = .ok (.getfield 28, 3) := by decide +kernel
theorem dX4_push_4 : decode cX4_push 4 = .ok (.bipush 15, 2) := by decide +kernel
theorem dX4_push_6 : decode cX4_push 6 = .ok (.if_icmp .lt 7, 3) := by decide +kernel
theorem dX4_push_9 : decode cX4_push 9 = .ok (.aload_n 0, 1) := by decide +kernel
theorem dX4_push_10 : decode cX4_push 10 = .ok (.invokevirtual 32, 3) := by decide +kernel
theorem dX4_push_13 : decode cX4_push 13 = .ok (.aload_n 0, 1) := by decide +kernel
theorem dX4_push_14 : decode cX4_push 14 = .ok (.getfield 13, 3) := by decide +kernel
theorem dX4_push_17 : decode cX4_push 17 = .ok (.aload_n 0, 1) := by decide +kernel
theorem dX4_push_18 : decode cX4_push 18 = .ok (.getfield 28, 3) := by decide +kernel
theorem dX4_push_21 : decode cX4_push 21 = .ok (.aaload, 1) := by decide +kernel
theorem dX4_push_22 : decode cX4_push 22 = .ok (.aload_n 1, 1) := by decide +kernel
theorem dX4_push_23 : decode cX4_push 23 = .ok (.invokevirtual 35, 3) := by decide +kernel
theorem dX4_push_26 : decode cX4_push 26 = .ok (.aload_n 0, 1) := by decide +kernel
theorem dX4_push_27 : decode cX4_push 27 = .ok (.dup, 1) := by decide +kernel
theorem dX4_push_28 : decode cX4_push 28 = .ok (.getfield 28, 3) := by decide +kernel
theorem dX4_push_31 : decode cX4_push 31 = .ok (.iconst 1, 1) := by decide +kernel
theorem dX4_push_32 : decode cX4_push 32 = .ok (.iadd, 1) := by decide +kernel
theorem dX4_push_33 : decode cX4_push 33 = .ok (.putfield 28, 3) := by decide +kernel
theorem dX4_push_36 : decode cX4_push 36 = .ok (.return_, 1) := by decide +kernel
theorem dX4_forgetOldest_0 : decode cX4_forgetOldest 0 = .ok (.aload_n 0, 1) := by decide +kernel
theorem dX4_forgetOldest_1 : decode cX4_forgetOldest 1 = .ok (.getfield 13, 3) := by decide +kernel
theorem dX4_forgetOldest_4 : decode cX4_forgetOldest 4 = .ok (.iconst 0, 1) := by decide +kernel
theorem dX4_forgetOldest_5 : decode cX4_forgetOldest 5 = .ok (.aaload, 1) := by decide +kernel
theorem dX4_forgetOldest_6 : decode cX4_forgetOldest 6 = .ok (.astore_n 1, 1) := by decide +kernel
theorem dX4_forgetOldest_7 : decode cX4_forgetOldest 7 = .ok (.iconst 1, 1) := by decide +kernel
theorem dX4_forgetOldest_8 : decode cX4_forgetOldest 8 = .ok (.istore_n 2, 1) := by decide +kernel
theorem dX4_forgetOldest_9 : decode cX4_forgetOldest 9 = .ok (.iload_n 2, 1) := by decide +kernel
theorem dX4_forgetOldest_10 : decode cX4_forgetOldest 10 = .ok (.bipush 15, 2) := by decide +kernel
theorem dX4_forgetOldest_12 : decode cX4_forgetOldest 12 = .ok (.if_icmp .ge 23, 3) := by decide +kernel
theorem dX4_forgetOldest_15 : decode cX4_forgetOldest 15 = .ok (.aload_n 0, 1) := by decide +kernel
theorem dX4_forgetOldest_16 : decode cX4_forgetOldest 16 = .ok (.getfield 13, 3) := by decide +kernel
theorem dX4_forgetOldest_19 : decode cX4_forgetOldest 19 = .ok (.iload_n 2, 1) := by decide +kernel
theorem dX4_forgetOldest_20 : decode cX4_forgetOldest 20 = .ok (.iconst 1, 1) := by decide +kernel
theorem dX4_forgetOldest_21 : decode cX4_forgetOldest 21 = .ok (.isub, 1) := by decide +kernel
theorem dX4_forgetOldest_22 : decode cX4_forgetOldest 22 = .ok (.aload_n 0, 1) := by decide +kernel
theorem dX4_forgetOldest_23 : decode cX4_forgetOldest 23 = .ok (.getfield 13, 3) := by decide +kernel
theorem dX4_forgetOldest_26 : decode cX4_forgetOldest 26 = .ok (.iload_n 2, 1) := by decide +kernel
theorem dX4_forgetOldest_27 : decode cX4_forgetOldest 27 = .ok (.aaload, 1) := by decide +kernel
theorem dX4_forgetOldest_28 : decode cX4_forgetOldest 28 = .ok (.aastore, 1) := by decide +kernel
theorem dX4_forgetOldest_29 : decode cX4_forgetOldest 29 = .ok (.iinc 2 1, 3) := by decide +kernel
theorem dX4_forgetOldest_32 : decode cX4_forgetOldest 32 = .ok (.goto (-23), 3) := by decide +kernel
theorem dX4_forgetOldest_35 : decode cX4_forgetOldest 35 = .ok (.aload_n 0, 1) := by decide +kernel
theorem dX4_forgetOldest_36 : decode cX4_forgetOldest 36 = .ok (.getfield 13, 3) := by decide +kernel
theorem dX4_forgetOldest_39 : decode cX4_forgetOldest 39 = .ok (.bipush 14, 2) := by decide +kernel
theorem dX4_forgetOldest_41 : decode cX4_forgetOldest 41 = .ok (.aload_n 1, 1) := by decide +kernel
theorem dX4_forgetOldest_42 : decode cX4_forgetOldest 42 = .ok (.aastore, 1) := by decide +kernel
theorem dX4_forgetOldest_43 : decode cX4_forgetOldest 43 = .ok (.aload_n 0, 1) := by decide +kernel
theorem dX4_forgetOldest_44 : decode cX4_forgetOldest 44 = .ok (.bipush 14, 2) := by decide +kernel
theorem dX4_forgetOldest_46 : decode cX4_forgetOldest 46 = .ok (.putfield 28, 3) := by decide +kernel
theorem dX4_forgetOldest_49 : decode cX4_forgetOldest 49 = .ok (.return_, 1) := by decide +kernel
theorem dX4_pop_0 : decode cX4_pop 0 = .ok (.aload_n 0, 1) := by decide +kernel
theorem dX4_pop_1 : decode cX4_pop 1 = .ok (.getfield 28, 3) := by decide +kernel
theorem dX4_pop_4 : decode cX4_pop 4 = .ok (.ifCond .gt 5, 3) := by decide +kernel
theorem dX4_pop_7 : decode cX4_pop 7 = .ok (.iconst 0, 1) := by decide +kernel
theorem dX4_pop_8 : decode cX4_pop 8 = .ok (.ireturn, 1) := by decide +kernel
theorem dX4_pop_9 : decode cX4_pop 9 = .ok (.aload_n 0, 1) := by decide +kernel
theorem dX4_pop_10 : decode cX4_pop 10 = .ok (.dup, 1) := by decide +kernel
theorem dX4_pop_11 : decode cX4_pop 11 = .ok (.getfield 28, 3) := by decide +kernel
theorem dX4_pop_14 : decode cX4_pop 14 = .ok (.iconst 1, 1) := by decide +kernel
theorem dX4_pop_15 : decode cX4_pop 15 = .ok (.isub, 1) := by decide +kernel
theorem dX4_pop_16 : decode cX4_pop 16 = .ok (.putfield 28, 3) := by decide +kernel
theorem dX4_pop_19 : decode cX4_pop 19 = .ok (.aload_n 1, 1) := by decide +kernel
theorem dX4_pop_20 : decode cX4_pop 20 = .ok (.aload_n 0, 1) := by decide +kernel
theorem dX4_pop_21 : decode cX4_pop 21 = .ok (.getfield 13, 3) := by decide +kernel
theorem dX4_pop_24 : decode cX4_pop 24 = .ok (.aload_n 0, 1) := by decide +kernel
theorem dX4_pop_25 : decode cX4_pop 25 = .ok (.getfield 28, 3) := by decide +kernel
theorem dX4_pop_28 : decode cX4_pop 28 = .ok (.aaload, 1) := by decide +kernel
theorem dX4_pop_29 : decode cX4_pop 29 = .ok (.invokevirtual 35, 3) := by decide +kernel
theorem dX4_pop_32 : decode cX4_pop 32 = .ok (.iconst 1, 1) := by decide +kernel
theorem dX4_pop_33 : decode cX4_pop 33 = .ok (.ireturn, 1) := by decide +kernel
theorem dX4_drop_0 : decode cX4_drop 0 = .ok (.aload_n 0, 1) := by decide +kernel
theorem dX4_drop_1 : decode cX4_drop 1 = .ok (.iconst 0, 1) := by decide +kernel
theorem dX4_drop_2 : decode cX4_drop 2 = .ok (.putfield 28, 3) := by decide +kernel
theorem dX4_drop_5 : decode cX4_drop 5 = .ok (.return_, 1) := by decide +kernel
theorem dX4_store_0 : decode cX4_store 0 = .ok (.iload_n 1, 1) := by decide +kernel
theorem dX4_store_1 : decode cX4_store 1 = .ok (.ifCond .lt 8, 3) := by decide +kernel
theorem dX4_store_4 : decode cX4_store 4 = .ok (.iload_n 1, 1) := by decide +kernel
theorem dX4_store_5 : decode cX4_store 5 = .ok (.iconst 3, 1) := by decide +kernel
theorem dX4_store_6 : decode cX4_store 6 = .ok (.if_icmp .lt 5, 3) := by decide +kernel
theorem dX4_store_9 : decode cX4_store 9 = .ok (.iconst 0, 1) := by decide +kernel
theorem dX4_store_10 : decode cX4_store 10 = .ok (.ireturn, 1) := by decide +kernel
theorem dX4_store_11 : decode cX4_store 11 = .ok (.aload_n 0, 1) := by decide +kernel
theorem dX4_store_12 : decode cX4_store 12 = .ok (.getfield 17, 3) := by decide +kernel
theorem dX4_store_15 : decode cX4_store 15 = .ok (.iload_n 1, 1) := by decide +kernel
theorem dX4_store_16 : decode cX4_store 16 = .ok (.aaload, 1) := by decide +kernel
theorem dX4_store_17 : decode cX4_store 17 = .ok (.aload_n 2, 1) := by decide +kernel
theorem dX4_store_18 : decode cX4_store 18 = .ok (.invokevirtual 35, 3) := by decide +kernel
theorem dX4_store_21 : decode cX4_store 21 = .ok (.aload_n 0, 1) := by decide +kernel
theorem dX4_store_22 : decode cX4_store 22 = .ok (.getfield 20, 3) := by decide +kernel
theorem dX4_store_25 : decode cX4_store 25 = .ok (.iload_n 1, 1) := by decide +kernel
theorem dX4_store_26 : decode cX4_store 26 = .ok (.aload_n 3, 1) := by decide +kernel
theorem dX4_store_27 : decode cX4_store 27 = .ok (.getfield 39, 3) := by decide +kernel
theorem dX4_store_30 : decode cX4_store 30 = .ok (.iastore, 1) := by decide +kernel
theorem dX4_store_31 : decode cX4_store 31 = .ok (.aload_n 0, 1) := by decide +kernel
theorem dX4_store_32 : decode cX4_store 32 = .ok (.getfield 24, 3) := by decide +kernel
theorem dX4_store_35 : decode cX4_store 35 = .ok (.iload_n 1, 1) := by decide +kernel
theorem dX4_store_36 : decode cX4_store 36 = .ok (.aload_n 3, 1) := by decide +kernel
theorem dX4_store_37 : decode cX4_store 37 = .ok (.getfield 43, 3) := by decide +kernel
theorem dX4_store_40 : decode cX4_store 40 = .ok (.iastore, 1) := by decide +kernel
theorem dX4_store_41 : decode cX4_store 41 = .ok (.iconst 1, 1) := by decide +kernel
theorem dX4_store_42 : decode cX4_store 42 = .ok (.ireturn, 1) := by decide +kernel
theorem dX4_fetch_0 : decode cX4_fetch 0 = .ok (.iload_n 1, 1) := by decide +kernel
theorem dX4_fetch_1 : decode cX4_fetch 1 = .ok (.ifCond .lt 34, 3) := by decide +kernel
theorem dX4_fetch_4 : decode cX4_fetch 4 = .ok (.iload_n 1, 1) := by decide +kernel
theorem dX4_fetch_5 : decode cX4_fetch 5 = .ok (.iconst 3, 1) := by decide +kernel
theorem dX4_fetch_6 : decode cX4_fetch 6 = .ok (.if_icmp .ge 29, 3) := by decide +kernel
theorem dX4_fetch_9 : decode cX4_fetch 9 = .ok (.aload_n 0, 1) := by decide +kernel
theorem dX4_fetch_10 : decode cX4_fetch 10 = .ok (.getfield 20, 3) := by decide +kernel
theorem dX4_fetch_13 : decode cX4_fetch 13 = .ok (.iload_n 1, 1) := by decide +kernel
theorem dX4_fetch_14 : decode cX4_fetch 14 = .ok (.iaload, 1) := by decide +kernel
theorem dX4_fetch_15 : decode cX4_fetch 15 = .ok (.aload_n 3, 1) := by decide +kernel
theorem dX4_fetch_16 : decode cX4_fetch 16 = .ok (.getfield 39, 3) := by decide +kernel
theorem dX4_fetch_19 : decode cX4_fetch 19 = .ok (.if_icmp .ne 16, 3) := by decide +kernel
theorem dX4_fetch_22 : decode cX4_fetch 22 = .ok (.aload_n 0, 1) := by decide +kernel
theorem dX4_fetch_23 : decode cX4_fetch 23 = .ok (.getfield 24, 3) := by decide +kernel
theorem dX4_fetch_26 : decode cX4_fetch 26 = .ok (.iload_n 1, 1) := by decide +kernel
theorem dX4_fetch_27 : decode cX4_fetch 27 = .ok (.iaload, 1) := by decide +kernel
theorem dX4_fetch_28 : decode cX4_fetch 28 = .ok (.aload_n 3, 1) := by decide +kernel
theorem dX4_fetch_29 : decode cX4_fetch 29 = .ok (.getfield 43, 3) := by decide +kernel
theorem dX4_fetch_32 : decode cX4_fetch 32 = .ok (.if_icmp .eq 5, 3) := by decide +kernel
theorem dX4_fetch_35 : decode cX4_fetch 35 = .ok (.iconst 0, 1) := by decide +kernel
theorem dX4_fetch_36 : decode cX4_fetch 36 = .ok (.ireturn, 1) := by decide +kernel
theorem dX4_fetch_37 : decode cX4_fetch 37 = .ok (.aload_n 2, 1) := by decide +kernel
theorem dX4_fetch_38 : decode cX4_fetch 38 = .ok (.aload_n 0, 1) := by decide +kernel
theorem dX4_fetch_39 : decode cX4_fetch 39 = .ok (.getfield 17, 3) := by decide +kernel
theorem dX4_fetch_42 : decode cX4_fetch 42 = .ok (.iload_n 1, 1) := by decide +kernel
theorem dX4_fetch_43 : decode cX4_fetch 43 = .ok (.aaload, 1) := by decide +kernel
theorem dX4_fetch_44 : decode cX4_fetch 44 = .ok (.invokevirtual 35, 3) := by decide +kernel
theorem dX4_fetch_47 : decode cX4_fetch 47 = .ok (.iconst 1, 1) := by decide +kernel
theorem dX4_fetch_48 : decode cX4_fetch 48 = .ok (.ireturn, 1) := by decide +kernel
theorem dX5_init_0 : decode cX5_init 0 = .ok (.aload_n 0, 1) := by decide +kernel
theorem dX5_init_1 : decode cX5_init 1 = .ok (.invokespecial 1, 3) := by decide +kernel
theorem dX5_init_4 : decode cX5_init 4 = .ok (.aload_n 0, 1) := by decide +kernel
theorem dX5_init_5 : decode cX5_init 5 = .ok (.bipush 12, 2) := by decide +kernel
theorem dX5_init_7 : decode cX5_init 7 = .ok (.newarray .int, 2) := by decide +kernel
theorem dX5_init_9 : decode cX5_init 9 = .ok (.putfield 9, 3) := by decide +kernel
theorem dX5_init_12 : decode cX5_init 12 = .ok (.return_, 1) := by decide +kernel
theorem dX5_has_0 : decode cX5_has 0 = .ok (.iload_n 1, 1) := by decide +kernel
theorem dX5_has_1 : decode cX5_has 1 = .ok (.ifCond .lt 15, 3) := by decide +kernel
theorem dX5_has_4 : decode cX5_has 4 = .ok (.iload_n 1, 1) := by decide +kernel
theorem dX5_has_5 : decode cX5_has 5 = .ok (.aload_n 0, 1) := by decide +kernel
theorem dX5_has_6 : decode cX5_has 6 = .ok (.getfield 13, 3) := by decide +kernel
theorem dX5_has_9 : decode cX5_has 9 = .ok (.if_icmp .ge 7, 3) := by decide +kernel
theorem dX5_has_12 : decode cX5_has 12 = .ok (.iconst 1, 1) := by decide +kernel
theorem dX5_has_13 : decode cX5_has 13 = .ok (.goto 4, 3) := by decide +kernel
theorem dX5_has_16 : decode cX5_has 16 = .ok (.iconst 0, 1) := by decide +kernel
theorem dX5_has_17 : decode cX5_has 17 = .ok (.ireturn, 1) := by decide +kernel
theorem dX5_who_0 : decode cX5_who 0 = .ok (.iload_n 1, 1) := by decide +kernel
theorem dX5_who_1 : decode cX5_who 1 = .ok (.ifCond .lt 23, 3) := by decide +kernel
theorem dX5_who_4 : decode cX5_who 4 = .ok (.iload_n 1, 1) := by decide +kernel
theorem dX5_who_5 : decode cX5_who 5 = .ok (.aload_n 0, 1) := by decide +kernel
theorem dX5_who_6 : decode cX5_who 6 = .ok (.getfield 13, 3) := by decide +kernel
theorem dX5_who_9 : decode cX5_who 9 = .ok (.if_icmp .ge 15, 3) := by decide +kernel
theorem dX5_who_12 : decode cX5_who 12 = .ok (.aload_n 0, 1) := by decide +kernel
theorem dX5_who_13 : decode cX5_who 13 = .ok (.getfield 9, 3) := by decide +kernel
theorem dX5_who_16 : decode cX5_who 16 = .ok (.iload_n 1, 1) := by decide +kernel
theorem dX5_who_17 : decode cX5_who 17 = .ok (.iaload, 1) := by decide +kernel
theorem dX5_who_18 : decode cX5_who 18 = .ok (.bipush 7, 2) := by decide +kernel
theorem dX5_who_20 : decode cX5_who 20 = .ok (.iand, 1) := by decide +kernel
theorem dX5_who_21 : decode cX5_who 21 = .ok (.goto 4, 3) := by decide +kernel
theorem dX5_who_24 : decode cX5_who 24 = .ok (.iconst 0, 1) := by decide +kernel
theorem dX5_who_25 : decode cX5_who 25 = .ok (.ireturn, 1) := by decide +kernel
theorem dX5_what_0 : decode cX5_what 0 = .ok (.iload_n 1, 1) := by decide +kernel
theorem dX5_what_1 : decode cX5_what 1 = .ok (.ifCond .lt 25, 3) := by decide +kernel
theorem dX5_what_4 : decode cX5_what 4 = .ok (.iload_n 1, 1) := by decide +kernel
theorem dX5_what_5 : decode cX5_what 5 = .ok (.aload_n 0, 1) := by decide +kernel
theorem dX5_what_6 : decode cX5_what 6 = .ok (.getfield 13, 3) := by decide +kernel
theorem dX5_what_9 : decode cX5_what 9 = .ok (.if_icmp .ge 17, 3) := by decide +kernel
theorem dX5_what_12 : decode cX5_what 12 = .ok (.aload_n 0, 1) := by decide +kernel
theorem dX5_what_13 : decode cX5_what 13 = .ok (.getfield 9, 3) := by decide +kernel
theorem dX5_what_16 : decode cX5_what 16 = .ok (.iload_n 1, 1) := by decide +kernel
theorem dX5_what_17 : decode cX5_what 17 = .ok (.iaload, 1) := by decide +kernel
theorem dX5_what_18 : decode cX5_what 18 = .ok (.iconst 3, 1) := by decide +kernel
theorem dX5_what_19 : decode cX5_what 19 = .ok (.ishr, 1) := by decide +kernel
theorem dX5_what_20 : decode cX5_what 20 = .ok (.bipush 7, 2) := by decide +kernel
theorem dX5_what_22 : decode cX5_what 22 = .ok (.iand, 1) := by decide +kernel
theorem dX5_what_23 : decode cX5_what 23 = .ok (.goto 4, 3) := by decide +kernel
theorem dX5_what_26 : decode cX5_what 26 = .ok (.iconst 0, 1) := by decide +kernel
theorem dX5_what_27 : decode cX5_what 27 = .ok (.ireturn, 1) := by decide +kernel
theorem dX5_first_0 : decode cX5_first 0 = .ok (.iload_n 1, 1) := by decide +kernel
theorem dX5_first_1 : decode cX5_first 1 = .ok (.ifCond .lt 23, 3) := by decide +kernel
theorem dX5_first_4 : decode cX5_first 4 = .ok (.iload_n 1, 1) := by decide +kernel
theorem dX5_first_5 : decode cX5_first 5 = .ok (.aload_n 0, 1) := by decide +kernel
theorem dX5_first_6 : decode cX5_first 6 = .ok (.getfield 13, 3) := by decide +kernel
theorem dX5_first_9 : decode cX5_first 9 = .ok (.if_icmp .ge 15, 3) := by decide +kernel
theorem dX5_first_12 : decode cX5_first 12 = .ok (.aload_n 0, 1) := by decide +kernel
theorem dX5_first_13 : decode cX5_first 13 = .ok (.getfield 9, 3) := by decide +kernel
theorem dX5_first_16 : decode cX5_first 16 = .ok (.iload_n 1, 1) := by decide +kernel
theorem dX5_first_17 : decode cX5_first 17 = .ok (.iaload, 1) := by decide +kernel
theorem dX5_first_18 : decode cX5_first 18 = .ok (.bipush 6, 2) := by decide +kernel
theorem dX5_first_20 : decode cX5_first 20 = .ok (.ishr, 1) := by decide +kernel
theorem dX5_first_21 : decode cX5_first 21 = .ok (.goto 4, 3) := by decide +kernel
theorem dX5_first_24 : decode cX5_first 24 = .ok (.iconst 0, 1) := by decide +kernel
theorem dX5_first_25 : decode cX5_first 25 = .ok (.ireturn, 1) := by decide +kernel
theorem dX5_add_0 : decode cX5_add 0 = .ok (.aload_n 0, 1) := by decide +kernel
theorem dX5_add_1 : decode cX5_add 1 = .ok (.getfield 13, 3) := by decide +kernel
theorem dX5_add_4 : decode cX5_add 4 = .ok (.bipush 12, 2) := by decide +kernel
theorem dX5_add_6 : decode cX5_add 6 = .ok (.if_icmp .ge 32, 3) := by decide +kernel
theorem dX5_add_9 : decode cX5_add 9 = .ok (.aload_n 0, 1) := by decide +kernel
theorem dX5_add_10 : decode cX5_add 10 = .ok (.getfield 9, 3) := by decide +kernel
theorem dX5_add_13 : decode cX5_add 13 = .ok (.aload_n 0, 1) := by decide +kernel
theorem dX5_add_14 : decode cX5_add 14 = .ok (.getfield 13, 3) := by decide +kernel
theorem dX5_add_17 : decode cX5_add 17 = .ok (.iload_n 1, 1) := by decide +kernel
theorem dX5_add_18 : decode cX5_add 18 = .ok (.iload_n 2, 1) := by decide +kernel
theorem dX5_add_19 : decode cX5_add 19 = .ok (.iconst 3, 1) := by decide +kernel
theorem dX5_add_20 : decode cX5_add 20 = .ok (.ishl, 1) := by decide +kernel
theorem dX5_add_21 : decode cX5_add 21 = .ok (.ior, 1) := by decide +kernel
theorem dX5_add_22 : decode cX5_add 22 = .ok (.iload_n 3, 1) := by decide +kernel
theorem dX5_add_23 : decode cX5_add 23 = .ok (.bipush 6, 2) := by decide +kernel
theorem dX5_add_25 : decode cX5_add 25 = .ok (.ishl, 1) := by decide +kernel
theorem dX5_add_26 : decode cX5_add 26 = .ok (.ior, 1) := by decide +kernel
theorem dX5_add_27 : decode cX5_add 27 = .ok (.iastore, 1) := by decide +kernel
theorem dX5_add_28 : decode cX5_add 28 = .ok (.aload_n 0, 1) := by decide +kernel
theorem dX5_add_29 : decode cX5_add 29 = .ok (.dup, 1) := by decide +kernel
theorem dX5_add_30 : decode cX5_add 30 = .ok (.getfield 13, 3) := by decide +kernel
theorem dX5_add_33 : decode cX5_add 33 = .ok (.iconst 1, 1) := by decide +kernel
theorem dX5_add_34 : decode cX5_add 34 = .ok (.iadd, 1) := by decide +kernel
theorem dX5_add_35 : decode cX5_add 35 = .ok (.putfield 13, 3) := by decide +kernel
theorem dX5_add_38 : decode cX5_add 38 = .ok (.return_, 1) := by decide +kernel
theorem dX5_removeLast_0 : decode cX5_removeLast 0 = .ok (.aload_n 0, 1) := by decide +kernel
theorem dX5_removeLast_1 : decode cX5_removeLast 1 = .ok (.iconst 0, 1) := by decide +kernel
theorem dX5_removeLast_2 : decode cX5_removeLast 2 = .ok (.aload_n 0, 1) := by decide +kernel
theorem dX5_removeLast_3 : decode cX5_removeLast 3 = .ok (.getfield 13, 3) := by decide +kernel
theorem dX5_removeLast_6 : decode cX5_removeLast 6 = .ok (.iconst 1, 1) := by decide +kernel
theorem dX5_removeLast_7 : decode cX5_removeLast 7 = .ok (.isub, 1) := by decide +kernel
theorem dX5_removeLast_8 : decode cX5_removeLast 8 = .ok (.invokestatic 17, 3) := by decide +kernel
theorem dX5_removeLast_11 : decode cX5_removeLast 11 = .ok (.putfield 13, 3) := by decide +kernel
theorem dX5_removeLast_14 : decode cX5_removeLast 14 = .ok (.return_, 1) := by decide +kernel
theorem dX5_remove_0 : decode cX5_remove 0 = .ok (.aload_n 0, 1) := by decide +kernel
theorem dX5_remove_1 : decode cX5_remove 1 = .ok (.iload_n 1, 1) := by decide +kernel
theorem dX5_remove_2 : decode cX5_remove 2 = .ok (.invokevirtual 23, 3) := by decide +kernel
theorem dX5_remove_5 : decode cX5_remove 5 = .ok (.ifCond .eq 36, 3) := by decide +kernel
theorem dX5_remove_8 : decode cX5_remove 8 = .ok (.aload_n 0, 1) := by decide +kernel
theorem dX5_remove_9 : decode cX5_remove 9 = .ok (.getfield 9, 3) := by decide +kernel
theorem dX5_remove_12 : decode cX5_remove 12 = .ok (.iload_n 1, 1) := by decide +kernel
theorem dX5_remove_13 : decode cX5_remove 13 = .ok (.iconst 1, 1) := by decide +kernel
theorem dX5_remove_14 : decode cX5_remove 14 = .ok (.iadd, 1) := by decide +kernel
theorem dX5_remove_15 : decode cX5_remove 15 = .ok (.aload_n 0, 1) := by decide +kernel
theorem dX5_remove_16 : decode cX5_remove 16 = .ok (.getfield 9, 3) := by decide +kernel
theorem dX5_remove_19 : decode cX5_remove 19 = .ok (.iload_n 1, 1) := by decide +kernel
theorem dX5_remove_20 : decode cX5_remove 20 = .ok (.aload_n 0, 1) := by decide +kernel
theorem dX5_remove_21 : decode cX5_remove 21 = .ok (.getfield 13, 3) := by decide +kernel
theorem dX5_remove_24 : decode cX5_remove 24 = .ok (.iload_n 1, 1) := by decide +kernel
theorem dX5_remove_25 : decode cX5_remove 25 = .ok (.isub, 1) := by decide +kernel
theorem dX5_remove_26 : decode cX5_remove 26 = .ok (.iconst 1, 1) := by decide +kernel
theorem dX5_remove_27 : decode cX5_remove 27 = .ok (.isub, 1) := by decide +kernel
theorem dX5_remove_28 : decode cX5_remove 28 = .ok (.invokestatic 27, 3) := by decide +kernel
theorem dX5_remove_31 : decode cX5_remove 31 = .ok (.aload_n 0, 1) := by decide +kernel
theorem dX5_remove_32 : decode cX5_remove 32 = .ok (.dup, 1) := by decide +kernel
theorem dX5_remove_33 : decode cX5_remove 33 = .ok (.getfield 13, 3) := by decide +kernel
theorem dX5_remove_36 : decode cX5_remove 36 = .ok (.iconst 1, 1) := by decide +kernel
theorem dX5_remove_37 : decode cX5_remove 37 = .ok (.isub, 1) := by decide +kernel
theorem dX5_remove_38 : decode cX5_remove 38 = .ok (.putfield 13, 3) := by decide +kernel
theorem dX5_remove_41 : decode cX5_remove 41 = .ok (.return_, 1) := by decide +kernel
theorem dX5_begin_0 : decode cX5_begin 0 = .ok (.aload_n 0, 1) := by decide +kernel
theorem dX5_begin_1 : decode cX5_begin 1 = .ok (.iload_n 1, 1) := by decide +kernel
theorem dX5_begin_2 : decode cX5_begin 2 = .ok (.invokevirtual 23, 3) := by decide +kernel
theorem dX5_begin_5 : decode cX5_begin 5 = .ok (.ifCond .eq 23, 3) := by decide +kernel
theorem dX5_begin_8 : decode cX5_begin 8 = .ok (.aload_n 0, 1) := by decide +kernel
theorem dX5_begin_9 : decode cX5_begin 9 = .ok (.getfield 9, 3) := by decide +kernel
theorem dX5_begin_12 : decode cX5_begin 12 = .ok (.iload_n 1, 1) := by decide +kernel
theorem dX5_begin_13 : decode cX5_begin 13 = .ok (.aload_n 0, 1) := by decide +kernel
theorem dX5_begin_14 : decode cX5_begin 14 = .ok (.getfield 9, 3) := by decide +kernel
theorem dX5_begin_17 : decode cX5_begin 17 = .ok (.iload_n 1, 1) := by decide +kernel
theorem dX5_begin_18 : decode cX5_begin 18 = .ok (.iaload, 1) := by decide +kernel
theorem dX5_begin_19 : decode cX5_begin 19 = .ok (.bipush 63, 2) := by decide +kernel
theorem dX5_begin_21 : decode cX5_begin 21 = .ok (.iand, 1) := by decide +kernel
theorem dX5_begin_22 : decode cX5_begin 22 = .ok (.iload_n 2, 1) := by decide +kernel
theorem dX5_begin_23 : decode cX5_begin 23 = .ok (.bipush 6, 2) := by decide +kernel
theorem dX5_begin_25 : decode cX5_begin 25 = .ok (.ishl, 1) := by decide +kernel
theorem dX5_begin_26 : decode cX5_begin 26 = .ok (.ior, 1) := by decide +kernel
theorem dX5_begin_27 : decode cX5_begin 27 = .ok (.iastore, 1) := by decide +kernel
theorem dX5_begin_28 : decode cX5_begin 28 = .ok (.return_, 1) := by decide +kernel
theorem dX5_copy_0 : decode cX5_copy 0 = .ok (.aload_n 1, 1) := by decide +kernel
theorem dX5_copy_1 : decode cX5_copy 1 = .ok (.getfield 9, 3) := by decide +kernel
theorem dX5_copy_4 : decode cX5_copy 4 = .ok (.iconst 0, 1) := by decide +kernel
theorem dX5_copy_5 : decode cX5_copy 5 = .ok (.aload_n 0, 1) := by decide +kernel
theorem dX5_copy_6 : decode cX5_copy 6 = .ok (.getfield 9, 3) := by decide +kernel
theorem dX5_copy_9 : decode cX5_copy 9 = .ok (.iconst 0, 1) := by decide +kernel
theorem dX5_copy_10 : decode cX5_copy 10 = .ok (.aload_n 1, 1) := by decide +kernel
theorem dX5_copy_11 : decode cX5_copy 11 = .ok (.getfield 13, 3) := by decide +kernel
theorem dX5_copy_14 : decode cX5_copy 14 = .ok (.invokestatic 27, 3) := by decide +kernel
theorem dX5_copy_17 : decode cX5_copy 17 = .ok (.aload_n 0, 1) := by decide +kernel
theorem dX5_copy_18 : decode cX5_copy 18 = .ok (.aload_n 1, 1) := by decide +kernel
theorem dX5_copy_19 : decode cX5_copy 19 = .ok (.getfield 13, 3) := by decide +kernel
theorem dX5_copy_22 : decode cX5_copy 22 = .ok (.putfield 13, 3) := by decide +kernel
theorem dX5_copy_25 : decode cX5_copy 25 = .ok (.return_, 1) := by decide +kernel
theorem dX5_copyWithout_0 : decode cX5_copyWithout 0 = .ok (.aload_n 0, 1) := by decide +kernel
theorem dX5_copyWithout_1 : decode cX5_copyWithout 1 = .ok (.iconst 0, 1) := by decide +kernel
theorem dX5_copyWithout_2 : decode cX5_copyWithout 2 = .ok (.putfield 13, 3) := by decide +kernel
theorem dX5_copyWithout_5 : decode cX5_copyWithout 5 = .ok (.iconst 0, 1) := by decide +kernel
theorem dX5_copyWithout_6 : decode cX5_copyWithout 6 = .ok (.istore_n 3, 1) := by decide +kernel
theorem dX5_copyWithout_7 : decode cX5_copyWithout 7 = .ok (.iload_n 3, 1) := by decide +kernel
theorem dX5_copyWithout_8 : decode cX5_copyWithout 8 = .ok (.aload_n 1, 1) := by decide +kernel
theorem dX5_copyWithout_9 : decode cX5_copyWithout 9 = .ok (.getfield 13, 3) := by decide +kernel
theorem dX5_copyWithout_12 : decode cX5_copyWithout 12 = .ok (.if_icmp .ge 42, 3) := by decide +kernel
theorem dX5_copyWithout_15 : decode cX5_copyWithout 15 = .ok (.iload_n 2, 1) := by decide +kernel
theorem dX5_copyWithout_16 : decode cX5_copyWithout 16 = .ok (.iload_n 3, 1) := by decide +kernel
theorem dX5_copyWithout_17 : decode cX5_copyWithout 17 = .ok (.ishr, 1) := by decide +kernel
theorem dX5_copyWithout_18 : decode cX5_copyWithout 18 = .ok (.iconst 1, 1) := by decide +kernel
theorem dX5_copyWithout_19 : decode cX5_copyWithout 19 = .ok (.iand, 1) := by decide +kernel
theorem dX5_copyWithout_20 : decode cX5_copyWithout 20 = .ok (.ifCond .ne 28, 3) := by decide +kernel
theorem dX5_copyWithout_23 : decode cX5_copyWithout 23 = .ok (.aload_n 0, 1) := by decide +kernel
theorem dX5_copyWithout_24 : decode cX5_copyWithout 24 = .ok (.getfield 9, 3) := by decide +kernel
theorem dX5_copyWithout_27 : decode cX5_copyWithout 27 = .ok (.aload_n 0, 1) := by decide +kernel
theorem dX5_copyWithout_28 : decode cX5_copyWithout 28 = .ok (.getfield 13, 3) := by decide +kernel
theorem dX5_copyWithout_31 : decode cX5_copyWithout 31 = .ok (.aload_n 1, 1) := by decide +kernel
theorem dX5_copyWithout_32 : decode cX5_copyWithout 32 = .ok (.getfield 9, 3) := by decide +kernel
theorem dX5_copyWithout_35 : decode cX5_copyWithout 35 = .ok (.iload_n 3, 1) := by decide +kernel
theorem dX5_copyWithout_36 : decode cX5_copyWithout 36 = .ok (.iaload, 1) := by decide +kernel
theorem dX5_copyWithout_37 : decode cX5_copyWithout 37 = .ok (.iastore, 1) := by decide +kernel
theorem dX5_copyWithout_38 : decode cX5_copyWithout 38 = .ok (.aload_n 0, 1) := by decide +kernel
theorem dX5_copyWithout_39 : decode cX5_copyWithout 39 = .ok (.dup, 1) := by decide +kernel
theorem dX5_copyWithout_40 : decode cX5_copyWithout 40 = .ok (.getfield 13, 3) := by decide +kernel
theorem dX5_copyWithout_43 : decode cX5_copyWithout 43 = .ok (.iconst 1, 1) := by decide +kernel
theorem dX5_copyWithout_44 : decode cX5_copyWithout 44 = .ok (.iadd, 1) := by decide +kernel
theorem dX5_copyWithout_45 : decode cX5_copyWithout 45 = .ok (.putfield 13, 3) := by decide +kernel
theorem dX5_copyWithout_48 : decode cX5_copyWithout 48 = .ok (.iinc 3 1, 3) := by decide +kernel
theorem dX5_copyWithout_51 : decode cX5_copyWithout 51 = .ok (.goto (-44), 3) := by decide +kernel
theorem dX5_copyWithout_54 : decode cX5_copyWithout 54 = .ok (.return_, 1) := by decide +kernel
theorem dX5_goTogether_0 : decode cX5_goTogether 0 = .ok (.aload_n 0, 1) := by decide +kernel
theorem dX5_goTogether_1 : decode cX5_goTogether 1 = .ok (.iload_n 1, 1) := by decide +kernel
theorem dX5_goTogether_2 : decode cX5_goTogether 2 = .ok (.invokevirtual 23, 3) := by decide +kernel
theorem dX5_goTogether_5 : decode cX5_goTogether 5 = .ok (.ifCond .eq 23, 3) := by decide +kernel
theorem dX5_goTogether_8 : decode cX5_goTogether 8 = .ok (.aload_n 0, 1) := by decide +kernel
theorem dX5_goTogether_9 : decode cX5_goTogether 9 = .ok (.getfield 9, 3) := by decide +kernel
theorem dX5_goTogether_12 : decode cX5_goTogether 12 = .ok (.iload_n 1, 1) := by decide +kernel
theorem dX5_goTogether_13 : decode cX5_goTogether 13 = .ok (.iaload, 1) := by decide +kernel
theorem dX5_goTogether_14 : decode cX5_goTogether 14 = .ok (.iconst 3, 1) := by decide +kernel
theorem dX5_goTogether_15 : decode cX5_goTogether 15 = .ok (.ishr, 1) := by decide +kernel
theorem dX5_goTogether_16 : decode cX5_goTogether 16 = .ok (.iload_n 2, 1) := by decide +kernel
theorem dX5_goTogether_17 : decode cX5_goTogether 17 = .ok (.iload_n 3, 1) := by decide +kernel
theorem dX5_goTogether_18 : decode cX5_goTogether 18 = .ok (.iconst 3, 1) := by decide +kernel
theorem dX5_goTogether_19 : decode cX5_goTogether 19 = .ok (.ishl, 1) := by decide +kernel
theorem dX5_goTogether_20 : decode cX5_goTogether 20 = .ok (.ior, 1) := by decide +kernel
theorem dX5_goTogether_21 : decode cX5_goTogether 21 = .ok (.if_icmp .ne 7, 3) := by decide +kernel
theorem dX5_goTogether_24 : decode cX5_goTogether 24 = .ok (.iconst 1, 1) := by decide +kernel
theorem dX5_goTogether_25 : decode cX5_goTogether 25 = .ok (.goto 4, 3) := by decide +kernel
theorem dX5_goTogether_28 : decode cX5_goTogether 28 = .ok (.iconst 0, 1) := by decide +kernel
theorem dX5_goTogether_29 : decode cX5_goTogether 29 = .ok (.ireturn, 1) := by decide +kernel
theorem dX5_ofPerson_0 : decode cX5_ofPerson 0 = .ok (.iconst 0, 1) := by decide +kernel
theorem dX5_ofPerson_1 : decode cX5_ofPerson 1 = .ok (.istore_n 2, 1) := by decide +kernel
theorem dX5_ofPerson_2 : decode cX5_ofPerson 2 = .ok (.iconst 0, 1) := by decide +kernel
theorem dX5_ofPerson_3 : decode cX5_ofPerson 3 = .ok (.istore_n 3, 1) := by decide +kernel
theorem dX5_ofPerson_4 : decode cX5_ofPerson 4 = .ok (.iload_n 3, 1) := by decide +kernel
theorem dX5_ofPerson_5 : decode cX5_ofPerson 5 = .ok (.aload_n 0, 1) := by decide +kernel
theorem dX5_ofPerson_6 : decode cX5_ofPerson 6 = .ok (.getfield 13, 3) := by decide +kernel
theorem dX5_ofPerson_9 : decode cX5_ofPerson 9 = .ok (.if_icmp .ge 26, 3) := by decide +kernel
theorem dX5_ofPerson_12 : decode cX5_ofPerson 12 = .ok (.iload_n 2, 1) := by decide +kernel
theorem dX5_ofPerson_13 : decode cX5_ofPerson 13 = .ok (.aload_n 0, 1) := by decide +kernel
theorem dX5_ofPerson_14 : decode cX5_ofPerson 14 = .ok (.iload_n 3, 1) := by decide +kernel
theorem dX5_ofPerson_15 : decode cX5_ofPerson 15 = .ok (.invokevirtual 33, 3) := by decide +kernel
theorem dX5_ofPerson_18 : decode cX5_ofPerson 18 = .ok (.iload_n 1, 1) := by decide +kernel
theorem dX5_ofPerson_19 : decode cX5_ofPerson 19 = .ok (.if_icmp .ne 7, 3) := by decide +kernel
theorem dX5_ofPerson_22 : decode cX5_ofPerson 22 = .ok (.iconst 1, 1) := by decide +kernel
theorem dX5_ofPerson_23 : decode cX5_ofPerson 23 = .ok (.goto 4, 3) := by decide +kernel
theorem dX5_ofPerson_26 : decode cX5_ofPerson 26 = .ok (.iconst 0, 1) := by decide +kernel
theorem dX5_ofPerson_27 : decode cX5_ofPerson 27 = .ok (.iadd, 1) := by decide +kernel
theorem dX5_ofPerson_28 : decode cX5_ofPerson 28 = .ok (.istore_n 2, 1) := by decide +kernel
theorem dX5_ofPerson_29 : decode cX5_ofPerson 29 = .ok (.iinc 3 1, 3) := by decide +kernel
theorem dX5_ofPerson_32 : decode cX5_ofPerson 32 = .ok (.goto (-28), 3) := by decide +kernel
theorem dX5_ofPerson_35 : decode cX5_ofPerson 35 = .ok (.iload_n 2, 1) := by decide +kernel
theorem dX5_ofPerson_36 : decode cX5_ofPerson 36 = .ok (.ireturn, 1) := by decide +kernel
theorem dX5_ofErrand_0 : decode cX5_ofErrand 0 = .ok (.iconst 0, 1) := by decide +kernel
theorem dX5_ofErrand_1 : decode cX5_ofErrand 1 = .ok (.istore_n 2, 1) := by decide +kernel
theorem dX5_ofErrand_2 : decode cX5_ofErrand 2 = .ok (.iconst 0, 1) := by decide +kernel
theorem dX5_ofErrand_3 : decode cX5_ofErrand 3 = .ok (.istore_n 3, 1) := by decide +kernel
theorem dX5_ofErrand_4 : decode cX5_ofErrand 4 = .ok (.iload_n 3, 1) := by decide +kernel
theorem dX5_ofErrand_5 : decode cX5_ofErrand 5 = .ok (.aload_n 0, 1) := by decide +kernel
theorem dX5_ofErrand_6 : decode cX5_ofErrand 6 = .ok (.getfield 13, 3) := by decide +kernel
theorem dX5_ofErrand_9 : decode cX5_ofErrand 9 = .ok (.if_icmp .ge 26, 3) := by decide +kernel
theorem dX5_ofErrand_12 : decode cX5_ofErrand 12 = .ok (.iload_n 2, 1) := by decide +kernel
theorem dX5_ofErrand_13 : decode cX5_ofErrand 13 = .ok (.aload_n 0, 1) := by decide +kernel
theorem dX5_ofErrand_14 : decode cX5_ofErrand 14 = .ok (.iload_n 3, 1) := by decide +kernel
theorem dX5_ofErrand_15 : decode cX5_ofErrand 15 = .ok (.invokevirtual 37, 3) := by decide +kernel
theorem dX5_ofErrand_18 : decode cX5_ofErrand 18 = .ok (.iload_n 1, 1) := by decide +kernel
theorem dX5_ofErrand_19 : decode cX5_ofErrand 19 = .ok (.if_icmp .ne 7, 3) := by decide +kernel
theorem dX5_ofErrand_22 : decode cX5_ofErrand 22 = .ok (.iconst 1, 1) := by decide +kernel
theorem dX5_ofErrand_23 : decode cX5_ofErrand 23 = .ok (.goto 4, 3) := by decide +kernel
theorem dX5_ofErrand_26 : decode cX5_ofErrand 26 = .ok (.iconst 0, 1) := by decide +kernel
theorem dX5_ofErrand_27 : decode cX5_ofErrand 27 = .ok (.iadd, 1) := by decide +kernel
theorem dX5_ofErrand_28 : decode cX5_ofErrand 28 = .ok (.istore_n 2, 1) := by decide +kernel
theorem dX5_ofErrand_29 : decode cX5_ofErrand 29 = .ok (.iinc 3 1, 3) := by decide +kernel
theorem dX5_ofErrand_32 : decode cX5_ofErrand 32 = .ok (.goto (-28), 3) := by decide +kernel
theorem dX5_ofErrand_35 : decode cX5_ofErrand 35 = .ok (.iload_n 2, 1) := by decide +kernel
theorem dX5_ofErrand_36 : decode cX5_ofErrand 36 = .ok (.ireturn, 1) := by decide +kernel
theorem dX6_init_0 : decode cX6_init 0 = .ok (.aload_n 0, 1) := by decide +kernel
theorem dX6_init_1 : decode cX6_init 1 = .ok (.invokespecial 1, 3) := by decide +kernel
theorem dX6_init_4 : decode cX6_init 4 = .ok (.aload_n 0, 1) := by decide +kernel
theorem dX6_init_5 : decode cX6_init 5 = .ok (.bipush 8, 2) := by decide +kernel
theorem dX6_init_7 : decode cX6_init 7 = .ok (.newarray .long, 2) := by decide +kernel
theorem dX6_init_9 : decode cX6_init 9 = .ok (.putfield 9, 3) := by decide +kernel
theorem dX6_init_12 : decode cX6_init 12 = .ok (.return_, 1) := by decide +kernel
theorem dX6_clear_0 : decode cX6_clear 0 = .ok (.aload_n 0, 1) := by decide +kernel
theorem dX6_clear_1 : decode cX6_clear 1 = .ok (.iconst 0, 1) := by decide +kernel
theorem dX6_clear_2 : decode cX6_clear 2 = .ok (.putfield 13, 3) := by decide +kernel
theorem dX6_clear_5 : decode cX6_clear 5 = .ok (.return_, 1) := by decide +kernel
theorem dX6_add_0 : decode cX6_add 0 = .ok (.aload_n 0, 1) := by decide +kernel
theorem dX6_add_1 : decode cX6_add 1 = .ok (.getfield 13, 3) := by decide +kernel
theorem dX6_add_4 : decode cX6_add 4 = .ok (.bipush 8, 2) := by decide +kernel
theorem dX6_add_6 : decode cX6_add 6 = .ok (.if_icmp .ge 23, 3) := by decide +kernel
theorem dX6_add_9 : decode cX6_add 9 = .ok (.aload_n 0, 1) := by decide +kernel
theorem dX6_add_10 : decode cX6_add 10 = .ok (.getfield 9, 3) := by decide +kernel
theorem dX6_add_13 : decode cX6_add 13 = .ok (.aload_n 0, 1) := by decide +kernel
theorem dX6_add_14 : decode cX6_add 14 = .ok (.getfield 13, 3) := by decide +kernel
theorem dX6_add_17 : decode cX6_add 17 = .ok (.lload_n 1, 1) := by decide +kernel
theorem dX6_add_18 : decode cX6_add 18 = .ok (.lastore, 1) := by decide +kernel
theorem dX6_add_19 : decode cX6_add 19 = .ok (.aload_n 0, 1) := by decide +kernel
theorem dX6_add_20 : decode cX6_add 20 = .ok (.dup, 1) := by decide +kernel
theorem dX6_add_21 : decode cX6_add 21 = .ok (.getfield 13, 3) := by decide +kernel
theorem dX6_add_24 : decode cX6_add 24 = .ok (.iconst 1, 1) := by decide +kernel
theorem dX6_add_25 : decode cX6_add 25 = .ok (.iadd, 1) := by decide +kernel
theorem dX6_add_26 : decode cX6_add 26 = .ok (.putfield 13, 3) := by decide +kernel
theorem dX6_add_29 : decode cX6_add 29 = .ok (.return_, 1) := by decide +kernel
theorem dX6_one_0 : decode cX6_one 0 = .ok (.aload_n 0, 1) := by decide +kernel
theorem dX6_one_1 : decode cX6_one 1 = .ok (.invokevirtual 17, 3) := by decide +kernel
theorem dX6_one_4 : decode cX6_one 4 = .ok (.aload_n 0, 1) := by decide +kernel
theorem dX6_one_5 : decode cX6_one 5 = .ok (.lload_n 1, 1) := by decide +kernel
theorem dX6_one_6 : decode cX6_one 6 = .ok (.invokevirtual 20, 3) := by decide +kernel
theorem dX6_one_9 : decode cX6_one 9 = .ok (.return_, 1) := by decide +kernel
theorem dX6_two_0 : decode cX6_two 0 = .ok (.aload_n 0, 1) := by decide +kernel
theorem dX6_two_1 : decode cX6_two 1 = .ok (.lload_n 1, 1) := by decide +kernel
theorem dX6_two_2 : decode cX6_two 2 = .ok (.invokevirtual 24, 3) := by decide +kernel
theorem dX6_two_5 : decode cX6_two 5 = .ok (.aload_n 0, 1) := by decide +kernel
theorem dX6_two_6 : decode cX6_two 6 = .ok (.lload_n 3, 1) := by decide +kernel
theorem dX6_two_7 : decode cX6_two 7 = .ok (.invokevirtual 20, 3) := by decide +kernel
theorem dX6_two_10 : decode cX6_two 10 = .ok (.return_, 1) := by decide +kernel
theorem dX6_three_0 : decode cX6_three 0 = .ok (.aload_n 0, 1) := by decide +kernel
theorem dX6_three_1 : decode cX6_three 1 = .ok (.lload_n 1, 1) := by decide +kernel
theorem dX6_three_2 : decode cX6_three 2 = .ok (.lload_n 3, 1) := by decide +kernel
theorem dX6_three_3 : decode cX6_three 3 = .ok (.invokevirtual 27, 3) := by decide +kernel
theorem dX6_three_6 : decode cX6_three 6 = .ok (.aload_n 0, 1) := by decide +kernel
theorem dX6_three_7 : decode cX6_three 7 = .ok (.lload 5, 2) := by decide +kernel
theorem dX6_three_9 : decode cX6_three 9 = .ok (.invokevirtual 20, 3) := by decide +kernel
theorem dX6_three_12 : decode cX6_three 12 = .ok (.return_, 1) := by decide +kernel
theorem dX7_init_0 : decode cX7_init 0 = .ok (.aload_n 0, 1) := by decide +kernel
theorem dX7_init_1 : decode cX7_init 1 = .ok (.invokespecial 3, 3) := by decide +kernel
theorem dX7_init_4 : decode cX7_init 4 = .ok (.aload_n 0, 1) := by decide +kernel
theorem dX7_init_5 : decode cX7_init 5 = .ok (.bipush 40, 2) := by decide +kernel
theorem dX7_init_7 : decode cX7_init 7 = .ok (.newarray .int, 2) := by decide +kernel
theorem dX7_init_9 : decode cX7_init 9 = .ok (.putfield 11, 3) := by decide +kernel
theorem dX7_init_12 : decode cX7_init 12 = .ok (.aload_n 0, 1) := by decide +kernel
theorem dX7_init_13 : decode cX7_init 13 = .ok (.bipush 40, 2) := by decide +kernel
theorem dX7_init_15 : decode cX7_init 15 = .ok (.newarray .int, 2) := by decide +kernel
theorem dX7_init_17 : decode cX7_init 17 = .ok (.putfield 15, 3) := by decide +kernel
theorem dX7_init_20 : decode cX7_init 20 = .ok (.aload_n 0, 1) := by decide +kernel
theorem dX7_init_21 : decode cX7_init 21 = .ok (.bipush 41, 2) := by decide +kernel
theorem dX7_init_23 : decode cX7_init 23 = .ok (.newarray .int, 2) := by decide +kernel
theorem dX7_init_25 : decode cX7_init 25 = .ok (.putfield 18, 3) := by decide +kernel
theorem dX7_init_28 : decode cX7_init 28 = .ok (.aload_n 0, 1) := by decide +kernel
theorem dX7_init_29 : decode cX7_init 29 = .ok (.bipush 8, 2) := by decide +kernel
theorem dX7_init_31 : decode cX7_init 31 = .ok (.newarray .int, 2) := by decide +kernel
theorem dX7_init_33 : decode cX7_init 33 = .ok (.putfield 21, 3) := by decide +kernel
theorem dX7_init_36 : decode cX7_init 36 = .ok (.aload_n 0, 1) := by decide +kernel
theorem dX7_init_37 : decode cX7_init 37 = .ok (.aload_n 1, 1) := by decide +kernel
theorem dX7_init_38 : decode cX7_init 38 = .ok (.putfield 24, 3) := by decide +kernel
theorem dX7_init_41 : decode cX7_init 41 = .ok (.aload_n 0, 1) := by decide +kernel
theorem dX7_init_42 : decode cX7_init 42 = .ok (.aload_n 2, 1) := by decide +kernel
theorem dX7_init_43 : decode cX7_init 43 = .ok (.putfield 28, 3) := by decide +kernel
theorem dX7_init_46 : decode cX7_init 46 = .ok (.return_, 1) := by decide +kernel
theorem dX7_read_0 : decode cX7_read 0 = .ok (.aload_n 1, 1) := by decide +kernel
theorem dX7_read_1 : decode cX7_read 1 = .ok (.bipush 40, 2) := by decide +kernel
theorem dX7_read_3 : decode cX7_read 3 = .ok (.invokevirtual 32, 3) := by decide +kernel
theorem dX7_read_6 : decode cX7_read 6 = .ok (.aload_n 0, 1) := by decide +kernel
theorem dX7_read_7 : decode cX7_read 7 = .ok (.iconst 0, 1) := by decide +kernel
theorem dX7_read_8 : decode cX7_read 8 = .ok (.putfield 38, 3) := by decide +kernel
theorem dX7_read_11 : decode cX7_read 11 = .ok (.aload_n 1, 1) := by decide +kernel
theorem dX7_read_12 : decode cX7_read 12 = .ok (.invokevirtual 42, 3) := by decide +kernel
theorem dX7_read_15 : decode cX7_read 15 = .ok (.ifCond .ne 31, 3) := by decide +kernel
theorem dX7_read_18 : decode cX7_read 18 = .ok (.aload_n 0, 1) := by decide +kernel
theorem dX7_read_19 : decode cX7_read 19 = .ok (.aload_n 1, 1) := by decide +kernel
theorem dX7_read_20 : decode cX7_read 20 = .ok (.iconst 0, 1) := by decide +kernel
theorem dX7_read_21 : decode cX7_read 21 = .ok (.invokevirtual 46, 3) := by decide +kernel
theorem dX7_read_24 : decode cX7_read 24 = .ok (.ifCond .eq 17, 3) := by decide +kernel
theorem dX7_read_27 : decode cX7_read 27 = .ok (.aload_n 1, 1) := by decide +kernel
theorem dX7_read_28 : decode cX7_read 28 = .ok (.invokevirtual 50, 3) := by decide +kernel
theorem dX7_read_31 : decode cX7_read 31 = .ok (.ifCond .eq 10, 3) := by decide +kernel
theorem dX7_read_34 : decode cX7_read 34 = .ok (.aload_n 1, 1) := by decide +kernel
theorem dX7_read_35 : decode cX7_read 35 = .ok (.invokevirtual 53, 3) := by decide +kernel
theorem dX7_read_38 : decode cX7_read 38 = .ok (.ifCond .eq 8, 3) := by decide +kernel
theorem dX7_read_41 : decode cX7_read 41 = .ok (.aload_n 1, 1) := by decide +kernel
theorem dX7_read_42 : decode cX7_read 42 = .ok (.invokevirtual 56, 3) := by decide +kernel
theorem dX7_read_45 : decode cX7_read 45 = .ok (.ireturn, 1) := by decide +kernel
theorem dX7_read_46 : decode cX7_read 46 = .ok (.aload_n 0, 1) := by decide +kernel
theorem dX7_read_47 : decode cX7_read 47 = .ok (.getfield 15, 3) := by decide +kernel
theorem dX7_read_50 : decode cX7_read 50 = .ok (.iconst 0, 1) := by decide +kernel
theorem dX7_read_51 : decode cX7_read 51 = .ok (.aload_n 0, 1) := by decide +kernel
theorem dX7_read_52 : decode cX7_read 52 = .ok (.getfield 11, 3) := by decide +kernel
theorem dX7_read_55 : decode cX7_read 55 = .ok (.iconst 0, 1) := by decide +kernel
theorem dX7_read_56 : decode cX7_read 56 = .ok (.aload_n 0, 1) := by decide +kernel
theorem dX7_read_57 : decode cX7_read 57 = .ok (.getfield 38, 3) := by decide +kernel
theorem dX7_read_60 : decode cX7_read 60 = .ok (.invokestatic 60, 3) := by decide +kernel
theorem dX7_read_63 : decode cX7_read 63 = .ok (.aload_n 0, 1) := by decide +kernel
theorem dX7_read_64 : decode cX7_read 64 = .ok (.aload_n 0, 1) := by decide +kernel
theorem dX7_read_65 : decode cX7_read 65 = .ok (.getfield 38, 3) := by decide +kernel
theorem dX7_read_68 : decode cX7_read 68 = .ok (.putfield 66, 3) := by decide +kernel
theorem dX7_read_71 : decode cX7_read 71 = .ok (.iconst 0, 1) := by decide +kernel
theorem dX7_read_72 : decode cX7_read 72 = .ok (.ireturn, 1) := by decide +kernel
theorem dX7_emit_0 : decode cX7_emit 0 = .ok (.aload_n 0, 1) := by decide +kernel
theorem dX7_emit_1 : decode cX7_emit 1 = .ok (.getfield 38, 3) := by decide +kernel
theorem dX7_emit_4 : decode cX7_emit 4 = .ok (.bipush 40, 2) := by decide +kernel
theorem dX7_emit_6 : decode cX7_emit 6 = .ok (.if_icmp .ge 23, 3) := by decide +kernel
theorem dX7_emit_9 : decode cX7_emit 9 = .ok (.aload_n 0, 1) := by decide +kernel
theorem dX7_emit_10 : decode cX7_emit 10 = .ok (.getfield 15, 3) := by decide +kernel
theorem dX7_emit_13 : decode cX7_emit 13 = .ok (.aload_n 0, 1) := by decide +kernel
theorem dX7_emit_14 : decode cX7_emit 14 = .ok (.getfield 38, 3) := by decide +kernel
theorem dX7_emit_17 : decode cX7_emit 17 = .ok (.iload_n 1, 1) := by decide +kernel
theorem dX7_emit_18 : decode cX7_emit 18 = .ok (.iastore, 1) := by decide +kernel
theorem dX7_emit_19 : decode cX7_emit 19 = .ok (.aload_n 0, 1) := by decide +kernel
theorem dX7_emit_20 : decode cX7_emit 20 = .ok (.dup, 1) := by decide +kernel
theorem dX7_emit_21 : decode cX7_emit 21 = .ok (.getfield 38, 3) := by decide +kernel
theorem dX7_emit_24 : decode cX7_emit 24 = .ok (.iconst 1, 1) := by decide +kernel
theorem dX7_emit_25 : decode cX7_emit 25 = .ok (.iadd, 1) := by decide +kernel
theorem dX7_emit_26 : decode cX7_emit 26 = .ok (.putfield 38, 3) := by decide +kernel
theorem dX7_emit_29 : decode cX7_emit 29 = .ok (.return_, 1) := by decide +kernel
theorem dX7_operator_0 : decode cX7_operator 0 = .ok (.bipush (-100), 2) := by decide +kernel
theorem dX7_operator_2 : decode cX7_operator 2 = .ok (.iload_n 0, 1) := by decide +kernel
theorem dX7_operator_3 : decode cX7_operator 3 = .ok (.isub, 1) := by decide +kernel
theorem dX7_operator_4 : decode cX7_operator 4 = .ok (.ireturn, 1) := by decide +kernel
theorem dX7_readComparison_0 : decode cX7_readComparison 0 = .ok (.aload_n 0, 1) := by decide +kernel
theorem dX7_readComparison_1 : decode cX7_readComparison 1 = .ok (.aload_n 1, 1) := by decide +kernel
theorem dX7_readComparison_2 : decode cX7_readComparison 2 = .ok (.iload_n 2, 1) := by decide +kernel
theorem dX7_readComparison_3 : decode cX7_readComparison 3 = .ok (.invokevirtual 69, 3) := by decide +kernel
theorem dX7_readComparison_6 : decode cX7_readComparison 6 = .ok (.ifCond .ne 5, 3) := by decide +kernel
theorem dX7_readComparison_9 : decode cX7_readComparison 9 = .ok (.iconst 0, 1) := by decide +kernel
theorem dX7_readComparison_10 : decode cX7_readComparison 10 = .ok (.ireturn, 1) := by decide +kernel
theorem dX7_readComparison_11 : decode cX7_readComparison 11 = .ok (.aload_n 1, 1) := by decide +kernel
theorem dX7_readComparison_12 : decode cX7_readComparison 12 = .ok (.invokevirtual 72, 3) := by decide +kernel
theorem dX7_readComparison_15 : decode cX7_readComparison 15 = .ok (.istore_n 3, 1) := by decide +kernel
theorem dX7_readComparison_16 : decode cX7_readComparison 16 = .ok (.iload_n 3, 1) := by decide +kernel
theorem dX7_readComparison_17 : decode cX7_readComparison 17 = .ok (.bipush 60, 2) := by decide +kernel
theorem dX7_readComparison_19 : decode cX7_readComparison 19 = .ok (.if_icmp .eq 17, 3) := by decide +kernel
theorem dX7_readComparison_22 : decode cX7_readComparison 22 = .ok (.iload_n 3, 1) := by decide +kernel
theorem dX7_readComparison_23 : decode cX7_readComparison 23 = .ok (.bipush 62, 2) := by decide +kernel
theorem dX7_readComparison_25 : decode cX7_readComparison 25 = .ok (.if_icmp .eq 11, 3) := by decide +kernel
theorem dX7_readComparison_28 : decode cX7_readComparison 28 = .ok (.iload_n 3, 1) := by decide +kernel
theorem dX7_readComparison_29 : decode cX7_readComparison 29 = .ok (.bipush 61, 2) := by decide +kernel
theorem dX7_readComparison_31 : decode cX7_readComparison 31 = .ok (.if_icmp .eq 5, 3) := by decide +kernel
theorem dX7_readComparison_34 : decode cX7_readComparison 34 = .ok (.iconst 1, 1) := by decide +kernel
theorem dX7_readComparison_35 : decode cX7_readComparison 35 = .ok (.ireturn, 1) := by decide +kernel
theorem dX7_readComparison_36 : decode cX7_readComparison 36 = .ok (.aload_n 1, 1) := by decide +kernel
theorem dX7_readComparison_37 : decode cX7_readComparison 37 = .ok (.invokevirtual 75, 3) := by decide +kernel
theorem dX7_readComparison_40 : decode cX7_readComparison 40 = .ok (.aload_n 0, 1) := by decide +kernel
theorem dX7_readComparison_41 : decode cX7_readComparison 41 = .ok (.aload_n 1, 1) := by decide +kernel
theorem dX7_readComparison_42 : decode cX7_readComparison 42 = .ok (.iload_n 2, 1) := by decide +kernel
theorem dX7_readComparison_43 : decode cX7_readComparison 43 = .ok (.invokevirtual 69, 3) := by decide +kernel
theorem dX7_readComparison_46 : decode cX7_readComparison 46 = .ok (.ifCond .ne 5, 3) := by decide +kernel
theorem dX7_readComparison_49 : decode cX7_readComparison 49 = .ok (.iconst 0, 1) := by decide +kernel
theorem dX7_readComparison_50 : decode cX7_readComparison 50 = .ok (.ireturn, 1) := by decide +kernel
theorem dX7_readComparison_51 : decode cX7_readComparison 51 = .ok (.aload_n 0, 1) := by decide +kernel
theorem dX7_readComparison_52 : decode cX7_readComparison 52 = .ok (.iload_n 3, 1) := by decide +kernel
theorem dX7_readComparison_53 : decode cX7_readComparison 53 = .ok (.invokestatic 78, 3) := by decide +kernel
theorem dX7_readComparison_56 : decode cX7_readComparison 56 = .ok (.invokevirtual 82, 3) := by decide +kernel
theorem dX7_readComparison_59 : decode cX7_readComparison 59 = .ok (.iconst 1, 1) := by decide +kernel
theorem dX7_readComparison_60 : decode cX7_readComparison 60 = .ok (.ireturn, 1) := by decide +kernel
theorem dX7_readSum_0 : decode cX7_readSum 0 = .ok (.aload_n 0, 1) := by decide +kernel
theorem dX7_readSum_1 : decode cX7_readSum 1 = .ok (.aload_n 1, 1) := by decide +kernel
theorem dX7_readSum_2 : decode cX7_readSum 2 = .ok (.iload_n 2, 1) := by decide +kernel
theorem dX7_readSum_3 : decode cX7_readSum 3 = .ok (.invokevirtual 85, 3) := by decide +kernel
theorem dX7_readSum_6 : decode cX7_readSum 6 = .ok (.ifCond .ne 5, 3) := by decide +kernel
theorem dX7_readSum_9 : decode cX7_readSum 9 = .ok (.iconst 0, 1) := by decide +kernel
theorem dX7_readSum_10 : decode cX7_readSum 10 = .ok (.ireturn, 1) := by decide +kernel
theorem dX7_readSum_11 : decode cX7_readSum 11 = .ok (.iconst 0, 1) := by decide +kernel
theorem dX7_readSum_12 : decode cX7_readSum 12 = .ok (.istore_n 3, 1) := by decide +kernel
theorem dX7_readSum_13 : decode cX7_readSum 13 = .ok (.iload_n 3, 1) := by decide +kernel
theorem dX7_readSum_14 : decode cX7_readSum 14 = .ok (.bipush 40, 2) := by decide +kernel
theorem dX7_readSum_16 : decode cX7_readSum 16 = .ok (.if_icmp .ge 55, 3) := by decide +kernel
theorem dX7_readSum_19 : decode cX7_readSum 19 = .ok (.aload_n 1, 1) := by decide +kernel
theorem dX7_readSum_20 : decode cX7_readSum 20 = .ok (.invokevirtual 72, 3) := by decide +kernel
theorem dX7_readSum_23 : decode cX7_readSum 23 = .ok (.istore 4, 2) := by decide +kernel
theorem dX7_readSum_25 : decode cX7_readSum 25 = .ok (.iload 4, 2) := by decide +kernel
theorem dX7_readSum_27 : decode cX7_readSum 27 = .ok (.bipush 43, 2) := by decide +kernel
theorem dX7_readSum_29 : decode cX7_readSum 29 = .ok (.if_icmp .eq 12, 3) := by decide +kernel
theorem dX7_readSum_32 : decode cX7_readSum 32 = .ok (.iload 4, 2) := by decide +kernel
theorem dX7_readSum_34 : decode cX7_readSum 34 = .ok (.bipush 45, 2) := by decide +kernel
theorem dX7_readSum_36 : decode cX7_readSum 36 = .ok (.if_icmp .eq 5, 3) := by decide +kernel
theorem dX7_readSum_39 : decode cX7_readSum 39 = .ok (.iconst 1, 1) := by decide +kernel
theorem dX7_readSum_40 : decode cX7_readSum 40 = .ok (.ireturn, 1) := by decide +kernel
theorem dX7_readSum_41 : decode cX7_readSum 41 = .ok (.aload_n 1, 1) := by decide +kernel
theorem dX7_readSum_42 : decode cX7_readSum 42 = .ok (.invokevirtual 75, 3) := by decide +kernel
theorem dX7_readSum_45 : decode cX7_readSum 45 = .ok (.aload_n 0, 1) := by decide +kernel
theorem dX7_readSum_46 : decode cX7_readSum 46 = .ok (.aload_n 1, 1) := by decide +kernel
theorem dX7_readSum_47 : decode cX7_readSum 47 = .ok (.iload_n 2, 1) := by decide +kernel
theorem dX7_readSum_48 : decode cX7_readSum 48 = .ok (.invokevirtual 85, 3) := by decide +kernel
theorem dX7_readSum_51 : decode cX7_readSum 51 = .ok (.ifCond .ne 5, 3) := by decide +kernel
theorem dX7_readSum_54 : decode cX7_readSum 54 = .ok (.iconst 0, 1) := by decide +kernel
theorem dX7_readSum_55 : decode cX7_readSum 55 = .ok (.ireturn, 1) := by decide +kernel
theorem dX7_readSum_56 : decode cX7_readSum 56 = .ok (.aload_n 0, 1) := by decide +kernel
theorem dX7_readSum_57 : decode cX7_readSum 57 = .ok (.iload 4, 2) := by decide +kernel
theorem dX7_readSum_59 : decode cX7_readSum 59 = .ok (.invokestatic 78, 3) := by decide +kernel
theorem dX7_readSum_62 : decode cX7_readSum 62 = .ok (.invokevirtual 82, 3) := by decide +kernel
theorem dX7_readSum_65 : decode cX7_readSum 65 = .ok (.iinc 3 1, 3) := by decide +kernel
theorem dX7_readSum_68 : decode cX7_readSum 68 = .ok (.goto (-55), 3) := by decide +kernel
theorem dX7_readSum_71 : decode cX7_readSum 71 = .ok (.iconst 1, 1) := by decide +kernel
theorem dX7_readSum_72 : decode cX7_readSum 72 = .ok (.ireturn, 1) := by decide +kernel
theorem dX7_readProduct_0 : decode cX7_readProduct 0 = .ok (.aload_n 0, 1) := by decide +kernel
theorem dX7_readProduct_1 : decode cX7_readProduct 1 = .ok (.aload_n 1, 1) := by decide +kernel
theorem dX7_readProduct_2 : decode cX7_readProduct 2 = .ok (.iload_n 2, 1) := by decide +kernel
theorem dX7_readProduct_3 : decode cX7_readProduct 3 = .ok (.invokevirtual 88, 3) := by decide +kernel
theorem dX7_readProduct_6 : decode cX7_readProduct 6 = .ok (.ifCond .ne 5, 3) := by decide +kernel
theorem dX7_readProduct_9 : decode cX7_readProduct 9 = .ok (.iconst 0, 1) := by decide +kernel
theorem dX7_readProduct_10 : decode cX7_readProduct 10 = .ok (.ireturn, 1) := by decide +kernel
theorem dX7_readProduct_11 : decode cX7_readProduct 11 = .ok (.iconst 0, 1) := by decide +kernel
theorem dX7_readProduct_12 : decode cX7_readProduct 12 = .ok (.istore_n 3, 1) := by decide +kernel
theorem dX7_readProduct_13 : decode cX7_readProduct 13 = .ok (.iload_n 3, 1) := by decide +kernel
theorem dX7_readProduct_14 : decode cX7_readProduct 14 = .ok (.bipush 40, 2) := by decide +kernel
theorem dX7_readProduct_16 : decode cX7_readProduct 16 = .ok (.if_icmp .ge 55, 3) := by decide +kernel
theorem dX7_readProduct_19 : decode cX7_readProduct 19 = .ok (.aload_n 1, 1) := by decide +kernel
theorem dX7_readProduct_20 : decode cX7_readProduct 20 = .ok (.invokevirtual 72, 3) := by decide +kernel
theorem dX7_readProduct_23 : decode cX7_readProduct 23 = .ok (.istore 4, 2) := by decide +kernel
theorem dX7_readProduct_25 : decode cX7_readProduct 25 = .ok (.iload 4, 2) := by decide +kernel
theorem dX7_readProduct_27 : decode cX7_readProduct 27 = .ok (.bipush 42, 2) := by decide +kernel
theorem dX7_readProduct_29 : decode cX7_readProduct 29 = .ok (.if_icmp .eq 12, 3) := by decide +kernel
theorem dX7_readProduct_32 : decode cX7_readProduct 32 = .ok (.iload 4, 2) := by decide +kernel
theorem dX7_readProduct_34 : decode cX7_readProduct 34 = .ok (.bipush 47, 2) := by decide +kernel
theorem dX7_readProduct_36 : decode cX7_readProduct 36 = .ok (.if_icmp .eq 5, 3) := by decide +kernel
theorem dX7_readProduct_39 : decode cX7_readProduct 39 = .ok (.iconst 1, 1) := by decide +kernel
theorem dX7_readProduct_40 : decode cX7_readProduct 40 = .ok (.ireturn, 1) := by decide +kernel
theorem dX7_readProduct_41 : decode cX7_readProduct 41 = .ok (.aload_n 1, 1) := by decide +kernel
theorem dX7_readProduct_42 : decode cX7_readProduct 42 = .ok (.invokevirtual 75, 3) := by decide +kernel
theorem dX7_readProduct_45 : decode cX7_readProduct 45 = .ok (.aload_n 0, 1) := by decide +kernel
theorem dX7_readProduct_46 : decode cX7_readProduct 46 = .ok (.aload_n 1, 1) := by decide +kernel
theorem dX7_readProduct_47 : decode cX7_readProduct 47 = .ok (.iload_n 2, 1) := by decide +kernel
theorem dX7_readProduct_48 : decode cX7_readProduct 48 = .ok (.invokevirtual 88, 3) := by decide +kernel
theorem dX7_readProduct_51 : decode cX7_readProduct 51 = .ok (.ifCond .ne 5, 3) := by decide +kernel
theorem dX7_readProduct_54 : decode cX7_readProduct 54 = .ok (.iconst 0, 1) := by decide +kernel
theorem dX7_readProduct_55 : decode cX7_readProduct 55 = .ok (.ireturn, 1) := by decide +kernel
theorem dX7_readProduct_56 : decode cX7_readProduct 56 = .ok (.aload_n 0, 1) := by decide +kernel
theorem dX7_readProduct_57 : decode cX7_readProduct 57 = .ok (.iload 4, 2) := by decide +kernel
theorem dX7_readProduct_59 : decode cX7_readProduct 59 = .ok (.invokestatic 78, 3) := by decide +kernel
theorem dX7_readProduct_62 : decode cX7_readProduct 62 = .ok (.invokevirtual 82, 3) := by decide +kernel
theorem dX7_readProduct_65 : decode cX7_readProduct 65 = .ok (.iinc 3 1, 3) := by decide +kernel
theorem dX7_readProduct_68 : decode cX7_readProduct 68 = .ok (.goto (-55), 3) := by decide +kernel
theorem dX7_readProduct_71 : decode cX7_readProduct 71 = .ok (.iconst 1, 1) := by decide +kernel
theorem dX7_readProduct_72 : decode cX7_readProduct 72 = .ok (.ireturn, 1) := by decide +kernel
theorem dX7_readThing_0 : decode cX7_readThing 0 = .ok (.iconst 0, 1) := by decide +kernel
theorem dX7_readThing_1 : decode cX7_readThing 1 = .ok (.istore_n 3, 1) := by decide +kernel
theorem dX7_readThing_2 : decode cX7_readThing 2 = .ok (.iconst 0, 1) := by decide +kernel
theorem dX7_readThing_3 : decode cX7_readThing 3 = .ok (.istore 4, 2) := by decide +kernel
theorem dX7_readThing_5 : decode cX7_readThing 5 = .ok (.iload 4, 2) := by decide +kernel
theorem dX7_readThing_7 : decode cX7_readThing 7 = .ok (.bipush 40, 2) := by decide +kernel
theorem dX7_readThing_9 : decode cX7_readThing 9 = .ok (.if_icmp .ge 28, 3) := by decide +kernel
theorem dX7_readThing_12 : decode cX7_readThing 12 = .ok (.aload_n 1, 1) := by decide +kernel
theorem dX7_readThing_13 : decode cX7_readThing 13 = .ok (.bipush 45, 2) := by decide +kernel
theorem dX7_readThing_15 : decode cX7_readThing 15 = .ok (.invokevirtual 91, 3) := by decide +kernel
theorem dX7_readThing_18 : decode cX7_readThing 18 = .ok (.ifCond .eq 19, 3) := by decide +kernel
theorem dX7_readThing_21 : decode cX7_readThing 21 = .ok (.iload_n 3, 1) := by decide +kernel
theorem dX7_readThing_22 : decode cX7_readThing 22 = .ok (.ifCond .ne 7, 3) := by decide +kernel
theorem dX7_readThing_25 : decode cX7_readThing 25 = .ok (.iconst 1, 1) := by decide +kernel
theorem dX7_readThing_26 : decode cX7_readThing 26 = .ok (.goto 4, 3) := by decide +kernel
theorem dX7_readThing_29 : decode cX7_readThing 29 = .ok (.iconst 0, 1) := by decide +kernel
theorem dX7_readThing_30 : decode cX7_readThing 30 = .ok (.istore_n 3, 1) := by decide +kernel
theorem dX7_readThing_31 : decode cX7_readThing 31 = .ok (.iinc 4 1, 3) := by decide +kernel
theorem dX7_readThing_34 : decode cX7_readThing 34 = .ok (.goto (-29), 3) := by decide +kernel
theorem dX7_readThing_37 : decode cX7_readThing 37 = .ok (.aload_n 1, 1) := by decide +kernel
theorem dX7_readThing_38 : decode cX7_readThing 38 = .ok (.iconst 3, 1) := by decide +kernel
theorem dX7_readThing_39 : decode cX7_readThing 39 = .ok (.invokevirtual 95, 3) := by decide +kernel
theorem dX7_readThing_42 : decode cX7_readThing 42 = .ok (.istore 4, 2) := by decide +kernel
theorem dX7_readThing_44 : decode cX7_readThing 44 = .ok (.iload 4, 2) := by decide +kernel
theorem dX7_readThing_46 : decode cX7_readThing 46 = .ok (.ifCond .lt 12, 3) := by decide +kernel
theorem dX7_readThing_49 : decode cX7_readThing 49 = .ok (.aload_n 0, 1) := by decide +kernel
theorem dX7_readThing_50 : decode cX7_readThing 50 = .ok (.iload 4, 2) := by decide +kernel
theorem dX7_readThing_52 : decode cX7_readThing 52 = .ok (.invokevirtual 82, 3) := by decide +kernel
theorem dX7_readThing_55 : decode cX7_readThing 55 = .ok (.goto 81, 3) := by decide +kernel
theorem dX7_readThing_58 : decode cX7_readThing 58 = .ok (.iload_n 2, 1) := by decide +kernel
theorem dX7_readThing_59 : decode cX7_readThing 59 = .ok (.iconst 4, 1) := by decide +kernel
theorem dX7_readThing_60 : decode cX7_readThing 60 = .ok (.if_icmp .ge 34, 3) := by decide +kernel
theorem dX7_readThing_63 : decode cX7_readThing 63 = .ok (.aload_n 1, 1) := by decide +kernel
theorem dX7_readThing_64 : decode cX7_readThing 64 = .ok (.bipush 40, 2) := by decide +kernel
theorem dX7_readThing_66 : decode cX7_readThing 66 = .ok (.invokevirtual 91, 3) := by decide +kernel
theorem dX7_readThing_69 : decode cX7_readThing 69 = .ok (.ifCond .eq 25, 3) := by decide +kernel
theorem dX7_readThing_72 : decode cX7_readThing 72 = .ok (.aload_n 0, 1) := by decide +kernel
theorem dX7_readThing_73 : decode cX7_readThing 73 = .ok (.aload_n 1, 1) := by decide +kernel
theorem dX7_readThing_74 : decode cX7_readThing 74 = .ok (.iload_n 2, 1) := by decide +kernel
theorem dX7_readThing_75 : decode cX7_readThing 75 = .ok (.iconst 1, 1) := by decide +kernel
theorem dX7_readThing_76 : decode cX7_readThing 76 = .ok (.iadd, 1) := by decide +kernel
theorem dX7_readThing_77 : decode cX7_readThing 77 = .ok (.invokevirtual 46, 3) := by decide +kernel
theorem dX7_readThing_80 : decode cX7_readThing 80 = .ok (.ifCond .eq 12, 3) := by decide +kernel
theorem dX7_readThing_83 : decode cX7_readThing 83 = .ok (.aload_n 1, 1) := by decide +kernel
theorem dX7_readThing_84 : decode cX7_readThing 84 = .ok (.bipush 41, 2) := by decide +kernel
theorem dX7_readThing_86 : decode cX7_readThing 86 = .ok (.invokevirtual 91, 3) := by decide +kernel
theorem dX7_readThing_89 : decode cX7_readThing 89 = .ok (.ifCond .ne 47, 3) := by decide +kernel
theorem dX7_readThing_92 : decode cX7_readThing 92 = .ok (.iconst 0, 1) := by decide +kernel
theorem dX7_readThing_93 : decode cX7_readThing 93 = .ok (.ireturn, 1) := by decide +kernel
theorem dX7_readThing_94 : decode cX7_readThing 94 = .ok (.aload_n 1, 1) := by decide +kernel
theorem dX7_readThing_95 : decode cX7_readThing 95 = .ok (.invokevirtual 50, 3) := by decide +kernel
theorem dX7_readThing_98 : decode cX7_readThing 98 = .ok (.ifCond .eq 7, 3) := by decide +kernel
theorem dX7_readThing_101 : decode cX7_readThing 101 = .ok (.iconst (-1), 1) := by decide +kernel
theorem dX7_readThing_102 : decode cX7_readThing 102 = .ok (.goto 13, 3) := by decide +kernel
theorem dX7_readThing_105 : decode cX7_readThing 105 = .ok (.ldc 98, 2) := by decide +kernel
theorem dX7_readThing_107 : decode cX7_readThing 107 = .ok (.aload_n 1, 1) := by decide +kernel
theorem dX7_readThing_108 : decode cX7_readThing 108 = .ok (.invokevirtual 72, 3) := by decide +kernel
theorem dX7_readThing_111 : decode cX7_readThing 111 = .ok (.i2c, 1) := by decide +kernel
theorem dX7_readThing_112 : decode cX7_readThing 112 = .ok (.invokevirtual 100, 3) := by decide +kernel
theorem dX7_readThing_115 : decode cX7_readThing 115 = .ok (.istore 5, 2) := by decide +kernel
theorem dX7_readThing_117 : decode cX7_readThing 117 = .ok (.iload 5, 2) := by decide +kernel
theorem dX7_readThing_119 : decode cX7_readThing 119 = .ok (.ifCond .ge 5, 3) := by decide +kernel
theorem dX7_readThing_122 : decode cX7_readThing 122 = .ok (.iconst 0, 1) := by decide +kernel
theorem dX7_readThing_123 : decode cX7_readThing 123 = .ok (.ireturn, 1) := by decide +kernel
theorem dX7_readThing_124 : decode cX7_readThing 124 = .ok (.aload_n 1, 1) := by decide +kernel
theorem dX7_readThing_125 : decode cX7_readThing 125 = .ok (.invokevirtual 75, 3) := by decide +kernel
theorem dX7_readThing_128 : decode cX7_readThing 128 = .ok (.aload_n 0, 1) := by decide +kernel
theorem dX7_readThing_129 : decode cX7_readThing 129 = .ok (.iconst (-1), 1) := by decide +kernel
theorem dX7_readThing_130 : decode cX7_readThing 130 = .ok (.iload 5, 2) := by decide +kernel
theorem dX7_readThing_132 : decode cX7_readThing 132 = .ok (.isub, 1) := by decide +kernel
theorem dX7_readThing_133 : decode cX7_readThing 133 = .ok (.invokevirtual 82, 3) := by decide +kernel
theorem dX7_readThing_136 : decode cX7_readThing 136 = .ok (.iload_n 3, 1) := by decide +kernel
theorem dX7_readThing_137 : decode cX7_readThing 137 = .ok (.ifCond .eq 12, 3) := by decide +kernel
theorem dX7_readThing_140 : decode cX7_readThing 140 = .ok (.aload_n 0, 1) := by decide +kernel
theorem dX7_readThing_141 : decode cX7_readThing 141 = .ok (.bipush 126, 2) := by decide +kernel
theorem dX7_readThing_143 : decode cX7_readThing 143 = .ok (.invokestatic 78, 3) := by decide +kernel
theorem dX7_readThing_146 : decode cX7_readThing 146 = .ok (.invokevirtual 82, 3) := by decide +kernel
theorem dX7_readThing_149 : decode cX7_readThing 149 = .ok (.iconst 1, 1) := by decide +kernel
theorem dX7_readThing_150 : decode cX7_readThing 150 = .ok (.ireturn, 1) := by decide +kernel
theorem dX7_of_0 : decode cX7_of 0 = .ok (.aload_n 0, 1) := by decide +kernel
theorem dX7_of_1 : decode cX7_of 1 = .ok (.getfield 28, 3) := by decide +kernel
theorem dX7_of_4 : decode cX7_of 4 = .ok (.iload_n 1, 1) := by decide +kernel
theorem dX7_of_5 : decode cX7_of 5 = .ok (.invokevirtual 105, 3) := by decide +kernel
theorem dX7_of_8 : decode cX7_of 8 = .ok (.istore_n 2, 1) := by decide +kernel
theorem dX7_of_9 : decode cX7_of 9 = .ok (.aload_n 0, 1) := by decide +kernel
theorem dX7_of_10 : decode cX7_of 10 = .ok (.getfield 28, 3) := by decide +kernel
theorem dX7_of_13 : decode cX7_of 13 = .ok (.iload_n 1, 1) := by decide +kernel
theorem dX7_of_14 : decode cX7_of 14 = .ok (.invokevirtual 110, 3) := by decide +kernel
theorem dX7_of_17 : decode cX7_of 17 = .ok (.istore_n 3, 1) := by decide +kernel
theorem dX7_of_18 : decode cX7_of 18 = .ok (.aload_n 0, 1) := by decide +kernel
theorem dX7_of_19 : decode cX7_of 19 = .ok (.getfield 28, 3) := by decide +kernel
theorem dX7_of_22 : decode cX7_of 22 = .ok (.iload_n 1, 1) := by decide +kernel
theorem dX7_of_23 : decode cX7_of 23 = .ok (.invokevirtual 113, 3) := by decide +kernel
theorem dX7_of_26 : decode cX7_of 26 = .ok (.istore 4, 2) := by decide +kernel
theorem dX7_of_28 : decode cX7_of 28 = .ok (.aload_n 0, 1) := by decide +kernel
theorem dX7_of_29 : decode cX7_of 29 = .ok (.getfield 66, 3) := by decide +kernel
theorem dX7_of_32 : decode cX7_of 32 = .ok (.ifCond .ne 13, 3) := by decide +kernel
theorem dX7_of_35 : decode cX7_of 35 = .ok (.aload_n 0, 1) := by decide +kernel
theorem dX7_of_36 : decode cX7_of 36 = .ok (.getfield 24, 3) := by decide +kernel
theorem dX7_of_39 : decode cX7_of 39 = .ok (.iload_n 2, 1) := by decide +kernel
theorem dX7_of_40 : decode cX7_of 40 = .ok (.iload_n 3, 1) := by decide +kernel
theorem dX7_of_41 : decode cX7_of 41 = .ok (.invokevirtual 116, 3) := by decide +kernel
theorem dX7_of_44 : decode cX7_of 44 = .ok (.ireturn, 1) := by decide +kernel
theorem dX7_of_45 : decode cX7_of 45 = .ok (.iconst (-1), 1) := by decide +kernel
theorem dX7_of_46 : decode cX7_of 46 = .ok (.istore 5, 2) := by decide +kernel
theorem dX7_of_48 : decode cX7_of 48 = .ok (.iconst 0, 1) := by decide +kernel
theorem dX7_of_49 : decode cX7_of 49 = .ok (.istore 6, 2) := by decide +kernel
theorem dX7_of_51 : decode cX7_of 51 = .ok (.iconst 0, 1) := by decide +kernel
theorem dX7_of_52 : decode cX7_of 52 = .ok (.istore 7, 2) := by decide +kernel
theorem dX7_of_54 : decode cX7_of 54 = .ok (.iload 7, 2) := by decide +kernel
theorem dX7_of_56 : decode cX7_of 56 = .ok (.aload_n 0, 1) := by decide +kernel
theorem dX7_of_57 : decode cX7_of 57 = .ok (.getfield 28, 3) := by decide +kernel
theorem dX7_of_60 : decode cX7_of 60 = .ok (.getfield 122, 3) := by decide +kernel
theorem dX7_of_63 : decode cX7_of 63 = .ok (.if_icmp .ge 74, 3) := by decide +kernel
theorem dX7_of_66 : decode cX7_of 66 = .ok (.iload 5, 2) := by decide +kernel
theorem dX7_of_68 : decode cX7_of 68 = .ok (.aload_n 0, 1) := by decide +kernel
theorem dX7_of_69 : decode cX7_of 69 = .ok (.getfield 28, 3) := by decide +kernel
theorem dX7_of_72 : decode cX7_of 72 = .ok (.iload 7, 2) := by decide +kernel
theorem dX7_of_74 : decode cX7_of 74 = .ok (.iload_n 3, 1) := by decide +kernel
theorem dX7_of_75 : decode cX7_of 75 = .ok (.iload 4, 2) := by decide +kernel
theorem dX7_of_77 : decode cX7_of 77 = .ok (.invokevirtual 123, 3) := by decide +kernel
theorem dX7_of_80 : decode cX7_of 80 = .ok (.ifCond .eq 7, 3) := by decide +kernel
theorem dX7_of_83 : decode cX7_of 83 = .ok (.iconst 1, 1) := by decide +kernel
theorem dX7_of_84 : decode cX7_of 84 = .ok (.goto 4, 3) := by decide +kernel
theorem dX7_of_87 : decode cX7_of 87 = .ok (.iconst 0, 1) := by decide +kernel
theorem dX7_of_88 : decode cX7_of 88 = .ok (.iadd, 1) := by decide +kernel
theorem dX7_of_89 : decode cX7_of 89 = .ok (.istore 5, 2) := by decide +kernel
theorem dX7_of_91 : decode cX7_of 91 = .ok (.iload 7, 2) := by decide +kernel
theorem dX7_of_93 : decode cX7_of 93 = .ok (.iload_n 1, 1) := by decide +kernel
theorem dX7_of_94 : decode cX7_of 94 = .ok (.if_icmp .ge 33, 3) := by decide +kernel
theorem dX7_of_97 : decode cX7_of 97 = .ok (.aload_n 0, 1) := by decide +kernel
theorem dX7_of_98 : decode cX7_of 98 = .ok (.getfield 28, 3) := by decide +kernel
theorem dX7_of_101 : decode cX7_of 101 = .ok (.iload 7, 2) := by decide +kernel
theorem dX7_of_103 : decode cX7_of 103 = .ok (.invokevirtual 105, 3) := by decide +kernel
theorem dX7_of_106 : decode cX7_of 106 = .ok (.iload_n 2, 1) := by decide +kernel
theorem dX7_of_107 : decode cX7_of 107 = .ok (.if_icmp .ne 20, 3) := by decide +kernel
theorem dX7_of_110 : decode cX7_of 110 = .ok (.aload_n 0, 1) := by decide +kernel
theorem dX7_of_111 : decode cX7_of 111 = .ok (.getfield 28, 3) := by decide +kernel
theorem dX7_of_114 : decode cX7_of 114 = .ok (.iload 7, 2) := by decide +kernel
theorem dX7_of_116 : decode cX7_of 116 = .ok (.invokevirtual 110, 3) := by decide +kernel
theorem dX7_of_119 : decode cX7_of 119 = .ok (.iload_n 3, 1) := by decide +kernel
theorem dX7_of_120 : decode cX7_of 120 = .ok (.if_icmp .ne 7, 3) := by decide +kernel
theorem dX7_of_123 : decode cX7_of 123 = .ok (.iconst 1, 1) := by decide +kernel
theorem dX7_of_124 : decode cX7_of 124 = .ok (.goto 5, 3) := by decide +kernel
theorem dX7_of_127 : decode cX7_of 127 = .ok (.iload 6, 2) := by decide +kernel
theorem dX7_of_129 : decode cX7_of 129 = .ok (.istore 6, 2) := by decide +kernel
theorem dX7_of_131 : decode cX7_of 131 = .ok (.iinc 7 1, 3) := by decide +kernel
theorem dX7_of_134 : decode cX7_of 134 = .ok (.goto (-80), 3) := by decide +kernel
theorem dX7_of_137 : decode cX7_of 137 = .ok (.aload_n 0, 1) := by decide +kernel
theorem dX7_of_138 : decode cX7_of 138 = .ok (.getfield 21, 3) := by decide +kernel
theorem dX7_of_141 : decode cX7_of 141 = .ok (.iconst 0, 1) := by decide +kernel
theorem dX7_of_142 : decode cX7_of 142 = .ok (.aload_n 0, 1) := by decide +kernel
theorem dX7_of_143 : decode cX7_of 143 = .ok (.getfield 24, 3) := by decide +kernel
theorem dX7_of_146 : decode cX7_of 146 = .ok (.iload_n 2, 1) := by decide +kernel
theorem dX7_of_147 : decode cX7_of 147 = .ok (.iload_n 3, 1) := by decide +kernel
theorem dX7_of_148 : decode cX7_of 148 = .ok (.invokevirtual 116, 3) := by decide +kernel
theorem dX7_of_151 : decode cX7_of 151 = .ok (.iastore, 1) := by decide +kernel
theorem dX7_of_152 : decode cX7_of 152 = .ok (.aload_n 0, 1) := by decide +kernel
theorem dX7_of_153 : decode cX7_of 153 = .ok (.getfield 21, 3) := by decide +kernel
theorem dX7_of_156 : decode cX7_of 156 = .ok (.iconst 1, 1) := by decide +kernel
theorem dX7_of_157 : decode cX7_of 157 = .ok (.aload_n 0, 1) := by decide +kernel
theorem dX7_of_158 : decode cX7_of 158 = .ok (.getfield 24, 3) := by decide +kernel
theorem dX7_of_161 : decode cX7_of 161 = .ok (.iload_n 3, 1) := by decide +kernel
theorem dX7_of_162 : decode cX7_of 162 = .ok (.invokevirtual 127, 3) := by decide +kernel
theorem dX7_of_165 : decode cX7_of 165 = .ok (.iastore, 1) := by decide +kernel
theorem dX7_of_166 : decode cX7_of 166 = .ok (.aload_n 0, 1) := by decide +kernel
theorem dX7_of_167 : decode cX7_of 167 = .ok (.getfield 21, 3) := by decide +kernel
theorem dX7_of_170 : decode cX7_of 170 = .ok (.iconst 2, 1) := by decide +kernel
theorem dX7_of_171 : decode cX7_of 171 = .ok (.iload 4, 2) := by decide +kernel
theorem dX7_of_173 : decode cX7_of 173 = .ok (.iastore, 1) := by decide +kernel
theorem dX7_of_174 : decode cX7_of 174 = .ok (.aload_n 0, 1) := by decide +kernel
theorem dX7_of_175 : decode cX7_of 175 = .ok (.getfield 21, 3) := by decide +kernel
theorem dX7_of_178 : decode cX7_of 178 = .ok (.iconst 3, 1) := by decide +kernel
theorem dX7_of_179 : decode cX7_of 179 = .ok (.iload 5, 2) := by decide +kernel
theorem dX7_of_181 : decode cX7_of 181 = .ok (.iastore, 1) := by decide +kernel
theorem dX7_of_182 : decode cX7_of 182 = .ok (.aload_n 0, 1) := by decide +kernel
theorem dX7_of_183 : decode cX7_of 183 = .ok (.getfield 21, 3) := by decide +kernel
theorem dX7_of_186 : decode cX7_of 186 = .ok (.iconst 4, 1) := by decide +kernel
theorem dX7_of_187 : decode cX7_of 187 = .ok (.iload_n 2, 1) := by decide +kernel
theorem dX7_of_188 : decode cX7_of 188 = .ok (.iastore, 1) := by decide +kernel
theorem dX7_of_189 : decode cX7_of 189 = .ok (.aload_n 0, 1) := by decide +kernel
theorem dX7_of_190 : decode cX7_of 190 = .ok (.getfield 21, 3) := by decide +kernel
theorem dX7_of_193 : decode cX7_of 193 = .ok (.iconst 5, 1) := by decide +kernel
theorem dX7_of_194 : decode cX7_of 194 = .ok (.iload_n 3, 1) := by decide +kernel
theorem dX7_of_195 : decode cX7_of 195 = .ok (.iastore, 1) := by decide +kernel
theorem dX7_of_196 : decode cX7_of 196 = .ok (.aload_n 0, 1) := by decide +kernel
theorem dX7_of_197 : decode cX7_of 197 = .ok (.getfield 21, 3) := by decide +kernel
theorem dX7_of_200 : decode cX7_of 200 = .ok (.bipush 6, 2) := by decide +kernel
theorem dX7_of_202 : decode cX7_of 202 = .ok (.aload_n 0, 1) := by decide +kernel
theorem dX7_of_203 : decode cX7_of 203 = .ok (.getfield 24, 3) := by decide +kernel
theorem dX7_of_206 : decode cX7_of 206 = .ok (.getfield 130, 3) := by decide +kernel
theorem dX7_of_209 : decode cX7_of 209 = .ok (.iload_n 2, 1) := by decide +kernel
theorem dX7_of_210 : decode cX7_of 210 = .ok (.baload, 1) := by decide +kernel
theorem dX7_of_211 : decode cX7_of 211 = .ok (.ifCond .eq 7, 3) := by decide +kernel
theorem dX7_of_214 : decode cX7_of 214 = .ok (.iconst 1, 1) := by decide +kernel
theorem dX7_of_215 : decode cX7_of 215 = .ok (.goto 4, 3) := by decide +kernel
theorem dX7_of_218 : decode cX7_of 218 = .ok (.iconst 0, 1) := by decide +kernel
theorem dX7_of_219 : decode cX7_of 219 = .ok (.iastore, 1) := by decide +kernel
theorem dX7_of_220 : decode cX7_of 220 = .ok (.aload_n 0, 1) := by decide +kernel
theorem dX7_of_221 : decode cX7_of 221 = .ok (.getfield 21, 3) := by decide +kernel
theorem dX7_of_224 : decode cX7_of 224 = .ok (.bipush 7, 2) := by decide +kernel
theorem dX7_of_226 : decode cX7_of 226 = .ok (.iload 6, 2) := by decide +kernel
theorem dX7_of_228 : decode cX7_of 228 = .ok (.iastore, 1) := by decide +kernel
theorem dX7_of_229 : decode cX7_of 229 = .ok (.sipush (-999), 3) := by decide +kernel
theorem dX7_of_232 : decode cX7_of 232 = .ok (.sipush 999, 3) := by decide +kernel
theorem dX7_of_235 : decode cX7_of 235 = .ok (.aload_n 0, 1) := by decide +kernel
theorem dX7_of_236 : decode cX7_of 236 = .ok (.invokevirtual 134, 3) := by decide +kernel
theorem dX7_of_239 : decode cX7_of 239 = .ok (.invokestatic 137, 3) := by decide +kernel
theorem dX7_of_242 : decode cX7_of 242 = .ok (.invokestatic 142, 3) := by decide +kernel
theorem dX7_of_245 : decode cX7_of 245 = .ok (.ireturn, 1) := by decide +kernel
theorem dX7_evaluate_0 : decode cX7_evaluate 0 = .ok (.iconst 0, 1) := by decide +kernel
theorem dX7_evaluate_1 : decode cX7_evaluate 1 = .ok (.istore_n 1, 1) := by decide +kernel
theorem dX7_evaluate_2 : decode cX7_evaluate 2 = .ok (.iconst 0, 1) := by decide +kernel
theorem dX7_evaluate_3 : decode cX7_evaluate 3 = .ok (.istore_n 2, 1) := by decide +kernel
theorem dX7_evaluate_4 : decode cX7_evaluate 4 = .ok (.iload_n 2, 1) := by decide +kernel
theorem dX7_evaluate_5 : decode cX7_evaluate 5 = .ok (.aload_n 0, 1) := by decide +kernel
theorem dX7_evaluate_6 : decode cX7_evaluate 6 = .ok (.getfield 66, 3) := by decide +kernel
theorem dX7_evaluate_9 : decode cX7_evaluate 9 = .ok (.if_icmp .ge 121, 3) := by decide +kernel
theorem dX7_evaluate_12 : decode cX7_evaluate 12 = .ok (.aload_n 0, 1) := by decide +kernel
theorem dX7_evaluate_13 : decode cX7_evaluate 13 = .ok (.getfield 11, 3) := by decide +kernel
theorem dX7_evaluate_16 : decode cX7_evaluate 16 = .ok (.iload_n 2, 1) := by decide +kernel
theorem dX7_evaluate_17 : decode cX7_evaluate 17 = .ok (.iaload, 1) := by decide +kernel
theorem dX7_evaluate_18 : decode cX7_evaluate 18 = .ok (.istore_n 3, 1) := by decide +kernel
theorem dX7_evaluate_19 : decode cX7_evaluate 19 = .ok (.iload_n 3, 1) := by decide +kernel
theorem dX7_evaluate_20 : decode cX7_evaluate 20 = .ok (.bipush (-8), 2) := by decide +kernel
theorem dX7_evaluate_22 : decode cX7_evaluate 22 = .ok (.if_icmp .lt 31, 3) := by decide +kernel
theorem dX7_evaluate_25 : decode cX7_evaluate 25 = .ok (.aload_n 0, 1) := by decide +kernel
theorem dX7_evaluate_26 : decode cX7_evaluate 26 = .ok (.getfield 18, 3) := by decide +kernel
theorem dX7_evaluate_29 : decode cX7_evaluate 29 = .ok (.iload_n 1, 1) := by decide +kernel
theorem dX7_evaluate_30 : decode cX7_evaluate 30 = .ok (.iload_n 3, 1) := by decide +kernel
theorem dX7_evaluate_31 : decode cX7_evaluate 31 = .ok (.ifCond .lt 7, 3) := by decide +kernel
theorem dX7_evaluate_34 : decode cX7_evaluate 34 = .ok (.iload_n 3, 1) := by decide +kernel
theorem dX7_evaluate_35 : decode cX7_evaluate 35 = .ok (.goto 11, 3) := by decide +kernel
theorem dX7_evaluate_38 : decode cX7_evaluate 38 = .ok (.aload_n 0, 1) := by decide +kernel
theorem dX7_evaluate_39 : decode cX7_evaluate 39 = .ok (.getfield 21, 3) := by decide +kernel
theorem dX7_evaluate_42 : decode cX7_evaluate 42 = .ok (.iconst (-1), 1) := by decide +kernel
theorem dX7_evaluate_43 : decode cX7_evaluate 43 = .ok (.iload_n 3, 1) := by decide +kernel
theorem dX7_evaluate_44 : decode cX7_evaluate 44 = .ok (.isub, 1) := by decide +kernel
theorem dX7_evaluate_45 : decode cX7_evaluate 45 = .ok (.iaload, 1) := by decide +kernel
theorem dX7_evaluate_46 : decode cX7_evaluate 46 = .ok (.iastore, 1) := by decide +kernel
theorem dX7_evaluate_47 : decode cX7_evaluate 47 = .ok (.iinc 1 1, 3) := by decide +kernel
theorem dX7_evaluate_50 : decode cX7_evaluate 50 = .ok (.goto 74, 3) := by decide +kernel
theorem dX7_evaluate_53 : decode cX7_evaluate 53 = .ok (.iload_n 3, 1) := by decide +kernel
theorem dX7_evaluate_54 : decode cX7_evaluate 54 = .ok (.bipush 126, 2) := by decide +kernel
theorem dX7_evaluate_56 : decode cX7_evaluate 56 = .ok (.invokestatic 78, 3) := by decide +kernel
theorem dX7_evaluate_59 : decode cX7_evaluate 59 = .ok (.if_icmp .ne 28, 3) := by decide +kernel
theorem dX7_evaluate_62 : decode cX7_evaluate 62 = .ok (.iload_n 1, 1) := by decide +kernel
theorem dX7_evaluate_63 : decode cX7_evaluate 63 = .ok (.iconst 1, 1) := by decide +kernel
theorem dX7_evaluate_64 : decode cX7_evaluate 64 = .ok (.if_icmp .lt 23, 3) := by decide +kernel
theorem dX7_evaluate_67 : decode cX7_evaluate 67 = .ok (.aload_n 0, 1) := by decide +kernel
theorem dX7_evaluate_68 : decode cX7_evaluate 68 = .ok (.getfield 18, 3) := by decide +kernel
theorem dX7_evaluate_71 : decode cX7_evaluate 71 = .ok (.iload_n 1, 1) := by decide +kernel
theorem dX7_evaluate_72 : decode cX7_evaluate 72 = .ok (.iconst 1, 1) := by decide +kernel
theorem dX7_evaluate_73 : decode cX7_evaluate 73 = .ok (.isub, 1) := by decide +kernel
theorem dX7_evaluate_74 : decode cX7_evaluate 74 = .ok (.aload_n 0, 1) := by decide +kernel
theorem dX7_evaluate_75 : decode cX7_evaluate 75 = .ok (.getfield 18, 3) := by decide +kernel
theorem dX7_evaluate_78 : decode cX7_evaluate 78 = .ok (.iload_n 1, 1) := by decide +kernel
theorem dX7_evaluate_79 : decode cX7_evaluate 79 = .ok (.iconst 1, 1) := by decide +kernel
theorem dX7_evaluate_80 : decode cX7_evaluate 80 = .ok (.isub, 1) := by decide +kernel
theorem dX7_evaluate_81 : decode cX7_evaluate 81 = .ok (.iaload, 1) := by decide +kernel
theorem dX7_evaluate_82 : decode cX7_evaluate 82 = .ok (.ineg, 1) := by decide +kernel
theorem dX7_evaluate_83 : decode cX7_evaluate 83 = .ok (.iastore, 1) := by decide +kernel
theorem dX7_evaluate_84 : decode cX7_evaluate 84 = .ok (.goto 40, 3) := by decide +kernel
theorem dX7_evaluate_87 : decode cX7_evaluate 87 = .ok (.iload_n 1, 1) := by decide +kernel
theorem dX7_evaluate_88 : decode cX7_evaluate 88 = .ok (.iconst 2, 1) := by decide +kernel
theorem dX7_evaluate_89 : decode cX7_evaluate 89 = .ok (.if_icmp .lt 35, 3) := by decide +kernel
theorem dX7_evaluate_92 : decode cX7_evaluate 92 = .ok (.iinc 1 (-1), 3) := by decide +kernel
theorem dX7_evaluate_95 : decode cX7_evaluate 95 = .ok (.aload_n 0, 1) := by decide +kernel
theorem dX7_evaluate_96 : decode cX7_evaluate 96 = .ok (.getfield 18, 3) := by decide +kernel
theorem dX7_evaluate_99 : decode cX7_evaluate 99 = .ok (.iload_n 1, 1) := by decide +kernel
theorem dX7_evaluate_100 : decode cX7_evaluate 100 = .ok (.iconst 1, 1) := by decide +kernel
theorem dX7_evaluate_101 : decode cX7_evaluate 101 = .ok (.isub, 1) := by decide +kernel
theorem dX7_evaluate_102 : decode cX7_evaluate 102 = .ok (.bipush (-100), 2) := by decide +kernel
theorem dX7_evaluate_104 : decode cX7_evaluate 104 = .ok (.iload_n 3, 1) := by decide +kernel
theorem dX7_evaluate_105 : decode cX7_evaluate 105 = .ok (.isub, 1) := by decide +kernel
theorem dX7_evaluate_106 : decode cX7_evaluate 106 = .ok (.aload_n 0, 1) := by decide +kernel
theorem dX7_evaluate_107 : decode cX7_evaluate 107 = .ok (.getfield 18, 3) := by decide +kernel
theorem dX7_evaluate_110 : decode cX7_evaluate 110 = .ok (.iload_n 1, 1) := by decide +kernel
theorem dX7_evaluate_111 : decode cX7_evaluate 111 = .ok (.iconst 1, 1) := by decide +kernel
theorem dX7_evaluate_112 : decode cX7_evaluate 112 = .ok (.isub, 1) := by decide +kernel
theorem dX7_evaluate_113 : decode cX7_evaluate 113 = .ok (.iaload, 1) := by decide +kernel
theorem dX7_evaluate_114 : decode cX7_evaluate 114 = .ok (.aload_n 0, 1) := by decide +kernel
theorem dX7_evaluate_115 : decode cX7_evaluate 115 = .ok (.getfield 18, 3) := by decide +kernel
theorem dX7_evaluate_118 : decode cX7_evaluate 118 = .ok (.iload_n 1, 1) := by decide +kernel
theorem dX7_evaluate_119 : decode cX7_evaluate 119 = .ok (.iaload, 1) := by decide +kernel
theorem dX7_evaluate_120 : decode cX7_evaluate 120 = .ok (.invokestatic 145, 3) := by decide +kernel
theorem dX7_evaluate_123 : decode cX7_evaluate 123 = .ok (.iastore, 1) := by decide +kernel
theorem dX7_evaluate_124 : decode cX7_evaluate 124 = .ok (.iinc 2 1, 3) := by decide +kernel
theorem dX7_evaluate_127 : decode cX7_evaluate 127 = .ok (.goto (-123), 3) := by decide +kernel
theorem dX7_evaluate_130 : decode cX7_evaluate 130 = .ok (.iload_n 1, 1) := by decide +kernel
theorem dX7_evaluate_131 : decode cX7_evaluate 131 = .ok (.ifCond .le 12, 3) := by decide +kernel
theorem dX7_evaluate_134 : decode cX7_evaluate 134 = .ok (.aload_n 0, 1) := by decide +kernel
theorem dX7_evaluate_135 : decode cX7_evaluate 135 = .ok (.getfield 18, 3) := by decide +kernel
theorem dX7_evaluate_138 : decode cX7_evaluate 138 = .ok (.iconst 0, 1) := by decide +kernel
theorem dX7_evaluate_139 : decode cX7_evaluate 139 = .ok (.iaload, 1) := by decide +kernel
theorem dX7_evaluate_140 : decode cX7_evaluate 140 = .ok (.goto 4, 3) := by decide +kernel
theorem dX7_evaluate_143 : decode cX7_evaluate 143 = .ok (.iconst 0, 1) := by decide +kernel
theorem dX7_evaluate_144 : decode cX7_evaluate 144 = .ok (.ireturn, 1) := by decide +kernel
theorem dX7_combine_0 : decode cX7_combine 0 = .ok (.iload_n 0, 1) := by decide +kernel
theorem dX7_combine_1 : decode cX7_combine 1 = .ok (.lookupswitch 105 #[(42, 67), (43, 59), (45, 63), (47, 71), (60, 83), (62, 94)], 59) := by decide +kernel
theorem dX7_combine_60 : decode cX7_combine 60 = .ok (.iload_n 1, 1) := by decide +kernel
theorem dX7_combine_61 : decode cX7_combine 61 = .ok (.iload_n 2, 1) := by decide +kernel
theorem dX7_combine_62 : decode cX7_combine 62 = .ok (.iadd, 1) := by decide +kernel
theorem dX7_combine_63 : decode cX7_combine 63 = .ok (.ireturn, 1) := by decide +kernel
theorem dX7_combine_64 : decode cX7_combine 64 = .ok (.iload_n 1, 1) := by decide +kernel
theorem dX7_combine_65 : decode cX7_combine 65 = .ok (.iload_n 2, 1) := by decide +kernel
theorem dX7_combine_66 : decode cX7_combine 66 = .ok (.isub, 1) := by decide +kernel
theorem dX7_combine_67 : decode cX7_combine 67 = .ok (.ireturn, 1) := by decide +kernel
theorem dX7_combine_68 : decode cX7_combine 68 = .ok (.iload_n 1, 1) := by decide +kernel
theorem dX7_combine_69 : decode cX7_combine 69 = .ok (.iload_n 2, 1) := by decide +kernel
theorem dX7_combine_70 : decode cX7_combine 70 = .ok (.imul, 1) := by decide +kernel
theorem dX7_combine_71 : decode cX7_combine 71 = .ok (.ireturn, 1) := by decide +kernel
theorem dX7_combine_72 : decode cX7_combine 72 = .ok (.iload_n 2, 1) := by decide +kernel
theorem dX7_combine_73 : decode cX7_combine 73 = .ok (.ifCond .ne 7, 3) := by decide +kernel
theorem dX7_combine_76 : decode cX7_combine 76 = .ok (.iconst 0, 1) := by decide +kernel
theorem dX7_combine_77 : decode cX7_combine 77 = .ok (.goto 6, 3) := by decide +kernel
theorem dX7_combine_80 : decode cX7_combine 80 = .ok (.iload_n 1, 1) := by decide +kernel
theorem dX7_combine_81 : decode cX7_combine 81 = .ok (.iload_n 2, 1) := by decide +kernel
theorem dX7_combine_82 : decode cX7_combine 82 = .ok (.idiv, 1) := by decide +kernel
theorem dX7_combine_83 : decode cX7_combine 83 = .ok (.ireturn, 1) := by decide +kernel
theorem dX7_combine_84 : decode cX7_combine 84 = .ok (.iload_n 1, 1) := by decide +kernel
theorem dX7_combine_85 : decode cX7_combine 85 = .ok (.iload_n 2, 1) := by decide +kernel
theorem dX7_combine_86 : decode cX7_combine 86 = .ok (.if_icmp .ge 7, 3) := by decide +kernel
theorem dX7_combine_89 : decode cX7_combine 89 = .ok (.iconst 1, 1) := by decide +kernel
theorem dX7_combine_90 : decode cX7_combine 90 = .ok (.goto 4, 3) := by decide +kernel
theorem dX7_combine_93 : decode cX7_combine 93 = .ok (.iconst 0, 1) := by decide +kernel
theorem dX7_combine_94 : decode cX7_combine 94 = .ok (.ireturn, 1) := by decide +kernel
theorem dX7_combine_95 : decode cX7_combine 95 = .ok (.iload_n 1, 1) := by decide +kernel
theorem dX7_combine_96 : decode cX7_combine 96 = .ok (.iload_n 2, 1) := by decide +kernel
theorem dX7_combine_97 : decode cX7_combine 97 = .ok (.if_icmp .le 7, 3) := by decide +kernel
theorem dX7_combine_100 : decode cX7_combine 100 = .ok (.iconst 1, 1) := by decide +kernel
theorem dX7_combine_101 : decode cX7_combine 101 = .ok (.goto 4, 3) := by decide +kernel
theorem dX7_combine_104 : decode cX7_combine 104 = .ok (.iconst 0, 1) := by decide +kernel
theorem dX7_combine_105 : decode cX7_combine 105 = .ok (.ireturn, 1) := by decide +kernel
theorem dX7_combine_106 : decode cX7_combine 106 = .ok (.iload_n 1, 1) := by decide +kernel
theorem dX7_combine_107 : decode cX7_combine 107 = .ok (.iload_n 2, 1) := by decide +kernel
theorem dX7_combine_108 : decode cX7_combine 108 = .ok (.if_icmp .ne 7, 3) := by decide +kernel
theorem dX7_combine_111 : decode cX7_combine 111 = .ok (.iconst 1, 1) := by decide +kernel
theorem dX7_combine_112 : decode cX7_combine 112 = .ok (.goto 4, 3) := by decide +kernel
theorem dX7_combine_115 : decode cX7_combine 115 = .ok (.iconst 0, 1) := by decide +kernel
theorem dX7_combine_116 : decode cX7_combine 116 = .ok (.ireturn, 1) := by decide +kernel
theorem dX7_sum_0 : decode cX7_sum 0 = .ok (.iconst 0, 1) := by decide +kernel
theorem dX7_sum_1 : decode cX7_sum 1 = .ok (.istore_n 1, 1) := by decide +kernel
theorem dX7_sum_2 : decode cX7_sum 2 = .ok (.iconst 0, 1) := by decide +kernel
theorem dX7_sum_3 : decode cX7_sum 3 = .ok (.istore_n 2, 1) := by decide +kernel
theorem dX7_sum_4 : decode cX7_sum 4 = .ok (.iload_n 2, 1) := by decide +kernel
theorem dX7_sum_5 : decode cX7_sum 5 = .ok (.aload_n 0, 1) := by decide +kernel
theorem dX7_sum_6 : decode cX7_sum 6 = .ok (.getfield 28, 3) := by decide +kernel
theorem dX7_sum_9 : decode cX7_sum 9 = .ok (.getfield 122, 3) := by decide +kernel
theorem dX7_sum_12 : decode cX7_sum 12 = .ok (.if_icmp .ge 17, 3) := by decide +kernel
theorem dX7_sum_15 : decode cX7_sum 15 = .ok (.iload_n 1, 1) := by decide +kernel
theorem dX7_sum_16 : decode cX7_sum 16 = .ok (.aload_n 0, 1) := by decide +kernel
theorem dX7_sum_17 : decode cX7_sum 17 = .ok (.iload_n 2, 1) := by decide +kernel
theorem dX7_sum_18 : decode cX7_sum 18 = .ok (.invokevirtual 149, 3) := by decide +kernel
theorem dX7_sum_21 : decode cX7_sum 21 = .ok (.iadd, 1) := by decide +kernel
theorem dX7_sum_22 : decode cX7_sum 22 = .ok (.istore_n 1, 1) := by decide +kernel
theorem dX7_sum_23 : decode cX7_sum 23 = .ok (.iinc 2 1, 3) := by decide +kernel
theorem dX7_sum_26 : decode cX7_sum 26 = .ok (.goto (-22), 3) := by decide +kernel
theorem dX7_sum_29 : decode cX7_sum 29 = .ok (.iload_n 1, 1) := by decide +kernel
theorem dX7_sum_30 : decode cX7_sum 30 = .ok (.ireturn, 1) := by decide +kernel
theorem dX7_sumOf_0 : decode cX7_sumOf 0 = .ok (.iconst 0, 1) := by decide +kernel
theorem dX7_sumOf_1 : decode cX7_sumOf 1 = .ok (.istore_n 2, 1) := by decide +kernel
theorem dX7_sumOf_2 : decode cX7_sumOf 2 = .ok (.iconst 0, 1) := by decide +kernel
theorem dX7_sumOf_3 : decode cX7_sumOf 3 = .ok (.istore_n 3, 1) := by decide +kernel
theorem dX7_sumOf_4 : decode cX7_sumOf 4 = .ok (.iload_n 3, 1) := by decide +kernel
theorem dX7_sumOf_5 : decode cX7_sumOf 5 = .ok (.aload_n 0, 1) := by decide +kernel
theorem dX7_sumOf_6 : decode cX7_sumOf 6 = .ok (.getfield 28, 3) := by decide +kernel
theorem dX7_sumOf_9 : decode cX7_sumOf 9 = .ok (.getfield 122, 3) := by decide +kernel
theorem dX7_sumOf_12 : decode cX7_sumOf 12 = .ok (.if_icmp .ge 33, 3) := by decide +kernel
theorem dX7_sumOf_15 : decode cX7_sumOf 15 = .ok (.iload_n 2, 1) := by decide +kernel
theorem dX7_sumOf_16 : decode cX7_sumOf 16 = .ok (.aload_n 0, 1) := by decide +kernel
theorem dX7_sumOf_17 : decode cX7_sumOf 17 = .ok (.getfield 28, 3) := by decide +kernel
theorem dX7_sumOf_20 : decode cX7_sumOf 20 = .ok (.iload_n 3, 1) := by decide +kernel
theorem dX7_sumOf_21 : decode cX7_sumOf 21 = .ok (.invokevirtual 105, 3) := by decide +kernel
theorem dX7_sumOf_24 : decode cX7_sumOf 24 = .ok (.iload_n 1, 1) := by decide +kernel
theorem dX7_sumOf_25 : decode cX7_sumOf 25 = .ok (.if_icmp .ne 11, 3) := by decide +kernel
theorem dX7_sumOf_28 : decode cX7_sumOf 28 = .ok (.aload_n 0, 1) := by decide +kernel
theorem dX7_sumOf_29 : decode cX7_sumOf 29 = .ok (.iload_n 3, 1) := by decide +kernel
theorem dX7_sumOf_30 : decode cX7_sumOf 30 = .ok (.invokevirtual 149, 3) := by decide +kernel
theorem dX7_sumOf_33 : decode cX7_sumOf 33 = .ok (.goto 4, 3) := by decide +kernel
theorem dX7_sumOf_36 : decode cX7_sumOf 36 = .ok (.iconst 0, 1) := by decide +kernel
theorem dX7_sumOf_37 : decode cX7_sumOf 37 = .ok (.iadd, 1) := by decide +kernel
theorem dX7_sumOf_38 : decode cX7_sumOf 38 = .ok (.istore_n 2, 1) := by decide +kernel
theorem dX7_sumOf_39 : decode cX7_sumOf 39 = .ok (.iinc 3 1, 3) := by decide +kernel
theorem dX7_sumOf_42 : decode cX7_sumOf 42 = .ok (.goto (-38), 3) := by decide +kernel
theorem dX7_sumOf_45 : decode cX7_sumOf 45 = .ok (.iload_n 2, 1) := by decide +kernel
theorem dX7_sumOf_46 : decode cX7_sumOf 46 = .ok (.ireturn, 1) := by decide +kernel
theorem dX7_sumTogether_0 : decode cX7_sumTogether 0 = .ok (.iconst 0, 1) := by decide +kernel
theorem dX7_sumTogether_1 : decode cX7_sumTogether 1 = .ok (.istore_n 3, 1) := by decide +kernel
theorem dX7_sumTogether_2 : decode cX7_sumTogether 2 = .ok (.iconst 0, 1) := by decide +kernel
theorem dX7_sumTogether_3 : decode cX7_sumTogether 3 = .ok (.istore 4, 2) := by decide +kernel
theorem dX7_sumTogether_5 : decode cX7_sumTogether 5 = .ok (.iload 4, 2) := by decide +kernel
theorem dX7_sumTogether_7 : decode cX7_sumTogether 7 = .ok (.aload_n 0, 1) := by decide +kernel
theorem dX7_sumTogether_8 : decode cX7_sumTogether 8 = .ok (.getfield 28, 3) := by decide +kernel
theorem dX7_sumTogether_11 : decode cX7_sumTogether 11 = .ok (.getfield 122, 3) := by decide +kernel
theorem dX7_sumTogether_14 : decode cX7_sumTogether 14 = .ok (.if_icmp .ge 36, 3) := by decide +kernel
theorem dX7_sumTogether_17 : decode cX7_sumTogether 17 = .ok (.iload_n 3, 1) := by decide +kernel
theorem dX7_sumTogether_18 : decode cX7_sumTogether 18 = .ok (.aload_n 0, 1) := by decide +kernel
theorem dX7_sumTogether_19 : decode cX7_sumTogether 19 = .ok (.getfield 28, 3) := by decide +kernel
theorem dX7_sumTogether_22 : decode cX7_sumTogether 22 = .ok (.iload 4, 2) := by decide +kernel
theorem dX7_sumTogether_24 : decode cX7_sumTogether 24 = .ok (.iload_n 1, 1) := by decide +kernel
theorem dX7_sumTogether_25 : decode cX7_sumTogether 25 = .ok (.iload_n 2, 1) := by decide +kernel
theorem dX7_sumTogether_26 : decode cX7_sumTogether 26 = .ok (.invokevirtual 123, 3) := by decide +kernel
theorem dX7_sumTogether_29 : decode cX7_sumTogether 29 = .ok (.ifCond .eq 12, 3) := by decide +kernel
theorem dX7_sumTogether_32 : decode cX7_sumTogether 32 = .ok (.aload_n 0, 1) := by decide +kernel
theorem dX7_sumTogether_33 : decode cX7_sumTogether 33 = .ok (.iload 4, 2) := by decide +kernel
theorem dX7_sumTogether_35 : decode cX7_sumTogether 35 = .ok (.invokevirtual 149, 3) := by decide +kernel
theorem dX7_sumTogether_38 : decode cX7_sumTogether 38 = .ok (.goto 4, 3) := by decide +kernel
theorem dX7_sumTogether_41 : decode cX7_sumTogether 41 = .ok (.iconst 0, 1) := by decide +kernel
theorem dX7_sumTogether_42 : decode cX7_sumTogether 42 = .ok (.iadd, 1) := by decide +kernel
theorem dX7_sumTogether_43 : decode cX7_sumTogether 43 = .ok (.istore_n 3, 1) := by decide +kernel
theorem dX7_sumTogether_44 : decode cX7_sumTogether 44 = .ok (.iinc 4 1, 3) := by decide +kernel
theorem dX7_sumTogether_47 : decode cX7_sumTogether 47 = .ok (.goto (-42), 3) := by decide +kernel
theorem dX7_sumTogether_50 : decode cX7_sumTogether 50 = .ok (.iload_n 3, 1) := by decide +kernel
theorem dX7_sumTogether_51 : decode cX7_sumTogether 51 = .ok (.ireturn, 1) := by decide +kernel
theorem dX8_init_0 : decode cX8_init 0 = .ok (.aload_n 0, 1) := by decide +kernel
theorem dX8_init_1 : decode cX8_init 1 = .ok (.invokespecial 1, 3) := by decide +kernel
theorem dX8_init_4 : decode cX8_init 4 = .ok (.aload_n 0, 1) := by decide +kernel
theorem dX8_init_5 : decode cX8_init 5 = .ok (.bipush 12, 2) := by decide +kernel
theorem dX8_init_7 : decode cX8_init 7 = .ok (.newarray .int, 2) := by decide +kernel
theorem dX8_init_9 : decode cX8_init 9 = .ok (.putfield 9, 3) := by decide +kernel
theorem dX8_init_12 : decode cX8_init 12 = .ok (.aload_n 0, 1) := by decide +kernel
theorem dX8_init_13 : decode cX8_init 13 = .ok (.bipush 12, 2) := by decide +kernel
theorem dX8_init_15 : decode cX8_init 15 = .ok (.newarray .int, 2) := by decide +kernel
theorem dX8_init_17 : decode cX8_init 17 = .ok (.putfield 13, 3) := by decide +kernel
theorem dX8_init_20 : decode cX8_init 20 = .ok (.aload_n 0, 1) := by decide +kernel
theorem dX8_init_21 : decode cX8_init 21 = .ok (.bipush 12, 2) := by decide +kernel
theorem dX8_init_23 : decode cX8_init 23 = .ok (.newarray .int, 2) := by decide +kernel
theorem dX8_init_25 : decode cX8_init 25 = .ok (.putfield 16, 3) := by decide +kernel
theorem dX8_init_28 : decode cX8_init 28 = .ok (.aload_n 0, 1) := by decide +kernel
theorem dX8_init_29 : decode cX8_init 29 = .ok (.aload_n 1, 1) := by decide +kernel
theorem dX8_init_30 : decode cX8_init 30 = .ok (.putfield 19, 3) := by decide +kernel
theorem dX8_init_33 : decode cX8_init 33 = .ok (.return_, 1) := by decide +kernel
theorem dX8_add_0 : decode cX8_add 0 = .ok (.aload_n 0, 1) := by decide +kernel
theorem dX8_add_1 : decode cX8_add 1 = .ok (.getfield 23, 3) := by decide +kernel
theorem dX8_add_4 : decode cX8_add 4 = .ok (.bipush 12, 2) := by decide +kernel
theorem dX8_add_6 : decode cX8_add 6 = .ok (.if_icmp .lt 5, 3) := by decide +kernel
theorem dX8_add_9 : decode cX8_add 9 = .ok (.iconst 0, 1) := by decide +kernel
theorem dX8_add_10 : decode cX8_add 10 = .ok (.ireturn, 1) := by decide +kernel
theorem dX8_add_11 : decode cX8_add 11 = .ok (.aload_n 0, 1) := by decide +kernel
theorem dX8_add_12 : decode cX8_add 12 = .ok (.getfield 9, 3) := by decide +kernel
theorem dX8_add_15 : decode cX8_add 15 = .ok (.aload_n 0, 1) := by decide +kernel
theorem dX8_add_16 : decode cX8_add 16 = .ok (.getfield 23, 3) := by decide +kernel
theorem dX8_add_19 : decode cX8_add 19 = .ok (.iload_n 1, 1) := by decide +kernel
theorem dX8_add_20 : decode cX8_add 20 = .ok (.iastore, 1) := by decide +kernel
theorem dX8_add_21 : decode cX8_add 21 = .ok (.aload_n 0, 1) := by decide +kernel
theorem dX8_add_22 : decode cX8_add 22 = .ok (.getfield 13, 3) := by decide +kernel
theorem dX8_add_25 : decode cX8_add 25 = .ok (.aload_n 0, 1) := by decide +kernel
theorem dX8_add_26 : decode cX8_add 26 = .ok (.getfield 23, 3) := by decide +kernel
theorem dX8_add_29 : decode cX8_add 29 = .ok (.iload_n 2, 1) := by decide +kernel
theorem dX8_add_30 : decode cX8_add 30 = .ok (.iastore, 1) := by decide +kernel
theorem dX8_add_31 : decode cX8_add 31 = .ok (.aload_n 0, 1) := by decide +kernel
theorem dX8_add_32 : decode cX8_add 32 = .ok (.getfield 16, 3) := by decide +kernel
theorem dX8_add_35 : decode cX8_add 35 = .ok (.aload_n 0, 1) := by decide +kernel
theorem dX8_add_36 : decode cX8_add 36 = .ok (.getfield 23, 3) := by decide +kernel
theorem dX8_add_39 : decode cX8_add 39 = .ok (.iload_n 3, 1) := by decide +kernel
theorem dX8_add_40 : decode cX8_add 40 = .ok (.iastore, 1) := by decide +kernel
theorem dX8_add_41 : decode cX8_add 41 = .ok (.aload_n 0, 1) := by decide +kernel
theorem dX8_add_42 : decode cX8_add 42 = .ok (.dup, 1) := by decide +kernel
theorem dX8_add_43 : decode cX8_add 43 = .ok (.getfield 23, 3) := by decide +kernel
theorem dX8_add_46 : decode cX8_add 46 = .ok (.iconst 1, 1) := by decide +kernel
theorem dX8_add_47 : decode cX8_add 47 = .ok (.iadd, 1) := by decide +kernel
theorem dX8_add_48 : decode cX8_add 48 = .ok (.putfield 23, 3) := by decide +kernel
theorem dX8_add_51 : decode cX8_add 51 = .ok (.iconst 1, 1) := by decide +kernel
theorem dX8_add_52 : decode cX8_add 52 = .ok (.ireturn, 1) := by decide +kernel
theorem dX8_isThere_0 : decode cX8_isThere 0 = .ok (.iload_n 2, 1) := by decide +kernel
theorem dX8_isThere_1 : decode cX8_isThere 1 = .ok (.aload_n 0, 1) := by decide +kernel
theorem dX8_isThere_2 : decode cX8_isThere 2 = .ok (.getfield 19, 3) := by decide +kernel
theorem dX8_isThere_5 : decode cX8_isThere 5 = .ok (.getfield 27, 3) := by decide +kernel
theorem dX8_isThere_8 : decode cX8_isThere 8 = .ok (.iload_n 1, 1) := by decide +kernel
theorem dX8_isThere_9 : decode cX8_isThere 9 = .ok (.iaload, 1) := by decide +kernel
theorem dX8_isThere_10 : decode cX8_isThere 10 = .ok (.iadd, 1) := by decide +kernel
theorem dX8_isThere_11 : decode cX8_isThere 11 = .ok (.istore 4, 2) := by decide +kernel
theorem dX8_isThere_13 : decode cX8_isThere 13 = .ok (.iload_n 3, 1) := by decide +kernel
theorem dX8_isThere_14 : decode cX8_isThere 14 = .ok (.iload 4, 2) := by decide +kernel
theorem dX8_isThere_16 : decode cX8_isThere 16 = .ok (.if_icmp .lt 23, 3) := by decide +kernel
theorem dX8_isThere_19 : decode cX8_isThere 19 = .ok (.iload_n 3, 1) := by decide +kernel
theorem dX8_isThere_20 : decode cX8_isThere 20 = .ok (.iload 4, 2) := by decide +kernel
theorem dX8_isThere_22 : decode cX8_isThere 22 = .ok (.aload_n 0, 1) := by decide +kernel
theorem dX8_isThere_23 : decode cX8_isThere 23 = .ok (.getfield 19, 3) := by decide +kernel
theorem dX8_isThere_26 : decode cX8_isThere 26 = .ok (.getfield 32, 3) := by decide +kernel
theorem dX8_isThere_29 : decode cX8_isThere 29 = .ok (.iload_n 1, 1) := by decide +kernel
theorem dX8_isThere_30 : decode cX8_isThere 30 = .ok (.iaload, 1) := by decide +kernel
theorem dX8_isThere_31 : decode cX8_isThere 31 = .ok (.iadd, 1) := by decide +kernel
theorem dX8_isThere_32 : decode cX8_isThere 32 = .ok (.if_icmp .ge 7, 3) := by decide +kernel
theorem dX8_isThere_35 : decode cX8_isThere 35 = .ok (.iconst 1, 1) := by decide +kernel
theorem dX8_isThere_36 : decode cX8_isThere 36 = .ok (.goto 4, 3) := by decide +kernel
theorem dX8_isThere_39 : decode cX8_isThere 39 = .ok (.iconst 0, 1) := by decide +kernel
theorem dX8_isThere_40 : decode cX8_isThere 40 = .ok (.ireturn, 1) := by decide +kernel
theorem dX8_fitsPlan_0 : decode cX8_fitsPlan 0 = .ok (.iload_n 1, 1) := by decide +kernel
theorem dX8_fitsPlan_1 : decode cX8_fitsPlan 1 = .ok (.ifCond .lt 11, 3) := by decide +kernel
theorem dX8_fitsPlan_4 : decode cX8_fitsPlan 4 = .ok (.iload_n 1, 1) := by decide +kernel
theorem dX8_fitsPlan_5 : decode cX8_fitsPlan 5 = .ok (.aload_n 0, 1) := by decide +kernel
theorem dX8_fitsPlan_6 : decode cX8_fitsPlan 6 = .ok (.getfield 23, 3) := by decide +kernel
theorem dX8_fitsPlan_9 : decode cX8_fitsPlan 9 = .ok (.if_icmp .lt 5, 3) := by decide +kernel
theorem dX8_fitsPlan_12 : decode cX8_fitsPlan 12 = .ok (.iconst 0, 1) := by decide +kernel
theorem dX8_fitsPlan_13 : decode cX8_fitsPlan 13 = .ok (.ireturn, 1) := by decide +kernel
theorem dX8_fitsPlan_14 : decode cX8_fitsPlan 14 = .ok (.iconst 0, 1) := by decide +kernel
theorem dX8_fitsPlan_15 : decode cX8_fitsPlan 15 = .ok (.istore_n 3, 1) := by decide +kernel
theorem dX8_fitsPlan_16 : decode cX8_fitsPlan 16 = .ok (.iload_n 3, 1) := by decide +kernel
theorem dX8_fitsPlan_17 : decode cX8_fitsPlan 17 = .ok (.aload_n 2, 1) := by decide +kernel
theorem dX8_fitsPlan_18 : decode cX8_fitsPlan 18 = .ok (.getfield 35, 3) := by decide +kernel
theorem dX8_fitsPlan_21 : decode cX8_fitsPlan 21 = .ok (.if_icmp .ge 75, 3) := by decide +kernel
theorem dX8_fitsPlan_24 : decode cX8_fitsPlan 24 = .ok (.aload_n 2, 1) := by decide +kernel
theorem dX8_fitsPlan_25 : decode cX8_fitsPlan 25 = .ok (.iload_n 3, 1) := by decide +kernel
theorem dX8_fitsPlan_26 : decode cX8_fitsPlan 26 = .ok (.invokevirtual 38, 3) := by decide +kernel
theorem dX8_fitsPlan_29 : decode cX8_fitsPlan 29 = .ok (.aload_n 0, 1) := by decide +kernel
theorem dX8_fitsPlan_30 : decode cX8_fitsPlan 30 = .ok (.getfield 9, 3) := by decide +kernel
theorem dX8_fitsPlan_33 : decode cX8_fitsPlan 33 = .ok (.iload_n 1, 1) := by decide +kernel
theorem dX8_fitsPlan_34 : decode cX8_fitsPlan 34 = .ok (.iaload, 1) := by decide +kernel
theorem dX8_fitsPlan_35 : decode cX8_fitsPlan 35 = .ok (.if_icmp .ne 21, 3) := by decide +kernel
theorem dX8_fitsPlan_38 : decode cX8_fitsPlan 38 = .ok (.aload_n 2, 1) := by decide +kernel
theorem dX8_fitsPlan_39 : decode cX8_fitsPlan 39 = .ok (.iload_n 3, 1) := by decide +kernel
theorem dX8_fitsPlan_40 : decode cX8_fitsPlan 40 = .ok (.invokevirtual 41, 3) := by decide +kernel
theorem dX8_fitsPlan_43 : decode cX8_fitsPlan 43 = .ok (.aload_n 0, 1) := by decide +kernel
theorem dX8_fitsPlan_44 : decode cX8_fitsPlan 44 = .ok (.getfield 13, 3) := by decide +kernel
theorem dX8_fitsPlan_47 : decode cX8_fitsPlan 47 = .ok (.iload_n 1, 1) := by decide +kernel
theorem dX8_fitsPlan_48 : decode cX8_fitsPlan 48 = .ok (.iaload, 1) := by decide +kernel
theorem dX8_fitsPlan_49 : decode cX8_fitsPlan 49 = .ok (.if_icmp .ne 7, 3) := by decide +kernel
theorem dX8_fitsPlan_52 : decode cX8_fitsPlan 52 = .ok (.iconst 1, 1) := by decide +kernel
theorem dX8_fitsPlan_53 : decode cX8_fitsPlan 53 = .ok (.goto 4, 3) := by decide +kernel
theorem dX8_fitsPlan_56 : decode cX8_fitsPlan 56 = .ok (.iconst 0, 1) := by decide +kernel
theorem dX8_fitsPlan_57 : decode cX8_fitsPlan 57 = .ok (.istore 4, 2) := by decide +kernel
theorem dX8_fitsPlan_59 : decode cX8_fitsPlan 59 = .ok (.iload 4, 2) := by decide +kernel
theorem dX8_fitsPlan_61 : decode cX8_fitsPlan 61 = .ok (.ifCond .eq 29, 3) := by decide +kernel
theorem dX8_fitsPlan_64 : decode cX8_fitsPlan 64 = .ok (.aload_n 0, 1) := by decide +kernel
theorem dX8_fitsPlan_65 : decode cX8_fitsPlan 65 = .ok (.aload_n 0, 1) := by decide +kernel
theorem dX8_fitsPlan_66 : decode cX8_fitsPlan 66 = .ok (.getfield 13, 3) := by decide +kernel
theorem dX8_fitsPlan_69 : decode cX8_fitsPlan 69 = .ok (.iload_n 1, 1) := by decide +kernel
theorem dX8_fitsPlan_70 : decode cX8_fitsPlan 70 = .ok (.iaload, 1) := by decide +kernel
theorem dX8_fitsPlan_71 : decode cX8_fitsPlan 71 = .ok (.aload_n 2, 1) := by decide +kernel
theorem dX8_fitsPlan_72 : decode cX8_fitsPlan 72 = .ok (.iload_n 3, 1) := by decide +kernel
theorem dX8_fitsPlan_73 : decode cX8_fitsPlan 73 = .ok (.invokevirtual 43, 3) := by decide +kernel
theorem dX8_fitsPlan_76 : decode cX8_fitsPlan 76 = .ok (.aload_n 0, 1) := by decide +kernel
theorem dX8_fitsPlan_77 : decode cX8_fitsPlan 77 = .ok (.getfield 16, 3) := by decide +kernel
theorem dX8_fitsPlan_80 : decode cX8_fitsPlan 80 = .ok (.iload_n 1, 1) := by decide +kernel
theorem dX8_fitsPlan_81 : decode cX8_fitsPlan 81 = .ok (.iaload, 1) := by decide +kernel
theorem dX8_fitsPlan_82 : decode cX8_fitsPlan 82 = .ok (.invokevirtual 46, 3) := by decide +kernel
theorem dX8_fitsPlan_85 : decode cX8_fitsPlan 85 = .ok (.ifCond .eq 5, 3) := by decide +kernel
theorem dX8_fitsPlan_88 : decode cX8_fitsPlan 88 = .ok (.iconst 1, 1) := by decide +kernel
theorem dX8_fitsPlan_89 : decode cX8_fitsPlan 89 = .ok (.ireturn, 1) := by decide +kernel
theorem dX8_fitsPlan_90 : decode cX8_fitsPlan 90 = .ok (.iinc 3 1, 3) := by decide +kernel
theorem dX8_fitsPlan_93 : decode cX8_fitsPlan 93 = .ok (.goto (-77), 3) := by decide +kernel
theorem dX8_fitsPlan_96 : decode cX8_fitsPlan 96 = .ok (.iconst 0, 1) := by decide +kernel
theorem dX8_fitsPlan_97 : decode cX8_fitsPlan 97 = .ok (.ireturn, 1) := by decide +kernel
theorem dX8_allow_0 : decode cX8_allow 0 = .ok (.iconst 0, 1) := by decide +kernel
theorem dX8_allow_1 : decode cX8_allow 1 = .ok (.istore 4, 2) := by decide +kernel
theorem dX8_allow_3 : decode cX8_allow 3 = .ok (.iload 4, 2) := by decide +kernel
theorem dX8_allow_5 : decode cX8_allow 5 = .ok (.aload_n 0, 1) := by decide +kernel
theorem dX8_allow_6 : decode cX8_allow 6 = .ok (.getfield 23, 3) := by decide +kernel
theorem dX8_allow_9 : decode cX8_allow 9 = .ok (.if_icmp .ge 98, 3) := by decide +kernel
theorem dX8_allow_12 : decode cX8_allow 12 = .ok (.aload_n 0, 1) := by decide +kernel
theorem dX8_allow_13 : decode cX8_allow 13 = .ok (.getfield 9, 3) := by decide +kernel
theorem dX8_allow_16 : decode cX8_allow 16 = .ok (.iload 4, 2) := by decide +kernel
theorem dX8_allow_18 : decode cX8_allow 18 = .ok (.iaload, 1) := by decide +kernel
theorem dX8_allow_19 : decode cX8_allow 19 = .ok (.iload_n 1, 1) := by decide +kernel
theorem dX8_allow_20 : decode cX8_allow 20 = .ok (.if_icmp .eq 6, 3) := by decide +kernel
theorem dX8_allow_23 : decode cX8_allow 23 = .ok (.goto 78, 3) := by decide +kernel
theorem dX8_allow_26 : decode cX8_allow 26 = .ok (.aload_n 0, 1) := by decide +kernel
theorem dX8_allow_27 : decode cX8_allow 27 = .ok (.getfield 16, 3) := by decide +kernel
theorem dX8_allow_30 : decode cX8_allow 30 = .ok (.iload 4, 2) := by decide +kernel
theorem dX8_allow_32 : decode cX8_allow 32 = .ok (.iaload, 1) := by decide +kernel
theorem dX8_allow_33 : decode cX8_allow 33 = .ok (.iload_n 3, 1) := by decide +kernel
theorem dX8_allow_34 : decode cX8_allow 34 = .ok (.if_icmp .lt 27, 3) := by decide +kernel
theorem dX8_allow_37 : decode cX8_allow 37 = .ok (.aload_n 0, 1) := by decide +kernel
theorem dX8_allow_38 : decode cX8_allow 38 = .ok (.getfield 16, 3) := by decide +kernel
theorem dX8_allow_41 : decode cX8_allow 41 = .ok (.iload 4, 2) := by decide +kernel
theorem dX8_allow_43 : decode cX8_allow 43 = .ok (.iaload, 1) := by decide +kernel
theorem dX8_allow_44 : decode cX8_allow 44 = .ok (.iload_n 3, 1) := by decide +kernel
theorem dX8_allow_45 : decode cX8_allow 45 = .ok (.aload_n 0, 1) := by decide +kernel
theorem dX8_allow_46 : decode cX8_allow 46 = .ok (.getfield 19, 3) := by decide +kernel
theorem dX8_allow_49 : decode cX8_allow 49 = .ok (.iload_n 2, 1) := by decide +kernel
theorem dX8_allow_50 : decode cX8_allow 50 = .ok (.invokevirtual 50, 3) := by decide +kernel
theorem dX8_allow_53 : decode cX8_allow 53 = .ok (.iadd, 1) := by decide +kernel
theorem dX8_allow_54 : decode cX8_allow 54 = .ok (.if_icmp .ge 7, 3) := by decide +kernel
theorem dX8_allow_57 : decode cX8_allow 57 = .ok (.iconst 1, 1) := by decide +kernel
theorem dX8_allow_58 : decode cX8_allow 58 = .ok (.goto 4, 3) := by decide +kernel
theorem dX8_allow_61 : decode cX8_allow 61 = .ok (.iconst 0, 1) := by decide +kernel
theorem dX8_allow_62 : decode cX8_allow 62 = .ok (.istore 5, 2) := by decide +kernel
theorem dX8_allow_64 : decode cX8_allow 64 = .ok (.aload_n 0, 1) := by decide +kernel
theorem dX8_allow_65 : decode cX8_allow 65 = .ok (.getfield 13, 3) := by decide +kernel
theorem dX8_allow_68 : decode cX8_allow 68 = .ok (.iload 4, 2) := by decide +kernel
theorem dX8_allow_70 : decode cX8_allow 70 = .ok (.iaload, 1) := by decide +kernel
theorem dX8_allow_71 : decode cX8_allow 71 = .ok (.iload_n 2, 1) := by decide +kernel
theorem dX8_allow_72 : decode cX8_allow 72 = .ok (.if_icmp .ne 22, 3) := by decide +kernel
theorem dX8_allow_75 : decode cX8_allow 75 = .ok (.aload_n 0, 1) := by decide +kernel
theorem dX8_allow_76 : decode cX8_allow 76 = .ok (.iload_n 2, 1) := by decide +kernel
theorem dX8_allow_77 : decode cX8_allow 77 = .ok (.iload_n 3, 1) := by decide +kernel
theorem dX8_allow_78 : decode cX8_allow 78 = .ok (.aload_n 0, 1) := by decide +kernel
theorem dX8_allow_79 : decode cX8_allow 79 = .ok (.getfield 16, 3) := by decide +kernel
theorem dX8_allow_82 : decode cX8_allow 82 = .ok (.iload 4, 2) := by decide +kernel
theorem dX8_allow_84 : decode cX8_allow 84 = .ok (.iaload, 1) := by decide +kernel
theorem dX8_allow_85 : decode cX8_allow 85 = .ok (.invokevirtual 46, 3) := by decide +kernel
theorem dX8_allow_88 : decode cX8_allow 88 = .ok (.ifCond .ne 13, 3) := by decide +kernel
theorem dX8_allow_91 : decode cX8_allow 91 = .ok (.goto 8, 3) := by decide +kernel
theorem dX8_allow_94 : decode cX8_allow 94 = .ok (.iload 5, 2) := by decide +kernel
theorem dX8_allow_96 : decode cX8_allow 96 = .ok (.ifCond .eq 5, 3) := by decide +kernel
theorem dX8_allow_99 : decode cX8_allow 99 = .ok (.iconst 0, 1) := by decide +kernel
theorem dX8_allow_100 : decode cX8_allow 100 = .ok (.ireturn, 1) := by decide +kernel
theorem dX8_allow_101 : decode cX8_allow 101 = .ok (.iinc 4 1, 3) := by decide +kernel
theorem dX8_allow_104 : decode cX8_allow 104 = .ok (.goto (-101), 3) := by decide +kernel
theorem dX8_allow_107 : decode cX8_allow 107 = .ok (.iconst 1, 1) := by decide +kernel
theorem dX8_allow_108 : decode cX8_allow 108 = .ok (.ireturn, 1) := by decide +kernel
theorem dX8_allowBench_0 : decode cX8_allowBench 0 = .ok (.iconst 0, 1) := by decide +kernel
theorem dX8_allowBench_1 : decode cX8_allowBench 1 = .ok (.istore_n 3, 1) := by decide +kernel
theorem dX8_allowBench_2 : decode cX8_allowBench 2 = .ok (.iload_n 3, 1) := by decide +kernel
theorem dX8_allowBench_3 : decode cX8_allowBench 3 = .ok (.aload_n 0, 1) := by decide +kernel
theorem dX8_allowBench_4 : decode cX8_allowBench 4 = .ok (.getfield 23, 3) := by decide +kernel
theorem dX8_allowBench_7 : decode cX8_allowBench 7 = .ok (.if_icmp .ge 49, 3) := by decide +kernel
theorem dX8_allowBench_10 : decode cX8_allowBench 10 = .ok (.aload_n 0, 1) := by decide +kernel
theorem dX8_allowBench_11 : decode cX8_allowBench 11 = .ok (.getfield 9, 3) := by decide +kernel
theorem dX8_allowBench_14 : decode cX8_allowBench 14 = .ok (.iload_n 3, 1) := by decide +kernel
theorem dX8_allowBench_15 : decode cX8_allowBench 15 = .ok (.iaload, 1) := by decide +kernel
theorem dX8_allowBench_16 : decode cX8_allowBench 16 = .ok (.iload_n 1, 1) := by decide +kernel
theorem dX8_allowBench_17 : decode cX8_allowBench 17 = .ok (.if_icmp .ne 33, 3) := by decide +kernel
theorem dX8_allowBench_20 : decode cX8_allowBench 20 = .ok (.aload_n 0, 1) := by decide +kernel
theorem dX8_allowBench_21 : decode cX8_allowBench 21 = .ok (.getfield 16, 3) := by decide +kernel
theorem dX8_allowBench_24 : decode cX8_allowBench 24 = .ok (.iload_n 3, 1) := by decide +kernel
theorem dX8_allowBench_25 : decode cX8_allowBench 25 = .ok (.iaload, 1) := by decide +kernel
theorem dX8_allowBench_26 : decode cX8_allowBench 26 = .ok (.iload_n 2, 1) := by decide +kernel
theorem dX8_allowBench_27 : decode cX8_allowBench 27 = .ok (.isub, 1) := by decide +kernel
theorem dX8_allowBench_28 : decode cX8_allowBench 28 = .ok (.invokestatic 53, 3) := by decide +kernel
theorem dX8_allowBench_31 : decode cX8_allowBench 31 = .ok (.aload_n 0, 1) := by decide +kernel
theorem dX8_allowBench_32 : decode cX8_allowBench 32 = .ok (.getfield 19, 3) := by decide +kernel
theorem dX8_allowBench_35 : decode cX8_allowBench 35 = .ok (.getfield 27, 3) := by decide +kernel
theorem dX8_allowBench_38 : decode cX8_allowBench 38 = .ok (.aload_n 0, 1) := by decide +kernel
theorem dX8_allowBench_39 : decode cX8_allowBench 39 = .ok (.getfield 13, 3) := by decide +kernel
theorem dX8_allowBench_42 : decode cX8_allowBench 42 = .ok (.iload_n 3, 1) := by decide +kernel
theorem dX8_allowBench_43 : decode cX8_allowBench 43 = .ok (.iaload, 1) := by decide +kernel
theorem dX8_allowBench_44 : decode cX8_allowBench 44 = .ok (.iaload, 1) := by decide +kernel
theorem dX8_allowBench_45 : decode cX8_allowBench 45 = .ok (.if_icmp .gt 5, 3) := by decide +kernel
theorem dX8_allowBench_48 : decode cX8_allowBench 48 = .ok (.iconst 0, 1) := by decide +kernel
theorem dX8_allowBench_49 : decode cX8_allowBench 49 = .ok (.ireturn, 1) := by decide +kernel
theorem dX8_allowBench_50 : decode cX8_allowBench 50 = .ok (.iinc 3 1, 3) := by decide +kernel
theorem dX8_allowBench_53 : decode cX8_allowBench 53 = .ok (.goto (-51), 3) := by decide +kernel
theorem dX8_allowBench_56 : decode cX8_allowBench 56 = .ok (.iconst 1, 1) := by decide +kernel
theorem dX8_allowBench_57 : decode cX8_allowBench 57 = .ok (.ireturn, 1) := by decide +kernel
theorem dX9_init_0 : decode cX9_init 0 = .ok (.aload_n 0, 1) := by decide +kernel
theorem dX9_init_1 : decode cX9_init 1 = .ok (.invokespecial 3, 3) := by decide +kernel
theorem dX9_init_4 : decode cX9_init 4 = .ok (.aload_n 0, 1) := by decide +kernel
theorem dX9_init_5 : decode cX9_init 5 = .ok (.bipush 6, 2) := by decide +kernel
theorem dX9_init_7 : decode cX9_init 7 = .ok (.newarray .boolean, 2) := by decide +kernel
theorem dX9_init_9 : decode cX9_init 9 = .ok (.putfield 11, 3) := by decide +kernel
theorem dX9_init_12 : decode cX9_init 12 = .ok (.aload_n 0, 1) := by decide +kernel
theorem dX9_init_13 : decode cX9_init 13 = .ok (.bipush 8, 2) := by decide +kernel
theorem dX9_init_15 : decode cX9_init 15 = .ok (.newarray .int, 2) := by decide +kernel
theorem dX9_init_17 : decode cX9_init 17 = .ok (.putfield 15, 3) := by decide +kernel
theorem dX9_init_20 : decode cX9_init 20 = .ok (.aload_n 0, 1) := by decide +kernel
theorem dX9_init_21 : decode cX9_init 21 = .ok (.bipush 8, 2) := by decide +kernel
theorem dX9_init_23 : decode cX9_init 23 = .ok (.newarray .int, 2) := by decide +kernel
theorem dX9_init_25 : decode cX9_init 25 = .ok (.putfield 19, 3) := by decide +kernel
theorem dX9_init_28 : decode cX9_init 28 = .ok (.aload_n 0, 1) := by decide +kernel
theorem dX9_init_29 : decode cX9_init 29 = .ok (.bipush 8, 2) := by decide +kernel
theorem dX9_init_31 : decode cX9_init 31 = .ok (.newarray .int, 2) := by decide +kernel
theorem dX9_init_33 : decode cX9_init 33 = .ok (.putfield 22, 3) := by decide +kernel
theorem dX9_init_36 : decode cX9_init 36 = .ok (.aload_n 0, 1) := by decide +kernel
theorem dX9_init_37 : decode cX9_init 37 = .ok (.bipush 8, 2) := by decide +kernel
theorem dX9_init_39 : decode cX9_init 39 = .ok (.newarray .int, 2) := by decide +kernel
theorem dX9_init_41 : decode cX9_init 41 = .ok (.putfield 25, 3) := by decide +kernel
theorem dX9_init_44 : decode cX9_init 44 = .ok (.aload_n 0, 1) := by decide +kernel
theorem dX9_init_45 : decode cX9_init 45 = .ok (.bipush 8, 2) := by decide +kernel
theorem dX9_init_47 : decode cX9_init 47 = .ok (.newarray .int, 2) := by decide +kernel
theorem dX9_init_49 : decode cX9_init 49 = .ok (.putfield 28, 3) := by decide +kernel
theorem dX9_init_52 : decode cX9_init 52 = .ok (.aload_n 0, 1) := by decide +kernel
theorem dX9_init_53 : decode cX9_init 53 = .ok (.bipush 8, 2) := by decide +kernel
theorem dX9_init_55 : decode cX9_init 55 = .ok (.newarray .boolean, 2) := by decide +kernel
theorem dX9_init_57 : decode cX9_init 57 = .ok (.putfield 31, 3) := by decide +kernel
theorem dX9_init_60 : decode cX9_init 60 = .ok (.aload_n 0, 1) := by decide +kernel
theorem dX9_init_61 : decode cX9_init 61 = .ok (.bipush 60, 2) := by decide +kernel
theorem dX9_init_63 : decode cX9_init 63 = .ok (.putfield 34, 3) := by decide +kernel
theorem dX9_init_66 : decode cX9_init 66 = .ok (.aload_n 0, 1) := by decide +kernel
theorem dX9_init_67 : decode cX9_init 67 = .ok (.bipush 48, 2) := by decide +kernel
theorem dX9_init_69 : decode cX9_init 69 = .ok (.newarray .int, 2) := by decide +kernel
theorem dX9_init_71 : decode cX9_init 71 = .ok (.putfield 38, 3) := by decide +kernel
theorem dX9_init_74 : decode cX9_init 74 = .ok (.aload_n 0, 1) := by decide +kernel
theorem dX9_init_75 : decode cX9_init 75 = .ok (.getfield 38, 3) := by decide +kernel
theorem dX9_init_78 : decode cX9_init 78 = .ok (.iconst 1, 1) := by decide +kernel
theorem dX9_init_79 : decode cX9_init 79 = .ok (.invokestatic 41, 3) := by decide +kernel
theorem dX9_init_82 : decode cX9_init 82 = .ok (.return_, 1) := by decide +kernel
theorem dX9_hasPerson_0 : decode cX9_hasPerson 0 = .ok (.iload_n 1, 1) := by decide +kernel
theorem dX9_hasPerson_1 : decode cX9_hasPerson 1 = .ok (.ifCond .lt 15, 3) := by decide +kernel
theorem dX9_hasPerson_4 : decode cX9_hasPerson 4 = .ok (.iload_n 1, 1) := by decide +kernel
theorem dX9_hasPerson_5 : decode cX9_hasPerson 5 = .ok (.aload_n 0, 1) := by decide +kernel
theorem dX9_hasPerson_6 : decode cX9_hasPerson 6 = .ok (.getfield 47, 3) := by decide +kernel
theorem dX9_hasPerson_9 : decode cX9_hasPerson 9 = .ok (.if_icmp .ge 7, 3) := by decide +kernel
theorem dX9_hasPerson_12 : decode cX9_hasPerson 12 = .ok (.iconst 1, 1) := by decide +kernel
theorem dX9_hasPerson_13 : decode cX9_hasPerson 13 = .ok (.goto 4, 3) := by decide +kernel
theorem dX9_hasPerson_16 : decode cX9_hasPerson 16 = .ok (.iconst 0, 1) := by decide +kernel
theorem dX9_hasPerson_17 : decode cX9_hasPerson 17 = .ok (.ireturn, 1) := by decide +kernel
theorem dX9_hasErrand_0 : decode cX9_hasErrand 0 = .ok (.iload_n 1, 1) := by decide +kernel
theorem dX9_hasErrand_1 : decode cX9_hasErrand 1 = .ok (.ifCond .lt 15, 3) := by decide +kernel
theorem dX9_hasErrand_4 : decode cX9_hasErrand 4 = .ok (.iload_n 1, 1) := by decide +kernel
theorem dX9_hasErrand_5 : decode cX9_hasErrand 5 = .ok (.aload_n 0, 1) := by decide +kernel
theorem dX9_hasErrand_6 : decode cX9_hasErrand 6 = .ok (.getfield 50, 3) := by decide +kernel
theorem dX9_hasErrand_9 : decode cX9_hasErrand 9 = .ok (.if_icmp .ge 7, 3) := by decide +kernel
theorem dX9_hasErrand_12 : decode cX9_hasErrand 12 = .ok (.iconst 1, 1) := by decide +kernel
theorem dX9_hasErrand_13 : decode cX9_hasErrand 13 = .ok (.goto 4, 3) := by decide +kernel
theorem dX9_hasErrand_16 : decode cX9_hasErrand 16 = .ok (.iconst 0, 1) := by decide +kernel
theorem dX9_hasErrand_17 : decode cX9_hasErrand 17 = .ok (.ireturn, 1) := by decide +kernel
theorem dX9_getWish_0 : decode cX9_getWish 0 = .ok (.aload_n 0, 1) := by decide +kernel
theorem dX9_getWish_1 : decode cX9_getWish 1 = .ok (.iload_n 1, 1) := by decide +kernel
theorem dX9_getWish_2 : decode cX9_getWish 2 = .ok (.invokevirtual 53, 3) := by decide +kernel
theorem dX9_getWish_5 : decode cX9_getWish 5 = .ok (.ifCond .eq 25, 3) := by decide +kernel
theorem dX9_getWish_8 : decode cX9_getWish 8 = .ok (.aload_n 0, 1) := by decide +kernel
theorem dX9_getWish_9 : decode cX9_getWish 9 = .ok (.iload_n 2, 1) := by decide +kernel
theorem dX9_getWish_10 : decode cX9_getWish 10 = .ok (.invokevirtual 57, 3) := by decide +kernel
theorem dX9_getWish_13 : decode cX9_getWish 13 = .ok (.ifCond .eq 17, 3) := by decide +kernel
theorem dX9_getWish_16 : decode cX9_getWish 16 = .ok (.aload_n 0, 1) := by decide +kernel
theorem dX9_getWish_17 : decode cX9_getWish 17 = .ok (.getfield 38, 3) := by decide +kernel
theorem dX9_getWish_20 : decode cX9_getWish 20 = .ok (.iload_n 1, 1) := by decide +kernel
theorem dX9_getWish_21 : decode cX9_getWish 21 = .ok (.bipush 8, 2) := by decide +kernel
theorem dX9_getWish_23 : decode cX9_getWish 23 = .ok (.imul, 1) := by decide +kernel
theorem dX9_getWish_24 : decode cX9_getWish 24 = .ok (.iload_n 2, 1) := by decide +kernel
theorem dX9_getWish_25 : decode cX9_getWish 25 = .ok (.iadd, 1) := by decide +kernel
theorem dX9_getWish_26 : decode cX9_getWish 26 = .ok (.iaload, 1) := by decide +kernel
theorem dX9_getWish_27 : decode cX9_getWish 27 = .ok (.goto 4, 3) := by decide +kernel
theorem dX9_getWish_30 : decode cX9_getWish 30 = .ok (.iconst 0, 1) := by decide +kernel
theorem dX9_getWish_31 : decode cX9_getWish 31 = .ok (.ireturn, 1) := by decide +kernel
theorem dX9_setWish_0 : decode cX9_setWish 0 = .ok (.aload_n 0, 1) := by decide +kernel
theorem dX9_setWish_1 : decode cX9_setWish 1 = .ok (.iload_n 1, 1) := by decide +kernel
theorem dX9_setWish_2 : decode cX9_setWish 2 = .ok (.invokevirtual 53, 3) := by decide +kernel
theorem dX9_setWish_5 : decode cX9_setWish 5 = .ok (.ifCond .eq 23, 3) := by decide +kernel
theorem dX9_setWish_8 : decode cX9_setWish 8 = .ok (.aload_n 0, 1) := by decide +kernel
theorem dX9_setWish_9 : decode cX9_setWish 9 = .ok (.iload_n 2, 1) := by decide +kernel
theorem dX9_setWish_10 : decode cX9_setWish 10 = .ok (.invokevirtual 57, 3) := by decide +kernel
theorem dX9_setWish_13 : decode cX9_setWish 13 = .ok (.ifCond .eq 15, 3) := by decide +kernel
theorem dX9_setWish_16 : decode cX9_setWish 16 = .ok (.aload_n 0, 1) := by decide +kernel
theorem dX9_setWish_17 : decode cX9_setWish 17 = .ok (.getfield 38, 3) := by decide +kernel
theorem dX9_setWish_20 : decode cX9_setWish 20 = .ok (.iload_n 1, 1) := by decide +kernel
theorem dX9_setWish_21 : decode cX9_setWish 21 = .ok (.bipush 8, 2) := by decide +kernel
theorem dX9_setWish_23 : decode cX9_setWish 23 = .ok (.imul, 1) := by decide +kernel
theorem dX9_setWish_24 : decode cX9_setWish 24 = .ok (.iload_n 2, 1) := by decide +kernel
theorem dX9_setWish_25 : decode cX9_setWish 25 = .ok (.iadd, 1) := by decide +kernel
theorem dX9_setWish_26 : decode cX9_setWish 26 = .ok (.iload_n 3, 1) := by decide +kernel
theorem dX9_setWish_27 : decode cX9_setWish 27 = .ok (.iastore, 1) := by decide +kernel
theorem dX9_setWish_28 : decode cX9_setWish 28 = .ok (.return_, 1) := by decide +kernel
theorem dX9_shyOnes_0 : decode cX9_shyOnes 0 = .ok (.iconst 0, 1) := by decide +kernel
theorem dX9_shyOnes_1 : decode cX9_shyOnes 1 = .ok (.istore_n 1, 1) := by decide +kernel
theorem dX9_shyOnes_2 : decode cX9_shyOnes 2 = .ok (.iconst 0, 1) := by decide +kernel
theorem dX9_shyOnes_3 : decode cX9_shyOnes 3 = .ok (.istore_n 2, 1) := by decide +kernel
theorem dX9_shyOnes_4 : decode cX9_shyOnes 4 = .ok (.iload_n 2, 1) := by decide +kernel
theorem dX9_shyOnes_5 : decode cX9_shyOnes 5 = .ok (.aload_n 0, 1) := by decide +kernel
theorem dX9_shyOnes_6 : decode cX9_shyOnes 6 = .ok (.getfield 47, 3) := by decide +kernel
theorem dX9_shyOnes_9 : decode cX9_shyOnes 9 = .ok (.if_icmp .ge 28, 3) := by decide +kernel
theorem dX9_shyOnes_12 : decode cX9_shyOnes 12 = .ok (.iload_n 1, 1) := by decide +kernel
theorem dX9_shyOnes_13 : decode cX9_shyOnes 13 = .ok (.aload_n 0, 1) := by decide +kernel
theorem dX9_shyOnes_14 : decode cX9_shyOnes 14 = .ok (.getfield 11, 3) := by decide +kernel
theorem dX9_shyOnes_17 : decode cX9_shyOnes 17 = .ok (.iload_n 2, 1) := by decide +kernel
theorem dX9_shyOnes_18 : decode cX9_shyOnes 18 = .ok (.baload, 1) := by decide +kernel
theorem dX9_shyOnes_19 : decode cX9_shyOnes 19 = .ok (.ifCond .eq 9, 3) := by decide +kernel
theorem dX9_shyOnes_22 : decode cX9_shyOnes 22 = .ok (.iconst 1, 1) := by decide +kernel
theorem dX9_shyOnes_23 : decode cX9_shyOnes 23 = .ok (.iload_n 2, 1) := by decide +kernel
theorem dX9_shyOnes_24 : decode cX9_shyOnes 24 = .ok (.ishl, 1) := by decide +kernel
theorem dX9_shyOnes_25 : decode cX9_shyOnes 25 = .ok (.goto 4, 3) := by decide +kernel
theorem dX9_shyOnes_28 : decode cX9_shyOnes 28 = .ok (.iconst 0, 1) := by decide +kernel
theorem dX9_shyOnes_29 : decode cX9_shyOnes 29 = .ok (.ior, 1) := by decide +kernel
theorem dX9_shyOnes_30 : decode cX9_shyOnes 30 = .ok (.istore_n 1, 1) := by decide +kernel
theorem dX9_shyOnes_31 : decode cX9_shyOnes 31 = .ok (.iinc 2 1, 3) := by decide +kernel
theorem dX9_shyOnes_34 : decode cX9_shyOnes 34 = .ok (.goto (-30), 3) := by decide +kernel
theorem dX9_shyOnes_37 : decode cX9_shyOnes 37 = .ok (.iload_n 1, 1) := by decide +kernel
theorem dX9_shyOnes_38 : decode cX9_shyOnes 38 = .ok (.ireturn, 1) := by decide +kernel
theorem dX9_length_0 : decode cX9_length 0 = .ok (.iconst 2, 1) := by decide +kernel
theorem dX9_length_1 : decode cX9_length 1 = .ok (.aload_n 0, 1) := by decide +kernel
theorem dX9_length_2 : decode cX9_length 2 = .ok (.getfield 15, 3) := by decide +kernel
theorem dX9_length_5 : decode cX9_length 5 = .ok (.iload_n 1, 1) := by decide +kernel
theorem dX9_length_6 : decode cX9_length 6 = .ok (.iaload, 1) := by decide +kernel
theorem dX9_length_7 : decode cX9_length 7 = .ok (.imul, 1) := by decide +kernel
theorem dX9_length_8 : decode cX9_length 8 = .ok (.aload_n 0, 1) := by decide +kernel
theorem dX9_length_9 : decode cX9_length 9 = .ok (.getfield 19, 3) := by decide +kernel
theorem dX9_length_12 : decode cX9_length 12 = .ok (.iload_n 1, 1) := by decide +kernel
theorem dX9_length_13 : decode cX9_length 13 = .ok (.iaload, 1) := by decide +kernel
theorem dX9_length_14 : decode cX9_length 14 = .ok (.iadd, 1) := by decide +kernel
theorem dX9_length_15 : decode cX9_length 15 = .ok (.ireturn, 1) := by decide +kernel
theorem dX9_endsInTime_0 : decode cX9_endsInTime 0 = .ok (.iload_n 2, 1) := by decide +kernel
theorem dX9_endsInTime_1 : decode cX9_endsInTime 1 = .ok (.aload_n 0, 1) := by decide +kernel
theorem dX9_endsInTime_2 : decode cX9_endsInTime 2 = .ok (.iload_n 1, 1) := by decide +kernel
theorem dX9_endsInTime_3 : decode cX9_endsInTime 3 = .ok (.invokevirtual 60, 3) := by decide +kernel
theorem dX9_endsInTime_6 : decode cX9_endsInTime 6 = .ok (.iadd, 1) := by decide +kernel
theorem dX9_endsInTime_7 : decode cX9_endsInTime 7 = .ok (.aload_n 0, 1) := by decide +kernel
theorem dX9_endsInTime_8 : decode cX9_endsInTime 8 = .ok (.getfield 34, 3) := by decide +kernel
theorem dX9_endsInTime_11 : decode cX9_endsInTime 11 = .ok (.if_icmp .gt 7, 3) := by decide +kernel
theorem dX9_endsInTime_14 : decode cX9_endsInTime 14 = .ok (.iconst 1, 1) := by decide +kernel
theorem dX9_endsInTime_15 : decode cX9_endsInTime 15 = .ok (.goto 4, 3) := by decide +kernel
theorem dX9_endsInTime_18 : decode cX9_endsInTime 18 = .ok (.iconst 0, 1) := by decide +kernel
theorem dX9_endsInTime_19 : decode cX9_endsInTime 19 = .ok (.ireturn, 1) := by decide +kernel
theorem dX9_isOpen_0 : decode cX9_isOpen 0 = .ok (.iload_n 2, 1) := by decide +kernel
theorem dX9_isOpen_1 : decode cX9_isOpen 1 = .ok (.aload_n 0, 1) := by decide +kernel
theorem dX9_isOpen_2 : decode cX9_isOpen 2 = .ok (.getfield 15, 3) := by decide +kernel
theorem dX9_isOpen_5 : decode cX9_isOpen 5 = .ok (.iload_n 1, 1) := by decide +kernel
theorem dX9_isOpen_6 : decode cX9_isOpen 6 = .ok (.iaload, 1) := by decide +kernel
theorem dX9_isOpen_7 : decode cX9_isOpen 7 = .ok (.iadd, 1) := by decide +kernel
theorem dX9_isOpen_8 : decode cX9_isOpen 8 = .ok (.aload_n 0, 1) := by decide +kernel
theorem dX9_isOpen_9 : decode cX9_isOpen 9 = .ok (.getfield 22, 3) := by decide +kernel
theorem dX9_isOpen_12 : decode cX9_isOpen 12 = .ok (.iload_n 1, 1) := by decide +kernel
theorem dX9_isOpen_13 : decode cX9_isOpen 13 = .ok (.iaload, 1) := by decide +kernel
theorem dX9_isOpen_14 : decode cX9_isOpen 14 = .ok (.if_icmp .lt 31, 3) := by decide +kernel
theorem dX9_isOpen_17 : decode cX9_isOpen 17 = .ok (.iload_n 2, 1) := by decide +kernel
theorem dX9_isOpen_18 : decode cX9_isOpen 18 = .ok (.aload_n 0, 1) := by decide +kernel
theorem dX9_isOpen_19 : decode cX9_isOpen 19 = .ok (.getfield 15, 3) := by decide +kernel
theorem dX9_isOpen_22 : decode cX9_isOpen 22 = .ok (.iload_n 1, 1) := by decide +kernel
theorem dX9_isOpen_23 : decode cX9_isOpen 23 = .ok (.iaload, 1) := by decide +kernel
theorem dX9_isOpen_24 : decode cX9_isOpen 24 = .ok (.iadd, 1) := by decide +kernel
theorem dX9_isOpen_25 : decode cX9_isOpen 25 = .ok (.aload_n 0, 1) := by decide +kernel
theorem dX9_isOpen_26 : decode cX9_isOpen 26 = .ok (.getfield 19, 3) := by decide +kernel
theorem dX9_isOpen_29 : decode cX9_isOpen 29 = .ok (.iload_n 1, 1) := by decide +kernel
theorem dX9_isOpen_30 : decode cX9_isOpen 30 = .ok (.iaload, 1) := by decide +kernel
theorem dX9_isOpen_31 : decode cX9_isOpen 31 = .ok (.iadd, 1) := by decide +kernel
theorem dX9_isOpen_32 : decode cX9_isOpen 32 = .ok (.aload_n 0, 1) := by decide +kernel
theorem dX9_isOpen_33 : decode cX9_isOpen 33 = .ok (.getfield 25, 3) := by decide +kernel
theorem dX9_isOpen_36 : decode cX9_isOpen 36 = .ok (.iload_n 1, 1) := by decide +kernel
theorem dX9_isOpen_37 : decode cX9_isOpen 37 = .ok (.iaload, 1) := by decide +kernel
theorem dX9_isOpen_38 : decode cX9_isOpen 38 = .ok (.if_icmp .gt 7, 3) := by decide +kernel
theorem dX9_isOpen_41 : decode cX9_isOpen 41 = .ok (.iconst 1, 1) := by decide +kernel
theorem dX9_isOpen_42 : decode cX9_isOpen 42 = .ok (.goto 4, 3) := by decide +kernel
theorem dX9_isOpen_45 : decode cX9_isOpen 45 = .ok (.iconst 0, 1) := by decide +kernel
theorem dX9_isOpen_46 : decode cX9_isOpen 46 = .ok (.ireturn, 1) := by decide +kernel
theorem dX9_setLasts_0 : decode cX9_setLasts 0 = .ok (.iconst 0, 1) := by decide +kernel
theorem dX9_setLasts_1 : decode cX9_setLasts 1 = .ok (.istore 5, 2) := by decide +kernel
theorem dX9_setLasts_3 : decode cX9_setLasts 3 = .ok (.iconst 0, 1) := by decide +kernel
theorem dX9_setLasts_4 : decode cX9_setLasts 4 = .ok (.istore 6, 2) := by decide +kernel
theorem dX9_setLasts_6 : decode cX9_setLasts 6 = .ok (.iload 6, 2) := by decide +kernel
theorem dX9_setLasts_8 : decode cX9_setLasts 8 = .ok (.aload_n 0, 1) := by decide +kernel
theorem dX9_setLasts_9 : decode cX9_setLasts 9 = .ok (.getfield 50, 3) := by decide +kernel
theorem dX9_setLasts_12 : decode cX9_setLasts 12 = .ok (.if_icmp .ge 80, 3) := by decide +kernel
theorem dX9_setLasts_15 : decode cX9_setLasts 15 = .ok (.iload_n 3, 1) := by decide +kernel
theorem dX9_setLasts_16 : decode cX9_setLasts 16 = .ok (.iload 6, 2) := by decide +kernel
theorem dX9_setLasts_18 : decode cX9_setLasts 18 = .ok (.iload 4, 2) := by decide +kernel
theorem dX9_setLasts_20 : decode cX9_setLasts 20 = .ok (.imul, 1) := by decide +kernel
theorem dX9_setLasts_21 : decode cX9_setLasts 21 = .ok (.iadd, 1) := by decide +kernel
theorem dX9_setLasts_22 : decode cX9_setLasts 22 = .ok (.istore 7, 2) := by decide +kernel
theorem dX9_setLasts_24 : decode cX9_setLasts 24 = .ok (.iload_n 1, 1) := by decide +kernel
theorem dX9_setLasts_25 : decode cX9_setLasts 25 = .ok (.ifCond .ne 11, 3) := by decide +kernel
theorem dX9_setLasts_28 : decode cX9_setLasts 28 = .ok (.iload 7, 2) := by decide +kernel
theorem dX9_setLasts_30 : decode cX9_setLasts 30 = .ok (.i2b, 1) := by decide +kernel
theorem dX9_setLasts_31 : decode cX9_setLasts 31 = .ok (.istore 7, 2) := by decide +kernel
theorem dX9_setLasts_33 : decode cX9_setLasts 33 = .ok (.goto 13, 3) := by decide +kernel
theorem dX9_setLasts_36 : decode cX9_setLasts 36 = .ok (.iload_n 1, 1) := by decide +kernel
theorem dX9_setLasts_37 : decode cX9_setLasts 37 = .ok (.iconst 1, 1) := by decide +kernel
theorem dX9_setLasts_38 : decode cX9_setLasts 38 = .ok (.if_icmp .ne 8, 3) := by decide +kernel
theorem dX9_setLasts_41 : decode cX9_setLasts 41 = .ok (.iload 7, 2) := by decide +kernel
theorem dX9_setLasts_43 : decode cX9_setLasts 43 = .ok (.i2s, 1) := by decide +kernel
theorem dX9_setLasts_44 : decode cX9_setLasts 44 = .ok (.istore 7, 2) := by decide +kernel
theorem dX9_setLasts_46 : decode cX9_setLasts 46 = .ok (.aload_n 0, 1) := by decide +kernel
theorem dX9_setLasts_47 : decode cX9_setLasts 47 = .ok (.getfield 19, 3) := by decide +kernel
theorem dX9_setLasts_50 : decode cX9_setLasts 50 = .ok (.iload 6, 2) := by decide +kernel
theorem dX9_setLasts_52 : decode cX9_setLasts 52 = .ok (.iload 6, 2) := by decide +kernel
theorem dX9_setLasts_54 : decode cX9_setLasts 54 = .ok (.iload_n 2, 1) := by decide +kernel
theorem dX9_setLasts_55 : decode cX9_setLasts 55 = .ok (.if_icmp .ge 17, 3) := by decide +kernel
theorem dX9_setLasts_58 : decode cX9_setLasts 58 = .ok (.iconst 1, 1) := by decide +kernel
theorem dX9_setLasts_59 : decode cX9_setLasts 59 = .ok (.bipush 9, 2) := by decide +kernel
theorem dX9_setLasts_61 : decode cX9_setLasts 61 = .ok (.iload 7, 2) := by decide +kernel
theorem dX9_setLasts_63 : decode cX9_setLasts 63 = .ok (.invokestatic 64, 3) := by decide +kernel
theorem dX9_setLasts_66 : decode cX9_setLasts 66 = .ok (.invokestatic 70, 3) := by decide +kernel
theorem dX9_setLasts_69 : decode cX9_setLasts 69 = .ok (.goto 4, 3) := by decide +kernel
theorem dX9_setLasts_72 : decode cX9_setLasts 72 = .ok (.iconst 1, 1) := by decide +kernel
theorem dX9_setLasts_73 : decode cX9_setLasts 73 = .ok (.iastore, 1) := by decide +kernel
theorem dX9_setLasts_74 : decode cX9_setLasts 74 = .ok (.iload 5, 2) := by decide +kernel
theorem dX9_setLasts_76 : decode cX9_setLasts 76 = .ok (.aload_n 0, 1) := by decide +kernel
theorem dX9_setLasts_77 : decode cX9_setLasts 77 = .ok (.getfield 19, 3) := by decide +kernel
theorem dX9_setLasts_80 : decode cX9_setLasts 80 = .ok (.iload 6, 2) := by decide +kernel
theorem dX9_setLasts_82 : decode cX9_setLasts 82 = .ok (.iaload, 1) := by decide +kernel
theorem dX9_setLasts_83 : decode cX9_setLasts 83 = .ok (.iadd, 1) := by decide +kernel
theorem dX9_setLasts_84 : decode cX9_setLasts 84 = .ok (.istore 5, 2) := by decide +kernel
theorem dX9_setLasts_86 : decode cX9_setLasts 86 = .ok (.iinc 6 1, 3) := by decide +kernel
theorem dX9_setLasts_89 : decode cX9_setLasts 89 = .ok (.goto (-83), 3) := by decide +kernel
theorem dX9_setLasts_92 : decode cX9_setLasts 92 = .ok (.iload 5, 2) := by decide +kernel
theorem dX9_setLasts_94 : decode cX9_setLasts 94 = .ok (.ireturn, 1) := by decide +kernel
theorem dX9_read_0 : decode cX9_read 0 = .ok (.aload_n 1, 1) := by decide +kernel
theorem dX9_read_1 : decode cX9_read 1 = .ok (.bipush 76, 2) := by decide +kernel
theorem dX9_read_3 : decode cX9_read 3 = .ok (.invokevirtual 73, 3) := by decide +kernel
theorem dX9_read_6 : decode cX9_read 6 = .ok (.aload_n 1, 1) := by decide +kernel
theorem dX9_read_7 : decode cX9_read 7 = .ok (.invokevirtual 79, 3) := by decide +kernel
theorem dX9_read_10 : decode cX9_read 10 = .ok (.ifCond .eq 5, 3) := by decide +kernel
theorem dX9_read_13 : decode cX9_read 13 = .ok (.iconst 0, 1) := by decide +kernel
theorem dX9_read_14 : decode cX9_read 14 = .ok (.ireturn, 1) := by decide +kernel
theorem dX9_read_15 : decode cX9_read 15 = .ok (.aload_n 0, 1) := by decide +kernel
theorem dX9_read_16 : decode cX9_read 16 = .ok (.aload_n 0, 1) := by decide +kernel
theorem dX9_read_17 : decode cX9_read 17 = .ok (.getfield 47, 3) := by decide +kernel
theorem dX9_read_20 : decode cX9_read 20 = .ok (.putfield 83, 3) := by decide +kernel
theorem dX9_read_23 : decode cX9_read 23 = .ok (.aload_n 0, 1) := by decide +kernel
theorem dX9_read_24 : decode cX9_read 24 = .ok (.aload_n 0, 1) := by decide +kernel
theorem dX9_read_25 : decode cX9_read 25 = .ok (.getfield 50, 3) := by decide +kernel
theorem dX9_read_28 : decode cX9_read 28 = .ok (.putfield 86, 3) := by decide +kernel
theorem dX9_read_31 : decode cX9_read 31 = .ok (.iconst 1, 1) := by decide +kernel
theorem dX9_read_32 : decode cX9_read 32 = .ok (.istore_n 2, 1) := by decide +kernel
theorem dX9_read_33 : decode cX9_read 33 = .ok (.iload_n 2, 1) := by decide +kernel
theorem dX9_read_34 : decode cX9_read 34 = .ok (.bipush 76, 2) := by decide +kernel
theorem dX9_read_36 : decode cX9_read 36 = .ok (.if_icmp .gt 68, 3) := by decide +kernel
theorem dX9_read_39 : decode cX9_read 39 = .ok (.aload_n 0, 1) := by decide +kernel
theorem dX9_read_40 : decode cX9_read 40 = .ok (.aload_n 1, 1) := by decide +kernel
theorem dX9_read_41 : decode cX9_read 41 = .ok (.invokevirtual 89, 3) := by decide +kernel
theorem dX9_read_44 : decode cX9_read 44 = .ok (.ifCond .ne 8, 3) := by decide +kernel
theorem dX9_read_47 : decode cX9_read 47 = .ok (.aload_n 1, 1) := by decide +kernel
theorem dX9_read_48 : decode cX9_read 48 = .ok (.invokevirtual 93, 3) := by decide +kernel
theorem dX9_read_51 : decode cX9_read 51 = .ok (.ireturn, 1) := by decide +kernel
theorem dX9_read_52 : decode cX9_read 52 = .ok (.aload_n 1, 1) := by decide +kernel
theorem dX9_read_53 : decode cX9_read 53 = .ok (.invokevirtual 97, 3) := by decide +kernel
theorem dX9_read_56 : decode cX9_read 56 = .ok (.ifCond .eq 28, 3) := by decide +kernel
theorem dX9_read_59 : decode cX9_read 59 = .ok (.aload_n 1, 1) := by decide +kernel
theorem dX9_read_60 : decode cX9_read 60 = .ok (.invokevirtual 100, 3) := by decide +kernel
theorem dX9_read_63 : decode cX9_read 63 = .ok (.ifCond .ne 21, 3) := by decide +kernel
theorem dX9_read_66 : decode cX9_read 66 = .ok (.aload_n 0, 1) := by decide +kernel
theorem dX9_read_67 : decode cX9_read 67 = .ok (.aload_n 0, 1) := by decide +kernel
theorem dX9_read_68 : decode cX9_read 68 = .ok (.getfield 83, 3) := by decide +kernel
theorem dX9_read_71 : decode cX9_read 71 = .ok (.putfield 47, 3) := by decide +kernel
theorem dX9_read_74 : decode cX9_read 74 = .ok (.aload_n 0, 1) := by decide +kernel
theorem dX9_read_75 : decode cX9_read 75 = .ok (.aload_n 0, 1) := by decide +kernel
theorem dX9_read_76 : decode cX9_read 76 = .ok (.getfield 86, 3) := by decide +kernel
theorem dX9_read_79 : decode cX9_read 79 = .ok (.putfield 50, 3) := by decide +kernel
theorem dX9_read_82 : decode cX9_read 82 = .ok (.iload_n 2, 1) := by decide +kernel
theorem dX9_read_83 : decode cX9_read 83 = .ok (.ireturn, 1) := by decide +kernel
theorem dX9_read_84 : decode cX9_read 84 = .ok (.aload_n 1, 1) := by decide +kernel
theorem dX9_read_85 : decode cX9_read 85 = .ok (.bipush 59, 2) := by decide +kernel
theorem dX9_read_87 : decode cX9_read 87 = .ok (.invokevirtual 103, 3) := by decide +kernel
theorem dX9_read_90 : decode cX9_read 90 = .ok (.ifCond .ne 8, 3) := by decide +kernel
theorem dX9_read_93 : decode cX9_read 93 = .ok (.aload_n 1, 1) := by decide +kernel
theorem dX9_read_94 : decode cX9_read 94 = .ok (.invokevirtual 93, 3) := by decide +kernel
theorem dX9_read_97 : decode cX9_read 97 = .ok (.ireturn, 1) := by decide +kernel
theorem dX9_read_98 : decode cX9_read 98 = .ok (.iinc 2 1, 3) := by decide +kernel
theorem dX9_read_101 : decode cX9_read 101 = .ok (.goto (-68), 3) := by decide +kernel
theorem dX9_read_104 : decode cX9_read 104 = .ok (.aload_n 1, 1) := by decide +kernel
theorem dX9_read_105 : decode cX9_read 105 = .ok (.invokevirtual 93, 3) := by decide +kernel
theorem dX9_read_108 : decode cX9_read 108 = .ok (.ireturn, 1) := by decide +kernel
theorem dX9_readLine_0 : decode cX9_readLine 0 = .ok (.aload_n 0, 1) := by decide +kernel
theorem dX9_readLine_1 : decode cX9_readLine 1 = .ok (.getfield 83, 3) := by decide +kernel
theorem dX9_readLine_4 : decode cX9_readLine 4 = .ok (.bipush 6, 2) := by decide +kernel
theorem dX9_readLine_6 : decode cX9_readLine 6 = .ok (.if_icmp .ge 39, 3) := by decide +kernel
theorem dX9_readLine_9 : decode cX9_readLine 9 = .ok (.aload_n 1, 1) := by decide +kernel
theorem dX9_readLine_10 : decode cX9_readLine 10 = .ok (.bipush 112, 2) := by decide +kernel
theorem dX9_readLine_12 : decode cX9_readLine 12 = .ok (.invokevirtual 103, 3) := by decide +kernel
theorem dX9_readLine_15 : decode cX9_readLine 15 = .ok (.ifCond .eq 30, 3) := by decide +kernel
theorem dX9_readLine_18 : decode cX9_readLine 18 = .ok (.aload_n 0, 1) := by decide +kernel
theorem dX9_readLine_19 : decode cX9_readLine 19 = .ok (.getfield 11, 3) := by decide +kernel
theorem dX9_readLine_22 : decode cX9_readLine 22 = .ok (.aload_n 0, 1) := by decide +kernel
theorem dX9_readLine_23 : decode cX9_readLine 23 = .ok (.getfield 83, 3) := by decide +kernel
theorem dX9_readLine_26 : decode cX9_readLine 26 = .ok (.aload_n 1, 1) := by decide +kernel
theorem dX9_readLine_27 : decode cX9_readLine 27 = .ok (.bipush 33, 2) := by decide +kernel
theorem dX9_readLine_29 : decode cX9_readLine 29 = .ok (.invokevirtual 103, 3) := by decide +kernel
theorem dX9_readLine_32 : decode cX9_readLine 32 = .ok (.bastore, 1) := by decide +kernel
theorem dX9_readLine_33 : decode cX9_readLine 33 = .ok (.aload_n 0, 1) := by decide +kernel
theorem dX9_readLine_34 : decode cX9_readLine 34 = .ok (.dup, 1) := by decide +kernel
theorem dX9_readLine_35 : decode cX9_readLine 35 = .ok (.getfield 83, 3) := by decide +kernel
theorem dX9_readLine_38 : decode cX9_readLine 38 = .ok (.iconst 1, 1) := by decide +kernel
theorem dX9_readLine_39 : decode cX9_readLine 39 = .ok (.iadd, 1) := by decide +kernel
theorem dX9_readLine_40 : decode cX9_readLine 40 = .ok (.putfield 83, 3) := by decide +kernel
theorem dX9_readLine_43 : decode cX9_readLine 43 = .ok (.iconst 1, 1) := by decide +kernel
theorem dX9_readLine_44 : decode cX9_readLine 44 = .ok (.ireturn, 1) := by decide +kernel
theorem dX9_readLine_45 : decode cX9_readLine 45 = .ok (.aload_n 0, 1) := by decide +kernel
theorem dX9_readLine_46 : decode cX9_readLine 46 = .ok (.getfield 86, 3) := by decide +kernel
theorem dX9_readLine_49 : decode cX9_readLine 49 = .ok (.bipush 8, 2) := by decide +kernel
theorem dX9_readLine_51 : decode cX9_readLine 51 = .ok (.if_icmp .ge 28, 3) := by decide +kernel
theorem dX9_readLine_54 : decode cX9_readLine 54 = .ok (.aload_n 1, 1) := by decide +kernel
theorem dX9_readLine_55 : decode cX9_readLine 55 = .ok (.bipush 101, 2) := by decide +kernel
theorem dX9_readLine_57 : decode cX9_readLine 57 = .ok (.invokevirtual 103, 3) := by decide +kernel
theorem dX9_readLine_60 : decode cX9_readLine 60 = .ok (.ifCond .eq 19, 3) := by decide +kernel
theorem dX9_readLine_63 : decode cX9_readLine 63 = .ok (.aload_n 0, 1) := by decide +kernel
theorem dX9_readLine_64 : decode cX9_readLine 64 = .ok (.aload_n 1, 1) := by decide +kernel
theorem dX9_readLine_65 : decode cX9_readLine 65 = .ok (.aload_n 0, 1) := by decide +kernel
theorem dX9_readLine_66 : decode cX9_readLine 66 = .ok (.getfield 86, 3) := by decide +kernel
theorem dX9_readLine_69 : decode cX9_readLine 69 = .ok (.invokevirtual 106, 3) := by decide +kernel
theorem dX9_readLine_72 : decode cX9_readLine 72 = .ok (.ifCond .eq 7, 3) := by decide +kernel
theorem dX9_readLine_75 : decode cX9_readLine 75 = .ok (.iconst 1, 1) := by decide +kernel
theorem dX9_readLine_76 : decode cX9_readLine 76 = .ok (.goto 4, 3) := by decide +kernel
theorem dX9_readLine_79 : decode cX9_readLine 79 = .ok (.iconst 0, 1) := by decide +kernel
theorem dX9_readLine_80 : decode cX9_readLine 80 = .ok (.ireturn, 1) := by decide +kernel
theorem dX9_readErrand_0 : decode cX9_readErrand 0 = .ok (.aload_n 0, 1) := by decide +kernel
theorem dX9_readErrand_1 : decode cX9_readErrand 1 = .ok (.getfield 15, 3) := by decide +kernel
theorem dX9_readErrand_4 : decode cX9_readErrand 4 = .ok (.iload_n 2, 1) := by decide +kernel
theorem dX9_readErrand_5 : decode cX9_readErrand 5 = .ok (.aload_n 1, 1) := by decide +kernel
theorem dX9_readErrand_6 : decode cX9_readErrand 6 = .ok (.iconst 0, 1) := by decide +kernel
theorem dX9_readErrand_7 : decode cX9_readErrand 7 = .ok (.invokevirtual 110, 3) := by decide +kernel
theorem dX9_readErrand_10 : decode cX9_readErrand 10 = .ok (.iastore, 1) := by decide +kernel
theorem dX9_readErrand_11 : decode cX9_readErrand 11 = .ok (.aload_n 0, 1) := by decide +kernel
theorem dX9_readErrand_12 : decode cX9_readErrand 12 = .ok (.getfield 19, 3) := by decide +kernel
theorem dX9_readErrand_15 : decode cX9_readErrand 15 = .ok (.iload_n 2, 1) := by decide +kernel
theorem dX9_readErrand_16 : decode cX9_readErrand 16 = .ok (.aload_n 0, 1) := by decide +kernel
theorem dX9_readErrand_17 : decode cX9_readErrand 17 = .ok (.getfield 15, 3) := by decide +kernel
theorem dX9_readErrand_20 : decode cX9_readErrand 20 = .ok (.iload_n 2, 1) := by decide +kernel
theorem dX9_readErrand_21 : decode cX9_readErrand 21 = .ok (.iaload, 1) := by decide +kernel
theorem dX9_readErrand_22 : decode cX9_readErrand 22 = .ok (.ifCond .ge 7, 3) := by decide +kernel
theorem dX9_readErrand_25 : decode cX9_readErrand 25 = .ok (.iconst (-1), 1) := by decide +kernel
theorem dX9_readErrand_26 : decode cX9_readErrand 26 = .ok (.goto 8, 3) := by decide +kernel
theorem dX9_readErrand_29 : decode cX9_readErrand 29 = .ok (.aload_n 1, 1) := by decide +kernel
theorem dX9_readErrand_30 : decode cX9_readErrand 30 = .ok (.iconst 1, 1) := by decide +kernel
theorem dX9_readErrand_31 : decode cX9_readErrand 31 = .ok (.invokevirtual 110, 3) := by decide +kernel
theorem dX9_readErrand_34 : decode cX9_readErrand 34 = .ok (.iastore, 1) := by decide +kernel
theorem dX9_readErrand_35 : decode cX9_readErrand 35 = .ok (.aload_n 0, 1) := by decide +kernel
theorem dX9_readErrand_36 : decode cX9_readErrand 36 = .ok (.getfield 22, 3) := by decide +kernel
theorem dX9_readErrand_39 : decode cX9_readErrand 39 = .ok (.iload_n 2, 1) := by decide +kernel
theorem dX9_readErrand_40 : decode cX9_readErrand 40 = .ok (.aload_n 0, 1) := by decide +kernel
theorem dX9_readErrand_41 : decode cX9_readErrand 41 = .ok (.getfield 19, 3) := by decide +kernel
theorem dX9_readErrand_44 : decode cX9_readErrand 44 = .ok (.iload_n 2, 1) := by decide +kernel
theorem dX9_readErrand_45 : decode cX9_readErrand 45 = .ok (.iaload, 1) := by decide +kernel
theorem dX9_readErrand_46 : decode cX9_readErrand 46 = .ok (.ifCond .lt 20, 3) := by decide +kernel
theorem dX9_readErrand_49 : decode cX9_readErrand 49 = .ok (.aload_n 1, 1) := by decide +kernel
theorem dX9_readErrand_50 : decode cX9_readErrand 50 = .ok (.bipush 64, 2) := by decide +kernel
theorem dX9_readErrand_52 : decode cX9_readErrand 52 = .ok (.invokevirtual 103, 3) := by decide +kernel
theorem dX9_readErrand_55 : decode cX9_readErrand 55 = .ok (.ifCond .eq 11, 3) := by decide +kernel
theorem dX9_readErrand_58 : decode cX9_readErrand 58 = .ok (.aload_n 1, 1) := by decide +kernel
theorem dX9_readErrand_59 : decode cX9_readErrand 59 = .ok (.iconst 2, 1) := by decide +kernel
theorem dX9_readErrand_60 : decode cX9_readErrand 60 = .ok (.invokevirtual 113, 3) := by decide +kernel
theorem dX9_readErrand_63 : decode cX9_readErrand 63 = .ok (.goto 4, 3) := by decide +kernel
theorem dX9_readErrand_66 : decode cX9_readErrand 66 = .ok (.iconst (-1), 1) := by decide +kernel
theorem dX9_readErrand_67 : decode cX9_readErrand 67 = .ok (.iastore, 1) := by decide +kernel
theorem dX9_readErrand_68 : decode cX9_readErrand 68 = .ok (.aload_n 0, 1) := by decide +kernel
theorem dX9_readErrand_69 : decode cX9_readErrand 69 = .ok (.getfield 25, 3) := by decide +kernel
theorem dX9_readErrand_72 : decode cX9_readErrand 72 = .ok (.iload_n 2, 1) := by decide +kernel
theorem dX9_readErrand_73 : decode cX9_readErrand 73 = .ok (.aload_n 0, 1) := by decide +kernel
theorem dX9_readErrand_74 : decode cX9_readErrand 74 = .ok (.getfield 22, 3) := by decide +kernel
theorem dX9_readErrand_77 : decode cX9_readErrand 77 = .ok (.iload_n 2, 1) := by decide +kernel
theorem dX9_readErrand_78 : decode cX9_readErrand 78 = .ok (.iaload, 1) := by decide +kernel
theorem dX9_readErrand_79 : decode cX9_readErrand 79 = .ok (.ifCond .lt 20, 3) := by decide +kernel
theorem dX9_readErrand_82 : decode cX9_readErrand 82 = .ok (.aload_n 1, 1) := by decide +kernel
theorem dX9_readErrand_83 : decode cX9_readErrand 83 = .ok (.bipush 45, 2) := by decide +kernel
theorem dX9_readErrand_85 : decode cX9_readErrand 85 = .ok (.invokevirtual 103, 3) := by decide +kernel
theorem dX9_readErrand_88 : decode cX9_readErrand 88 = .ok (.ifCond .eq 11, 3) := by decide +kernel
theorem dX9_readErrand_91 : decode cX9_readErrand 91 = .ok (.aload_n 1, 1) := by decide +kernel
theorem dX9_readErrand_92 : decode cX9_readErrand 92 = .ok (.iconst 2, 1) := by decide +kernel
theorem dX9_readErrand_93 : decode cX9_readErrand 93 = .ok (.invokevirtual 113, 3) := by decide +kernel
theorem dX9_readErrand_96 : decode cX9_readErrand 96 = .ok (.goto 4, 3) := by decide +kernel
theorem dX9_readErrand_99 : decode cX9_readErrand 99 = .ok (.iconst (-1), 1) := by decide +kernel
theorem dX9_readErrand_100 : decode cX9_readErrand 100 = .ok (.iastore, 1) := by decide +kernel
theorem dX9_readErrand_101 : decode cX9_readErrand 101 = .ok (.aload_n 0, 1) := by decide +kernel
theorem dX9_readErrand_102 : decode cX9_readErrand 102 = .ok (.getfield 25, 3) := by decide +kernel
theorem dX9_readErrand_105 : decode cX9_readErrand 105 = .ok (.iload_n 2, 1) := by decide +kernel
theorem dX9_readErrand_106 : decode cX9_readErrand 106 = .ok (.iaload, 1) := by decide +kernel
theorem dX9_readErrand_107 : decode cX9_readErrand 107 = .ok (.ifCond .ge 5, 3) := by decide +kernel
theorem dX9_readErrand_110 : decode cX9_readErrand 110 = .ok (.iconst 0, 1) := by decide +kernel
theorem dX9_readErrand_111 : decode cX9_readErrand 111 = .ok (.ireturn, 1) := by decide +kernel
theorem dX9_readErrand_112 : decode cX9_readErrand 112 = .ok (.aload_n 0, 1) := by decide +kernel
theorem dX9_readErrand_113 : decode cX9_readErrand 113 = .ok (.getfield 25, 3) := by decide +kernel
theorem dX9_readErrand_116 : decode cX9_readErrand 116 = .ok (.iload_n 2, 1) := by decide +kernel
theorem dX9_readErrand_117 : decode cX9_readErrand 117 = .ok (.iaload, 1) := by decide +kernel
theorem dX9_readErrand_118 : decode cX9_readErrand 118 = .ok (.aload_n 0, 1) := by decide +kernel
theorem dX9_readErrand_119 : decode cX9_readErrand 119 = .ok (.getfield 22, 3) := by decide +kernel
theorem dX9_readErrand_122 : decode cX9_readErrand 122 = .ok (.iload_n 2, 1) := by decide +kernel
theorem dX9_readErrand_123 : decode cX9_readErrand 123 = .ok (.iaload, 1) := by decide +kernel
theorem dX9_readErrand_124 : decode cX9_readErrand 124 = .ok (.if_icmp .ge 9, 3) := by decide +kernel
theorem dX9_readErrand_127 : decode cX9_readErrand 127 = .ok (.aload_n 1, 1) := by decide +kernel
theorem dX9_readErrand_128 : decode cX9_readErrand 128 = .ok (.invokevirtual 116, 3) := by decide +kernel
theorem dX9_readErrand_131 : decode cX9_readErrand 131 = .ok (.iconst 0, 1) := by decide +kernel
theorem dX9_readErrand_132 : decode cX9_readErrand 132 = .ok (.ireturn, 1) := by decide +kernel
theorem dX9_readErrand_133 : decode cX9_readErrand 133 = .ok (.aload_n 0, 1) := by decide +kernel
theorem dX9_readErrand_134 : decode cX9_readErrand 134 = .ok (.getfield 28, 3) := by decide +kernel
theorem dX9_readErrand_137 : decode cX9_readErrand 137 = .ok (.iload_n 2, 1) := by decide +kernel
theorem dX9_readErrand_138 : decode cX9_readErrand 138 = .ok (.aload_n 1, 1) := by decide +kernel
theorem dX9_readErrand_139 : decode cX9_readErrand 139 = .ok (.bipush 43, 2) := by decide +kernel
theorem dX9_readErrand_141 : decode cX9_readErrand 141 = .ok (.invokevirtual 103, 3) := by decide +kernel
theorem dX9_readErrand_144 : decode cX9_readErrand 144 = .ok (.ifCond .eq 7, 3) := by decide +kernel
theorem dX9_readErrand_147 : decode cX9_readErrand 147 = .ok (.iconst 1, 1) := by decide +kernel
theorem dX9_readErrand_148 : decode cX9_readErrand 148 = .ok (.goto 17, 3) := by decide +kernel
theorem dX9_readErrand_151 : decode cX9_readErrand 151 = .ok (.aload_n 1, 1) := by decide +kernel
theorem dX9_readErrand_152 : decode cX9_readErrand 152 = .ok (.bipush 42, 2) := by decide +kernel
theorem dX9_readErrand_154 : decode cX9_readErrand 154 = .ok (.invokevirtual 103, 3) := by decide +kernel
theorem dX9_readErrand_157 : decode cX9_readErrand 157 = .ok (.ifCond .eq 7, 3) := by decide +kernel
theorem dX9_readErrand_160 : decode cX9_readErrand 160 = .ok (.iconst 2, 1) := by decide +kernel
theorem dX9_readErrand_161 : decode cX9_readErrand 161 = .ok (.goto 4, 3) := by decide +kernel
theorem dX9_readErrand_164 : decode cX9_readErrand 164 = .ok (.iconst 0, 1) := by decide +kernel
theorem dX9_readErrand_165 : decode cX9_readErrand 165 = .ok (.iastore, 1) := by decide +kernel
theorem dX9_readErrand_166 : decode cX9_readErrand 166 = .ok (.aload_n 0, 1) := by decide +kernel
theorem dX9_readErrand_167 : decode cX9_readErrand 167 = .ok (.getfield 31, 3) := by decide +kernel
theorem dX9_readErrand_170 : decode cX9_readErrand 170 = .ok (.iload_n 2, 1) := by decide +kernel
theorem dX9_readErrand_171 : decode cX9_readErrand 171 = .ok (.aload_n 1, 1) := by decide +kernel
theorem dX9_readErrand_172 : decode cX9_readErrand 172 = .ok (.bipush 94, 2) := by decide +kernel
theorem dX9_readErrand_174 : decode cX9_readErrand 174 = .ok (.invokevirtual 103, 3) := by decide +kernel
theorem dX9_readErrand_177 : decode cX9_readErrand 177 = .ok (.bastore, 1) := by decide +kernel
theorem dX9_readErrand_178 : decode cX9_readErrand 178 = .ok (.aload_n 0, 1) := by decide +kernel
theorem dX9_readErrand_179 : decode cX9_readErrand 179 = .ok (.dup, 1) := by decide +kernel
theorem dX9_readErrand_180 : decode cX9_readErrand 180 = .ok (.getfield 86, 3) := by decide +kernel
theorem dX9_readErrand_183 : decode cX9_readErrand 183 = .ok (.iconst 1, 1) := by decide +kernel
theorem dX9_readErrand_184 : decode cX9_readErrand 184 = .ok (.iadd, 1) := by decide +kernel
theorem dX9_readErrand_185 : decode cX9_readErrand 185 = .ok (.putfield 86, 3) := by decide +kernel
theorem dX9_readErrand_188 : decode cX9_readErrand 188 = .ok (.iconst 1, 1) := by decide +kernel
theorem dX9_readErrand_189 : decode cX9_readErrand 189 = .ok (.ireturn, 1) := by decide +kernel
