theorem dX10_init_0 : decode cX10_init 0 = .ok (.aload_n 0, 1) := by decide +kernel
theorem dX10_init_1 : decode cX10_init 1 = .ok (.invokespecial 3, 3) := by decide +kernel
theorem dX10_init_4 : decode cX10_init 4 = .ok (.aload_n 0, 1) := by decide +kernel
theorem dX10_init_5 : decode cX10_init 5 = .ok (.bipush 80, 2) := by decide +kernel
theorem dX10_init_7 : decode cX10_init 7 = .ok (.newarray .int, 2) := by decide +kernel
theorem dX10_init_9 : decode cX10_init 9 = .ok (.putfield 11, 3) := by decide +kernel
theorem dX10_init_12 : decode cX10_init 12 = .ok (.return_, 1) := by decide +kernel
theorem dX10_put_0 : decode cX10_put 0 = .ok (.aload_n 0, 1) := by decide +kernel
theorem dX10_put_1 : decode cX10_put 1 = .ok (.getfield 15, 3) := by decide +kernel
theorem dX10_put_4 : decode cX10_put 4 = .ok (.iconst 4, 1) := by decide +kernel
theorem dX10_put_5 : decode cX10_put 5 = .ok (.iadd, 1) := by decide +kernel
theorem dX10_put_6 : decode cX10_put 6 = .ok (.bipush 80, 2) := by decide +kernel
theorem dX10_put_8 : decode cX10_put 8 = .ok (.if_icmp .le 5, 3) := by decide +kernel
theorem dX10_put_11 : decode cX10_put 11 = .ok (.iconst 0, 1) := by decide +kernel
theorem dX10_put_12 : decode cX10_put 12 = .ok (.ireturn, 1) := by decide +kernel
theorem dX10_put_13 : decode cX10_put 13 = .ok (.bipush 24, 2) := by decide +kernel
theorem dX10_put_15 : decode cX10_put 15 = .ok (.istore_n 2, 1) := by decide +kernel
theorem dX10_put_16 : decode cX10_put 16 = .ok (.iload_n 2, 1) := by decide +kernel
theorem dX10_put_17 : decode cX10_put 17 = .ok (.ifCond .lt 35, 3) := by decide +kernel
theorem dX10_put_20 : decode cX10_put 20 = .ok (.aload_n 0, 1) := by decide +kernel
theorem dX10_put_21 : decode cX10_put 21 = .ok (.getfield 11, 3) := by decide +kernel
theorem dX10_put_24 : decode cX10_put 24 = .ok (.aload_n 0, 1) := by decide +kernel
theorem dX10_put_25 : decode cX10_put 25 = .ok (.getfield 15, 3) := by decide +kernel
theorem dX10_put_28 : decode cX10_put 28 = .ok (.iload_n 1, 1) := by decide +kernel
theorem dX10_put_29 : decode cX10_put 29 = .ok (.iload_n 2, 1) := by decide +kernel
theorem dX10_put_30 : decode cX10_put 30 = .ok (.iushr, 1) := by decide +kernel
theorem dX10_put_31 : decode cX10_put 31 = .ok (.sipush 255, 3) := by decide +kernel
theorem dX10_put_34 : decode cX10_put 34 = .ok (.iand, 1) := by decide +kernel
theorem dX10_put_35 : decode cX10_put 35 = .ok (.iastore, 1) := by decide +kernel
theorem dX10_put_36 : decode cX10_put 36 = .ok (.aload_n 0, 1) := by decide +kernel
theorem dX10_put_37 : decode cX10_put 37 = .ok (.dup, 1) := by decide +kernel
theorem dX10_put_38 : decode cX10_put 38 = .ok (.getfield 15, 3) := by decide +kernel
theorem dX10_put_41 : decode cX10_put 41 = .ok (.iconst 1, 1) := by decide +kernel
theorem dX10_put_42 : decode cX10_put 42 = .ok (.iadd, 1) := by decide +kernel
theorem dX10_put_43 : decode cX10_put 43 = .ok (.putfield 15, 3) := by decide +kernel
theorem dX10_put_46 : decode cX10_put 46 = .ok (.iinc 2 (-8), 3) := by decide +kernel
theorem dX10_put_49 : decode cX10_put 49 = .ok (.goto (-33), 3) := by decide +kernel
theorem dX10_put_52 : decode cX10_put 52 = .ok (.iconst 1, 1) := by decide +kernel
theorem dX10_put_53 : decode cX10_put 53 = .ok (.ireturn, 1) := by decide +kernel
theorem dX10_cut_0 : decode cX10_cut 0 = .ok (.iload_n 1, 1) := by decide +kernel
theorem dX10_cut_1 : decode cX10_cut 1 = .ok (.ifCond .lt 11, 3) := by decide +kernel
theorem dX10_cut_4 : decode cX10_cut 4 = .ok (.iload_n 1, 1) := by decide +kernel
theorem dX10_cut_5 : decode cX10_cut 5 = .ok (.aload_n 0, 1) := by decide +kernel
theorem dX10_cut_6 : decode cX10_cut 6 = .ok (.getfield 15, 3) := by decide +kernel
theorem dX10_cut_9 : decode cX10_cut 9 = .ok (.if_icmp .le 5, 3) := by decide +kernel
theorem dX10_cut_12 : decode cX10_cut 12 = .ok (.iconst 0, 1) := by decide +kernel
theorem dX10_cut_13 : decode cX10_cut 13 = .ok (.ireturn, 1) := by decide +kernel
theorem dX10_cut_14 : decode cX10_cut 14 = .ok (.aload_n 0, 1) := by decide +kernel
theorem dX10_cut_15 : decode cX10_cut 15 = .ok (.iload_n 1, 1) := by decide +kernel
theorem dX10_cut_16 : decode cX10_cut 16 = .ok (.putfield 15, 3) := by decide +kernel
theorem dX10_cut_19 : decode cX10_cut 19 = .ok (.iconst 1, 1) := by decide +kernel
theorem dX10_cut_20 : decode cX10_cut 20 = .ok (.ireturn, 1) := by decide +kernel
theorem dX10_begin_0 : decode cX10_begin 0 = .ok (.aload_n 0, 1) := by decide +kernel
theorem dX10_begin_1 : decode cX10_begin 1 = .ok (.aload_n 0, 1) := by decide +kernel
theorem dX10_begin_2 : decode cX10_begin 2 = .ok (.getfield 15, 3) := by decide +kernel
theorem dX10_begin_5 : decode cX10_begin 5 = .ok (.putfield 19, 3) := by decide +kernel
theorem dX10_begin_8 : decode cX10_begin 8 = .ok (.aload_n 0, 1) := by decide +kernel
theorem dX10_begin_9 : decode cX10_begin 9 = .ok (.iconst 0, 1) := by decide +kernel
theorem dX10_begin_10 : decode cX10_begin 10 = .ok (.putfield 15, 3) := by decide +kernel
theorem dX10_begin_13 : decode cX10_begin 13 = .ok (.aload_n 0, 1) := by decide +kernel
theorem dX10_begin_14 : decode cX10_begin 14 = .ok (.aload_n 0, 1) := by decide +kernel
theorem dX10_begin_15 : decode cX10_begin 15 = .ok (.getfield 19, 3) := by decide +kernel
theorem dX10_begin_18 : decode cX10_begin 18 = .ok (.iload_n 1, 1) := by decide +kernel
theorem dX10_begin_19 : decode cX10_begin 19 = .ok (.invokestatic 22, 3) := by decide +kernel
theorem dX10_begin_22 : decode cX10_begin 22 = .ok (.putfield 28, 3) := by decide +kernel
theorem dX10_begin_25 : decode cX10_begin 25 = .ok (.aload_n 0, 1) := by decide +kernel
theorem dX10_begin_26 : decode cX10_begin 26 = .ok (.iconst 0, 1) := by decide +kernel
theorem dX10_begin_27 : decode cX10_begin 27 = .ok (.putfield 31, 3) := by decide +kernel
theorem dX10_begin_30 : decode cX10_begin 30 = .ok (.return_, 1) := by decide +kernel
theorem dX10_rewind_0 : decode cX10_rewind 0 = .ok (.aload_n 0, 1) := by decide +kernel
theorem dX10_rewind_1 : decode cX10_rewind 1 = .ok (.iconst 0, 1) := by decide +kernel
theorem dX10_rewind_2 : decode cX10_rewind 2 = .ok (.putfield 31, 3) := by decide +kernel
theorem dX10_rewind_5 : decode cX10_rewind 5 = .ok (.return_, 1) := by decide +kernel
theorem dX10_isEmpty_0 : decode cX10_isEmpty 0 = .ok (.aload_n 0, 1) := by decide +kernel
theorem dX10_isEmpty_1 : decode cX10_isEmpty 1 = .ok (.getfield 19, 3) := by decide +kernel
theorem dX10_isEmpty_4 : decode cX10_isEmpty 4 = .ok (.ifCond .ne 7, 3) := by decide +kernel
theorem dX10_isEmpty_7 : decode cX10_isEmpty 7 = .ok (.iconst 1, 1) := by decide +kernel
theorem dX10_isEmpty_8 : decode cX10_isEmpty 8 = .ok (.goto 4, 3) := by decide +kernel
theorem dX10_isEmpty_11 : decode cX10_isEmpty 11 = .ok (.iconst 0, 1) := by decide +kernel
theorem dX10_isEmpty_12 : decode cX10_isEmpty 12 = .ok (.ireturn, 1) := by decide +kernel
theorem dX10_atEnd_0 : decode cX10_atEnd 0 = .ok (.aload_n 0, 1) := by decide +kernel
theorem dX10_atEnd_1 : decode cX10_atEnd 1 = .ok (.getfield 31, 3) := by decide +kernel
theorem dX10_atEnd_4 : decode cX10_atEnd 4 = .ok (.aload_n 0, 1) := by decide +kernel
theorem dX10_atEnd_5 : decode cX10_atEnd 5 = .ok (.getfield 28, 3) := by decide +kernel
theorem dX10_atEnd_8 : decode cX10_atEnd 8 = .ok (.if_icmp .lt 7, 3) := by decide +kernel
theorem dX10_atEnd_11 : decode cX10_atEnd 11 = .ok (.iconst 1, 1) := by decide +kernel
theorem dX10_atEnd_12 : decode cX10_atEnd 12 = .ok (.goto 4, 3) := by decide +kernel
theorem dX10_atEnd_15 : decode cX10_atEnd 15 = .ok (.iconst 0, 1) := by decide +kernel
theorem dX10_atEnd_16 : decode cX10_atEnd 16 = .ok (.ireturn, 1) := by decide +kernel
theorem dX10_hasMore_0 : decode cX10_hasMore 0 = .ok (.aload_n 0, 1) := by decide +kernel
theorem dX10_hasMore_1 : decode cX10_hasMore 1 = .ok (.getfield 19, 3) := by decide +kernel
theorem dX10_hasMore_4 : decode cX10_hasMore 4 = .ok (.aload_n 0, 1) := by decide +kernel
theorem dX10_hasMore_5 : decode cX10_hasMore 5 = .ok (.getfield 28, 3) := by decide +kernel
theorem dX10_hasMore_8 : decode cX10_hasMore 8 = .ok (.if_icmp .le 7, 3) := by decide +kernel
theorem dX10_hasMore_11 : decode cX10_hasMore 11 = .ok (.iconst 1, 1) := by decide +kernel
theorem dX10_hasMore_12 : decode cX10_hasMore 12 = .ok (.goto 4, 3) := by decide +kernel
theorem dX10_hasMore_15 : decode cX10_hasMore 15 = .ok (.iconst 0, 1) := by decide +kernel
theorem dX10_hasMore_16 : decode cX10_hasMore 16 = .ok (.ireturn, 1) := by decide +kernel
theorem dX10_refusal_0 : decode cX10_refusal 0 = .ok (.iconst (-1), 1) := by decide +kernel
theorem dX10_refusal_1 : decode cX10_refusal 1 = .ok (.aload_n 0, 1) := by decide +kernel
theorem dX10_refusal_2 : decode cX10_refusal 2 = .ok (.getfield 31, 3) := by decide +kernel
theorem dX10_refusal_5 : decode cX10_refusal 5 = .ok (.isub, 1) := by decide +kernel
theorem dX10_refusal_6 : decode cX10_refusal 6 = .ok (.ireturn, 1) := by decide +kernel
theorem dX10_peek_0 : decode cX10_peek 0 = .ok (.aload_n 0, 1) := by decide +kernel
theorem dX10_peek_1 : decode cX10_peek 1 = .ok (.getfield 31, 3) := by decide +kernel
theorem dX10_peek_4 : decode cX10_peek 4 = .ok (.ifCond .lt 26, 3) := by decide +kernel
theorem dX10_peek_7 : decode cX10_peek 7 = .ok (.aload_n 0, 1) := by decide +kernel
theorem dX10_peek_8 : decode cX10_peek 8 = .ok (.getfield 31, 3) := by decide +kernel
theorem dX10_peek_11 : decode cX10_peek 11 = .ok (.aload_n 0, 1) := by decide +kernel
theorem dX10_peek_12 : decode cX10_peek 12 = .ok (.getfield 28, 3) := by decide +kernel
theorem dX10_peek_15 : decode cX10_peek 15 = .ok (.if_icmp .ge 15, 3) := by decide +kernel
theorem dX10_peek_18 : decode cX10_peek 18 = .ok (.aload_n 0, 1) := by decide +kernel
theorem dX10_peek_19 : decode cX10_peek 19 = .ok (.getfield 11, 3) := by decide +kernel
theorem dX10_peek_22 : decode cX10_peek 22 = .ok (.aload_n 0, 1) := by decide +kernel
theorem dX10_peek_23 : decode cX10_peek 23 = .ok (.getfield 31, 3) := by decide +kernel
theorem dX10_peek_26 : decode cX10_peek 26 = .ok (.iaload, 1) := by decide +kernel
theorem dX10_peek_27 : decode cX10_peek 27 = .ok (.goto 4, 3) := by decide +kernel
theorem dX10_peek_30 : decode cX10_peek 30 = .ok (.iconst (-1), 1) := by decide +kernel
theorem dX10_peek_31 : decode cX10_peek 31 = .ok (.ireturn, 1) := by decide +kernel
theorem dX10_skip_0 : decode cX10_skip 0 = .ok (.aload_n 0, 1) := by decide +kernel
theorem dX10_skip_1 : decode cX10_skip 1 = .ok (.dup, 1) := by decide +kernel
theorem dX10_skip_2 : decode cX10_skip 2 = .ok (.getfield 31, 3) := by decide +kernel
theorem dX10_skip_5 : decode cX10_skip 5 = .ok (.aload_n 0, 1) := by decide +kernel
theorem dX10_skip_6 : decode cX10_skip 6 = .ok (.getfield 31, 3) := by decide +kernel
theorem dX10_skip_9 : decode cX10_skip 9 = .ok (.aload_n 0, 1) := by decide +kernel
theorem dX10_skip_10 : decode cX10_skip 10 = .ok (.getfield 28, 3) := by decide +kernel
theorem dX10_skip_13 : decode cX10_skip 13 = .ok (.if_icmp .ge 7, 3) := by decide +kernel
theorem dX10_skip_16 : decode cX10_skip 16 = .ok (.iconst 1, 1) := by decide +kernel
theorem dX10_skip_17 : decode cX10_skip 17 = .ok (.goto 4, 3) := by decide +kernel
theorem dX10_skip_20 : decode cX10_skip 20 = .ok (.iconst 0, 1) := by decide +kernel
theorem dX10_skip_21 : decode cX10_skip 21 = .ok (.iadd, 1) := by decide +kernel
theorem dX10_skip_22 : decode cX10_skip 22 = .ok (.putfield 31, 3) := by decide +kernel
theorem dX10_skip_25 : decode cX10_skip 25 = .ok (.return_, 1) := by decide +kernel
theorem dX10_stepBack_0 : decode cX10_stepBack 0 = .ok (.aload_n 0, 1) := by decide +kernel
theorem dX10_stepBack_1 : decode cX10_stepBack 1 = .ok (.dup, 1) := by decide +kernel
theorem dX10_stepBack_2 : decode cX10_stepBack 2 = .ok (.getfield 31, 3) := by decide +kernel
theorem dX10_stepBack_5 : decode cX10_stepBack 5 = .ok (.aload_n 0, 1) := by decide +kernel
theorem dX10_stepBack_6 : decode cX10_stepBack 6 = .ok (.getfield 31, 3) := by decide +kernel
theorem dX10_stepBack_9 : decode cX10_stepBack 9 = .ok (.ifCond .le 7, 3) := by decide +kernel
theorem dX10_stepBack_12 : decode cX10_stepBack 12 = .ok (.iconst 1, 1) := by decide +kernel
theorem dX10_stepBack_13 : decode cX10_stepBack 13 = .ok (.goto 4, 3) := by decide +kernel
theorem dX10_stepBack_16 : decode cX10_stepBack 16 = .ok (.iconst 0, 1) := by decide +kernel
theorem dX10_stepBack_17 : decode cX10_stepBack 17 = .ok (.isub, 1) := by decide +kernel
theorem dX10_stepBack_18 : decode cX10_stepBack 18 = .ok (.putfield 31, 3) := by decide +kernel
theorem dX10_stepBack_21 : decode cX10_stepBack 21 = .ok (.return_, 1) := by decide +kernel
theorem dX10_take_0 : decode cX10_take 0 = .ok (.aload_n 0, 1) := by decide +kernel
theorem dX10_take_1 : decode cX10_take 1 = .ok (.invokevirtual 34, 3) := by decide +kernel
theorem dX10_take_4 : decode cX10_take 4 = .ok (.iload_n 1, 1) := by decide +kernel
theorem dX10_take_5 : decode cX10_take 5 = .ok (.if_icmp .eq 5, 3) := by decide +kernel
theorem dX10_take_8 : decode cX10_take 8 = .ok (.iconst 0, 1) := by decide +kernel
theorem dX10_take_9 : decode cX10_take 9 = .ok (.ireturn, 1) := by decide +kernel
theorem dX10_take_10 : decode cX10_take 10 = .ok (.aload_n 0, 1) := by decide +kernel
theorem dX10_take_11 : decode cX10_take 11 = .ok (.invokevirtual 38, 3) := by decide +kernel
theorem dX10_take_14 : decode cX10_take 14 = .ok (.iconst 1, 1) := by decide +kernel
theorem dX10_take_15 : decode cX10_take 15 = .ok (.ireturn, 1) := by decide +kernel
theorem dX10_digit_0 : decode cX10_digit 0 = .ok (.aload_n 0, 1) := by decide +kernel
theorem dX10_digit_1 : decode cX10_digit 1 = .ok (.getfield 31, 3) := by decide +kernel
theorem dX10_digit_4 : decode cX10_digit 4 = .ok (.ifCond .lt 29, 3) := by decide +kernel
theorem dX10_digit_7 : decode cX10_digit 7 = .ok (.aload_n 0, 1) := by decide +kernel
theorem dX10_digit_8 : decode cX10_digit 8 = .ok (.getfield 31, 3) := by decide +kernel
theorem dX10_digit_11 : decode cX10_digit 11 = .ok (.aload_n 0, 1) := by decide +kernel
theorem dX10_digit_12 : decode cX10_digit 12 = .ok (.getfield 28, 3) := by decide +kernel
theorem dX10_digit_15 : decode cX10_digit 15 = .ok (.if_icmp .ge 18, 3) := by decide +kernel
theorem dX10_digit_18 : decode cX10_digit 18 = .ok (.aload_n 0, 1) := by decide +kernel
theorem dX10_digit_19 : decode cX10_digit 19 = .ok (.getfield 11, 3) := by decide +kernel
theorem dX10_digit_22 : decode cX10_digit 22 = .ok (.aload_n 0, 1) := by decide +kernel
theorem dX10_digit_23 : decode cX10_digit 23 = .ok (.getfield 31, 3) := by decide +kernel
theorem dX10_digit_26 : decode cX10_digit 26 = .ok (.iaload, 1) := by decide +kernel
theorem dX10_digit_27 : decode cX10_digit 27 = .ok (.bipush 48, 2) := by decide +kernel
theorem dX10_digit_29 : decode cX10_digit 29 = .ok (.isub, 1) := by decide +kernel
theorem dX10_digit_30 : decode cX10_digit 30 = .ok (.goto 4, 3) := by decide +kernel
theorem dX10_digit_33 : decode cX10_digit 33 = .ok (.iconst (-1), 1) := by decide +kernel
theorem dX10_digit_34 : decode cX10_digit 34 = .ok (.istore_n 2, 1) := by decide +kernel
theorem dX10_digit_35 : decode cX10_digit 35 = .ok (.iload_n 2, 1) := by decide +kernel
theorem dX10_digit_36 : decode cX10_digit 36 = .ok (.iload_n 1, 1) := by decide +kernel
theorem dX10_digit_37 : decode cX10_digit 37 = .ok (.if_icmp .lt 9, 3) := by decide +kernel
theorem dX10_digit_40 : decode cX10_digit 40 = .ok (.iload_n 2, 1) := by decide +kernel
theorem dX10_digit_41 : decode cX10_digit 41 = .ok (.bipush 9, 2) := by decide +kernel
theorem dX10_digit_43 : decode cX10_digit 43 = .ok (.if_icmp .le 5, 3) := by decide +kernel
theorem dX10_digit_46 : decode cX10_digit 46 = .ok (.iconst (-1), 1) := by decide +kernel
theorem dX10_digit_47 : decode cX10_digit 47 = .ok (.ireturn, 1) := by decide +kernel
theorem dX10_digit_48 : decode cX10_digit 48 = .ok (.aload_n 0, 1) := by decide +kernel
theorem dX10_digit_49 : decode cX10_digit 49 = .ok (.dup, 1) := by decide +kernel
theorem dX10_digit_50 : decode cX10_digit 50 = .ok (.getfield 31, 3) := by decide +kernel
theorem dX10_digit_53 : decode cX10_digit 53 = .ok (.iconst 1, 1) := by decide +kernel
theorem dX10_digit_54 : decode cX10_digit 54 = .ok (.iadd, 1) := by decide +kernel
theorem dX10_digit_55 : decode cX10_digit 55 = .ok (.putfield 31, 3) := by decide +kernel
theorem dX10_digit_58 : decode cX10_digit 58 = .ok (.iload_n 2, 1) := by decide +kernel
theorem dX10_digit_59 : decode cX10_digit 59 = .ok (.ireturn, 1) := by decide +kernel
theorem dX10_number_0 : decode cX10_number 0 = .ok (.aload_n 0, 1) := by decide +kernel
theorem dX10_number_1 : decode cX10_number 1 = .ok (.iconst 0, 1) := by decide +kernel
theorem dX10_number_2 : decode cX10_number 2 = .ok (.invokevirtual 41, 3) := by decide +kernel
theorem dX10_number_5 : decode cX10_number 5 = .ok (.istore_n 2, 1) := by decide +kernel
theorem dX10_number_6 : decode cX10_number 6 = .ok (.iconst 1, 1) := by decide +kernel
theorem dX10_number_7 : decode cX10_number 7 = .ok (.istore_n 3, 1) := by decide +kernel
theorem dX10_number_8 : decode cX10_number 8 = .ok (.iload_n 3, 1) := by decide +kernel
theorem dX10_number_9 : decode cX10_number 9 = .ok (.iload_n 1, 1) := by decide +kernel
theorem dX10_number_10 : decode cX10_number 10 = .ok (.if_icmp .ge 35, 3) := by decide +kernel
theorem dX10_number_13 : decode cX10_number 13 = .ok (.iload_n 2, 1) := by decide +kernel
theorem dX10_number_14 : decode cX10_number 14 = .ok (.ifCond .lt 31, 3) := by decide +kernel
theorem dX10_number_17 : decode cX10_number 17 = .ok (.aload_n 0, 1) := by decide +kernel
theorem dX10_number_18 : decode cX10_number 18 = .ok (.iconst 0, 1) := by decide +kernel
theorem dX10_number_19 : decode cX10_number 19 = .ok (.invokevirtual 41, 3) := by decide +kernel
theorem dX10_number_22 : decode cX10_number 22 = .ok (.istore 4, 2) := by decide +kernel
theorem dX10_number_24 : decode cX10_number 24 = .ok (.iload 4, 2) := by decide +kernel
theorem dX10_number_26 : decode cX10_number 26 = .ok (.ifCond .ge 5, 3) := by decide +kernel
theorem dX10_number_29 : decode cX10_number 29 = .ok (.iload_n 2, 1) := by decide +kernel
theorem dX10_number_30 : decode cX10_number 30 = .ok (.ireturn, 1) := by decide +kernel
theorem dX10_number_31 : decode cX10_number 31 = .ok (.bipush 10, 2) := by decide +kernel
theorem dX10_number_33 : decode cX10_number 33 = .ok (.iload_n 2, 1) := by decide +kernel
theorem dX10_number_34 : decode cX10_number 34 = .ok (.imul, 1) := by decide +kernel
theorem dX10_number_35 : decode cX10_number 35 = .ok (.iload 4, 2) := by decide +kernel
theorem dX10_number_37 : decode cX10_number 37 = .ok (.iadd, 1) := by decide +kernel
theorem dX10_number_38 : decode cX10_number 38 = .ok (.istore_n 2, 1) := by decide +kernel
theorem dX10_number_39 : decode cX10_number 39 = .ok (.iinc 3 1, 3) := by decide +kernel
theorem dX10_number_42 : decode cX10_number 42 = .ok (.goto (-34), 3) := by decide +kernel
theorem dX10_number_45 : decode cX10_number 45 = .ok (.iload_n 2, 1) := by decide +kernel
theorem dX10_number_46 : decode cX10_number 46 = .ok (.ireturn, 1) := by decide +kernel
theorem dX10_letter_0 : decode cX10_letter 0 = .ok (.aload_n 0, 1) := by decide +kernel
theorem dX10_letter_1 : decode cX10_letter 1 = .ok (.invokevirtual 34, 3) := by decide +kernel
theorem dX10_letter_4 : decode cX10_letter 4 = .ok (.bipush 97, 2) := by decide +kernel
theorem dX10_letter_6 : decode cX10_letter 6 = .ok (.isub, 1) := by decide +kernel
theorem dX10_letter_7 : decode cX10_letter 7 = .ok (.istore_n 1, 1) := by decide +kernel
theorem dX10_letter_8 : decode cX10_letter 8 = .ok (.iload_n 1, 1) := by decide +kernel
theorem dX10_letter_9 : decode cX10_letter 9 = .ok (.ifCond .lt 9, 3) := by decide +kernel
theorem dX10_letter_12 : decode cX10_letter 12 = .ok (.iload_n 1, 1) := by decide +kernel
theorem dX10_letter_13 : decode cX10_letter 13 = .ok (.bipush 6, 2) := by decide +kernel
theorem dX10_letter_15 : decode cX10_letter 15 = .ok (.if_icmp .lt 5, 3) := by decide +kernel
theorem dX10_letter_18 : decode cX10_letter 18 = .ok (.iconst (-1), 1) := by decide +kernel
theorem dX10_letter_19 : decode cX10_letter 19 = .ok (.ireturn, 1) := by decide +kernel
theorem dX10_letter_20 : decode cX10_letter 20 = .ok (.aload_n 0, 1) := by decide +kernel
theorem dX10_letter_21 : decode cX10_letter 21 = .ok (.invokevirtual 38, 3) := by decide +kernel
theorem dX10_letter_24 : decode cX10_letter 24 = .ok (.iload_n 1, 1) := by decide +kernel
theorem dX10_letter_25 : decode cX10_letter 25 = .ok (.ireturn, 1) := by decide +kernel
theorem dX10_times_0 : decode cX10_times 0 = .ok (.iconst 0, 1) := by decide +kernel
theorem dX10_times_1 : decode cX10_times 1 = .ok (.istore_n 2, 1) := by decide +kernel
theorem dX10_times_2 : decode cX10_times 2 = .ok (.iconst 0, 1) := by decide +kernel
theorem dX10_times_3 : decode cX10_times 3 = .ok (.istore_n 3, 1) := by decide +kernel
theorem dX10_times_4 : decode cX10_times 4 = .ok (.iload_n 3, 1) := by decide +kernel
theorem dX10_times_5 : decode cX10_times 5 = .ok (.aload_n 0, 1) := by decide +kernel
theorem dX10_times_6 : decode cX10_times 6 = .ok (.getfield 28, 3) := by decide +kernel
theorem dX10_times_9 : decode cX10_times 9 = .ok (.if_icmp .ge 27, 3) := by decide +kernel
theorem dX10_times_12 : decode cX10_times 12 = .ok (.iload_n 2, 1) := by decide +kernel
theorem dX10_times_13 : decode cX10_times 13 = .ok (.aload_n 0, 1) := by decide +kernel
theorem dX10_times_14 : decode cX10_times 14 = .ok (.getfield 11, 3) := by decide +kernel
theorem dX10_times_17 : decode cX10_times 17 = .ok (.iload_n 3, 1) := by decide +kernel
theorem dX10_times_18 : decode cX10_times 18 = .ok (.iaload, 1) := by decide +kernel
theorem dX10_times_19 : decode cX10_times 19 = .ok (.iload_n 1, 1) := by decide +kernel
theorem dX10_times_20 : decode cX10_times 20 = .ok (.if_icmp .ne 7, 3) := by decide +kernel
theorem dX10_times_23 : decode cX10_times 23 = .ok (.iconst 1, 1) := by decide +kernel
theorem dX10_times_24 : decode cX10_times 24 = .ok (.goto 4, 3) := by decide +kernel
theorem dX10_times_27 : decode cX10_times 27 = .ok (.iconst 0, 1) := by decide +kernel
theorem dX10_times_28 : decode cX10_times 28 = .ok (.iadd, 1) := by decide +kernel
theorem dX10_times_29 : decode cX10_times 29 = .ok (.istore_n 2, 1) := by decide +kernel
theorem dX10_times_30 : decode cX10_times 30 = .ok (.iinc 3 1, 3) := by decide +kernel
theorem dX10_times_33 : decode cX10_times 33 = .ok (.goto (-29), 3) := by decide +kernel
theorem dX10_times_36 : decode cX10_times 36 = .ok (.iload_n 2, 1) := by decide +kernel
theorem dX10_times_37 : decode cX10_times 37 = .ok (.ireturn, 1) := by decide +kernel
theorem dX10_lastTime_0 : decode cX10_lastTime 0 = .ok (.iconst (-1), 1) := by decide +kernel
theorem dX10_lastTime_1 : decode cX10_lastTime 1 = .ok (.istore_n 2, 1) := by decide +kernel
theorem dX10_lastTime_2 : decode cX10_lastTime 2 = .ok (.iconst 0, 1) := by decide +kernel
theorem dX10_lastTime_3 : decode cX10_lastTime 3 = .ok (.istore_n 3, 1) := by decide +kernel
theorem dX10_lastTime_4 : decode cX10_lastTime 4 = .ok (.iload_n 3, 1) := by decide +kernel
theorem dX10_lastTime_5 : decode cX10_lastTime 5 = .ok (.aload_n 0, 1) := by decide +kernel
theorem dX10_lastTime_6 : decode cX10_lastTime 6 = .ok (.getfield 28, 3) := by decide +kernel
theorem dX10_lastTime_9 : decode cX10_lastTime 9 = .ok (.if_icmp .ge 25, 3) := by decide +kernel
theorem dX10_lastTime_12 : decode cX10_lastTime 12 = .ok (.aload_n 0, 1) := by decide +kernel
theorem dX10_lastTime_13 : decode cX10_lastTime 13 = .ok (.getfield 11, 3) := by decide +kernel
theorem dX10_lastTime_16 : decode cX10_lastTime 16 = .ok (.iload_n 3, 1) := by decide +kernel
theorem dX10_lastTime_17 : decode cX10_lastTime 17 = .ok (.iaload, 1) := by decide +kernel
theorem dX10_lastTime_18 : decode cX10_lastTime 18 = .ok (.iload_n 1, 1) := by decide +kernel
theorem dX10_lastTime_19 : decode cX10_lastTime 19 = .ok (.if_icmp .ne 7, 3) := by decide +kernel
theorem dX10_lastTime_22 : decode cX10_lastTime 22 = .ok (.iload_n 3, 1) := by decide +kernel
theorem dX10_lastTime_23 : decode cX10_lastTime 23 = .ok (.goto 4, 3) := by decide +kernel
theorem dX10_lastTime_26 : decode cX10_lastTime 26 = .ok (.iload_n 2, 1) := by decide +kernel
theorem dX10_lastTime_27 : decode cX10_lastTime 27 = .ok (.istore_n 2, 1) := by decide +kernel
theorem dX10_lastTime_28 : decode cX10_lastTime 28 = .ok (.iinc 3 1, 3) := by decide +kernel
theorem dX10_lastTime_31 : decode cX10_lastTime 31 = .ok (.goto (-27), 3) := by decide +kernel
theorem dX10_lastTime_34 : decode cX10_lastTime 34 = .ok (.iload_n 2, 1) := by decide +kernel
theorem dX10_lastTime_35 : decode cX10_lastTime 35 = .ok (.ireturn, 1) := by decide +kernel
theorem dX11_init_0 : decode cX11_init 0 = .ok (.aload_n 0, 1) := by decide +kernel
theorem dX11_init_1 : decode cX11_init 1 = .ok (.invokespecial 1, 3) := by decide +kernel
theorem dX11_init_4 : decode cX11_init 4 = .ok (.aload_n 0, 1) := by decide +kernel
theorem dX11_init_5 : decode cX11_init 5 = .ok (.new 7, 3) := by decide +kernel
theorem dX11_init_8 : decode cX11_init 8 = .ok (.dup, 1) := by decide +kernel
theorem dX11_init_9 : decode cX11_init 9 = .ok (.invokespecial 9, 3) := by decide +kernel
theorem dX11_init_12 : decode cX11_init 12 = .ok (.putfield 10, 3) := by decide +kernel
theorem dX11_init_15 : decode cX11_init 15 = .ok (.aload_n 0, 1) := by decide +kernel
theorem dX11_init_16 : decode cX11_init 16 = .ok (.new 16, 3) := by decide +kernel
theorem dX11_init_19 : decode cX11_init 19 = .ok (.dup, 1) := by decide +kernel
theorem dX11_init_20 : decode cX11_init 20 = .ok (.invokespecial 18, 3) := by decide +kernel
theorem dX11_init_23 : decode cX11_init 23 = .ok (.putfield 19, 3) := by decide +kernel
theorem dX11_init_26 : decode cX11_init 26 = .ok (.aload_n 0, 1) := by decide +kernel
theorem dX11_init_27 : decode cX11_init 27 = .ok (.new 23, 3) := by decide +kernel
theorem dX11_init_30 : decode cX11_init 30 = .ok (.dup, 1) := by decide +kernel
theorem dX11_init_31 : decode cX11_init 31 = .ok (.invokespecial 25, 3) := by decide +kernel
theorem dX11_init_34 : decode cX11_init 34 = .ok (.putfield 26, 3) := by decide +kernel
theorem dX11_init_37 : decode cX11_init 37 = .ok (.aload_n 0, 1) := by decide +kernel
theorem dX11_init_38 : decode cX11_init 38 = .ok (.new 30, 3) := by decide +kernel
theorem dX11_init_41 : decode cX11_init 41 = .ok (.dup, 1) := by decide +kernel
theorem dX11_init_42 : decode cX11_init 42 = .ok (.invokespecial 32, 3) := by decide +kernel
theorem dX11_init_45 : decode cX11_init 45 = .ok (.putfield 33, 3) := by decide +kernel
theorem dX11_init_48 : decode cX11_init 48 = .ok (.aload_n 0, 1) := by decide +kernel
theorem dX11_init_49 : decode cX11_init 49 = .ok (.new 30, 3) := by decide +kernel
theorem dX11_init_52 : decode cX11_init 52 = .ok (.dup, 1) := by decide +kernel
theorem dX11_init_53 : decode cX11_init 53 = .ok (.invokespecial 32, 3) := by decide +kernel
theorem dX11_init_56 : decode cX11_init 56 = .ok (.putfield 37, 3) := by decide +kernel
theorem dX11_init_59 : decode cX11_init 59 = .ok (.aload_n 0, 1) := by decide +kernel
theorem dX11_init_60 : decode cX11_init 60 = .ok (.new 40, 3) := by decide +kernel
theorem dX11_init_63 : decode cX11_init 63 = .ok (.dup, 1) := by decide +kernel
theorem dX11_init_64 : decode cX11_init 64 = .ok (.aload_n 0, 1) := by decide +kernel
theorem dX11_init_65 : decode cX11_init 65 = .ok (.getfield 26, 3) := by decide +kernel
theorem dX11_init_68 : decode cX11_init 68 = .ok (.aload_n 0, 1) := by decide +kernel
theorem dX11_init_69 : decode cX11_init 69 = .ok (.getfield 33, 3) := by decide +kernel
theorem dX11_init_72 : decode cX11_init 72 = .ok (.invokespecial 42, 3) := by decide +kernel
theorem dX11_init_75 : decode cX11_init 75 = .ok (.putfield 45, 3) := by decide +kernel
theorem dX11_init_78 : decode cX11_init 78 = .ok (.aload_n 0, 1) := by decide +kernel
theorem dX11_init_79 : decode cX11_init 79 = .ok (.new 40, 3) := by decide +kernel
theorem dX11_init_82 : decode cX11_init 82 = .ok (.dup, 1) := by decide +kernel
theorem dX11_init_83 : decode cX11_init 83 = .ok (.aload_n 0, 1) := by decide +kernel
theorem dX11_init_84 : decode cX11_init 84 = .ok (.getfield 26, 3) := by decide +kernel
theorem dX11_init_87 : decode cX11_init 87 = .ok (.aload_n 0, 1) := by decide +kernel
theorem dX11_init_88 : decode cX11_init 88 = .ok (.getfield 37, 3) := by decide +kernel
theorem dX11_init_91 : decode cX11_init 91 = .ok (.invokespecial 42, 3) := by decide +kernel
theorem dX11_init_94 : decode cX11_init 94 = .ok (.putfield 49, 3) := by decide +kernel
theorem dX11_init_97 : decode cX11_init 97 = .ok (.aload_n 0, 1) := by decide +kernel
theorem dX11_init_98 : decode cX11_init 98 = .ok (.new 52, 3) := by decide +kernel
theorem dX11_init_101 : decode cX11_init 101 = .ok (.dup, 1) := by decide +kernel
theorem dX11_init_102 : decode cX11_init 102 = .ok (.aload_n 0, 1) := by decide +kernel
theorem dX11_init_103 : decode cX11_init 103 = .ok (.getfield 26, 3) := by decide +kernel
theorem dX11_init_106 : decode cX11_init 106 = .ok (.aload_n 0, 1) := by decide +kernel
theorem dX11_init_107 : decode cX11_init 107 = .ok (.getfield 33, 3) := by decide +kernel
theorem dX11_init_110 : decode cX11_init 110 = .ok (.invokespecial 54, 3) := by decide +kernel
theorem dX11_init_113 : decode cX11_init 113 = .ok (.putfield 55, 3) := by decide +kernel
theorem dX11_init_116 : decode cX11_init 116 = .ok (.aload_n 0, 1) := by decide +kernel
theorem dX11_init_117 : decode cX11_init 117 = .ok (.new 59, 3) := by decide +kernel
theorem dX11_init_120 : decode cX11_init 120 = .ok (.dup, 1) := by decide +kernel
theorem dX11_init_121 : decode cX11_init 121 = .ok (.aload_n 0, 1) := by decide +kernel
theorem dX11_init_122 : decode cX11_init 122 = .ok (.getfield 26, 3) := by decide +kernel
theorem dX11_init_125 : decode cX11_init 125 = .ok (.aload_n 0, 1) := by decide +kernel
theorem dX11_init_126 : decode cX11_init 126 = .ok (.getfield 33, 3) := by decide +kernel
theorem dX11_init_129 : decode cX11_init 129 = .ok (.aload_n 0, 1) := by decide +kernel
theorem dX11_init_130 : decode cX11_init 130 = .ok (.getfield 45, 3) := by decide +kernel
theorem dX11_init_133 : decode cX11_init 133 = .ok (.aload_n 0, 1) := by decide +kernel
theorem dX11_init_134 : decode cX11_init 134 = .ok (.getfield 55, 3) := by decide +kernel
theorem dX11_init_137 : decode cX11_init 137 = .ok (.invokespecial 61, 3) := by decide +kernel
theorem dX11_init_140 : decode cX11_init 140 = .ok (.putfield 64, 3) := by decide +kernel
theorem dX11_init_143 : decode cX11_init 143 = .ok (.aload_n 0, 1) := by decide +kernel
theorem dX11_init_144 : decode cX11_init 144 = .ok (.new 68, 3) := by decide +kernel
theorem dX11_init_147 : decode cX11_init 147 = .ok (.dup, 1) := by decide +kernel
theorem dX11_init_148 : decode cX11_init 148 = .ok (.invokespecial 70, 3) := by decide +kernel
theorem dX11_init_151 : decode cX11_init 151 = .ok (.putfield 71, 3) := by decide +kernel
theorem dX11_init_154 : decode cX11_init 154 = .ok (.aload_n 0, 1) := by decide +kernel
theorem dX11_init_155 : decode cX11_init 155 = .ok (.new 75, 3) := by decide +kernel
theorem dX11_init_158 : decode cX11_init 158 = .ok (.dup, 1) := by decide +kernel
theorem dX11_init_159 : decode cX11_init 159 = .ok (.aload_n 0, 1) := by decide +kernel
theorem dX11_init_160 : decode cX11_init 160 = .ok (.getfield 26, 3) := by decide +kernel
theorem dX11_init_163 : decode cX11_init 163 = .ok (.invokespecial 77, 3) := by decide +kernel
theorem dX11_init_166 : decode cX11_init 166 = .ok (.putfield 80, 3) := by decide +kernel
theorem dX11_init_169 : decode cX11_init 169 = .ok (.aload_n 0, 1) := by decide +kernel
theorem dX11_init_170 : decode cX11_init 170 = .ok (.new 84, 3) := by decide +kernel
theorem dX11_init_173 : decode cX11_init 173 = .ok (.dup, 1) := by decide +kernel
theorem dX11_init_174 : decode cX11_init 174 = .ok (.invokespecial 86, 3) := by decide +kernel
theorem dX11_init_177 : decode cX11_init 177 = .ok (.putfield 87, 3) := by decide +kernel
theorem dX11_init_180 : decode cX11_init 180 = .ok (.aload_n 0, 1) := by decide +kernel
theorem dX11_init_181 : decode cX11_init 181 = .ok (.iconst 4, 1) := by decide +kernel
theorem dX11_init_182 : decode cX11_init 182 = .ok (.newarray .int, 2) := by decide +kernel
theorem dX11_init_184 : decode cX11_init 184 = .ok (.putfield 91, 3) := by decide +kernel
theorem dX11_init_187 : decode cX11_init 187 = .ok (.return_, 1) := by decide +kernel
theorem dX11_sign_0 : decode cX11_sign 0 = .ok (.aload_n 0, 1) := by decide +kernel
theorem dX11_sign_1 : decode cX11_sign 1 = .ok (.getfield 10, 3) := by decide +kernel
theorem dX11_sign_4 : decode cX11_sign 4 = .ok (.iload_n 1, 1) := by decide +kernel
theorem dX11_sign_5 : decode cX11_sign 5 = .ok (.invokevirtual 95, 3) := by decide +kernel
theorem dX11_sign_8 : decode cX11_sign 8 = .ok (.ifCond .eq 13, 3) := by decide +kernel
theorem dX11_sign_11 : decode cX11_sign 11 = .ok (.aload_n 0, 1) := by decide +kernel
theorem dX11_sign_12 : decode cX11_sign 12 = .ok (.getfield 10, 3) := by decide +kernel
theorem dX11_sign_15 : decode cX11_sign 15 = .ok (.getfield 99, 3) := by decide +kernel
theorem dX11_sign_18 : decode cX11_sign 18 = .ok (.goto 4, 3) := by decide +kernel
theorem dX11_sign_21 : decode cX11_sign 21 = .ok (.iconst (-1), 1) := by decide +kernel
theorem dX11_sign_22 : decode cX11_sign 22 = .ok (.ireturn, 1) := by decide +kernel
theorem dX11_end_0 : decode cX11_end 0 = .ok (.aload_n 0, 1) := by decide +kernel
theorem dX11_end_1 : decode cX11_end 1 = .ok (.getfield 10, 3) := by decide +kernel
theorem dX11_end_4 : decode cX11_end 4 = .ok (.iload_n 1, 1) := by decide +kernel
theorem dX11_end_5 : decode cX11_end 5 = .ok (.invokevirtual 103, 3) := by decide +kernel
theorem dX11_end_8 : decode cX11_end 8 = .ok (.ireturn, 1) := by decide +kernel
theorem dX11_station_0 : decode cX11_station 0 = .ok (.aload_n 0, 1) := by decide +kernel
theorem dX11_station_1 : decode cX11_station 1 = .ok (.getfield 26, 3) := by decide +kernel
theorem dX11_station_4 : decode cX11_station 4 = .ok (.aload_n 0, 1) := by decide +kernel
theorem dX11_station_5 : decode cX11_station 5 = .ok (.getfield 10, 3) := by decide +kernel
theorem dX11_station_8 : decode cX11_station 8 = .ok (.invokevirtual 106, 3) := by decide +kernel
theorem dX11_station_11 : decode cX11_station 11 = .ok (.istore_n 1, 1) := by decide +kernel
theorem dX11_station_12 : decode cX11_station 12 = .ok (.iload_n 1, 1) := by decide +kernel
theorem dX11_station_13 : decode cX11_station 13 = .ok (.ifCond .le 10, 3) := by decide +kernel
theorem dX11_station_16 : decode cX11_station 16 = .ok (.aload_n 0, 1) := by decide +kernel
theorem dX11_station_17 : decode cX11_station 17 = .ok (.getfield 71, 3) := by decide +kernel
theorem dX11_station_20 : decode cX11_station 20 = .ok (.invokevirtual 110, 3) := by decide +kernel
theorem dX11_station_23 : decode cX11_station 23 = .ok (.iload_n 1, 1) := by decide +kernel
theorem dX11_station_24 : decode cX11_station 24 = .ok (.ireturn, 1) := by decide +kernel
theorem dX11_wishes_0 : decode cX11_wishes 0 = .ok (.aload_n 0, 1) := by decide +kernel
theorem dX11_wishes_1 : decode cX11_wishes 1 = .ok (.getfield 10, 3) := by decide +kernel
theorem dX11_wishes_4 : decode cX11_wishes 4 = .ok (.bipush 80, 2) := by decide +kernel
theorem dX11_wishes_6 : decode cX11_wishes 6 = .ok (.invokevirtual 113, 3) := by decide +kernel
theorem dX11_wishes_9 : decode cX11_wishes 9 = .ok (.aload_n 0, 1) := by decide +kernel
theorem dX11_wishes_10 : decode cX11_wishes 10 = .ok (.getfield 26, 3) := by decide +kernel
theorem dX11_wishes_13 : decode cX11_wishes 13 = .ok (.iload_n 1, 1) := by decide +kernel
theorem dX11_wishes_14 : decode cX11_wishes 14 = .ok (.invokevirtual 117, 3) := by decide +kernel
theorem dX11_wishes_17 : decode cX11_wishes 17 = .ok (.ifCond .ne 6, 3) := by decide +kernel
theorem dX11_wishes_20 : decode cX11_wishes 20 = .ok (.bipush (-100), 2) := by decide +kernel
theorem dX11_wishes_22 : decode cX11_wishes 22 = .ok (.ireturn, 1) := by decide +kernel
theorem dX11_wishes_23 : decode cX11_wishes 23 = .ok (.iconst 0, 1) := by decide +kernel
theorem dX11_wishes_24 : decode cX11_wishes 24 = .ok (.istore_n 2, 1) := by decide +kernel
theorem dX11_wishes_25 : decode cX11_wishes 25 = .ok (.iload_n 2, 1) := by decide +kernel
theorem dX11_wishes_26 : decode cX11_wishes 26 = .ok (.aload_n 0, 1) := by decide +kernel
theorem dX11_wishes_27 : decode cX11_wishes 27 = .ok (.getfield 26, 3) := by decide +kernel
theorem dX11_wishes_30 : decode cX11_wishes 30 = .ok (.getfield 120, 3) := by decide +kernel
theorem dX11_wishes_33 : decode cX11_wishes 33 = .ok (.if_icmp .ge 28, 3) := by decide +kernel
theorem dX11_wishes_36 : decode cX11_wishes 36 = .ok (.aload_n 0, 1) := by decide +kernel
theorem dX11_wishes_37 : decode cX11_wishes 37 = .ok (.getfield 10, 3) := by decide +kernel
theorem dX11_wishes_40 : decode cX11_wishes 40 = .ok (.iconst 0, 1) := by decide +kernel
theorem dX11_wishes_41 : decode cX11_wishes 41 = .ok (.invokevirtual 123, 3) := by decide +kernel
theorem dX11_wishes_44 : decode cX11_wishes 44 = .ok (.ifCond .ge 11, 3) := by decide +kernel
theorem dX11_wishes_47 : decode cX11_wishes 47 = .ok (.aload_n 0, 1) := by decide +kernel
theorem dX11_wishes_48 : decode cX11_wishes 48 = .ok (.getfield 10, 3) := by decide +kernel
theorem dX11_wishes_51 : decode cX11_wishes 51 = .ok (.invokevirtual 127, 3) := by decide +kernel
theorem dX11_wishes_54 : decode cX11_wishes 54 = .ok (.ireturn, 1) := by decide +kernel
theorem dX11_wishes_55 : decode cX11_wishes 55 = .ok (.iinc 2 1, 3) := by decide +kernel
theorem dX11_wishes_58 : decode cX11_wishes 58 = .ok (.goto (-33), 3) := by decide +kernel
theorem dX11_wishes_61 : decode cX11_wishes 61 = .ok (.aload_n 0, 1) := by decide +kernel
theorem dX11_wishes_62 : decode cX11_wishes 62 = .ok (.getfield 10, 3) := by decide +kernel
theorem dX11_wishes_65 : decode cX11_wishes 65 = .ok (.invokevirtual 131, 3) := by decide +kernel
theorem dX11_wishes_68 : decode cX11_wishes 68 = .ok (.ifCond .ne 11, 3) := by decide +kernel
theorem dX11_wishes_71 : decode cX11_wishes 71 = .ok (.aload_n 0, 1) := by decide +kernel
theorem dX11_wishes_72 : decode cX11_wishes 72 = .ok (.getfield 10, 3) := by decide +kernel
theorem dX11_wishes_75 : decode cX11_wishes 75 = .ok (.invokevirtual 127, 3) := by decide +kernel
theorem dX11_wishes_78 : decode cX11_wishes 78 = .ok (.ireturn, 1) := by decide +kernel
theorem dX11_wishes_79 : decode cX11_wishes 79 = .ok (.aload_n 0, 1) := by decide +kernel
theorem dX11_wishes_80 : decode cX11_wishes 80 = .ok (.getfield 10, 3) := by decide +kernel
theorem dX11_wishes_83 : decode cX11_wishes 83 = .ok (.invokevirtual 135, 3) := by decide +kernel
theorem dX11_wishes_86 : decode cX11_wishes 86 = .ok (.iconst 0, 1) := by decide +kernel
theorem dX11_wishes_87 : decode cX11_wishes 87 = .ok (.istore_n 2, 1) := by decide +kernel
theorem dX11_wishes_88 : decode cX11_wishes 88 = .ok (.iload_n 2, 1) := by decide +kernel
theorem dX11_wishes_89 : decode cX11_wishes 89 = .ok (.aload_n 0, 1) := by decide +kernel
theorem dX11_wishes_90 : decode cX11_wishes 90 = .ok (.getfield 26, 3) := by decide +kernel
theorem dX11_wishes_93 : decode cX11_wishes 93 = .ok (.getfield 120, 3) := by decide +kernel
theorem dX11_wishes_96 : decode cX11_wishes 96 = .ok (.if_icmp .ge 26, 3) := by decide +kernel
theorem dX11_wishes_99 : decode cX11_wishes 99 = .ok (.aload_n 0, 1) := by decide +kernel
theorem dX11_wishes_100 : decode cX11_wishes 100 = .ok (.getfield 26, 3) := by decide +kernel
theorem dX11_wishes_103 : decode cX11_wishes 103 = .ok (.iload_n 1, 1) := by decide +kernel
theorem dX11_wishes_104 : decode cX11_wishes 104 = .ok (.iload_n 2, 1) := by decide +kernel
theorem dX11_wishes_105 : decode cX11_wishes 105 = .ok (.aload_n 0, 1) := by decide +kernel
theorem dX11_wishes_106 : decode cX11_wishes 106 = .ok (.getfield 10, 3) := by decide +kernel
theorem dX11_wishes_109 : decode cX11_wishes 109 = .ok (.iconst 0, 1) := by decide +kernel
theorem dX11_wishes_110 : decode cX11_wishes 110 = .ok (.invokevirtual 123, 3) := by decide +kernel
theorem dX11_wishes_113 : decode cX11_wishes 113 = .ok (.invokevirtual 138, 3) := by decide +kernel
theorem dX11_wishes_116 : decode cX11_wishes 116 = .ok (.iinc 2 1, 3) := by decide +kernel
theorem dX11_wishes_119 : decode cX11_wishes 119 = .ok (.goto (-31), 3) := by decide +kernel
theorem dX11_wishes_122 : decode cX11_wishes 122 = .ok (.aload_n 0, 1) := by decide +kernel
theorem dX11_wishes_123 : decode cX11_wishes 123 = .ok (.getfield 26, 3) := by decide +kernel
theorem dX11_wishes_126 : decode cX11_wishes 126 = .ok (.getfield 120, 3) := by decide +kernel
theorem dX11_wishes_129 : decode cX11_wishes 129 = .ok (.ireturn, 1) := by decide +kernel
theorem dX11_rule_0 : decode cX11_rule 0 = .ok (.aload_n 0, 1) := by decide +kernel
theorem dX11_rule_1 : decode cX11_rule 1 = .ok (.getfield 55, 3) := by decide +kernel
theorem dX11_rule_4 : decode cX11_rule 4 = .ok (.aload_n 0, 1) := by decide +kernel
theorem dX11_rule_5 : decode cX11_rule 5 = .ok (.getfield 10, 3) := by decide +kernel
theorem dX11_rule_8 : decode cX11_rule 8 = .ok (.invokevirtual 142, 3) := by decide +kernel
theorem dX11_rule_11 : decode cX11_rule 11 = .ok (.ireturn, 1) := by decide +kernel
theorem dX11_plan_0 : decode cX11_plan 0 = .ok (.aload_n 0, 1) := by decide +kernel
theorem dX11_plan_1 : decode cX11_plan 1 = .ok (.getfield 10, 3) := by decide +kernel
theorem dX11_plan_4 : decode cX11_plan 4 = .ok (.bipush 72, 2) := by decide +kernel
theorem dX11_plan_6 : decode cX11_plan 6 = .ok (.invokevirtual 113, 3) := by decide +kernel
theorem dX11_plan_9 : decode cX11_plan 9 = .ok (.aload_n 0, 1) := by decide +kernel
theorem dX11_plan_10 : decode cX11_plan 10 = .ok (.getfield 37, 3) := by decide +kernel
theorem dX11_plan_13 : decode cX11_plan 13 = .ok (.iconst 0, 1) := by decide +kernel
theorem dX11_plan_14 : decode cX11_plan 14 = .ok (.putfield 143, 3) := by decide +kernel
theorem dX11_plan_17 : decode cX11_plan 17 = .ok (.aload_n 0, 1) := by decide +kernel
theorem dX11_plan_18 : decode cX11_plan 18 = .ok (.getfield 10, 3) := by decide +kernel
theorem dX11_plan_21 : decode cX11_plan 21 = .ok (.invokevirtual 146, 3) := by decide +kernel
theorem dX11_plan_24 : decode cX11_plan 24 = .ok (.ifCond .ne 18, 3) := by decide +kernel
theorem dX11_plan_27 : decode cX11_plan 27 = .ok (.aload_n 0, 1) := by decide +kernel
theorem dX11_plan_28 : decode cX11_plan 28 = .ok (.invokevirtual 149, 3) := by decide +kernel
theorem dX11_plan_31 : decode cX11_plan 31 = .ok (.ifCond .ne 11, 3) := by decide +kernel
theorem dX11_plan_34 : decode cX11_plan 34 = .ok (.aload_n 0, 1) := by decide +kernel
theorem dX11_plan_35 : decode cX11_plan 35 = .ok (.getfield 10, 3) := by decide +kernel
theorem dX11_plan_38 : decode cX11_plan 38 = .ok (.invokevirtual 127, 3) := by decide +kernel
theorem dX11_plan_41 : decode cX11_plan 41 = .ok (.ireturn, 1) := by decide +kernel
theorem dX11_plan_42 : decode cX11_plan 42 = .ok (.aload_n 0, 1) := by decide +kernel
theorem dX11_plan_43 : decode cX11_plan 43 = .ok (.getfield 71, 3) := by decide +kernel
theorem dX11_plan_46 : decode cX11_plan 46 = .ok (.aload_n 0, 1) := by decide +kernel
theorem dX11_plan_47 : decode cX11_plan 47 = .ok (.getfield 33, 3) := by decide +kernel
theorem dX11_plan_50 : decode cX11_plan 50 = .ok (.invokevirtual 152, 3) := by decide +kernel
theorem dX11_plan_53 : decode cX11_plan 53 = .ok (.aload_n 0, 1) := by decide +kernel
theorem dX11_plan_54 : decode cX11_plan 54 = .ok (.getfield 33, 3) := by decide +kernel
theorem dX11_plan_57 : decode cX11_plan 57 = .ok (.aload_n 0, 1) := by decide +kernel
theorem dX11_plan_58 : decode cX11_plan 58 = .ok (.getfield 37, 3) := by decide +kernel
theorem dX11_plan_61 : decode cX11_plan 61 = .ok (.invokevirtual 156, 3) := by decide +kernel
theorem dX11_plan_64 : decode cX11_plan 64 = .ok (.aload_n 0, 1) := by decide +kernel
theorem dX11_plan_65 : decode cX11_plan 65 = .ok (.getfield 33, 3) := by decide +kernel
theorem dX11_plan_68 : decode cX11_plan 68 = .ok (.getfield 143, 3) := by decide +kernel
theorem dX11_plan_71 : decode cX11_plan 71 = .ok (.ireturn, 1) := by decide +kernel
theorem dX11_person_0 : decode cX11_person 0 = .ok (.aload_n 0, 1) := by decide +kernel
theorem dX11_person_1 : decode cX11_person 1 = .ok (.getfield 26, 3) := by decide +kernel
theorem dX11_person_4 : decode cX11_person 4 = .ok (.iload_n 1, 1) := by decide +kernel
theorem dX11_person_5 : decode cX11_person 5 = .ok (.invokevirtual 117, 3) := by decide +kernel
theorem dX11_person_8 : decode cX11_person 8 = .ok (.ifCond .eq 12, 3) := by decide +kernel
theorem dX11_person_11 : decode cX11_person 11 = .ok (.iload_n 2, 1) := by decide +kernel
theorem dX11_person_12 : decode cX11_person 12 = .ok (.ifCond .lt 8, 3) := by decide +kernel
theorem dX11_person_15 : decode cX11_person 15 = .ok (.iload_n 2, 1) := by decide +kernel
theorem dX11_person_16 : decode cX11_person 16 = .ok (.iconst 5, 1) := by decide +kernel
theorem dX11_person_17 : decode cX11_person 17 = .ok (.if_icmp .le 11, 3) := by decide +kernel
theorem dX11_person_20 : decode cX11_person 20 = .ok (.new 159, 3) := by decide +kernel
theorem dX11_person_23 : decode cX11_person 23 = .ok (.dup, 1) := by decide +kernel
theorem dX11_person_24 : decode cX11_person 24 = .ok (.invokespecial 161, 3) := by decide +kernel
theorem dX11_person_27 : decode cX11_person 27 = .ok (.athrow, 1) := by decide +kernel
theorem dX11_person_28 : decode cX11_person 28 = .ok (.aload_n 0, 1) := by decide +kernel
theorem dX11_person_29 : decode cX11_person 29 = .ok (.getfield 45, 3) := by decide +kernel
theorem dX11_person_32 : decode cX11_person 32 = .ok (.invokevirtual 162, 3) := by decide +kernel
theorem dX11_person_35 : decode cX11_person 35 = .ok (.iload_n 2, 1) := by decide +kernel
theorem dX11_person_36 : decode cX11_person 36 = .ok (.tableswitch 98 0 4 #[36, 54, 63, 80, 89], 36) := by decide +kernel
theorem dX11_person_72 : decode cX11_person 72 = .ok (.aload_n 0, 1) := by decide +kernel
theorem dX11_person_73 : decode cX11_person 73 = .ok (.getfield 26, 3) := by decide +kernel
theorem dX11_person_76 : decode cX11_person 76 = .ok (.getfield 165, 3) := by decide +kernel
theorem dX11_person_79 : decode cX11_person 79 = .ok (.iload_n 1, 1) := by decide +kernel
theorem dX11_person_80 : decode cX11_person 80 = .ok (.baload, 1) := by decide +kernel
theorem dX11_person_81 : decode cX11_person 81 = .ok (.ifCond .eq 7, 3) := by decide +kernel
theorem dX11_person_84 : decode cX11_person 84 = .ok (.iconst 1, 1) := by decide +kernel
theorem dX11_person_85 : decode cX11_person 85 = .ok (.goto 4, 3) := by decide +kernel
theorem dX11_person_88 : decode cX11_person 88 = .ok (.iconst 0, 1) := by decide +kernel
theorem dX11_person_89 : decode cX11_person 89 = .ok (.ireturn, 1) := by decide +kernel
theorem dX11_person_90 : decode cX11_person 90 = .ok (.aload_n 0, 1) := by decide +kernel
theorem dX11_person_91 : decode cX11_person 91 = .ok (.getfield 33, 3) := by decide +kernel
theorem dX11_person_94 : decode cX11_person 94 = .ok (.iload_n 1, 1) := by decide +kernel
theorem dX11_person_95 : decode cX11_person 95 = .ok (.invokevirtual 169, 3) := by decide +kernel
theorem dX11_person_98 : decode cX11_person 98 = .ok (.ireturn, 1) := by decide +kernel
theorem dX11_person_99 : decode cX11_person 99 = .ok (.aload_n 0, 1) := by decide +kernel
theorem dX11_person_100 : decode cX11_person 100 = .ok (.getfield 26, 3) := by decide +kernel
theorem dX11_person_103 : decode cX11_person 103 = .ok (.getfield 172, 3) := by decide +kernel
theorem dX11_person_106 : decode cX11_person 106 = .ok (.aload_n 0, 1) := by decide +kernel
theorem dX11_person_107 : decode cX11_person 107 = .ok (.getfield 45, 3) := by decide +kernel
theorem dX11_person_110 : decode cX11_person 110 = .ok (.iload_n 1, 1) := by decide +kernel
theorem dX11_person_111 : decode cX11_person 111 = .ok (.invokevirtual 175, 3) := by decide +kernel
theorem dX11_person_114 : decode cX11_person 114 = .ok (.isub, 1) := by decide +kernel
theorem dX11_person_115 : decode cX11_person 115 = .ok (.ireturn, 1) := by decide +kernel
theorem dX11_person_116 : decode cX11_person 116 = .ok (.aload_n 0, 1) := by decide +kernel
theorem dX11_person_117 : decode cX11_person 117 = .ok (.getfield 45, 3) := by decide +kernel
theorem dX11_person_120 : decode cX11_person 120 = .ok (.iload_n 1, 1) := by decide +kernel
theorem dX11_person_121 : decode cX11_person 121 = .ok (.invokevirtual 175, 3) := by decide +kernel
theorem dX11_person_124 : decode cX11_person 124 = .ok (.ireturn, 1) := by decide +kernel
theorem dX11_person_125 : decode cX11_person 125 = .ok (.aload_n 0, 1) := by decide +kernel
theorem dX11_person_126 : decode cX11_person 126 = .ok (.getfield 45, 3) := by decide +kernel
theorem dX11_person_129 : decode cX11_person 129 = .ok (.iload_n 1, 1) := by decide +kernel
theorem dX11_person_130 : decode cX11_person 130 = .ok (.invokevirtual 178, 3) := by decide +kernel
theorem dX11_person_133 : decode cX11_person 133 = .ok (.ireturn, 1) := by decide +kernel
theorem dX11_person_134 : decode cX11_person 134 = .ok (.aload_n 0, 1) := by decide +kernel
theorem dX11_person_135 : decode cX11_person 135 = .ok (.getfield 55, 3) := by decide +kernel
theorem dX11_person_138 : decode cX11_person 138 = .ok (.iload_n 1, 1) := by decide +kernel
theorem dX11_person_139 : decode cX11_person 139 = .ok (.invokevirtual 181, 3) := by decide +kernel
theorem dX11_person_142 : decode cX11_person 142 = .ok (.ireturn, 1) := by decide +kernel
theorem dX11_errand_0 : decode cX11_errand 0 = .ok (.aload_n 0, 1) := by decide +kernel
theorem dX11_errand_1 : decode cX11_errand 1 = .ok (.getfield 26, 3) := by decide +kernel
theorem dX11_errand_4 : decode cX11_errand 4 = .ok (.iload_n 1, 1) := by decide +kernel
theorem dX11_errand_5 : decode cX11_errand 5 = .ok (.invokevirtual 184, 3) := by decide +kernel
theorem dX11_errand_8 : decode cX11_errand 8 = .ok (.ifCond .eq 13, 3) := by decide +kernel
theorem dX11_errand_11 : decode cX11_errand 11 = .ok (.iload_n 2, 1) := by decide +kernel
theorem dX11_errand_12 : decode cX11_errand 12 = .ok (.ifCond .lt 9, 3) := by decide +kernel
theorem dX11_errand_15 : decode cX11_errand 15 = .ok (.iload_n 2, 1) := by decide +kernel
theorem dX11_errand_16 : decode cX11_errand 16 = .ok (.bipush 6, 2) := by decide +kernel
theorem dX11_errand_18 : decode cX11_errand 18 = .ok (.if_icmp .le 11, 3) := by decide +kernel
theorem dX11_errand_21 : decode cX11_errand 21 = .ok (.new 159, 3) := by decide +kernel
theorem dX11_errand_24 : decode cX11_errand 24 = .ok (.dup, 1) := by decide +kernel
theorem dX11_errand_25 : decode cX11_errand 25 = .ok (.invokespecial 161, 3) := by decide +kernel
theorem dX11_errand_28 : decode cX11_errand 28 = .ok (.athrow, 1) := by decide +kernel
theorem dX11_errand_29 : decode cX11_errand 29 = .ok (.iload_n 2, 1) := by decide +kernel
theorem dX11_errand_30 : decode cX11_errand 30 = .ok (.tableswitch 106 0 5 #[38, 48, 58, 68, 78, 88], 38) := by decide +kernel
theorem dX11_errand_68 : decode cX11_errand 68 = .ok (.aload_n 0, 1) := by decide +kernel
theorem dX11_errand_69 : decode cX11_errand 69 = .ok (.getfield 26, 3) := by decide +kernel
theorem dX11_errand_72 : decode cX11_errand 72 = .ok (.getfield 187, 3) := by decide +kernel
theorem dX11_errand_75 : decode cX11_errand 75 = .ok (.iload_n 1, 1) := by decide +kernel
theorem dX11_errand_76 : decode cX11_errand 76 = .ok (.iaload, 1) := by decide +kernel
theorem dX11_errand_77 : decode cX11_errand 77 = .ok (.ireturn, 1) := by decide +kernel
theorem dX11_errand_78 : decode cX11_errand 78 = .ok (.aload_n 0, 1) := by decide +kernel
theorem dX11_errand_79 : decode cX11_errand 79 = .ok (.getfield 26, 3) := by decide +kernel
theorem dX11_errand_82 : decode cX11_errand 82 = .ok (.getfield 190, 3) := by decide +kernel
theorem dX11_errand_85 : decode cX11_errand 85 = .ok (.iload_n 1, 1) := by decide +kernel
theorem dX11_errand_86 : decode cX11_errand 86 = .ok (.iaload, 1) := by decide +kernel
theorem dX11_errand_87 : decode cX11_errand 87 = .ok (.ireturn, 1) := by decide +kernel
theorem dX11_errand_88 : decode cX11_errand 88 = .ok (.aload_n 0, 1) := by decide +kernel
theorem dX11_errand_89 : decode cX11_errand 89 = .ok (.getfield 26, 3) := by decide +kernel
theorem dX11_errand_92 : decode cX11_errand 92 = .ok (.getfield 193, 3) := by decide +kernel
theorem dX11_errand_95 : decode cX11_errand 95 = .ok (.iload_n 1, 1) := by decide +kernel
theorem dX11_errand_96 : decode cX11_errand 96 = .ok (.iaload, 1) := by decide +kernel
theorem dX11_errand_97 : decode cX11_errand 97 = .ok (.ireturn, 1) := by decide +kernel
theorem dX11_errand_98 : decode cX11_errand 98 = .ok (.aload_n 0, 1) := by decide +kernel
theorem dX11_errand_99 : decode cX11_errand 99 = .ok (.getfield 26, 3) := by decide +kernel
theorem dX11_errand_102 : decode cX11_errand 102 = .ok (.getfield 196, 3) := by decide +kernel
theorem dX11_errand_105 : decode cX11_errand 105 = .ok (.iload_n 1, 1) := by decide +kernel
theorem dX11_errand_106 : decode cX11_errand 106 = .ok (.iaload, 1) := by decide +kernel
theorem dX11_errand_107 : decode cX11_errand 107 = .ok (.ireturn, 1) := by decide +kernel
theorem dX11_errand_108 : decode cX11_errand 108 = .ok (.aload_n 0, 1) := by decide +kernel
theorem dX11_errand_109 : decode cX11_errand 109 = .ok (.getfield 26, 3) := by decide +kernel
theorem dX11_errand_112 : decode cX11_errand 112 = .ok (.getfield 199, 3) := by decide +kernel
theorem dX11_errand_115 : decode cX11_errand 115 = .ok (.iload_n 1, 1) := by decide +kernel
theorem dX11_errand_116 : decode cX11_errand 116 = .ok (.iaload, 1) := by decide +kernel
theorem dX11_errand_117 : decode cX11_errand 117 = .ok (.ireturn, 1) := by decide +kernel
theorem dX11_errand_118 : decode cX11_errand 118 = .ok (.aload_n 0, 1) := by decide +kernel
theorem dX11_errand_119 : decode cX11_errand 119 = .ok (.getfield 26, 3) := by decide +kernel
theorem dX11_errand_122 : decode cX11_errand 122 = .ok (.getfield 202, 3) := by decide +kernel
theorem dX11_errand_125 : decode cX11_errand 125 = .ok (.iload_n 1, 1) := by decide +kernel
theorem dX11_errand_126 : decode cX11_errand 126 = .ok (.baload, 1) := by decide +kernel
theorem dX11_errand_127 : decode cX11_errand 127 = .ok (.ifCond .eq 7, 3) := by decide +kernel
theorem dX11_errand_130 : decode cX11_errand 130 = .ok (.iconst 1, 1) := by decide +kernel
theorem dX11_errand_131 : decode cX11_errand 131 = .ok (.goto 4, 3) := by decide +kernel
theorem dX11_errand_134 : decode cX11_errand 134 = .ok (.iconst 0, 1) := by decide +kernel
theorem dX11_errand_135 : decode cX11_errand 135 = .ok (.ireturn, 1) := by decide +kernel
theorem dX11_errand_136 : decode cX11_errand 136 = .ok (.aload_n 0, 1) := by decide +kernel
theorem dX11_errand_137 : decode cX11_errand 137 = .ok (.getfield 33, 3) := by decide +kernel
theorem dX11_errand_140 : decode cX11_errand 140 = .ok (.iload_n 1, 1) := by decide +kernel
theorem dX11_errand_141 : decode cX11_errand 141 = .ok (.invokevirtual 205, 3) := by decide +kernel
theorem dX11_errand_144 : decode cX11_errand 144 = .ok (.ireturn, 1) := by decide +kernel
theorem dX11_trip_0 : decode cX11_trip 0 = .ok (.aload_n 0, 1) := by decide +kernel
theorem dX11_trip_1 : decode cX11_trip 1 = .ok (.getfield 33, 3) := by decide +kernel
theorem dX11_trip_4 : decode cX11_trip 4 = .ok (.iload_n 1, 1) := by decide +kernel
theorem dX11_trip_5 : decode cX11_trip 5 = .ok (.invokevirtual 208, 3) := by decide +kernel
theorem dX11_trip_8 : decode cX11_trip 8 = .ok (.ifCond .eq 12, 3) := by decide +kernel
theorem dX11_trip_11 : decode cX11_trip 11 = .ok (.iload_n 2, 1) := by decide +kernel
theorem dX11_trip_12 : decode cX11_trip 12 = .ok (.ifCond .lt 8, 3) := by decide +kernel
theorem dX11_trip_15 : decode cX11_trip 15 = .ok (.iload_n 2, 1) := by decide +kernel
theorem dX11_trip_16 : decode cX11_trip 16 = .ok (.iconst 5, 1) := by decide +kernel
theorem dX11_trip_17 : decode cX11_trip 17 = .ok (.if_icmp .le 11, 3) := by decide +kernel
theorem dX11_trip_20 : decode cX11_trip 20 = .ok (.new 159, 3) := by decide +kernel
theorem dX11_trip_23 : decode cX11_trip 23 = .ok (.dup, 1) := by decide +kernel
theorem dX11_trip_24 : decode cX11_trip 24 = .ok (.invokespecial 161, 3) := by decide +kernel
theorem dX11_trip_27 : decode cX11_trip 27 = .ok (.athrow, 1) := by decide +kernel
theorem dX11_trip_28 : decode cX11_trip 28 = .ok (.iload_n 2, 1) := by decide +kernel
theorem dX11_trip_29 : decode cX11_trip 29 = .ok (.tableswitch 80 0 4 #[35, 44, 53, 62, 71], 35) := by decide +kernel
theorem dX11_trip_64 : decode cX11_trip 64 = .ok (.aload_n 0, 1) := by decide +kernel
theorem dX11_trip_65 : decode cX11_trip 65 = .ok (.getfield 33, 3) := by decide +kernel
theorem dX11_trip_68 : decode cX11_trip 68 = .ok (.iload_n 1, 1) := by decide +kernel
theorem dX11_trip_69 : decode cX11_trip 69 = .ok (.invokevirtual 211, 3) := by decide +kernel
theorem dX11_trip_72 : decode cX11_trip 72 = .ok (.ireturn, 1) := by decide +kernel
theorem dX11_trip_73 : decode cX11_trip 73 = .ok (.aload_n 0, 1) := by decide +kernel
theorem dX11_trip_74 : decode cX11_trip 74 = .ok (.getfield 33, 3) := by decide +kernel
theorem dX11_trip_77 : decode cX11_trip 77 = .ok (.iload_n 1, 1) := by decide +kernel
theorem dX11_trip_78 : decode cX11_trip 78 = .ok (.invokevirtual 214, 3) := by decide +kernel
theorem dX11_trip_81 : decode cX11_trip 81 = .ok (.ireturn, 1) := by decide +kernel
theorem dX11_trip_82 : decode cX11_trip 82 = .ok (.aload_n 0, 1) := by decide +kernel
theorem dX11_trip_83 : decode cX11_trip 83 = .ok (.getfield 33, 3) := by decide +kernel
theorem dX11_trip_86 : decode cX11_trip 86 = .ok (.iload_n 1, 1) := by decide +kernel
theorem dX11_trip_87 : decode cX11_trip 87 = .ok (.invokevirtual 217, 3) := by decide +kernel
theorem dX11_trip_90 : decode cX11_trip 90 = .ok (.ireturn, 1) := by decide +kernel
theorem dX11_trip_91 : decode cX11_trip 91 = .ok (.aload_n 0, 1) := by decide +kernel
theorem dX11_trip_92 : decode cX11_trip 92 = .ok (.getfield 45, 3) := by decide +kernel
theorem dX11_trip_95 : decode cX11_trip 95 = .ok (.iload_n 1, 1) := by decide +kernel
theorem dX11_trip_96 : decode cX11_trip 96 = .ok (.invokevirtual 220, 3) := by decide +kernel
theorem dX11_trip_99 : decode cX11_trip 99 = .ok (.ireturn, 1) := by decide +kernel
theorem dX11_trip_100 : decode cX11_trip 100 = .ok (.aload_n 0, 1) := by decide +kernel
theorem dX11_trip_101 : decode cX11_trip 101 = .ok (.getfield 55, 3) := by decide +kernel
theorem dX11_trip_104 : decode cX11_trip 104 = .ok (.iload_n 1, 1) := by decide +kernel
theorem dX11_trip_105 : decode cX11_trip 105 = .ok (.invokevirtual 223, 3) := by decide +kernel
theorem dX11_trip_108 : decode cX11_trip 108 = .ok (.ireturn, 1) := by decide +kernel
theorem dX11_trip_109 : decode cX11_trip 109 = .ok (.aload_n 0, 1) := by decide +kernel
theorem dX11_trip_110 : decode cX11_trip 110 = .ok (.getfield 45, 3) := by decide +kernel
theorem dX11_trip_113 : decode cX11_trip 113 = .ok (.iload_n 1, 1) := by decide +kernel
theorem dX11_trip_114 : decode cX11_trip 114 = .ok (.invokevirtual 226, 3) := by decide +kernel
theorem dX11_trip_117 : decode cX11_trip 117 = .ok (.ireturn, 1) := by decide +kernel
theorem dX11_wish_0 : decode cX11_wish 0 = .ok (.aload_n 0, 1) := by decide +kernel
theorem dX11_wish_1 : decode cX11_wish 1 = .ok (.getfield 26, 3) := by decide +kernel
theorem dX11_wish_4 : decode cX11_wish 4 = .ok (.iload_n 1, 1) := by decide +kernel
theorem dX11_wish_5 : decode cX11_wish 5 = .ok (.invokevirtual 117, 3) := by decide +kernel
theorem dX11_wish_8 : decode cX11_wish 8 = .ok (.ifCond .eq 24, 3) := by decide +kernel
theorem dX11_wish_11 : decode cX11_wish 11 = .ok (.aload_n 0, 1) := by decide +kernel
theorem dX11_wish_12 : decode cX11_wish 12 = .ok (.getfield 26, 3) := by decide +kernel
theorem dX11_wish_15 : decode cX11_wish 15 = .ok (.iload_n 2, 1) := by decide +kernel
theorem dX11_wish_16 : decode cX11_wish 16 = .ok (.invokevirtual 184, 3) := by decide +kernel
theorem dX11_wish_19 : decode cX11_wish 19 = .ok (.ifCond .eq 13, 3) := by decide +kernel
theorem dX11_wish_22 : decode cX11_wish 22 = .ok (.iload_n 3, 1) := by decide +kernel
theorem dX11_wish_23 : decode cX11_wish 23 = .ok (.ifCond .lt 9, 3) := by decide +kernel
theorem dX11_wish_26 : decode cX11_wish 26 = .ok (.iload_n 3, 1) := by decide +kernel
theorem dX11_wish_27 : decode cX11_wish 27 = .ok (.bipush 9, 2) := by decide +kernel
theorem dX11_wish_29 : decode cX11_wish 29 = .ok (.if_icmp .le 5, 3) := by decide +kernel
theorem dX11_wish_32 : decode cX11_wish 32 = .ok (.iconst (-1), 1) := by decide +kernel
theorem dX11_wish_33 : decode cX11_wish 33 = .ok (.ireturn, 1) := by decide +kernel
theorem dX11_wish_34 : decode cX11_wish 34 = .ok (.aload_n 0, 1) := by decide +kernel
theorem dX11_wish_35 : decode cX11_wish 35 = .ok (.getfield 26, 3) := by decide +kernel
theorem dX11_wish_38 : decode cX11_wish 38 = .ok (.iload_n 1, 1) := by decide +kernel
theorem dX11_wish_39 : decode cX11_wish 39 = .ok (.iload_n 2, 1) := by decide +kernel
theorem dX11_wish_40 : decode cX11_wish 40 = .ok (.invokevirtual 229, 3) := by decide +kernel
theorem dX11_wish_43 : decode cX11_wish 43 = .ok (.istore 4, 2) := by decide +kernel
theorem dX11_wish_45 : decode cX11_wish 45 = .ok (.aload_n 0, 1) := by decide +kernel
theorem dX11_wish_46 : decode cX11_wish 46 = .ok (.getfield 26, 3) := by decide +kernel
theorem dX11_wish_49 : decode cX11_wish 49 = .ok (.iload_n 1, 1) := by decide +kernel
theorem dX11_wish_50 : decode cX11_wish 50 = .ok (.iload_n 2, 1) := by decide +kernel
theorem dX11_wish_51 : decode cX11_wish 51 = .ok (.iload_n 3, 1) := by decide +kernel
theorem dX11_wish_52 : decode cX11_wish 52 = .ok (.invokevirtual 138, 3) := by decide +kernel
theorem dX11_wish_55 : decode cX11_wish 55 = .ok (.iload 4, 2) := by decide +kernel
theorem dX11_wish_57 : decode cX11_wish 57 = .ok (.ireturn, 1) := by decide +kernel
theorem dX11_train_0 : decode cX11_train 0 = .ok (.iload_n 1, 1) := by decide +kernel
theorem dX11_train_1 : decode cX11_train 1 = .ok (.iconst 1, 1) := by decide +kernel
theorem dX11_train_2 : decode cX11_train 2 = .ok (.if_icmp .lt 9, 3) := by decide +kernel
theorem dX11_train_5 : decode cX11_train 5 = .ok (.iload_n 1, 1) := by decide +kernel
theorem dX11_train_6 : decode cX11_train 6 = .ok (.bipush 99, 2) := by decide +kernel
theorem dX11_train_8 : decode cX11_train 8 = .ok (.if_icmp .le 5, 3) := by decide +kernel
theorem dX11_train_11 : decode cX11_train 11 = .ok (.iconst (-1), 1) := by decide +kernel
theorem dX11_train_12 : decode cX11_train 12 = .ok (.ireturn, 1) := by decide +kernel
theorem dX11_train_13 : decode cX11_train 13 = .ok (.aload_n 0, 1) := by decide +kernel
theorem dX11_train_14 : decode cX11_train 14 = .ok (.getfield 26, 3) := by decide +kernel
theorem dX11_train_17 : decode cX11_train 17 = .ok (.getfield 172, 3) := by decide +kernel
theorem dX11_train_20 : decode cX11_train 20 = .ok (.istore_n 2, 1) := by decide +kernel
theorem dX11_train_21 : decode cX11_train 21 = .ok (.aload_n 0, 1) := by decide +kernel
theorem dX11_train_22 : decode cX11_train 22 = .ok (.getfield 26, 3) := by decide +kernel
theorem dX11_train_25 : decode cX11_train 25 = .ok (.iload_n 1, 1) := by decide +kernel
theorem dX11_train_26 : decode cX11_train 26 = .ok (.putfield 172, 3) := by decide +kernel
theorem dX11_train_29 : decode cX11_train 29 = .ok (.iload_n 2, 1) := by decide +kernel
theorem dX11_train_30 : decode cX11_train 30 = .ok (.ireturn, 1) := by decide +kernel
theorem dX11_sheet_0 : decode cX11_sheet 0 = .ok (.iload_n 1, 1) := by decide +kernel
theorem dX11_sheet_1 : decode cX11_sheet 1 = .ok (.ifCond .lt 14, 3) := by decide +kernel
theorem dX11_sheet_4 : decode cX11_sheet 4 = .ok (.iload_n 1, 1) := by decide +kernel
theorem dX11_sheet_5 : decode cX11_sheet 5 = .ok (.iconst 3, 1) := by decide +kernel
theorem dX11_sheet_6 : decode cX11_sheet 6 = .ok (.if_icmp .gt 9, 3) := by decide +kernel
theorem dX11_sheet_9 : decode cX11_sheet 9 = .ok (.iload_n 2, 1) := by decide +kernel
theorem dX11_sheet_10 : decode cX11_sheet 10 = .ok (.bipush 8, 2) := by decide +kernel
theorem dX11_sheet_12 : decode cX11_sheet 12 = .ok (.if_icmp .le 5, 3) := by decide +kernel
theorem dX11_sheet_15 : decode cX11_sheet 15 = .ok (.iconst (-1), 1) := by decide +kernel
theorem dX11_sheet_16 : decode cX11_sheet 16 = .ok (.ireturn, 1) := by decide +kernel
theorem dX11_sheet_17 : decode cX11_sheet 17 = .ok (.iload_n 1, 1) := by decide +kernel
theorem dX11_sheet_18 : decode cX11_sheet 18 = .ok (.iconst 3, 1) := by decide +kernel
theorem dX11_sheet_19 : decode cX11_sheet 19 = .ok (.if_icmp .ne 19, 3) := by decide +kernel
theorem dX11_sheet_22 : decode cX11_sheet 22 = .ok (.aload_n 0, 1) := by decide +kernel
theorem dX11_sheet_23 : decode cX11_sheet 23 = .ok (.getfield 26, 3) := by decide +kernel
theorem dX11_sheet_26 : decode cX11_sheet 26 = .ok (.iload_n 1, 1) := by decide +kernel
theorem dX11_sheet_27 : decode cX11_sheet 27 = .ok (.iconst 0, 1) := by decide +kernel
theorem dX11_sheet_28 : decode cX11_sheet 28 = .ok (.iload_n 3, 1) := by decide +kernel
theorem dX11_sheet_29 : decode cX11_sheet 29 = .ok (.iload 4, 2) := by decide +kernel
theorem dX11_sheet_31 : decode cX11_sheet 31 = .ok (.invokevirtual 233, 3) := by decide +kernel
theorem dX11_sheet_34 : decode cX11_sheet 34 = .ok (.pop, 1) := by decide +kernel
theorem dX11_sheet_35 : decode cX11_sheet 35 = .ok (.bipush (-3), 2) := by decide +kernel
theorem dX11_sheet_37 : decode cX11_sheet 37 = .ok (.ireturn, 1) := by decide +kernel
theorem dX11_sheet_38 : decode cX11_sheet 38 = .ok (.iload_n 2, 1) := by decide +kernel
theorem dX11_sheet_39 : decode cX11_sheet 39 = .ok (.ifCond .ge 6, 3) := by decide +kernel
theorem dX11_sheet_42 : decode cX11_sheet 42 = .ok (.bipush (-2), 2) := by decide +kernel
theorem dX11_sheet_44 : decode cX11_sheet 44 = .ok (.ireturn, 1) := by decide +kernel
theorem dX11_sheet_45 : decode cX11_sheet 45 = .ok (.aload_n 0, 1) := by decide +kernel
theorem dX11_sheet_46 : decode cX11_sheet 46 = .ok (.getfield 26, 3) := by decide +kernel
theorem dX11_sheet_49 : decode cX11_sheet 49 = .ok (.iload_n 1, 1) := by decide +kernel
theorem dX11_sheet_50 : decode cX11_sheet 50 = .ok (.iload_n 2, 1) := by decide +kernel
theorem dX11_sheet_51 : decode cX11_sheet 51 = .ok (.iload_n 3, 1) := by decide +kernel
theorem dX11_sheet_52 : decode cX11_sheet 52 = .ok (.iload 4, 2) := by decide +kernel
theorem dX11_sheet_54 : decode cX11_sheet 54 = .ok (.invokevirtual 233, 3) := by decide +kernel
theorem dX11_sheet_57 : decode cX11_sheet 57 = .ok (.ireturn, 1) := by decide +kernel
theorem dX11_may_0 : decode cX11_may 0 = .ok (.aload_n 0, 1) := by decide +kernel
theorem dX11_may_1 : decode cX11_may 1 = .ok (.iload_n 1, 1) := by decide +kernel
theorem dX11_may_2 : decode cX11_may 2 = .ok (.iload_n 2, 1) := by decide +kernel
theorem dX11_may_3 : decode cX11_may 3 = .ok (.iload_n 3, 1) := by decide +kernel
theorem dX11_may_4 : decode cX11_may 4 = .ok (.invokevirtual 237, 3) := by decide +kernel
theorem dX11_may_7 : decode cX11_may 7 = .ok (.ifCond .ne 5, 3) := by decide +kernel
theorem dX11_may_10 : decode cX11_may 10 = .ok (.iconst (-1), 1) := by decide +kernel
theorem dX11_may_11 : decode cX11_may 11 = .ok (.ireturn, 1) := by decide +kernel
theorem dX11_may_12 : decode cX11_may 12 = .ok (.aload_n 0, 1) := by decide +kernel
theorem dX11_may_13 : decode cX11_may 13 = .ok (.getfield 45, 3) := by decide +kernel
theorem dX11_may_16 : decode cX11_may 16 = .ok (.invokevirtual 162, 3) := by decide +kernel
theorem dX11_may_19 : decode cX11_may 19 = .ok (.aload_n 0, 1) := by decide +kernel
theorem dX11_may_20 : decode cX11_may 20 = .ok (.getfield 45, 3) := by decide +kernel
theorem dX11_may_23 : decode cX11_may 23 = .ok (.iload_n 1, 1) := by decide +kernel
theorem dX11_may_24 : decode cX11_may 24 = .ok (.iload_n 2, 1) := by decide +kernel
theorem dX11_may_25 : decode cX11_may 25 = .ok (.iload_n 3, 1) := by decide +kernel
theorem dX11_may_26 : decode cX11_may 26 = .ok (.invokevirtual 241, 3) := by decide +kernel
theorem dX11_may_29 : decode cX11_may 29 = .ok (.ireturn, 1) := by decide +kernel
theorem dX11_go_0 : decode cX11_go 0 = .ok (.aload_n 0, 1) := by decide +kernel
theorem dX11_go_1 : decode cX11_go 1 = .ok (.getfield 37, 3) := by decide +kernel
theorem dX11_go_4 : decode cX11_go 4 = .ok (.aload_n 0, 1) := by decide +kernel
theorem dX11_go_5 : decode cX11_go 5 = .ok (.getfield 33, 3) := by decide +kernel
theorem dX11_go_8 : decode cX11_go 8 = .ok (.invokevirtual 156, 3) := by decide +kernel
theorem dX11_go_11 : decode cX11_go 11 = .ok (.aload_n 0, 1) := by decide +kernel
theorem dX11_go_12 : decode cX11_go 12 = .ok (.aload_n 0, 1) := by decide +kernel
theorem dX11_go_13 : decode cX11_go 13 = .ok (.iload_n 1, 1) := by decide +kernel
theorem dX11_go_14 : decode cX11_go 14 = .ok (.iload_n 2, 1) := by decide +kernel
theorem dX11_go_15 : decode cX11_go 15 = .ok (.iload_n 3, 1) := by decide +kernel
theorem dX11_go_16 : decode cX11_go 16 = .ok (.invokevirtual 245, 3) := by decide +kernel
theorem dX11_go_19 : decode cX11_go 19 = .ok (.invokevirtual 248, 3) := by decide +kernel
theorem dX11_go_22 : decode cX11_go 22 = .ok (.ireturn, 1) := by decide +kernel
theorem dX11_pair_0 : decode cX11_pair 0 = .ok (.iload_n 1, 1) := by decide +kernel
theorem dX11_pair_1 : decode cX11_pair 1 = .ok (.iload_n 2, 1) := by decide +kernel
theorem dX11_pair_2 : decode cX11_pair 2 = .ok (.if_icmp .eq 25, 3) := by decide +kernel
theorem dX11_pair_5 : decode cX11_pair 5 = .ok (.aload_n 0, 1) := by decide +kernel
theorem dX11_pair_6 : decode cX11_pair 6 = .ok (.iload_n 1, 1) := by decide +kernel
theorem dX11_pair_7 : decode cX11_pair 7 = .ok (.iload_n 3, 1) := by decide +kernel
theorem dX11_pair_8 : decode cX11_pair 8 = .ok (.iload 4, 2) := by decide +kernel
theorem dX11_pair_10 : decode cX11_pair 10 = .ok (.invokevirtual 237, 3) := by decide +kernel
theorem dX11_pair_13 : decode cX11_pair 13 = .ok (.ifCond .eq 14, 3) := by decide +kernel
theorem dX11_pair_16 : decode cX11_pair 16 = .ok (.aload_n 0, 1) := by decide +kernel
theorem dX11_pair_17 : decode cX11_pair 17 = .ok (.getfield 26, 3) := by decide +kernel
theorem dX11_pair_20 : decode cX11_pair 20 = .ok (.iload_n 2, 1) := by decide +kernel
theorem dX11_pair_21 : decode cX11_pair 21 = .ok (.invokevirtual 117, 3) := by decide +kernel
theorem dX11_pair_24 : decode cX11_pair 24 = .ok (.ifCond .ne 5, 3) := by decide +kernel
theorem dX11_pair_27 : decode cX11_pair 27 = .ok (.iconst (-1), 1) := by decide +kernel
theorem dX11_pair_28 : decode cX11_pair 28 = .ok (.ireturn, 1) := by decide +kernel
theorem dX11_pair_29 : decode cX11_pair 29 = .ok (.aload_n 0, 1) := by decide +kernel
theorem dX11_pair_30 : decode cX11_pair 30 = .ok (.getfield 33, 3) := by decide +kernel
theorem dX11_pair_33 : decode cX11_pair 33 = .ok (.getfield 143, 3) := by decide +kernel
theorem dX11_pair_36 : decode cX11_pair 36 = .ok (.iconst 2, 1) := by decide +kernel
theorem dX11_pair_37 : decode cX11_pair 37 = .ok (.iadd, 1) := by decide +kernel
theorem dX11_pair_38 : decode cX11_pair 38 = .ok (.bipush 12, 2) := by decide +kernel
theorem dX11_pair_40 : decode cX11_pair 40 = .ok (.if_icmp .le 6, 3) := by decide +kernel
theorem dX11_pair_43 : decode cX11_pair 43 = .ok (.bipush (-2), 2) := by decide +kernel
theorem dX11_pair_45 : decode cX11_pair 45 = .ok (.ireturn, 1) := by decide +kernel
theorem dX11_pair_46 : decode cX11_pair 46 = .ok (.aload_n 0, 1) := by decide +kernel
theorem dX11_pair_47 : decode cX11_pair 47 = .ok (.getfield 37, 3) := by decide +kernel
theorem dX11_pair_50 : decode cX11_pair 50 = .ok (.aload_n 0, 1) := by decide +kernel
theorem dX11_pair_51 : decode cX11_pair 51 = .ok (.getfield 33, 3) := by decide +kernel
theorem dX11_pair_54 : decode cX11_pair 54 = .ok (.invokevirtual 156, 3) := by decide +kernel
theorem dX11_pair_57 : decode cX11_pair 57 = .ok (.aload_n 0, 1) := by decide +kernel
theorem dX11_pair_58 : decode cX11_pair 58 = .ok (.getfield 49, 3) := by decide +kernel
theorem dX11_pair_61 : decode cX11_pair 61 = .ok (.invokevirtual 162, 3) := by decide +kernel
theorem dX11_pair_64 : decode cX11_pair 64 = .ok (.aload_n 0, 1) := by decide +kernel
theorem dX11_pair_65 : decode cX11_pair 65 = .ok (.getfield 33, 3) := by decide +kernel
theorem dX11_pair_68 : decode cX11_pair 68 = .ok (.iload_n 1, 1) := by decide +kernel
theorem dX11_pair_69 : decode cX11_pair 69 = .ok (.iload_n 3, 1) := by decide +kernel
theorem dX11_pair_70 : decode cX11_pair 70 = .ok (.iload 4, 2) := by decide +kernel
theorem dX11_pair_72 : decode cX11_pair 72 = .ok (.invokevirtual 251, 3) := by decide +kernel
theorem dX11_pair_75 : decode cX11_pair 75 = .ok (.aload_n 0, 1) := by decide +kernel
theorem dX11_pair_76 : decode cX11_pair 76 = .ok (.getfield 33, 3) := by decide +kernel
theorem dX11_pair_79 : decode cX11_pair 79 = .ok (.iload_n 2, 1) := by decide +kernel
theorem dX11_pair_80 : decode cX11_pair 80 = .ok (.iload_n 3, 1) := by decide +kernel
theorem dX11_pair_81 : decode cX11_pair 81 = .ok (.iload 4, 2) := by decide +kernel
theorem dX11_pair_83 : decode cX11_pair 83 = .ok (.invokevirtual 251, 3) := by decide +kernel
theorem dX11_pair_86 : decode cX11_pair 86 = .ok (.aload_n 0, 1) := by decide +kernel
theorem dX11_pair_87 : decode cX11_pair 87 = .ok (.getfield 45, 3) := by decide +kernel
theorem dX11_pair_90 : decode cX11_pair 90 = .ok (.invokevirtual 162, 3) := by decide +kernel
theorem dX11_pair_93 : decode cX11_pair 93 = .ok (.aload_n 0, 1) := by decide +kernel
theorem dX11_pair_94 : decode cX11_pair 94 = .ok (.getfield 45, 3) := by decide +kernel
theorem dX11_pair_97 : decode cX11_pair 97 = .ok (.aload_n 0, 1) := by decide +kernel
theorem dX11_pair_98 : decode cX11_pair 98 = .ok (.getfield 33, 3) := by decide +kernel
theorem dX11_pair_101 : decode cX11_pair 101 = .ok (.getfield 143, 3) := by decide +kernel
theorem dX11_pair_104 : decode cX11_pair 104 = .ok (.iconst 2, 1) := by decide +kernel
theorem dX11_pair_105 : decode cX11_pair 105 = .ok (.isub, 1) := by decide +kernel
theorem dX11_pair_106 : decode cX11_pair 106 = .ok (.invokevirtual 226, 3) := by decide +kernel
theorem dX11_pair_109 : decode cX11_pair 109 = .ok (.ifCond .ne 26, 3) := by decide +kernel
theorem dX11_pair_112 : decode cX11_pair 112 = .ok (.aload_n 0, 1) := by decide +kernel
theorem dX11_pair_113 : decode cX11_pair 113 = .ok (.getfield 45, 3) := by decide +kernel
theorem dX11_pair_116 : decode cX11_pair 116 = .ok (.aload_n 0, 1) := by decide +kernel
theorem dX11_pair_117 : decode cX11_pair 117 = .ok (.getfield 33, 3) := by decide +kernel
theorem dX11_pair_120 : decode cX11_pair 120 = .ok (.getfield 143, 3) := by decide +kernel
theorem dX11_pair_123 : decode cX11_pair 123 = .ok (.iconst 1, 1) := by decide +kernel
theorem dX11_pair_124 : decode cX11_pair 124 = .ok (.isub, 1) := by decide +kernel
theorem dX11_pair_125 : decode cX11_pair 125 = .ok (.invokevirtual 226, 3) := by decide +kernel
theorem dX11_pair_128 : decode cX11_pair 128 = .ok (.ifCond .ne 7, 3) := by decide +kernel
theorem dX11_pair_131 : decode cX11_pair 131 = .ok (.iconst 1, 1) := by decide +kernel
theorem dX11_pair_132 : decode cX11_pair 132 = .ok (.goto 4, 3) := by decide +kernel
theorem dX11_pair_135 : decode cX11_pair 135 = .ok (.iconst 0, 1) := by decide +kernel
theorem dX11_pair_136 : decode cX11_pair 136 = .ok (.istore 5, 2) := by decide +kernel
theorem dX11_pair_138 : decode cX11_pair 138 = .ok (.iload 5, 2) := by decide +kernel
theorem dX11_pair_140 : decode cX11_pair 140 = .ok (.ifCond .eq 23, 3) := by decide +kernel
theorem dX11_pair_143 : decode cX11_pair 143 = .ok (.aload_n 0, 1) := by decide +kernel
theorem dX11_pair_144 : decode cX11_pair 144 = .ok (.getfield 45, 3) := by decide +kernel
theorem dX11_pair_147 : decode cX11_pair 147 = .ok (.getfield 254, 3) := by decide +kernel
theorem dX11_pair_150 : decode cX11_pair 150 = .ok (.aload_n 0, 1) := by decide +kernel
theorem dX11_pair_151 : decode cX11_pair 151 = .ok (.getfield 49, 3) := by decide +kernel
theorem dX11_pair_154 : decode cX11_pair 154 = .ok (.getfield 254, 3) := by decide +kernel
theorem dX11_pair_157 : decode cX11_pair 157 = .ok (.invokevirtual 258, 3) := by decide +kernel
theorem dX11_pair_160 : decode cX11_pair 160 = .ok (.ifCond .eq 17, 3) := by decide +kernel
theorem dX11_pair_163 : decode cX11_pair 163 = .ok (.aload_n 0, 1) := by decide +kernel
theorem dX11_pair_164 : decode cX11_pair 164 = .ok (.getfield 33, 3) := by decide +kernel
theorem dX11_pair_167 : decode cX11_pair 167 = .ok (.aload_n 0, 1) := by decide +kernel
theorem dX11_pair_168 : decode cX11_pair 168 = .ok (.getfield 37, 3) := by decide +kernel
theorem dX11_pair_171 : decode cX11_pair 171 = .ok (.invokevirtual 156, 3) := by decide +kernel
theorem dX11_pair_174 : decode cX11_pair 174 = .ok (.bipush (-2), 2) := by decide +kernel
theorem dX11_pair_176 : decode cX11_pair 176 = .ok (.ireturn, 1) := by decide +kernel
theorem dX11_pair_177 : decode cX11_pair 177 = .ok (.aload_n 0, 1) := by decide +kernel
theorem dX11_pair_178 : decode cX11_pair 178 = .ok (.aload_n 0, 1) := by decide +kernel
theorem dX11_pair_179 : decode cX11_pair 179 = .ok (.getfield 33, 3) := by decide +kernel
theorem dX11_pair_182 : decode cX11_pair 182 = .ok (.getfield 143, 3) := by decide +kernel
theorem dX11_pair_185 : decode cX11_pair 185 = .ok (.invokevirtual 248, 3) := by decide +kernel
theorem dX11_pair_188 : decode cX11_pair 188 = .ok (.ireturn, 1) := by decide +kernel
theorem dX11_strike_0 : decode cX11_strike 0 = .ok (.aload_n 0, 1) := by decide +kernel
theorem dX11_strike_1 : decode cX11_strike 1 = .ok (.getfield 37, 3) := by decide +kernel
theorem dX11_strike_4 : decode cX11_strike 4 = .ok (.aload_n 0, 1) := by decide +kernel
theorem dX11_strike_5 : decode cX11_strike 5 = .ok (.getfield 33, 3) := by decide +kernel
theorem dX11_strike_8 : decode cX11_strike 8 = .ok (.invokevirtual 156, 3) := by decide +kernel
theorem dX11_strike_11 : decode cX11_strike 11 = .ok (.aload_n 0, 1) := by decide +kernel
theorem dX11_strike_12 : decode cX11_strike 12 = .ok (.aload_n 0, 1) := by decide +kernel
theorem dX11_strike_13 : decode cX11_strike 13 = .ok (.iload_n 1, 1) := by decide +kernel
theorem dX11_strike_14 : decode cX11_strike 14 = .ok (.invokevirtual 264, 3) := by decide +kernel
theorem dX11_strike_17 : decode cX11_strike 17 = .ok (.invokevirtual 248, 3) := by decide +kernel
theorem dX11_strike_20 : decode cX11_strike 20 = .ok (.ireturn, 1) := by decide +kernel
theorem dX11_shift_0 : decode cX11_shift 0 = .ok (.aload_n 0, 1) := by decide +kernel
theorem dX11_shift_1 : decode cX11_shift 1 = .ok (.getfield 37, 3) := by decide +kernel
theorem dX11_shift_4 : decode cX11_shift 4 = .ok (.aload_n 0, 1) := by decide +kernel
theorem dX11_shift_5 : decode cX11_shift 5 = .ok (.getfield 33, 3) := by decide +kernel
theorem dX11_shift_8 : decode cX11_shift 8 = .ok (.invokevirtual 156, 3) := by decide +kernel
theorem dX11_shift_11 : decode cX11_shift 11 = .ok (.aload_n 0, 1) := by decide +kernel
theorem dX11_shift_12 : decode cX11_shift 12 = .ok (.aload_n 0, 1) := by decide +kernel
theorem dX11_shift_13 : decode cX11_shift 13 = .ok (.iload_n 1, 1) := by decide +kernel
theorem dX11_shift_14 : decode cX11_shift 14 = .ok (.iload_n 2, 1) := by decide +kernel
theorem dX11_shift_15 : decode cX11_shift 15 = .ok (.invokevirtual 267, 3) := by decide +kernel
theorem dX11_shift_18 : decode cX11_shift 18 = .ok (.invokevirtual 248, 3) := by decide +kernel
theorem dX11_shift_21 : decode cX11_shift 21 = .ok (.ireturn, 1) := by decide +kernel
theorem dX11_afternoon_0 : decode cX11_afternoon 0 = .ok (.aload_n 0, 1) := by decide +kernel
theorem dX11_afternoon_1 : decode cX11_afternoon 1 = .ok (.getfield 10, 3) := by decide +kernel
theorem dX11_afternoon_4 : decode cX11_afternoon 4 = .ok (.bipush 60, 2) := by decide +kernel
theorem dX11_afternoon_6 : decode cX11_afternoon 6 = .ok (.invokevirtual 113, 3) := by decide +kernel
theorem dX11_afternoon_9 : decode cX11_afternoon 9 = .ok (.aload_n 0, 1) := by decide +kernel
theorem dX11_afternoon_10 : decode cX11_afternoon 10 = .ok (.getfield 10, 3) := by decide +kernel
theorem dX11_afternoon_13 : decode cX11_afternoon 13 = .ok (.invokevirtual 146, 3) := by decide +kernel
theorem dX11_afternoon_16 : decode cX11_afternoon 16 = .ok (.ifCond .ne 18, 3) := by decide +kernel
theorem dX11_afternoon_19 : decode cX11_afternoon 19 = .ok (.aload_n 0, 1) := by decide +kernel
theorem dX11_afternoon_20 : decode cX11_afternoon 20 = .ok (.invokevirtual 270, 3) := by decide +kernel
theorem dX11_afternoon_23 : decode cX11_afternoon 23 = .ok (.ifCond .ne 11, 3) := by decide +kernel
theorem dX11_afternoon_26 : decode cX11_afternoon 26 = .ok (.aload_n 0, 1) := by decide +kernel
theorem dX11_afternoon_27 : decode cX11_afternoon 27 = .ok (.getfield 10, 3) := by decide +kernel
theorem dX11_afternoon_30 : decode cX11_afternoon 30 = .ok (.invokevirtual 127, 3) := by decide +kernel
theorem dX11_afternoon_33 : decode cX11_afternoon 33 = .ok (.ireturn, 1) := by decide +kernel
theorem dX11_afternoon_34 : decode cX11_afternoon 34 = .ok (.aload_n 0, 1) := by decide +kernel
theorem dX11_afternoon_35 : decode cX11_afternoon 35 = .ok (.getfield 37, 3) := by decide +kernel
theorem dX11_afternoon_38 : decode cX11_afternoon 38 = .ok (.aload_n 0, 1) := by decide +kernel
theorem dX11_afternoon_39 : decode cX11_afternoon 39 = .ok (.getfield 33, 3) := by decide +kernel
theorem dX11_afternoon_42 : decode cX11_afternoon 42 = .ok (.invokevirtual 156, 3) := by decide +kernel
theorem dX11_afternoon_45 : decode cX11_afternoon 45 = .ok (.aload_n 0, 1) := by decide +kernel
theorem dX11_afternoon_46 : decode cX11_afternoon 46 = .ok (.getfield 10, 3) := by decide +kernel
theorem dX11_afternoon_49 : decode cX11_afternoon 49 = .ok (.invokevirtual 135, 3) := by decide +kernel
theorem dX11_afternoon_52 : decode cX11_afternoon 52 = .ok (.iconst 0, 1) := by decide +kernel
theorem dX11_afternoon_53 : decode cX11_afternoon 53 = .ok (.istore_n 1, 1) := by decide +kernel
theorem dX11_afternoon_54 : decode cX11_afternoon 54 = .ok (.iconst 0, 1) := by decide +kernel
theorem dX11_afternoon_55 : decode cX11_afternoon 55 = .ok (.istore_n 2, 1) := by decide +kernel
theorem dX11_afternoon_56 : decode cX11_afternoon 56 = .ok (.iconst 0, 1) := by decide +kernel
theorem dX11_afternoon_57 : decode cX11_afternoon 57 = .ok (.istore_n 3, 1) := by decide +kernel
theorem dX11_afternoon_58 : decode cX11_afternoon 58 = .ok (.iload_n 3, 1) := by decide +kernel
theorem dX11_afternoon_59 : decode cX11_afternoon 59 = .ok (.bipush 60, 2) := by decide +kernel
theorem dX11_afternoon_61 : decode cX11_afternoon 61 = .ok (.if_icmp .ge 63, 3) := by decide +kernel
theorem dX11_afternoon_64 : decode cX11_afternoon 64 = .ok (.aload_n 0, 1) := by decide +kernel
theorem dX11_afternoon_65 : decode cX11_afternoon 65 = .ok (.getfield 10, 3) := by decide +kernel
theorem dX11_afternoon_68 : decode cX11_afternoon 68 = .ok (.invokevirtual 131, 3) := by decide +kernel
theorem dX11_afternoon_71 : decode cX11_afternoon 71 = .ok (.ifCond .ne 53, 3) := by decide +kernel
theorem dX11_afternoon_74 : decode cX11_afternoon 74 = .ok (.iload_n 2, 1) := by decide +kernel
theorem dX11_afternoon_75 : decode cX11_afternoon 75 = .ok (.ifCond .ne 49, 3) := by decide +kernel
theorem dX11_afternoon_78 : decode cX11_afternoon 78 = .ok (.aload_n 0, 1) := by decide +kernel
theorem dX11_afternoon_79 : decode cX11_afternoon 79 = .ok (.invokevirtual 273, 3) := by decide +kernel
theorem dX11_afternoon_82 : decode cX11_afternoon 82 = .ok (.pop, 1) := by decide +kernel
theorem dX11_afternoon_83 : decode cX11_afternoon 83 = .ok (.aload_n 0, 1) := by decide +kernel
theorem dX11_afternoon_84 : decode cX11_afternoon 84 = .ok (.getfield 10, 3) := by decide +kernel
theorem dX11_afternoon_87 : decode cX11_afternoon 87 = .ok (.bipush 59, 2) := by decide +kernel
theorem dX11_afternoon_89 : decode cX11_afternoon 89 = .ok (.invokevirtual 276, 3) := by decide +kernel
theorem dX11_afternoon_92 : decode cX11_afternoon 92 = .ok (.pop, 1) := by decide +kernel
theorem dX11_afternoon_93 : decode cX11_afternoon 93 = .ok (.aload_n 0, 1) := by decide +kernel
theorem dX11_afternoon_94 : decode cX11_afternoon 94 = .ok (.invokevirtual 279, 3) := by decide +kernel
theorem dX11_afternoon_97 : decode cX11_afternoon 97 = .ok (.ifCond .ge 7, 3) := by decide +kernel
theorem dX11_afternoon_100 : decode cX11_afternoon 100 = .ok (.iconst 1, 1) := by decide +kernel
theorem dX11_afternoon_101 : decode cX11_afternoon 101 = .ok (.goto 4, 3) := by decide +kernel
theorem dX11_afternoon_104 : decode cX11_afternoon 104 = .ok (.iconst 0, 1) := by decide +kernel
theorem dX11_afternoon_105 : decode cX11_afternoon 105 = .ok (.istore_n 2, 1) := by decide +kernel
theorem dX11_afternoon_106 : decode cX11_afternoon 106 = .ok (.iload_n 1, 1) := by decide +kernel
theorem dX11_afternoon_107 : decode cX11_afternoon 107 = .ok (.iload_n 2, 1) := by decide +kernel
theorem dX11_afternoon_108 : decode cX11_afternoon 108 = .ok (.ifCond .eq 7, 3) := by decide +kernel
theorem dX11_afternoon_111 : decode cX11_afternoon 111 = .ok (.iconst 0, 1) := by decide +kernel
theorem dX11_afternoon_112 : decode cX11_afternoon 112 = .ok (.goto 4, 3) := by decide +kernel
theorem dX11_afternoon_115 : decode cX11_afternoon 115 = .ok (.iconst 1, 1) := by decide +kernel
theorem dX11_afternoon_116 : decode cX11_afternoon 116 = .ok (.iadd, 1) := by decide +kernel
theorem dX11_afternoon_117 : decode cX11_afternoon 117 = .ok (.istore_n 1, 1) := by decide +kernel
theorem dX11_afternoon_118 : decode cX11_afternoon 118 = .ok (.iinc 3 1, 3) := by decide +kernel
theorem dX11_afternoon_121 : decode cX11_afternoon 121 = .ok (.goto (-63), 3) := by decide +kernel
theorem dX11_afternoon_124 : decode cX11_afternoon 124 = .ok (.iload_n 1, 1) := by decide +kernel
theorem dX11_afternoon_125 : decode cX11_afternoon 125 = .ok (.ifCond .le 14, 3) := by decide +kernel
theorem dX11_afternoon_128 : decode cX11_afternoon 128 = .ok (.aload_n 0, 1) := by decide +kernel
theorem dX11_afternoon_129 : decode cX11_afternoon 129 = .ok (.getfield 71, 3) := by decide +kernel
theorem dX11_afternoon_132 : decode cX11_afternoon 132 = .ok (.aload_n 0, 1) := by decide +kernel
theorem dX11_afternoon_133 : decode cX11_afternoon 133 = .ok (.getfield 37, 3) := by decide +kernel
theorem dX11_afternoon_136 : decode cX11_afternoon 136 = .ok (.invokevirtual 152, 3) := by decide +kernel
theorem dX11_afternoon_139 : decode cX11_afternoon 139 = .ok (.aload_n 0, 1) := by decide +kernel
theorem dX11_afternoon_140 : decode cX11_afternoon 140 = .ok (.getfield 19, 3) := by decide +kernel
theorem dX11_afternoon_143 : decode cX11_afternoon 143 = .ok (.iload_n 2, 1) := by decide +kernel
theorem dX11_afternoon_144 : decode cX11_afternoon 144 = .ok (.ifCond .eq 7, 3) := by decide +kernel
theorem dX11_afternoon_147 : decode cX11_afternoon 147 = .ok (.lconst 1, 1) := by decide +kernel
theorem dX11_afternoon_148 : decode cX11_afternoon 148 = .ok (.goto 4, 3) := by decide +kernel
theorem dX11_afternoon_151 : decode cX11_afternoon 151 = .ok (.lconst 0, 1) := by decide +kernel
theorem dX11_afternoon_152 : decode cX11_afternoon 152 = .ok (.aload_n 0, 1) := by decide +kernel
theorem dX11_afternoon_153 : decode cX11_afternoon 153 = .ok (.getfield 55, 3) := by decide +kernel
theorem dX11_afternoon_156 : decode cX11_afternoon 156 = .ok (.invokevirtual 282, 3) := by decide +kernel
theorem dX11_afternoon_159 : decode cX11_afternoon 159 = .ok (.i2l, 1) := by decide +kernel
theorem dX11_afternoon_160 : decode cX11_afternoon 160 = .ok (.invokevirtual 285, 3) := by decide +kernel
theorem dX11_afternoon_163 : decode cX11_afternoon 163 = .ok (.iload_n 1, 1) := by decide +kernel
theorem dX11_afternoon_164 : decode cX11_afternoon 164 = .ok (.ireturn, 1) := by decide +kernel
theorem dX11_undo_0 : decode cX11_undo 0 = .ok (.aload_n 0, 1) := by decide +kernel
theorem dX11_undo_1 : decode cX11_undo 1 = .ok (.getfield 71, 3) := by decide +kernel
theorem dX11_undo_4 : decode cX11_undo 4 = .ok (.aload_n 0, 1) := by decide +kernel
theorem dX11_undo_5 : decode cX11_undo 5 = .ok (.getfield 33, 3) := by decide +kernel
theorem dX11_undo_8 : decode cX11_undo 8 = .ok (.invokevirtual 289, 3) := by decide +kernel
theorem dX11_undo_11 : decode cX11_undo 11 = .ok (.ifCond .eq 13, 3) := by decide +kernel
theorem dX11_undo_14 : decode cX11_undo 14 = .ok (.aload_n 0, 1) := by decide +kernel
theorem dX11_undo_15 : decode cX11_undo 15 = .ok (.getfield 71, 3) := by decide +kernel
theorem dX11_undo_18 : decode cX11_undo 18 = .ok (.getfield 293, 3) := by decide +kernel
theorem dX11_undo_21 : decode cX11_undo 21 = .ok (.goto 4, 3) := by decide +kernel
theorem dX11_undo_24 : decode cX11_undo 24 = .ok (.iconst (-1), 1) := by decide +kernel
theorem dX11_undo_25 : decode cX11_undo 25 = .ok (.ireturn, 1) := by decide +kernel
theorem dX11_alone_0 : decode cX11_alone 0 = .ok (.aload_n 0, 1) := by decide +kernel
theorem dX11_alone_1 : decode cX11_alone 1 = .ok (.getfield 45, 3) := by decide +kernel
theorem dX11_alone_4 : decode cX11_alone 4 = .ok (.invokevirtual 162, 3) := by decide +kernel
theorem dX11_alone_7 : decode cX11_alone 7 = .ok (.iconst (-1), 1) := by decide +kernel
theorem dX11_alone_8 : decode cX11_alone 8 = .ok (.istore_n 1, 1) := by decide +kernel
theorem dX11_alone_9 : decode cX11_alone 9 = .ok (.iconst 0, 1) := by decide +kernel
theorem dX11_alone_10 : decode cX11_alone 10 = .ok (.istore_n 2, 1) := by decide +kernel
theorem dX11_alone_11 : decode cX11_alone 11 = .ok (.iconst 0, 1) := by decide +kernel
theorem dX11_alone_12 : decode cX11_alone 12 = .ok (.istore_n 3, 1) := by decide +kernel
theorem dX11_alone_13 : decode cX11_alone 13 = .ok (.iconst 0, 1) := by decide +kernel
theorem dX11_alone_14 : decode cX11_alone 14 = .ok (.istore 4, 2) := by decide +kernel
theorem dX11_alone_16 : decode cX11_alone 16 = .ok (.iconst (-1), 1) := by decide +kernel
theorem dX11_alone_17 : decode cX11_alone 17 = .ok (.istore 5, 2) := by decide +kernel
theorem dX11_alone_19 : decode cX11_alone 19 = .ok (.iconst 0, 1) := by decide +kernel
theorem dX11_alone_20 : decode cX11_alone 20 = .ok (.istore 6, 2) := by decide +kernel
theorem dX11_alone_22 : decode cX11_alone 22 = .ok (.iload 6, 2) := by decide +kernel
theorem dX11_alone_24 : decode cX11_alone 24 = .ok (.aload_n 0, 1) := by decide +kernel
theorem dX11_alone_25 : decode cX11_alone 25 = .ok (.getfield 26, 3) := by decide +kernel
theorem dX11_alone_28 : decode cX11_alone 28 = .ok (.getfield 172, 3) := by decide +kernel
theorem dX11_alone_31 : decode cX11_alone 31 = .ok (.if_icmp .ge 68, 3) := by decide +kernel
theorem dX11_alone_34 : decode cX11_alone 34 = .ok (.aload_n 0, 1) := by decide +kernel
theorem dX11_alone_35 : decode cX11_alone 35 = .ok (.getfield 45, 3) := by decide +kernel
theorem dX11_alone_38 : decode cX11_alone 38 = .ok (.getfield 254, 3) := by decide +kernel
theorem dX11_alone_41 : decode cX11_alone 41 = .ok (.iload 6, 2) := by decide +kernel
theorem dX11_alone_43 : decode cX11_alone 43 = .ok (.invokevirtual 294, 3) := by decide +kernel
theorem dX11_alone_46 : decode cX11_alone 46 = .ok (.ifCond .eq 9, 3) := by decide +kernel
theorem dX11_alone_49 : decode cX11_alone 49 = .ok (.iload_n 3, 1) := by decide +kernel
theorem dX11_alone_50 : decode cX11_alone 50 = .ok (.iconst 1, 1) := by decide +kernel
theorem dX11_alone_51 : decode cX11_alone 51 = .ok (.iadd, 1) := by decide +kernel
theorem dX11_alone_52 : decode cX11_alone 52 = .ok (.goto 4, 3) := by decide +kernel
theorem dX11_alone_55 : decode cX11_alone 55 = .ok (.iconst 0, 1) := by decide +kernel
theorem dX11_alone_56 : decode cX11_alone 56 = .ok (.istore_n 3, 1) := by decide +kernel
theorem dX11_alone_57 : decode cX11_alone 57 = .ok (.iload_n 3, 1) := by decide +kernel
theorem dX11_alone_58 : decode cX11_alone 58 = .ok (.ifCond .le 18, 3) := by decide +kernel
theorem dX11_alone_61 : decode cX11_alone 61 = .ok (.iinc 2 1, 3) := by decide +kernel
theorem dX11_alone_64 : decode cX11_alone 64 = .ok (.iload_n 1, 1) := by decide +kernel
theorem dX11_alone_65 : decode cX11_alone 65 = .ok (.iconst (-1), 1) := by decide +kernel
theorem dX11_alone_66 : decode cX11_alone 66 = .ok (.if_icmp .ne 8, 3) := by decide +kernel
theorem dX11_alone_69 : decode cX11_alone 69 = .ok (.iload 6, 2) := by decide +kernel
theorem dX11_alone_71 : decode cX11_alone 71 = .ok (.goto 4, 3) := by decide +kernel
theorem dX11_alone_74 : decode cX11_alone 74 = .ok (.iload_n 1, 1) := by decide +kernel
theorem dX11_alone_75 : decode cX11_alone 75 = .ok (.istore_n 1, 1) := by decide +kernel
theorem dX11_alone_76 : decode cX11_alone 76 = .ok (.iload_n 3, 1) := by decide +kernel
theorem dX11_alone_77 : decode cX11_alone 77 = .ok (.iload 4, 2) := by decide +kernel
theorem dX11_alone_79 : decode cX11_alone 79 = .ok (.if_icmp .le 14, 3) := by decide +kernel
theorem dX11_alone_82 : decode cX11_alone 82 = .ok (.iload_n 3, 1) := by decide +kernel
theorem dX11_alone_83 : decode cX11_alone 83 = .ok (.istore 4, 2) := by decide +kernel
theorem dX11_alone_85 : decode cX11_alone 85 = .ok (.iload 6, 2) := by decide +kernel
theorem dX11_alone_87 : decode cX11_alone 87 = .ok (.iload_n 3, 1) := by decide +kernel
theorem dX11_alone_88 : decode cX11_alone 88 = .ok (.isub, 1) := by decide +kernel
theorem dX11_alone_89 : decode cX11_alone 89 = .ok (.iconst 1, 1) := by decide +kernel
theorem dX11_alone_90 : decode cX11_alone 90 = .ok (.iadd, 1) := by decide +kernel
theorem dX11_alone_91 : decode cX11_alone 91 = .ok (.istore 5, 2) := by decide +kernel
theorem dX11_alone_93 : decode cX11_alone 93 = .ok (.iinc 6 1, 3) := by decide +kernel
theorem dX11_alone_96 : decode cX11_alone 96 = .ok (.goto (-74), 3) := by decide +kernel
theorem dX11_alone_99 : decode cX11_alone 99 = .ok (.aload_n 0, 1) := by decide +kernel
theorem dX11_alone_100 : decode cX11_alone 100 = .ok (.getfield 19, 3) := by decide +kernel
theorem dX11_alone_103 : decode cX11_alone 103 = .ok (.iload_n 1, 1) := by decide +kernel
theorem dX11_alone_104 : decode cX11_alone 104 = .ok (.i2l, 1) := by decide +kernel
theorem dX11_alone_105 : decode cX11_alone 105 = .ok (.iload 4, 2) := by decide +kernel
theorem dX11_alone_107 : decode cX11_alone 107 = .ok (.i2l, 1) := by decide +kernel
theorem dX11_alone_108 : decode cX11_alone 108 = .ok (.iload 5, 2) := by decide +kernel
theorem dX11_alone_110 : decode cX11_alone 110 = .ok (.i2l, 1) := by decide +kernel
theorem dX11_alone_111 : decode cX11_alone 111 = .ok (.invokevirtual 295, 3) := by decide +kernel
theorem dX11_alone_114 : decode cX11_alone 114 = .ok (.iload_n 2, 1) := by decide +kernel
theorem dX11_alone_115 : decode cX11_alone 115 = .ok (.ireturn, 1) := by decide +kernel
theorem dX11_bench_0 : decode cX11_bench 0 = .ok (.iload_n 1, 1) := by decide +kernel
theorem dX11_bench_1 : decode cX11_bench 1 = .ok (.ifCond .lt 14, 3) := by decide +kernel
theorem dX11_bench_4 : decode cX11_bench 4 = .ok (.iload_n 1, 1) := by decide +kernel
theorem dX11_bench_5 : decode cX11_bench 5 = .ok (.aload_n 0, 1) := by decide +kernel
theorem dX11_bench_6 : decode cX11_bench 6 = .ok (.getfield 26, 3) := by decide +kernel
theorem dX11_bench_9 : decode cX11_bench 9 = .ok (.getfield 172, 3) := by decide +kernel
theorem dX11_bench_12 : decode cX11_bench 12 = .ok (.if_icmp .lt 5, 3) := by decide +kernel
theorem dX11_bench_15 : decode cX11_bench 15 = .ok (.iconst (-1), 1) := by decide +kernel
theorem dX11_bench_16 : decode cX11_bench 16 = .ok (.ireturn, 1) := by decide +kernel
theorem dX11_bench_17 : decode cX11_bench 17 = .ok (.aload_n 0, 1) := by decide +kernel
theorem dX11_bench_18 : decode cX11_bench 18 = .ok (.getfield 45, 3) := by decide +kernel
theorem dX11_bench_21 : decode cX11_bench 21 = .ok (.invokevirtual 162, 3) := by decide +kernel
theorem dX11_bench_24 : decode cX11_bench 24 = .ok (.iconst 0, 1) := by decide +kernel
theorem dX11_bench_25 : decode cX11_bench 25 = .ok (.istore_n 2, 1) := by decide +kernel
theorem dX11_bench_26 : decode cX11_bench 26 = .ok (.iconst 0, 1) := by decide +kernel
theorem dX11_bench_27 : decode cX11_bench 27 = .ok (.istore_n 3, 1) := by decide +kernel
theorem dX11_bench_28 : decode cX11_bench 28 = .ok (.iconst 0, 1) := by decide +kernel
theorem dX11_bench_29 : decode cX11_bench 29 = .ok (.istore 4, 2) := by decide +kernel
theorem dX11_bench_31 : decode cX11_bench 31 = .ok (.iload 4, 2) := by decide +kernel
theorem dX11_bench_33 : decode cX11_bench 33 = .ok (.aload_n 0, 1) := by decide +kernel
theorem dX11_bench_34 : decode cX11_bench 34 = .ok (.getfield 26, 3) := by decide +kernel
theorem dX11_bench_37 : decode cX11_bench 37 = .ok (.getfield 299, 3) := by decide +kernel
theorem dX11_bench_40 : decode cX11_bench 40 = .ok (.if_icmp .ge 82, 3) := by decide +kernel
theorem dX11_bench_43 : decode cX11_bench 43 = .ok (.iload_n 2, 1) := by decide +kernel
theorem dX11_bench_44 : decode cX11_bench 44 = .ok (.aload_n 0, 1) := by decide +kernel
theorem dX11_bench_45 : decode cX11_bench 45 = .ok (.getfield 45, 3) := by decide +kernel
theorem dX11_bench_48 : decode cX11_bench 48 = .ok (.getfield 302, 3) := by decide +kernel
theorem dX11_bench_51 : decode cX11_bench 51 = .ok (.iload 4, 2) := by decide +kernel
theorem dX11_bench_53 : decode cX11_bench 53 = .ok (.aaload, 1) := by decide +kernel
theorem dX11_bench_54 : decode cX11_bench 54 = .ok (.iload_n 1, 1) := by decide +kernel
theorem dX11_bench_55 : decode cX11_bench 55 = .ok (.invokevirtual 294, 3) := by decide +kernel
theorem dX11_bench_58 : decode cX11_bench 58 = .ok (.ifCond .eq 10, 3) := by decide +kernel
theorem dX11_bench_61 : decode cX11_bench 61 = .ok (.iconst 1, 1) := by decide +kernel
theorem dX11_bench_62 : decode cX11_bench 62 = .ok (.iload 4, 2) := by decide +kernel
theorem dX11_bench_64 : decode cX11_bench 64 = .ok (.ishl, 1) := by decide +kernel
theorem dX11_bench_65 : decode cX11_bench 65 = .ok (.goto 4, 3) := by decide +kernel
theorem dX11_bench_68 : decode cX11_bench 68 = .ok (.iconst 0, 1) := by decide +kernel
theorem dX11_bench_69 : decode cX11_bench 69 = .ok (.ior, 1) := by decide +kernel
theorem dX11_bench_70 : decode cX11_bench 70 = .ok (.istore_n 2, 1) := by decide +kernel
theorem dX11_bench_71 : decode cX11_bench 71 = .ok (.iload_n 3, 1) := by decide +kernel
theorem dX11_bench_72 : decode cX11_bench 72 = .ok (.aload_n 0, 1) := by decide +kernel
theorem dX11_bench_73 : decode cX11_bench 73 = .ok (.getfield 45, 3) := by decide +kernel
theorem dX11_bench_76 : decode cX11_bench 76 = .ok (.getfield 306, 3) := by decide +kernel
theorem dX11_bench_79 : decode cX11_bench 79 = .ok (.iload 4, 2) := by decide +kernel
theorem dX11_bench_81 : decode cX11_bench 81 = .ok (.aaload, 1) := by decide +kernel
theorem dX11_bench_82 : decode cX11_bench 82 = .ok (.iload_n 1, 1) := by decide +kernel
theorem dX11_bench_83 : decode cX11_bench 83 = .ok (.invokevirtual 294, 3) := by decide +kernel
theorem dX11_bench_86 : decode cX11_bench 86 = .ok (.ifCond .eq 27, 3) := by decide +kernel
theorem dX11_bench_89 : decode cX11_bench 89 = .ok (.aload_n 0, 1) := by decide +kernel
theorem dX11_bench_90 : decode cX11_bench 90 = .ok (.getfield 45, 3) := by decide +kernel
theorem dX11_bench_93 : decode cX11_bench 93 = .ok (.getfield 309, 3) := by decide +kernel
theorem dX11_bench_96 : decode cX11_bench 96 = .ok (.iload 4, 2) := by decide +kernel
theorem dX11_bench_98 : decode cX11_bench 98 = .ok (.aaload, 1) := by decide +kernel
theorem dX11_bench_99 : decode cX11_bench 99 = .ok (.iload_n 1, 1) := by decide +kernel
theorem dX11_bench_100 : decode cX11_bench 100 = .ok (.invokevirtual 294, 3) := by decide +kernel
theorem dX11_bench_103 : decode cX11_bench 103 = .ok (.ifCond .ne 10, 3) := by decide +kernel
theorem dX11_bench_106 : decode cX11_bench 106 = .ok (.iconst 1, 1) := by decide +kernel
theorem dX11_bench_107 : decode cX11_bench 107 = .ok (.iload 4, 2) := by decide +kernel
theorem dX11_bench_109 : decode cX11_bench 109 = .ok (.ishl, 1) := by decide +kernel
theorem dX11_bench_110 : decode cX11_bench 110 = .ok (.goto 4, 3) := by decide +kernel
theorem dX11_bench_113 : decode cX11_bench 113 = .ok (.iconst 0, 1) := by decide +kernel
theorem dX11_bench_114 : decode cX11_bench 114 = .ok (.ior, 1) := by decide +kernel
theorem dX11_bench_115 : decode cX11_bench 115 = .ok (.istore_n 3, 1) := by decide +kernel
theorem dX11_bench_116 : decode cX11_bench 116 = .ok (.iinc 4 1, 3) := by decide +kernel
theorem dX11_bench_119 : decode cX11_bench 119 = .ok (.goto (-88), 3) := by decide +kernel
theorem dX11_bench_122 : decode cX11_bench 122 = .ok (.aload_n 0, 1) := by decide +kernel
theorem dX11_bench_123 : decode cX11_bench 123 = .ok (.getfield 19, 3) := by decide +kernel
theorem dX11_bench_126 : decode cX11_bench 126 = .ok (.iload_n 2, 1) := by decide +kernel
theorem dX11_bench_127 : decode cX11_bench 127 = .ok (.i2l, 1) := by decide +kernel
theorem dX11_bench_128 : decode cX11_bench 128 = .ok (.iload_n 3, 1) := by decide +kernel
theorem dX11_bench_129 : decode cX11_bench 129 = .ok (.i2l, 1) := by decide +kernel
theorem dX11_bench_130 : decode cX11_bench 130 = .ok (.invokevirtual 285, 3) := by decide +kernel
theorem dX11_bench_133 : decode cX11_bench 133 = .ok (.aload_n 0, 1) := by decide +kernel
theorem dX11_bench_134 : decode cX11_bench 134 = .ok (.getfield 45, 3) := by decide +kernel
theorem dX11_bench_137 : decode cX11_bench 137 = .ok (.iload_n 1, 1) := by decide +kernel
theorem dX11_bench_138 : decode cX11_bench 138 = .ok (.invokevirtual 312, 3) := by decide +kernel
theorem dX11_bench_141 : decode cX11_bench 141 = .ok (.ireturn, 1) := by decide +kernel
theorem dX11_worth_0 : decode cX11_worth 0 = .ok (.iconst 0, 1) := by decide +kernel
theorem dX11_worth_1 : decode cX11_worth 1 = .ok (.istore_n 1, 1) := by decide +kernel
theorem dX11_worth_2 : decode cX11_worth 2 = .ok (.iconst (-1), 1) := by decide +kernel
theorem dX11_worth_3 : decode cX11_worth 3 = .ok (.istore_n 2, 1) := by decide +kernel
theorem dX11_worth_4 : decode cX11_worth 4 = .ok (.iconst 0, 1) := by decide +kernel
theorem dX11_worth_5 : decode cX11_worth 5 = .ok (.istore_n 3, 1) := by decide +kernel
theorem dX11_worth_6 : decode cX11_worth 6 = .ok (.iload_n 3, 1) := by decide +kernel
theorem dX11_worth_7 : decode cX11_worth 7 = .ok (.aload_n 0, 1) := by decide +kernel
theorem dX11_worth_8 : decode cX11_worth 8 = .ok (.getfield 33, 3) := by decide +kernel
theorem dX11_worth_11 : decode cX11_worth 11 = .ok (.getfield 143, 3) := by decide +kernel
theorem dX11_worth_14 : decode cX11_worth 14 = .ok (.if_icmp .ge 34, 3) := by decide +kernel
theorem dX11_worth_17 : decode cX11_worth 17 = .ok (.aload_n 0, 1) := by decide +kernel
theorem dX11_worth_18 : decode cX11_worth 18 = .ok (.getfield 45, 3) := by decide +kernel
theorem dX11_worth_21 : decode cX11_worth 21 = .ok (.iload_n 3, 1) := by decide +kernel
theorem dX11_worth_22 : decode cX11_worth 22 = .ok (.invokevirtual 226, 3) := by decide +kernel
theorem dX11_worth_25 : decode cX11_worth 25 = .ok (.ifCond .eq 17, 3) := by decide +kernel
theorem dX11_worth_28 : decode cX11_worth 28 = .ok (.iinc 1 1, 3) := by decide +kernel
theorem dX11_worth_31 : decode cX11_worth 31 = .ok (.iload_n 2, 1) := by decide +kernel
theorem dX11_worth_32 : decode cX11_worth 32 = .ok (.iconst (-1), 1) := by decide +kernel
theorem dX11_worth_33 : decode cX11_worth 33 = .ok (.if_icmp .ne 7, 3) := by decide +kernel
theorem dX11_worth_36 : decode cX11_worth 36 = .ok (.iload_n 3, 1) := by decide +kernel
theorem dX11_worth_37 : decode cX11_worth 37 = .ok (.goto 4, 3) := by decide +kernel
theorem dX11_worth_40 : decode cX11_worth 40 = .ok (.iload_n 2, 1) := by decide +kernel
theorem dX11_worth_41 : decode cX11_worth 41 = .ok (.istore_n 2, 1) := by decide +kernel
theorem dX11_worth_42 : decode cX11_worth 42 = .ok (.iinc 3 1, 3) := by decide +kernel
theorem dX11_worth_45 : decode cX11_worth 45 = .ok (.goto (-39), 3) := by decide +kernel
theorem dX11_worth_48 : decode cX11_worth 48 = .ok (.aload_n 0, 1) := by decide +kernel
theorem dX11_worth_49 : decode cX11_worth 49 = .ok (.getfield 19, 3) := by decide +kernel
theorem dX11_worth_52 : decode cX11_worth 52 = .ok (.iload_n 1, 1) := by decide +kernel
theorem dX11_worth_53 : decode cX11_worth 53 = .ok (.i2l, 1) := by decide +kernel
theorem dX11_worth_54 : decode cX11_worth 54 = .ok (.iload_n 2, 1) := by decide +kernel
theorem dX11_worth_55 : decode cX11_worth 55 = .ok (.i2l, 1) := by decide +kernel
theorem dX11_worth_56 : decode cX11_worth 56 = .ok (.invokevirtual 285, 3) := by decide +kernel
theorem dX11_worth_59 : decode cX11_worth 59 = .ok (.aload_n 0, 1) := by decide +kernel
theorem dX11_worth_60 : decode cX11_worth 60 = .ok (.getfield 55, 3) := by decide +kernel
theorem dX11_worth_63 : decode cX11_worth 63 = .ok (.invokevirtual 282, 3) := by decide +kernel
theorem dX11_worth_66 : decode cX11_worth 66 = .ok (.ireturn, 1) := by decide +kernel
theorem dX11_stays_0 : decode cX11_stays 0 = .ok (.aload_n 0, 1) := by decide +kernel
theorem dX11_stays_1 : decode cX11_stays 1 = .ok (.getfield 26, 3) := by decide +kernel
theorem dX11_stays_4 : decode cX11_stays 4 = .ok (.getfield 299, 3) := by decide +kernel
theorem dX11_stays_7 : decode cX11_stays 7 = .ok (.ifCond .ne 6, 3) := by decide +kernel
theorem dX11_stays_10 : decode cX11_stays 10 = .ok (.bipush (-2), 2) := by decide +kernel
theorem dX11_stays_12 : decode cX11_stays 12 = .ok (.ireturn, 1) := by decide +kernel
theorem dX11_stays_13 : decode cX11_stays 13 = .ok (.aload_n 0, 1) := by decide +kernel
theorem dX11_stays_14 : decode cX11_stays 14 = .ok (.getfield 45, 3) := by decide +kernel
theorem dX11_stays_17 : decode cX11_stays 17 = .ok (.invokevirtual 162, 3) := by decide +kernel
theorem dX11_stays_20 : decode cX11_stays 20 = .ok (.iconst 0, 1) := by decide +kernel
theorem dX11_stays_21 : decode cX11_stays 21 = .ok (.istore_n 1, 1) := by decide +kernel
theorem dX11_stays_22 : decode cX11_stays 22 = .ok (.iconst 0, 1) := by decide +kernel
theorem dX11_stays_23 : decode cX11_stays 23 = .ok (.istore_n 2, 1) := by decide +kernel
theorem dX11_stays_24 : decode cX11_stays 24 = .ok (.iconst 1, 1) := by decide +kernel
theorem dX11_stays_25 : decode cX11_stays 25 = .ok (.istore_n 3, 1) := by decide +kernel
theorem dX11_stays_26 : decode cX11_stays 26 = .ok (.iload_n 3, 1) := by decide +kernel
theorem dX11_stays_27 : decode cX11_stays 27 = .ok (.aload_n 0, 1) := by decide +kernel
theorem dX11_stays_28 : decode cX11_stays 28 = .ok (.getfield 26, 3) := by decide +kernel
theorem dX11_stays_31 : decode cX11_stays 31 = .ok (.getfield 299, 3) := by decide +kernel
theorem dX11_stays_34 : decode cX11_stays 34 = .ok (.if_icmp .ge 59, 3) := by decide +kernel
theorem dX11_stays_37 : decode cX11_stays 37 = .ok (.aload_n 0, 1) := by decide +kernel
theorem dX11_stays_38 : decode cX11_stays 38 = .ok (.getfield 45, 3) := by decide +kernel
theorem dX11_stays_41 : decode cX11_stays 41 = .ok (.iload_n 3, 1) := by decide +kernel
theorem dX11_stays_42 : decode cX11_stays 42 = .ok (.invokevirtual 175, 3) := by decide +kernel
theorem dX11_stays_45 : decode cX11_stays 45 = .ok (.aload_n 0, 1) := by decide +kernel
theorem dX11_stays_46 : decode cX11_stays 46 = .ok (.getfield 45, 3) := by decide +kernel
theorem dX11_stays_49 : decode cX11_stays 49 = .ok (.iload_n 1, 1) := by decide +kernel
theorem dX11_stays_50 : decode cX11_stays 50 = .ok (.invokevirtual 175, 3) := by decide +kernel
theorem dX11_stays_53 : decode cX11_stays 53 = .ok (.if_icmp .le 7, 3) := by decide +kernel
theorem dX11_stays_56 : decode cX11_stays 56 = .ok (.iload_n 3, 1) := by decide +kernel
theorem dX11_stays_57 : decode cX11_stays 57 = .ok (.goto 4, 3) := by decide +kernel
theorem dX11_stays_60 : decode cX11_stays 60 = .ok (.iload_n 1, 1) := by decide +kernel
theorem dX11_stays_61 : decode cX11_stays 61 = .ok (.istore_n 1, 1) := by decide +kernel
theorem dX11_stays_62 : decode cX11_stays 62 = .ok (.aload_n 0, 1) := by decide +kernel
theorem dX11_stays_63 : decode cX11_stays 63 = .ok (.getfield 45, 3) := by decide +kernel
theorem dX11_stays_66 : decode cX11_stays 66 = .ok (.iload_n 3, 1) := by decide +kernel
theorem dX11_stays_67 : decode cX11_stays 67 = .ok (.invokevirtual 175, 3) := by decide +kernel
theorem dX11_stays_70 : decode cX11_stays 70 = .ok (.aload_n 0, 1) := by decide +kernel
theorem dX11_stays_71 : decode cX11_stays 71 = .ok (.getfield 45, 3) := by decide +kernel
theorem dX11_stays_74 : decode cX11_stays 74 = .ok (.iload_n 2, 1) := by decide +kernel
theorem dX11_stays_75 : decode cX11_stays 75 = .ok (.invokevirtual 175, 3) := by decide +kernel
theorem dX11_stays_78 : decode cX11_stays 78 = .ok (.if_icmp .ge 7, 3) := by decide +kernel
theorem dX11_stays_81 : decode cX11_stays 81 = .ok (.iload_n 3, 1) := by decide +kernel
theorem dX11_stays_82 : decode cX11_stays 82 = .ok (.goto 4, 3) := by decide +kernel
theorem dX11_stays_85 : decode cX11_stays 85 = .ok (.iload_n 2, 1) := by decide +kernel
theorem dX11_stays_86 : decode cX11_stays 86 = .ok (.istore_n 2, 1) := by decide +kernel
theorem dX11_stays_87 : decode cX11_stays 87 = .ok (.iinc 3 1, 3) := by decide +kernel
theorem dX11_stays_90 : decode cX11_stays 90 = .ok (.goto (-64), 3) := by decide +kernel
theorem dX11_stays_93 : decode cX11_stays 93 = .ok (.aload_n 0, 1) := by decide +kernel
theorem dX11_stays_94 : decode cX11_stays 94 = .ok (.getfield 19, 3) := by decide +kernel
theorem dX11_stays_97 : decode cX11_stays 97 = .ok (.aload_n 0, 1) := by decide +kernel
theorem dX11_stays_98 : decode cX11_stays 98 = .ok (.getfield 45, 3) := by decide +kernel
theorem dX11_stays_101 : decode cX11_stays 101 = .ok (.iload_n 1, 1) := by decide +kernel
theorem dX11_stays_102 : decode cX11_stays 102 = .ok (.invokevirtual 175, 3) := by decide +kernel
theorem dX11_stays_105 : decode cX11_stays 105 = .ok (.i2l, 1) := by decide +kernel
theorem dX11_stays_106 : decode cX11_stays 106 = .ok (.iload_n 2, 1) := by decide +kernel
theorem dX11_stays_107 : decode cX11_stays 107 = .ok (.i2l, 1) := by decide +kernel
theorem dX11_stays_108 : decode cX11_stays 108 = .ok (.aload_n 0, 1) := by decide +kernel
theorem dX11_stays_109 : decode cX11_stays 109 = .ok (.getfield 45, 3) := by decide +kernel
theorem dX11_stays_112 : decode cX11_stays 112 = .ok (.iload_n 2, 1) := by decide +kernel
theorem dX11_stays_113 : decode cX11_stays 113 = .ok (.invokevirtual 175, 3) := by decide +kernel
theorem dX11_stays_116 : decode cX11_stays 116 = .ok (.i2l, 1) := by decide +kernel
theorem dX11_stays_117 : decode cX11_stays 117 = .ok (.invokevirtual 295, 3) := by decide +kernel
theorem dX11_stays_120 : decode cX11_stays 120 = .ok (.iload_n 1, 1) := by decide +kernel
theorem dX11_stays_121 : decode cX11_stays 121 = .ok (.ireturn, 1) := by decide +kernel
theorem dX11_stuck_0 : decode cX11_stuck 0 = .ok (.aload_n 0, 1) := by decide +kernel
theorem dX11_stuck_1 : decode cX11_stuck 1 = .ok (.getfield 45, 3) := by decide +kernel
theorem dX11_stuck_4 : decode cX11_stuck 4 = .ok (.invokevirtual 162, 3) := by decide +kernel
theorem dX11_stuck_7 : decode cX11_stuck 7 = .ok (.iconst 0, 1) := by decide +kernel
theorem dX11_stuck_8 : decode cX11_stuck 8 = .ok (.istore_n 1, 1) := by decide +kernel
theorem dX11_stuck_9 : decode cX11_stuck 9 = .ok (.iconst 0, 1) := by decide +kernel
theorem dX11_stuck_10 : decode cX11_stuck 10 = .ok (.istore_n 2, 1) := by decide +kernel
theorem dX11_stuck_11 : decode cX11_stuck 11 = .ok (.iconst 0, 1) := by decide +kernel
theorem dX11_stuck_12 : decode cX11_stuck 12 = .ok (.istore_n 3, 1) := by decide +kernel
theorem dX11_stuck_13 : decode cX11_stuck 13 = .ok (.iconst (-1), 1) := by decide +kernel
theorem dX11_stuck_14 : decode cX11_stuck 14 = .ok (.istore 4, 2) := by decide +kernel
theorem dX11_stuck_16 : decode cX11_stuck 16 = .ok (.iconst (-1), 1) := by decide +kernel
theorem dX11_stuck_17 : decode cX11_stuck 17 = .ok (.istore 5, 2) := by decide +kernel
theorem dX11_stuck_19 : decode cX11_stuck 19 = .ok (.iconst 0, 1) := by decide +kernel
theorem dX11_stuck_20 : decode cX11_stuck 20 = .ok (.istore 6, 2) := by decide +kernel
theorem dX11_stuck_22 : decode cX11_stuck 22 = .ok (.iload 6, 2) := by decide +kernel
theorem dX11_stuck_24 : decode cX11_stuck 24 = .ok (.aload_n 0, 1) := by decide +kernel
theorem dX11_stuck_25 : decode cX11_stuck 25 = .ok (.getfield 26, 3) := by decide +kernel
theorem dX11_stuck_28 : decode cX11_stuck 28 = .ok (.getfield 172, 3) := by decide +kernel
theorem dX11_stuck_31 : decode cX11_stuck 31 = .ok (.if_icmp .ge 76, 3) := by decide +kernel
theorem dX11_stuck_34 : decode cX11_stuck 34 = .ok (.aload_n 0, 1) := by decide +kernel
theorem dX11_stuck_35 : decode cX11_stuck 35 = .ok (.getfield 45, 3) := by decide +kernel
theorem dX11_stuck_38 : decode cX11_stuck 38 = .ok (.iload 6, 2) := by decide +kernel
theorem dX11_stuck_40 : decode cX11_stuck 40 = .ok (.invokevirtual 312, 3) := by decide +kernel
theorem dX11_stuck_43 : decode cX11_stuck 43 = .ok (.istore 7, 2) := by decide +kernel
theorem dX11_stuck_45 : decode cX11_stuck 45 = .ok (.iload 7, 2) := by decide +kernel
theorem dX11_stuck_47 : decode cX11_stuck 47 = .ok (.iload_n 2, 1) := by decide +kernel
theorem dX11_stuck_48 : decode cX11_stuck 48 = .ok (.if_icmp .ne 7, 3) := by decide +kernel
theorem dX11_stuck_51 : decode cX11_stuck 51 = .ok (.iload_n 1, 1) := by decide +kernel
theorem dX11_stuck_52 : decode cX11_stuck 52 = .ok (.goto 4, 3) := by decide +kernel
theorem dX11_stuck_55 : decode cX11_stuck 55 = .ok (.iconst 0, 1) := by decide +kernel
theorem dX11_stuck_56 : decode cX11_stuck 56 = .ok (.istore 8, 2) := by decide +kernel
theorem dX11_stuck_58 : decode cX11_stuck 58 = .ok (.iload 7, 2) := by decide +kernel
theorem dX11_stuck_60 : decode cX11_stuck 60 = .ok (.invokestatic 315, 3) := by decide +kernel
theorem dX11_stuck_63 : decode cX11_stuck 63 = .ok (.iconst 1, 1) := by decide +kernel
theorem dX11_stuck_64 : decode cX11_stuck 64 = .ok (.if_icmp .ne 10, 3) := by decide +kernel
theorem dX11_stuck_67 : decode cX11_stuck 67 = .ok (.iload 8, 2) := by decide +kernel
theorem dX11_stuck_69 : decode cX11_stuck 69 = .ok (.iconst 1, 1) := by decide +kernel
theorem dX11_stuck_70 : decode cX11_stuck 70 = .ok (.iadd, 1) := by decide +kernel
theorem dX11_stuck_71 : decode cX11_stuck 71 = .ok (.goto 4, 3) := by decide +kernel
theorem dX11_stuck_74 : decode cX11_stuck 74 = .ok (.iconst 0, 1) := by decide +kernel
theorem dX11_stuck_75 : decode cX11_stuck 75 = .ok (.istore_n 1, 1) := by decide +kernel
theorem dX11_stuck_76 : decode cX11_stuck 76 = .ok (.iload 7, 2) := by decide +kernel
theorem dX11_stuck_78 : decode cX11_stuck 78 = .ok (.istore_n 2, 1) := by decide +kernel
theorem dX11_stuck_79 : decode cX11_stuck 79 = .ok (.iload_n 1, 1) := by decide +kernel
theorem dX11_stuck_80 : decode cX11_stuck 80 = .ok (.iload_n 3, 1) := by decide +kernel
theorem dX11_stuck_81 : decode cX11_stuck 81 = .ok (.if_icmp .le 20, 3) := by decide +kernel
theorem dX11_stuck_84 : decode cX11_stuck 84 = .ok (.iload_n 1, 1) := by decide +kernel
theorem dX11_stuck_85 : decode cX11_stuck 85 = .ok (.istore_n 3, 1) := by decide +kernel
theorem dX11_stuck_86 : decode cX11_stuck 86 = .ok (.iload 7, 2) := by decide +kernel
theorem dX11_stuck_88 : decode cX11_stuck 88 = .ok (.invokestatic 320, 3) := by decide +kernel
theorem dX11_stuck_91 : decode cX11_stuck 91 = .ok (.istore 4, 2) := by decide +kernel
theorem dX11_stuck_93 : decode cX11_stuck 93 = .ok (.iload 6, 2) := by decide +kernel
theorem dX11_stuck_95 : decode cX11_stuck 95 = .ok (.iload_n 1, 1) := by decide +kernel
theorem dX11_stuck_96 : decode cX11_stuck 96 = .ok (.isub, 1) := by decide +kernel
theorem dX11_stuck_97 : decode cX11_stuck 97 = .ok (.iconst 1, 1) := by decide +kernel
theorem dX11_stuck_98 : decode cX11_stuck 98 = .ok (.iadd, 1) := by decide +kernel
theorem dX11_stuck_99 : decode cX11_stuck 99 = .ok (.istore 5, 2) := by decide +kernel
theorem dX11_stuck_101 : decode cX11_stuck 101 = .ok (.iinc 6 1, 3) := by decide +kernel
theorem dX11_stuck_104 : decode cX11_stuck 104 = .ok (.goto (-82), 3) := by decide +kernel
theorem dX11_stuck_107 : decode cX11_stuck 107 = .ok (.aload_n 0, 1) := by decide +kernel
theorem dX11_stuck_108 : decode cX11_stuck 108 = .ok (.getfield 19, 3) := by decide +kernel
theorem dX11_stuck_111 : decode cX11_stuck 111 = .ok (.iload 4, 2) := by decide +kernel
theorem dX11_stuck_113 : decode cX11_stuck 113 = .ok (.i2l, 1) := by decide +kernel
theorem dX11_stuck_114 : decode cX11_stuck 114 = .ok (.iload 5, 2) := by decide +kernel
theorem dX11_stuck_116 : decode cX11_stuck 116 = .ok (.i2l, 1) := by decide +kernel
theorem dX11_stuck_117 : decode cX11_stuck 117 = .ok (.invokevirtual 285, 3) := by decide +kernel
theorem dX11_stuck_120 : decode cX11_stuck 120 = .ok (.iload_n 3, 1) := by decide +kernel
theorem dX11_stuck_121 : decode cX11_stuck 121 = .ok (.ireturn, 1) := by decide +kernel
theorem dX11_hands_0 : decode cX11_hands 0 = .ok (.iload_n 1, 1) := by decide +kernel
theorem dX11_hands_1 : decode cX11_hands 1 = .ok (.iconst 1, 1) := by decide +kernel
theorem dX11_hands_2 : decode cX11_hands 2 = .ok (.if_icmp .lt 23, 3) := by decide +kernel
theorem dX11_hands_5 : decode cX11_hands 5 = .ok (.iload_n 1, 1) := by decide +kernel
theorem dX11_hands_6 : decode cX11_hands 6 = .ok (.iconst 2, 1) := by decide +kernel
theorem dX11_hands_7 : decode cX11_hands 7 = .ok (.if_icmp .gt 18, 3) := by decide +kernel
theorem dX11_hands_10 : decode cX11_hands 10 = .ok (.iload_n 2, 1) := by decide +kernel
theorem dX11_hands_11 : decode cX11_hands 11 = .ok (.ifCond .lt 14, 3) := by decide +kernel
theorem dX11_hands_14 : decode cX11_hands 14 = .ok (.iload_n 2, 1) := by decide +kernel
theorem dX11_hands_15 : decode cX11_hands 15 = .ok (.aload_n 0, 1) := by decide +kernel
theorem dX11_hands_16 : decode cX11_hands 16 = .ok (.getfield 26, 3) := by decide +kernel
theorem dX11_hands_19 : decode cX11_hands 19 = .ok (.getfield 172, 3) := by decide +kernel
theorem dX11_hands_22 : decode cX11_hands 22 = .ok (.if_icmp .lt 5, 3) := by decide +kernel
theorem dX11_hands_25 : decode cX11_hands 25 = .ok (.iconst (-1), 1) := by decide +kernel
theorem dX11_hands_26 : decode cX11_hands 26 = .ok (.ireturn, 1) := by decide +kernel
theorem dX11_hands_27 : decode cX11_hands 27 = .ok (.iconst 0, 1) := by decide +kernel
theorem dX11_hands_28 : decode cX11_hands 28 = .ok (.istore_n 3, 1) := by decide +kernel
theorem dX11_hands_29 : decode cX11_hands 29 = .ok (.iload_n 3, 1) := by decide +kernel
theorem dX11_hands_30 : decode cX11_hands 30 = .ok (.aload_n 0, 1) := by decide +kernel
theorem dX11_hands_31 : decode cX11_hands 31 = .ok (.getfield 33, 3) := by decide +kernel
theorem dX11_hands_34 : decode cX11_hands 34 = .ok (.getfield 143, 3) := by decide +kernel
theorem dX11_hands_37 : decode cX11_hands 37 = .ok (.if_icmp .ge 74, 3) := by decide +kernel
theorem dX11_hands_40 : decode cX11_hands 40 = .ok (.aload_n 0, 1) := by decide +kernel
theorem dX11_hands_41 : decode cX11_hands 41 = .ok (.getfield 26, 3) := by decide +kernel
theorem dX11_hands_44 : decode cX11_hands 44 = .ok (.getfield 199, 3) := by decide +kernel
theorem dX11_hands_47 : decode cX11_hands 47 = .ok (.aload_n 0, 1) := by decide +kernel
theorem dX11_hands_48 : decode cX11_hands 48 = .ok (.getfield 33, 3) := by decide +kernel
theorem dX11_hands_51 : decode cX11_hands 51 = .ok (.iload_n 3, 1) := by decide +kernel
theorem dX11_hands_52 : decode cX11_hands 52 = .ok (.invokevirtual 214, 3) := by decide +kernel
theorem dX11_hands_55 : decode cX11_hands 55 = .ok (.iaload, 1) := by decide +kernel
theorem dX11_hands_56 : decode cX11_hands 56 = .ok (.iload_n 1, 1) := by decide +kernel
theorem dX11_hands_57 : decode cX11_hands 57 = .ok (.if_icmp .ne 7, 3) := by decide +kernel
theorem dX11_hands_60 : decode cX11_hands 60 = .ok (.iconst 1, 1) := by decide +kernel
theorem dX11_hands_61 : decode cX11_hands 61 = .ok (.goto 4, 3) := by decide +kernel
theorem dX11_hands_64 : decode cX11_hands 64 = .ok (.iconst 0, 1) := by decide +kernel
theorem dX11_hands_65 : decode cX11_hands 65 = .ok (.istore 4, 2) := by decide +kernel
theorem dX11_hands_67 : decode cX11_hands 67 = .ok (.iload 4, 2) := by decide +kernel
theorem dX11_hands_69 : decode cX11_hands 69 = .ok (.ifCond .eq 36, 3) := by decide +kernel
theorem dX11_hands_72 : decode cX11_hands 72 = .ok (.iload_n 2, 1) := by decide +kernel
theorem dX11_hands_73 : decode cX11_hands 73 = .ok (.aload_n 0, 1) := by decide +kernel
theorem dX11_hands_74 : decode cX11_hands 74 = .ok (.getfield 33, 3) := by decide +kernel
theorem dX11_hands_77 : decode cX11_hands 77 = .ok (.iload_n 3, 1) := by decide +kernel
theorem dX11_hands_78 : decode cX11_hands 78 = .ok (.invokevirtual 217, 3) := by decide +kernel
theorem dX11_hands_81 : decode cX11_hands 81 = .ok (.if_icmp .lt 24, 3) := by decide +kernel
theorem dX11_hands_84 : decode cX11_hands 84 = .ok (.iload_n 2, 1) := by decide +kernel
theorem dX11_hands_85 : decode cX11_hands 85 = .ok (.aload_n 0, 1) := by decide +kernel
theorem dX11_hands_86 : decode cX11_hands 86 = .ok (.getfield 45, 3) := by decide +kernel
theorem dX11_hands_89 : decode cX11_hands 89 = .ok (.iload_n 3, 1) := by decide +kernel
theorem dX11_hands_90 : decode cX11_hands 90 = .ok (.invokevirtual 220, 3) := by decide +kernel
theorem dX11_hands_93 : decode cX11_hands 93 = .ok (.if_icmp .ge 12, 3) := by decide +kernel
theorem dX11_hands_96 : decode cX11_hands 96 = .ok (.aload_n 0, 1) := by decide +kernel
theorem dX11_hands_97 : decode cX11_hands 97 = .ok (.getfield 33, 3) := by decide +kernel
theorem dX11_hands_100 : decode cX11_hands 100 = .ok (.iload_n 3, 1) := by decide +kernel
theorem dX11_hands_101 : decode cX11_hands 101 = .ok (.invokevirtual 211, 3) := by decide +kernel
theorem dX11_hands_104 : decode cX11_hands 104 = .ok (.ireturn, 1) := by decide +kernel
theorem dX11_hands_105 : decode cX11_hands 105 = .ok (.iinc 3 1, 3) := by decide +kernel
theorem dX11_hands_108 : decode cX11_hands 108 = .ok (.goto (-79), 3) := by decide +kernel
theorem dX11_hands_111 : decode cX11_hands 111 = .ok (.bipush (-2), 2) := by decide +kernel
theorem dX11_hands_113 : decode cX11_hands 113 = .ok (.ireturn, 1) := by decide +kernel
theorem dX11_earliest_0 : decode cX11_earliest 0 = .ok (.aload_n 0, 1) := by decide +kernel
theorem dX11_earliest_1 : decode cX11_earliest 1 = .ok (.getfield 26, 3) := by decide +kernel
theorem dX11_earliest_4 : decode cX11_earliest 4 = .ok (.iload_n 1, 1) := by decide +kernel
theorem dX11_earliest_5 : decode cX11_earliest 5 = .ok (.invokevirtual 117, 3) := by decide +kernel
theorem dX11_earliest_8 : decode cX11_earliest 8 = .ok (.ifCond .eq 14, 3) := by decide +kernel
theorem dX11_earliest_11 : decode cX11_earliest 11 = .ok (.aload_n 0, 1) := by decide +kernel
theorem dX11_earliest_12 : decode cX11_earliest 12 = .ok (.getfield 26, 3) := by decide +kernel
theorem dX11_earliest_15 : decode cX11_earliest 15 = .ok (.iload_n 2, 1) := by decide +kernel
theorem dX11_earliest_16 : decode cX11_earliest 16 = .ok (.invokevirtual 184, 3) := by decide +kernel
theorem dX11_earliest_19 : decode cX11_earliest 19 = .ok (.ifCond .ne 5, 3) := by decide +kernel
theorem dX11_earliest_22 : decode cX11_earliest 22 = .ok (.iconst (-1), 1) := by decide +kernel
theorem dX11_earliest_23 : decode cX11_earliest 23 = .ok (.ireturn, 1) := by decide +kernel
theorem dX11_earliest_24 : decode cX11_earliest 24 = .ok (.aload_n 0, 1) := by decide +kernel
theorem dX11_earliest_25 : decode cX11_earliest 25 = .ok (.getfield 45, 3) := by decide +kernel
theorem dX11_earliest_28 : decode cX11_earliest 28 = .ok (.invokevirtual 162, 3) := by decide +kernel
theorem dX11_earliest_31 : decode cX11_earliest 31 = .ok (.aload_n 0, 1) := by decide +kernel
theorem dX11_earliest_32 : decode cX11_earliest 32 = .ok (.iload_n 2, 1) := by decide +kernel
theorem dX11_earliest_33 : decode cX11_earliest 33 = .ok (.aload_n 0, 1) := by decide +kernel
theorem dX11_earliest_34 : decode cX11_earliest 34 = .ok (.getfield 64, 3) := by decide +kernel
theorem dX11_earliest_37 : decode cX11_earliest 37 = .ok (.iload_n 1, 1) := by decide +kernel
theorem dX11_earliest_38 : decode cX11_earliest 38 = .ok (.iload_n 2, 1) := by decide +kernel
theorem dX11_earliest_39 : decode cX11_earliest 39 = .ok (.invokevirtual 323, 3) := by decide +kernel
theorem dX11_earliest_42 : decode cX11_earliest 42 = .ok (.invokevirtual 326, 3) := by decide +kernel
theorem dX11_earliest_45 : decode cX11_earliest 45 = .ok (.ireturn, 1) := by decide +kernel
theorem dX11_latest_0 : decode cX11_latest 0 = .ok (.aload_n 0, 1) := by decide +kernel
theorem dX11_latest_1 : decode cX11_latest 1 = .ok (.getfield 26, 3) := by decide +kernel
theorem dX11_latest_4 : decode cX11_latest 4 = .ok (.iload_n 1, 1) := by decide +kernel
theorem dX11_latest_5 : decode cX11_latest 5 = .ok (.invokevirtual 117, 3) := by decide +kernel
theorem dX11_latest_8 : decode cX11_latest 8 = .ok (.ifCond .eq 14, 3) := by decide +kernel
theorem dX11_latest_11 : decode cX11_latest 11 = .ok (.aload_n 0, 1) := by decide +kernel
theorem dX11_latest_12 : decode cX11_latest 12 = .ok (.getfield 26, 3) := by decide +kernel
theorem dX11_latest_15 : decode cX11_latest 15 = .ok (.iload_n 2, 1) := by decide +kernel
theorem dX11_latest_16 : decode cX11_latest 16 = .ok (.invokevirtual 184, 3) := by decide +kernel
theorem dX11_latest_19 : decode cX11_latest 19 = .ok (.ifCond .ne 5, 3) := by decide +kernel
theorem dX11_latest_22 : decode cX11_latest 22 = .ok (.iconst (-1), 1) := by decide +kernel
theorem dX11_latest_23 : decode cX11_latest 23 = .ok (.ireturn, 1) := by decide +kernel
theorem dX11_latest_24 : decode cX11_latest 24 = .ok (.aload_n 0, 1) := by decide +kernel
theorem dX11_latest_25 : decode cX11_latest 25 = .ok (.getfield 45, 3) := by decide +kernel
theorem dX11_latest_28 : decode cX11_latest 28 = .ok (.invokevirtual 162, 3) := by decide +kernel
theorem dX11_latest_31 : decode cX11_latest 31 = .ok (.aload_n 0, 1) := by decide +kernel
theorem dX11_latest_32 : decode cX11_latest 32 = .ok (.iload_n 2, 1) := by decide +kernel
theorem dX11_latest_33 : decode cX11_latest 33 = .ok (.aload_n 0, 1) := by decide +kernel
theorem dX11_latest_34 : decode cX11_latest 34 = .ok (.getfield 64, 3) := by decide +kernel
theorem dX11_latest_37 : decode cX11_latest 37 = .ok (.iload_n 1, 1) := by decide +kernel
theorem dX11_latest_38 : decode cX11_latest 38 = .ok (.iload_n 2, 1) := by decide +kernel
theorem dX11_latest_39 : decode cX11_latest 39 = .ok (.invokevirtual 329, 3) := by decide +kernel
theorem dX11_latest_42 : decode cX11_latest 42 = .ok (.invokevirtual 326, 3) := by decide +kernel
theorem dX11_latest_45 : decode cX11_latest 45 = .ok (.ireturn, 1) := by decide +kernel
theorem dX11_best_0 : decode cX11_best 0 = .ok (.aload_n 0, 1) := by decide +kernel
theorem dX11_best_1 : decode cX11_best 1 = .ok (.getfield 26, 3) := by decide +kernel
theorem dX11_best_4 : decode cX11_best 4 = .ok (.iload_n 1, 1) := by decide +kernel
theorem dX11_best_5 : decode cX11_best 5 = .ok (.invokevirtual 117, 3) := by decide +kernel
theorem dX11_best_8 : decode cX11_best 8 = .ok (.ifCond .ne 5, 3) := by decide +kernel
theorem dX11_best_11 : decode cX11_best 11 = .ok (.iconst (-1), 1) := by decide +kernel
theorem dX11_best_12 : decode cX11_best 12 = .ok (.ireturn, 1) := by decide +kernel
theorem dX11_best_13 : decode cX11_best 13 = .ok (.aload_n 0, 1) := by decide +kernel
theorem dX11_best_14 : decode cX11_best 14 = .ok (.getfield 45, 3) := by decide +kernel
theorem dX11_best_17 : decode cX11_best 17 = .ok (.invokevirtual 162, 3) := by decide +kernel
theorem dX11_best_20 : decode cX11_best 20 = .ok (.aload_n 0, 1) := by decide +kernel
theorem dX11_best_21 : decode cX11_best 21 = .ok (.getfield 64, 3) := by decide +kernel
theorem dX11_best_24 : decode cX11_best 24 = .ok (.iload_n 1, 1) := by decide +kernel
theorem dX11_best_25 : decode cX11_best 25 = .ok (.invokevirtual 332, 3) := by decide +kernel
theorem dX11_best_28 : decode cX11_best 28 = .ok (.istore_n 2, 1) := by decide +kernel
theorem dX11_best_29 : decode cX11_best 29 = .ok (.iload_n 2, 1) := by decide +kernel
theorem dX11_best_30 : decode cX11_best 30 = .ok (.ifCond .ge 6, 3) := by decide +kernel
theorem dX11_best_33 : decode cX11_best 33 = .ok (.bipush (-2), 2) := by decide +kernel
theorem dX11_best_35 : decode cX11_best 35 = .ok (.ireturn, 1) := by decide +kernel
theorem dX11_best_36 : decode cX11_best 36 = .ok (.aload_n 0, 1) := by decide +kernel
theorem dX11_best_37 : decode cX11_best 37 = .ok (.getfield 19, 3) := by decide +kernel
theorem dX11_best_40 : decode cX11_best 40 = .ok (.aload_n 0, 1) := by decide +kernel
theorem dX11_best_41 : decode cX11_best 41 = .ok (.getfield 64, 3) := by decide +kernel
theorem dX11_best_44 : decode cX11_best 44 = .ok (.getfield 335, 3) := by decide +kernel
theorem dX11_best_47 : decode cX11_best 47 = .ok (.i2l, 1) := by decide +kernel
theorem dX11_best_48 : decode cX11_best 48 = .ok (.aload_n 0, 1) := by decide +kernel
theorem dX11_best_49 : decode cX11_best 49 = .ok (.getfield 64, 3) := by decide +kernel
theorem dX11_best_52 : decode cX11_best 52 = .ok (.getfield 338, 3) := by decide +kernel
theorem dX11_best_55 : decode cX11_best 55 = .ok (.i2l, 1) := by decide +kernel
theorem dX11_best_56 : decode cX11_best 56 = .ok (.invokevirtual 285, 3) := by decide +kernel
theorem dX11_best_59 : decode cX11_best 59 = .ok (.iload_n 2, 1) := by decide +kernel
theorem dX11_best_60 : decode cX11_best 60 = .ok (.ireturn, 1) := by decide +kernel
theorem dX11_most_0 : decode cX11_most 0 = .ok (.iload_n 1, 1) := by decide +kernel
theorem dX11_most_1 : decode cX11_most 1 = .ok (.ifCond .lt 8, 3) := by decide +kernel
theorem dX11_most_4 : decode cX11_most 4 = .ok (.iload_n 1, 1) := by decide +kernel
theorem dX11_most_5 : decode cX11_most 5 = .ok (.iconst 2, 1) := by decide +kernel
theorem dX11_most_6 : decode cX11_most 6 = .ok (.if_icmp .le 5, 3) := by decide +kernel
theorem dX11_most_9 : decode cX11_most 9 = .ok (.iconst (-1), 1) := by decide +kernel
theorem dX11_most_10 : decode cX11_most 10 = .ok (.ireturn, 1) := by decide +kernel
theorem dX11_most_11 : decode cX11_most 11 = .ok (.aload_n 0, 1) := by decide +kernel
theorem dX11_most_12 : decode cX11_most 12 = .ok (.getfield 64, 3) := by decide +kernel
theorem dX11_most_15 : decode cX11_most 15 = .ok (.iload_n 1, 1) := by decide +kernel
theorem dX11_most_16 : decode cX11_most 16 = .ok (.invokevirtual 341, 3) := by decide +kernel
theorem dX11_most_19 : decode cX11_most 19 = .ok (.aload_n 0, 1) := by decide +kernel
theorem dX11_most_20 : decode cX11_most 20 = .ok (.getfield 19, 3) := by decide +kernel
theorem dX11_most_23 : decode cX11_most 23 = .ok (.invokevirtual 344, 3) := by decide +kernel
theorem dX11_most_26 : decode cX11_most 26 = .ok (.iconst 0, 1) := by decide +kernel
theorem dX11_most_27 : decode cX11_most 27 = .ok (.istore_n 2, 1) := by decide +kernel
theorem dX11_most_28 : decode cX11_most 28 = .ok (.iload_n 2, 1) := by decide +kernel
theorem dX11_most_29 : decode cX11_most 29 = .ok (.iconst 3, 1) := by decide +kernel
theorem dX11_most_30 : decode cX11_most 30 = .ok (.aload_n 0, 1) := by decide +kernel
theorem dX11_most_31 : decode cX11_most 31 = .ok (.getfield 64, 3) := by decide +kernel
theorem dX11_most_34 : decode cX11_most 34 = .ok (.getfield 347, 3) := by decide +kernel
theorem dX11_most_37 : decode cX11_most 37 = .ok (.imul, 1) := by decide +kernel
theorem dX11_most_38 : decode cX11_most 38 = .ok (.if_icmp .ge 26, 3) := by decide +kernel
theorem dX11_most_41 : decode cX11_most 41 = .ok (.aload_n 0, 1) := by decide +kernel
theorem dX11_most_42 : decode cX11_most 42 = .ok (.getfield 19, 3) := by decide +kernel
theorem dX11_most_45 : decode cX11_most 45 = .ok (.aload_n 0, 1) := by decide +kernel
theorem dX11_most_46 : decode cX11_most 46 = .ok (.getfield 64, 3) := by decide +kernel
theorem dX11_most_49 : decode cX11_most 49 = .ok (.getfield 350, 3) := by decide +kernel
theorem dX11_most_52 : decode cX11_most 52 = .ok (.iload_n 2, 1) := by decide +kernel
theorem dX11_most_53 : decode cX11_most 53 = .ok (.iaload, 1) := by decide +kernel
theorem dX11_most_54 : decode cX11_most 54 = .ok (.i2l, 1) := by decide +kernel
theorem dX11_most_55 : decode cX11_most 55 = .ok (.invokevirtual 353, 3) := by decide +kernel
theorem dX11_most_58 : decode cX11_most 58 = .ok (.iinc 2 1, 3) := by decide +kernel
theorem dX11_most_61 : decode cX11_most 61 = .ok (.goto (-33), 3) := by decide +kernel
theorem dX11_most_64 : decode cX11_most 64 = .ok (.aload_n 0, 1) := by decide +kernel
theorem dX11_most_65 : decode cX11_most 65 = .ok (.getfield 64, 3) := by decide +kernel
theorem dX11_most_68 : decode cX11_most 68 = .ok (.getfield 356, 3) := by decide +kernel
theorem dX11_most_71 : decode cX11_most 71 = .ok (.ireturn, 1) := by decide +kernel
theorem dX11_open_0 : decode cX11_open 0 = .ok (.aload_n 0, 1) := by decide +kernel
theorem dX11_open_1 : decode cX11_open 1 = .ok (.getfield 45, 3) := by decide +kernel
theorem dX11_open_4 : decode cX11_open 4 = .ok (.invokevirtual 162, 3) := by decide +kernel
theorem dX11_open_7 : decode cX11_open 7 = .ok (.iconst 0, 1) := by decide +kernel
theorem dX11_open_8 : decode cX11_open 8 = .ok (.istore_n 1, 1) := by decide +kernel
theorem dX11_open_9 : decode cX11_open 9 = .ok (.iconst 0, 1) := by decide +kernel
theorem dX11_open_10 : decode cX11_open 10 = .ok (.istore_n 2, 1) := by decide +kernel
theorem dX11_open_11 : decode cX11_open 11 = .ok (.iconst 0, 1) := by decide +kernel
theorem dX11_open_12 : decode cX11_open 12 = .ok (.istore_n 3, 1) := by decide +kernel
theorem dX11_open_13 : decode cX11_open 13 = .ok (.iload_n 3, 1) := by decide +kernel
theorem dX11_open_14 : decode cX11_open 14 = .ok (.aload_n 0, 1) := by decide +kernel
theorem dX11_open_15 : decode cX11_open 15 = .ok (.getfield 26, 3) := by decide +kernel
theorem dX11_open_18 : decode cX11_open 18 = .ok (.getfield 120, 3) := by decide +kernel
theorem dX11_open_21 : decode cX11_open 21 = .ok (.if_icmp .ge 49, 3) := by decide +kernel
theorem dX11_open_24 : decode cX11_open 24 = .ok (.aload_n 0, 1) := by decide +kernel
theorem dX11_open_25 : decode cX11_open 25 = .ok (.getfield 33, 3) := by decide +kernel
theorem dX11_open_28 : decode cX11_open 28 = .ok (.iload_n 3, 1) := by decide +kernel
theorem dX11_open_29 : decode cX11_open 29 = .ok (.invokevirtual 205, 3) := by decide +kernel
theorem dX11_open_32 : decode cX11_open 32 = .ok (.ifCond .le 6, 3) := by decide +kernel
theorem dX11_open_35 : decode cX11_open 35 = .ok (.goto 29, 3) := by decide +kernel
theorem dX11_open_38 : decode cX11_open 38 = .ok (.aload_n 0, 1) := by decide +kernel
theorem dX11_open_39 : decode cX11_open 39 = .ok (.getfield 64, 3) := by decide +kernel
theorem dX11_open_42 : decode cX11_open 42 = .ok (.iload_n 3, 1) := by decide +kernel
theorem dX11_open_43 : decode cX11_open 43 = .ok (.invokevirtual 359, 3) := by decide +kernel
theorem dX11_open_46 : decode cX11_open 46 = .ok (.ifCond .eq 12, 3) := by decide +kernel
theorem dX11_open_49 : decode cX11_open 49 = .ok (.iload_n 1, 1) := by decide +kernel
theorem dX11_open_50 : decode cX11_open 50 = .ok (.iconst 1, 1) := by decide +kernel
theorem dX11_open_51 : decode cX11_open 51 = .ok (.iload_n 3, 1) := by decide +kernel
theorem dX11_open_52 : decode cX11_open 52 = .ok (.ishl, 1) := by decide +kernel
theorem dX11_open_53 : decode cX11_open 53 = .ok (.ior, 1) := by decide +kernel
theorem dX11_open_54 : decode cX11_open 54 = .ok (.istore_n 1, 1) := by decide +kernel
theorem dX11_open_55 : decode cX11_open 55 = .ok (.goto 9, 3) := by decide +kernel
theorem dX11_open_58 : decode cX11_open 58 = .ok (.iload_n 2, 1) := by decide +kernel
theorem dX11_open_59 : decode cX11_open 59 = .ok (.iconst 1, 1) := by decide +kernel
theorem dX11_open_60 : decode cX11_open 60 = .ok (.iload_n 3, 1) := by decide +kernel
theorem dX11_open_61 : decode cX11_open 61 = .ok (.ishl, 1) := by decide +kernel
theorem dX11_open_62 : decode cX11_open 62 = .ok (.ior, 1) := by decide +kernel
theorem dX11_open_63 : decode cX11_open 63 = .ok (.istore_n 2, 1) := by decide +kernel
theorem dX11_open_64 : decode cX11_open 64 = .ok (.iinc 3 1, 3) := by decide +kernel
theorem dX11_open_67 : decode cX11_open 67 = .ok (.goto (-54), 3) := by decide +kernel
theorem dX11_open_70 : decode cX11_open 70 = .ok (.aload_n 0, 1) := by decide +kernel
theorem dX11_open_71 : decode cX11_open 71 = .ok (.getfield 19, 3) := by decide +kernel
theorem dX11_open_74 : decode cX11_open 74 = .ok (.iload_n 2, 1) := by decide +kernel
theorem dX11_open_75 : decode cX11_open 75 = .ok (.i2l, 1) := by decide +kernel
theorem dX11_open_76 : decode cX11_open 76 = .ok (.invokevirtual 362, 3) := by decide +kernel
theorem dX11_open_79 : decode cX11_open 79 = .ok (.iload_n 1, 1) := by decide +kernel
theorem dX11_open_80 : decode cX11_open 80 = .ok (.ireturn, 1) := by decide +kernel
theorem dX11_mend_0 : decode cX11_mend 0 = .ok (.iconst 0, 1) := by decide +kernel
theorem dX11_mend_1 : decode cX11_mend 1 = .ok (.istore_n 1, 1) := by decide +kernel
theorem dX11_mend_2 : decode cX11_mend 2 = .ok (.iload_n 1, 1) := by decide +kernel
theorem dX11_mend_3 : decode cX11_mend 3 = .ok (.iconst 3, 1) := by decide +kernel
theorem dX11_mend_4 : decode cX11_mend 4 = .ok (.if_icmp .gt 19, 3) := by decide +kernel
theorem dX11_mend_7 : decode cX11_mend 7 = .ok (.aload_n 0, 1) := by decide +kernel
theorem dX11_mend_8 : decode cX11_mend 8 = .ok (.iload_n 1, 1) := by decide +kernel
theorem dX11_mend_9 : decode cX11_mend 9 = .ok (.invokevirtual 365, 3) := by decide +kernel
theorem dX11_mend_12 : decode cX11_mend 12 = .ok (.ifCond .eq 5, 3) := by decide +kernel
theorem dX11_mend_15 : decode cX11_mend 15 = .ok (.iload_n 1, 1) := by decide +kernel
theorem dX11_mend_16 : decode cX11_mend 16 = .ok (.ireturn, 1) := by decide +kernel
theorem dX11_mend_17 : decode cX11_mend 17 = .ok (.iinc 1 1, 3) := by decide +kernel
theorem dX11_mend_20 : decode cX11_mend 20 = .ok (.goto (-18), 3) := by decide +kernel
theorem dX11_mend_23 : decode cX11_mend 23 = .ok (.bipush (-2), 2) := by decide +kernel
theorem dX11_mend_25 : decode cX11_mend 25 = .ok (.ireturn, 1) := by decide +kernel
theorem dX11_parts_0 : decode cX11_parts 0 = .ok (.aload_n 0, 1) := by decide +kernel
theorem dX11_parts_1 : decode cX11_parts 1 = .ok (.getfield 10, 3) := by decide +kernel
theorem dX11_parts_4 : decode cX11_parts 4 = .ok (.bipush 80, 2) := by decide +kernel
theorem dX11_parts_6 : decode cX11_parts 6 = .ok (.invokevirtual 113, 3) := by decide +kernel
theorem dX11_parts_9 : decode cX11_parts 9 = .ok (.iconst 0, 1) := by decide +kernel
theorem dX11_parts_10 : decode cX11_parts 10 = .ok (.istore_n 1, 1) := by decide +kernel
theorem dX11_parts_11 : decode cX11_parts 11 = .ok (.iconst 0, 1) := by decide +kernel
theorem dX11_parts_12 : decode cX11_parts 12 = .ok (.istore_n 2, 1) := by decide +kernel
theorem dX11_parts_13 : decode cX11_parts 13 = .ok (.iconst 1, 1) := by decide +kernel
theorem dX11_parts_14 : decode cX11_parts 14 = .ok (.istore_n 3, 1) := by decide +kernel
theorem dX11_parts_15 : decode cX11_parts 15 = .ok (.iload_n 3, 1) := by decide +kernel
theorem dX11_parts_16 : decode cX11_parts 16 = .ok (.bipush 6, 2) := by decide +kernel
theorem dX11_parts_18 : decode cX11_parts 18 = .ok (.if_icmp .gt 136, 3) := by decide +kernel
theorem dX11_parts_21 : decode cX11_parts 21 = .ok (.aload_n 0, 1) := by decide +kernel
theorem dX11_parts_22 : decode cX11_parts 22 = .ok (.getfield 10, 3) := by decide +kernel
theorem dX11_parts_25 : decode cX11_parts 25 = .ok (.iconst 2, 1) := by decide +kernel
theorem dX11_parts_26 : decode cX11_parts 26 = .ok (.invokevirtual 368, 3) := by decide +kernel
theorem dX11_parts_29 : decode cX11_parts 29 = .ok (.istore 4, 2) := by decide +kernel
theorem dX11_parts_31 : decode cX11_parts 31 = .ok (.iload 4, 2) := by decide +kernel
theorem dX11_parts_33 : decode cX11_parts 33 = .ok (.ifCond .ge 11, 3) := by decide +kernel
theorem dX11_parts_36 : decode cX11_parts 36 = .ok (.aload_n 0, 1) := by decide +kernel
theorem dX11_parts_37 : decode cX11_parts 37 = .ok (.getfield 10, 3) := by decide +kernel
theorem dX11_parts_40 : decode cX11_parts 40 = .ok (.invokevirtual 127, 3) := by decide +kernel
theorem dX11_parts_43 : decode cX11_parts 43 = .ok (.ireturn, 1) := by decide +kernel
theorem dX11_parts_44 : decode cX11_parts 44 = .ok (.iload_n 1, 1) := by decide +kernel
theorem dX11_parts_45 : decode cX11_parts 45 = .ok (.iconst 0, 1) := by decide +kernel
theorem dX11_parts_46 : decode cX11_parts 46 = .ok (.iload 4, 2) := by decide +kernel
theorem dX11_parts_48 : decode cX11_parts 48 = .ok (.aload_n 0, 1) := by decide +kernel
theorem dX11_parts_49 : decode cX11_parts 49 = .ok (.getfield 26, 3) := by decide +kernel
theorem dX11_parts_52 : decode cX11_parts 52 = .ok (.getfield 172, 3) := by decide +kernel
theorem dX11_parts_55 : decode cX11_parts 55 = .ok (.isub, 1) := by decide +kernel
theorem dX11_parts_56 : decode cX11_parts 56 = .ok (.invokestatic 371, 3) := by decide +kernel
theorem dX11_parts_59 : decode cX11_parts 59 = .ok (.iadd, 1) := by decide +kernel
theorem dX11_parts_60 : decode cX11_parts 60 = .ok (.istore_n 1, 1) := by decide +kernel
theorem dX11_parts_61 : decode cX11_parts 61 = .ok (.iload_n 2, 1) := by decide +kernel
theorem dX11_parts_62 : decode cX11_parts 62 = .ok (.iload 4, 2) := by decide +kernel
theorem dX11_parts_64 : decode cX11_parts 64 = .ok (.aload_n 0, 1) := by decide +kernel
theorem dX11_parts_65 : decode cX11_parts 65 = .ok (.getfield 26, 3) := by decide +kernel
theorem dX11_parts_68 : decode cX11_parts 68 = .ok (.getfield 172, 3) := by decide +kernel
theorem dX11_parts_71 : decode cX11_parts 71 = .ok (.invokestatic 376, 3) := by decide +kernel
theorem dX11_parts_74 : decode cX11_parts 74 = .ok (.iadd, 1) := by decide +kernel
theorem dX11_parts_75 : decode cX11_parts 75 = .ok (.istore_n 2, 1) := by decide +kernel
theorem dX11_parts_76 : decode cX11_parts 76 = .ok (.aload_n 0, 1) := by decide +kernel
theorem dX11_parts_77 : decode cX11_parts 77 = .ok (.getfield 10, 3) := by decide +kernel
theorem dX11_parts_80 : decode cX11_parts 80 = .ok (.invokevirtual 131, 3) := by decide +kernel
theorem dX11_parts_83 : decode cX11_parts 83 = .ok (.ifCond .eq 45, 3) := by decide +kernel
theorem dX11_parts_86 : decode cX11_parts 86 = .ok (.iload_n 1, 1) := by decide +kernel
theorem dX11_parts_87 : decode cX11_parts 87 = .ok (.iconst 0, 1) := by decide +kernel
theorem dX11_parts_88 : decode cX11_parts 88 = .ok (.iload_n 2, 1) := by decide +kernel
theorem dX11_parts_89 : decode cX11_parts 89 = .ok (.aload_n 0, 1) := by decide +kernel
theorem dX11_parts_90 : decode cX11_parts 90 = .ok (.getfield 26, 3) := by decide +kernel
theorem dX11_parts_93 : decode cX11_parts 93 = .ok (.getfield 172, 3) := by decide +kernel
theorem dX11_parts_96 : decode cX11_parts 96 = .ok (.iload_n 3, 1) := by decide +kernel
theorem dX11_parts_97 : decode cX11_parts 97 = .ok (.iconst 1, 1) := by decide +kernel
theorem dX11_parts_98 : decode cX11_parts 98 = .ok (.isub, 1) := by decide +kernel
theorem dX11_parts_99 : decode cX11_parts 99 = .ok (.imul, 1) := by decide +kernel
theorem dX11_parts_100 : decode cX11_parts 100 = .ok (.isub, 1) := by decide +kernel
theorem dX11_parts_101 : decode cX11_parts 101 = .ok (.invokestatic 371, 3) := by decide +kernel
theorem dX11_parts_104 : decode cX11_parts 104 = .ok (.iadd, 1) := by decide +kernel
theorem dX11_parts_105 : decode cX11_parts 105 = .ok (.istore 5, 2) := by decide +kernel
theorem dX11_parts_107 : decode cX11_parts 107 = .ok (.aload_n 0, 1) := by decide +kernel
theorem dX11_parts_108 : decode cX11_parts 108 = .ok (.getfield 19, 3) := by decide +kernel
theorem dX11_parts_111 : decode cX11_parts 111 = .ok (.iload 5, 2) := by decide +kernel
theorem dX11_parts_113 : decode cX11_parts 113 = .ok (.i2l, 1) := by decide +kernel
theorem dX11_parts_114 : decode cX11_parts 114 = .ok (.invokevirtual 362, 3) := by decide +kernel
theorem dX11_parts_117 : decode cX11_parts 117 = .ok (.iload 5, 2) := by decide +kernel
theorem dX11_parts_119 : decode cX11_parts 119 = .ok (.ifCond .ne 7, 3) := by decide +kernel
theorem dX11_parts_122 : decode cX11_parts 122 = .ok (.iconst 1, 1) := by decide +kernel
theorem dX11_parts_123 : decode cX11_parts 123 = .ok (.goto 4, 3) := by decide +kernel
theorem dX11_parts_126 : decode cX11_parts 126 = .ok (.iconst 0, 1) := by decide +kernel
theorem dX11_parts_127 : decode cX11_parts 127 = .ok (.ireturn, 1) := by decide +kernel
theorem dX11_parts_128 : decode cX11_parts 128 = .ok (.aload_n 0, 1) := by decide +kernel
theorem dX11_parts_129 : decode cX11_parts 129 = .ok (.getfield 10, 3) := by decide +kernel
theorem dX11_parts_132 : decode cX11_parts 132 = .ok (.bipush 44, 2) := by decide +kernel
theorem dX11_parts_134 : decode cX11_parts 134 = .ok (.invokevirtual 276, 3) := by decide +kernel
theorem dX11_parts_137 : decode cX11_parts 137 = .ok (.ifCond .ne 11, 3) := by decide +kernel
theorem dX11_parts_140 : decode cX11_parts 140 = .ok (.aload_n 0, 1) := by decide +kernel
theorem dX11_parts_141 : decode cX11_parts 141 = .ok (.getfield 10, 3) := by decide +kernel
theorem dX11_parts_144 : decode cX11_parts 144 = .ok (.invokevirtual 127, 3) := by decide +kernel
theorem dX11_parts_147 : decode cX11_parts 147 = .ok (.ireturn, 1) := by decide +kernel
theorem dX11_parts_148 : decode cX11_parts 148 = .ok (.iinc 3 1, 3) := by decide +kernel
theorem dX11_parts_151 : decode cX11_parts 151 = .ok (.goto (-136), 3) := by decide +kernel
theorem dX11_parts_154 : decode cX11_parts 154 = .ok (.aload_n 0, 1) := by decide +kernel
theorem dX11_parts_155 : decode cX11_parts 155 = .ok (.getfield 10, 3) := by decide +kernel
theorem dX11_parts_158 : decode cX11_parts 158 = .ok (.invokevirtual 127, 3) := by decide +kernel
theorem dX11_parts_161 : decode cX11_parts 161 = .ok (.ireturn, 1) := by decide +kernel
theorem dX11_turn_0 : decode cX11_turn 0 = .ok (.aload_n 0, 1) := by decide +kernel
theorem dX11_turn_1 : decode cX11_turn 1 = .ok (.getfield 10, 3) := by decide +kernel
theorem dX11_turn_4 : decode cX11_turn 4 = .ok (.bipush 40, 2) := by decide +kernel
theorem dX11_turn_6 : decode cX11_turn 6 = .ok (.invokevirtual 113, 3) := by decide +kernel
theorem dX11_turn_9 : decode cX11_turn 9 = .ok (.aload_n 0, 1) := by decide +kernel
theorem dX11_turn_10 : decode cX11_turn 10 = .ok (.getfield 26, 3) := by decide +kernel
theorem dX11_turn_13 : decode cX11_turn 13 = .ok (.getfield 299, 3) := by decide +kernel
theorem dX11_turn_16 : decode cX11_turn 16 = .ok (.ifCond .ne 6, 3) := by decide +kernel
theorem dX11_turn_19 : decode cX11_turn 19 = .ok (.bipush (-100), 2) := by decide +kernel
theorem dX11_turn_21 : decode cX11_turn 21 = .ok (.ireturn, 1) := by decide +kernel
theorem dX11_turn_22 : decode cX11_turn 22 = .ok (.aload_n 0, 1) := by decide +kernel
theorem dX11_turn_23 : decode cX11_turn 23 = .ok (.getfield 10, 3) := by decide +kernel
theorem dX11_turn_26 : decode cX11_turn 26 = .ok (.invokevirtual 146, 3) := by decide +kernel
theorem dX11_turn_29 : decode cX11_turn 29 = .ok (.ifCond .ne 10, 3) := by decide +kernel
theorem dX11_turn_32 : decode cX11_turn 32 = .ok (.aload_n 0, 1) := by decide +kernel
theorem dX11_turn_33 : decode cX11_turn 33 = .ok (.invokevirtual 379, 3) := by decide +kernel
theorem dX11_turn_36 : decode cX11_turn 36 = .ok (.ifCond .ne 11, 3) := by decide +kernel
theorem dX11_turn_39 : decode cX11_turn 39 = .ok (.aload_n 0, 1) := by decide +kernel
theorem dX11_turn_40 : decode cX11_turn 40 = .ok (.getfield 10, 3) := by decide +kernel
theorem dX11_turn_43 : decode cX11_turn 43 = .ok (.invokevirtual 127, 3) := by decide +kernel
theorem dX11_turn_46 : decode cX11_turn 46 = .ok (.ireturn, 1) := by decide +kernel
theorem dX11_turn_47 : decode cX11_turn 47 = .ok (.iconst 0, 1) := by decide +kernel
theorem dX11_turn_48 : decode cX11_turn 48 = .ok (.istore_n 1, 1) := by decide +kernel
theorem dX11_turn_49 : decode cX11_turn 49 = .ok (.aload_n 0, 1) := by decide +kernel
theorem dX11_turn_50 : decode cX11_turn 50 = .ok (.getfield 10, 3) := by decide +kernel
theorem dX11_turn_53 : decode cX11_turn 53 = .ok (.bipush 97, 2) := by decide +kernel
theorem dX11_turn_55 : decode cX11_turn 55 = .ok (.invokevirtual 382, 3) := by decide +kernel
theorem dX11_turn_58 : decode cX11_turn 58 = .ok (.istore_n 2, 1) := by decide +kernel
theorem dX11_turn_59 : decode cX11_turn 59 = .ok (.iconst 1, 1) := by decide +kernel
theorem dX11_turn_60 : decode cX11_turn 60 = .ok (.istore_n 3, 1) := by decide +kernel
theorem dX11_turn_61 : decode cX11_turn 61 = .ok (.iload_n 3, 1) := by decide +kernel
theorem dX11_turn_62 : decode cX11_turn 62 = .ok (.aload_n 0, 1) := by decide +kernel
theorem dX11_turn_63 : decode cX11_turn 63 = .ok (.getfield 26, 3) := by decide +kernel
theorem dX11_turn_66 : decode cX11_turn 66 = .ok (.getfield 299, 3) := by decide +kernel
theorem dX11_turn_69 : decode cX11_turn 69 = .ok (.if_icmp .ge 99, 3) := by decide +kernel
theorem dX11_turn_72 : decode cX11_turn 72 = .ok (.aload_n 0, 1) := by decide +kernel
theorem dX11_turn_73 : decode cX11_turn 73 = .ok (.getfield 10, 3) := by decide +kernel
theorem dX11_turn_76 : decode cX11_turn 76 = .ok (.bipush 97, 2) := by decide +kernel
theorem dX11_turn_78 : decode cX11_turn 78 = .ok (.iload_n 3, 1) := by decide +kernel
theorem dX11_turn_79 : decode cX11_turn 79 = .ok (.iadd, 1) := by decide +kernel
theorem dX11_turn_80 : decode cX11_turn 80 = .ok (.invokevirtual 382, 3) := by decide +kernel
theorem dX11_turn_83 : decode cX11_turn 83 = .ok (.istore 4, 2) := by decide +kernel
theorem dX11_turn_85 : decode cX11_turn 85 = .ok (.aload_n 0, 1) := by decide +kernel
theorem dX11_turn_86 : decode cX11_turn 86 = .ok (.getfield 10, 3) := by decide +kernel
theorem dX11_turn_89 : decode cX11_turn 89 = .ok (.bipush 97, 2) := by decide +kernel
theorem dX11_turn_91 : decode cX11_turn 91 = .ok (.iload_n 1, 1) := by decide +kernel
theorem dX11_turn_92 : decode cX11_turn 92 = .ok (.iadd, 1) := by decide +kernel
theorem dX11_turn_93 : decode cX11_turn 93 = .ok (.invokevirtual 382, 3) := by decide +kernel
theorem dX11_turn_96 : decode cX11_turn 96 = .ok (.istore 5, 2) := by decide +kernel
theorem dX11_turn_98 : decode cX11_turn 98 = .ok (.aload_n 0, 1) := by decide +kernel
theorem dX11_turn_99 : decode cX11_turn 99 = .ok (.getfield 10, 3) := by decide +kernel
theorem dX11_turn_102 : decode cX11_turn 102 = .ok (.bipush 97, 2) := by decide +kernel
theorem dX11_turn_104 : decode cX11_turn 104 = .ok (.iload_n 3, 1) := by decide +kernel
theorem dX11_turn_105 : decode cX11_turn 105 = .ok (.iadd, 1) := by decide +kernel
theorem dX11_turn_106 : decode cX11_turn 106 = .ok (.invokevirtual 385, 3) := by decide +kernel
theorem dX11_turn_109 : decode cX11_turn 109 = .ok (.aload_n 0, 1) := by decide +kernel
theorem dX11_turn_110 : decode cX11_turn 110 = .ok (.getfield 10, 3) := by decide +kernel
theorem dX11_turn_113 : decode cX11_turn 113 = .ok (.bipush 97, 2) := by decide +kernel
theorem dX11_turn_115 : decode cX11_turn 115 = .ok (.iload_n 1, 1) := by decide +kernel
theorem dX11_turn_116 : decode cX11_turn 116 = .ok (.iadd, 1) := by decide +kernel
theorem dX11_turn_117 : decode cX11_turn 117 = .ok (.invokevirtual 385, 3) := by decide +kernel
theorem dX11_turn_120 : decode cX11_turn 120 = .ok (.if_icmp .ge 7, 3) := by decide +kernel
theorem dX11_turn_123 : decode cX11_turn 123 = .ok (.iconst 1, 1) := by decide +kernel
theorem dX11_turn_124 : decode cX11_turn 124 = .ok (.goto 4, 3) := by decide +kernel
theorem dX11_turn_127 : decode cX11_turn 127 = .ok (.iconst 0, 1) := by decide +kernel
theorem dX11_turn_128 : decode cX11_turn 128 = .ok (.istore 6, 2) := by decide +kernel
theorem dX11_turn_130 : decode cX11_turn 130 = .ok (.iload 4, 2) := by decide +kernel
theorem dX11_turn_132 : decode cX11_turn 132 = .ok (.iload 5, 2) := by decide +kernel
theorem dX11_turn_134 : decode cX11_turn 134 = .ok (.if_icmp .lt 15, 3) := by decide +kernel
theorem dX11_turn_137 : decode cX11_turn 137 = .ok (.iload 4, 2) := by decide +kernel
theorem dX11_turn_139 : decode cX11_turn 139 = .ok (.iload 5, 2) := by decide +kernel
theorem dX11_turn_141 : decode cX11_turn 141 = .ok (.if_icmp .ne 12, 3) := by decide +kernel
theorem dX11_turn_144 : decode cX11_turn 144 = .ok (.iload 6, 2) := by decide +kernel
theorem dX11_turn_146 : decode cX11_turn 146 = .ok (.ifCond .eq 7, 3) := by decide +kernel
theorem dX11_turn_149 : decode cX11_turn 149 = .ok (.iload_n 3, 1) := by decide +kernel
theorem dX11_turn_150 : decode cX11_turn 150 = .ok (.goto 4, 3) := by decide +kernel
theorem dX11_turn_153 : decode cX11_turn 153 = .ok (.iload_n 1, 1) := by decide +kernel
theorem dX11_turn_154 : decode cX11_turn 154 = .ok (.istore_n 1, 1) := by decide +kernel
theorem dX11_turn_155 : decode cX11_turn 155 = .ok (.iload_n 2, 1) := by decide +kernel
theorem dX11_turn_156 : decode cX11_turn 156 = .ok (.iload 4, 2) := by decide +kernel
theorem dX11_turn_158 : decode cX11_turn 158 = .ok (.invokestatic 371, 3) := by decide +kernel
theorem dX11_turn_161 : decode cX11_turn 161 = .ok (.istore_n 2, 1) := by decide +kernel
theorem dX11_turn_162 : decode cX11_turn 162 = .ok (.iinc 3 1, 3) := by decide +kernel
theorem dX11_turn_165 : decode cX11_turn 165 = .ok (.goto (-104), 3) := by decide +kernel
theorem dX11_turn_168 : decode cX11_turn 168 = .ok (.aload_n 0, 1) := by decide +kernel
theorem dX11_turn_169 : decode cX11_turn 169 = .ok (.getfield 19, 3) := by decide +kernel
theorem dX11_turn_172 : decode cX11_turn 172 = .ok (.aload_n 0, 1) := by decide +kernel
theorem dX11_turn_173 : decode cX11_turn 173 = .ok (.getfield 10, 3) := by decide +kernel
theorem dX11_turn_176 : decode cX11_turn 176 = .ok (.bipush 97, 2) := by decide +kernel
theorem dX11_turn_178 : decode cX11_turn 178 = .ok (.iload_n 1, 1) := by decide +kernel
theorem dX11_turn_179 : decode cX11_turn 179 = .ok (.iadd, 1) := by decide +kernel
theorem dX11_turn_180 : decode cX11_turn 180 = .ok (.invokevirtual 382, 3) := by decide +kernel
theorem dX11_turn_183 : decode cX11_turn 183 = .ok (.i2l, 1) := by decide +kernel
theorem dX11_turn_184 : decode cX11_turn 184 = .ok (.iload_n 2, 1) := by decide +kernel
theorem dX11_turn_185 : decode cX11_turn 185 = .ok (.i2l, 1) := by decide +kernel
theorem dX11_turn_186 : decode cX11_turn 186 = .ok (.invokevirtual 285, 3) := by decide +kernel
theorem dX11_turn_189 : decode cX11_turn 189 = .ok (.iload_n 1, 1) := by decide +kernel
theorem dX11_turn_190 : decode cX11_turn 190 = .ok (.ireturn, 1) := by decide +kernel
theorem dX11_lockers_0 : decode cX11_lockers 0 = .ok (.aload_n 0, 1) := by decide +kernel
theorem dX11_lockers_1 : decode cX11_lockers 1 = .ok (.getfield 10, 3) := by decide +kernel
theorem dX11_lockers_4 : decode cX11_lockers 4 = .ok (.bipush 80, 2) := by decide +kernel
theorem dX11_lockers_6 : decode cX11_lockers 6 = .ok (.invokevirtual 113, 3) := by decide +kernel
theorem dX11_lockers_9 : decode cX11_lockers 9 = .ok (.iload_n 1, 1) := by decide +kernel
theorem dX11_lockers_10 : decode cX11_lockers 10 = .ok (.iconst 1, 1) := by decide +kernel
theorem dX11_lockers_11 : decode cX11_lockers 11 = .ok (.if_icmp .lt 9, 3) := by decide +kernel
theorem dX11_lockers_14 : decode cX11_lockers 14 = .ok (.iload_n 1, 1) := by decide +kernel
theorem dX11_lockers_15 : decode cX11_lockers 15 = .ok (.bipush 20, 2) := by decide +kernel
theorem dX11_lockers_17 : decode cX11_lockers 17 = .ok (.if_icmp .le 6, 3) := by decide +kernel
theorem dX11_lockers_20 : decode cX11_lockers 20 = .ok (.bipush (-100), 2) := by decide +kernel
theorem dX11_lockers_22 : decode cX11_lockers 22 = .ok (.ireturn, 1) := by decide +kernel
theorem dX11_lockers_23 : decode cX11_lockers 23 = .ok (.aload_n 0, 1) := by decide +kernel
theorem dX11_lockers_24 : decode cX11_lockers 24 = .ok (.getfield 87, 3) := by decide +kernel
theorem dX11_lockers_27 : decode cX11_lockers 27 = .ok (.aload_n 0, 1) := by decide +kernel
theorem dX11_lockers_28 : decode cX11_lockers 28 = .ok (.getfield 10, 3) := by decide +kernel
theorem dX11_lockers_31 : decode cX11_lockers 31 = .ok (.invokevirtual 388, 3) := by decide +kernel
theorem dX11_lockers_34 : decode cX11_lockers 34 = .ok (.ifCond .ne 11, 3) := by decide +kernel
theorem dX11_lockers_37 : decode cX11_lockers 37 = .ok (.aload_n 0, 1) := by decide +kernel
theorem dX11_lockers_38 : decode cX11_lockers 38 = .ok (.getfield 10, 3) := by decide +kernel
theorem dX11_lockers_41 : decode cX11_lockers 41 = .ok (.invokevirtual 127, 3) := by decide +kernel
theorem dX11_lockers_44 : decode cX11_lockers 44 = .ok (.ireturn, 1) := by decide +kernel
theorem dX11_lockers_45 : decode cX11_lockers 45 = .ok (.aload_n 0, 1) := by decide +kernel
theorem dX11_lockers_46 : decode cX11_lockers 46 = .ok (.getfield 87, 3) := by decide +kernel
theorem dX11_lockers_49 : decode cX11_lockers 49 = .ok (.iload_n 1, 1) := by decide +kernel
theorem dX11_lockers_50 : decode cX11_lockers 50 = .ok (.invokevirtual 391, 3) := by decide +kernel
theorem dX11_lockers_53 : decode cX11_lockers 53 = .ok (.istore_n 2, 1) := by decide +kernel
theorem dX11_lockers_54 : decode cX11_lockers 54 = .ok (.iload_n 2, 1) := by decide +kernel
theorem dX11_lockers_55 : decode cX11_lockers 55 = .ok (.ifCond .ge 7, 3) := by decide +kernel
theorem dX11_lockers_58 : decode cX11_lockers 58 = .ok (.sipush (-200), 3) := by decide +kernel
theorem dX11_lockers_61 : decode cX11_lockers 61 = .ok (.ireturn, 1) := by decide +kernel
theorem dX11_lockers_62 : decode cX11_lockers 62 = .ok (.aload_n 0, 1) := by decide +kernel
theorem dX11_lockers_63 : decode cX11_lockers 63 = .ok (.getfield 19, 3) := by decide +kernel
theorem dX11_lockers_66 : decode cX11_lockers 66 = .ok (.invokevirtual 344, 3) := by decide +kernel
theorem dX11_lockers_69 : decode cX11_lockers 69 = .ok (.iconst 0, 1) := by decide +kernel
theorem dX11_lockers_70 : decode cX11_lockers 70 = .ok (.istore_n 3, 1) := by decide +kernel
theorem dX11_lockers_71 : decode cX11_lockers 71 = .ok (.iload_n 3, 1) := by decide +kernel
theorem dX11_lockers_72 : decode cX11_lockers 72 = .ok (.aload_n 0, 1) := by decide +kernel
theorem dX11_lockers_73 : decode cX11_lockers 73 = .ok (.getfield 87, 3) := by decide +kernel
theorem dX11_lockers_76 : decode cX11_lockers 76 = .ok (.getfield 394, 3) := by decide +kernel
theorem dX11_lockers_79 : decode cX11_lockers 79 = .ok (.if_icmp .ge 26, 3) := by decide +kernel
theorem dX11_lockers_82 : decode cX11_lockers 82 = .ok (.aload_n 0, 1) := by decide +kernel
theorem dX11_lockers_83 : decode cX11_lockers 83 = .ok (.getfield 19, 3) := by decide +kernel
theorem dX11_lockers_86 : decode cX11_lockers 86 = .ok (.aload_n 0, 1) := by decide +kernel
theorem dX11_lockers_87 : decode cX11_lockers 87 = .ok (.getfield 87, 3) := by decide +kernel
theorem dX11_lockers_90 : decode cX11_lockers 90 = .ok (.getfield 395, 3) := by decide +kernel
theorem dX11_lockers_93 : decode cX11_lockers 93 = .ok (.iload_n 3, 1) := by decide +kernel
theorem dX11_lockers_94 : decode cX11_lockers 94 = .ok (.iaload, 1) := by decide +kernel
theorem dX11_lockers_95 : decode cX11_lockers 95 = .ok (.i2l, 1) := by decide +kernel
theorem dX11_lockers_96 : decode cX11_lockers 96 = .ok (.invokevirtual 353, 3) := by decide +kernel
theorem dX11_lockers_99 : decode cX11_lockers 99 = .ok (.iinc 3 1, 3) := by decide +kernel
theorem dX11_lockers_102 : decode cX11_lockers 102 = .ok (.goto (-31), 3) := by decide +kernel
theorem dX11_lockers_105 : decode cX11_lockers 105 = .ok (.iload_n 2, 1) := by decide +kernel
theorem dX11_lockers_106 : decode cX11_lockers 106 = .ok (.ireturn, 1) := by decide +kernel
theorem dX11_left_0 : decode cX11_left 0 = .ok (.aload_n 0, 1) := by decide +kernel
theorem dX11_left_1 : decode cX11_left 1 = .ok (.getfield 10, 3) := by decide +kernel
theorem dX11_left_4 : decode cX11_left 4 = .ok (.bipush 80, 2) := by decide +kernel
theorem dX11_left_6 : decode cX11_left 6 = .ok (.invokevirtual 113, 3) := by decide +kernel
theorem dX11_left_9 : decode cX11_left 9 = .ok (.iload_n 1, 1) := by decide +kernel
theorem dX11_left_10 : decode cX11_left 10 = .ok (.ifCond .lt 19, 3) := by decide +kernel
theorem dX11_left_13 : decode cX11_left 13 = .ok (.iload_n 1, 1) := by decide +kernel
theorem dX11_left_14 : decode cX11_left 14 = .ok (.iconst 4, 1) := by decide +kernel
theorem dX11_left_15 : decode cX11_left 15 = .ok (.if_icmp .gt 14, 3) := by decide +kernel
theorem dX11_left_18 : decode cX11_left 18 = .ok (.iload_n 2, 1) := by decide +kernel
theorem dX11_left_19 : decode cX11_left 19 = .ok (.iconst 1, 1) := by decide +kernel
theorem dX11_left_20 : decode cX11_left 20 = .ok (.if_icmp .lt 9, 3) := by decide +kernel
theorem dX11_left_23 : decode cX11_left 23 = .ok (.iload_n 2, 1) := by decide +kernel
theorem dX11_left_24 : decode cX11_left 24 = .ok (.bipush 20, 2) := by decide +kernel
theorem dX11_left_26 : decode cX11_left 26 = .ok (.if_icmp .le 6, 3) := by decide +kernel
theorem dX11_left_29 : decode cX11_left 29 = .ok (.bipush (-100), 2) := by decide +kernel
theorem dX11_left_31 : decode cX11_left 31 = .ok (.ireturn, 1) := by decide +kernel
theorem dX11_left_32 : decode cX11_left 32 = .ok (.aload_n 0, 1) := by decide +kernel
theorem dX11_left_33 : decode cX11_left 33 = .ok (.getfield 87, 3) := by decide +kernel
theorem dX11_left_36 : decode cX11_left 36 = .ok (.aload_n 0, 1) := by decide +kernel
theorem dX11_left_37 : decode cX11_left 37 = .ok (.getfield 10, 3) := by decide +kernel
theorem dX11_left_40 : decode cX11_left 40 = .ok (.invokevirtual 388, 3) := by decide +kernel
theorem dX11_left_43 : decode cX11_left 43 = .ok (.ifCond .ne 11, 3) := by decide +kernel
theorem dX11_left_46 : decode cX11_left 46 = .ok (.aload_n 0, 1) := by decide +kernel
theorem dX11_left_47 : decode cX11_left 47 = .ok (.getfield 10, 3) := by decide +kernel
theorem dX11_left_50 : decode cX11_left 50 = .ok (.invokevirtual 127, 3) := by decide +kernel
theorem dX11_left_53 : decode cX11_left 53 = .ok (.ireturn, 1) := by decide +kernel
theorem dX11_left_54 : decode cX11_left 54 = .ok (.aload_n 0, 1) := by decide +kernel
theorem dX11_left_55 : decode cX11_left 55 = .ok (.getfield 87, 3) := by decide +kernel
theorem dX11_left_58 : decode cX11_left 58 = .ok (.iload_n 1, 1) := by decide +kernel
theorem dX11_left_59 : decode cX11_left 59 = .ok (.iload_n 2, 1) := by decide +kernel
theorem dX11_left_60 : decode cX11_left 60 = .ok (.invokevirtual 398, 3) := by decide +kernel
theorem dX11_left_63 : decode cX11_left 63 = .ok (.istore_n 3, 1) := by decide +kernel
theorem dX11_left_64 : decode cX11_left 64 = .ok (.aload_n 0, 1) := by decide +kernel
theorem dX11_left_65 : decode cX11_left 65 = .ok (.getfield 19, 3) := by decide +kernel
theorem dX11_left_68 : decode cX11_left 68 = .ok (.iload_n 3, 1) := by decide +kernel
theorem dX11_left_69 : decode cX11_left 69 = .ok (.i2l, 1) := by decide +kernel
theorem dX11_left_70 : decode cX11_left 70 = .ok (.invokevirtual 362, 3) := by decide +kernel
theorem dX11_left_73 : decode cX11_left 73 = .ok (.aload_n 0, 1) := by decide +kernel
theorem dX11_left_74 : decode cX11_left 74 = .ok (.getfield 87, 3) := by decide +kernel
theorem dX11_left_77 : decode cX11_left 77 = .ok (.iconst 1, 1) := by decide +kernel
theorem dX11_left_78 : decode cX11_left 78 = .ok (.aload_n 0, 1) := by decide +kernel
theorem dX11_left_79 : decode cX11_left 79 = .ok (.getfield 87, 3) := by decide +kernel
theorem dX11_left_82 : decode cX11_left 82 = .ok (.getfield 394, 3) := by decide +kernel
theorem dX11_left_85 : decode cX11_left 85 = .ok (.ishl, 1) := by decide +kernel
theorem dX11_left_86 : decode cX11_left 86 = .ok (.iconst 1, 1) := by decide +kernel
theorem dX11_left_87 : decode cX11_left 87 = .ok (.isub, 1) := by decide +kernel
theorem dX11_left_88 : decode cX11_left 88 = .ok (.invokevirtual 401, 3) := by decide +kernel
theorem dX11_left_91 : decode cX11_left 91 = .ok (.aload_n 0, 1) := by decide +kernel
theorem dX11_left_92 : decode cX11_left 92 = .ok (.getfield 87, 3) := by decide +kernel
theorem dX11_left_95 : decode cX11_left 95 = .ok (.iload_n 3, 1) := by decide +kernel
theorem dX11_left_96 : decode cX11_left 96 = .ok (.invokevirtual 401, 3) := by decide +kernel
theorem dX11_left_99 : decode cX11_left 99 = .ok (.isub, 1) := by decide +kernel
theorem dX11_left_100 : decode cX11_left 100 = .ok (.ireturn, 1) := by decide +kernel
theorem dX11_slack_0 : decode cX11_slack 0 = .ok (.aload_n 0, 1) := by decide +kernel
theorem dX11_slack_1 : decode cX11_slack 1 = .ok (.getfield 33, 3) := by decide +kernel
theorem dX11_slack_4 : decode cX11_slack 4 = .ok (.iload_n 1, 1) := by decide +kernel
theorem dX11_slack_5 : decode cX11_slack 5 = .ok (.invokevirtual 208, 3) := by decide +kernel
theorem dX11_slack_8 : decode cX11_slack 8 = .ok (.ifCond .eq 14, 3) := by decide +kernel
theorem dX11_slack_11 : decode cX11_slack 11 = .ok (.aload_n 0, 1) := by decide +kernel
theorem dX11_slack_12 : decode cX11_slack 12 = .ok (.getfield 45, 3) := by decide +kernel
theorem dX11_slack_15 : decode cX11_slack 15 = .ok (.iload_n 1, 1) := by decide +kernel
theorem dX11_slack_16 : decode cX11_slack 16 = .ok (.invokevirtual 404, 3) := by decide +kernel
theorem dX11_slack_19 : decode cX11_slack 19 = .ok (.goto 4, 3) := by decide +kernel
theorem dX11_slack_22 : decode cX11_slack 22 = .ok (.iconst (-1), 1) := by decide +kernel
theorem dX11_slack_23 : decode cX11_slack 23 = .ok (.ireturn, 1) := by decide +kernel
theorem dX11_tight_0 : decode cX11_tight 0 = .ok (.iconst (-1), 1) := by decide +kernel
theorem dX11_tight_1 : decode cX11_tight 1 = .ok (.istore_n 1, 1) := by decide +kernel
theorem dX11_tight_2 : decode cX11_tight 2 = .ok (.iconst (-1), 1) := by decide +kernel
theorem dX11_tight_3 : decode cX11_tight 3 = .ok (.istore_n 2, 1) := by decide +kernel
theorem dX11_tight_4 : decode cX11_tight 4 = .ok (.aload_n 0, 1) := by decide +kernel
theorem dX11_tight_5 : decode cX11_tight 5 = .ok (.getfield 45, 3) := by decide +kernel
theorem dX11_tight_8 : decode cX11_tight 8 = .ok (.invokevirtual 407, 3) := by decide +kernel
theorem dX11_tight_11 : decode cX11_tight 11 = .ok (.iconst 0, 1) := by decide +kernel
theorem dX11_tight_12 : decode cX11_tight 12 = .ok (.istore_n 3, 1) := by decide +kernel
theorem dX11_tight_13 : decode cX11_tight 13 = .ok (.iload_n 3, 1) := by decide +kernel
theorem dX11_tight_14 : decode cX11_tight 14 = .ok (.aload_n 0, 1) := by decide +kernel
theorem dX11_tight_15 : decode cX11_tight 15 = .ok (.getfield 33, 3) := by decide +kernel
theorem dX11_tight_18 : decode cX11_tight 18 = .ok (.getfield 143, 3) := by decide +kernel
theorem dX11_tight_21 : decode cX11_tight 21 = .ok (.if_icmp .ge 75, 3) := by decide +kernel
theorem dX11_tight_24 : decode cX11_tight 24 = .ok (.aload_n 0, 1) := by decide +kernel
theorem dX11_tight_25 : decode cX11_tight 25 = .ok (.getfield 45, 3) := by decide +kernel
theorem dX11_tight_28 : decode cX11_tight 28 = .ok (.getfield 410, 3) := by decide +kernel
theorem dX11_tight_31 : decode cX11_tight 31 = .ok (.iload_n 3, 1) := by decide +kernel
theorem dX11_tight_32 : decode cX11_tight 32 = .ok (.iaload, 1) := by decide +kernel
theorem dX11_tight_33 : decode cX11_tight 33 = .ok (.istore 4, 2) := by decide +kernel
theorem dX11_tight_35 : decode cX11_tight 35 = .ok (.iload 4, 2) := by decide +kernel
theorem dX11_tight_37 : decode cX11_tight 37 = .ok (.ifCond .lt 53, 3) := by decide +kernel
theorem dX11_tight_40 : decode cX11_tight 40 = .ok (.iload_n 1, 1) := by decide +kernel
theorem dX11_tight_41 : decode cX11_tight 41 = .ok (.iconst (-1), 1) := by decide +kernel
theorem dX11_tight_42 : decode cX11_tight 42 = .ok (.if_icmp .eq 17, 3) := by decide +kernel
theorem dX11_tight_45 : decode cX11_tight 45 = .ok (.iload 4, 2) := by decide +kernel
theorem dX11_tight_47 : decode cX11_tight 47 = .ok (.aload_n 0, 1) := by decide +kernel
theorem dX11_tight_48 : decode cX11_tight 48 = .ok (.getfield 45, 3) := by decide +kernel
theorem dX11_tight_51 : decode cX11_tight 51 = .ok (.getfield 410, 3) := by decide +kernel
theorem dX11_tight_54 : decode cX11_tight 54 = .ok (.iload_n 1, 1) := by decide +kernel
theorem dX11_tight_55 : decode cX11_tight 55 = .ok (.iaload, 1) := by decide +kernel
theorem dX11_tight_56 : decode cX11_tight 56 = .ok (.if_icmp .ge 7, 3) := by decide +kernel
theorem dX11_tight_59 : decode cX11_tight 59 = .ok (.iload_n 3, 1) := by decide +kernel
theorem dX11_tight_60 : decode cX11_tight 60 = .ok (.goto 4, 3) := by decide +kernel
theorem dX11_tight_63 : decode cX11_tight 63 = .ok (.iload_n 1, 1) := by decide +kernel
theorem dX11_tight_64 : decode cX11_tight 64 = .ok (.istore_n 1, 1) := by decide +kernel
theorem dX11_tight_65 : decode cX11_tight 65 = .ok (.iload_n 2, 1) := by decide +kernel
theorem dX11_tight_66 : decode cX11_tight 66 = .ok (.iconst (-1), 1) := by decide +kernel
theorem dX11_tight_67 : decode cX11_tight 67 = .ok (.if_icmp .eq 17, 3) := by decide +kernel
theorem dX11_tight_70 : decode cX11_tight 70 = .ok (.iload 4, 2) := by decide +kernel
theorem dX11_tight_72 : decode cX11_tight 72 = .ok (.aload_n 0, 1) := by decide +kernel
theorem dX11_tight_73 : decode cX11_tight 73 = .ok (.getfield 45, 3) := by decide +kernel
theorem dX11_tight_76 : decode cX11_tight 76 = .ok (.getfield 410, 3) := by decide +kernel
theorem dX11_tight_79 : decode cX11_tight 79 = .ok (.iload_n 2, 1) := by decide +kernel
theorem dX11_tight_80 : decode cX11_tight 80 = .ok (.iaload, 1) := by decide +kernel
theorem dX11_tight_81 : decode cX11_tight 81 = .ok (.if_icmp .le 7, 3) := by decide +kernel
theorem dX11_tight_84 : decode cX11_tight 84 = .ok (.iload_n 3, 1) := by decide +kernel
theorem dX11_tight_85 : decode cX11_tight 85 = .ok (.goto 4, 3) := by decide +kernel
theorem dX11_tight_88 : decode cX11_tight 88 = .ok (.iload_n 2, 1) := by decide +kernel
theorem dX11_tight_89 : decode cX11_tight 89 = .ok (.istore_n 2, 1) := by decide +kernel
theorem dX11_tight_90 : decode cX11_tight 90 = .ok (.iinc 3 1, 3) := by decide +kernel
theorem dX11_tight_93 : decode cX11_tight 93 = .ok (.goto (-80), 3) := by decide +kernel
theorem dX11_tight_96 : decode cX11_tight 96 = .ok (.iload_n 1, 1) := by decide +kernel
theorem dX11_tight_97 : decode cX11_tight 97 = .ok (.iconst (-1), 1) := by decide +kernel
theorem dX11_tight_98 : decode cX11_tight 98 = .ok (.if_icmp .eq 8, 3) := by decide +kernel
theorem dX11_tight_101 : decode cX11_tight 101 = .ok (.iload_n 2, 1) := by decide +kernel
theorem dX11_tight_102 : decode cX11_tight 102 = .ok (.iconst (-1), 1) := by decide +kernel
theorem dX11_tight_103 : decode cX11_tight 103 = .ok (.if_icmp .ne 6, 3) := by decide +kernel
theorem dX11_tight_106 : decode cX11_tight 106 = .ok (.bipush (-2), 2) := by decide +kernel
theorem dX11_tight_108 : decode cX11_tight 108 = .ok (.ireturn, 1) := by decide +kernel
theorem dX11_tight_109 : decode cX11_tight 109 = .ok (.aload_n 0, 1) := by decide +kernel
theorem dX11_tight_110 : decode cX11_tight 110 = .ok (.getfield 19, 3) := by decide +kernel
theorem dX11_tight_113 : decode cX11_tight 113 = .ok (.aload_n 0, 1) := by decide +kernel
theorem dX11_tight_114 : decode cX11_tight 114 = .ok (.getfield 45, 3) := by decide +kernel
theorem dX11_tight_117 : decode cX11_tight 117 = .ok (.getfield 410, 3) := by decide +kernel
theorem dX11_tight_120 : decode cX11_tight 120 = .ok (.iload_n 1, 1) := by decide +kernel
theorem dX11_tight_121 : decode cX11_tight 121 = .ok (.iaload, 1) := by decide +kernel
theorem dX11_tight_122 : decode cX11_tight 122 = .ok (.i2l, 1) := by decide +kernel
theorem dX11_tight_123 : decode cX11_tight 123 = .ok (.iload_n 2, 1) := by decide +kernel
theorem dX11_tight_124 : decode cX11_tight 124 = .ok (.i2l, 1) := by decide +kernel
theorem dX11_tight_125 : decode cX11_tight 125 = .ok (.aload_n 0, 1) := by decide +kernel
theorem dX11_tight_126 : decode cX11_tight 126 = .ok (.getfield 45, 3) := by decide +kernel
theorem dX11_tight_129 : decode cX11_tight 129 = .ok (.getfield 410, 3) := by decide +kernel
theorem dX11_tight_132 : decode cX11_tight 132 = .ok (.iload_n 2, 1) := by decide +kernel
theorem dX11_tight_133 : decode cX11_tight 133 = .ok (.iaload, 1) := by decide +kernel
theorem dX11_tight_134 : decode cX11_tight 134 = .ok (.i2l, 1) := by decide +kernel
theorem dX11_tight_135 : decode cX11_tight 135 = .ok (.invokevirtual 295, 3) := by decide +kernel
theorem dX11_tight_138 : decode cX11_tight 138 = .ok (.iload_n 1, 1) := by decide +kernel
theorem dX11_tight_139 : decode cX11_tight 139 = .ok (.ireturn, 1) := by decide +kernel
theorem dX11_chance_0 : decode cX11_chance 0 = .ok (.iload_n 1, 1) := by decide +kernel
theorem dX11_chance_1 : decode cX11_chance 1 = .ok (.iconst 1, 1) := by decide +kernel
theorem dX11_chance_2 : decode cX11_chance 2 = .ok (.if_icmp .lt 19, 3) := by decide +kernel
theorem dX11_chance_5 : decode cX11_chance 5 = .ok (.iload_n 1, 1) := by decide +kernel
theorem dX11_chance_6 : decode cX11_chance 6 = .ok (.bipush 9, 2) := by decide +kernel
theorem dX11_chance_8 : decode cX11_chance 8 = .ok (.if_icmp .gt 13, 3) := by decide +kernel
theorem dX11_chance_11 : decode cX11_chance 11 = .ok (.iload_n 2, 1) := by decide +kernel
theorem dX11_chance_12 : decode cX11_chance 12 = .ok (.ifCond .lt 9, 3) := by decide +kernel
theorem dX11_chance_15 : decode cX11_chance 15 = .ok (.iload_n 2, 1) := by decide +kernel
theorem dX11_chance_16 : decode cX11_chance 16 = .ok (.bipush 10, 2) := by decide +kernel
theorem dX11_chance_18 : decode cX11_chance 18 = .ok (.if_icmp .le 5, 3) := by decide +kernel
theorem dX11_chance_21 : decode cX11_chance 21 = .ok (.iconst (-1), 1) := by decide +kernel
theorem dX11_chance_22 : decode cX11_chance 22 = .ok (.ireturn, 1) := by decide +kernel
theorem dX11_chance_23 : decode cX11_chance 23 = .ok (.aload_n 0, 1) := by decide +kernel
theorem dX11_chance_24 : decode cX11_chance 24 = .ok (.getfield 45, 3) := by decide +kernel
theorem dX11_chance_27 : decode cX11_chance 27 = .ok (.invokevirtual 407, 3) := by decide +kernel
theorem dX11_chance_30 : decode cX11_chance 30 = .ok (.lconst 1, 1) := by decide +kernel
theorem dX11_chance_31 : decode cX11_chance 31 = .ok (.lstore_n 3, 1) := by decide +kernel
theorem dX11_chance_32 : decode cX11_chance 32 = .ok (.lconst 1, 1) := by decide +kernel
theorem dX11_chance_33 : decode cX11_chance 33 = .ok (.lstore 5, 2) := by decide +kernel
theorem dX11_chance_35 : decode cX11_chance 35 = .ok (.iconst 0, 1) := by decide +kernel
theorem dX11_chance_36 : decode cX11_chance 36 = .ok (.istore 7, 2) := by decide +kernel
theorem dX11_chance_38 : decode cX11_chance 38 = .ok (.iload 7, 2) := by decide +kernel
theorem dX11_chance_40 : decode cX11_chance 40 = .ok (.aload_n 0, 1) := by decide +kernel
theorem dX11_chance_41 : decode cX11_chance 41 = .ok (.getfield 33, 3) := by decide +kernel
theorem dX11_chance_44 : decode cX11_chance 44 = .ok (.getfield 143, 3) := by decide +kernel
theorem dX11_chance_47 : decode cX11_chance 47 = .ok (.if_icmp .ge 52, 3) := by decide +kernel
theorem dX11_chance_50 : decode cX11_chance 50 = .ok (.aload_n 0, 1) := by decide +kernel
theorem dX11_chance_51 : decode cX11_chance 51 = .ok (.getfield 45, 3) := by decide +kernel
theorem dX11_chance_54 : decode cX11_chance 54 = .ok (.getfield 410, 3) := by decide +kernel
theorem dX11_chance_57 : decode cX11_chance 57 = .ok (.iload 7, 2) := by decide +kernel
theorem dX11_chance_59 : decode cX11_chance 59 = .ok (.iaload, 1) := by decide +kernel
theorem dX11_chance_60 : decode cX11_chance 60 = .ok (.ifCond .lt 33, 3) := by decide +kernel
theorem dX11_chance_63 : decode cX11_chance 63 = .ok (.aload_n 0, 1) := by decide +kernel
theorem dX11_chance_64 : decode cX11_chance 64 = .ok (.getfield 45, 3) := by decide +kernel
theorem dX11_chance_67 : decode cX11_chance 67 = .ok (.getfield 410, 3) := by decide +kernel
theorem dX11_chance_70 : decode cX11_chance 70 = .ok (.iload 7, 2) := by decide +kernel
theorem dX11_chance_72 : decode cX11_chance 72 = .ok (.iaload, 1) := by decide +kernel
theorem dX11_chance_73 : decode cX11_chance 73 = .ok (.iload_n 1, 1) := by decide +kernel
theorem dX11_chance_74 : decode cX11_chance 74 = .ok (.if_icmp .ge 19, 3) := by decide +kernel
theorem dX11_chance_77 : decode cX11_chance 77 = .ok (.lload_n 3, 1) := by decide +kernel
theorem dX11_chance_78 : decode cX11_chance 78 = .ok (.bipush 10, 2) := by decide +kernel
theorem dX11_chance_80 : decode cX11_chance 80 = .ok (.iload_n 2, 1) := by decide +kernel
theorem dX11_chance_81 : decode cX11_chance 81 = .ok (.isub, 1) := by decide +kernel
theorem dX11_chance_82 : decode cX11_chance 82 = .ok (.i2l, 1) := by decide +kernel
theorem dX11_chance_83 : decode cX11_chance 83 = .ok (.lmul, 1) := by decide +kernel
theorem dX11_chance_84 : decode cX11_chance 84 = .ok (.lstore_n 3, 1) := by decide +kernel
theorem dX11_chance_85 : decode cX11_chance 85 = .ok (.lload 5, 2) := by decide +kernel
theorem dX11_chance_87 : decode cX11_chance 87 = .ok (.ldc2_w 413, 3) := by decide +kernel
theorem dX11_chance_90 : decode cX11_chance 90 = .ok (.lmul, 1) := by decide +kernel
theorem dX11_chance_91 : decode cX11_chance 91 = .ok (.lstore 5, 2) := by decide +kernel
theorem dX11_chance_93 : decode cX11_chance 93 = .ok (.iinc 7 1, 3) := by decide +kernel
theorem dX11_chance_96 : decode cX11_chance 96 = .ok (.goto (-58), 3) := by decide +kernel
theorem dX11_chance_99 : decode cX11_chance 99 = .ok (.lload 5, 2) := by decide +kernel
theorem dX11_chance_101 : decode cX11_chance 101 = .ok (.lload_n 3, 1) := by decide +kernel
theorem dX11_chance_102 : decode cX11_chance 102 = .ok (.invokestatic 415, 3) := by decide +kernel
theorem dX11_chance_105 : decode cX11_chance 105 = .ok (.lstore 7, 2) := by decide +kernel
theorem dX11_chance_107 : decode cX11_chance 107 = .ok (.aload_n 0, 1) := by decide +kernel
theorem dX11_chance_108 : decode cX11_chance 108 = .ok (.getfield 19, 3) := by decide +kernel
theorem dX11_chance_111 : decode cX11_chance 111 = .ok (.lload_n 3, 1) := by decide +kernel
theorem dX11_chance_112 : decode cX11_chance 112 = .ok (.lload 7, 2) := by decide +kernel
theorem dX11_chance_114 : decode cX11_chance 114 = .ok (.ldiv, 1) := by decide +kernel
theorem dX11_chance_115 : decode cX11_chance 115 = .ok (.lload 5, 2) := by decide +kernel
theorem dX11_chance_117 : decode cX11_chance 117 = .ok (.lload 7, 2) := by decide +kernel
theorem dX11_chance_119 : decode cX11_chance 119 = .ok (.ldiv, 1) := by decide +kernel
theorem dX11_chance_120 : decode cX11_chance 120 = .ok (.invokevirtual 285, 3) := by decide +kernel
theorem dX11_chance_123 : decode cX11_chance 123 = .ok (.iconst 0, 1) := by decide +kernel
theorem dX11_chance_124 : decode cX11_chance 124 = .ok (.ireturn, 1) := by decide +kernel
theorem dX11_seen_0 : decode cX11_seen 0 = .ok (.aload_n 0, 1) := by decide +kernel
theorem dX11_seen_1 : decode cX11_seen 1 = .ok (.iload_n 1, 1) := by decide +kernel
theorem dX11_seen_2 : decode cX11_seen 2 = .ok (.iload_n 2, 1) := by decide +kernel
theorem dX11_seen_3 : decode cX11_seen 3 = .ok (.iload_n 3, 1) := by decide +kernel
theorem dX11_seen_4 : decode cX11_seen 4 = .ok (.invokevirtual 237, 3) := by decide +kernel
theorem dX11_seen_7 : decode cX11_seen 7 = .ok (.ifCond .eq 26, 3) := by decide +kernel
theorem dX11_seen_10 : decode cX11_seen 10 = .ok (.aload_n 0, 1) := by decide +kernel
theorem dX11_seen_11 : decode cX11_seen 11 = .ok (.getfield 80, 3) := by decide +kernel
theorem dX11_seen_14 : decode cX11_seen 14 = .ok (.iload_n 1, 1) := by decide +kernel
theorem dX11_seen_15 : decode cX11_seen 15 = .ok (.iload_n 2, 1) := by decide +kernel
theorem dX11_seen_16 : decode cX11_seen 16 = .ok (.iload_n 3, 1) := by decide +kernel
theorem dX11_seen_17 : decode cX11_seen 17 = .ok (.invokevirtual 419, 3) := by decide +kernel
theorem dX11_seen_20 : decode cX11_seen 20 = .ok (.ifCond .eq 13, 3) := by decide +kernel
theorem dX11_seen_23 : decode cX11_seen 23 = .ok (.aload_n 0, 1) := by decide +kernel
theorem dX11_seen_24 : decode cX11_seen 24 = .ok (.getfield 80, 3) := by decide +kernel
theorem dX11_seen_27 : decode cX11_seen 27 = .ok (.getfield 421, 3) := by decide +kernel
theorem dX11_seen_30 : decode cX11_seen 30 = .ok (.goto 4, 3) := by decide +kernel
theorem dX11_seen_33 : decode cX11_seen 33 = .ok (.iconst (-1), 1) := by decide +kernel
theorem dX11_seen_34 : decode cX11_seen 34 = .ok (.ireturn, 1) := by decide +kernel
theorem dX11_forget_0 : decode cX11_forget 0 = .ok (.aload_n 0, 1) := by decide +kernel
theorem dX11_forget_1 : decode cX11_forget 1 = .ok (.getfield 80, 3) := by decide +kernel
theorem dX11_forget_4 : decode cX11_forget 4 = .ok (.getfield 421, 3) := by decide +kernel
theorem dX11_forget_7 : decode cX11_forget 7 = .ok (.istore_n 1, 1) := by decide +kernel
theorem dX11_forget_8 : decode cX11_forget 8 = .ok (.aload_n 0, 1) := by decide +kernel
theorem dX11_forget_9 : decode cX11_forget 9 = .ok (.getfield 80, 3) := by decide +kernel
theorem dX11_forget_12 : decode cX11_forget 12 = .ok (.iconst 0, 1) := by decide +kernel
theorem dX11_forget_13 : decode cX11_forget 13 = .ok (.putfield 421, 3) := by decide +kernel
theorem dX11_forget_16 : decode cX11_forget 16 = .ok (.iload_n 1, 1) := by decide +kernel
theorem dX11_forget_17 : decode cX11_forget 17 = .ok (.ireturn, 1) := by decide +kernel
theorem dX11_fits_0 : decode cX11_fits 0 = .ok (.iconst 0, 1) := by decide +kernel
theorem dX11_fits_1 : decode cX11_fits 1 = .ok (.istore_n 1, 1) := by decide +kernel
theorem dX11_fits_2 : decode cX11_fits 2 = .ok (.iconst 0, 1) := by decide +kernel
theorem dX11_fits_3 : decode cX11_fits 3 = .ok (.istore_n 2, 1) := by decide +kernel
theorem dX11_fits_4 : decode cX11_fits 4 = .ok (.iload_n 2, 1) := by decide +kernel
theorem dX11_fits_5 : decode cX11_fits 5 = .ok (.aload_n 0, 1) := by decide +kernel
theorem dX11_fits_6 : decode cX11_fits 6 = .ok (.getfield 80, 3) := by decide +kernel
theorem dX11_fits_9 : decode cX11_fits 9 = .ok (.getfield 421, 3) := by decide +kernel
theorem dX11_fits_12 : decode cX11_fits 12 = .ok (.if_icmp .ge 34, 3) := by decide +kernel
theorem dX11_fits_15 : decode cX11_fits 15 = .ok (.iload_n 1, 1) := by decide +kernel
theorem dX11_fits_16 : decode cX11_fits 16 = .ok (.aload_n 0, 1) := by decide +kernel
theorem dX11_fits_17 : decode cX11_fits 17 = .ok (.getfield 80, 3) := by decide +kernel
theorem dX11_fits_20 : decode cX11_fits 20 = .ok (.iload_n 2, 1) := by decide +kernel
theorem dX11_fits_21 : decode cX11_fits 21 = .ok (.aload_n 0, 1) := by decide +kernel
theorem dX11_fits_22 : decode cX11_fits 22 = .ok (.getfield 33, 3) := by decide +kernel
theorem dX11_fits_25 : decode cX11_fits 25 = .ok (.invokevirtual 422, 3) := by decide +kernel
theorem dX11_fits_28 : decode cX11_fits 28 = .ok (.ifCond .eq 9, 3) := by decide +kernel
theorem dX11_fits_31 : decode cX11_fits 31 = .ok (.iconst 1, 1) := by decide +kernel
theorem dX11_fits_32 : decode cX11_fits 32 = .ok (.iload_n 2, 1) := by decide +kernel
theorem dX11_fits_33 : decode cX11_fits 33 = .ok (.ishl, 1) := by decide +kernel
theorem dX11_fits_34 : decode cX11_fits 34 = .ok (.goto 4, 3) := by decide +kernel
theorem dX11_fits_37 : decode cX11_fits 37 = .ok (.iconst 0, 1) := by decide +kernel
theorem dX11_fits_38 : decode cX11_fits 38 = .ok (.ior, 1) := by decide +kernel
theorem dX11_fits_39 : decode cX11_fits 39 = .ok (.istore_n 1, 1) := by decide +kernel
theorem dX11_fits_40 : decode cX11_fits 40 = .ok (.iinc 2 1, 3) := by decide +kernel
theorem dX11_fits_43 : decode cX11_fits 43 = .ok (.goto (-39), 3) := by decide +kernel
theorem dX11_fits_46 : decode cX11_fits 46 = .ok (.aload_n 0, 1) := by decide +kernel
theorem dX11_fits_47 : decode cX11_fits 47 = .ok (.getfield 19, 3) := by decide +kernel
theorem dX11_fits_50 : decode cX11_fits 50 = .ok (.iload_n 1, 1) := by decide +kernel
theorem dX11_fits_51 : decode cX11_fits 51 = .ok (.i2l, 1) := by decide +kernel
theorem dX11_fits_52 : decode cX11_fits 52 = .ok (.invokevirtual 362, 3) := by decide +kernel
theorem dX11_fits_55 : decode cX11_fits 55 = .ok (.iload_n 1, 1) := by decide +kernel
theorem dX11_fits_56 : decode cX11_fits 56 = .ok (.invokestatic 315, 3) := by decide +kernel
theorem dX11_fits_59 : decode cX11_fits 59 = .ok (.ireturn, 1) := by decide +kernel
theorem dX11_since_0 : decode cX11_since 0 = .ok (.aload_n 0, 1) := by decide +kernel
theorem dX11_since_1 : decode cX11_since 1 = .ok (.getfield 26, 3) := by decide +kernel
theorem dX11_since_4 : decode cX11_since 4 = .ok (.iload_n 1, 1) := by decide +kernel
theorem dX11_since_5 : decode cX11_since 5 = .ok (.invokevirtual 117, 3) := by decide +kernel
theorem dX11_since_8 : decode cX11_since 8 = .ok (.ifCond .eq 14, 3) := by decide +kernel
theorem dX11_since_11 : decode cX11_since 11 = .ok (.aload_n 0, 1) := by decide +kernel
theorem dX11_since_12 : decode cX11_since 12 = .ok (.getfield 26, 3) := by decide +kernel
theorem dX11_since_15 : decode cX11_since 15 = .ok (.iload_n 2, 1) := by decide +kernel
theorem dX11_since_16 : decode cX11_since 16 = .ok (.invokevirtual 184, 3) := by decide +kernel
theorem dX11_since_19 : decode cX11_since 19 = .ok (.ifCond .ne 5, 3) := by decide +kernel
theorem dX11_since_22 : decode cX11_since 22 = .ok (.iconst (-1), 1) := by decide +kernel
theorem dX11_since_23 : decode cX11_since 23 = .ok (.ireturn, 1) := by decide +kernel
theorem dX11_since_24 : decode cX11_since 24 = .ok (.iconst 0, 1) := by decide +kernel
theorem dX11_since_25 : decode cX11_since 25 = .ok (.istore_n 3, 1) := by decide +kernel
theorem dX11_since_26 : decode cX11_since 26 = .ok (.iconst (-1), 1) := by decide +kernel
theorem dX11_since_27 : decode cX11_since 27 = .ok (.istore 4, 2) := by decide +kernel
theorem dX11_since_29 : decode cX11_since 29 = .ok (.iconst (-1), 1) := by decide +kernel
theorem dX11_since_30 : decode cX11_since 30 = .ok (.istore 5, 2) := by decide +kernel
theorem dX11_since_32 : decode cX11_since 32 = .ok (.iconst 0, 1) := by decide +kernel
theorem dX11_since_33 : decode cX11_since 33 = .ok (.istore 6, 2) := by decide +kernel
theorem dX11_since_35 : decode cX11_since 35 = .ok (.iload 6, 2) := by decide +kernel
theorem dX11_since_37 : decode cX11_since 37 = .ok (.bipush 99, 2) := by decide +kernel
theorem dX11_since_39 : decode cX11_since 39 = .ok (.if_icmp .gt 83, 3) := by decide +kernel
theorem dX11_since_42 : decode cX11_since 42 = .ok (.aload_n 0, 1) := by decide +kernel
theorem dX11_since_43 : decode cX11_since 43 = .ok (.getfield 26, 3) := by decide +kernel
theorem dX11_since_46 : decode cX11_since 46 = .ok (.iload_n 2, 1) := by decide +kernel
theorem dX11_since_47 : decode cX11_since 47 = .ok (.iload 6, 2) := by decide +kernel
theorem dX11_since_49 : decode cX11_since 49 = .ok (.invokevirtual 426, 3) := by decide +kernel
theorem dX11_since_52 : decode cX11_since 52 = .ok (.ifCond .eq 20, 3) := by decide +kernel
theorem dX11_since_55 : decode cX11_since 55 = .ok (.aload_n 0, 1) := by decide +kernel
theorem dX11_since_56 : decode cX11_since 56 = .ok (.getfield 26, 3) := by decide +kernel
theorem dX11_since_59 : decode cX11_since 59 = .ok (.iload_n 2, 1) := by decide +kernel
theorem dX11_since_60 : decode cX11_since 60 = .ok (.iload 6, 2) := by decide +kernel
theorem dX11_since_62 : decode cX11_since 62 = .ok (.invokevirtual 430, 3) := by decide +kernel
theorem dX11_since_65 : decode cX11_since 65 = .ok (.ifCond .eq 7, 3) := by decide +kernel
theorem dX11_since_68 : decode cX11_since 68 = .ok (.iconst 1, 1) := by decide +kernel
theorem dX11_since_69 : decode cX11_since 69 = .ok (.goto 4, 3) := by decide +kernel
theorem dX11_since_72 : decode cX11_since 72 = .ok (.iconst 0, 1) := by decide +kernel
theorem dX11_since_73 : decode cX11_since 73 = .ok (.istore 7, 2) := by decide +kernel
theorem dX11_since_75 : decode cX11_since 75 = .ok (.iload 7, 2) := by decide +kernel
theorem dX11_since_77 : decode cX11_since 77 = .ok (.ifCond .eq 39, 3) := by decide +kernel
theorem dX11_since_80 : decode cX11_since 80 = .ok (.aload_n 0, 1) := by decide +kernel
theorem dX11_since_81 : decode cX11_since 81 = .ok (.getfield 80, 3) := by decide +kernel
theorem dX11_since_84 : decode cX11_since 84 = .ok (.iload_n 1, 1) := by decide +kernel
theorem dX11_since_85 : decode cX11_since 85 = .ok (.iload_n 2, 1) := by decide +kernel
theorem dX11_since_86 : decode cX11_since 86 = .ok (.iload 6, 2) := by decide +kernel
theorem dX11_since_88 : decode cX11_since 88 = .ok (.invokevirtual 433, 3) := by decide +kernel
theorem dX11_since_91 : decode cX11_since 91 = .ok (.ifCond .eq 25, 3) := by decide +kernel
theorem dX11_since_94 : decode cX11_since 94 = .ok (.iinc 3 1, 3) := by decide +kernel
theorem dX11_since_97 : decode cX11_since 97 = .ok (.iload 4, 2) := by decide +kernel
theorem dX11_since_99 : decode cX11_since 99 = .ok (.iconst (-1), 1) := by decide +kernel
theorem dX11_since_100 : decode cX11_since 100 = .ok (.if_icmp .ne 8, 3) := by decide +kernel
theorem dX11_since_103 : decode cX11_since 103 = .ok (.iload 6, 2) := by decide +kernel
theorem dX11_since_105 : decode cX11_since 105 = .ok (.goto 5, 3) := by decide +kernel
theorem dX11_since_108 : decode cX11_since 108 = .ok (.iload 4, 2) := by decide +kernel
theorem dX11_since_110 : decode cX11_since 110 = .ok (.istore 4, 2) := by decide +kernel
theorem dX11_since_112 : decode cX11_since 112 = .ok (.iload 6, 2) := by decide +kernel
theorem dX11_since_114 : decode cX11_since 114 = .ok (.istore 5, 2) := by decide +kernel
theorem dX11_since_116 : decode cX11_since 116 = .ok (.iinc 6 1, 3) := by decide +kernel
theorem dX11_since_119 : decode cX11_since 119 = .ok (.goto (-84), 3) := by decide +kernel
theorem dX11_since_122 : decode cX11_since 122 = .ok (.aload_n 0, 1) := by decide +kernel
theorem dX11_since_123 : decode cX11_since 123 = .ok (.getfield 19, 3) := by decide +kernel
theorem dX11_since_126 : decode cX11_since 126 = .ok (.iload 4, 2) := by decide +kernel
theorem dX11_since_128 : decode cX11_since 128 = .ok (.i2l, 1) := by decide +kernel
theorem dX11_since_129 : decode cX11_since 129 = .ok (.iload 5, 2) := by decide +kernel
theorem dX11_since_131 : decode cX11_since 131 = .ok (.i2l, 1) := by decide +kernel
theorem dX11_since_132 : decode cX11_since 132 = .ok (.invokevirtual 285, 3) := by decide +kernel
theorem dX11_since_135 : decode cX11_since 135 = .ok (.iload_n 3, 1) := by decide +kernel
theorem dX11_since_136 : decode cX11_since 136 = .ok (.ireturn, 1) := by decide +kernel
theorem dX11_stayed_0 : decode cX11_stayed 0 = .ok (.iload_n 1, 1) := by decide +kernel
theorem dX11_stayed_1 : decode cX11_stayed 1 = .ok (.ifCond .lt 9, 3) := by decide +kernel
theorem dX11_stayed_4 : decode cX11_stayed 4 = .ok (.iload_n 1, 1) := by decide +kernel
theorem dX11_stayed_5 : decode cX11_stayed 5 = .ok (.bipush 99, 2) := by decide +kernel
theorem dX11_stayed_7 : decode cX11_stayed 7 = .ok (.if_icmp .le 5, 3) := by decide +kernel
theorem dX11_stayed_10 : decode cX11_stayed 10 = .ok (.iconst (-1), 1) := by decide +kernel
theorem dX11_stayed_11 : decode cX11_stayed 11 = .ok (.ireturn, 1) := by decide +kernel
theorem dX11_stayed_12 : decode cX11_stayed 12 = .ok (.iconst 0, 1) := by decide +kernel
theorem dX11_stayed_13 : decode cX11_stayed 13 = .ok (.istore_n 2, 1) := by decide +kernel
theorem dX11_stayed_14 : decode cX11_stayed 14 = .ok (.iconst 0, 1) := by decide +kernel
theorem dX11_stayed_15 : decode cX11_stayed 15 = .ok (.istore_n 3, 1) := by decide +kernel
theorem dX11_stayed_16 : decode cX11_stayed 16 = .ok (.iload_n 3, 1) := by decide +kernel
theorem dX11_stayed_17 : decode cX11_stayed 17 = .ok (.aload_n 0, 1) := by decide +kernel
theorem dX11_stayed_18 : decode cX11_stayed 18 = .ok (.getfield 26, 3) := by decide +kernel
theorem dX11_stayed_21 : decode cX11_stayed 21 = .ok (.getfield 299, 3) := by decide +kernel
theorem dX11_stayed_24 : decode cX11_stayed 24 = .ok (.if_icmp .ge 31, 3) := by decide +kernel
theorem dX11_stayed_27 : decode cX11_stayed 27 = .ok (.iload_n 2, 1) := by decide +kernel
theorem dX11_stayed_28 : decode cX11_stayed 28 = .ok (.aload_n 0, 1) := by decide +kernel
theorem dX11_stayed_29 : decode cX11_stayed 29 = .ok (.getfield 80, 3) := by decide +kernel
theorem dX11_stayed_32 : decode cX11_stayed 32 = .ok (.iload_n 3, 1) := by decide +kernel
theorem dX11_stayed_33 : decode cX11_stayed 33 = .ok (.iload_n 1, 1) := by decide +kernel
theorem dX11_stayed_34 : decode cX11_stayed 34 = .ok (.invokevirtual 436, 3) := by decide +kernel
theorem dX11_stayed_37 : decode cX11_stayed 37 = .ok (.ifCond .eq 9, 3) := by decide +kernel
theorem dX11_stayed_40 : decode cX11_stayed 40 = .ok (.iconst 1, 1) := by decide +kernel
theorem dX11_stayed_41 : decode cX11_stayed 41 = .ok (.iload_n 3, 1) := by decide +kernel
theorem dX11_stayed_42 : decode cX11_stayed 42 = .ok (.ishl, 1) := by decide +kernel
theorem dX11_stayed_43 : decode cX11_stayed 43 = .ok (.goto 4, 3) := by decide +kernel
theorem dX11_stayed_46 : decode cX11_stayed 46 = .ok (.iconst 0, 1) := by decide +kernel
theorem dX11_stayed_47 : decode cX11_stayed 47 = .ok (.ior, 1) := by decide +kernel
theorem dX11_stayed_48 : decode cX11_stayed 48 = .ok (.istore_n 2, 1) := by decide +kernel
theorem dX11_stayed_49 : decode cX11_stayed 49 = .ok (.iinc 3 1, 3) := by decide +kernel
theorem dX11_stayed_52 : decode cX11_stayed 52 = .ok (.goto (-36), 3) := by decide +kernel
theorem dX11_stayed_55 : decode cX11_stayed 55 = .ok (.iload_n 2, 1) := by decide +kernel
theorem dX11_stayed_56 : decode cX11_stayed 56 = .ok (.ireturn, 1) := by decide +kernel
theorem dX11_journey_0 : decode cX11_journey 0 = .ok (.iload_n 2, 1) := by decide +kernel
theorem dX11_journey_1 : decode cX11_journey 1 = .ok (.iconst 1, 1) := by decide +kernel
theorem dX11_journey_2 : decode cX11_journey 2 = .ok (.if_icmp .lt 20, 3) := by decide +kernel
theorem dX11_journey_5 : decode cX11_journey 5 = .ok (.iload_n 2, 1) := by decide +kernel
theorem dX11_journey_6 : decode cX11_journey 6 = .ok (.bipush 50, 2) := by decide +kernel
theorem dX11_journey_8 : decode cX11_journey 8 = .ok (.if_icmp .gt 14, 3) := by decide +kernel
theorem dX11_journey_11 : decode cX11_journey 11 = .ok (.iload_n 3, 1) := by decide +kernel
theorem dX11_journey_12 : decode cX11_journey 12 = .ok (.iconst 1, 1) := by decide +kernel
theorem dX11_journey_13 : decode cX11_journey 13 = .ok (.if_icmp .lt 9, 3) := by decide +kernel
theorem dX11_journey_16 : decode cX11_journey 16 = .ok (.iload_n 3, 1) := by decide +kernel
theorem dX11_journey_17 : decode cX11_journey 17 = .ok (.bipush 9, 2) := by decide +kernel
theorem dX11_journey_19 : decode cX11_journey 19 = .ok (.if_icmp .le 5, 3) := by decide +kernel
theorem dX11_journey_22 : decode cX11_journey 22 = .ok (.iconst (-1), 1) := by decide +kernel
theorem dX11_journey_23 : decode cX11_journey 23 = .ok (.ireturn, 1) := by decide +kernel
theorem dX11_journey_24 : decode cX11_journey 24 = .ok (.aload_n 0, 1) := by decide +kernel
theorem dX11_journey_25 : decode cX11_journey 25 = .ok (.getfield 45, 3) := by decide +kernel
theorem dX11_journey_28 : decode cX11_journey 28 = .ok (.invokevirtual 407, 3) := by decide +kernel
theorem dX11_journey_31 : decode cX11_journey 31 = .ok (.aload_n 0, 1) := by decide +kernel
theorem dX11_journey_32 : decode cX11_journey 32 = .ok (.getfield 45, 3) := by decide +kernel
theorem dX11_journey_35 : decode cX11_journey 35 = .ok (.getfield 439, 3) := by decide +kernel
theorem dX11_journey_38 : decode cX11_journey 38 = .ok (.iconst 0, 1) := by decide +kernel
theorem dX11_journey_39 : decode cX11_journey 39 = .ok (.invokestatic 442, 3) := by decide +kernel
theorem dX11_journey_42 : decode cX11_journey 42 = .ok (.iload_n 1, 1) := by decide +kernel
theorem dX11_journey_43 : decode cX11_journey 43 = .ok (.istore 4, 2) := by decide +kernel
theorem dX11_journey_45 : decode cX11_journey 45 = .ok (.iconst 0, 1) := by decide +kernel
theorem dX11_journey_46 : decode cX11_journey 46 = .ok (.istore 5, 2) := by decide +kernel
theorem dX11_journey_48 : decode cX11_journey 48 = .ok (.iconst 0, 1) := by decide +kernel
theorem dX11_journey_49 : decode cX11_journey 49 = .ok (.istore 6, 2) := by decide +kernel
theorem dX11_journey_51 : decode cX11_journey 51 = .ok (.iload 6, 2) := by decide +kernel
theorem dX11_journey_53 : decode cX11_journey 53 = .ok (.iload_n 2, 1) := by decide +kernel
theorem dX11_journey_54 : decode cX11_journey 54 = .ok (.if_icmp .ge 113, 3) := by decide +kernel
theorem dX11_journey_57 : decode cX11_journey 57 = .ok (.iconst 0, 1) := by decide +kernel
theorem dX11_journey_58 : decode cX11_journey 58 = .ok (.istore 7, 2) := by decide +kernel
theorem dX11_journey_60 : decode cX11_journey 60 = .ok (.iconst 0, 1) := by decide +kernel
theorem dX11_journey_61 : decode cX11_journey 61 = .ok (.istore 8, 2) := by decide +kernel
theorem dX11_journey_63 : decode cX11_journey 63 = .ok (.iload 8, 2) := by decide +kernel
theorem dX11_journey_65 : decode cX11_journey 65 = .ok (.aload_n 0, 1) := by decide +kernel
theorem dX11_journey_66 : decode cX11_journey 66 = .ok (.getfield 33, 3) := by decide +kernel
theorem dX11_journey_69 : decode cX11_journey 69 = .ok (.getfield 143, 3) := by decide +kernel
theorem dX11_journey_72 : decode cX11_journey 72 = .ok (.if_icmp .ge 74, 3) := by decide +kernel
theorem dX11_journey_75 : decode cX11_journey 75 = .ok (.aload_n 0, 1) := by decide +kernel
theorem dX11_journey_76 : decode cX11_journey 76 = .ok (.getfield 45, 3) := by decide +kernel
theorem dX11_journey_79 : decode cX11_journey 79 = .ok (.getfield 410, 3) := by decide +kernel
theorem dX11_journey_82 : decode cX11_journey 82 = .ok (.iload 8, 2) := by decide +kernel
theorem dX11_journey_84 : decode cX11_journey 84 = .ok (.iaload, 1) := by decide +kernel
theorem dX11_journey_85 : decode cX11_journey 85 = .ok (.ifCond .ge 6, 3) := by decide +kernel
theorem dX11_journey_88 : decode cX11_journey 88 = .ok (.goto 52, 3) := by decide +kernel
theorem dX11_journey_91 : decode cX11_journey 91 = .ok (.iload 4, 2) := by decide +kernel
theorem dX11_journey_93 : decode cX11_journey 93 = .ok (.ldc_w 448, 3) := by decide +kernel
theorem dX11_journey_96 : decode cX11_journey 96 = .ok (.imul, 1) := by decide +kernel
theorem dX11_journey_97 : decode cX11_journey 97 = .ok (.sipush 12345, 3) := by decide +kernel
theorem dX11_journey_100 : decode cX11_journey 100 = .ok (.iadd, 1) := by decide +kernel
theorem dX11_journey_101 : decode cX11_journey 101 = .ok (.istore 4, 2) := by decide +kernel
theorem dX11_journey_103 : decode cX11_journey 103 = .ok (.iload 4, 2) := by decide +kernel
theorem dX11_journey_105 : decode cX11_journey 105 = .ok (.bipush 16, 2) := by decide +kernel
theorem dX11_journey_107 : decode cX11_journey 107 = .ok (.iushr, 1) := by decide +kernel
theorem dX11_journey_108 : decode cX11_journey 108 = .ok (.iload_n 3, 1) := by decide +kernel
theorem dX11_journey_109 : decode cX11_journey 109 = .ok (.irem, 1) := by decide +kernel
theorem dX11_journey_110 : decode cX11_journey 110 = .ok (.aload_n 0, 1) := by decide +kernel
theorem dX11_journey_111 : decode cX11_journey 111 = .ok (.getfield 45, 3) := by decide +kernel
theorem dX11_journey_114 : decode cX11_journey 114 = .ok (.getfield 410, 3) := by decide +kernel
theorem dX11_journey_117 : decode cX11_journey 117 = .ok (.iload 8, 2) := by decide +kernel
theorem dX11_journey_119 : decode cX11_journey 119 = .ok (.iaload, 1) := by decide +kernel
theorem dX11_journey_120 : decode cX11_journey 120 = .ok (.if_icmp .le 20, 3) := by decide +kernel
theorem dX11_journey_123 : decode cX11_journey 123 = .ok (.aload_n 0, 1) := by decide +kernel
theorem dX11_journey_124 : decode cX11_journey 124 = .ok (.getfield 45, 3) := by decide +kernel
theorem dX11_journey_127 : decode cX11_journey 127 = .ok (.getfield 439, 3) := by decide +kernel
theorem dX11_journey_130 : decode cX11_journey 130 = .ok (.iload 8, 2) := by decide +kernel
theorem dX11_journey_132 : decode cX11_journey 132 = .ok (.dup2, 1) := by decide +kernel
theorem dX11_journey_133 : decode cX11_journey 133 = .ok (.iaload, 1) := by decide +kernel
theorem dX11_journey_134 : decode cX11_journey 134 = .ok (.iconst 1, 1) := by decide +kernel
theorem dX11_journey_135 : decode cX11_journey 135 = .ok (.iadd, 1) := by decide +kernel
theorem dX11_journey_136 : decode cX11_journey 136 = .ok (.iastore, 1) := by decide +kernel
theorem dX11_journey_137 : decode cX11_journey 137 = .ok (.iconst 1, 1) := by decide +kernel
theorem dX11_journey_138 : decode cX11_journey 138 = .ok (.istore 7, 2) := by decide +kernel
theorem dX11_journey_140 : decode cX11_journey 140 = .ok (.iinc 8 1, 3) := by decide +kernel
theorem dX11_journey_143 : decode cX11_journey 143 = .ok (.goto (-80), 3) := by decide +kernel
theorem dX11_journey_146 : decode cX11_journey 146 = .ok (.iload 5, 2) := by decide +kernel
theorem dX11_journey_148 : decode cX11_journey 148 = .ok (.iload 7, 2) := by decide +kernel
theorem dX11_journey_150 : decode cX11_journey 150 = .ok (.ifCond .eq 7, 3) := by decide +kernel
theorem dX11_journey_153 : decode cX11_journey 153 = .ok (.iconst 0, 1) := by decide +kernel
theorem dX11_journey_154 : decode cX11_journey 154 = .ok (.goto 4, 3) := by decide +kernel
theorem dX11_journey_157 : decode cX11_journey 157 = .ok (.iconst 1, 1) := by decide +kernel
theorem dX11_journey_158 : decode cX11_journey 158 = .ok (.iadd, 1) := by decide +kernel
theorem dX11_journey_159 : decode cX11_journey 159 = .ok (.istore 5, 2) := by decide +kernel
theorem dX11_journey_161 : decode cX11_journey 161 = .ok (.iinc 6 1, 3) := by decide +kernel
theorem dX11_journey_164 : decode cX11_journey 164 = .ok (.goto (-113), 3) := by decide +kernel
theorem dX11_journey_167 : decode cX11_journey 167 = .ok (.aload_n 0, 1) := by decide +kernel
theorem dX11_journey_168 : decode cX11_journey 168 = .ok (.invokevirtual 449, 3) := by decide +kernel
theorem dX11_journey_171 : decode cX11_journey 171 = .ok (.iload 5, 2) := by decide +kernel
theorem dX11_journey_173 : decode cX11_journey 173 = .ok (.ireturn, 1) := by decide +kernel
theorem dX11_keep_0 : decode cX11_keep 0 = .ok (.aload_n 0, 1) := by decide +kernel
theorem dX11_keep_1 : decode cX11_keep 1 = .ok (.getfield 71, 3) := by decide +kernel
theorem dX11_keep_4 : decode cX11_keep 4 = .ok (.iload_n 1, 1) := by decide +kernel
theorem dX11_keep_5 : decode cX11_keep 5 = .ok (.aload_n 0, 1) := by decide +kernel
theorem dX11_keep_6 : decode cX11_keep 6 = .ok (.getfield 33, 3) := by decide +kernel
theorem dX11_keep_9 : decode cX11_keep 9 = .ok (.aload_n 0, 1) := by decide +kernel
theorem dX11_keep_10 : decode cX11_keep 10 = .ok (.getfield 26, 3) := by decide +kernel
theorem dX11_keep_13 : decode cX11_keep 13 = .ok (.invokevirtual 452, 3) := by decide +kernel
theorem dX11_keep_16 : decode cX11_keep 16 = .ok (.ireturn, 1) := by decide +kernel
theorem dX11_again_0 : decode cX11_again 0 = .ok (.aload_n 0, 1) := by decide +kernel
theorem dX11_again_1 : decode cX11_again 1 = .ok (.getfield 71, 3) := by decide +kernel
theorem dX11_again_4 : decode cX11_again 4 = .ok (.iload_n 1, 1) := by decide +kernel
theorem dX11_again_5 : decode cX11_again 5 = .ok (.aload_n 0, 1) := by decide +kernel
theorem dX11_again_6 : decode cX11_again 6 = .ok (.getfield 33, 3) := by decide +kernel
theorem dX11_again_9 : decode cX11_again 9 = .ok (.aload_n 0, 1) := by decide +kernel
theorem dX11_again_10 : decode cX11_again 10 = .ok (.getfield 26, 3) := by decide +kernel
theorem dX11_again_13 : decode cX11_again 13 = .ok (.invokevirtual 456, 3) := by decide +kernel
theorem dX11_again_16 : decode cX11_again 16 = .ok (.ifCond .ne 5, 3) := by decide +kernel
theorem dX11_again_19 : decode cX11_again 19 = .ok (.iconst 0, 1) := by decide +kernel
theorem dX11_again_20 : decode cX11_again 20 = .ok (.ireturn, 1) := by decide +kernel
theorem dX11_again_21 : decode cX11_again 21 = .ok (.aload_n 0, 1) := by decide +kernel
theorem dX11_again_22 : decode cX11_again 22 = .ok (.getfield 71, 3) := by decide +kernel
theorem dX11_again_25 : decode cX11_again 25 = .ok (.invokevirtual 110, 3) := by decide +kernel
theorem dX11_again_28 : decode cX11_again 28 = .ok (.iconst 1, 1) := by decide +kernel
theorem dX11_again_29 : decode cX11_again 29 = .ok (.ireturn, 1) := by decide +kernel
theorem dX11_count_0 : decode cX11_count 0 = .ok (.iload_n 1, 1) := by decide +kernel
theorem dX11_count_1 : decode cX11_count 1 = .ok (.tableswitch 123 0 8 #[51, 59, 67, 75, 83, 91, 99, 107, 115], 51) := by decide +kernel
theorem dX11_count_52 : decode cX11_count 52 = .ok (.aload_n 0, 1) := by decide +kernel
theorem dX11_count_53 : decode cX11_count 53 = .ok (.getfield 26, 3) := by decide +kernel
theorem dX11_count_56 : decode cX11_count 56 = .ok (.getfield 299, 3) := by decide +kernel
theorem dX11_count_59 : decode cX11_count 59 = .ok (.ireturn, 1) := by decide +kernel
theorem dX11_count_60 : decode cX11_count 60 = .ok (.aload_n 0, 1) := by decide +kernel
theorem dX11_count_61 : decode cX11_count 61 = .ok (.getfield 26, 3) := by decide +kernel
theorem dX11_count_64 : decode cX11_count 64 = .ok (.getfield 120, 3) := by decide +kernel
theorem dX11_count_67 : decode cX11_count 67 = .ok (.ireturn, 1) := by decide +kernel
theorem dX11_count_68 : decode cX11_count 68 = .ok (.aload_n 0, 1) := by decide +kernel
theorem dX11_count_69 : decode cX11_count 69 = .ok (.getfield 26, 3) := by decide +kernel
theorem dX11_count_72 : decode cX11_count 72 = .ok (.getfield 172, 3) := by decide +kernel
theorem dX11_count_75 : decode cX11_count 75 = .ok (.ireturn, 1) := by decide +kernel
theorem dX11_count_76 : decode cX11_count 76 = .ok (.aload_n 0, 1) := by decide +kernel
theorem dX11_count_77 : decode cX11_count 77 = .ok (.getfield 33, 3) := by decide +kernel
theorem dX11_count_80 : decode cX11_count 80 = .ok (.getfield 143, 3) := by decide +kernel
theorem dX11_count_83 : decode cX11_count 83 = .ok (.ireturn, 1) := by decide +kernel
theorem dX11_count_84 : decode cX11_count 84 = .ok (.aload_n 0, 1) := by decide +kernel
theorem dX11_count_85 : decode cX11_count 85 = .ok (.getfield 26, 3) := by decide +kernel
theorem dX11_count_88 : decode cX11_count 88 = .ok (.invokevirtual 459, 3) := by decide +kernel
theorem dX11_count_91 : decode cX11_count 91 = .ok (.ireturn, 1) := by decide +kernel
theorem dX11_count_92 : decode cX11_count 92 = .ok (.aload_n 0, 1) := by decide +kernel
theorem dX11_count_93 : decode cX11_count 93 = .ok (.getfield 71, 3) := by decide +kernel
theorem dX11_count_96 : decode cX11_count 96 = .ok (.getfield 293, 3) := by decide +kernel
theorem dX11_count_99 : decode cX11_count 99 = .ok (.ireturn, 1) := by decide +kernel
theorem dX11_count_100 : decode cX11_count 100 = .ok (.aload_n 0, 1) := by decide +kernel
theorem dX11_count_101 : decode cX11_count 101 = .ok (.getfield 80, 3) := by decide +kernel
theorem dX11_count_104 : decode cX11_count 104 = .ok (.getfield 421, 3) := by decide +kernel
theorem dX11_count_107 : decode cX11_count 107 = .ok (.ireturn, 1) := by decide +kernel
theorem dX11_count_108 : decode cX11_count 108 = .ok (.aload_n 0, 1) := by decide +kernel
theorem dX11_count_109 : decode cX11_count 109 = .ok (.getfield 19, 3) := by decide +kernel
theorem dX11_count_112 : decode cX11_count 112 = .ok (.getfield 462, 3) := by decide +kernel
theorem dX11_count_115 : decode cX11_count 115 = .ok (.ireturn, 1) := by decide +kernel
theorem dX11_count_116 : decode cX11_count 116 = .ok (.aload_n 0, 1) := by decide +kernel
theorem dX11_count_117 : decode cX11_count 117 = .ok (.getfield 10, 3) := by decide +kernel
theorem dX11_count_120 : decode cX11_count 120 = .ok (.getfield 99, 3) := by decide +kernel
theorem dX11_count_123 : decode cX11_count 123 = .ok (.ireturn, 1) := by decide +kernel
theorem dX11_count_124 : decode cX11_count 124 = .ok (.bipush (-100), 2) := by decide +kernel
theorem dX11_count_126 : decode cX11_count 126 = .ok (.ireturn, 1) := by decide +kernel
theorem dX11_row_0 : decode cX11_row 0 = .ok (.iload_n 1, 1) := by decide +kernel
theorem dX11_row_1 : decode cX11_row 1 = .ok (.ifCond .lt 14, 3) := by decide +kernel
theorem dX11_row_4 : decode cX11_row 4 = .ok (.iload_n 1, 1) := by decide +kernel
theorem dX11_row_5 : decode cX11_row 5 = .ok (.aload_n 0, 1) := by decide +kernel
theorem dX11_row_6 : decode cX11_row 6 = .ok (.getfield 19, 3) := by decide +kernel
theorem dX11_row_9 : decode cX11_row 9 = .ok (.getfield 462, 3) := by decide +kernel
theorem dX11_row_12 : decode cX11_row 12 = .ok (.if_icmp .lt 11, 3) := by decide +kernel
theorem dX11_row_15 : decode cX11_row 15 = .ok (.new 159, 3) := by decide +kernel
theorem dX11_row_18 : decode cX11_row 18 = .ok (.dup, 1) := by decide +kernel
theorem dX11_row_19 : decode cX11_row 19 = .ok (.invokespecial 161, 3) := by decide +kernel
theorem dX11_row_22 : decode cX11_row 22 = .ok (.athrow, 1) := by decide +kernel
theorem dX11_row_23 : decode cX11_row 23 = .ok (.aload_n 0, 1) := by decide +kernel
theorem dX11_row_24 : decode cX11_row 24 = .ok (.getfield 19, 3) := by decide +kernel
theorem dX11_row_27 : decode cX11_row 27 = .ok (.getfield 463, 3) := by decide +kernel
theorem dX11_row_30 : decode cX11_row 30 = .ok (.iload_n 1, 1) := by decide +kernel
theorem dX11_row_31 : decode cX11_row 31 = .ok (.laload, 1) := by decide +kernel
theorem dX11_row_32 : decode cX11_row 32 = .ok (.lreturn, 1) := by decide +kernel
theorem dX11_canBeAsked_0 : decode cX11_canBeAsked 0 = .ok (.aload_n 0, 1) := by decide +kernel
theorem dX11_canBeAsked_1 : decode cX11_canBeAsked 1 = .ok (.getfield 26, 3) := by decide +kernel
theorem dX11_canBeAsked_4 : decode cX11_canBeAsked 4 = .ok (.iload_n 1, 1) := by decide +kernel
theorem dX11_canBeAsked_5 : decode cX11_canBeAsked 5 = .ok (.invokevirtual 117, 3) := by decide +kernel
theorem dX11_canBeAsked_8 : decode cX11_canBeAsked 8 = .ok (.ifCond .eq 28, 3) := by decide +kernel
theorem dX11_canBeAsked_11 : decode cX11_canBeAsked 11 = .ok (.aload_n 0, 1) := by decide +kernel
theorem dX11_canBeAsked_12 : decode cX11_canBeAsked 12 = .ok (.getfield 26, 3) := by decide +kernel
theorem dX11_canBeAsked_15 : decode cX11_canBeAsked 15 = .ok (.iload_n 2, 1) := by decide +kernel
theorem dX11_canBeAsked_16 : decode cX11_canBeAsked 16 = .ok (.invokevirtual 184, 3) := by decide +kernel
theorem dX11_canBeAsked_19 : decode cX11_canBeAsked 19 = .ok (.ifCond .eq 17, 3) := by decide +kernel
theorem dX11_canBeAsked_22 : decode cX11_canBeAsked 22 = .ok (.iload_n 3, 1) := by decide +kernel
theorem dX11_canBeAsked_23 : decode cX11_canBeAsked 23 = .ok (.ifCond .lt 13, 3) := by decide +kernel
theorem dX11_canBeAsked_26 : decode cX11_canBeAsked 26 = .ok (.iload_n 3, 1) := by decide +kernel
theorem dX11_canBeAsked_27 : decode cX11_canBeAsked 27 = .ok (.bipush 99, 2) := by decide +kernel
theorem dX11_canBeAsked_29 : decode cX11_canBeAsked 29 = .ok (.if_icmp .gt 7, 3) := by decide +kernel
theorem dX11_canBeAsked_32 : decode cX11_canBeAsked 32 = .ok (.iconst 1, 1) := by decide +kernel
theorem dX11_canBeAsked_33 : decode cX11_canBeAsked 33 = .ok (.goto 4, 3) := by decide +kernel
theorem dX11_canBeAsked_36 : decode cX11_canBeAsked 36 = .ok (.iconst 0, 1) := by decide +kernel
theorem dX11_canBeAsked_37 : decode cX11_canBeAsked 37 = .ok (.ireturn, 1) := by decide +kernel
theorem dX11_remember_0 : decode cX11_remember 0 = .ok (.iload_n 1, 1) := by decide +kernel
theorem dX11_remember_1 : decode cX11_remember 1 = .ok (.ifCond .lt 14, 3) := by decide +kernel
theorem dX11_remember_4 : decode cX11_remember 4 = .ok (.aload_n 0, 1) := by decide +kernel
theorem dX11_remember_5 : decode cX11_remember 5 = .ok (.getfield 71, 3) := by decide +kernel
theorem dX11_remember_8 : decode cX11_remember 8 = .ok (.aload_n 0, 1) := by decide +kernel
theorem dX11_remember_9 : decode cX11_remember 9 = .ok (.getfield 37, 3) := by decide +kernel
theorem dX11_remember_12 : decode cX11_remember 12 = .ok (.invokevirtual 152, 3) := by decide +kernel
theorem dX11_remember_15 : decode cX11_remember 15 = .ok (.iload_n 1, 1) := by decide +kernel
theorem dX11_remember_16 : decode cX11_remember 16 = .ok (.ireturn, 1) := by decide +kernel
theorem dX11_putIn_0 : decode cX11_putIn 0 = .ok (.aload_n 0, 1) := by decide +kernel
theorem dX11_putIn_1 : decode cX11_putIn 1 = .ok (.iload_n 1, 1) := by decide +kernel
theorem dX11_putIn_2 : decode cX11_putIn 2 = .ok (.iload_n 2, 1) := by decide +kernel
theorem dX11_putIn_3 : decode cX11_putIn 3 = .ok (.iload_n 3, 1) := by decide +kernel
theorem dX11_putIn_4 : decode cX11_putIn 4 = .ok (.invokevirtual 237, 3) := by decide +kernel
theorem dX11_putIn_7 : decode cX11_putIn 7 = .ok (.ifCond .ne 5, 3) := by decide +kernel
theorem dX11_putIn_10 : decode cX11_putIn 10 = .ok (.iconst (-1), 1) := by decide +kernel
theorem dX11_putIn_11 : decode cX11_putIn 11 = .ok (.ireturn, 1) := by decide +kernel
theorem dX11_putIn_12 : decode cX11_putIn 12 = .ok (.aload_n 0, 1) := by decide +kernel
theorem dX11_putIn_13 : decode cX11_putIn 13 = .ok (.getfield 45, 3) := by decide +kernel
theorem dX11_putIn_16 : decode cX11_putIn 16 = .ok (.invokevirtual 162, 3) := by decide +kernel
theorem dX11_putIn_19 : decode cX11_putIn 19 = .ok (.aload_n 0, 1) := by decide +kernel
theorem dX11_putIn_20 : decode cX11_putIn 20 = .ok (.getfield 45, 3) := by decide +kernel
theorem dX11_putIn_23 : decode cX11_putIn 23 = .ok (.iload_n 1, 1) := by decide +kernel
theorem dX11_putIn_24 : decode cX11_putIn 24 = .ok (.iload_n 2, 1) := by decide +kernel
theorem dX11_putIn_25 : decode cX11_putIn 25 = .ok (.iload_n 3, 1) := by decide +kernel
theorem dX11_putIn_26 : decode cX11_putIn 26 = .ok (.invokevirtual 241, 3) := by decide +kernel
theorem dX11_putIn_29 : decode cX11_putIn 29 = .ok (.ifCond .eq 6, 3) := by decide +kernel
theorem dX11_putIn_32 : decode cX11_putIn 32 = .ok (.bipush (-2), 2) := by decide +kernel
theorem dX11_putIn_34 : decode cX11_putIn 34 = .ok (.ireturn, 1) := by decide +kernel
theorem dX11_putIn_35 : decode cX11_putIn 35 = .ok (.aload_n 0, 1) := by decide +kernel
theorem dX11_putIn_36 : decode cX11_putIn 36 = .ok (.getfield 33, 3) := by decide +kernel
theorem dX11_putIn_39 : decode cX11_putIn 39 = .ok (.iload_n 1, 1) := by decide +kernel
theorem dX11_putIn_40 : decode cX11_putIn 40 = .ok (.iload_n 2, 1) := by decide +kernel
theorem dX11_putIn_41 : decode cX11_putIn 41 = .ok (.iload_n 3, 1) := by decide +kernel
theorem dX11_putIn_42 : decode cX11_putIn 42 = .ok (.invokevirtual 251, 3) := by decide +kernel
theorem dX11_putIn_45 : decode cX11_putIn 45 = .ok (.aload_n 0, 1) := by decide +kernel
theorem dX11_putIn_46 : decode cX11_putIn 46 = .ok (.getfield 33, 3) := by decide +kernel
theorem dX11_putIn_49 : decode cX11_putIn 49 = .ok (.getfield 143, 3) := by decide +kernel
theorem dX11_putIn_52 : decode cX11_putIn 52 = .ok (.ireturn, 1) := by decide +kernel
theorem dX11_takeOut_0 : decode cX11_takeOut 0 = .ok (.aload_n 0, 1) := by decide +kernel
theorem dX11_takeOut_1 : decode cX11_takeOut 1 = .ok (.getfield 33, 3) := by decide +kernel
theorem dX11_takeOut_4 : decode cX11_takeOut 4 = .ok (.iload_n 1, 1) := by decide +kernel
theorem dX11_takeOut_5 : decode cX11_takeOut 5 = .ok (.invokevirtual 208, 3) := by decide +kernel
theorem dX11_takeOut_8 : decode cX11_takeOut 8 = .ok (.ifCond .ne 5, 3) := by decide +kernel
theorem dX11_takeOut_11 : decode cX11_takeOut 11 = .ok (.iconst (-1), 1) := by decide +kernel
theorem dX11_takeOut_12 : decode cX11_takeOut 12 = .ok (.ireturn, 1) := by decide +kernel
theorem dX11_takeOut_13 : decode cX11_takeOut 13 = .ok (.aload_n 0, 1) := by decide +kernel
theorem dX11_takeOut_14 : decode cX11_takeOut 14 = .ok (.getfield 33, 3) := by decide +kernel
theorem dX11_takeOut_17 : decode cX11_takeOut 17 = .ok (.iload_n 1, 1) := by decide +kernel
theorem dX11_takeOut_18 : decode cX11_takeOut 18 = .ok (.invokevirtual 467, 3) := by decide +kernel
theorem dX11_takeOut_21 : decode cX11_takeOut 21 = .ok (.aload_n 0, 1) := by decide +kernel
theorem dX11_takeOut_22 : decode cX11_takeOut 22 = .ok (.getfield 33, 3) := by decide +kernel
theorem dX11_takeOut_25 : decode cX11_takeOut 25 = .ok (.getfield 143, 3) := by decide +kernel
theorem dX11_takeOut_28 : decode cX11_takeOut 28 = .ok (.ireturn, 1) := by decide +kernel
theorem dX11_moveBy_0 : decode cX11_moveBy 0 = .ok (.aload_n 0, 1) := by decide +kernel
theorem dX11_moveBy_1 : decode cX11_moveBy 1 = .ok (.getfield 33, 3) := by decide +kernel
theorem dX11_moveBy_4 : decode cX11_moveBy 4 = .ok (.iload_n 1, 1) := by decide +kernel
theorem dX11_moveBy_5 : decode cX11_moveBy 5 = .ok (.invokevirtual 208, 3) := by decide +kernel
theorem dX11_moveBy_8 : decode cX11_moveBy 8 = .ok (.ifCond .eq 15, 3) := by decide +kernel
theorem dX11_moveBy_11 : decode cX11_moveBy 11 = .ok (.iload_n 2, 1) := by decide +kernel
theorem dX11_moveBy_12 : decode cX11_moveBy 12 = .ok (.bipush (-99), 2) := by decide +kernel
theorem dX11_moveBy_14 : decode cX11_moveBy 14 = .ok (.if_icmp .lt 9, 3) := by decide +kernel
theorem dX11_moveBy_17 : decode cX11_moveBy 17 = .ok (.iload_n 2, 1) := by decide +kernel
theorem dX11_moveBy_18 : decode cX11_moveBy 18 = .ok (.bipush 99, 2) := by decide +kernel
theorem dX11_moveBy_20 : decode cX11_moveBy 20 = .ok (.if_icmp .le 5, 3) := by decide +kernel
theorem dX11_moveBy_23 : decode cX11_moveBy 23 = .ok (.iconst (-1), 1) := by decide +kernel
theorem dX11_moveBy_24 : decode cX11_moveBy 24 = .ok (.ireturn, 1) := by decide +kernel
theorem dX11_moveBy_25 : decode cX11_moveBy 25 = .ok (.aload_n 0, 1) := by decide +kernel
theorem dX11_moveBy_26 : decode cX11_moveBy 26 = .ok (.getfield 33, 3) := by decide +kernel
theorem dX11_moveBy_29 : decode cX11_moveBy 29 = .ok (.iload_n 1, 1) := by decide +kernel
theorem dX11_moveBy_30 : decode cX11_moveBy 30 = .ok (.invokevirtual 217, 3) := by decide +kernel
theorem dX11_moveBy_33 : decode cX11_moveBy 33 = .ok (.istore_n 3, 1) := by decide +kernel
theorem dX11_moveBy_34 : decode cX11_moveBy 34 = .ok (.iload_n 3, 1) := by decide +kernel
theorem dX11_moveBy_35 : decode cX11_moveBy 35 = .ok (.iload_n 2, 1) := by decide +kernel
theorem dX11_moveBy_36 : decode cX11_moveBy 36 = .ok (.iadd, 1) := by decide +kernel
theorem dX11_moveBy_37 : decode cX11_moveBy 37 = .ok (.istore 4, 2) := by decide +kernel
theorem dX11_moveBy_39 : decode cX11_moveBy 39 = .ok (.iload 4, 2) := by decide +kernel
theorem dX11_moveBy_41 : decode cX11_moveBy 41 = .ok (.ifCond .lt 10, 3) := by decide +kernel
theorem dX11_moveBy_44 : decode cX11_moveBy 44 = .ok (.iload 4, 2) := by decide +kernel
theorem dX11_moveBy_46 : decode cX11_moveBy 46 = .ok (.bipush 99, 2) := by decide +kernel
theorem dX11_moveBy_48 : decode cX11_moveBy 48 = .ok (.if_icmp .le 6, 3) := by decide +kernel
theorem dX11_moveBy_51 : decode cX11_moveBy 51 = .ok (.bipush (-2), 2) := by decide +kernel
theorem dX11_moveBy_53 : decode cX11_moveBy 53 = .ok (.ireturn, 1) := by decide +kernel
theorem dX11_moveBy_54 : decode cX11_moveBy 54 = .ok (.aload_n 0, 1) := by decide +kernel
theorem dX11_moveBy_55 : decode cX11_moveBy 55 = .ok (.getfield 33, 3) := by decide +kernel
theorem dX11_moveBy_58 : decode cX11_moveBy 58 = .ok (.iload_n 1, 1) := by decide +kernel
theorem dX11_moveBy_59 : decode cX11_moveBy 59 = .ok (.iload 4, 2) := by decide +kernel
theorem dX11_moveBy_61 : decode cX11_moveBy 61 = .ok (.invokevirtual 470, 3) := by decide +kernel
theorem dX11_moveBy_64 : decode cX11_moveBy 64 = .ok (.aload_n 0, 1) := by decide +kernel
theorem dX11_moveBy_65 : decode cX11_moveBy 65 = .ok (.getfield 45, 3) := by decide +kernel
theorem dX11_moveBy_68 : decode cX11_moveBy 68 = .ok (.iload_n 1, 1) := by decide +kernel
theorem dX11_moveBy_69 : decode cX11_moveBy 69 = .ok (.invokevirtual 226, 3) := by decide +kernel
theorem dX11_moveBy_72 : decode cX11_moveBy 72 = .ok (.ifCond .eq 15, 3) := by decide +kernel
theorem dX11_moveBy_75 : decode cX11_moveBy 75 = .ok (.aload_n 0, 1) := by decide +kernel
theorem dX11_moveBy_76 : decode cX11_moveBy 76 = .ok (.getfield 33, 3) := by decide +kernel
theorem dX11_moveBy_79 : decode cX11_moveBy 79 = .ok (.iload_n 1, 1) := by decide +kernel
theorem dX11_moveBy_80 : decode cX11_moveBy 80 = .ok (.iload_n 3, 1) := by decide +kernel
theorem dX11_moveBy_81 : decode cX11_moveBy 81 = .ok (.invokevirtual 470, 3) := by decide +kernel
theorem dX11_moveBy_84 : decode cX11_moveBy 84 = .ok (.bipush (-2), 2) := by decide +kernel
theorem dX11_moveBy_86 : decode cX11_moveBy 86 = .ok (.ireturn, 1) := by decide +kernel
theorem dX11_moveBy_87 : decode cX11_moveBy 87 = .ok (.iload 4, 2) := by decide +kernel
theorem dX11_moveBy_89 : decode cX11_moveBy 89 = .ok (.ireturn, 1) := by decide +kernel
theorem dX11_readTrips_0 : decode cX11_readTrips 0 = .ok (.iconst 0, 1) := by decide +kernel
theorem dX11_readTrips_1 : decode cX11_readTrips 1 = .ok (.istore_n 1, 1) := by decide +kernel
theorem dX11_readTrips_2 : decode cX11_readTrips 2 = .ok (.iload_n 1, 1) := by decide +kernel
theorem dX11_readTrips_3 : decode cX11_readTrips 3 = .ok (.bipush 12, 2) := by decide +kernel
theorem dX11_readTrips_5 : decode cX11_readTrips 5 = .ok (.if_icmp .ge 155, 3) := by decide +kernel
theorem dX11_readTrips_8 : decode cX11_readTrips 8 = .ok (.aload_n 0, 1) := by decide +kernel
theorem dX11_readTrips_9 : decode cX11_readTrips 9 = .ok (.getfield 10, 3) := by decide +kernel
theorem dX11_readTrips_12 : decode cX11_readTrips 12 = .ok (.invokevirtual 473, 3) := by decide +kernel
theorem dX11_readTrips_15 : decode cX11_readTrips 15 = .ok (.bipush 97, 2) := by decide +kernel
theorem dX11_readTrips_17 : decode cX11_readTrips 17 = .ok (.isub, 1) := by decide +kernel
theorem dX11_readTrips_18 : decode cX11_readTrips 18 = .ok (.istore_n 2, 1) := by decide +kernel
theorem dX11_readTrips_19 : decode cX11_readTrips 19 = .ok (.aload_n 0, 1) := by decide +kernel
theorem dX11_readTrips_20 : decode cX11_readTrips 20 = .ok (.getfield 26, 3) := by decide +kernel
theorem dX11_readTrips_23 : decode cX11_readTrips 23 = .ok (.iload_n 2, 1) := by decide +kernel
theorem dX11_readTrips_24 : decode cX11_readTrips 24 = .ok (.invokevirtual 117, 3) := by decide +kernel
theorem dX11_readTrips_27 : decode cX11_readTrips 27 = .ok (.ifCond .ne 5, 3) := by decide +kernel
theorem dX11_readTrips_30 : decode cX11_readTrips 30 = .ok (.iconst 0, 1) := by decide +kernel
theorem dX11_readTrips_31 : decode cX11_readTrips 31 = .ok (.ireturn, 1) := by decide +kernel
theorem dX11_readTrips_32 : decode cX11_readTrips 32 = .ok (.aload_n 0, 1) := by decide +kernel
theorem dX11_readTrips_33 : decode cX11_readTrips 33 = .ok (.getfield 10, 3) := by decide +kernel
theorem dX11_readTrips_36 : decode cX11_readTrips 36 = .ok (.invokevirtual 476, 3) := by decide +kernel
theorem dX11_readTrips_39 : decode cX11_readTrips 39 = .ok (.aload_n 0, 1) := by decide +kernel
theorem dX11_readTrips_40 : decode cX11_readTrips 40 = .ok (.getfield 10, 3) := by decide +kernel
theorem dX11_readTrips_43 : decode cX11_readTrips 43 = .ok (.invokevirtual 473, 3) := by decide +kernel
theorem dX11_readTrips_46 : decode cX11_readTrips 46 = .ok (.bipush 48, 2) := by decide +kernel
theorem dX11_readTrips_48 : decode cX11_readTrips 48 = .ok (.isub, 1) := by decide +kernel
theorem dX11_readTrips_49 : decode cX11_readTrips 49 = .ok (.istore_n 3, 1) := by decide +kernel
theorem dX11_readTrips_50 : decode cX11_readTrips 50 = .ok (.aload_n 0, 1) := by decide +kernel
theorem dX11_readTrips_51 : decode cX11_readTrips 51 = .ok (.getfield 26, 3) := by decide +kernel
theorem dX11_readTrips_54 : decode cX11_readTrips 54 = .ok (.iload_n 3, 1) := by decide +kernel
theorem dX11_readTrips_55 : decode cX11_readTrips 55 = .ok (.invokevirtual 184, 3) := by decide +kernel
theorem dX11_readTrips_58 : decode cX11_readTrips 58 = .ok (.ifCond .ne 5, 3) := by decide +kernel
theorem dX11_readTrips_61 : decode cX11_readTrips 61 = .ok (.iconst 0, 1) := by decide +kernel
theorem dX11_readTrips_62 : decode cX11_readTrips 62 = .ok (.ireturn, 1) := by decide +kernel
theorem dX11_readTrips_63 : decode cX11_readTrips 63 = .ok (.aload_n 0, 1) := by decide +kernel
theorem dX11_readTrips_64 : decode cX11_readTrips 64 = .ok (.getfield 10, 3) := by decide +kernel
theorem dX11_readTrips_67 : decode cX11_readTrips 67 = .ok (.invokevirtual 476, 3) := by decide +kernel
theorem dX11_readTrips_70 : decode cX11_readTrips 70 = .ok (.aload_n 0, 1) := by decide +kernel
theorem dX11_readTrips_71 : decode cX11_readTrips 71 = .ok (.getfield 10, 3) := by decide +kernel
theorem dX11_readTrips_74 : decode cX11_readTrips 74 = .ok (.bipush 64, 2) := by decide +kernel
theorem dX11_readTrips_76 : decode cX11_readTrips 76 = .ok (.invokevirtual 276, 3) := by decide +kernel
theorem dX11_readTrips_79 : decode cX11_readTrips 79 = .ok (.ifCond .eq 14, 3) := by decide +kernel
theorem dX11_readTrips_82 : decode cX11_readTrips 82 = .ok (.aload_n 0, 1) := by decide +kernel
theorem dX11_readTrips_83 : decode cX11_readTrips 83 = .ok (.getfield 10, 3) := by decide +kernel
theorem dX11_readTrips_86 : decode cX11_readTrips 86 = .ok (.iconst 2, 1) := by decide +kernel
theorem dX11_readTrips_87 : decode cX11_readTrips 87 = .ok (.invokevirtual 368, 3) := by decide +kernel
theorem dX11_readTrips_90 : decode cX11_readTrips 90 = .ok (.goto 4, 3) := by decide +kernel
theorem dX11_readTrips_93 : decode cX11_readTrips 93 = .ok (.iconst (-1), 1) := by decide +kernel
theorem dX11_readTrips_94 : decode cX11_readTrips 94 = .ok (.istore 4, 2) := by decide +kernel
theorem dX11_readTrips_96 : decode cX11_readTrips 96 = .ok (.iload 4, 2) := by decide +kernel
theorem dX11_readTrips_98 : decode cX11_readTrips 98 = .ok (.ifCond .ge 5, 3) := by decide +kernel
theorem dX11_readTrips_101 : decode cX11_readTrips 101 = .ok (.iconst 0, 1) := by decide +kernel
theorem dX11_readTrips_102 : decode cX11_readTrips 102 = .ok (.ireturn, 1) := by decide +kernel
theorem dX11_readTrips_103 : decode cX11_readTrips 103 = .ok (.aload_n 0, 1) := by decide +kernel
theorem dX11_readTrips_104 : decode cX11_readTrips 104 = .ok (.getfield 37, 3) := by decide +kernel
theorem dX11_readTrips_107 : decode cX11_readTrips 107 = .ok (.iload_n 2, 1) := by decide +kernel
theorem dX11_readTrips_108 : decode cX11_readTrips 108 = .ok (.iload_n 3, 1) := by decide +kernel
theorem dX11_readTrips_109 : decode cX11_readTrips 109 = .ok (.iload 4, 2) := by decide +kernel
theorem dX11_readTrips_111 : decode cX11_readTrips 111 = .ok (.invokevirtual 251, 3) := by decide +kernel
theorem dX11_readTrips_114 : decode cX11_readTrips 114 = .ok (.aload_n 0, 1) := by decide +kernel
theorem dX11_readTrips_115 : decode cX11_readTrips 115 = .ok (.getfield 10, 3) := by decide +kernel
theorem dX11_readTrips_118 : decode cX11_readTrips 118 = .ok (.invokevirtual 131, 3) := by decide +kernel
theorem dX11_readTrips_121 : decode cX11_readTrips 121 = .ok (.ifCond .eq 19, 3) := by decide +kernel
theorem dX11_readTrips_124 : decode cX11_readTrips 124 = .ok (.aload_n 0, 1) := by decide +kernel
theorem dX11_readTrips_125 : decode cX11_readTrips 125 = .ok (.getfield 10, 3) := by decide +kernel
theorem dX11_readTrips_128 : decode cX11_readTrips 128 = .ok (.invokevirtual 479, 3) := by decide +kernel
theorem dX11_readTrips_131 : decode cX11_readTrips 131 = .ok (.ifCond .ne 7, 3) := by decide +kernel
theorem dX11_readTrips_134 : decode cX11_readTrips 134 = .ok (.iconst 1, 1) := by decide +kernel
theorem dX11_readTrips_135 : decode cX11_readTrips 135 = .ok (.goto 4, 3) := by decide +kernel
theorem dX11_readTrips_138 : decode cX11_readTrips 138 = .ok (.iconst 0, 1) := by decide +kernel
theorem dX11_readTrips_139 : decode cX11_readTrips 139 = .ok (.ireturn, 1) := by decide +kernel
theorem dX11_readTrips_140 : decode cX11_readTrips 140 = .ok (.aload_n 0, 1) := by decide +kernel
theorem dX11_readTrips_141 : decode cX11_readTrips 141 = .ok (.getfield 10, 3) := by decide +kernel
theorem dX11_readTrips_144 : decode cX11_readTrips 144 = .ok (.bipush 59, 2) := by decide +kernel
theorem dX11_readTrips_146 : decode cX11_readTrips 146 = .ok (.invokevirtual 276, 3) := by decide +kernel
theorem dX11_readTrips_149 : decode cX11_readTrips 149 = .ok (.ifCond .ne 5, 3) := by decide +kernel
theorem dX11_readTrips_152 : decode cX11_readTrips 152 = .ok (.iconst 0, 1) := by decide +kernel
theorem dX11_readTrips_153 : decode cX11_readTrips 153 = .ok (.ireturn, 1) := by decide +kernel
theorem dX11_readTrips_154 : decode cX11_readTrips 154 = .ok (.iinc 1 1, 3) := by decide +kernel
theorem dX11_readTrips_157 : decode cX11_readTrips 157 = .ok (.goto (-155), 3) := by decide +kernel
theorem dX11_readTrips_160 : decode cX11_readTrips 160 = .ok (.iconst 0, 1) := by decide +kernel
theorem dX11_readTrips_161 : decode cX11_readTrips 161 = .ok (.ireturn, 1) := by decide +kernel
theorem dX11_readActs_0 : decode cX11_readActs 0 = .ok (.iconst 0, 1) := by decide +kernel
theorem dX11_readActs_1 : decode cX11_readActs 1 = .ok (.istore_n 1, 1) := by decide +kernel
theorem dX11_readActs_2 : decode cX11_readActs 2 = .ok (.iload_n 1, 1) := by decide +kernel
theorem dX11_readActs_3 : decode cX11_readActs 3 = .ok (.bipush 60, 2) := by decide +kernel
theorem dX11_readActs_5 : decode cX11_readActs 5 = .ok (.if_icmp .ge 58, 3) := by decide +kernel
theorem dX11_readActs_8 : decode cX11_readActs 8 = .ok (.aload_n 0, 1) := by decide +kernel
theorem dX11_readActs_9 : decode cX11_readActs 9 = .ok (.invokevirtual 273, 3) := by decide +kernel
theorem dX11_readActs_12 : decode cX11_readActs 12 = .ok (.ifCond .ne 5, 3) := by decide +kernel
theorem dX11_readActs_15 : decode cX11_readActs 15 = .ok (.iconst 0, 1) := by decide +kernel
theorem dX11_readActs_16 : decode cX11_readActs 16 = .ok (.ireturn, 1) := by decide +kernel
theorem dX11_readActs_17 : decode cX11_readActs 17 = .ok (.aload_n 0, 1) := by decide +kernel
theorem dX11_readActs_18 : decode cX11_readActs 18 = .ok (.getfield 10, 3) := by decide +kernel
theorem dX11_readActs_21 : decode cX11_readActs 21 = .ok (.invokevirtual 131, 3) := by decide +kernel
theorem dX11_readActs_24 : decode cX11_readActs 24 = .ok (.ifCond .eq 19, 3) := by decide +kernel
theorem dX11_readActs_27 : decode cX11_readActs 27 = .ok (.aload_n 0, 1) := by decide +kernel
theorem dX11_readActs_28 : decode cX11_readActs 28 = .ok (.getfield 10, 3) := by decide +kernel
theorem dX11_readActs_31 : decode cX11_readActs 31 = .ok (.invokevirtual 479, 3) := by decide +kernel
theorem dX11_readActs_34 : decode cX11_readActs 34 = .ok (.ifCond .ne 7, 3) := by decide +kernel
theorem dX11_readActs_37 : decode cX11_readActs 37 = .ok (.iconst 1, 1) := by decide +kernel
theorem dX11_readActs_38 : decode cX11_readActs 38 = .ok (.goto 4, 3) := by decide +kernel
theorem dX11_readActs_41 : decode cX11_readActs 41 = .ok (.iconst 0, 1) := by decide +kernel
theorem dX11_readActs_42 : decode cX11_readActs 42 = .ok (.ireturn, 1) := by decide +kernel
theorem dX11_readActs_43 : decode cX11_readActs 43 = .ok (.aload_n 0, 1) := by decide +kernel
theorem dX11_readActs_44 : decode cX11_readActs 44 = .ok (.getfield 10, 3) := by decide +kernel
theorem dX11_readActs_47 : decode cX11_readActs 47 = .ok (.bipush 59, 2) := by decide +kernel
theorem dX11_readActs_49 : decode cX11_readActs 49 = .ok (.invokevirtual 276, 3) := by decide +kernel
theorem dX11_readActs_52 : decode cX11_readActs 52 = .ok (.ifCond .ne 5, 3) := by decide +kernel
theorem dX11_readActs_55 : decode cX11_readActs 55 = .ok (.iconst 0, 1) := by decide +kernel
theorem dX11_readActs_56 : decode cX11_readActs 56 = .ok (.ireturn, 1) := by decide +kernel
theorem dX11_readActs_57 : decode cX11_readActs 57 = .ok (.iinc 1 1, 3) := by decide +kernel
theorem dX11_readActs_60 : decode cX11_readActs 60 = .ok (.goto (-58), 3) := by decide +kernel
theorem dX11_readActs_63 : decode cX11_readActs 63 = .ok (.iconst 0, 1) := by decide +kernel
theorem dX11_readActs_64 : decode cX11_readActs 64 = .ok (.ireturn, 1) := by decide +kernel
theorem dX11_readAct_0 : decode cX11_readAct 0 = .ok (.aload_n 0, 1) := by decide +kernel
theorem dX11_readAct_1 : decode cX11_readAct 1 = .ok (.getfield 91, 3) := by decide +kernel
theorem dX11_readAct_4 : decode cX11_readAct 4 = .ok (.iconst 0, 1) := by decide +kernel
theorem dX11_readAct_5 : decode cX11_readAct 5 = .ok (.aload_n 0, 1) := by decide +kernel
theorem dX11_readAct_6 : decode cX11_readAct 6 = .ok (.getfield 10, 3) := by decide +kernel
theorem dX11_readAct_9 : decode cX11_readAct 9 = .ok (.invokevirtual 473, 3) := by decide +kernel
theorem dX11_readAct_12 : decode cX11_readAct 12 = .ok (.iastore, 1) := by decide +kernel
theorem dX11_readAct_13 : decode cX11_readAct 13 = .ok (.aload_n 0, 1) := by decide +kernel
theorem dX11_readAct_14 : decode cX11_readAct 14 = .ok (.getfield 10, 3) := by decide +kernel
theorem dX11_readAct_17 : decode cX11_readAct 17 = .ok (.bipush 103, 2) := by decide +kernel
theorem dX11_readAct_19 : decode cX11_readAct 19 = .ok (.invokevirtual 276, 3) := by decide +kernel
theorem dX11_readAct_22 : decode cX11_readAct 22 = .ok (.ifCond .eq 97, 3) := by decide +kernel
theorem dX11_readAct_25 : decode cX11_readAct 25 = .ok (.aload_n 0, 1) := by decide +kernel
theorem dX11_readAct_26 : decode cX11_readAct 26 = .ok (.getfield 91, 3) := by decide +kernel
theorem dX11_readAct_29 : decode cX11_readAct 29 = .ok (.iconst 1, 1) := by decide +kernel
theorem dX11_readAct_30 : decode cX11_readAct 30 = .ok (.aload_n 0, 1) := by decide +kernel
theorem dX11_readAct_31 : decode cX11_readAct 31 = .ok (.getfield 10, 3) := by decide +kernel
theorem dX11_readAct_34 : decode cX11_readAct 34 = .ok (.invokevirtual 482, 3) := by decide +kernel
theorem dX11_readAct_37 : decode cX11_readAct 37 = .ok (.iastore, 1) := by decide +kernel
theorem dX11_readAct_38 : decode cX11_readAct 38 = .ok (.aload_n 0, 1) := by decide +kernel
theorem dX11_readAct_39 : decode cX11_readAct 39 = .ok (.getfield 91, 3) := by decide +kernel
theorem dX11_readAct_42 : decode cX11_readAct 42 = .ok (.iconst 2, 1) := by decide +kernel
theorem dX11_readAct_43 : decode cX11_readAct 43 = .ok (.aload_n 0, 1) := by decide +kernel
theorem dX11_readAct_44 : decode cX11_readAct 44 = .ok (.getfield 91, 3) := by decide +kernel
theorem dX11_readAct_47 : decode cX11_readAct 47 = .ok (.iconst 1, 1) := by decide +kernel
theorem dX11_readAct_48 : decode cX11_readAct 48 = .ok (.iaload, 1) := by decide +kernel
theorem dX11_readAct_49 : decode cX11_readAct 49 = .ok (.ifCond .ge 7, 3) := by decide +kernel
theorem dX11_readAct_52 : decode cX11_readAct 52 = .ok (.iconst (-1), 1) := by decide +kernel
theorem dX11_readAct_53 : decode cX11_readAct 53 = .ok (.goto 11, 3) := by decide +kernel
theorem dX11_readAct_56 : decode cX11_readAct 56 = .ok (.aload_n 0, 1) := by decide +kernel
theorem dX11_readAct_57 : decode cX11_readAct 57 = .ok (.getfield 10, 3) := by decide +kernel
theorem dX11_readAct_60 : decode cX11_readAct 60 = .ok (.iconst 0, 1) := by decide +kernel
theorem dX11_readAct_61 : decode cX11_readAct 61 = .ok (.invokevirtual 123, 3) := by decide +kernel
theorem dX11_readAct_64 : decode cX11_readAct 64 = .ok (.iastore, 1) := by decide +kernel
theorem dX11_readAct_65 : decode cX11_readAct 65 = .ok (.aload_n 0, 1) := by decide +kernel
theorem dX11_readAct_66 : decode cX11_readAct 66 = .ok (.getfield 91, 3) := by decide +kernel
theorem dX11_readAct_69 : decode cX11_readAct 69 = .ok (.iconst 3, 1) := by decide +kernel
theorem dX11_readAct_70 : decode cX11_readAct 70 = .ok (.aload_n 0, 1) := by decide +kernel
theorem dX11_readAct_71 : decode cX11_readAct 71 = .ok (.getfield 91, 3) := by decide +kernel
theorem dX11_readAct_74 : decode cX11_readAct 74 = .ok (.iconst 2, 1) := by decide +kernel
theorem dX11_readAct_75 : decode cX11_readAct 75 = .ok (.iaload, 1) := by decide +kernel
theorem dX11_readAct_76 : decode cX11_readAct 76 = .ok (.ifCond .lt 26, 3) := by decide +kernel
theorem dX11_readAct_79 : decode cX11_readAct 79 = .ok (.aload_n 0, 1) := by decide +kernel
theorem dX11_readAct_80 : decode cX11_readAct 80 = .ok (.getfield 10, 3) := by decide +kernel
theorem dX11_readAct_83 : decode cX11_readAct 83 = .ok (.bipush 64, 2) := by decide +kernel
theorem dX11_readAct_85 : decode cX11_readAct 85 = .ok (.invokevirtual 276, 3) := by decide +kernel
theorem dX11_readAct_88 : decode cX11_readAct 88 = .ok (.ifCond .eq 14, 3) := by decide +kernel
theorem dX11_readAct_91 : decode cX11_readAct 91 = .ok (.aload_n 0, 1) := by decide +kernel
theorem dX11_readAct_92 : decode cX11_readAct 92 = .ok (.getfield 10, 3) := by decide +kernel
theorem dX11_readAct_95 : decode cX11_readAct 95 = .ok (.iconst 2, 1) := by decide +kernel
theorem dX11_readAct_96 : decode cX11_readAct 96 = .ok (.invokevirtual 368, 3) := by decide +kernel
theorem dX11_readAct_99 : decode cX11_readAct 99 = .ok (.goto 4, 3) := by decide +kernel
theorem dX11_readAct_102 : decode cX11_readAct 102 = .ok (.iconst (-1), 1) := by decide +kernel
theorem dX11_readAct_103 : decode cX11_readAct 103 = .ok (.iastore, 1) := by decide +kernel
theorem dX11_readAct_104 : decode cX11_readAct 104 = .ok (.aload_n 0, 1) := by decide +kernel
theorem dX11_readAct_105 : decode cX11_readAct 105 = .ok (.getfield 91, 3) := by decide +kernel
theorem dX11_readAct_108 : decode cX11_readAct 108 = .ok (.iconst 3, 1) := by decide +kernel
theorem dX11_readAct_109 : decode cX11_readAct 109 = .ok (.iaload, 1) := by decide +kernel
theorem dX11_readAct_110 : decode cX11_readAct 110 = .ok (.ifCond .lt 7, 3) := by decide +kernel
theorem dX11_readAct_113 : decode cX11_readAct 113 = .ok (.iconst 1, 1) := by decide +kernel
theorem dX11_readAct_114 : decode cX11_readAct 114 = .ok (.goto 4, 3) := by decide +kernel
theorem dX11_readAct_117 : decode cX11_readAct 117 = .ok (.iconst 0, 1) := by decide +kernel
theorem dX11_readAct_118 : decode cX11_readAct 118 = .ok (.ireturn, 1) := by decide +kernel
theorem dX11_readAct_119 : decode cX11_readAct 119 = .ok (.aload_n 0, 1) := by decide +kernel
theorem dX11_readAct_120 : decode cX11_readAct 120 = .ok (.getfield 10, 3) := by decide +kernel
theorem dX11_readAct_123 : decode cX11_readAct 123 = .ok (.bipush 120, 2) := by decide +kernel
theorem dX11_readAct_125 : decode cX11_readAct 125 = .ok (.invokevirtual 276, 3) := by decide +kernel
theorem dX11_readAct_128 : decode cX11_readAct 128 = .ok (.ifCond .eq 32, 3) := by decide +kernel
theorem dX11_readAct_131 : decode cX11_readAct 131 = .ok (.aload_n 0, 1) := by decide +kernel
theorem dX11_readAct_132 : decode cX11_readAct 132 = .ok (.getfield 91, 3) := by decide +kernel
theorem dX11_readAct_135 : decode cX11_readAct 135 = .ok (.iconst 1, 1) := by decide +kernel
theorem dX11_readAct_136 : decode cX11_readAct 136 = .ok (.aload_n 0, 1) := by decide +kernel
theorem dX11_readAct_137 : decode cX11_readAct 137 = .ok (.getfield 10, 3) := by decide +kernel
theorem dX11_readAct_140 : decode cX11_readAct 140 = .ok (.iconst 2, 1) := by decide +kernel
theorem dX11_readAct_141 : decode cX11_readAct 141 = .ok (.invokevirtual 368, 3) := by decide +kernel
theorem dX11_readAct_144 : decode cX11_readAct 144 = .ok (.iastore, 1) := by decide +kernel
theorem dX11_readAct_145 : decode cX11_readAct 145 = .ok (.aload_n 0, 1) := by decide +kernel
theorem dX11_readAct_146 : decode cX11_readAct 146 = .ok (.getfield 91, 3) := by decide +kernel
theorem dX11_readAct_149 : decode cX11_readAct 149 = .ok (.iconst 1, 1) := by decide +kernel
theorem dX11_readAct_150 : decode cX11_readAct 150 = .ok (.iaload, 1) := by decide +kernel
theorem dX11_readAct_151 : decode cX11_readAct 151 = .ok (.ifCond .lt 7, 3) := by decide +kernel
theorem dX11_readAct_154 : decode cX11_readAct 154 = .ok (.iconst 1, 1) := by decide +kernel
theorem dX11_readAct_155 : decode cX11_readAct 155 = .ok (.goto 4, 3) := by decide +kernel
theorem dX11_readAct_158 : decode cX11_readAct 158 = .ok (.iconst 0, 1) := by decide +kernel
theorem dX11_readAct_159 : decode cX11_readAct 159 = .ok (.ireturn, 1) := by decide +kernel
theorem dX11_readAct_160 : decode cX11_readAct 160 = .ok (.aload_n 0, 1) := by decide +kernel
theorem dX11_readAct_161 : decode cX11_readAct 161 = .ok (.getfield 10, 3) := by decide +kernel
theorem dX11_readAct_164 : decode cX11_readAct 164 = .ok (.bipush 115, 2) := by decide +kernel
theorem dX11_readAct_166 : decode cX11_readAct 166 = .ok (.invokevirtual 276, 3) := by decide +kernel
theorem dX11_readAct_169 : decode cX11_readAct 169 = .ok (.ifCond .eq 14, 3) := by decide +kernel
theorem dX11_readAct_172 : decode cX11_readAct 172 = .ok (.aload_n 0, 1) := by decide +kernel
theorem dX11_readAct_173 : decode cX11_readAct 173 = .ok (.invokevirtual 485, 3) := by decide +kernel
theorem dX11_readAct_176 : decode cX11_readAct 176 = .ok (.ifCond .eq 7, 3) := by decide +kernel
theorem dX11_readAct_179 : decode cX11_readAct 179 = .ok (.iconst 1, 1) := by decide +kernel
theorem dX11_readAct_180 : decode cX11_readAct 180 = .ok (.goto 4, 3) := by decide +kernel
theorem dX11_readAct_183 : decode cX11_readAct 183 = .ok (.iconst 0, 1) := by decide +kernel
theorem dX11_readAct_184 : decode cX11_readAct 184 = .ok (.ireturn, 1) := by decide +kernel
theorem dX11_readShift_0 : decode cX11_readShift 0 = .ok (.aload_n 0, 1) := by decide +kernel
theorem dX11_readShift_1 : decode cX11_readShift 1 = .ok (.getfield 91, 3) := by decide +kernel
theorem dX11_readShift_4 : decode cX11_readShift 4 = .ok (.iconst 1, 1) := by decide +kernel
theorem dX11_readShift_5 : decode cX11_readShift 5 = .ok (.aload_n 0, 1) := by decide +kernel
theorem dX11_readShift_6 : decode cX11_readShift 6 = .ok (.getfield 10, 3) := by decide +kernel
theorem dX11_readShift_9 : decode cX11_readShift 9 = .ok (.iconst 2, 1) := by decide +kernel
theorem dX11_readShift_10 : decode cX11_readShift 10 = .ok (.invokevirtual 368, 3) := by decide +kernel
theorem dX11_readShift_13 : decode cX11_readShift 13 = .ok (.iastore, 1) := by decide +kernel
theorem dX11_readShift_14 : decode cX11_readShift 14 = .ok (.aload_n 0, 1) := by decide +kernel
theorem dX11_readShift_15 : decode cX11_readShift 15 = .ok (.getfield 91, 3) := by decide +kernel
theorem dX11_readShift_18 : decode cX11_readShift 18 = .ok (.iconst 1, 1) := by decide +kernel
theorem dX11_readShift_19 : decode cX11_readShift 19 = .ok (.iaload, 1) := by decide +kernel
theorem dX11_readShift_20 : decode cX11_readShift 20 = .ok (.ifCond .ge 5, 3) := by decide +kernel
theorem dX11_readShift_23 : decode cX11_readShift 23 = .ok (.iconst 0, 1) := by decide +kernel
theorem dX11_readShift_24 : decode cX11_readShift 24 = .ok (.ireturn, 1) := by decide +kernel
theorem dX11_readShift_25 : decode cX11_readShift 25 = .ok (.aload_n 0, 1) := by decide +kernel
theorem dX11_readShift_26 : decode cX11_readShift 26 = .ok (.getfield 10, 3) := by decide +kernel
theorem dX11_readShift_29 : decode cX11_readShift 29 = .ok (.bipush 43, 2) := by decide +kernel
theorem dX11_readShift_31 : decode cX11_readShift 31 = .ok (.invokevirtual 276, 3) := by decide +kernel
theorem dX11_readShift_34 : decode cX11_readShift 34 = .ok (.istore_n 1, 1) := by decide +kernel
theorem dX11_readShift_35 : decode cX11_readShift 35 = .ok (.iload_n 1, 1) := by decide +kernel
theorem dX11_readShift_36 : decode cX11_readShift 36 = .ok (.ifCond .ne 17, 3) := by decide +kernel
theorem dX11_readShift_39 : decode cX11_readShift 39 = .ok (.aload_n 0, 1) := by decide +kernel
theorem dX11_readShift_40 : decode cX11_readShift 40 = .ok (.getfield 10, 3) := by decide +kernel
theorem dX11_readShift_43 : decode cX11_readShift 43 = .ok (.bipush 45, 2) := by decide +kernel
theorem dX11_readShift_45 : decode cX11_readShift 45 = .ok (.invokevirtual 276, 3) := by decide +kernel
theorem dX11_readShift_48 : decode cX11_readShift 48 = .ok (.ifCond .ne 5, 3) := by decide +kernel
theorem dX11_readShift_51 : decode cX11_readShift 51 = .ok (.iconst 0, 1) := by decide +kernel
theorem dX11_readShift_52 : decode cX11_readShift 52 = .ok (.ireturn, 1) := by decide +kernel
theorem dX11_readShift_53 : decode cX11_readShift 53 = .ok (.aload_n 0, 1) := by decide +kernel
theorem dX11_readShift_54 : decode cX11_readShift 54 = .ok (.getfield 10, 3) := by decide +kernel
theorem dX11_readShift_57 : decode cX11_readShift 57 = .ok (.iconst 2, 1) := by decide +kernel
theorem dX11_readShift_58 : decode cX11_readShift 58 = .ok (.invokevirtual 368, 3) := by decide +kernel
theorem dX11_readShift_61 : decode cX11_readShift 61 = .ok (.istore_n 2, 1) := by decide +kernel
theorem dX11_readShift_62 : decode cX11_readShift 62 = .ok (.aload_n 0, 1) := by decide +kernel
theorem dX11_readShift_63 : decode cX11_readShift 63 = .ok (.getfield 91, 3) := by decide +kernel
theorem dX11_readShift_66 : decode cX11_readShift 66 = .ok (.iconst 2, 1) := by decide +kernel
theorem dX11_readShift_67 : decode cX11_readShift 67 = .ok (.iload_n 1, 1) := by decide +kernel
theorem dX11_readShift_68 : decode cX11_readShift 68 = .ok (.ifCond .eq 7, 3) := by decide +kernel
theorem dX11_readShift_71 : decode cX11_readShift 71 = .ok (.iload_n 2, 1) := by decide +kernel
theorem dX11_readShift_72 : decode cX11_readShift 72 = .ok (.goto 5, 3) := by decide +kernel
theorem dX11_readShift_75 : decode cX11_readShift 75 = .ok (.iload_n 2, 1) := by decide +kernel
theorem dX11_readShift_76 : decode cX11_readShift 76 = .ok (.ineg, 1) := by decide +kernel
theorem dX11_readShift_77 : decode cX11_readShift 77 = .ok (.iastore, 1) := by decide +kernel
theorem dX11_readShift_78 : decode cX11_readShift 78 = .ok (.iload_n 2, 1) := by decide +kernel
theorem dX11_readShift_79 : decode cX11_readShift 79 = .ok (.ifCond .lt 7, 3) := by decide +kernel
theorem dX11_readShift_82 : decode cX11_readShift 82 = .ok (.iconst 1, 1) := by decide +kernel
theorem dX11_readShift_83 : decode cX11_readShift 83 = .ok (.goto 4, 3) := by decide +kernel
theorem dX11_readShift_86 : decode cX11_readShift 86 = .ok (.iconst 0, 1) := by decide +kernel
theorem dX11_readShift_87 : decode cX11_readShift 87 = .ok (.ireturn, 1) := by decide +kernel
theorem dX11_doAct_0 : decode cX11_doAct 0 = .ok (.aload_n 0, 1) := by decide +kernel
theorem dX11_doAct_1 : decode cX11_doAct 1 = .ok (.getfield 91, 3) := by decide +kernel
theorem dX11_doAct_4 : decode cX11_doAct 4 = .ok (.iconst 0, 1) := by decide +kernel
theorem dX11_doAct_5 : decode cX11_doAct 5 = .ok (.iaload, 1) := by decide +kernel
theorem dX11_doAct_6 : decode cX11_doAct 6 = .ok (.lookupswitch 60 #[(103, 26), (120, 49)], 26) := by decide +kernel
theorem dX11_doAct_32 : decode cX11_doAct 32 = .ok (.aload_n 0, 1) := by decide +kernel
theorem dX11_doAct_33 : decode cX11_doAct 33 = .ok (.aload_n 0, 1) := by decide +kernel
theorem dX11_doAct_34 : decode cX11_doAct 34 = .ok (.getfield 91, 3) := by decide +kernel
theorem dX11_doAct_37 : decode cX11_doAct 37 = .ok (.iconst 1, 1) := by decide +kernel
theorem dX11_doAct_38 : decode cX11_doAct 38 = .ok (.iaload, 1) := by decide +kernel
theorem dX11_doAct_39 : decode cX11_doAct 39 = .ok (.aload_n 0, 1) := by decide +kernel
theorem dX11_doAct_40 : decode cX11_doAct 40 = .ok (.getfield 91, 3) := by decide +kernel
theorem dX11_doAct_43 : decode cX11_doAct 43 = .ok (.iconst 2, 1) := by decide +kernel
theorem dX11_doAct_44 : decode cX11_doAct 44 = .ok (.iaload, 1) := by decide +kernel
theorem dX11_doAct_45 : decode cX11_doAct 45 = .ok (.aload_n 0, 1) := by decide +kernel
theorem dX11_doAct_46 : decode cX11_doAct 46 = .ok (.getfield 91, 3) := by decide +kernel
theorem dX11_doAct_49 : decode cX11_doAct 49 = .ok (.iconst 3, 1) := by decide +kernel
theorem dX11_doAct_50 : decode cX11_doAct 50 = .ok (.iaload, 1) := by decide +kernel
theorem dX11_doAct_51 : decode cX11_doAct 51 = .ok (.invokevirtual 245, 3) := by decide +kernel
theorem dX11_doAct_54 : decode cX11_doAct 54 = .ok (.ireturn, 1) := by decide +kernel
theorem dX11_doAct_55 : decode cX11_doAct 55 = .ok (.aload_n 0, 1) := by decide +kernel
theorem dX11_doAct_56 : decode cX11_doAct 56 = .ok (.aload_n 0, 1) := by decide +kernel
theorem dX11_doAct_57 : decode cX11_doAct 57 = .ok (.getfield 91, 3) := by decide +kernel
theorem dX11_doAct_60 : decode cX11_doAct 60 = .ok (.iconst 1, 1) := by decide +kernel
theorem dX11_doAct_61 : decode cX11_doAct 61 = .ok (.iaload, 1) := by decide +kernel
theorem dX11_doAct_62 : decode cX11_doAct 62 = .ok (.invokevirtual 264, 3) := by decide +kernel
theorem dX11_doAct_65 : decode cX11_doAct 65 = .ok (.ireturn, 1) := by decide +kernel
theorem dX11_doAct_66 : decode cX11_doAct 66 = .ok (.aload_n 0, 1) := by decide +kernel
theorem dX11_doAct_67 : decode cX11_doAct 67 = .ok (.aload_n 0, 1) := by decide +kernel
theorem dX11_doAct_68 : decode cX11_doAct 68 = .ok (.getfield 91, 3) := by decide +kernel
theorem dX11_doAct_71 : decode cX11_doAct 71 = .ok (.iconst 1, 1) := by decide +kernel
theorem dX11_doAct_72 : decode cX11_doAct 72 = .ok (.iaload, 1) := by decide +kernel
theorem dX11_doAct_73 : decode cX11_doAct 73 = .ok (.aload_n 0, 1) := by decide +kernel
theorem dX11_doAct_74 : decode cX11_doAct 74 = .ok (.getfield 91, 3) := by decide +kernel
theorem dX11_doAct_77 : decode cX11_doAct 77 = .ok (.iconst 2, 1) := by decide +kernel
theorem dX11_doAct_78 : decode cX11_doAct 78 = .ok (.iaload, 1) := by decide +kernel
theorem dX11_doAct_79 : decode cX11_doAct 79 = .ok (.invokevirtual 267, 3) := by decide +kernel
theorem dX11_doAct_82 : decode cX11_doAct 82 = .ok (.ireturn, 1) := by decide +kernel
theorem dX11_readDays_0 : decode cX11_readDays 0 = .ok (.iconst 0, 1) := by decide +kernel
theorem dX11_readDays_1 : decode cX11_readDays 1 = .ok (.istore_n 1, 1) := by decide +kernel
theorem dX11_readDays_2 : decode cX11_readDays 2 = .ok (.iload_n 1, 1) := by decide +kernel
theorem dX11_readDays_3 : decode cX11_readDays 3 = .ok (.bipush 40, 2) := by decide +kernel
theorem dX11_readDays_5 : decode cX11_readDays 5 = .ok (.if_icmp .ge 48, 3) := by decide +kernel
theorem dX11_readDays_8 : decode cX11_readDays 8 = .ok (.aload_n 0, 1) := by decide +kernel
theorem dX11_readDays_9 : decode cX11_readDays 9 = .ok (.getfield 10, 3) := by decide +kernel
theorem dX11_readDays_12 : decode cX11_readDays 12 = .ok (.invokevirtual 131, 3) := by decide +kernel
theorem dX11_readDays_15 : decode cX11_readDays 15 = .ok (.ifCond .ne 38, 3) := by decide +kernel
theorem dX11_readDays_18 : decode cX11_readDays 18 = .ok (.aload_n 0, 1) := by decide +kernel
theorem dX11_readDays_19 : decode cX11_readDays 19 = .ok (.getfield 26, 3) := by decide +kernel
theorem dX11_readDays_22 : decode cX11_readDays 22 = .ok (.aload_n 0, 1) := by decide +kernel
theorem dX11_readDays_23 : decode cX11_readDays 23 = .ok (.getfield 10, 3) := by decide +kernel
theorem dX11_readDays_26 : decode cX11_readDays 26 = .ok (.invokevirtual 473, 3) := by decide +kernel
theorem dX11_readDays_29 : decode cX11_readDays 29 = .ok (.bipush 97, 2) := by decide +kernel
theorem dX11_readDays_31 : decode cX11_readDays 31 = .ok (.isub, 1) := by decide +kernel
theorem dX11_readDays_32 : decode cX11_readDays 32 = .ok (.invokevirtual 117, 3) := by decide +kernel
theorem dX11_readDays_35 : decode cX11_readDays 35 = .ok (.ifCond .ne 5, 3) := by decide +kernel
theorem dX11_readDays_38 : decode cX11_readDays 38 = .ok (.iconst 0, 1) := by decide +kernel
theorem dX11_readDays_39 : decode cX11_readDays 39 = .ok (.ireturn, 1) := by decide +kernel
theorem dX11_readDays_40 : decode cX11_readDays 40 = .ok (.aload_n 0, 1) := by decide +kernel
theorem dX11_readDays_41 : decode cX11_readDays 41 = .ok (.getfield 10, 3) := by decide +kernel
theorem dX11_readDays_44 : decode cX11_readDays 44 = .ok (.invokevirtual 476, 3) := by decide +kernel
theorem dX11_readDays_47 : decode cX11_readDays 47 = .ok (.iinc 1 1, 3) := by decide +kernel
theorem dX11_readDays_50 : decode cX11_readDays 50 = .ok (.goto (-48), 3) := by decide +kernel
theorem dX11_readDays_53 : decode cX11_readDays 53 = .ok (.aload_n 0, 1) := by decide +kernel
theorem dX11_readDays_54 : decode cX11_readDays 54 = .ok (.getfield 10, 3) := by decide +kernel
theorem dX11_readDays_57 : decode cX11_readDays 57 = .ok (.invokevirtual 479, 3) := by decide +kernel
theorem dX11_readDays_60 : decode cX11_readDays 60 = .ok (.ifCond .ne 7, 3) := by decide +kernel
theorem dX11_readDays_63 : decode cX11_readDays 63 = .ok (.iconst 1, 1) := by decide +kernel
theorem dX11_readDays_64 : decode cX11_readDays 64 = .ok (.goto 4, 3) := by decide +kernel
theorem dX11_readDays_67 : decode cX11_readDays 67 = .ok (.iconst 0, 1) := by decide +kernel
theorem dX11_readDays_68 : decode cX11_readDays 68 = .ok (.ireturn, 1) := by decide +kernel
theorem dX11_tellMinute_0 : decode cX11_tellMinute 0 = .ok (.iload_n 2, 1) := by decide +kernel
theorem dX11_tellMinute_1 : decode cX11_tellMinute 1 = .ok (.ifCond .ge 6, 3) := by decide +kernel
theorem dX11_tellMinute_4 : decode cX11_tellMinute 4 = .ok (.bipush (-2), 2) := by decide +kernel
theorem dX11_tellMinute_6 : decode cX11_tellMinute 6 = .ok (.ireturn, 1) := by decide +kernel
theorem dX11_tellMinute_7 : decode cX11_tellMinute 7 = .ok (.aload_n 0, 1) := by decide +kernel
theorem dX11_tellMinute_8 : decode cX11_tellMinute 8 = .ok (.getfield 19, 3) := by decide +kernel
theorem dX11_tellMinute_11 : decode cX11_tellMinute 11 = .ok (.iload_n 2, 1) := by decide +kernel
theorem dX11_tellMinute_12 : decode cX11_tellMinute 12 = .ok (.aload_n 0, 1) := by decide +kernel
theorem dX11_tellMinute_13 : decode cX11_tellMinute 13 = .ok (.getfield 26, 3) := by decide +kernel
theorem dX11_tellMinute_16 : decode cX11_tellMinute 16 = .ok (.iload_n 1, 1) := by decide +kernel
theorem dX11_tellMinute_17 : decode cX11_tellMinute 17 = .ok (.invokevirtual 488, 3) := by decide +kernel
theorem dX11_tellMinute_20 : decode cX11_tellMinute 20 = .ok (.iadd, 1) := by decide +kernel
theorem dX11_tellMinute_21 : decode cX11_tellMinute 21 = .ok (.i2l, 1) := by decide +kernel
theorem dX11_tellMinute_22 : decode cX11_tellMinute 22 = .ok (.invokevirtual 362, 3) := by decide +kernel
theorem dX11_tellMinute_25 : decode cX11_tellMinute 25 = .ok (.iload_n 2, 1) := by decide +kernel
theorem dX11_tellMinute_26 : decode cX11_tellMinute 26 = .ok (.ireturn, 1) := by decide +kernel
theorem dX11_tellMisses_0 : decode cX11_tellMisses 0 = .ok (.iconst (-1), 1) := by decide +kernel
theorem dX11_tellMisses_1 : decode cX11_tellMisses 1 = .ok (.istore_n 1, 1) := by decide +kernel
theorem dX11_tellMisses_2 : decode cX11_tellMisses 2 = .ok (.iconst 0, 1) := by decide +kernel
theorem dX11_tellMisses_3 : decode cX11_tellMisses 3 = .ok (.istore_n 2, 1) := by decide +kernel
theorem dX11_tellMisses_4 : decode cX11_tellMisses 4 = .ok (.iconst 0, 1) := by decide +kernel
theorem dX11_tellMisses_5 : decode cX11_tellMisses 5 = .ok (.istore_n 3, 1) := by decide +kernel
theorem dX11_tellMisses_6 : decode cX11_tellMisses 6 = .ok (.iload_n 3, 1) := by decide +kernel
theorem dX11_tellMisses_7 : decode cX11_tellMisses 7 = .ok (.aload_n 0, 1) := by decide +kernel
theorem dX11_tellMisses_8 : decode cX11_tellMisses 8 = .ok (.getfield 33, 3) := by decide +kernel
theorem dX11_tellMisses_11 : decode cX11_tellMisses 11 = .ok (.getfield 143, 3) := by decide +kernel
theorem dX11_tellMisses_14 : decode cX11_tellMisses 14 = .ok (.if_icmp .ge 34, 3) := by decide +kernel
theorem dX11_tellMisses_17 : decode cX11_tellMisses 17 = .ok (.aload_n 0, 1) := by decide +kernel
theorem dX11_tellMisses_18 : decode cX11_tellMisses 18 = .ok (.getfield 45, 3) := by decide +kernel
theorem dX11_tellMisses_21 : decode cX11_tellMisses 21 = .ok (.getfield 439, 3) := by decide +kernel
theorem dX11_tellMisses_24 : decode cX11_tellMisses 24 = .ok (.iload_n 3, 1) := by decide +kernel
theorem dX11_tellMisses_25 : decode cX11_tellMisses 25 = .ok (.iaload, 1) := by decide +kernel
theorem dX11_tellMisses_26 : decode cX11_tellMisses 26 = .ok (.iload_n 2, 1) := by decide +kernel
theorem dX11_tellMisses_27 : decode cX11_tellMisses 27 = .ok (.if_icmp .le 15, 3) := by decide +kernel
theorem dX11_tellMisses_30 : decode cX11_tellMisses 30 = .ok (.iload_n 3, 1) := by decide +kernel
theorem dX11_tellMisses_31 : decode cX11_tellMisses 31 = .ok (.istore_n 1, 1) := by decide +kernel
theorem dX11_tellMisses_32 : decode cX11_tellMisses 32 = .ok (.aload_n 0, 1) := by decide +kernel
theorem dX11_tellMisses_33 : decode cX11_tellMisses 33 = .ok (.getfield 45, 3) := by decide +kernel
theorem dX11_tellMisses_36 : decode cX11_tellMisses 36 = .ok (.getfield 439, 3) := by decide +kernel
theorem dX11_tellMisses_39 : decode cX11_tellMisses 39 = .ok (.iload_n 3, 1) := by decide +kernel
theorem dX11_tellMisses_40 : decode cX11_tellMisses 40 = .ok (.iaload, 1) := by decide +kernel
theorem dX11_tellMisses_41 : decode cX11_tellMisses 41 = .ok (.istore_n 2, 1) := by decide +kernel
theorem dX11_tellMisses_42 : decode cX11_tellMisses 42 = .ok (.iinc 3 1, 3) := by decide +kernel
theorem dX11_tellMisses_45 : decode cX11_tellMisses 45 = .ok (.goto (-39), 3) := by decide +kernel
theorem dX11_tellMisses_48 : decode cX11_tellMisses 48 = .ok (.aload_n 0, 1) := by decide +kernel
theorem dX11_tellMisses_49 : decode cX11_tellMisses 49 = .ok (.getfield 19, 3) := by decide +kernel
theorem dX11_tellMisses_52 : decode cX11_tellMisses 52 = .ok (.iload_n 1, 1) := by decide +kernel
theorem dX11_tellMisses_53 : decode cX11_tellMisses 53 = .ok (.i2l, 1) := by decide +kernel
theorem dX11_tellMisses_54 : decode cX11_tellMisses 54 = .ok (.iload_n 2, 1) := by decide +kernel
theorem dX11_tellMisses_55 : decode cX11_tellMisses 55 = .ok (.i2l, 1) := by decide +kernel
theorem dX11_tellMisses_56 : decode cX11_tellMisses 56 = .ok (.invokevirtual 285, 3) := by decide +kernel
theorem dX11_tellMisses_59 : decode cX11_tellMisses 59 = .ok (.return_, 1) := by decide +kernel
theorem dX11_mendsBy_0 : decode cX11_mendsBy 0 = .ok (.aload_n 0, 1) := by decide +kernel
theorem dX11_mendsBy_1 : decode cX11_mendsBy 1 = .ok (.getfield 33, 3) := by decide +kernel
theorem dX11_mendsBy_4 : decode cX11_mendsBy 4 = .ok (.getfield 143, 3) := by decide +kernel
theorem dX11_mendsBy_7 : decode cX11_mendsBy 7 = .ok (.istore_n 2, 1) := by decide +kernel
theorem dX11_mendsBy_8 : decode cX11_mendsBy 8 = .ok (.iload_n 1, 1) := by decide +kernel
theorem dX11_mendsBy_9 : decode cX11_mendsBy 9 = .ok (.iload_n 2, 1) := by decide +kernel
theorem dX11_mendsBy_10 : decode cX11_mendsBy 10 = .ok (.if_icmp .le 5, 3) := by decide +kernel
theorem dX11_mendsBy_13 : decode cX11_mendsBy 13 = .ok (.iconst 0, 1) := by decide +kernel
theorem dX11_mendsBy_14 : decode cX11_mendsBy 14 = .ok (.ireturn, 1) := by decide +kernel
theorem dX11_mendsBy_15 : decode cX11_mendsBy 15 = .ok (.iconst 0, 1) := by decide +kernel
theorem dX11_mendsBy_16 : decode cX11_mendsBy 16 = .ok (.istore_n 3, 1) := by decide +kernel
theorem dX11_mendsBy_17 : decode cX11_mendsBy 17 = .ok (.iload_n 3, 1) := by decide +kernel
theorem dX11_mendsBy_18 : decode cX11_mendsBy 18 = .ok (.iload_n 1, 1) := by decide +kernel
theorem dX11_mendsBy_19 : decode cX11_mendsBy 19 = .ok (.ifCond .le 7, 3) := by decide +kernel
theorem dX11_mendsBy_22 : decode cX11_mendsBy 22 = .ok (.iload_n 2, 1) := by decide +kernel
theorem dX11_mendsBy_23 : decode cX11_mendsBy 23 = .ok (.goto 4, 3) := by decide +kernel
theorem dX11_mendsBy_26 : decode cX11_mendsBy 26 = .ok (.iconst 1, 1) := by decide +kernel
theorem dX11_mendsBy_27 : decode cX11_mendsBy 27 = .ok (.if_icmp .ge 133, 3) := by decide +kernel
theorem dX11_mendsBy_30 : decode cX11_mendsBy 30 = .ok (.iload_n 3, 1) := by decide +kernel
theorem dX11_mendsBy_31 : decode cX11_mendsBy 31 = .ok (.iconst 1, 1) := by decide +kernel
theorem dX11_mendsBy_32 : decode cX11_mendsBy 32 = .ok (.iadd, 1) := by decide +kernel
theorem dX11_mendsBy_33 : decode cX11_mendsBy 33 = .ok (.istore 4, 2) := by decide +kernel
theorem dX11_mendsBy_35 : decode cX11_mendsBy 35 = .ok (.iload 4, 2) := by decide +kernel
theorem dX11_mendsBy_37 : decode cX11_mendsBy 37 = .ok (.iload_n 1, 1) := by decide +kernel
theorem dX11_mendsBy_38 : decode cX11_mendsBy 38 = .ok (.iconst 1, 1) := by decide +kernel
theorem dX11_mendsBy_39 : decode cX11_mendsBy 39 = .ok (.if_icmp .le 7, 3) := by decide +kernel
theorem dX11_mendsBy_42 : decode cX11_mendsBy 42 = .ok (.iload_n 2, 1) := by decide +kernel
theorem dX11_mendsBy_43 : decode cX11_mendsBy 43 = .ok (.goto 6, 3) := by decide +kernel
theorem dX11_mendsBy_46 : decode cX11_mendsBy 46 = .ok (.iload_n 3, 1) := by decide +kernel
theorem dX11_mendsBy_47 : decode cX11_mendsBy 47 = .ok (.iconst 2, 1) := by decide +kernel
theorem dX11_mendsBy_48 : decode cX11_mendsBy 48 = .ok (.iadd, 1) := by decide +kernel
theorem dX11_mendsBy_49 : decode cX11_mendsBy 49 = .ok (.if_icmp .ge 105, 3) := by decide +kernel
theorem dX11_mendsBy_52 : decode cX11_mendsBy 52 = .ok (.iload 4, 2) := by decide +kernel
theorem dX11_mendsBy_54 : decode cX11_mendsBy 54 = .ok (.iconst 1, 1) := by decide +kernel
theorem dX11_mendsBy_55 : decode cX11_mendsBy 55 = .ok (.iadd, 1) := by decide +kernel
theorem dX11_mendsBy_56 : decode cX11_mendsBy 56 = .ok (.istore 5, 2) := by decide +kernel
theorem dX11_mendsBy_58 : decode cX11_mendsBy 58 = .ok (.iload 5, 2) := by decide +kernel
theorem dX11_mendsBy_60 : decode cX11_mendsBy 60 = .ok (.iload_n 1, 1) := by decide +kernel
theorem dX11_mendsBy_61 : decode cX11_mendsBy 61 = .ok (.iconst 2, 1) := by decide +kernel
theorem dX11_mendsBy_62 : decode cX11_mendsBy 62 = .ok (.if_icmp .le 7, 3) := by decide +kernel
theorem dX11_mendsBy_65 : decode cX11_mendsBy 65 = .ok (.iload_n 2, 1) := by decide +kernel
theorem dX11_mendsBy_66 : decode cX11_mendsBy 66 = .ok (.goto 7, 3) := by decide +kernel
theorem dX11_mendsBy_69 : decode cX11_mendsBy 69 = .ok (.iload 4, 2) := by decide +kernel
theorem dX11_mendsBy_71 : decode cX11_mendsBy 71 = .ok (.iconst 2, 1) := by decide +kernel
theorem dX11_mendsBy_72 : decode cX11_mendsBy 72 = .ok (.iadd, 1) := by decide +kernel
theorem dX11_mendsBy_73 : decode cX11_mendsBy 73 = .ok (.if_icmp .ge 75, 3) := by decide +kernel
theorem dX11_mendsBy_76 : decode cX11_mendsBy 76 = .ok (.iload_n 1, 1) := by decide +kernel
theorem dX11_mendsBy_77 : decode cX11_mendsBy 77 = .ok (.ifCond .le 9, 3) := by decide +kernel
theorem dX11_mendsBy_80 : decode cX11_mendsBy 80 = .ok (.iconst 1, 1) := by decide +kernel
theorem dX11_mendsBy_81 : decode cX11_mendsBy 81 = .ok (.iload_n 3, 1) := by decide +kernel
theorem dX11_mendsBy_82 : decode cX11_mendsBy 82 = .ok (.ishl, 1) := by decide +kernel
theorem dX11_mendsBy_83 : decode cX11_mendsBy 83 = .ok (.goto 4, 3) := by decide +kernel
theorem dX11_mendsBy_86 : decode cX11_mendsBy 86 = .ok (.iconst 0, 1) := by decide +kernel
theorem dX11_mendsBy_87 : decode cX11_mendsBy 87 = .ok (.istore 6, 2) := by decide +kernel
theorem dX11_mendsBy_89 : decode cX11_mendsBy 89 = .ok (.iload 6, 2) := by decide +kernel
theorem dX11_mendsBy_91 : decode cX11_mendsBy 91 = .ok (.iload_n 1, 1) := by decide +kernel
theorem dX11_mendsBy_92 : decode cX11_mendsBy 92 = .ok (.iconst 1, 1) := by decide +kernel
theorem dX11_mendsBy_93 : decode cX11_mendsBy 93 = .ok (.if_icmp .le 10, 3) := by decide +kernel
theorem dX11_mendsBy_96 : decode cX11_mendsBy 96 = .ok (.iconst 1, 1) := by decide +kernel
theorem dX11_mendsBy_97 : decode cX11_mendsBy 97 = .ok (.iload 4, 2) := by decide +kernel
theorem dX11_mendsBy_99 : decode cX11_mendsBy 99 = .ok (.ishl, 1) := by decide +kernel
theorem dX11_mendsBy_100 : decode cX11_mendsBy 100 = .ok (.goto 4, 3) := by decide +kernel
theorem dX11_mendsBy_103 : decode cX11_mendsBy 103 = .ok (.iconst 0, 1) := by decide +kernel
theorem dX11_mendsBy_104 : decode cX11_mendsBy 104 = .ok (.ior, 1) := by decide +kernel
theorem dX11_mendsBy_105 : decode cX11_mendsBy 105 = .ok (.istore 6, 2) := by decide +kernel
theorem dX11_mendsBy_107 : decode cX11_mendsBy 107 = .ok (.iload 6, 2) := by decide +kernel
theorem dX11_mendsBy_109 : decode cX11_mendsBy 109 = .ok (.iload_n 1, 1) := by decide +kernel
theorem dX11_mendsBy_110 : decode cX11_mendsBy 110 = .ok (.iconst 2, 1) := by decide +kernel
theorem dX11_mendsBy_111 : decode cX11_mendsBy 111 = .ok (.if_icmp .le 10, 3) := by decide +kernel
theorem dX11_mendsBy_114 : decode cX11_mendsBy 114 = .ok (.iconst 1, 1) := by decide +kernel
theorem dX11_mendsBy_115 : decode cX11_mendsBy 115 = .ok (.iload 5, 2) := by decide +kernel
theorem dX11_mendsBy_117 : decode cX11_mendsBy 117 = .ok (.ishl, 1) := by decide +kernel
theorem dX11_mendsBy_118 : decode cX11_mendsBy 118 = .ok (.goto 4, 3) := by decide +kernel
theorem dX11_mendsBy_121 : decode cX11_mendsBy 121 = .ok (.iconst 0, 1) := by decide +kernel
theorem dX11_mendsBy_122 : decode cX11_mendsBy 122 = .ok (.ior, 1) := by decide +kernel
theorem dX11_mendsBy_123 : decode cX11_mendsBy 123 = .ok (.istore 6, 2) := by decide +kernel
theorem dX11_mendsBy_125 : decode cX11_mendsBy 125 = .ok (.aload_n 0, 1) := by decide +kernel
theorem dX11_mendsBy_126 : decode cX11_mendsBy 126 = .ok (.iload 6, 2) := by decide +kernel
theorem dX11_mendsBy_128 : decode cX11_mendsBy 128 = .ok (.invokevirtual 490, 3) := by decide +kernel
theorem dX11_mendsBy_131 : decode cX11_mendsBy 131 = .ok (.ifCond .eq 11, 3) := by decide +kernel
theorem dX11_mendsBy_134 : decode cX11_mendsBy 134 = .ok (.aload_n 0, 1) := by decide +kernel
theorem dX11_mendsBy_135 : decode cX11_mendsBy 135 = .ok (.iload 6, 2) := by decide +kernel
theorem dX11_mendsBy_137 : decode cX11_mendsBy 137 = .ok (.invokevirtual 493, 3) := by decide +kernel
theorem dX11_mendsBy_140 : decode cX11_mendsBy 140 = .ok (.iconst 1, 1) := by decide +kernel
theorem dX11_mendsBy_141 : decode cX11_mendsBy 141 = .ok (.ireturn, 1) := by decide +kernel
theorem dX11_mendsBy_142 : decode cX11_mendsBy 142 = .ok (.iinc 5 1, 3) := by decide +kernel
theorem dX11_mendsBy_145 : decode cX11_mendsBy 145 = .ok (.goto (-87), 3) := by decide +kernel
theorem dX11_mendsBy_148 : decode cX11_mendsBy 148 = .ok (.iinc 4 1, 3) := by decide +kernel
theorem dX11_mendsBy_151 : decode cX11_mendsBy 151 = .ok (.goto (-116), 3) := by decide +kernel
theorem dX11_mendsBy_154 : decode cX11_mendsBy 154 = .ok (.iinc 3 1, 3) := by decide +kernel
theorem dX11_mendsBy_157 : decode cX11_mendsBy 157 = .ok (.goto (-140), 3) := by decide +kernel
theorem dX11_mendsBy_160 : decode cX11_mendsBy 160 = .ok (.iconst 0, 1) := by decide +kernel
theorem dX11_mendsBy_161 : decode cX11_mendsBy 161 = .ok (.ireturn, 1) := by decide +kernel
theorem dX11_isSoundWithout_0 : decode cX11_isSoundWithout 0 = .ok (.aload_n 0, 1) := by decide +kernel
theorem dX11_isSoundWithout_1 : decode cX11_isSoundWithout 1 = .ok (.getfield 37, 3) := by decide +kernel
theorem dX11_isSoundWithout_4 : decode cX11_isSoundWithout 4 = .ok (.aload_n 0, 1) := by decide +kernel
theorem dX11_isSoundWithout_5 : decode cX11_isSoundWithout 5 = .ok (.getfield 33, 3) := by decide +kernel
theorem dX11_isSoundWithout_8 : decode cX11_isSoundWithout 8 = .ok (.iload_n 1, 1) := by decide +kernel
theorem dX11_isSoundWithout_9 : decode cX11_isSoundWithout 9 = .ok (.invokevirtual 496, 3) := by decide +kernel
theorem dX11_isSoundWithout_12 : decode cX11_isSoundWithout 12 = .ok (.aload_n 0, 1) := by decide +kernel
theorem dX11_isSoundWithout_13 : decode cX11_isSoundWithout 13 = .ok (.getfield 49, 3) := by decide +kernel
theorem dX11_isSoundWithout_16 : decode cX11_isSoundWithout 16 = .ok (.invokevirtual 162, 3) := by decide +kernel
theorem dX11_isSoundWithout_19 : decode cX11_isSoundWithout 19 = .ok (.aload_n 0, 1) := by decide +kernel
theorem dX11_isSoundWithout_20 : decode cX11_isSoundWithout 20 = .ok (.getfield 49, 3) := by decide +kernel
theorem dX11_isSoundWithout_23 : decode cX11_isSoundWithout 23 = .ok (.getfield 254, 3) := by decide +kernel
theorem dX11_isSoundWithout_26 : decode cX11_isSoundWithout 26 = .ok (.invokevirtual 500, 3) := by decide +kernel
theorem dX11_isSoundWithout_29 : decode cX11_isSoundWithout 29 = .ok (.ifCond .ne 5, 3) := by decide +kernel
theorem dX11_isSoundWithout_32 : decode cX11_isSoundWithout 32 = .ok (.iconst 0, 1) := by decide +kernel
theorem dX11_isSoundWithout_33 : decode cX11_isSoundWithout 33 = .ok (.ireturn, 1) := by decide +kernel
theorem dX11_isSoundWithout_34 : decode cX11_isSoundWithout 34 = .ok (.iconst 0, 1) := by decide +kernel
theorem dX11_isSoundWithout_35 : decode cX11_isSoundWithout 35 = .ok (.istore_n 2, 1) := by decide +kernel
theorem dX11_isSoundWithout_36 : decode cX11_isSoundWithout 36 = .ok (.iload_n 2, 1) := by decide +kernel
theorem dX11_isSoundWithout_37 : decode cX11_isSoundWithout 37 = .ok (.aload_n 0, 1) := by decide +kernel
theorem dX11_isSoundWithout_38 : decode cX11_isSoundWithout 38 = .ok (.getfield 37, 3) := by decide +kernel
theorem dX11_isSoundWithout_41 : decode cX11_isSoundWithout 41 = .ok (.getfield 143, 3) := by decide +kernel
theorem dX11_isSoundWithout_44 : decode cX11_isSoundWithout 44 = .ok (.if_icmp .ge 22, 3) := by decide +kernel
theorem dX11_isSoundWithout_47 : decode cX11_isSoundWithout 47 = .ok (.aload_n 0, 1) := by decide +kernel
theorem dX11_isSoundWithout_48 : decode cX11_isSoundWithout 48 = .ok (.getfield 49, 3) := by decide +kernel
theorem dX11_isSoundWithout_51 : decode cX11_isSoundWithout 51 = .ok (.iload_n 2, 1) := by decide +kernel
theorem dX11_isSoundWithout_52 : decode cX11_isSoundWithout 52 = .ok (.invokevirtual 226, 3) := by decide +kernel
theorem dX11_isSoundWithout_55 : decode cX11_isSoundWithout 55 = .ok (.ifCond .eq 5, 3) := by decide +kernel
theorem dX11_isSoundWithout_58 : decode cX11_isSoundWithout 58 = .ok (.iconst 0, 1) := by decide +kernel
theorem dX11_isSoundWithout_59 : decode cX11_isSoundWithout 59 = .ok (.ireturn, 1) := by decide +kernel
theorem dX11_isSoundWithout_60 : decode cX11_isSoundWithout 60 = .ok (.iinc 2 1, 3) := by decide +kernel
theorem dX11_isSoundWithout_63 : decode cX11_isSoundWithout 63 = .ok (.goto (-27), 3) := by decide +kernel
theorem dX11_isSoundWithout_66 : decode cX11_isSoundWithout 66 = .ok (.iconst 1, 1) := by decide +kernel
theorem dX11_isSoundWithout_67 : decode cX11_isSoundWithout 67 = .ok (.ireturn, 1) := by decide +kernel
theorem dX11_tellBits_0 : decode cX11_tellBits 0 = .ok (.aload_n 0, 1) := by decide +kernel
theorem dX11_tellBits_1 : decode cX11_tellBits 1 = .ok (.getfield 19, 3) := by decide +kernel
theorem dX11_tellBits_4 : decode cX11_tellBits 4 = .ok (.invokevirtual 344, 3) := by decide +kernel
theorem dX11_tellBits_7 : decode cX11_tellBits 7 = .ok (.iconst 0, 1) := by decide +kernel
theorem dX11_tellBits_8 : decode cX11_tellBits 8 = .ok (.istore_n 2, 1) := by decide +kernel
theorem dX11_tellBits_9 : decode cX11_tellBits 9 = .ok (.iload_n 2, 1) := by decide +kernel
theorem dX11_tellBits_10 : decode cX11_tellBits 10 = .ok (.bipush 12, 2) := by decide +kernel
theorem dX11_tellBits_12 : decode cX11_tellBits 12 = .ok (.if_icmp .ge 26, 3) := by decide +kernel
theorem dX11_tellBits_15 : decode cX11_tellBits 15 = .ok (.iload_n 1, 1) := by decide +kernel
theorem dX11_tellBits_16 : decode cX11_tellBits 16 = .ok (.iload_n 2, 1) := by decide +kernel
theorem dX11_tellBits_17 : decode cX11_tellBits 17 = .ok (.ishr, 1) := by decide +kernel
theorem dX11_tellBits_18 : decode cX11_tellBits 18 = .ok (.iconst 1, 1) := by decide +kernel
theorem dX11_tellBits_19 : decode cX11_tellBits 19 = .ok (.iand, 1) := by decide +kernel
theorem dX11_tellBits_20 : decode cX11_tellBits 20 = .ok (.ifCond .eq 12, 3) := by decide +kernel
theorem dX11_tellBits_23 : decode cX11_tellBits 23 = .ok (.aload_n 0, 1) := by decide +kernel
theorem dX11_tellBits_24 : decode cX11_tellBits 24 = .ok (.getfield 19, 3) := by decide +kernel
theorem dX11_tellBits_27 : decode cX11_tellBits 27 = .ok (.iload_n 2, 1) := by decide +kernel
theorem dX11_tellBits_28 : decode cX11_tellBits 28 = .ok (.i2l, 1) := by decide +kernel
theorem dX11_tellBits_29 : decode cX11_tellBits 29 = .ok (.invokevirtual 353, 3) := by decide +kernel
theorem dX11_tellBits_32 : decode cX11_tellBits 32 = .ok (.iinc 2 1, 3) := by decide +kernel
theorem dX11_tellBits_35 : decode cX11_tellBits 35 = .ok (.goto (-26), 3) := by decide +kernel
theorem dX11_tellBits_38 : decode cX11_tellBits 38 = .ok (.return_, 1) := by decide +kernel
theorem dX11_greatestCommon_0 : decode cX11_greatestCommon 0 = .ok (.lload_n 0, 1) := by decide +kernel
theorem dX11_greatestCommon_1 : decode cX11_greatestCommon 1 = .ok (.lstore 4, 2) := by decide +kernel
theorem dX11_greatestCommon_3 : decode cX11_greatestCommon 3 = .ok (.lload_n 2, 1) := by decide +kernel
theorem dX11_greatestCommon_4 : decode cX11_greatestCommon 4 = .ok (.lstore 6, 2) := by decide +kernel
theorem dX11_greatestCommon_6 : decode cX11_greatestCommon 6 = .ok (.iconst 0, 1) := by decide +kernel
theorem dX11_greatestCommon_7 : decode cX11_greatestCommon 7 = .ok (.istore 8, 2) := by decide +kernel
theorem dX11_greatestCommon_9 : decode cX11_greatestCommon 9 = .ok (.iload 8, 2) := by decide +kernel
theorem dX11_greatestCommon_11 : decode cX11_greatestCommon 11 = .ok (.sipush 200, 3) := by decide +kernel
theorem dX11_greatestCommon_14 : decode cX11_greatestCommon 14 = .ok (.if_icmp .ge 31, 3) := by decide +kernel
theorem dX11_greatestCommon_17 : decode cX11_greatestCommon 17 = .ok (.lload 6, 2) := by decide +kernel
theorem dX11_greatestCommon_19 : decode cX11_greatestCommon 19 = .ok (.lconst 0, 1) := by decide +kernel
theorem dX11_greatestCommon_20 : decode cX11_greatestCommon 20 = .ok (.lcmp, 1) := by decide +kernel
theorem dX11_greatestCommon_21 : decode cX11_greatestCommon 21 = .ok (.ifCond .eq 24, 3) := by decide +kernel
theorem dX11_greatestCommon_24 : decode cX11_greatestCommon 24 = .ok (.lload 4, 2) := by decide +kernel
theorem dX11_greatestCommon_26 : decode cX11_greatestCommon 26 = .ok (.lload 6, 2) := by decide +kernel
theorem dX11_greatestCommon_28 : decode cX11_greatestCommon 28 = .ok (.lrem, 1) := by decide +kernel
theorem dX11_greatestCommon_29 : decode cX11_greatestCommon 29 = .ok (.lstore 9, 2) := by decide +kernel
theorem dX11_greatestCommon_31 : decode cX11_greatestCommon 31 = .ok (.lload 6, 2) := by decide +kernel
theorem dX11_greatestCommon_33 : decode cX11_greatestCommon 33 = .ok (.lstore 4, 2) := by decide +kernel
theorem dX11_greatestCommon_35 : decode cX11_greatestCommon 35 = .ok (.lload 9, 2) := by decide +kernel
theorem dX11_greatestCommon_37 : decode cX11_greatestCommon 37 = .ok (.lstore 6, 2) := by decide +kernel
theorem dX11_greatestCommon_39 : decode cX11_greatestCommon 39 = .ok (.iinc 8 1, 3) := by decide +kernel
theorem dX11_greatestCommon_42 : decode cX11_greatestCommon 42 = .ok (.goto (-33), 3) := by decide +kernel
theorem dX11_greatestCommon_45 : decode cX11_greatestCommon 45 = .ok (.lload 4, 2) := by decide +kernel
theorem dX11_greatestCommon_47 : decode cX11_greatestCommon 47 = .ok (.lconst 0, 1) := by decide +kernel
theorem dX11_greatestCommon_48 : decode cX11_greatestCommon 48 = .ok (.lcmp, 1) := by decide +kernel
theorem dX11_greatestCommon_49 : decode cX11_greatestCommon 49 = .ok (.ifCond .ne 7, 3) := by decide +kernel
theorem dX11_greatestCommon_52 : decode cX11_greatestCommon 52 = .ok (.lconst 1, 1) := by decide +kernel
theorem dX11_greatestCommon_53 : decode cX11_greatestCommon 53 = .ok (.goto 5, 3) := by decide +kernel
theorem dX11_greatestCommon_56 : decode cX11_greatestCommon 56 = .ok (.lload 4, 2) := by decide +kernel
theorem dX11_greatestCommon_58 : decode cX11_greatestCommon 58 = .ok (.lreturn, 1) := by decide +kernel
theorem dX12_init_0 : decode cX12_init 0 = .ok (.aload_n 0, 1) := by decide +kernel
theorem dX12_init_1 : decode cX12_init 1 = .ok (.invokespecial 3, 3) := by decide +kernel
theorem dX12_init_4 : decode cX12_init 4 = .ok (.aload_n 0, 1) := by decide +kernel
theorem dX12_init_5 : decode cX12_init 5 = .ok (.bipush 24, 2) := by decide +kernel
theorem dX12_init_7 : decode cX12_init 7 = .ok (.newarray .long, 2) := by decide +kernel
theorem dX12_init_9 : decode cX12_init 9 = .ok (.putfield 9, 3) := by decide +kernel
theorem dX12_init_12 : decode cX12_init 12 = .ok (.aload_n 0, 1) := by decide +kernel
theorem dX12_init_13 : decode cX12_init 13 = .ok (.bipush 60, 2) := by decide +kernel
theorem dX12_init_15 : decode cX12_init 15 = .ok (.putfield 13, 3) := by decide +kernel
theorem dX12_init_18 : decode cX12_init 18 = .ok (.aload_n 0, 1) := by decide +kernel
theorem dX12_init_19 : decode cX12_init 19 = .ok (.bipush 6, 2) := by decide +kernel
theorem dX12_init_21 : decode cX12_init 21 = .ok (.newarray .boolean, 2) := by decide +kernel
theorem dX12_init_23 : decode cX12_init 23 = .ok (.putfield 17, 3) := by decide +kernel
theorem dX12_init_26 : decode cX12_init 26 = .ok (.aload_n 0, 1) := by decide +kernel
theorem dX12_init_27 : decode cX12_init 27 = .ok (.bipush 48, 2) := by decide +kernel
theorem dX12_init_29 : decode cX12_init 29 = .ok (.newarray .int, 2) := by decide +kernel
theorem dX12_init_31 : decode cX12_init 31 = .ok (.putfield 21, 3) := by decide +kernel
theorem dX12_init_34 : decode cX12_init 34 = .ok (.aload_n 0, 1) := by decide +kernel
theorem dX12_init_35 : decode cX12_init 35 = .ok (.bipush 8, 2) := by decide +kernel
theorem dX12_init_37 : decode cX12_init 37 = .ok (.newarray .int, 2) := by decide +kernel
theorem dX12_init_39 : decode cX12_init 39 = .ok (.putfield 25, 3) := by decide +kernel
theorem dX12_init_42 : decode cX12_init 42 = .ok (.aload_n 0, 1) := by decide +kernel
theorem dX12_init_43 : decode cX12_init 43 = .ok (.bipush 8, 2) := by decide +kernel
theorem dX12_init_45 : decode cX12_init 45 = .ok (.newarray .int, 2) := by decide +kernel
theorem dX12_init_47 : decode cX12_init 47 = .ok (.putfield 28, 3) := by decide +kernel
theorem dX12_init_50 : decode cX12_init 50 = .ok (.aload_n 0, 1) := by decide +kernel
theorem dX12_init_51 : decode cX12_init 51 = .ok (.bipush 8, 2) := by decide +kernel
theorem dX12_init_53 : decode cX12_init 53 = .ok (.newarray .int, 2) := by decide +kernel
theorem dX12_init_55 : decode cX12_init 55 = .ok (.putfield 31, 3) := by decide +kernel
theorem dX12_init_58 : decode cX12_init 58 = .ok (.aload_n 0, 1) := by decide +kernel
theorem dX12_init_59 : decode cX12_init 59 = .ok (.bipush 8, 2) := by decide +kernel
theorem dX12_init_61 : decode cX12_init 61 = .ok (.newarray .int, 2) := by decide +kernel
theorem dX12_init_63 : decode cX12_init 63 = .ok (.putfield 34, 3) := by decide +kernel
theorem dX12_init_66 : decode cX12_init 66 = .ok (.aload_n 0, 1) := by decide +kernel
theorem dX12_init_67 : decode cX12_init 67 = .ok (.bipush 8, 2) := by decide +kernel
theorem dX12_init_69 : decode cX12_init 69 = .ok (.newarray .int, 2) := by decide +kernel
theorem dX12_init_71 : decode cX12_init 71 = .ok (.putfield 37, 3) := by decide +kernel
theorem dX12_init_74 : decode cX12_init 74 = .ok (.aload_n 0, 1) := by decide +kernel
theorem dX12_init_75 : decode cX12_init 75 = .ok (.bipush 8, 2) := by decide +kernel
theorem dX12_init_77 : decode cX12_init 77 = .ok (.newarray .boolean, 2) := by decide +kernel
theorem dX12_init_79 : decode cX12_init 79 = .ok (.putfield 40, 3) := by decide +kernel
theorem dX12_init_82 : decode cX12_init 82 = .ok (.aload_n 0, 1) := by decide +kernel
theorem dX12_init_83 : decode cX12_init 83 = .ok (.bipush 46, 2) := by decide +kernel
theorem dX12_init_85 : decode cX12_init 85 = .ok (.newarray .int, 2) := by decide +kernel
theorem dX12_init_87 : decode cX12_init 87 = .ok (.putfield 43, 3) := by decide +kernel
theorem dX12_init_90 : decode cX12_init 90 = .ok (.aload_n 0, 1) := by decide +kernel
theorem dX12_init_91 : decode cX12_init 91 = .ok (.bipush 46, 2) := by decide +kernel
theorem dX12_init_93 : decode cX12_init 93 = .ok (.newarray .int, 2) := by decide +kernel
theorem dX12_init_95 : decode cX12_init 95 = .ok (.putfield 46, 3) := by decide +kernel
theorem dX12_init_98 : decode cX12_init 98 = .ok (.aload_n 0, 1) := by decide +kernel
theorem dX12_init_99 : decode cX12_init 99 = .ok (.bipush 80, 2) := by decide +kernel
theorem dX12_init_101 : decode cX12_init 101 = .ok (.newarray .int, 2) := by decide +kernel
theorem dX12_init_103 : decode cX12_init 103 = .ok (.putfield 49, 3) := by decide +kernel
theorem dX12_init_106 : decode cX12_init 106 = .ok (.aload_n 0, 1) := by decide +kernel
theorem dX12_init_107 : decode cX12_init 107 = .ok (.bipush 6, 2) := by decide +kernel
theorem dX12_init_109 : decode cX12_init 109 = .ok (.newarray .boolean, 2) := by decide +kernel
theorem dX12_init_111 : decode cX12_init 111 = .ok (.putfield 52, 3) := by decide +kernel
theorem dX12_init_114 : decode cX12_init 114 = .ok (.aload_n 0, 1) := by decide +kernel
theorem dX12_init_115 : decode cX12_init 115 = .ok (.bipush 48, 2) := by decide +kernel
theorem dX12_init_117 : decode cX12_init 117 = .ok (.newarray .int, 2) := by decide +kernel
theorem dX12_init_119 : decode cX12_init 119 = .ok (.putfield 55, 3) := by decide +kernel
theorem dX12_init_122 : decode cX12_init 122 = .ok (.aload_n 0, 1) := by decide +kernel
theorem dX12_init_123 : decode cX12_init 123 = .ok (.bipush 8, 2) := by decide +kernel
theorem dX12_init_125 : decode cX12_init 125 = .ok (.newarray .int, 2) := by decide +kernel
theorem dX12_init_127 : decode cX12_init 127 = .ok (.putfield 58, 3) := by decide +kernel
theorem dX12_init_130 : decode cX12_init 130 = .ok (.aload_n 0, 1) := by decide +kernel
theorem dX12_init_131 : decode cX12_init 131 = .ok (.bipush 80, 2) := by decide +kernel
theorem dX12_init_133 : decode cX12_init 133 = .ok (.newarray .int, 2) := by decide +kernel
theorem dX12_init_135 : decode cX12_init 135 = .ok (.putfield 61, 3) := by decide +kernel
theorem dX12_init_138 : decode cX12_init 138 = .ok (.aload_n 0, 1) := by decide +kernel
theorem dX12_init_139 : decode cX12_init 139 = .ok (.bipush 80, 2) := by decide +kernel
theorem dX12_init_141 : decode cX12_init 141 = .ok (.newarray .int, 2) := by decide +kernel
theorem dX12_init_143 : decode cX12_init 143 = .ok (.putfield 64, 3) := by decide +kernel
theorem dX12_init_146 : decode cX12_init 146 = .ok (.aload_n 0, 1) := by decide +kernel
theorem dX12_init_147 : decode cX12_init 147 = .ok (.bipush 80, 2) := by decide +kernel
theorem dX12_init_149 : decode cX12_init 149 = .ok (.newarray .int, 2) := by decide +kernel
theorem dX12_init_151 : decode cX12_init 151 = .ok (.putfield 67, 3) := by decide +kernel
theorem dX12_init_154 : decode cX12_init 154 = .ok (.aload_n 0, 1) := by decide +kernel
theorem dX12_init_155 : decode cX12_init 155 = .ok (.bipush 46, 2) := by decide +kernel
theorem dX12_init_157 : decode cX12_init 157 = .ok (.newarray .int, 2) := by decide +kernel
theorem dX12_init_159 : decode cX12_init 159 = .ok (.putfield 70, 3) := by decide +kernel
theorem dX12_init_162 : decode cX12_init 162 = .ok (.aload_n 0, 1) := by decide +kernel
theorem dX12_init_163 : decode cX12_init 163 = .ok (.sipush 736, 3) := by decide +kernel
theorem dX12_init_166 : decode cX12_init 166 = .ok (.newarray .int, 2) := by decide +kernel
theorem dX12_init_168 : decode cX12_init 168 = .ok (.putfield 73, 3) := by decide +kernel
theorem dX12_init_171 : decode cX12_init 171 = .ok (.aload_n 0, 1) := by decide +kernel
theorem dX12_init_172 : decode cX12_init 172 = .ok (.bipush 60, 2) := by decide +kernel
theorem dX12_init_174 : decode cX12_init 174 = .ok (.newarray .int, 2) := by decide +kernel
theorem dX12_init_176 : decode cX12_init 176 = .ok (.putfield 76, 3) := by decide +kernel
theorem dX12_init_179 : decode cX12_init 179 = .ok (.aload_n 0, 1) := by decide +kernel
theorem dX12_init_180 : decode cX12_init 180 = .ok (.bipush 60, 2) := by decide +kernel
theorem dX12_init_182 : decode cX12_init 182 = .ok (.newarray .int, 2) := by decide +kernel
theorem dX12_init_184 : decode cX12_init 184 = .ok (.putfield 79, 3) := by decide +kernel
theorem dX12_init_187 : decode cX12_init 187 = .ok (.aload_n 0, 1) := by decide +kernel
theorem dX12_init_188 : decode cX12_init 188 = .ok (.bipush 60, 2) := by decide +kernel
theorem dX12_init_190 : decode cX12_init 190 = .ok (.newarray .int, 2) := by decide +kernel
theorem dX12_init_192 : decode cX12_init 192 = .ok (.putfield 82, 3) := by decide +kernel
theorem dX12_init_195 : decode cX12_init 195 = .ok (.aload_n 0, 1) := by decide +kernel
theorem dX12_init_196 : decode cX12_init 196 = .ok (.bipush 60, 2) := by decide +kernel
theorem dX12_init_198 : decode cX12_init 198 = .ok (.newarray .int, 2) := by decide +kernel
theorem dX12_init_200 : decode cX12_init 200 = .ok (.putfield 85, 3) := by decide +kernel
theorem dX12_init_203 : decode cX12_init 203 = .ok (.aload_n 0, 1) := by decide +kernel
theorem dX12_init_204 : decode cX12_init 204 = .ok (.bipush 6, 2) := by decide +kernel
theorem dX12_init_206 : decode cX12_init 206 = .ok (.newarray .int, 2) := by decide +kernel
theorem dX12_init_208 : decode cX12_init 208 = .ok (.putfield 88, 3) := by decide +kernel
theorem dX12_init_211 : decode cX12_init 211 = .ok (.aload_n 0, 1) := by decide +kernel
theorem dX12_init_212 : decode cX12_init 212 = .ok (.bipush 6, 2) := by decide +kernel
theorem dX12_init_214 : decode cX12_init 214 = .ok (.newarray .int, 2) := by decide +kernel
theorem dX12_init_216 : decode cX12_init 216 = .ok (.putfield 91, 3) := by decide +kernel
theorem dX12_init_219 : decode cX12_init 219 = .ok (.aload_n 0, 1) := by decide +kernel
theorem dX12_init_220 : decode cX12_init 220 = .ok (.iconst 3, 1) := by decide +kernel
theorem dX12_init_221 : decode cX12_init 221 = .ok (.newarray .int, 2) := by decide +kernel
theorem dX12_init_223 : decode cX12_init 223 = .ok (.putfield 94, 3) := by decide +kernel
theorem dX12_init_226 : decode cX12_init 226 = .ok (.aload_n 0, 1) := by decide +kernel
theorem dX12_init_227 : decode cX12_init 227 = .ok (.bipush 6, 2) := by decide +kernel
theorem dX12_init_229 : decode cX12_init 229 = .ok (.newarray .int, 2) := by decide +kernel
theorem dX12_init_231 : decode cX12_init 231 = .ok (.putfield 97, 3) := by decide +kernel
theorem dX12_init_234 : decode cX12_init 234 = .ok (.aload_n 0, 1) := by decide +kernel
theorem dX12_init_235 : decode cX12_init 235 = .ok (.bipush 6, 2) := by decide +kernel
theorem dX12_init_237 : decode cX12_init 237 = .ok (.newarray .int, 2) := by decide +kernel
theorem dX12_init_239 : decode cX12_init 239 = .ok (.putfield 100, 3) := by decide +kernel
theorem dX12_init_242 : decode cX12_init 242 = .ok (.aload_n 0, 1) := by decide +kernel
theorem dX12_init_243 : decode cX12_init 243 = .ok (.bipush 8, 2) := by decide +kernel
theorem dX12_init_245 : decode cX12_init 245 = .ok (.newarray .int, 2) := by decide +kernel
theorem dX12_init_247 : decode cX12_init 247 = .ok (.putfield 103, 3) := by decide +kernel
theorem dX12_init_250 : decode cX12_init 250 = .ok (.aload_n 0, 1) := by decide +kernel
theorem dX12_init_251 : decode cX12_init 251 = .ok (.bipush 8, 2) := by decide +kernel
theorem dX12_init_253 : decode cX12_init 253 = .ok (.newarray .int, 2) := by decide +kernel
theorem dX12_init_255 : decode cX12_init 255 = .ok (.putfield 106, 3) := by decide +kernel
theorem dX12_init_258 : decode cX12_init 258 = .ok (.aload_n 0, 1) := by decide +kernel
theorem dX12_init_259 : decode cX12_init 259 = .ok (.bipush 8, 2) := by decide +kernel
theorem dX12_init_261 : decode cX12_init 261 = .ok (.newarray .int, 2) := by decide +kernel
theorem dX12_init_263 : decode cX12_init 263 = .ok (.putfield 109, 3) := by decide +kernel
theorem dX12_init_266 : decode cX12_init 266 = .ok (.aload_n 0, 1) := by decide +kernel
theorem dX12_init_267 : decode cX12_init 267 = .ok (.bipush 12, 2) := by decide +kernel
theorem dX12_init_269 : decode cX12_init 269 = .ok (.newarray .int, 2) := by decide +kernel
theorem dX12_init_271 : decode cX12_init 271 = .ok (.putfield 112, 3) := by decide +kernel
theorem dX12_init_274 : decode cX12_init 274 = .ok (.aload_n 0, 1) := by decide +kernel
theorem dX12_init_275 : decode cX12_init 275 = .ok (.bipush 12, 2) := by decide +kernel
theorem dX12_init_277 : decode cX12_init 277 = .ok (.newarray .int, 2) := by decide +kernel
theorem dX12_init_279 : decode cX12_init 279 = .ok (.putfield 115, 3) := by decide +kernel
theorem dX12_init_282 : decode cX12_init 282 = .ok (.aload_n 0, 1) := by decide +kernel
theorem dX12_init_283 : decode cX12_init 283 = .ok (.bipush 12, 2) := by decide +kernel
theorem dX12_init_285 : decode cX12_init 285 = .ok (.newarray .int, 2) := by decide +kernel
theorem dX12_init_287 : decode cX12_init 287 = .ok (.putfield 118, 3) := by decide +kernel
theorem dX12_init_290 : decode cX12_init 290 = .ok (.aload_n 0, 1) := by decide +kernel
theorem dX12_init_291 : decode cX12_init 291 = .ok (.bipush 12, 2) := by decide +kernel
theorem dX12_init_293 : decode cX12_init 293 = .ok (.newarray .int, 2) := by decide +kernel
theorem dX12_init_295 : decode cX12_init 295 = .ok (.putfield 121, 3) := by decide +kernel
theorem dX12_init_298 : decode cX12_init 298 = .ok (.aload_n 0, 1) := by decide +kernel
theorem dX12_init_299 : decode cX12_init 299 = .ok (.iconst 3, 1) := by decide +kernel
theorem dX12_init_300 : decode cX12_init 300 = .ok (.newarray .boolean, 2) := by decide +kernel
theorem dX12_init_302 : decode cX12_init 302 = .ok (.putfield 124, 3) := by decide +kernel
theorem dX12_init_305 : decode cX12_init 305 = .ok (.aload_n 0, 1) := by decide +kernel
theorem dX12_init_306 : decode cX12_init 306 = .ok (.iconst 3, 1) := by decide +kernel
theorem dX12_init_307 : decode cX12_init 307 = .ok (.newarray .int, 2) := by decide +kernel
theorem dX12_init_309 : decode cX12_init 309 = .ok (.putfield 127, 3) := by decide +kernel
theorem dX12_init_312 : decode cX12_init 312 = .ok (.aload_n 0, 1) := by decide +kernel
theorem dX12_init_313 : decode cX12_init 313 = .ok (.sipush 138, 3) := by decide +kernel
theorem dX12_init_316 : decode cX12_init 316 = .ok (.newarray .int, 2) := by decide +kernel
theorem dX12_init_318 : decode cX12_init 318 = .ok (.putfield 130, 3) := by decide +kernel
theorem dX12_init_321 : decode cX12_init 321 = .ok (.return_, 1) := by decide +kernel
theorem dX12_thrown_0 : decode cX12_thrown 0 = .ok (.aload_n 0, 1) := by decide +kernel
theorem dX12_thrown_1 : decode cX12_thrown 1 = .ok (.getfield 133, 3) := by decide +kernel
theorem dX12_thrown_4 : decode cX12_thrown 4 = .ok (.ireturn, 1) := by decide +kernel
theorem dX12_refuse_0 : decode cX12_refuse 0 = .ok (.aload_n 0, 1) := by decide +kernel
theorem dX12_refuse_1 : decode cX12_refuse 1 = .ok (.iconst 1, 1) := by decide +kernel
theorem dX12_refuse_2 : decode cX12_refuse 2 = .ok (.putfield 133, 3) := by decide +kernel
theorem dX12_refuse_5 : decode cX12_refuse 5 = .ok (.iconst 0, 1) := by decide +kernel
theorem dX12_refuse_6 : decode cX12_refuse 6 = .ok (.ireturn, 1) := by decide +kernel
theorem dX12_in_0 : decode cX12_in 0 = .ok (.lload_n 0, 1) := by decide +kernel
theorem dX12_in_1 : decode cX12_in 1 = .ok (.lload_n 2, 1) := by decide +kernel
theorem dX12_in_2 : decode cX12_in 2 = .ok (.lcmp, 1) := by decide +kernel
theorem dX12_in_3 : decode cX12_in 3 = .ok (.ifCond .lt 14, 3) := by decide +kernel
theorem dX12_in_6 : decode cX12_in 6 = .ok (.lload_n 0, 1) := by decide +kernel
theorem dX12_in_7 : decode cX12_in 7 = .ok (.lload 4, 2) := by decide +kernel
theorem dX12_in_9 : decode cX12_in 9 = .ok (.lcmp, 1) := by decide +kernel
theorem dX12_in_10 : decode cX12_in 10 = .ok (.ifCond .gt 7, 3) := by decide +kernel
theorem dX12_in_13 : decode cX12_in 13 = .ok (.iconst 1, 1) := by decide +kernel
theorem dX12_in_14 : decode cX12_in 14 = .ok (.goto 4, 3) := by decide +kernel
theorem dX12_in_17 : decode cX12_in 17 = .ok (.iconst 0, 1) := by decide +kernel
theorem dX12_in_18 : decode cX12_in 18 = .ok (.ireturn, 1) := by decide +kernel
theorem dX12_has_0 : decode cX12_has 0 = .ok (.iload_n 0, 1) := by decide +kernel
theorem dX12_has_1 : decode cX12_has 1 = .ok (.iload_n 1, 1) := by decide +kernel
theorem dX12_has_2 : decode cX12_has 2 = .ok (.ishr, 1) := by decide +kernel
theorem dX12_has_3 : decode cX12_has 3 = .ok (.iconst 1, 1) := by decide +kernel
theorem dX12_has_4 : decode cX12_has 4 = .ok (.iand, 1) := by decide +kernel
theorem dX12_has_5 : decode cX12_has 5 = .ok (.iconst 1, 1) := by decide +kernel
theorem dX12_has_6 : decode cX12_has 6 = .ok (.if_icmp .ne 7, 3) := by decide +kernel
theorem dX12_has_9 : decode cX12_has 9 = .ok (.iconst 1, 1) := by decide +kernel
theorem dX12_has_10 : decode cX12_has 10 = .ok (.goto 4, 3) := by decide +kernel
theorem dX12_has_13 : decode cX12_has 13 = .ok (.iconst 0, 1) := by decide +kernel
theorem dX12_has_14 : decode cX12_has 14 = .ok (.ireturn, 1) := by decide +kernel
theorem dX12_flag_0 : decode cX12_flag 0 = .ok (.iload_n 0, 1) := by decide +kernel
theorem dX12_flag_1 : decode cX12_flag 1 = .ok (.ifCond .eq 7, 3) := by decide +kernel
theorem dX12_flag_4 : decode cX12_flag 4 = .ok (.iconst 1, 1) := by decide +kernel
theorem dX12_flag_5 : decode cX12_flag 5 = .ok (.goto 4, 3) := by decide +kernel
theorem dX12_flag_8 : decode cX12_flag 8 = .ok (.iconst 0, 1) := by decide +kernel
theorem dX12_flag_9 : decode cX12_flag 9 = .ok (.ireturn, 1) := by decide +kernel
theorem dX12_common_0 : decode cX12_common 0 = .ok (.lload_n 2, 1) := by decide +kernel
theorem dX12_common_1 : decode cX12_common 1 = .ok (.lconst 0, 1) := by decide +kernel
theorem dX12_common_2 : decode cX12_common 2 = .ok (.lcmp, 1) := by decide +kernel
theorem dX12_common_3 : decode cX12_common 3 = .ok (.ifCond .ne 7, 3) := by decide +kernel
theorem dX12_common_6 : decode cX12_common 6 = .ok (.lload_n 0, 1) := by decide +kernel
theorem dX12_common_7 : decode cX12_common 7 = .ok (.goto 10, 3) := by decide +kernel
theorem dX12_common_10 : decode cX12_common 10 = .ok (.lload_n 2, 1) := by decide +kernel
theorem dX12_common_11 : decode cX12_common 11 = .ok (.lload_n 0, 1) := by decide +kernel
theorem dX12_common_12 : decode cX12_common 12 = .ok (.lload_n 2, 1) := by decide +kernel
theorem dX12_common_13 : decode cX12_common 13 = .ok (.lrem, 1) := by decide +kernel
theorem dX12_common_14 : decode cX12_common 14 = .ok (.invokestatic 136, 3) := by decide +kernel
theorem dX12_common_17 : decode cX12_common 17 = .ok (.lreturn, 1) := by decide +kernel
theorem dX12_enters_0 : decode cX12_enters 0 = .ok (.aload_n 0, 1) := by decide +kernel
theorem dX12_enters_1 : decode cX12_enters 1 = .ok (.getfield 9, 3) := by decide +kernel
theorem dX12_enters_4 : decode cX12_enters 4 = .ok (.aload_n 0, 1) := by decide +kernel
theorem dX12_enters_5 : decode cX12_enters 5 = .ok (.getfield 140, 3) := by decide +kernel
theorem dX12_enters_8 : decode cX12_enters 8 = .ok (.lload_n 1, 1) := by decide +kernel
theorem dX12_enters_9 : decode cX12_enters 9 = .ok (.lastore, 1) := by decide +kernel
theorem dX12_enters_10 : decode cX12_enters 10 = .ok (.aload_n 0, 1) := by decide +kernel
theorem dX12_enters_11 : decode cX12_enters 11 = .ok (.dup, 1) := by decide +kernel
theorem dX12_enters_12 : decode cX12_enters 12 = .ok (.getfield 140, 3) := by decide +kernel
theorem dX12_enters_15 : decode cX12_enters 15 = .ok (.iconst 1, 1) := by decide +kernel
theorem dX12_enters_16 : decode cX12_enters 16 = .ok (.iadd, 1) := by decide +kernel
theorem dX12_enters_17 : decode cX12_enters 17 = .ok (.putfield 140, 3) := by decide +kernel
theorem dX12_enters_20 : decode cX12_enters 20 = .ok (.return_, 1) := by decide +kernel
theorem dX12_isPerson_0 : decode cX12_isPerson 0 = .ok (.iload_n 1, 1) := by decide +kernel
theorem dX12_isPerson_1 : decode cX12_isPerson 1 = .ok (.i2l, 1) := by decide +kernel
theorem dX12_isPerson_2 : decode cX12_isPerson 2 = .ok (.lconst 0, 1) := by decide +kernel
theorem dX12_isPerson_3 : decode cX12_isPerson 3 = .ok (.aload_n 0, 1) := by decide +kernel
theorem dX12_isPerson_4 : decode cX12_isPerson 4 = .ok (.getfield 143, 3) := by decide +kernel
theorem dX12_isPerson_7 : decode cX12_isPerson 7 = .ok (.iconst 1, 1) := by decide +kernel
theorem dX12_isPerson_8 : decode cX12_isPerson 8 = .ok (.isub, 1) := by decide +kernel
theorem dX12_isPerson_9 : decode cX12_isPerson 9 = .ok (.i2l, 1) := by decide +kernel
theorem dX12_isPerson_10 : decode cX12_isPerson 10 = .ok (.invokestatic 146, 3) := by decide +kernel
theorem dX12_isPerson_13 : decode cX12_isPerson 13 = .ok (.ireturn, 1) := by decide +kernel
theorem dX12_isErrand_0 : decode cX12_isErrand 0 = .ok (.iload_n 1, 1) := by decide +kernel
theorem dX12_isErrand_1 : decode cX12_isErrand 1 = .ok (.i2l, 1) := by decide +kernel
theorem dX12_isErrand_2 : decode cX12_isErrand 2 = .ok (.lconst 0, 1) := by decide +kernel
theorem dX12_isErrand_3 : decode cX12_isErrand 3 = .ok (.aload_n 0, 1) := by decide +kernel
theorem dX12_isErrand_4 : decode cX12_isErrand 4 = .ok (.getfield 150, 3) := by decide +kernel
theorem dX12_isErrand_7 : decode cX12_isErrand 7 = .ok (.iconst 1, 1) := by decide +kernel
theorem dX12_isErrand_8 : decode cX12_isErrand 8 = .ok (.isub, 1) := by decide +kernel
theorem dX12_isErrand_9 : decode cX12_isErrand 9 = .ok (.i2l, 1) := by decide +kernel
theorem dX12_isErrand_10 : decode cX12_isErrand 10 = .ok (.invokestatic 146, 3) := by decide +kernel
theorem dX12_isErrand_13 : decode cX12_isErrand 13 = .ok (.ireturn, 1) := by decide +kernel
theorem dX12_isTrip_0 : decode cX12_isTrip 0 = .ok (.iload_n 1, 1) := by decide +kernel
theorem dX12_isTrip_1 : decode cX12_isTrip 1 = .ok (.i2l, 1) := by decide +kernel
theorem dX12_isTrip_2 : decode cX12_isTrip 2 = .ok (.lconst 0, 1) := by decide +kernel
theorem dX12_isTrip_3 : decode cX12_isTrip 3 = .ok (.aload_n 0, 1) := by decide +kernel
theorem dX12_isTrip_4 : decode cX12_isTrip 4 = .ok (.getfield 43, 3) := by decide +kernel
theorem dX12_isTrip_7 : decode cX12_isTrip 7 = .ok (.bipush 45, 2) := by decide +kernel
theorem dX12_isTrip_9 : decode cX12_isTrip 9 = .ok (.iaload, 1) := by decide +kernel
theorem dX12_isTrip_10 : decode cX12_isTrip 10 = .ok (.iconst 1, 1) := by decide +kernel
theorem dX12_isTrip_11 : decode cX12_isTrip 11 = .ok (.isub, 1) := by decide +kernel
theorem dX12_isTrip_12 : decode cX12_isTrip 12 = .ok (.i2l, 1) := by decide +kernel
theorem dX12_isTrip_13 : decode cX12_isTrip 13 = .ok (.invokestatic 146, 3) := by decide +kernel
theorem dX12_isTrip_16 : decode cX12_isTrip 16 = .ok (.ireturn, 1) := by decide +kernel
theorem dX12_sign_0 : decode cX12_sign 0 = .ok (.aload_n 0, 1) := by decide +kernel
theorem dX12_sign_1 : decode cX12_sign 1 = .ok (.iconst 0, 1) := by decide +kernel
theorem dX12_sign_2 : decode cX12_sign 2 = .ok (.putfield 133, 3) := by decide +kernel
theorem dX12_sign_5 : decode cX12_sign 5 = .ok (.aload_n 0, 1) := by decide +kernel
theorem dX12_sign_6 : decode cX12_sign 6 = .ok (.getfield 153, 3) := by decide +kernel
theorem dX12_sign_9 : decode cX12_sign 9 = .ok (.bipush 76, 2) := by decide +kernel
theorem dX12_sign_11 : decode cX12_sign 11 = .ok (.if_icmp .le 5, 3) := by decide +kernel
theorem dX12_sign_14 : decode cX12_sign 14 = .ok (.iconst (-1), 1) := by decide +kernel
theorem dX12_sign_15 : decode cX12_sign 15 = .ok (.ireturn, 1) := by decide +kernel
theorem dX12_sign_16 : decode cX12_sign 16 = .ok (.iconst 0, 1) := by decide +kernel
theorem dX12_sign_17 : decode cX12_sign 17 = .ok (.istore_n 2, 1) := by decide +kernel
theorem dX12_sign_18 : decode cX12_sign 18 = .ok (.iload_n 2, 1) := by decide +kernel
theorem dX12_sign_19 : decode cX12_sign 19 = .ok (.iconst 4, 1) := by decide +kernel
theorem dX12_sign_20 : decode cX12_sign 20 = .ok (.if_icmp .ge 33, 3) := by decide +kernel
theorem dX12_sign_23 : decode cX12_sign 23 = .ok (.aload_n 0, 1) := by decide +kernel
theorem dX12_sign_24 : decode cX12_sign 24 = .ok (.getfield 49, 3) := by decide +kernel
theorem dX12_sign_27 : decode cX12_sign 27 = .ok (.aload_n 0, 1) := by decide +kernel
theorem dX12_sign_28 : decode cX12_sign 28 = .ok (.getfield 153, 3) := by decide +kernel
theorem dX12_sign_31 : decode cX12_sign 31 = .ok (.iload_n 2, 1) := by decide +kernel
theorem dX12_sign_32 : decode cX12_sign 32 = .ok (.iadd, 1) := by decide +kernel
theorem dX12_sign_33 : decode cX12_sign 33 = .ok (.iload_n 1, 1) := by decide +kernel
theorem dX12_sign_34 : decode cX12_sign 34 = .ok (.bipush 24, 2) := by decide +kernel
theorem dX12_sign_36 : decode cX12_sign 36 = .ok (.bipush 8, 2) := by decide +kernel
theorem dX12_sign_38 : decode cX12_sign 38 = .ok (.iload_n 2, 1) := by decide +kernel
theorem dX12_sign_39 : decode cX12_sign 39 = .ok (.imul, 1) := by decide +kernel
theorem dX12_sign_40 : decode cX12_sign 40 = .ok (.isub, 1) := by decide +kernel
theorem dX12_sign_41 : decode cX12_sign 41 = .ok (.ishr, 1) := by decide +kernel
theorem dX12_sign_42 : decode cX12_sign 42 = .ok (.sipush 255, 3) := by decide +kernel
theorem dX12_sign_45 : decode cX12_sign 45 = .ok (.iand, 1) := by decide +kernel
theorem dX12_sign_46 : decode cX12_sign 46 = .ok (.iastore, 1) := by decide +kernel
theorem dX12_sign_47 : decode cX12_sign 47 = .ok (.iinc 2 1, 3) := by decide +kernel
theorem dX12_sign_50 : decode cX12_sign 50 = .ok (.goto (-32), 3) := by decide +kernel
theorem dX12_sign_53 : decode cX12_sign 53 = .ok (.aload_n 0, 1) := by decide +kernel
theorem dX12_sign_54 : decode cX12_sign 54 = .ok (.dup, 1) := by decide +kernel
theorem dX12_sign_55 : decode cX12_sign 55 = .ok (.getfield 153, 3) := by decide +kernel
theorem dX12_sign_58 : decode cX12_sign 58 = .ok (.iconst 4, 1) := by decide +kernel
theorem dX12_sign_59 : decode cX12_sign 59 = .ok (.iadd, 1) := by decide +kernel
theorem dX12_sign_60 : decode cX12_sign 60 = .ok (.putfield 153, 3) := by decide +kernel
theorem dX12_sign_63 : decode cX12_sign 63 = .ok (.aload_n 0, 1) := by decide +kernel
theorem dX12_sign_64 : decode cX12_sign 64 = .ok (.getfield 153, 3) := by decide +kernel
theorem dX12_sign_67 : decode cX12_sign 67 = .ok (.ireturn, 1) := by decide +kernel
theorem dX12_end_0 : decode cX12_end 0 = .ok (.aload_n 0, 1) := by decide +kernel
theorem dX12_end_1 : decode cX12_end 1 = .ok (.iconst 0, 1) := by decide +kernel
theorem dX12_end_2 : decode cX12_end 2 = .ok (.putfield 133, 3) := by decide +kernel
theorem dX12_end_5 : decode cX12_end 5 = .ok (.iload_n 1, 1) := by decide +kernel
theorem dX12_end_6 : decode cX12_end 6 = .ok (.i2l, 1) := by decide +kernel
theorem dX12_end_7 : decode cX12_end 7 = .ok (.lconst 0, 1) := by decide +kernel
theorem dX12_end_8 : decode cX12_end 8 = .ok (.aload_n 0, 1) := by decide +kernel
theorem dX12_end_9 : decode cX12_end 9 = .ok (.getfield 153, 3) := by decide +kernel
theorem dX12_end_12 : decode cX12_end 12 = .ok (.i2l, 1) := by decide +kernel
theorem dX12_end_13 : decode cX12_end 13 = .ok (.invokestatic 146, 3) := by decide +kernel
theorem dX12_end_16 : decode cX12_end 16 = .ok (.ifCond .ne 5, 3) := by decide +kernel
theorem dX12_end_19 : decode cX12_end 19 = .ok (.iconst 0, 1) := by decide +kernel
theorem dX12_end_20 : decode cX12_end 20 = .ok (.ireturn, 1) := by decide +kernel
theorem dX12_end_21 : decode cX12_end 21 = .ok (.aload_n 0, 1) := by decide +kernel
theorem dX12_end_22 : decode cX12_end 22 = .ok (.iload_n 1, 1) := by decide +kernel
theorem dX12_end_23 : decode cX12_end 23 = .ok (.putfield 153, 3) := by decide +kernel
theorem dX12_end_26 : decode cX12_end 26 = .ok (.iconst 1, 1) := by decide +kernel
theorem dX12_end_27 : decode cX12_end 27 = .ok (.ireturn, 1) := by decide +kernel
theorem dX12_begins_0 : decode cX12_begins 0 = .ok (.aload_n 0, 1) := by decide +kernel
theorem dX12_begins_1 : decode cX12_begins 1 = .ok (.getfield 153, 3) := by decide +kernel
theorem dX12_begins_4 : decode cX12_begins 4 = .ok (.istore_n 2, 1) := by decide +kernel
theorem dX12_begins_5 : decode cX12_begins 5 = .ok (.aload_n 0, 1) := by decide +kernel
theorem dX12_begins_6 : decode cX12_begins 6 = .ok (.iconst 0, 1) := by decide +kernel
theorem dX12_begins_7 : decode cX12_begins 7 = .ok (.putfield 153, 3) := by decide +kernel
theorem dX12_begins_10 : decode cX12_begins 10 = .ok (.aload_n 0, 1) := by decide +kernel
theorem dX12_begins_11 : decode cX12_begins 11 = .ok (.iconst 0, 1) := by decide +kernel
theorem dX12_begins_12 : decode cX12_begins 12 = .ok (.putfield 156, 3) := by decide +kernel
theorem dX12_begins_15 : decode cX12_begins 15 = .ok (.aload_n 0, 1) := by decide +kernel
theorem dX12_begins_16 : decode cX12_begins 16 = .ok (.iconst 0, 1) := by decide +kernel
theorem dX12_begins_17 : decode cX12_begins 17 = .ok (.putfield 159, 3) := by decide +kernel
theorem dX12_begins_20 : decode cX12_begins 20 = .ok (.aload_n 0, 1) := by decide +kernel
theorem dX12_begins_21 : decode cX12_begins 21 = .ok (.iload_n 2, 1) := by decide +kernel
theorem dX12_begins_22 : decode cX12_begins 22 = .ok (.iload_n 1, 1) := by decide +kernel
theorem dX12_begins_23 : decode cX12_begins 23 = .ok (.invokestatic 162, 3) := by decide +kernel
theorem dX12_begins_26 : decode cX12_begins 26 = .ok (.putfield 168, 3) := by decide +kernel
theorem dX12_begins_29 : decode cX12_begins 29 = .ok (.iload_n 2, 1) := by decide +kernel
theorem dX12_begins_30 : decode cX12_begins 30 = .ok (.ireturn, 1) := by decide +kernel
theorem dX12_takes_0 : decode cX12_takes 0 = .ok (.aload_n 0, 1) := by decide +kernel
theorem dX12_takes_1 : decode cX12_takes 1 = .ok (.getfield 156, 3) := by decide +kernel
theorem dX12_takes_4 : decode cX12_takes 4 = .ok (.aload_n 0, 1) := by decide +kernel
theorem dX12_takes_5 : decode cX12_takes 5 = .ok (.getfield 168, 3) := by decide +kernel
theorem dX12_takes_8 : decode cX12_takes 8 = .ok (.if_icmp .ge 20, 3) := by decide +kernel
theorem dX12_takes_11 : decode cX12_takes 11 = .ok (.aload_n 0, 1) := by decide +kernel
theorem dX12_takes_12 : decode cX12_takes 12 = .ok (.getfield 49, 3) := by decide +kernel
theorem dX12_takes_15 : decode cX12_takes 15 = .ok (.aload_n 0, 1) := by decide +kernel
theorem dX12_takes_16 : decode cX12_takes 16 = .ok (.getfield 156, 3) := by decide +kernel
theorem dX12_takes_19 : decode cX12_takes 19 = .ok (.iaload, 1) := by decide +kernel
theorem dX12_takes_20 : decode cX12_takes 20 = .ok (.iload_n 1, 1) := by decide +kernel
theorem dX12_takes_21 : decode cX12_takes 21 = .ok (.if_icmp .ne 7, 3) := by decide +kernel
theorem dX12_takes_24 : decode cX12_takes 24 = .ok (.iconst 1, 1) := by decide +kernel
theorem dX12_takes_25 : decode cX12_takes 25 = .ok (.goto 4, 3) := by decide +kernel
theorem dX12_takes_28 : decode cX12_takes 28 = .ok (.iconst 0, 1) := by decide +kernel
theorem dX12_takes_29 : decode cX12_takes 29 = .ok (.istore_n 2, 1) := by decide +kernel
theorem dX12_takes_30 : decode cX12_takes 30 = .ok (.aload_n 0, 1) := by decide +kernel
theorem dX12_takes_31 : decode cX12_takes 31 = .ok (.dup, 1) := by decide +kernel
theorem dX12_takes_32 : decode cX12_takes 32 = .ok (.getfield 156, 3) := by decide +kernel
theorem dX12_takes_35 : decode cX12_takes 35 = .ok (.iload_n 2, 1) := by decide +kernel
theorem dX12_takes_36 : decode cX12_takes 36 = .ok (.invokestatic 171, 3) := by decide +kernel
theorem dX12_takes_39 : decode cX12_takes 39 = .ok (.iadd, 1) := by decide +kernel
theorem dX12_takes_40 : decode cX12_takes 40 = .ok (.putfield 156, 3) := by decide +kernel
theorem dX12_takes_43 : decode cX12_takes 43 = .ok (.iload_n 2, 1) := by decide +kernel
theorem dX12_takes_44 : decode cX12_takes 44 = .ok (.ireturn, 1) := by decide +kernel
theorem dX12_isDigit_0 : decode cX12_isDigit 0 = .ok (.aload_n 0, 1) := by decide +kernel
theorem dX12_isDigit_1 : decode cX12_isDigit 1 = .ok (.getfield 156, 3) := by decide +kernel
theorem dX12_isDigit_4 : decode cX12_isDigit 4 = .ok (.aload_n 0, 1) := by decide +kernel
theorem dX12_isDigit_5 : decode cX12_isDigit 5 = .ok (.getfield 168, 3) := by decide +kernel
theorem dX12_isDigit_8 : decode cX12_isDigit 8 = .ok (.if_icmp .ge 29, 3) := by decide +kernel
theorem dX12_isDigit_11 : decode cX12_isDigit 11 = .ok (.aload_n 0, 1) := by decide +kernel
theorem dX12_isDigit_12 : decode cX12_isDigit 12 = .ok (.getfield 49, 3) := by decide +kernel
theorem dX12_isDigit_15 : decode cX12_isDigit 15 = .ok (.aload_n 0, 1) := by decide +kernel
theorem dX12_isDigit_16 : decode cX12_isDigit 16 = .ok (.getfield 156, 3) := by decide +kernel
theorem dX12_isDigit_19 : decode cX12_isDigit 19 = .ok (.iaload, 1) := by decide +kernel
theorem dX12_isDigit_20 : decode cX12_isDigit 20 = .ok (.i2l, 1) := by decide +kernel
theorem dX12_isDigit_21 : decode cX12_isDigit 21 = .ok (.ldc2_w 175, 3) := by decide +kernel
theorem dX12_isDigit_24 : decode cX12_isDigit 24 = .ok (.ldc2_w 177, 3) := by decide +kernel
theorem dX12_isDigit_27 : decode cX12_isDigit 27 = .ok (.invokestatic 146, 3) := by decide +kernel
theorem dX12_isDigit_30 : decode cX12_isDigit 30 = .ok (.ifCond .eq 7, 3) := by decide +kernel
theorem dX12_isDigit_33 : decode cX12_isDigit 33 = .ok (.iconst 1, 1) := by decide +kernel
theorem dX12_isDigit_34 : decode cX12_isDigit 34 = .ok (.goto 4, 3) := by decide +kernel
theorem dX12_isDigit_37 : decode cX12_isDigit 37 = .ok (.iconst 0, 1) := by decide +kernel
theorem dX12_isDigit_38 : decode cX12_isDigit 38 = .ok (.ireturn, 1) := by decide +kernel
theorem dX12_among_0 : decode cX12_among 0 = .ok (.iconst 0, 1) := by decide +kernel
theorem dX12_among_1 : decode cX12_among 1 = .ok (.istore_n 2, 1) := by decide +kernel
theorem dX12_among_2 : decode cX12_among 2 = .ok (.iload_n 2, 1) := by decide +kernel
theorem dX12_among_3 : decode cX12_among 3 = .ok (.aload_n 1, 1) := by decide +kernel
theorem dX12_among_4 : decode cX12_among 4 = .ok (.invokevirtual 179, 3) := by decide +kernel
theorem dX12_among_7 : decode cX12_among 7 = .ok (.if_icmp .ge 39, 3) := by decide +kernel
theorem dX12_among_10 : decode cX12_among 10 = .ok (.aload_n 0, 1) := by decide +kernel
theorem dX12_among_11 : decode cX12_among 11 = .ok (.getfield 156, 3) := by decide +kernel
theorem dX12_among_14 : decode cX12_among 14 = .ok (.aload_n 0, 1) := by decide +kernel
theorem dX12_among_15 : decode cX12_among 15 = .ok (.getfield 168, 3) := by decide +kernel
theorem dX12_among_18 : decode cX12_among 18 = .ok (.if_icmp .ge 28, 3) := by decide +kernel
theorem dX12_among_21 : decode cX12_among 21 = .ok (.aload_n 1, 1) := by decide +kernel
theorem dX12_among_22 : decode cX12_among 22 = .ok (.iload_n 2, 1) := by decide +kernel
theorem dX12_among_23 : decode cX12_among 23 = .ok (.invokevirtual 185, 3) := by decide +kernel
theorem dX12_among_26 : decode cX12_among 26 = .ok (.aload_n 0, 1) := by decide +kernel
theorem dX12_among_27 : decode cX12_among 27 = .ok (.getfield 49, 3) := by decide +kernel
theorem dX12_among_30 : decode cX12_among 30 = .ok (.aload_n 0, 1) := by decide +kernel
theorem dX12_among_31 : decode cX12_among 31 = .ok (.getfield 156, 3) := by decide +kernel
theorem dX12_among_34 : decode cX12_among 34 = .ok (.iaload, 1) := by decide +kernel
theorem dX12_among_35 : decode cX12_among 35 = .ok (.if_icmp .ne 5, 3) := by decide +kernel
theorem dX12_among_38 : decode cX12_among 38 = .ok (.iload_n 2, 1) := by decide +kernel
theorem dX12_among_39 : decode cX12_among 39 = .ok (.ireturn, 1) := by decide +kernel
theorem dX12_among_40 : decode cX12_among 40 = .ok (.iinc 2 1, 3) := by decide +kernel
theorem dX12_among_43 : decode cX12_among 43 = .ok (.goto (-41), 3) := by decide +kernel
theorem dX12_among_46 : decode cX12_among 46 = .ok (.iconst (-1), 1) := by decide +kernel
theorem dX12_among_47 : decode cX12_among 47 = .ok (.ireturn, 1) := by decide +kernel
