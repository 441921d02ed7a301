theorem dX12_takesOf_0 : decode cX12_takesOf 0 = .ok (.aload_n 0, 1) := by decide +kernel
theorem dX12_takesOf_1 : decode cX12_takesOf 1 = .ok (.aload_n 1, 1) := by decide +kernel
theorem dX12_takesOf_2 : decode cX12_takesOf 2 = .ok (.invokevirtual 189, 3) := by decide +kernel
theorem dX12_takesOf_5 : decode cX12_takesOf 5 = .ok (.istore_n 2, 1) := by decide +kernel
theorem dX12_takesOf_6 : decode cX12_takesOf 6 = .ok (.aload_n 0, 1) := by decide +kernel
theorem dX12_takesOf_7 : decode cX12_takesOf 7 = .ok (.dup, 1) := by decide +kernel
theorem dX12_takesOf_8 : decode cX12_takesOf 8 = .ok (.getfield 156, 3) := by decide +kernel
theorem dX12_takesOf_11 : decode cX12_takesOf 11 = .ok (.iload_n 2, 1) := by decide +kernel
theorem dX12_takesOf_12 : decode cX12_takesOf 12 = .ok (.ifCond .lt 7, 3) := by decide +kernel
theorem dX12_takesOf_15 : decode cX12_takesOf 15 = .ok (.iconst 1, 1) := by decide +kernel
theorem dX12_takesOf_16 : decode cX12_takesOf 16 = .ok (.goto 4, 3) := by decide +kernel
theorem dX12_takesOf_19 : decode cX12_takesOf 19 = .ok (.iconst 0, 1) := by decide +kernel
theorem dX12_takesOf_20 : decode cX12_takesOf 20 = .ok (.invokestatic 171, 3) := by decide +kernel
theorem dX12_takesOf_23 : decode cX12_takesOf 23 = .ok (.iadd, 1) := by decide +kernel
theorem dX12_takesOf_24 : decode cX12_takesOf 24 = .ok (.putfield 156, 3) := by decide +kernel
theorem dX12_takesOf_27 : decode cX12_takesOf 27 = .ok (.iload_n 2, 1) := by decide +kernel
theorem dX12_takesOf_28 : decode cX12_takesOf 28 = .ok (.ireturn, 1) := by decide +kernel
theorem dX12_digit_0 : decode cX12_digit 0 = .ok (.aload_n 0, 1) := by decide +kernel
theorem dX12_digit_1 : decode cX12_digit 1 = .ok (.invokevirtual 193, 3) := by decide +kernel
theorem dX12_digit_4 : decode cX12_digit 4 = .ok (.ifCond .eq 26, 3) := by decide +kernel
theorem dX12_digit_7 : decode cX12_digit 7 = .ok (.aload_n 0, 1) := by decide +kernel
theorem dX12_digit_8 : decode cX12_digit 8 = .ok (.getfield 49, 3) := by decide +kernel
theorem dX12_digit_11 : decode cX12_digit 11 = .ok (.aload_n 0, 1) := by decide +kernel
theorem dX12_digit_12 : decode cX12_digit 12 = .ok (.getfield 156, 3) := by decide +kernel
theorem dX12_digit_15 : decode cX12_digit 15 = .ok (.iaload, 1) := by decide +kernel
theorem dX12_digit_16 : decode cX12_digit 16 = .ok (.bipush 48, 2) := by decide +kernel
theorem dX12_digit_18 : decode cX12_digit 18 = .ok (.isub, 1) := by decide +kernel
theorem dX12_digit_19 : decode cX12_digit 19 = .ok (.i2l, 1) := by decide +kernel
theorem dX12_digit_20 : decode cX12_digit 20 = .ok (.iload_n 1, 1) := by decide +kernel
theorem dX12_digit_21 : decode cX12_digit 21 = .ok (.i2l, 1) := by decide +kernel
theorem dX12_digit_22 : decode cX12_digit 22 = .ok (.iload_n 2, 1) := by decide +kernel
theorem dX12_digit_23 : decode cX12_digit 23 = .ok (.i2l, 1) := by decide +kernel
theorem dX12_digit_24 : decode cX12_digit 24 = .ok (.invokestatic 146, 3) := by decide +kernel
theorem dX12_digit_27 : decode cX12_digit 27 = .ok (.ifCond .ne 5, 3) := by decide +kernel
theorem dX12_digit_30 : decode cX12_digit 30 = .ok (.iconst (-1), 1) := by decide +kernel
theorem dX12_digit_31 : decode cX12_digit 31 = .ok (.ireturn, 1) := by decide +kernel
theorem dX12_digit_32 : decode cX12_digit 32 = .ok (.aload_n 0, 1) := by decide +kernel
theorem dX12_digit_33 : decode cX12_digit 33 = .ok (.dup, 1) := by decide +kernel
theorem dX12_digit_34 : decode cX12_digit 34 = .ok (.getfield 156, 3) := by decide +kernel
theorem dX12_digit_37 : decode cX12_digit 37 = .ok (.iconst 1, 1) := by decide +kernel
theorem dX12_digit_38 : decode cX12_digit 38 = .ok (.iadd, 1) := by decide +kernel
theorem dX12_digit_39 : decode cX12_digit 39 = .ok (.putfield 156, 3) := by decide +kernel
theorem dX12_digit_42 : decode cX12_digit 42 = .ok (.aload_n 0, 1) := by decide +kernel
theorem dX12_digit_43 : decode cX12_digit 43 = .ok (.getfield 49, 3) := by decide +kernel
theorem dX12_digit_46 : decode cX12_digit 46 = .ok (.aload_n 0, 1) := by decide +kernel
theorem dX12_digit_47 : decode cX12_digit 47 = .ok (.getfield 156, 3) := by decide +kernel
theorem dX12_digit_50 : decode cX12_digit 50 = .ok (.iconst 1, 1) := by decide +kernel
theorem dX12_digit_51 : decode cX12_digit 51 = .ok (.isub, 1) := by decide +kernel
theorem dX12_digit_52 : decode cX12_digit 52 = .ok (.iaload, 1) := by decide +kernel
theorem dX12_digit_53 : decode cX12_digit 53 = .ok (.bipush 48, 2) := by decide +kernel
theorem dX12_digit_55 : decode cX12_digit 55 = .ok (.isub, 1) := by decide +kernel
theorem dX12_digit_56 : decode cX12_digit 56 = .ok (.ireturn, 1) := by decide +kernel
theorem dX12_number_0 : decode cX12_number 0 = .ok (.aload_n 0, 1) := by decide +kernel
theorem dX12_number_1 : decode cX12_number 1 = .ok (.invokevirtual 193, 3) := by decide +kernel
theorem dX12_number_4 : decode cX12_number 4 = .ok (.ifCond .ne 5, 3) := by decide +kernel
theorem dX12_number_7 : decode cX12_number 7 = .ok (.iconst (-1), 1) := by decide +kernel
theorem dX12_number_8 : decode cX12_number 8 = .ok (.ireturn, 1) := by decide +kernel
theorem dX12_number_9 : decode cX12_number 9 = .ok (.iconst 0, 1) := by decide +kernel
theorem dX12_number_10 : decode cX12_number 10 = .ok (.istore_n 2, 1) := by decide +kernel
theorem dX12_number_11 : decode cX12_number 11 = .ok (.iconst 0, 1) := by decide +kernel
theorem dX12_number_12 : decode cX12_number 12 = .ok (.istore_n 3, 1) := by decide +kernel
theorem dX12_number_13 : decode cX12_number 13 = .ok (.iload_n 3, 1) := by decide +kernel
theorem dX12_number_14 : decode cX12_number 14 = .ok (.iload_n 1, 1) := by decide +kernel
theorem dX12_number_15 : decode cX12_number 15 = .ok (.if_icmp .ge 44, 3) := by decide +kernel
theorem dX12_number_18 : decode cX12_number 18 = .ok (.aload_n 0, 1) := by decide +kernel
theorem dX12_number_19 : decode cX12_number 19 = .ok (.invokevirtual 193, 3) := by decide +kernel
theorem dX12_number_22 : decode cX12_number 22 = .ok (.ifCond .eq 37, 3) := by decide +kernel
theorem dX12_number_25 : decode cX12_number 25 = .ok (.bipush 10, 2) := by decide +kernel
theorem dX12_number_27 : decode cX12_number 27 = .ok (.iload_n 2, 1) := by decide +kernel
theorem dX12_number_28 : decode cX12_number 28 = .ok (.imul, 1) := by decide +kernel
theorem dX12_number_29 : decode cX12_number 29 = .ok (.aload_n 0, 1) := by decide +kernel
theorem dX12_number_30 : decode cX12_number 30 = .ok (.getfield 49, 3) := by decide +kernel
theorem dX12_number_33 : decode cX12_number 33 = .ok (.aload_n 0, 1) := by decide +kernel
theorem dX12_number_34 : decode cX12_number 34 = .ok (.getfield 156, 3) := by decide +kernel
theorem dX12_number_37 : decode cX12_number 37 = .ok (.iaload, 1) := by decide +kernel
theorem dX12_number_38 : decode cX12_number 38 = .ok (.iadd, 1) := by decide +kernel
theorem dX12_number_39 : decode cX12_number 39 = .ok (.bipush 48, 2) := by decide +kernel
theorem dX12_number_41 : decode cX12_number 41 = .ok (.isub, 1) := by decide +kernel
theorem dX12_number_42 : decode cX12_number 42 = .ok (.istore_n 2, 1) := by decide +kernel
theorem dX12_number_43 : decode cX12_number 43 = .ok (.aload_n 0, 1) := by decide +kernel
theorem dX12_number_44 : decode cX12_number 44 = .ok (.dup, 1) := by decide +kernel
theorem dX12_number_45 : decode cX12_number 45 = .ok (.getfield 156, 3) := by decide +kernel
theorem dX12_number_48 : decode cX12_number 48 = .ok (.iconst 1, 1) := by decide +kernel
theorem dX12_number_49 : decode cX12_number 49 = .ok (.iadd, 1) := by decide +kernel
theorem dX12_number_50 : decode cX12_number 50 = .ok (.putfield 156, 3) := by decide +kernel
theorem dX12_number_53 : decode cX12_number 53 = .ok (.iinc 3 1, 3) := by decide +kernel
theorem dX12_number_56 : decode cX12_number 56 = .ok (.goto (-43), 3) := by decide +kernel
theorem dX12_number_59 : decode cX12_number 59 = .ok (.iload_n 2, 1) := by decide +kernel
theorem dX12_number_60 : decode cX12_number 60 = .ok (.ireturn, 1) := by decide +kernel
theorem dX12_letter_0 : decode cX12_letter 0 = .ok (.aload_n 0, 1) := by decide +kernel
theorem dX12_letter_1 : decode cX12_letter 1 = .ok (.getfield 156, 3) := by decide +kernel
theorem dX12_letter_4 : decode cX12_letter 4 = .ok (.aload_n 0, 1) := by decide +kernel
theorem dX12_letter_5 : decode cX12_letter 5 = .ok (.getfield 168, 3) := by decide +kernel
theorem dX12_letter_8 : decode cX12_letter 8 = .ok (.if_icmp .ge 29, 3) := by decide +kernel
theorem dX12_letter_11 : decode cX12_letter 11 = .ok (.aload_n 0, 1) := by decide +kernel
theorem dX12_letter_12 : decode cX12_letter 12 = .ok (.getfield 49, 3) := by decide +kernel
theorem dX12_letter_15 : decode cX12_letter 15 = .ok (.aload_n 0, 1) := by decide +kernel
theorem dX12_letter_16 : decode cX12_letter 16 = .ok (.getfield 156, 3) := by decide +kernel
theorem dX12_letter_19 : decode cX12_letter 19 = .ok (.iaload, 1) := by decide +kernel
theorem dX12_letter_20 : decode cX12_letter 20 = .ok (.i2l, 1) := by decide +kernel
theorem dX12_letter_21 : decode cX12_letter 21 = .ok (.ldc2_w 197, 3) := by decide +kernel
theorem dX12_letter_24 : decode cX12_letter 24 = .ok (.bipush 97, 2) := by decide +kernel
theorem dX12_letter_26 : decode cX12_letter 26 = .ok (.iload_n 1, 1) := by decide +kernel
theorem dX12_letter_27 : decode cX12_letter 27 = .ok (.iadd, 1) := by decide +kernel
theorem dX12_letter_28 : decode cX12_letter 28 = .ok (.iconst 1, 1) := by decide +kernel
theorem dX12_letter_29 : decode cX12_letter 29 = .ok (.isub, 1) := by decide +kernel
theorem dX12_letter_30 : decode cX12_letter 30 = .ok (.i2l, 1) := by decide +kernel
theorem dX12_letter_31 : decode cX12_letter 31 = .ok (.invokestatic 146, 3) := by decide +kernel
theorem dX12_letter_34 : decode cX12_letter 34 = .ok (.ifCond .ne 5, 3) := by decide +kernel
theorem dX12_letter_37 : decode cX12_letter 37 = .ok (.iconst (-1), 1) := by decide +kernel
theorem dX12_letter_38 : decode cX12_letter 38 = .ok (.ireturn, 1) := by decide +kernel
theorem dX12_letter_39 : decode cX12_letter 39 = .ok (.aload_n 0, 1) := by decide +kernel
theorem dX12_letter_40 : decode cX12_letter 40 = .ok (.dup, 1) := by decide +kernel
theorem dX12_letter_41 : decode cX12_letter 41 = .ok (.getfield 156, 3) := by decide +kernel
theorem dX12_letter_44 : decode cX12_letter 44 = .ok (.iconst 1, 1) := by decide +kernel
theorem dX12_letter_45 : decode cX12_letter 45 = .ok (.iadd, 1) := by decide +kernel
theorem dX12_letter_46 : decode cX12_letter 46 = .ok (.putfield 156, 3) := by decide +kernel
theorem dX12_letter_49 : decode cX12_letter 49 = .ok (.aload_n 0, 1) := by decide +kernel
theorem dX12_letter_50 : decode cX12_letter 50 = .ok (.getfield 49, 3) := by decide +kernel
theorem dX12_letter_53 : decode cX12_letter 53 = .ok (.aload_n 0, 1) := by decide +kernel
theorem dX12_letter_54 : decode cX12_letter 54 = .ok (.getfield 156, 3) := by decide +kernel
theorem dX12_letter_57 : decode cX12_letter 57 = .ok (.iconst 1, 1) := by decide +kernel
theorem dX12_letter_58 : decode cX12_letter 58 = .ok (.isub, 1) := by decide +kernel
theorem dX12_letter_59 : decode cX12_letter 59 = .ok (.iaload, 1) := by decide +kernel
theorem dX12_letter_60 : decode cX12_letter 60 = .ok (.bipush 97, 2) := by decide +kernel
theorem dX12_letter_62 : decode cX12_letter 62 = .ok (.isub, 1) := by decide +kernel
theorem dX12_letter_63 : decode cX12_letter 63 = .ok (.ireturn, 1) := by decide +kernel
theorem dX12_faultOf_0 : decode cX12_faultOf 0 = .ok (.iload_n 3, 1) := by decide +kernel
theorem dX12_faultOf_1 : decode cX12_faultOf 1 = .ok (.ifCond .eq 18, 3) := by decide +kernel
theorem dX12_faultOf_4 : decode cX12_faultOf 4 = .ok (.aload_n 0, 1) := by decide +kernel
theorem dX12_faultOf_5 : decode cX12_faultOf 5 = .ok (.getfield 156, 3) := by decide +kernel
theorem dX12_faultOf_8 : decode cX12_faultOf 8 = .ok (.aload_n 0, 1) := by decide +kernel
theorem dX12_faultOf_9 : decode cX12_faultOf 9 = .ok (.getfield 168, 3) := by decide +kernel
theorem dX12_faultOf_12 : decode cX12_faultOf 12 = .ok (.if_icmp .ne 7, 3) := by decide +kernel
theorem dX12_faultOf_15 : decode cX12_faultOf 15 = .ok (.iconst 1, 1) := by decide +kernel
theorem dX12_faultOf_16 : decode cX12_faultOf 16 = .ok (.goto 4, 3) := by decide +kernel
theorem dX12_faultOf_19 : decode cX12_faultOf 19 = .ok (.iconst 0, 1) := by decide +kernel
theorem dX12_faultOf_20 : decode cX12_faultOf 20 = .ok (.istore 4, 2) := by decide +kernel
theorem dX12_faultOf_22 : decode cX12_faultOf 22 = .ok (.iload_n 1, 1) := by decide +kernel
theorem dX12_faultOf_23 : decode cX12_faultOf 23 = .ok (.iload_n 2, 1) := by decide +kernel
theorem dX12_faultOf_24 : decode cX12_faultOf 24 = .ok (.if_icmp .le 20, 3) := by decide +kernel
theorem dX12_faultOf_27 : decode cX12_faultOf 27 = .ok (.iload 4, 2) := by decide +kernel
theorem dX12_faultOf_29 : decode cX12_faultOf 29 = .ok (.ifCond .ne 11, 3) := by decide +kernel
theorem dX12_faultOf_32 : decode cX12_faultOf 32 = .ok (.aload_n 0, 1) := by decide +kernel
theorem dX12_faultOf_33 : decode cX12_faultOf 33 = .ok (.getfield 156, 3) := by decide +kernel
theorem dX12_faultOf_36 : decode cX12_faultOf 36 = .ok (.iload_n 2, 1) := by decide +kernel
theorem dX12_faultOf_37 : decode cX12_faultOf 37 = .ok (.if_icmp .lt 7, 3) := by decide +kernel
theorem dX12_faultOf_40 : decode cX12_faultOf 40 = .ok (.iconst (-1), 1) := by decide +kernel
theorem dX12_faultOf_41 : decode cX12_faultOf 41 = .ok (.iload_n 2, 1) := by decide +kernel
theorem dX12_faultOf_42 : decode cX12_faultOf 42 = .ok (.isub, 1) := by decide +kernel
theorem dX12_faultOf_43 : decode cX12_faultOf 43 = .ok (.ireturn, 1) := by decide +kernel
theorem dX12_faultOf_44 : decode cX12_faultOf 44 = .ok (.iload 4, 2) := by decide +kernel
theorem dX12_faultOf_46 : decode cX12_faultOf 46 = .ok (.ifCond .eq 7, 3) := by decide +kernel
theorem dX12_faultOf_49 : decode cX12_faultOf 49 = .ok (.iconst 0, 1) := by decide +kernel
theorem dX12_faultOf_50 : decode cX12_faultOf 50 = .ok (.goto 9, 3) := by decide +kernel
theorem dX12_faultOf_53 : decode cX12_faultOf 53 = .ok (.iconst (-1), 1) := by decide +kernel
theorem dX12_faultOf_54 : decode cX12_faultOf 54 = .ok (.aload_n 0, 1) := by decide +kernel
theorem dX12_faultOf_55 : decode cX12_faultOf 55 = .ok (.getfield 156, 3) := by decide +kernel
theorem dX12_faultOf_58 : decode cX12_faultOf 58 = .ok (.isub, 1) := by decide +kernel
theorem dX12_faultOf_59 : decode cX12_faultOf 59 = .ok (.ireturn, 1) := by decide +kernel
theorem dX12_readsPerson_0 : decode cX12_readsPerson 0 = .ok (.aload_n 0, 1) := by decide +kernel
theorem dX12_readsPerson_1 : decode cX12_readsPerson 1 = .ok (.getfield 143, 3) := by decide +kernel
theorem dX12_readsPerson_4 : decode cX12_readsPerson 4 = .ok (.aload_n 0, 1) := by decide +kernel
theorem dX12_readsPerson_5 : decode cX12_readsPerson 5 = .ok (.getfield 199, 3) := by decide +kernel
theorem dX12_readsPerson_8 : decode cX12_readsPerson 8 = .ok (.iadd, 1) := by decide +kernel
theorem dX12_readsPerson_9 : decode cX12_readsPerson 9 = .ok (.bipush 6, 2) := by decide +kernel
theorem dX12_readsPerson_11 : decode cX12_readsPerson 11 = .ok (.if_icmp .ne 5, 3) := by decide +kernel
theorem dX12_readsPerson_14 : decode cX12_readsPerson 14 = .ok (.iconst 0, 1) := by decide +kernel
theorem dX12_readsPerson_15 : decode cX12_readsPerson 15 = .ok (.ireturn, 1) := by decide +kernel
theorem dX12_readsPerson_16 : decode cX12_readsPerson 16 = .ok (.aload_n 0, 1) := by decide +kernel
theorem dX12_readsPerson_17 : decode cX12_readsPerson 17 = .ok (.dup, 1) := by decide +kernel
theorem dX12_readsPerson_18 : decode cX12_readsPerson 18 = .ok (.getfield 156, 3) := by decide +kernel
theorem dX12_readsPerson_21 : decode cX12_readsPerson 21 = .ok (.iconst 1, 1) := by decide +kernel
theorem dX12_readsPerson_22 : decode cX12_readsPerson 22 = .ok (.iadd, 1) := by decide +kernel
theorem dX12_readsPerson_23 : decode cX12_readsPerson 23 = .ok (.putfield 156, 3) := by decide +kernel
theorem dX12_readsPerson_26 : decode cX12_readsPerson 26 = .ok (.aload_n 0, 1) := by decide +kernel
theorem dX12_readsPerson_27 : decode cX12_readsPerson 27 = .ok (.getfield 52, 3) := by decide +kernel
theorem dX12_readsPerson_30 : decode cX12_readsPerson 30 = .ok (.aload_n 0, 1) := by decide +kernel
theorem dX12_readsPerson_31 : decode cX12_readsPerson 31 = .ok (.getfield 199, 3) := by decide +kernel
theorem dX12_readsPerson_34 : decode cX12_readsPerson 34 = .ok (.aload_n 0, 1) := by decide +kernel
theorem dX12_readsPerson_35 : decode cX12_readsPerson 35 = .ok (.bipush 33, 2) := by decide +kernel
theorem dX12_readsPerson_37 : decode cX12_readsPerson 37 = .ok (.invokevirtual 202, 3) := by decide +kernel
theorem dX12_readsPerson_40 : decode cX12_readsPerson 40 = .ok (.bastore, 1) := by decide +kernel
theorem dX12_readsPerson_41 : decode cX12_readsPerson 41 = .ok (.aload_n 0, 1) := by decide +kernel
theorem dX12_readsPerson_42 : decode cX12_readsPerson 42 = .ok (.dup, 1) := by decide +kernel
theorem dX12_readsPerson_43 : decode cX12_readsPerson 43 = .ok (.getfield 199, 3) := by decide +kernel
theorem dX12_readsPerson_46 : decode cX12_readsPerson 46 = .ok (.iconst 1, 1) := by decide +kernel
theorem dX12_readsPerson_47 : decode cX12_readsPerson 47 = .ok (.iadd, 1) := by decide +kernel
theorem dX12_readsPerson_48 : decode cX12_readsPerson 48 = .ok (.putfield 199, 3) := by decide +kernel
theorem dX12_readsPerson_51 : decode cX12_readsPerson 51 = .ok (.iconst 1, 1) := by decide +kernel
theorem dX12_readsPerson_52 : decode cX12_readsPerson 52 = .ok (.ireturn, 1) := by decide +kernel
theorem dX12_readsErrand_0 : decode cX12_readsErrand 0 = .ok (.aload_n 0, 1) := by decide +kernel
theorem dX12_readsErrand_1 : decode cX12_readsErrand 1 = .ok (.getfield 150, 3) := by decide +kernel
theorem dX12_readsErrand_4 : decode cX12_readsErrand 4 = .ok (.aload_n 0, 1) := by decide +kernel
theorem dX12_readsErrand_5 : decode cX12_readsErrand 5 = .ok (.getfield 206, 3) := by decide +kernel
theorem dX12_readsErrand_8 : decode cX12_readsErrand 8 = .ok (.iadd, 1) := by decide +kernel
theorem dX12_readsErrand_9 : decode cX12_readsErrand 9 = .ok (.bipush 8, 2) := by decide +kernel
theorem dX12_readsErrand_11 : decode cX12_readsErrand 11 = .ok (.if_icmp .ne 5, 3) := by decide +kernel
theorem dX12_readsErrand_14 : decode cX12_readsErrand 14 = .ok (.iconst 0, 1) := by decide +kernel
theorem dX12_readsErrand_15 : decode cX12_readsErrand 15 = .ok (.ireturn, 1) := by decide +kernel
theorem dX12_readsErrand_16 : decode cX12_readsErrand 16 = .ok (.bipush 6, 2) := by decide +kernel
theorem dX12_readsErrand_18 : decode cX12_readsErrand 18 = .ok (.aload_n 0, 1) := by decide +kernel
theorem dX12_readsErrand_19 : decode cX12_readsErrand 19 = .ok (.getfield 206, 3) := by decide +kernel
theorem dX12_readsErrand_22 : decode cX12_readsErrand 22 = .ok (.imul, 1) := by decide +kernel
theorem dX12_readsErrand_23 : decode cX12_readsErrand 23 = .ok (.istore_n 1, 1) := by decide +kernel
theorem dX12_readsErrand_24 : decode cX12_readsErrand 24 = .ok (.aload_n 0, 1) := by decide +kernel
theorem dX12_readsErrand_25 : decode cX12_readsErrand 25 = .ok (.dup, 1) := by decide +kernel
theorem dX12_readsErrand_26 : decode cX12_readsErrand 26 = .ok (.getfield 156, 3) := by decide +kernel
theorem dX12_readsErrand_29 : decode cX12_readsErrand 29 = .ok (.iconst 1, 1) := by decide +kernel
theorem dX12_readsErrand_30 : decode cX12_readsErrand 30 = .ok (.iadd, 1) := by decide +kernel
theorem dX12_readsErrand_31 : decode cX12_readsErrand 31 = .ok (.putfield 156, 3) := by decide +kernel
theorem dX12_readsErrand_34 : decode cX12_readsErrand 34 = .ok (.aload_n 0, 1) := by decide +kernel
theorem dX12_readsErrand_35 : decode cX12_readsErrand 35 = .ok (.getfield 55, 3) := by decide +kernel
theorem dX12_readsErrand_38 : decode cX12_readsErrand 38 = .ok (.iload_n 1, 1) := by decide +kernel
theorem dX12_readsErrand_39 : decode cX12_readsErrand 39 = .ok (.aload_n 0, 1) := by decide +kernel
theorem dX12_readsErrand_40 : decode cX12_readsErrand 40 = .ok (.iconst 0, 1) := by decide +kernel
theorem dX12_readsErrand_41 : decode cX12_readsErrand 41 = .ok (.bipush 9, 2) := by decide +kernel
theorem dX12_readsErrand_43 : decode cX12_readsErrand 43 = .ok (.invokevirtual 209, 3) := by decide +kernel
theorem dX12_readsErrand_46 : decode cX12_readsErrand 46 = .ok (.iastore, 1) := by decide +kernel
theorem dX12_readsErrand_47 : decode cX12_readsErrand 47 = .ok (.aload_n 0, 1) := by decide +kernel
theorem dX12_readsErrand_48 : decode cX12_readsErrand 48 = .ok (.getfield 55, 3) := by decide +kernel
theorem dX12_readsErrand_51 : decode cX12_readsErrand 51 = .ok (.iload_n 1, 1) := by decide +kernel
theorem dX12_readsErrand_52 : decode cX12_readsErrand 52 = .ok (.iaload, 1) := by decide +kernel
theorem dX12_readsErrand_53 : decode cX12_readsErrand 53 = .ok (.ifCond .ge 5, 3) := by decide +kernel
theorem dX12_readsErrand_56 : decode cX12_readsErrand 56 = .ok (.iconst 0, 1) := by decide +kernel
theorem dX12_readsErrand_57 : decode cX12_readsErrand 57 = .ok (.ireturn, 1) := by decide +kernel
theorem dX12_readsErrand_58 : decode cX12_readsErrand 58 = .ok (.aload_n 0, 1) := by decide +kernel
theorem dX12_readsErrand_59 : decode cX12_readsErrand 59 = .ok (.getfield 55, 3) := by decide +kernel
theorem dX12_readsErrand_62 : decode cX12_readsErrand 62 = .ok (.iload_n 1, 1) := by decide +kernel
theorem dX12_readsErrand_63 : decode cX12_readsErrand 63 = .ok (.iconst 1, 1) := by decide +kernel
theorem dX12_readsErrand_64 : decode cX12_readsErrand 64 = .ok (.iadd, 1) := by decide +kernel
theorem dX12_readsErrand_65 : decode cX12_readsErrand 65 = .ok (.aload_n 0, 1) := by decide +kernel
theorem dX12_readsErrand_66 : decode cX12_readsErrand 66 = .ok (.iconst 1, 1) := by decide +kernel
theorem dX12_readsErrand_67 : decode cX12_readsErrand 67 = .ok (.bipush 9, 2) := by decide +kernel
theorem dX12_readsErrand_69 : decode cX12_readsErrand 69 = .ok (.invokevirtual 209, 3) := by decide +kernel
theorem dX12_readsErrand_72 : decode cX12_readsErrand 72 = .ok (.iastore, 1) := by decide +kernel
theorem dX12_readsErrand_73 : decode cX12_readsErrand 73 = .ok (.aload_n 0, 1) := by decide +kernel
theorem dX12_readsErrand_74 : decode cX12_readsErrand 74 = .ok (.getfield 55, 3) := by decide +kernel
theorem dX12_readsErrand_77 : decode cX12_readsErrand 77 = .ok (.iload_n 1, 1) := by decide +kernel
theorem dX12_readsErrand_78 : decode cX12_readsErrand 78 = .ok (.iconst 1, 1) := by decide +kernel
theorem dX12_readsErrand_79 : decode cX12_readsErrand 79 = .ok (.iadd, 1) := by decide +kernel
theorem dX12_readsErrand_80 : decode cX12_readsErrand 80 = .ok (.iaload, 1) := by decide +kernel
theorem dX12_readsErrand_81 : decode cX12_readsErrand 81 = .ok (.ifCond .lt 12, 3) := by decide +kernel
theorem dX12_readsErrand_84 : decode cX12_readsErrand 84 = .ok (.aload_n 0, 1) := by decide +kernel
theorem dX12_readsErrand_85 : decode cX12_readsErrand 85 = .ok (.bipush 64, 2) := by decide +kernel
theorem dX12_readsErrand_87 : decode cX12_readsErrand 87 = .ok (.invokevirtual 202, 3) := by decide +kernel
theorem dX12_readsErrand_90 : decode cX12_readsErrand 90 = .ok (.ifCond .ne 5, 3) := by decide +kernel
theorem dX12_readsErrand_93 : decode cX12_readsErrand 93 = .ok (.iconst 0, 1) := by decide +kernel
theorem dX12_readsErrand_94 : decode cX12_readsErrand 94 = .ok (.ireturn, 1) := by decide +kernel
theorem dX12_readsErrand_95 : decode cX12_readsErrand 95 = .ok (.aload_n 0, 1) := by decide +kernel
theorem dX12_readsErrand_96 : decode cX12_readsErrand 96 = .ok (.getfield 55, 3) := by decide +kernel
theorem dX12_readsErrand_99 : decode cX12_readsErrand 99 = .ok (.iload_n 1, 1) := by decide +kernel
theorem dX12_readsErrand_100 : decode cX12_readsErrand 100 = .ok (.iconst 2, 1) := by decide +kernel
theorem dX12_readsErrand_101 : decode cX12_readsErrand 101 = .ok (.iadd, 1) := by decide +kernel
theorem dX12_readsErrand_102 : decode cX12_readsErrand 102 = .ok (.aload_n 0, 1) := by decide +kernel
theorem dX12_readsErrand_103 : decode cX12_readsErrand 103 = .ok (.iconst 2, 1) := by decide +kernel
theorem dX12_readsErrand_104 : decode cX12_readsErrand 104 = .ok (.invokevirtual 212, 3) := by decide +kernel
theorem dX12_readsErrand_107 : decode cX12_readsErrand 107 = .ok (.iastore, 1) := by decide +kernel
theorem dX12_readsErrand_108 : decode cX12_readsErrand 108 = .ok (.aload_n 0, 1) := by decide +kernel
theorem dX12_readsErrand_109 : decode cX12_readsErrand 109 = .ok (.getfield 55, 3) := by decide +kernel
theorem dX12_readsErrand_112 : decode cX12_readsErrand 112 = .ok (.iload_n 1, 1) := by decide +kernel
theorem dX12_readsErrand_113 : decode cX12_readsErrand 113 = .ok (.iconst 2, 1) := by decide +kernel
theorem dX12_readsErrand_114 : decode cX12_readsErrand 114 = .ok (.iadd, 1) := by decide +kernel
theorem dX12_readsErrand_115 : decode cX12_readsErrand 115 = .ok (.iaload, 1) := by decide +kernel
theorem dX12_readsErrand_116 : decode cX12_readsErrand 116 = .ok (.ifCond .lt 12, 3) := by decide +kernel
theorem dX12_readsErrand_119 : decode cX12_readsErrand 119 = .ok (.aload_n 0, 1) := by decide +kernel
theorem dX12_readsErrand_120 : decode cX12_readsErrand 120 = .ok (.bipush 45, 2) := by decide +kernel
theorem dX12_readsErrand_122 : decode cX12_readsErrand 122 = .ok (.invokevirtual 202, 3) := by decide +kernel
theorem dX12_readsErrand_125 : decode cX12_readsErrand 125 = .ok (.ifCond .ne 5, 3) := by decide +kernel
theorem dX12_readsErrand_128 : decode cX12_readsErrand 128 = .ok (.iconst 0, 1) := by decide +kernel
theorem dX12_readsErrand_129 : decode cX12_readsErrand 129 = .ok (.ireturn, 1) := by decide +kernel
theorem dX12_readsErrand_130 : decode cX12_readsErrand 130 = .ok (.aload_n 0, 1) := by decide +kernel
theorem dX12_readsErrand_131 : decode cX12_readsErrand 131 = .ok (.getfield 55, 3) := by decide +kernel
theorem dX12_readsErrand_134 : decode cX12_readsErrand 134 = .ok (.iload_n 1, 1) := by decide +kernel
theorem dX12_readsErrand_135 : decode cX12_readsErrand 135 = .ok (.iconst 3, 1) := by decide +kernel
theorem dX12_readsErrand_136 : decode cX12_readsErrand 136 = .ok (.iadd, 1) := by decide +kernel
theorem dX12_readsErrand_137 : decode cX12_readsErrand 137 = .ok (.aload_n 0, 1) := by decide +kernel
theorem dX12_readsErrand_138 : decode cX12_readsErrand 138 = .ok (.iconst 2, 1) := by decide +kernel
theorem dX12_readsErrand_139 : decode cX12_readsErrand 139 = .ok (.invokevirtual 212, 3) := by decide +kernel
theorem dX12_readsErrand_142 : decode cX12_readsErrand 142 = .ok (.iastore, 1) := by decide +kernel
theorem dX12_readsErrand_143 : decode cX12_readsErrand 143 = .ok (.aload_n 0, 1) := by decide +kernel
theorem dX12_readsErrand_144 : decode cX12_readsErrand 144 = .ok (.getfield 55, 3) := by decide +kernel
theorem dX12_readsErrand_147 : decode cX12_readsErrand 147 = .ok (.iload_n 1, 1) := by decide +kernel
theorem dX12_readsErrand_148 : decode cX12_readsErrand 148 = .ok (.iconst 3, 1) := by decide +kernel
theorem dX12_readsErrand_149 : decode cX12_readsErrand 149 = .ok (.iadd, 1) := by decide +kernel
theorem dX12_readsErrand_150 : decode cX12_readsErrand 150 = .ok (.iaload, 1) := by decide +kernel
theorem dX12_readsErrand_151 : decode cX12_readsErrand 151 = .ok (.aload_n 0, 1) := by decide +kernel
theorem dX12_readsErrand_152 : decode cX12_readsErrand 152 = .ok (.getfield 55, 3) := by decide +kernel
theorem dX12_readsErrand_155 : decode cX12_readsErrand 155 = .ok (.iload_n 1, 1) := by decide +kernel
theorem dX12_readsErrand_156 : decode cX12_readsErrand 156 = .ok (.iconst 2, 1) := by decide +kernel
theorem dX12_readsErrand_157 : decode cX12_readsErrand 157 = .ok (.iadd, 1) := by decide +kernel
theorem dX12_readsErrand_158 : decode cX12_readsErrand 158 = .ok (.iaload, 1) := by decide +kernel
theorem dX12_readsErrand_159 : decode cX12_readsErrand 159 = .ok (.if_icmp .ge 33, 3) := by decide +kernel
theorem dX12_readsErrand_162 : decode cX12_readsErrand 162 = .ok (.aload_n 0, 1) := by decide +kernel
theorem dX12_readsErrand_163 : decode cX12_readsErrand 163 = .ok (.dup, 1) := by decide +kernel
theorem dX12_readsErrand_164 : decode cX12_readsErrand 164 = .ok (.getfield 156, 3) := by decide +kernel
theorem dX12_readsErrand_167 : decode cX12_readsErrand 167 = .ok (.aload_n 0, 1) := by decide +kernel
theorem dX12_readsErrand_168 : decode cX12_readsErrand 168 = .ok (.getfield 55, 3) := by decide +kernel
theorem dX12_readsErrand_171 : decode cX12_readsErrand 171 = .ok (.iload_n 1, 1) := by decide +kernel
theorem dX12_readsErrand_172 : decode cX12_readsErrand 172 = .ok (.iconst 3, 1) := by decide +kernel
theorem dX12_readsErrand_173 : decode cX12_readsErrand 173 = .ok (.iadd, 1) := by decide +kernel
theorem dX12_readsErrand_174 : decode cX12_readsErrand 174 = .ok (.iaload, 1) := by decide +kernel
theorem dX12_readsErrand_175 : decode cX12_readsErrand 175 = .ok (.ifCond .lt 7, 3) := by decide +kernel
theorem dX12_readsErrand_178 : decode cX12_readsErrand 178 = .ok (.iconst 1, 1) := by decide +kernel
theorem dX12_readsErrand_179 : decode cX12_readsErrand 179 = .ok (.goto 4, 3) := by decide +kernel
theorem dX12_readsErrand_182 : decode cX12_readsErrand 182 = .ok (.iconst 0, 1) := by decide +kernel
theorem dX12_readsErrand_183 : decode cX12_readsErrand 183 = .ok (.invokestatic 171, 3) := by decide +kernel
theorem dX12_readsErrand_186 : decode cX12_readsErrand 186 = .ok (.isub, 1) := by decide +kernel
theorem dX12_readsErrand_187 : decode cX12_readsErrand 187 = .ok (.putfield 156, 3) := by decide +kernel
theorem dX12_readsErrand_190 : decode cX12_readsErrand 190 = .ok (.iconst 0, 1) := by decide +kernel
theorem dX12_readsErrand_191 : decode cX12_readsErrand 191 = .ok (.ireturn, 1) := by decide +kernel
theorem dX12_readsErrand_192 : decode cX12_readsErrand 192 = .ok (.aload_n 0, 1) := by decide +kernel
theorem dX12_readsErrand_193 : decode cX12_readsErrand 193 = .ok (.getfield 55, 3) := by decide +kernel
theorem dX12_readsErrand_196 : decode cX12_readsErrand 196 = .ok (.iload_n 1, 1) := by decide +kernel
theorem dX12_readsErrand_197 : decode cX12_readsErrand 197 = .ok (.iconst 4, 1) := by decide +kernel
theorem dX12_readsErrand_198 : decode cX12_readsErrand 198 = .ok (.iadd, 1) := by decide +kernel
theorem dX12_readsErrand_199 : decode cX12_readsErrand 199 = .ok (.iconst 1, 1) := by decide +kernel
theorem dX12_readsErrand_200 : decode cX12_readsErrand 200 = .ok (.aload_n 0, 1) := by decide +kernel
theorem dX12_readsErrand_201 : decode cX12_readsErrand 201 = .ok (.ldc 216, 2) := by decide +kernel
theorem dX12_readsErrand_203 : decode cX12_readsErrand 203 = .ok (.invokevirtual 218, 3) := by decide +kernel
theorem dX12_readsErrand_206 : decode cX12_readsErrand 206 = .ok (.iadd, 1) := by decide +kernel
theorem dX12_readsErrand_207 : decode cX12_readsErrand 207 = .ok (.iastore, 1) := by decide +kernel
theorem dX12_readsErrand_208 : decode cX12_readsErrand 208 = .ok (.aload_n 0, 1) := by decide +kernel
theorem dX12_readsErrand_209 : decode cX12_readsErrand 209 = .ok (.getfield 55, 3) := by decide +kernel
theorem dX12_readsErrand_212 : decode cX12_readsErrand 212 = .ok (.iload_n 1, 1) := by decide +kernel
theorem dX12_readsErrand_213 : decode cX12_readsErrand 213 = .ok (.iconst 5, 1) := by decide +kernel
theorem dX12_readsErrand_214 : decode cX12_readsErrand 214 = .ok (.iadd, 1) := by decide +kernel
theorem dX12_readsErrand_215 : decode cX12_readsErrand 215 = .ok (.aload_n 0, 1) := by decide +kernel
theorem dX12_readsErrand_216 : decode cX12_readsErrand 216 = .ok (.bipush 94, 2) := by decide +kernel
theorem dX12_readsErrand_218 : decode cX12_readsErrand 218 = .ok (.invokevirtual 202, 3) := by decide +kernel
theorem dX12_readsErrand_221 : decode cX12_readsErrand 221 = .ok (.invokestatic 171, 3) := by decide +kernel
theorem dX12_readsErrand_224 : decode cX12_readsErrand 224 = .ok (.iastore, 1) := by decide +kernel
theorem dX12_readsErrand_225 : decode cX12_readsErrand 225 = .ok (.aload_n 0, 1) := by decide +kernel
theorem dX12_readsErrand_226 : decode cX12_readsErrand 226 = .ok (.dup, 1) := by decide +kernel
theorem dX12_readsErrand_227 : decode cX12_readsErrand 227 = .ok (.getfield 206, 3) := by decide +kernel
theorem dX12_readsErrand_230 : decode cX12_readsErrand 230 = .ok (.iconst 1, 1) := by decide +kernel
theorem dX12_readsErrand_231 : decode cX12_readsErrand 231 = .ok (.iadd, 1) := by decide +kernel
theorem dX12_readsErrand_232 : decode cX12_readsErrand 232 = .ok (.putfield 206, 3) := by decide +kernel
theorem dX12_readsErrand_235 : decode cX12_readsErrand 235 = .ok (.iconst 1, 1) := by decide +kernel
theorem dX12_readsErrand_236 : decode cX12_readsErrand 236 = .ok (.ireturn, 1) := by decide +kernel
theorem dX12_readsLine_0 : decode cX12_readsLine 0 = .ok (.aload_n 0, 1) := by decide +kernel
theorem dX12_readsLine_1 : decode cX12_readsLine 1 = .ok (.ldc 221, 2) := by decide +kernel
theorem dX12_readsLine_3 : decode cX12_readsLine 3 = .ok (.invokevirtual 189, 3) := by decide +kernel
theorem dX12_readsLine_6 : decode cX12_readsLine 6 = .ok (.ifCond .ne 10, 3) := by decide +kernel
theorem dX12_readsLine_9 : decode cX12_readsLine 9 = .ok (.aload_n 0, 1) := by decide +kernel
theorem dX12_readsLine_10 : decode cX12_readsLine 10 = .ok (.invokevirtual 223, 3) := by decide +kernel
theorem dX12_readsLine_13 : decode cX12_readsLine 13 = .ok (.goto 24, 3) := by decide +kernel
theorem dX12_readsLine_16 : decode cX12_readsLine 16 = .ok (.aload_n 0, 1) := by decide +kernel
theorem dX12_readsLine_17 : decode cX12_readsLine 17 = .ok (.ldc 226, 2) := by decide +kernel
theorem dX12_readsLine_19 : decode cX12_readsLine 19 = .ok (.invokevirtual 189, 3) := by decide +kernel
theorem dX12_readsLine_22 : decode cX12_readsLine 22 = .ok (.ifCond .ne 14, 3) := by decide +kernel
theorem dX12_readsLine_25 : decode cX12_readsLine 25 = .ok (.aload_n 0, 1) := by decide +kernel
theorem dX12_readsLine_26 : decode cX12_readsLine 26 = .ok (.invokevirtual 228, 3) := by decide +kernel
theorem dX12_readsLine_29 : decode cX12_readsLine 29 = .ok (.ifCond .eq 7, 3) := by decide +kernel
theorem dX12_readsLine_32 : decode cX12_readsLine 32 = .ok (.iconst 1, 1) := by decide +kernel
theorem dX12_readsLine_33 : decode cX12_readsLine 33 = .ok (.goto 4, 3) := by decide +kernel
theorem dX12_readsLine_36 : decode cX12_readsLine 36 = .ok (.iconst 0, 1) := by decide +kernel
theorem dX12_readsLine_37 : decode cX12_readsLine 37 = .ok (.ireturn, 1) := by decide +kernel
theorem dX12_station_0 : decode cX12_station 0 = .ok (.aload_n 0, 1) := by decide +kernel
theorem dX12_station_1 : decode cX12_station 1 = .ok (.iconst 0, 1) := by decide +kernel
theorem dX12_station_2 : decode cX12_station 2 = .ok (.putfield 133, 3) := by decide +kernel
theorem dX12_station_5 : decode cX12_station 5 = .ok (.aload_n 0, 1) := by decide +kernel
theorem dX12_station_6 : decode cX12_station 6 = .ok (.bipush 76, 2) := by decide +kernel
theorem dX12_station_8 : decode cX12_station 8 = .ok (.invokevirtual 231, 3) := by decide +kernel
theorem dX12_station_11 : decode cX12_station 11 = .ok (.istore_n 1, 1) := by decide +kernel
theorem dX12_station_12 : decode cX12_station 12 = .ok (.aload_n 0, 1) := by decide +kernel
theorem dX12_station_13 : decode cX12_station 13 = .ok (.iconst 0, 1) := by decide +kernel
theorem dX12_station_14 : decode cX12_station 14 = .ok (.putfield 199, 3) := by decide +kernel
theorem dX12_station_17 : decode cX12_station 17 = .ok (.aload_n 0, 1) := by decide +kernel
theorem dX12_station_18 : decode cX12_station 18 = .ok (.iconst 0, 1) := by decide +kernel
theorem dX12_station_19 : decode cX12_station 19 = .ok (.putfield 206, 3) := by decide +kernel
theorem dX12_station_22 : decode cX12_station 22 = .ok (.iconst 1, 1) := by decide +kernel
theorem dX12_station_23 : decode cX12_station 23 = .ok (.istore_n 2, 1) := by decide +kernel
theorem dX12_station_24 : decode cX12_station 24 = .ok (.iload_n 1, 1) := by decide +kernel
theorem dX12_station_25 : decode cX12_station 25 = .ok (.ifCond .le 7, 3) := by decide +kernel
theorem dX12_station_28 : decode cX12_station 28 = .ok (.iconst 1, 1) := by decide +kernel
theorem dX12_station_29 : decode cX12_station 29 = .ok (.goto 4, 3) := by decide +kernel
theorem dX12_station_32 : decode cX12_station 32 = .ok (.iconst 0, 1) := by decide +kernel
theorem dX12_station_33 : decode cX12_station 33 = .ok (.istore_n 3, 1) := by decide +kernel
theorem dX12_station_34 : decode cX12_station 34 = .ok (.iload_n 3, 1) := by decide +kernel
theorem dX12_station_35 : decode cX12_station 35 = .ok (.ifCond .eq 30, 3) := by decide +kernel
theorem dX12_station_38 : decode cX12_station 38 = .ok (.aload_n 0, 1) := by decide +kernel
theorem dX12_station_39 : decode cX12_station 39 = .ok (.invokevirtual 234, 3) := by decide +kernel
theorem dX12_station_42 : decode cX12_station 42 = .ok (.istore_n 2, 1) := by decide +kernel
theorem dX12_station_43 : decode cX12_station 43 = .ok (.iload_n 2, 1) := by decide +kernel
theorem dX12_station_44 : decode cX12_station 44 = .ok (.ifCond .eq 16, 3) := by decide +kernel
theorem dX12_station_47 : decode cX12_station 47 = .ok (.aload_n 0, 1) := by decide +kernel
theorem dX12_station_48 : decode cX12_station 48 = .ok (.bipush 59, 2) := by decide +kernel
theorem dX12_station_50 : decode cX12_station 50 = .ok (.invokevirtual 202, 3) := by decide +kernel
theorem dX12_station_53 : decode cX12_station 53 = .ok (.ifCond .eq 7, 3) := by decide +kernel
theorem dX12_station_56 : decode cX12_station 56 = .ok (.iconst 1, 1) := by decide +kernel
theorem dX12_station_57 : decode cX12_station 57 = .ok (.goto 4, 3) := by decide +kernel
theorem dX12_station_60 : decode cX12_station 60 = .ok (.iconst 0, 1) := by decide +kernel
theorem dX12_station_61 : decode cX12_station 61 = .ok (.istore_n 3, 1) := by decide +kernel
theorem dX12_station_62 : decode cX12_station 62 = .ok (.goto (-28), 3) := by decide +kernel
theorem dX12_station_65 : decode cX12_station 65 = .ok (.aload_n 0, 1) := by decide +kernel
theorem dX12_station_66 : decode cX12_station 66 = .ok (.iload_n 1, 1) := by decide +kernel
theorem dX12_station_67 : decode cX12_station 67 = .ok (.bipush 76, 2) := by decide +kernel
theorem dX12_station_69 : decode cX12_station 69 = .ok (.iload_n 2, 1) := by decide +kernel
theorem dX12_station_70 : decode cX12_station 70 = .ok (.invokevirtual 237, 3) := by decide +kernel
theorem dX12_station_73 : decode cX12_station 73 = .ok (.istore 4, 2) := by decide +kernel
theorem dX12_station_75 : decode cX12_station 75 = .ok (.iload 4, 2) := by decide +kernel
theorem dX12_station_77 : decode cX12_station 77 = .ok (.ifCond .ge 6, 3) := by decide +kernel
theorem dX12_station_80 : decode cX12_station 80 = .ok (.iload 4, 2) := by decide +kernel
theorem dX12_station_82 : decode cX12_station 82 = .ok (.ireturn, 1) := by decide +kernel
theorem dX12_station_83 : decode cX12_station 83 = .ok (.iconst 0, 1) := by decide +kernel
theorem dX12_station_84 : decode cX12_station 84 = .ok (.istore 5, 2) := by decide +kernel
theorem dX12_station_86 : decode cX12_station 86 = .ok (.iload 5, 2) := by decide +kernel
theorem dX12_station_88 : decode cX12_station 88 = .ok (.aload_n 0, 1) := by decide +kernel
theorem dX12_station_89 : decode cX12_station 89 = .ok (.getfield 199, 3) := by decide +kernel
theorem dX12_station_92 : decode cX12_station 92 = .ok (.if_icmp .ge 67, 3) := by decide +kernel
theorem dX12_station_95 : decode cX12_station 95 = .ok (.aload_n 0, 1) := by decide +kernel
theorem dX12_station_96 : decode cX12_station 96 = .ok (.getfield 17, 3) := by decide +kernel
theorem dX12_station_99 : decode cX12_station 99 = .ok (.aload_n 0, 1) := by decide +kernel
theorem dX12_station_100 : decode cX12_station 100 = .ok (.getfield 143, 3) := by decide +kernel
theorem dX12_station_103 : decode cX12_station 103 = .ok (.aload_n 0, 1) := by decide +kernel
theorem dX12_station_104 : decode cX12_station 104 = .ok (.getfield 52, 3) := by decide +kernel
theorem dX12_station_107 : decode cX12_station 107 = .ok (.iload 5, 2) := by decide +kernel
theorem dX12_station_109 : decode cX12_station 109 = .ok (.baload, 1) := by decide +kernel
theorem dX12_station_110 : decode cX12_station 110 = .ok (.bastore, 1) := by decide +kernel
theorem dX12_station_111 : decode cX12_station 111 = .ok (.iconst 0, 1) := by decide +kernel
theorem dX12_station_112 : decode cX12_station 112 = .ok (.istore 6, 2) := by decide +kernel
theorem dX12_station_114 : decode cX12_station 114 = .ok (.iload 6, 2) := by decide +kernel
theorem dX12_station_116 : decode cX12_station 116 = .ok (.bipush 8, 2) := by decide +kernel
theorem dX12_station_118 : decode cX12_station 118 = .ok (.if_icmp .ge 25, 3) := by decide +kernel
theorem dX12_station_121 : decode cX12_station 121 = .ok (.aload_n 0, 1) := by decide +kernel
theorem dX12_station_122 : decode cX12_station 122 = .ok (.getfield 21, 3) := by decide +kernel
theorem dX12_station_125 : decode cX12_station 125 = .ok (.bipush 8, 2) := by decide +kernel
theorem dX12_station_127 : decode cX12_station 127 = .ok (.aload_n 0, 1) := by decide +kernel
theorem dX12_station_128 : decode cX12_station 128 = .ok (.getfield 143, 3) := by decide +kernel
theorem dX12_station_131 : decode cX12_station 131 = .ok (.imul, 1) := by decide +kernel
theorem dX12_station_132 : decode cX12_station 132 = .ok (.iload 6, 2) := by decide +kernel
theorem dX12_station_134 : decode cX12_station 134 = .ok (.iadd, 1) := by decide +kernel
theorem dX12_station_135 : decode cX12_station 135 = .ok (.iconst 1, 1) := by decide +kernel
theorem dX12_station_136 : decode cX12_station 136 = .ok (.iastore, 1) := by decide +kernel
theorem dX12_station_137 : decode cX12_station 137 = .ok (.iinc 6 1, 3) := by decide +kernel
theorem dX12_station_140 : decode cX12_station 140 = .ok (.goto (-26), 3) := by decide +kernel
theorem dX12_station_143 : decode cX12_station 143 = .ok (.aload_n 0, 1) := by decide +kernel
theorem dX12_station_144 : decode cX12_station 144 = .ok (.dup, 1) := by decide +kernel
theorem dX12_station_145 : decode cX12_station 145 = .ok (.getfield 143, 3) := by decide +kernel
theorem dX12_station_148 : decode cX12_station 148 = .ok (.iconst 1, 1) := by decide +kernel
theorem dX12_station_149 : decode cX12_station 149 = .ok (.iadd, 1) := by decide +kernel
theorem dX12_station_150 : decode cX12_station 150 = .ok (.putfield 143, 3) := by decide +kernel
theorem dX12_station_153 : decode cX12_station 153 = .ok (.iinc 5 1, 3) := by decide +kernel
theorem dX12_station_156 : decode cX12_station 156 = .ok (.goto (-70), 3) := by decide +kernel
theorem dX12_station_159 : decode cX12_station 159 = .ok (.iconst 0, 1) := by decide +kernel
theorem dX12_station_160 : decode cX12_station 160 = .ok (.istore 5, 2) := by decide +kernel
theorem dX12_station_162 : decode cX12_station 162 = .ok (.iload 5, 2) := by decide +kernel
theorem dX12_station_164 : decode cX12_station 164 = .ok (.aload_n 0, 1) := by decide +kernel
theorem dX12_station_165 : decode cX12_station 165 = .ok (.getfield 206, 3) := by decide +kernel
theorem dX12_station_168 : decode cX12_station 168 = .ok (.if_icmp .ge 141, 3) := by decide +kernel
theorem dX12_station_171 : decode cX12_station 171 = .ok (.bipush 6, 2) := by decide +kernel
theorem dX12_station_173 : decode cX12_station 173 = .ok (.iload 5, 2) := by decide +kernel
theorem dX12_station_175 : decode cX12_station 175 = .ok (.imul, 1) := by decide +kernel
theorem dX12_station_176 : decode cX12_station 176 = .ok (.istore 6, 2) := by decide +kernel
theorem dX12_station_178 : decode cX12_station 178 = .ok (.aload_n 0, 1) := by decide +kernel
theorem dX12_station_179 : decode cX12_station 179 = .ok (.getfield 25, 3) := by decide +kernel
theorem dX12_station_182 : decode cX12_station 182 = .ok (.aload_n 0, 1) := by decide +kernel
theorem dX12_station_183 : decode cX12_station 183 = .ok (.getfield 150, 3) := by decide +kernel
theorem dX12_station_186 : decode cX12_station 186 = .ok (.aload_n 0, 1) := by decide +kernel
theorem dX12_station_187 : decode cX12_station 187 = .ok (.getfield 55, 3) := by decide +kernel
theorem dX12_station_190 : decode cX12_station 190 = .ok (.iload 6, 2) := by decide +kernel
theorem dX12_station_192 : decode cX12_station 192 = .ok (.iaload, 1) := by decide +kernel
theorem dX12_station_193 : decode cX12_station 193 = .ok (.iastore, 1) := by decide +kernel
theorem dX12_station_194 : decode cX12_station 194 = .ok (.aload_n 0, 1) := by decide +kernel
theorem dX12_station_195 : decode cX12_station 195 = .ok (.getfield 28, 3) := by decide +kernel
theorem dX12_station_198 : decode cX12_station 198 = .ok (.aload_n 0, 1) := by decide +kernel
theorem dX12_station_199 : decode cX12_station 199 = .ok (.getfield 150, 3) := by decide +kernel
theorem dX12_station_202 : decode cX12_station 202 = .ok (.aload_n 0, 1) := by decide +kernel
theorem dX12_station_203 : decode cX12_station 203 = .ok (.getfield 55, 3) := by decide +kernel
theorem dX12_station_206 : decode cX12_station 206 = .ok (.iload 6, 2) := by decide +kernel
theorem dX12_station_208 : decode cX12_station 208 = .ok (.iconst 1, 1) := by decide +kernel
theorem dX12_station_209 : decode cX12_station 209 = .ok (.iadd, 1) := by decide +kernel
theorem dX12_station_210 : decode cX12_station 210 = .ok (.iaload, 1) := by decide +kernel
theorem dX12_station_211 : decode cX12_station 211 = .ok (.iastore, 1) := by decide +kernel
theorem dX12_station_212 : decode cX12_station 212 = .ok (.aload_n 0, 1) := by decide +kernel
theorem dX12_station_213 : decode cX12_station 213 = .ok (.getfield 31, 3) := by decide +kernel
theorem dX12_station_216 : decode cX12_station 216 = .ok (.aload_n 0, 1) := by decide +kernel
theorem dX12_station_217 : decode cX12_station 217 = .ok (.getfield 150, 3) := by decide +kernel
theorem dX12_station_220 : decode cX12_station 220 = .ok (.aload_n 0, 1) := by decide +kernel
theorem dX12_station_221 : decode cX12_station 221 = .ok (.getfield 55, 3) := by decide +kernel
theorem dX12_station_224 : decode cX12_station 224 = .ok (.iload 6, 2) := by decide +kernel
theorem dX12_station_226 : decode cX12_station 226 = .ok (.iconst 2, 1) := by decide +kernel
theorem dX12_station_227 : decode cX12_station 227 = .ok (.iadd, 1) := by decide +kernel
theorem dX12_station_228 : decode cX12_station 228 = .ok (.iaload, 1) := by decide +kernel
theorem dX12_station_229 : decode cX12_station 229 = .ok (.iastore, 1) := by decide +kernel
theorem dX12_station_230 : decode cX12_station 230 = .ok (.aload_n 0, 1) := by decide +kernel
theorem dX12_station_231 : decode cX12_station 231 = .ok (.getfield 34, 3) := by decide +kernel
theorem dX12_station_234 : decode cX12_station 234 = .ok (.aload_n 0, 1) := by decide +kernel
theorem dX12_station_235 : decode cX12_station 235 = .ok (.getfield 150, 3) := by decide +kernel
theorem dX12_station_238 : decode cX12_station 238 = .ok (.aload_n 0, 1) := by decide +kernel
theorem dX12_station_239 : decode cX12_station 239 = .ok (.getfield 55, 3) := by decide +kernel
theorem dX12_station_242 : decode cX12_station 242 = .ok (.iload 6, 2) := by decide +kernel
theorem dX12_station_244 : decode cX12_station 244 = .ok (.iconst 3, 1) := by decide +kernel
theorem dX12_station_245 : decode cX12_station 245 = .ok (.iadd, 1) := by decide +kernel
theorem dX12_station_246 : decode cX12_station 246 = .ok (.iaload, 1) := by decide +kernel
theorem dX12_station_247 : decode cX12_station 247 = .ok (.iastore, 1) := by decide +kernel
theorem dX12_station_248 : decode cX12_station 248 = .ok (.aload_n 0, 1) := by decide +kernel
theorem dX12_station_249 : decode cX12_station 249 = .ok (.getfield 37, 3) := by decide +kernel
theorem dX12_station_252 : decode cX12_station 252 = .ok (.aload_n 0, 1) := by decide +kernel
theorem dX12_station_253 : decode cX12_station 253 = .ok (.getfield 150, 3) := by decide +kernel
theorem dX12_station_256 : decode cX12_station 256 = .ok (.aload_n 0, 1) := by decide +kernel
theorem dX12_station_257 : decode cX12_station 257 = .ok (.getfield 55, 3) := by decide +kernel
theorem dX12_station_260 : decode cX12_station 260 = .ok (.iload 6, 2) := by decide +kernel
theorem dX12_station_262 : decode cX12_station 262 = .ok (.iconst 4, 1) := by decide +kernel
theorem dX12_station_263 : decode cX12_station 263 = .ok (.iadd, 1) := by decide +kernel
theorem dX12_station_264 : decode cX12_station 264 = .ok (.iaload, 1) := by decide +kernel
theorem dX12_station_265 : decode cX12_station 265 = .ok (.iastore, 1) := by decide +kernel
theorem dX12_station_266 : decode cX12_station 266 = .ok (.aload_n 0, 1) := by decide +kernel
theorem dX12_station_267 : decode cX12_station 267 = .ok (.getfield 40, 3) := by decide +kernel
theorem dX12_station_270 : decode cX12_station 270 = .ok (.aload_n 0, 1) := by decide +kernel
theorem dX12_station_271 : decode cX12_station 271 = .ok (.getfield 150, 3) := by decide +kernel
theorem dX12_station_274 : decode cX12_station 274 = .ok (.aload_n 0, 1) := by decide +kernel
theorem dX12_station_275 : decode cX12_station 275 = .ok (.getfield 55, 3) := by decide +kernel
theorem dX12_station_278 : decode cX12_station 278 = .ok (.iload 6, 2) := by decide +kernel
theorem dX12_station_280 : decode cX12_station 280 = .ok (.iconst 5, 1) := by decide +kernel
theorem dX12_station_281 : decode cX12_station 281 = .ok (.iadd, 1) := by decide +kernel
theorem dX12_station_282 : decode cX12_station 282 = .ok (.iaload, 1) := by decide +kernel
theorem dX12_station_283 : decode cX12_station 283 = .ok (.iconst 1, 1) := by decide +kernel
theorem dX12_station_284 : decode cX12_station 284 = .ok (.if_icmp .ne 7, 3) := by decide +kernel
theorem dX12_station_287 : decode cX12_station 287 = .ok (.iconst 1, 1) := by decide +kernel
theorem dX12_station_288 : decode cX12_station 288 = .ok (.goto 4, 3) := by decide +kernel
theorem dX12_station_291 : decode cX12_station 291 = .ok (.iconst 0, 1) := by decide +kernel
theorem dX12_station_292 : decode cX12_station 292 = .ok (.bastore, 1) := by decide +kernel
theorem dX12_station_293 : decode cX12_station 293 = .ok (.aload_n 0, 1) := by decide +kernel
theorem dX12_station_294 : decode cX12_station 294 = .ok (.dup, 1) := by decide +kernel
theorem dX12_station_295 : decode cX12_station 295 = .ok (.getfield 150, 3) := by decide +kernel
theorem dX12_station_298 : decode cX12_station 298 = .ok (.iconst 1, 1) := by decide +kernel
theorem dX12_station_299 : decode cX12_station 299 = .ok (.iadd, 1) := by decide +kernel
theorem dX12_station_300 : decode cX12_station 300 = .ok (.putfield 150, 3) := by decide +kernel
theorem dX12_station_303 : decode cX12_station 303 = .ok (.iinc 5 1, 3) := by decide +kernel
theorem dX12_station_306 : decode cX12_station 306 = .ok (.goto (-144), 3) := by decide +kernel
theorem dX12_station_309 : decode cX12_station 309 = .ok (.iload_n 1, 1) := by decide +kernel
theorem dX12_station_310 : decode cX12_station 310 = .ok (.ifCond .le 18, 3) := by decide +kernel
theorem dX12_station_313 : decode cX12_station 313 = .ok (.aload_n 0, 1) := by decide +kernel
theorem dX12_station_314 : decode cX12_station 314 = .ok (.iconst 0, 1) := by decide +kernel
theorem dX12_station_315 : decode cX12_station 315 = .ok (.putfield 241, 3) := by decide +kernel
theorem dX12_station_318 : decode cX12_station 318 = .ok (.aload_n 0, 1) := by decide +kernel
theorem dX12_station_319 : decode cX12_station 319 = .ok (.dup, 1) := by decide +kernel
theorem dX12_station_320 : decode cX12_station 320 = .ok (.getfield 244, 3) := by decide +kernel
theorem dX12_station_323 : decode cX12_station 323 = .ok (.iconst 1, 1) := by decide +kernel
theorem dX12_station_324 : decode cX12_station 324 = .ok (.iadd, 1) := by decide +kernel
theorem dX12_station_325 : decode cX12_station 325 = .ok (.putfield 244, 3) := by decide +kernel
theorem dX12_station_328 : decode cX12_station 328 = .ok (.aload_n 0, 1) := by decide +kernel
theorem dX12_station_329 : decode cX12_station 329 = .ok (.getfield 199, 3) := by decide +kernel
theorem dX12_station_332 : decode cX12_station 332 = .ok (.aload_n 0, 1) := by decide +kernel
theorem dX12_station_333 : decode cX12_station 333 = .ok (.getfield 206, 3) := by decide +kernel
theorem dX12_station_336 : decode cX12_station 336 = .ok (.iadd, 1) := by decide +kernel
theorem dX12_station_337 : decode cX12_station 337 = .ok (.ireturn, 1) := by decide +kernel
theorem dX12_wishes_0 : decode cX12_wishes 0 = .ok (.aload_n 0, 1) := by decide +kernel
theorem dX12_wishes_1 : decode cX12_wishes 1 = .ok (.iconst 0, 1) := by decide +kernel
theorem dX12_wishes_2 : decode cX12_wishes 2 = .ok (.putfield 133, 3) := by decide +kernel
theorem dX12_wishes_5 : decode cX12_wishes 5 = .ok (.aload_n 0, 1) := by decide +kernel
theorem dX12_wishes_6 : decode cX12_wishes 6 = .ok (.bipush 80, 2) := by decide +kernel
theorem dX12_wishes_8 : decode cX12_wishes 8 = .ok (.invokevirtual 231, 3) := by decide +kernel
theorem dX12_wishes_11 : decode cX12_wishes 11 = .ok (.istore_n 2, 1) := by decide +kernel
theorem dX12_wishes_12 : decode cX12_wishes 12 = .ok (.aload_n 0, 1) := by decide +kernel
theorem dX12_wishes_13 : decode cX12_wishes 13 = .ok (.iload_n 1, 1) := by decide +kernel
theorem dX12_wishes_14 : decode cX12_wishes 14 = .ok (.invokevirtual 247, 3) := by decide +kernel
theorem dX12_wishes_17 : decode cX12_wishes 17 = .ok (.ifCond .ne 6, 3) := by decide +kernel
theorem dX12_wishes_20 : decode cX12_wishes 20 = .ok (.bipush (-100), 2) := by decide +kernel
theorem dX12_wishes_22 : decode cX12_wishes 22 = .ok (.ireturn, 1) := by decide +kernel
theorem dX12_wishes_23 : decode cX12_wishes 23 = .ok (.iconst 0, 1) := by decide +kernel
theorem dX12_wishes_24 : decode cX12_wishes 24 = .ok (.istore_n 3, 1) := by decide +kernel
theorem dX12_wishes_25 : decode cX12_wishes 25 = .ok (.iload_n 3, 1) := by decide +kernel
theorem dX12_wishes_26 : decode cX12_wishes 26 = .ok (.aload_n 0, 1) := by decide +kernel
theorem dX12_wishes_27 : decode cX12_wishes 27 = .ok (.getfield 150, 3) := by decide +kernel
theorem dX12_wishes_30 : decode cX12_wishes 30 = .ok (.if_icmp .ge 29, 3) := by decide +kernel
theorem dX12_wishes_33 : decode cX12_wishes 33 = .ok (.aload_n 0, 1) := by decide +kernel
theorem dX12_wishes_34 : decode cX12_wishes 34 = .ok (.invokevirtual 193, 3) := by decide +kernel
theorem dX12_wishes_37 : decode cX12_wishes 37 = .ok (.ifCond .eq 22, 3) := by decide +kernel
theorem dX12_wishes_40 : decode cX12_wishes 40 = .ok (.aload_n 0, 1) := by decide +kernel
theorem dX12_wishes_41 : decode cX12_wishes 41 = .ok (.getfield 58, 3) := by decide +kernel
theorem dX12_wishes_44 : decode cX12_wishes 44 = .ok (.iload_n 3, 1) := by decide +kernel
theorem dX12_wishes_45 : decode cX12_wishes 45 = .ok (.aload_n 0, 1) := by decide +kernel
theorem dX12_wishes_46 : decode cX12_wishes 46 = .ok (.iconst 0, 1) := by decide +kernel
theorem dX12_wishes_47 : decode cX12_wishes 47 = .ok (.bipush 9, 2) := by decide +kernel
theorem dX12_wishes_49 : decode cX12_wishes 49 = .ok (.invokevirtual 209, 3) := by decide +kernel
theorem dX12_wishes_52 : decode cX12_wishes 52 = .ok (.iastore, 1) := by decide +kernel
theorem dX12_wishes_53 : decode cX12_wishes 53 = .ok (.iinc 3 1, 3) := by decide +kernel
theorem dX12_wishes_56 : decode cX12_wishes 56 = .ok (.goto (-31), 3) := by decide +kernel
theorem dX12_wishes_59 : decode cX12_wishes 59 = .ok (.iload_n 3, 1) := by decide +kernel
theorem dX12_wishes_60 : decode cX12_wishes 60 = .ok (.aload_n 0, 1) := by decide +kernel
theorem dX12_wishes_61 : decode cX12_wishes 61 = .ok (.getfield 150, 3) := by decide +kernel
theorem dX12_wishes_64 : decode cX12_wishes 64 = .ok (.if_icmp .lt 11, 3) := by decide +kernel
theorem dX12_wishes_67 : decode cX12_wishes 67 = .ok (.aload_n 0, 1) := by decide +kernel
theorem dX12_wishes_68 : decode cX12_wishes 68 = .ok (.getfield 156, 3) := by decide +kernel
theorem dX12_wishes_71 : decode cX12_wishes 71 = .ok (.iload_n 2, 1) := by decide +kernel
theorem dX12_wishes_72 : decode cX12_wishes 72 = .ok (.if_icmp .ge 10, 3) := by decide +kernel
theorem dX12_wishes_75 : decode cX12_wishes 75 = .ok (.iconst (-1), 1) := by decide +kernel
theorem dX12_wishes_76 : decode cX12_wishes 76 = .ok (.aload_n 0, 1) := by decide +kernel
theorem dX12_wishes_77 : decode cX12_wishes 77 = .ok (.getfield 156, 3) := by decide +kernel
theorem dX12_wishes_80 : decode cX12_wishes 80 = .ok (.isub, 1) := by decide +kernel
theorem dX12_wishes_81 : decode cX12_wishes 81 = .ok (.ireturn, 1) := by decide +kernel
theorem dX12_wishes_82 : decode cX12_wishes 82 = .ok (.iconst 0, 1) := by decide +kernel
theorem dX12_wishes_83 : decode cX12_wishes 83 = .ok (.istore 4, 2) := by decide +kernel
theorem dX12_wishes_85 : decode cX12_wishes 85 = .ok (.iload 4, 2) := by decide +kernel
theorem dX12_wishes_87 : decode cX12_wishes 87 = .ok (.aload_n 0, 1) := by decide +kernel
theorem dX12_wishes_88 : decode cX12_wishes 88 = .ok (.getfield 150, 3) := by decide +kernel
theorem dX12_wishes_91 : decode cX12_wishes 91 = .ok (.if_icmp .ge 28, 3) := by decide +kernel
theorem dX12_wishes_94 : decode cX12_wishes 94 = .ok (.aload_n 0, 1) := by decide +kernel
theorem dX12_wishes_95 : decode cX12_wishes 95 = .ok (.getfield 21, 3) := by decide +kernel
theorem dX12_wishes_98 : decode cX12_wishes 98 = .ok (.bipush 8, 2) := by decide +kernel
theorem dX12_wishes_100 : decode cX12_wishes 100 = .ok (.iload_n 1, 1) := by decide +kernel
theorem dX12_wishes_101 : decode cX12_wishes 101 = .ok (.imul, 1) := by decide +kernel
theorem dX12_wishes_102 : decode cX12_wishes 102 = .ok (.iload 4, 2) := by decide +kernel
theorem dX12_wishes_104 : decode cX12_wishes 104 = .ok (.iadd, 1) := by decide +kernel
theorem dX12_wishes_105 : decode cX12_wishes 105 = .ok (.aload_n 0, 1) := by decide +kernel
theorem dX12_wishes_106 : decode cX12_wishes 106 = .ok (.getfield 58, 3) := by decide +kernel
theorem dX12_wishes_109 : decode cX12_wishes 109 = .ok (.iload 4, 2) := by decide +kernel
theorem dX12_wishes_111 : decode cX12_wishes 111 = .ok (.iaload, 1) := by decide +kernel
theorem dX12_wishes_112 : decode cX12_wishes 112 = .ok (.iastore, 1) := by decide +kernel
theorem dX12_wishes_113 : decode cX12_wishes 113 = .ok (.iinc 4 1, 3) := by decide +kernel
theorem dX12_wishes_116 : decode cX12_wishes 116 = .ok (.goto (-31), 3) := by decide +kernel
theorem dX12_wishes_119 : decode cX12_wishes 119 = .ok (.aload_n 0, 1) := by decide +kernel
theorem dX12_wishes_120 : decode cX12_wishes 120 = .ok (.getfield 150, 3) := by decide +kernel
theorem dX12_wishes_123 : decode cX12_wishes 123 = .ok (.ireturn, 1) := by decide +kernel
theorem dX12_codes_0 : decode cX12_codes 0 = .ok (.aload_n 0, 1) := by decide +kernel
theorem dX12_codes_1 : decode cX12_codes 1 = .ok (.getfield 64, 3) := by decide +kernel
theorem dX12_codes_4 : decode cX12_codes 4 = .ok (.aload_n 0, 1) := by decide +kernel
theorem dX12_codes_5 : decode cX12_codes 5 = .ok (.getfield 250, 3) := by decide +kernel
theorem dX12_codes_8 : decode cX12_codes 8 = .ok (.iload_n 1, 1) := by decide +kernel
theorem dX12_codes_9 : decode cX12_codes 9 = .ok (.iastore, 1) := by decide +kernel
theorem dX12_codes_10 : decode cX12_codes 10 = .ok (.aload_n 0, 1) := by decide +kernel
theorem dX12_codes_11 : decode cX12_codes 11 = .ok (.dup, 1) := by decide +kernel
theorem dX12_codes_12 : decode cX12_codes 12 = .ok (.getfield 250, 3) := by decide +kernel
theorem dX12_codes_15 : decode cX12_codes 15 = .ok (.iconst 1, 1) := by decide +kernel
theorem dX12_codes_16 : decode cX12_codes 16 = .ok (.iadd, 1) := by decide +kernel
theorem dX12_codes_17 : decode cX12_codes 17 = .ok (.putfield 250, 3) := by decide +kernel
theorem dX12_codes_20 : decode cX12_codes 20 = .ok (.return_, 1) := by decide +kernel
theorem dX12_readsNode_0 : decode cX12_readsNode 0 = .ok (.aload_n 0, 1) := by decide +kernel
theorem dX12_readsNode_1 : decode cX12_readsNode 1 = .ok (.bipush 45, 2) := by decide +kernel
theorem dX12_readsNode_3 : decode cX12_readsNode 3 = .ok (.invokevirtual 202, 3) := by decide +kernel
theorem dX12_readsNode_6 : decode cX12_readsNode 6 = .ok (.ifCond .eq 17, 3) := by decide +kernel
theorem dX12_readsNode_9 : decode cX12_readsNode 9 = .ok (.aload_n 0, 1) := by decide +kernel
theorem dX12_readsNode_10 : decode cX12_readsNode 10 = .ok (.invokevirtual 253, 3) := by decide +kernel
theorem dX12_readsNode_13 : decode cX12_readsNode 13 = .ok (.istore_n 1, 1) := by decide +kernel
theorem dX12_readsNode_14 : decode cX12_readsNode 14 = .ok (.aload_n 0, 1) := by decide +kernel
theorem dX12_readsNode_15 : decode cX12_readsNode 15 = .ok (.sipush 3000, 3) := by decide +kernel
theorem dX12_readsNode_18 : decode cX12_readsNode 18 = .ok (.invokevirtual 256, 3) := by decide +kernel
theorem dX12_readsNode_21 : decode cX12_readsNode 21 = .ok (.iload_n 1, 1) := by decide +kernel
theorem dX12_readsNode_22 : decode cX12_readsNode 22 = .ok (.ireturn, 1) := by decide +kernel
theorem dX12_readsNode_23 : decode cX12_readsNode 23 = .ok (.aload_n 0, 1) := by decide +kernel
theorem dX12_readsNode_24 : decode cX12_readsNode 24 = .ok (.invokevirtual 193, 3) := by decide +kernel
theorem dX12_readsNode_27 : decode cX12_readsNode 27 = .ok (.ifCond .eq 14, 3) := by decide +kernel
theorem dX12_readsNode_30 : decode cX12_readsNode 30 = .ok (.aload_n 0, 1) := by decide +kernel
theorem dX12_readsNode_31 : decode cX12_readsNode 31 = .ok (.aload_n 0, 1) := by decide +kernel
theorem dX12_readsNode_32 : decode cX12_readsNode 32 = .ok (.iconst 3, 1) := by decide +kernel
theorem dX12_readsNode_33 : decode cX12_readsNode 33 = .ok (.invokevirtual 212, 3) := by decide +kernel
theorem dX12_readsNode_36 : decode cX12_readsNode 36 = .ok (.invokevirtual 256, 3) := by decide +kernel
theorem dX12_readsNode_39 : decode cX12_readsNode 39 = .ok (.iconst 1, 1) := by decide +kernel
theorem dX12_readsNode_40 : decode cX12_readsNode 40 = .ok (.ireturn, 1) := by decide +kernel
theorem dX12_readsNode_41 : decode cX12_readsNode 41 = .ok (.aload_n 0, 1) := by decide +kernel
theorem dX12_readsNode_42 : decode cX12_readsNode 42 = .ok (.ldc_w 260, 3) := by decide +kernel
theorem dX12_readsNode_45 : decode cX12_readsNode 45 = .ok (.invokevirtual 218, 3) := by decide +kernel
theorem dX12_readsNode_48 : decode cX12_readsNode 48 = .ok (.istore_n 1, 1) := by decide +kernel
theorem dX12_readsNode_49 : decode cX12_readsNode 49 = .ok (.iload_n 1, 1) := by decide +kernel
theorem dX12_readsNode_50 : decode cX12_readsNode 50 = .ok (.ifCond .lt 14, 3) := by decide +kernel
theorem dX12_readsNode_53 : decode cX12_readsNode 53 = .ok (.aload_n 0, 1) := by decide +kernel
theorem dX12_readsNode_54 : decode cX12_readsNode 54 = .ok (.sipush 1000, 3) := by decide +kernel
theorem dX12_readsNode_57 : decode cX12_readsNode 57 = .ok (.iload_n 1, 1) := by decide +kernel
theorem dX12_readsNode_58 : decode cX12_readsNode 58 = .ok (.iadd, 1) := by decide +kernel
theorem dX12_readsNode_59 : decode cX12_readsNode 59 = .ok (.invokevirtual 256, 3) := by decide +kernel
theorem dX12_readsNode_62 : decode cX12_readsNode 62 = .ok (.iconst 1, 1) := by decide +kernel
theorem dX12_readsNode_63 : decode cX12_readsNode 63 = .ok (.ireturn, 1) := by decide +kernel
theorem dX12_readsNode_64 : decode cX12_readsNode 64 = .ok (.aload_n 0, 1) := by decide +kernel
theorem dX12_readsNode_65 : decode cX12_readsNode 65 = .ok (.getfield 159, 3) := by decide +kernel
theorem dX12_readsNode_68 : decode cX12_readsNode 68 = .ok (.iconst 4, 1) := by decide +kernel
theorem dX12_readsNode_69 : decode cX12_readsNode 69 = .ok (.if_icmp .eq 12, 3) := by decide +kernel
theorem dX12_readsNode_72 : decode cX12_readsNode 72 = .ok (.aload_n 0, 1) := by decide +kernel
theorem dX12_readsNode_73 : decode cX12_readsNode 73 = .ok (.bipush 40, 2) := by decide +kernel
theorem dX12_readsNode_75 : decode cX12_readsNode 75 = .ok (.invokevirtual 202, 3) := by decide +kernel
theorem dX12_readsNode_78 : decode cX12_readsNode 78 = .ok (.ifCond .ne 5, 3) := by decide +kernel
theorem dX12_readsNode_81 : decode cX12_readsNode 81 = .ok (.iconst 0, 1) := by decide +kernel
theorem dX12_readsNode_82 : decode cX12_readsNode 82 = .ok (.ireturn, 1) := by decide +kernel
theorem dX12_readsNode_83 : decode cX12_readsNode 83 = .ok (.aload_n 0, 1) := by decide +kernel
theorem dX12_readsNode_84 : decode cX12_readsNode 84 = .ok (.dup, 1) := by decide +kernel
theorem dX12_readsNode_85 : decode cX12_readsNode 85 = .ok (.getfield 159, 3) := by decide +kernel
theorem dX12_readsNode_88 : decode cX12_readsNode 88 = .ok (.iconst 1, 1) := by decide +kernel
theorem dX12_readsNode_89 : decode cX12_readsNode 89 = .ok (.iadd, 1) := by decide +kernel
theorem dX12_readsNode_90 : decode cX12_readsNode 90 = .ok (.putfield 159, 3) := by decide +kernel
theorem dX12_readsNode_93 : decode cX12_readsNode 93 = .ok (.aload_n 0, 1) := by decide +kernel
theorem dX12_readsNode_94 : decode cX12_readsNode 94 = .ok (.iconst 0, 1) := by decide +kernel
theorem dX12_readsNode_95 : decode cX12_readsNode 95 = .ok (.invokevirtual 262, 3) := by decide +kernel
theorem dX12_readsNode_98 : decode cX12_readsNode 98 = .ok (.ifCond .eq 12, 3) := by decide +kernel
theorem dX12_readsNode_101 : decode cX12_readsNode 101 = .ok (.aload_n 0, 1) := by decide +kernel
theorem dX12_readsNode_102 : decode cX12_readsNode 102 = .ok (.bipush 41, 2) := by decide +kernel
theorem dX12_readsNode_104 : decode cX12_readsNode 104 = .ok (.invokevirtual 202, 3) := by decide +kernel
theorem dX12_readsNode_107 : decode cX12_readsNode 107 = .ok (.ifCond .ne 5, 3) := by decide +kernel
theorem dX12_readsNode_110 : decode cX12_readsNode 110 = .ok (.iconst 0, 1) := by decide +kernel
theorem dX12_readsNode_111 : decode cX12_readsNode 111 = .ok (.ireturn, 1) := by decide +kernel
theorem dX12_readsNode_112 : decode cX12_readsNode 112 = .ok (.aload_n 0, 1) := by decide +kernel
theorem dX12_readsNode_113 : decode cX12_readsNode 113 = .ok (.dup, 1) := by decide +kernel
theorem dX12_readsNode_114 : decode cX12_readsNode 114 = .ok (.getfield 159, 3) := by decide +kernel
theorem dX12_readsNode_117 : decode cX12_readsNode 117 = .ok (.iconst 1, 1) := by decide +kernel
theorem dX12_readsNode_118 : decode cX12_readsNode 118 = .ok (.isub, 1) := by decide +kernel
theorem dX12_readsNode_119 : decode cX12_readsNode 119 = .ok (.putfield 159, 3) := by decide +kernel
theorem dX12_readsNode_122 : decode cX12_readsNode 122 = .ok (.iconst 1, 1) := by decide +kernel
theorem dX12_readsNode_123 : decode cX12_readsNode 123 = .ok (.ireturn, 1) := by decide +kernel
theorem dX12_readsRank_0 : decode cX12_readsRank 0 = .ok (.iload_n 1, 1) := by decide +kernel
theorem dX12_readsRank_1 : decode cX12_readsRank 1 = .ok (.iconst 3, 1) := by decide +kernel
theorem dX12_readsRank_2 : decode cX12_readsRank 2 = .ok (.if_icmp .ne 8, 3) := by decide +kernel
theorem dX12_readsRank_5 : decode cX12_readsRank 5 = .ok (.aload_n 0, 1) := by decide +kernel
theorem dX12_readsRank_6 : decode cX12_readsRank 6 = .ok (.invokevirtual 253, 3) := by decide +kernel
theorem dX12_readsRank_9 : decode cX12_readsRank 9 = .ok (.ireturn, 1) := by decide +kernel
theorem dX12_readsRank_10 : decode cX12_readsRank 10 = .ok (.aload_n 0, 1) := by decide +kernel
theorem dX12_readsRank_11 : decode cX12_readsRank 11 = .ok (.iload_n 1, 1) := by decide +kernel
theorem dX12_readsRank_12 : decode cX12_readsRank 12 = .ok (.iconst 1, 1) := by decide +kernel
theorem dX12_readsRank_13 : decode cX12_readsRank 13 = .ok (.iadd, 1) := by decide +kernel
theorem dX12_readsRank_14 : decode cX12_readsRank 14 = .ok (.invokevirtual 262, 3) := by decide +kernel
theorem dX12_readsRank_17 : decode cX12_readsRank 17 = .ok (.ifCond .ne 5, 3) := by decide +kernel
theorem dX12_readsRank_20 : decode cX12_readsRank 20 = .ok (.iconst 0, 1) := by decide +kernel
theorem dX12_readsRank_21 : decode cX12_readsRank 21 = .ok (.ireturn, 1) := by decide +kernel
theorem dX12_readsRank_22 : decode cX12_readsRank 22 = .ok (.iconst 1, 1) := by decide +kernel
theorem dX12_readsRank_23 : decode cX12_readsRank 23 = .ok (.istore_n 2, 1) := by decide +kernel
theorem dX12_readsRank_24 : decode cX12_readsRank 24 = .ok (.iload_n 2, 1) := by decide +kernel
theorem dX12_readsRank_25 : decode cX12_readsRank 25 = .ok (.ifCond .eq 91, 3) := by decide +kernel
theorem dX12_readsRank_28 : decode cX12_readsRank 28 = .ok (.aload_n 0, 1) := by decide +kernel
theorem dX12_readsRank_29 : decode cX12_readsRank 29 = .ok (.iload_n 1, 1) := by decide +kernel
theorem dX12_readsRank_30 : decode cX12_readsRank 30 = .ok (.ifCond .ne 9, 3) := by decide +kernel
theorem dX12_readsRank_33 : decode cX12_readsRank 33 = .ok (.ldc_w 265, 3) := by decide +kernel
theorem dX12_readsRank_36 : decode cX12_readsRank 36 = .ok (.goto 17, 3) := by decide +kernel
theorem dX12_readsRank_39 : decode cX12_readsRank 39 = .ok (.iload_n 1, 1) := by decide +kernel
theorem dX12_readsRank_40 : decode cX12_readsRank 40 = .ok (.iconst 1, 1) := by decide +kernel
theorem dX12_readsRank_41 : decode cX12_readsRank 41 = .ok (.if_icmp .ne 9, 3) := by decide +kernel
theorem dX12_readsRank_44 : decode cX12_readsRank 44 = .ok (.ldc_w 267, 3) := by decide +kernel
theorem dX12_readsRank_47 : decode cX12_readsRank 47 = .ok (.goto 6, 3) := by decide +kernel
theorem dX12_readsRank_50 : decode cX12_readsRank 50 = .ok (.ldc_w 269, 3) := by decide +kernel
theorem dX12_readsRank_53 : decode cX12_readsRank 53 = .ok (.invokevirtual 218, 3) := by decide +kernel
theorem dX12_readsRank_56 : decode cX12_readsRank 56 = .ok (.istore_n 3, 1) := by decide +kernel
theorem dX12_readsRank_57 : decode cX12_readsRank 57 = .ok (.iload_n 3, 1) := by decide +kernel
theorem dX12_readsRank_58 : decode cX12_readsRank 58 = .ok (.ifCond .ge 5, 3) := by decide +kernel
theorem dX12_readsRank_61 : decode cX12_readsRank 61 = .ok (.iconst 1, 1) := by decide +kernel
theorem dX12_readsRank_62 : decode cX12_readsRank 62 = .ok (.ireturn, 1) := by decide +kernel
theorem dX12_readsRank_63 : decode cX12_readsRank 63 = .ok (.aload_n 0, 1) := by decide +kernel
theorem dX12_readsRank_64 : decode cX12_readsRank 64 = .ok (.iload_n 1, 1) := by decide +kernel
theorem dX12_readsRank_65 : decode cX12_readsRank 65 = .ok (.iconst 1, 1) := by decide +kernel
theorem dX12_readsRank_66 : decode cX12_readsRank 66 = .ok (.iadd, 1) := by decide +kernel
theorem dX12_readsRank_67 : decode cX12_readsRank 67 = .ok (.invokevirtual 262, 3) := by decide +kernel
theorem dX12_readsRank_70 : decode cX12_readsRank 70 = .ok (.ifCond .ne 5, 3) := by decide +kernel
theorem dX12_readsRank_73 : decode cX12_readsRank 73 = .ok (.iconst 0, 1) := by decide +kernel
theorem dX12_readsRank_74 : decode cX12_readsRank 74 = .ok (.ireturn, 1) := by decide +kernel
theorem dX12_readsRank_75 : decode cX12_readsRank 75 = .ok (.aload_n 0, 1) := by decide +kernel
theorem dX12_readsRank_76 : decode cX12_readsRank 76 = .ok (.sipush 2000, 3) := by decide +kernel
theorem dX12_readsRank_79 : decode cX12_readsRank 79 = .ok (.iload_n 3, 1) := by decide +kernel
theorem dX12_readsRank_80 : decode cX12_readsRank 80 = .ok (.iadd, 1) := by decide +kernel
theorem dX12_readsRank_81 : decode cX12_readsRank 81 = .ok (.iload_n 1, 1) := by decide +kernel
theorem dX12_readsRank_82 : decode cX12_readsRank 82 = .ok (.ifCond .ne 7, 3) := by decide +kernel
theorem dX12_readsRank_85 : decode cX12_readsRank 85 = .ok (.iconst 0, 1) := by decide +kernel
theorem dX12_readsRank_86 : decode cX12_readsRank 86 = .ok (.goto 13, 3) := by decide +kernel
theorem dX12_readsRank_89 : decode cX12_readsRank 89 = .ok (.iload_n 1, 1) := by decide +kernel
theorem dX12_readsRank_90 : decode cX12_readsRank 90 = .ok (.iconst 1, 1) := by decide +kernel
theorem dX12_readsRank_91 : decode cX12_readsRank 91 = .ok (.if_icmp .ne 7, 3) := by decide +kernel
theorem dX12_readsRank_94 : decode cX12_readsRank 94 = .ok (.iconst 3, 1) := by decide +kernel
theorem dX12_readsRank_95 : decode cX12_readsRank 95 = .ok (.goto 4, 3) := by decide +kernel
theorem dX12_readsRank_98 : decode cX12_readsRank 98 = .ok (.iconst 5, 1) := by decide +kernel
theorem dX12_readsRank_99 : decode cX12_readsRank 99 = .ok (.iadd, 1) := by decide +kernel
theorem dX12_readsRank_100 : decode cX12_readsRank 100 = .ok (.invokevirtual 256, 3) := by decide +kernel
theorem dX12_readsRank_103 : decode cX12_readsRank 103 = .ok (.iload_n 1, 1) := by decide +kernel
theorem dX12_readsRank_104 : decode cX12_readsRank 104 = .ok (.ifCond .le 7, 3) := by decide +kernel
theorem dX12_readsRank_107 : decode cX12_readsRank 107 = .ok (.iconst 1, 1) := by decide +kernel
theorem dX12_readsRank_108 : decode cX12_readsRank 108 = .ok (.goto 4, 3) := by decide +kernel
theorem dX12_readsRank_111 : decode cX12_readsRank 111 = .ok (.iconst 0, 1) := by decide +kernel
theorem dX12_readsRank_112 : decode cX12_readsRank 112 = .ok (.istore_n 2, 1) := by decide +kernel
theorem dX12_readsRank_113 : decode cX12_readsRank 113 = .ok (.goto (-89), 3) := by decide +kernel
theorem dX12_readsRank_116 : decode cX12_readsRank 116 = .ok (.iconst 1, 1) := by decide +kernel
theorem dX12_readsRank_117 : decode cX12_readsRank 117 = .ok (.ireturn, 1) := by decide +kernel
theorem dX12_rule_0 : decode cX12_rule 0 = .ok (.aload_n 0, 1) := by decide +kernel
theorem dX12_rule_1 : decode cX12_rule 1 = .ok (.iconst 0, 1) := by decide +kernel
theorem dX12_rule_2 : decode cX12_rule 2 = .ok (.putfield 133, 3) := by decide +kernel
theorem dX12_rule_5 : decode cX12_rule 5 = .ok (.aload_n 0, 1) := by decide +kernel
theorem dX12_rule_6 : decode cX12_rule 6 = .ok (.bipush 40, 2) := by decide +kernel
theorem dX12_rule_8 : decode cX12_rule 8 = .ok (.invokevirtual 231, 3) := by decide +kernel
theorem dX12_rule_11 : decode cX12_rule 11 = .ok (.istore_n 1, 1) := by decide +kernel
theorem dX12_rule_12 : decode cX12_rule 12 = .ok (.aload_n 0, 1) := by decide +kernel
theorem dX12_rule_13 : decode cX12_rule 13 = .ok (.iconst 0, 1) := by decide +kernel
theorem dX12_rule_14 : decode cX12_rule 14 = .ok (.putfield 250, 3) := by decide +kernel
theorem dX12_rule_17 : decode cX12_rule 17 = .ok (.iload_n 1, 1) := by decide +kernel
theorem dX12_rule_18 : decode cX12_rule 18 = .ok (.ifCond .eq 11, 3) := by decide +kernel
theorem dX12_rule_21 : decode cX12_rule 21 = .ok (.aload_n 0, 1) := by decide +kernel
theorem dX12_rule_22 : decode cX12_rule 22 = .ok (.iconst 0, 1) := by decide +kernel
theorem dX12_rule_23 : decode cX12_rule 23 = .ok (.invokevirtual 262, 3) := by decide +kernel
theorem dX12_rule_26 : decode cX12_rule 26 = .ok (.ifCond .eq 7, 3) := by decide +kernel
theorem dX12_rule_29 : decode cX12_rule 29 = .ok (.iconst 1, 1) := by decide +kernel
theorem dX12_rule_30 : decode cX12_rule 30 = .ok (.goto 4, 3) := by decide +kernel
theorem dX12_rule_33 : decode cX12_rule 33 = .ok (.iconst 0, 1) := by decide +kernel
theorem dX12_rule_34 : decode cX12_rule 34 = .ok (.istore_n 2, 1) := by decide +kernel
theorem dX12_rule_35 : decode cX12_rule 35 = .ok (.aload_n 0, 1) := by decide +kernel
theorem dX12_rule_36 : decode cX12_rule 36 = .ok (.iload_n 1, 1) := by decide +kernel
theorem dX12_rule_37 : decode cX12_rule 37 = .ok (.bipush 40, 2) := by decide +kernel
theorem dX12_rule_39 : decode cX12_rule 39 = .ok (.iload_n 2, 1) := by decide +kernel
theorem dX12_rule_40 : decode cX12_rule 40 = .ok (.invokevirtual 237, 3) := by decide +kernel
theorem dX12_rule_43 : decode cX12_rule 43 = .ok (.istore_n 3, 1) := by decide +kernel
theorem dX12_rule_44 : decode cX12_rule 44 = .ok (.iload_n 3, 1) := by decide +kernel
theorem dX12_rule_45 : decode cX12_rule 45 = .ok (.ifCond .ge 5, 3) := by decide +kernel
theorem dX12_rule_48 : decode cX12_rule 48 = .ok (.iload_n 3, 1) := by decide +kernel
theorem dX12_rule_49 : decode cX12_rule 49 = .ok (.ireturn, 1) := by decide +kernel
theorem dX12_rule_50 : decode cX12_rule 50 = .ok (.aload_n 0, 1) := by decide +kernel
theorem dX12_rule_51 : decode cX12_rule 51 = .ok (.aload_n 0, 1) := by decide +kernel
theorem dX12_rule_52 : decode cX12_rule 52 = .ok (.getfield 250, 3) := by decide +kernel
theorem dX12_rule_55 : decode cX12_rule 55 = .ok (.putfield 271, 3) := by decide +kernel
theorem dX12_rule_58 : decode cX12_rule 58 = .ok (.iconst 0, 1) := by decide +kernel
theorem dX12_rule_59 : decode cX12_rule 59 = .ok (.istore 4, 2) := by decide +kernel
theorem dX12_rule_61 : decode cX12_rule 61 = .ok (.iload 4, 2) := by decide +kernel
theorem dX12_rule_63 : decode cX12_rule 63 = .ok (.aload_n 0, 1) := by decide +kernel
theorem dX12_rule_64 : decode cX12_rule 64 = .ok (.getfield 250, 3) := by decide +kernel
theorem dX12_rule_67 : decode cX12_rule 67 = .ok (.if_icmp .ge 23, 3) := by decide +kernel
theorem dX12_rule_70 : decode cX12_rule 70 = .ok (.aload_n 0, 1) := by decide +kernel
theorem dX12_rule_71 : decode cX12_rule 71 = .ok (.getfield 61, 3) := by decide +kernel
theorem dX12_rule_74 : decode cX12_rule 74 = .ok (.iload 4, 2) := by decide +kernel
theorem dX12_rule_76 : decode cX12_rule 76 = .ok (.aload_n 0, 1) := by decide +kernel
theorem dX12_rule_77 : decode cX12_rule 77 = .ok (.getfield 64, 3) := by decide +kernel
theorem dX12_rule_80 : decode cX12_rule 80 = .ok (.iload 4, 2) := by decide +kernel
theorem dX12_rule_82 : decode cX12_rule 82 = .ok (.iaload, 1) := by decide +kernel
theorem dX12_rule_83 : decode cX12_rule 83 = .ok (.iastore, 1) := by decide +kernel
theorem dX12_rule_84 : decode cX12_rule 84 = .ok (.iinc 4 1, 3) := by decide +kernel
theorem dX12_rule_87 : decode cX12_rule 87 = .ok (.goto (-26), 3) := by decide +kernel
theorem dX12_rule_90 : decode cX12_rule 90 = .ok (.iconst 0, 1) := by decide +kernel
theorem dX12_rule_91 : decode cX12_rule 91 = .ok (.ireturn, 1) := by decide +kernel
theorem dX12_worked_0 : decode cX12_worked 0 = .ok (.iload_n 0, 1) := by decide +kernel
theorem dX12_worked_1 : decode cX12_worked 1 = .ok (.tableswitch 93 0 5 #[39, 53, 67, 81, 85, 89], 39) := by decide +kernel
theorem dX12_worked_40 : decode cX12_worked 40 = .ok (.iload_n 1, 1) := by decide +kernel
theorem dX12_worked_41 : decode cX12_worked 41 = .ok (.iload_n 2, 1) := by decide +kernel
theorem dX12_worked_42 : decode cX12_worked 42 = .ok (.if_icmp .ge 7, 3) := by decide +kernel
theorem dX12_worked_45 : decode cX12_worked 45 = .ok (.iconst 1, 1) := by decide +kernel
theorem dX12_worked_46 : decode cX12_worked 46 = .ok (.goto 4, 3) := by decide +kernel
theorem dX12_worked_49 : decode cX12_worked 49 = .ok (.iconst 0, 1) := by decide +kernel
theorem dX12_worked_50 : decode cX12_worked 50 = .ok (.invokestatic 171, 3) := by decide +kernel
theorem dX12_worked_53 : decode cX12_worked 53 = .ok (.ireturn, 1) := by decide +kernel
theorem dX12_worked_54 : decode cX12_worked 54 = .ok (.iload_n 1, 1) := by decide +kernel
theorem dX12_worked_55 : decode cX12_worked 55 = .ok (.iload_n 2, 1) := by decide +kernel
theorem dX12_worked_56 : decode cX12_worked 56 = .ok (.if_icmp .le 7, 3) := by decide +kernel
theorem dX12_worked_59 : decode cX12_worked 59 = .ok (.iconst 1, 1) := by decide +kernel
theorem dX12_worked_60 : decode cX12_worked 60 = .ok (.goto 4, 3) := by decide +kernel
theorem dX12_worked_63 : decode cX12_worked 63 = .ok (.iconst 0, 1) := by decide +kernel
theorem dX12_worked_64 : decode cX12_worked 64 = .ok (.invokestatic 171, 3) := by decide +kernel
theorem dX12_worked_67 : decode cX12_worked 67 = .ok (.ireturn, 1) := by decide +kernel
theorem dX12_worked_68 : decode cX12_worked 68 = .ok (.iload_n 1, 1) := by decide +kernel
theorem dX12_worked_69 : decode cX12_worked 69 = .ok (.iload_n 2, 1) := by decide +kernel
theorem dX12_worked_70 : decode cX12_worked 70 = .ok (.if_icmp .ne 7, 3) := by decide +kernel
theorem dX12_worked_73 : decode cX12_worked 73 = .ok (.iconst 1, 1) := by decide +kernel
theorem dX12_worked_74 : decode cX12_worked 74 = .ok (.goto 4, 3) := by decide +kernel
theorem dX12_worked_77 : decode cX12_worked 77 = .ok (.iconst 0, 1) := by decide +kernel
theorem dX12_worked_78 : decode cX12_worked 78 = .ok (.invokestatic 171, 3) := by decide +kernel
theorem dX12_worked_81 : decode cX12_worked 81 = .ok (.ireturn, 1) := by decide +kernel
theorem dX12_worked_82 : decode cX12_worked 82 = .ok (.iload_n 1, 1) := by decide +kernel
theorem dX12_worked_83 : decode cX12_worked 83 = .ok (.iload_n 2, 1) := by decide +kernel
theorem dX12_worked_84 : decode cX12_worked 84 = .ok (.iadd, 1) := by decide +kernel
theorem dX12_worked_85 : decode cX12_worked 85 = .ok (.ireturn, 1) := by decide +kernel
theorem dX12_worked_86 : decode cX12_worked 86 = .ok (.iload_n 1, 1) := by decide +kernel
theorem dX12_worked_87 : decode cX12_worked 87 = .ok (.iload_n 2, 1) := by decide +kernel
theorem dX12_worked_88 : decode cX12_worked 88 = .ok (.isub, 1) := by decide +kernel
theorem dX12_worked_89 : decode cX12_worked 89 = .ok (.ireturn, 1) := by decide +kernel
theorem dX12_worked_90 : decode cX12_worked 90 = .ok (.iload_n 1, 1) := by decide +kernel
theorem dX12_worked_91 : decode cX12_worked 91 = .ok (.iload_n 2, 1) := by decide +kernel
theorem dX12_worked_92 : decode cX12_worked 92 = .ok (.imul, 1) := by decide +kernel
theorem dX12_worked_93 : decode cX12_worked 93 = .ok (.ireturn, 1) := by decide +kernel
theorem dX12_worked_94 : decode cX12_worked 94 = .ok (.iload_n 2, 1) := by decide +kernel
theorem dX12_worked_95 : decode cX12_worked 95 = .ok (.ifCond .ne 7, 3) := by decide +kernel
theorem dX12_worked_98 : decode cX12_worked 98 = .ok (.iconst 0, 1) := by decide +kernel
theorem dX12_worked_99 : decode cX12_worked 99 = .ok (.goto 6, 3) := by decide +kernel
theorem dX12_worked_102 : decode cX12_worked 102 = .ok (.iload_n 1, 1) := by decide +kernel
theorem dX12_worked_103 : decode cX12_worked 103 = .ok (.iload_n 2, 1) := by decide +kernel
theorem dX12_worked_104 : decode cX12_worked 104 = .ok (.idiv, 1) := by decide +kernel
theorem dX12_worked_105 : decode cX12_worked 105 = .ok (.ireturn, 1) := by decide +kernel
theorem dX12_who_0 : decode cX12_who 0 = .ok (.aload_n 0, 1) := by decide +kernel
theorem dX12_who_1 : decode cX12_who 1 = .ok (.iconst 3, 1) := by decide +kernel
theorem dX12_who_2 : decode cX12_who 2 = .ok (.iload_n 1, 1) := by decide +kernel
theorem dX12_who_3 : decode cX12_who 3 = .ok (.imul, 1) := by decide +kernel
theorem dX12_who_4 : decode cX12_who 4 = .ok (.iaload, 1) := by decide +kernel
theorem dX12_who_5 : decode cX12_who 5 = .ok (.ireturn, 1) := by decide +kernel
theorem dX12_what_0 : decode cX12_what 0 = .ok (.aload_n 0, 1) := by decide +kernel
theorem dX12_what_1 : decode cX12_what 1 = .ok (.iconst 3, 1) := by decide +kernel
theorem dX12_what_2 : decode cX12_what 2 = .ok (.iload_n 1, 1) := by decide +kernel
theorem dX12_what_3 : decode cX12_what 3 = .ok (.imul, 1) := by decide +kernel
theorem dX12_what_4 : decode cX12_what 4 = .ok (.iconst 1, 1) := by decide +kernel
theorem dX12_what_5 : decode cX12_what 5 = .ok (.iadd, 1) := by decide +kernel
theorem dX12_what_6 : decode cX12_what 6 = .ok (.iaload, 1) := by decide +kernel
theorem dX12_what_7 : decode cX12_what 7 = .ok (.ireturn, 1) := by decide +kernel
theorem dX12_start_0 : decode cX12_start 0 = .ok (.aload_n 0, 1) := by decide +kernel
theorem dX12_start_1 : decode cX12_start 1 = .ok (.iconst 3, 1) := by decide +kernel
theorem dX12_start_2 : decode cX12_start 2 = .ok (.iload_n 1, 1) := by decide +kernel
theorem dX12_start_3 : decode cX12_start 3 = .ok (.imul, 1) := by decide +kernel
theorem dX12_start_4 : decode cX12_start 4 = .ok (.iconst 2, 1) := by decide +kernel
theorem dX12_start_5 : decode cX12_start 5 = .ok (.iadd, 1) := by decide +kernel
theorem dX12_start_6 : decode cX12_start 6 = .ok (.iaload, 1) := by decide +kernel
theorem dX12_start_7 : decode cX12_start 7 = .ok (.ireturn, 1) := by decide +kernel
theorem dX12_puts_0 : decode cX12_puts 0 = .ok (.iconst 0, 1) := by decide +kernel
theorem dX12_puts_1 : decode cX12_puts 1 = .ok (.istore_n 2, 1) := by decide +kernel
theorem dX12_puts_2 : decode cX12_puts 2 = .ok (.iload_n 2, 1) := by decide +kernel
theorem dX12_puts_3 : decode cX12_puts 3 = .ok (.bipush 46, 2) := by decide +kernel
theorem dX12_puts_5 : decode cX12_puts 5 = .ok (.if_icmp .ge 15, 3) := by decide +kernel
theorem dX12_puts_8 : decode cX12_puts 8 = .ok (.aload_n 1, 1) := by decide +kernel
theorem dX12_puts_9 : decode cX12_puts 9 = .ok (.iload_n 2, 1) := by decide +kernel
theorem dX12_puts_10 : decode cX12_puts 10 = .ok (.aload_n 0, 1) := by decide +kernel
theorem dX12_puts_11 : decode cX12_puts 11 = .ok (.iload_n 2, 1) := by decide +kernel
theorem dX12_puts_12 : decode cX12_puts 12 = .ok (.iaload, 1) := by decide +kernel
theorem dX12_puts_13 : decode cX12_puts 13 = .ok (.iastore, 1) := by decide +kernel
theorem dX12_puts_14 : decode cX12_puts 14 = .ok (.iinc 2 1, 3) := by decide +kernel
theorem dX12_puts_17 : decode cX12_puts 17 = .ok (.goto (-15), 3) := by decide +kernel
theorem dX12_puts_20 : decode cX12_puts 20 = .ok (.return_, 1) := by decide +kernel
theorem dX12_comes_0 : decode cX12_comes 0 = .ok (.iconst 3, 1) := by decide +kernel
theorem dX12_comes_1 : decode cX12_comes 1 = .ok (.aload_n 0, 1) := by decide +kernel
theorem dX12_comes_2 : decode cX12_comes 2 = .ok (.bipush 45, 2) := by decide +kernel
theorem dX12_comes_4 : decode cX12_comes 4 = .ok (.iaload, 1) := by decide +kernel
theorem dX12_comes_5 : decode cX12_comes 5 = .ok (.imul, 1) := by decide +kernel
theorem dX12_comes_6 : decode cX12_comes 6 = .ok (.istore 4, 2) := by decide +kernel
theorem dX12_comes_8 : decode cX12_comes 8 = .ok (.aload_n 0, 1) := by decide +kernel
theorem dX12_comes_9 : decode cX12_comes 9 = .ok (.iload 4, 2) := by decide +kernel
theorem dX12_comes_11 : decode cX12_comes 11 = .ok (.iload_n 1, 1) := by decide +kernel
theorem dX12_comes_12 : decode cX12_comes 12 = .ok (.iastore, 1) := by decide +kernel
theorem dX12_comes_13 : decode cX12_comes 13 = .ok (.aload_n 0, 1) := by decide +kernel
theorem dX12_comes_14 : decode cX12_comes 14 = .ok (.iload 4, 2) := by decide +kernel
theorem dX12_comes_16 : decode cX12_comes 16 = .ok (.iconst 1, 1) := by decide +kernel
theorem dX12_comes_17 : decode cX12_comes 17 = .ok (.iadd, 1) := by decide +kernel
theorem dX12_comes_18 : decode cX12_comes 18 = .ok (.iload_n 2, 1) := by decide +kernel
theorem dX12_comes_19 : decode cX12_comes 19 = .ok (.iastore, 1) := by decide +kernel
theorem dX12_comes_20 : decode cX12_comes 20 = .ok (.aload_n 0, 1) := by decide +kernel
theorem dX12_comes_21 : decode cX12_comes 21 = .ok (.iload 4, 2) := by decide +kernel
theorem dX12_comes_23 : decode cX12_comes 23 = .ok (.iconst 2, 1) := by decide +kernel
theorem dX12_comes_24 : decode cX12_comes 24 = .ok (.iadd, 1) := by decide +kernel
theorem dX12_comes_25 : decode cX12_comes 25 = .ok (.iload_n 3, 1) := by decide +kernel
theorem dX12_comes_26 : decode cX12_comes 26 = .ok (.iastore, 1) := by decide +kernel
theorem dX12_comes_27 : decode cX12_comes 27 = .ok (.aload_n 0, 1) := by decide +kernel
theorem dX12_comes_28 : decode cX12_comes 28 = .ok (.bipush 45, 2) := by decide +kernel
theorem dX12_comes_30 : decode cX12_comes 30 = .ok (.dup2, 1) := by decide +kernel
theorem dX12_comes_31 : decode cX12_comes 31 = .ok (.iaload, 1) := by decide +kernel
theorem dX12_comes_32 : decode cX12_comes 32 = .ok (.iconst 1, 1) := by decide +kernel
theorem dX12_comes_33 : decode cX12_comes 33 = .ok (.iadd, 1) := by decide +kernel
theorem dX12_comes_34 : decode cX12_comes 34 = .ok (.iastore, 1) := by decide +kernel
theorem dX12_comes_35 : decode cX12_comes 35 = .ok (.return_, 1) := by decide +kernel
theorem dX12_leaves_0 : decode cX12_leaves 0 = .ok (.iconst 3, 1) := by decide +kernel
theorem dX12_leaves_1 : decode cX12_leaves 1 = .ok (.iload_n 1, 1) := by decide +kernel
theorem dX12_leaves_2 : decode cX12_leaves 2 = .ok (.imul, 1) := by decide +kernel
theorem dX12_leaves_3 : decode cX12_leaves 3 = .ok (.istore_n 2, 1) := by decide +kernel
theorem dX12_leaves_4 : decode cX12_leaves 4 = .ok (.iload_n 2, 1) := by decide +kernel
theorem dX12_leaves_5 : decode cX12_leaves 5 = .ok (.iconst 3, 1) := by decide +kernel
theorem dX12_leaves_6 : decode cX12_leaves 6 = .ok (.aload_n 0, 1) := by decide +kernel
theorem dX12_leaves_7 : decode cX12_leaves 7 = .ok (.bipush 45, 2) := by decide +kernel
theorem dX12_leaves_9 : decode cX12_leaves 9 = .ok (.iaload, 1) := by decide +kernel
theorem dX12_leaves_10 : decode cX12_leaves 10 = .ok (.iconst 1, 1) := by decide +kernel
theorem dX12_leaves_11 : decode cX12_leaves 11 = .ok (.isub, 1) := by decide +kernel
theorem dX12_leaves_12 : decode cX12_leaves 12 = .ok (.imul, 1) := by decide +kernel
theorem dX12_leaves_13 : decode cX12_leaves 13 = .ok (.if_icmp .ge 17, 3) := by decide +kernel
theorem dX12_leaves_16 : decode cX12_leaves 16 = .ok (.aload_n 0, 1) := by decide +kernel
theorem dX12_leaves_17 : decode cX12_leaves 17 = .ok (.iload_n 2, 1) := by decide +kernel
theorem dX12_leaves_18 : decode cX12_leaves 18 = .ok (.aload_n 0, 1) := by decide +kernel
theorem dX12_leaves_19 : decode cX12_leaves 19 = .ok (.iload_n 2, 1) := by decide +kernel
theorem dX12_leaves_20 : decode cX12_leaves 20 = .ok (.iconst 3, 1) := by decide +kernel
theorem dX12_leaves_21 : decode cX12_leaves 21 = .ok (.iadd, 1) := by decide +kernel
theorem dX12_leaves_22 : decode cX12_leaves 22 = .ok (.iaload, 1) := by decide +kernel
theorem dX12_leaves_23 : decode cX12_leaves 23 = .ok (.iastore, 1) := by decide +kernel
theorem dX12_leaves_24 : decode cX12_leaves 24 = .ok (.iinc 2 1, 3) := by decide +kernel
theorem dX12_leaves_27 : decode cX12_leaves 27 = .ok (.goto (-23), 3) := by decide +kernel
theorem dX12_leaves_30 : decode cX12_leaves 30 = .ok (.aload_n 0, 1) := by decide +kernel
theorem dX12_leaves_31 : decode cX12_leaves 31 = .ok (.bipush 45, 2) := by decide +kernel
theorem dX12_leaves_33 : decode cX12_leaves 33 = .ok (.dup2, 1) := by decide +kernel
theorem dX12_leaves_34 : decode cX12_leaves 34 = .ok (.iaload, 1) := by decide +kernel
theorem dX12_leaves_35 : decode cX12_leaves 35 = .ok (.iconst 1, 1) := by decide +kernel
theorem dX12_leaves_36 : decode cX12_leaves 36 = .ok (.isub, 1) := by decide +kernel
theorem dX12_leaves_37 : decode cX12_leaves 37 = .ok (.iastore, 1) := by decide +kernel
theorem dX12_leaves_38 : decode cX12_leaves 38 = .ok (.return_, 1) := by decide +kernel
theorem dX12_awayLong_0 : decode cX12_awayLong 0 = .ok (.iconst 2, 1) := by decide +kernel
theorem dX12_awayLong_1 : decode cX12_awayLong 1 = .ok (.aload_n 0, 1) := by decide +kernel
theorem dX12_awayLong_2 : decode cX12_awayLong 2 = .ok (.getfield 25, 3) := by decide +kernel
theorem dX12_awayLong_5 : decode cX12_awayLong 5 = .ok (.iload_n 1, 1) := by decide +kernel
theorem dX12_awayLong_6 : decode cX12_awayLong 6 = .ok (.iaload, 1) := by decide +kernel
theorem dX12_awayLong_7 : decode cX12_awayLong 7 = .ok (.imul, 1) := by decide +kernel
theorem dX12_awayLong_8 : decode cX12_awayLong 8 = .ok (.aload_n 0, 1) := by decide +kernel
theorem dX12_awayLong_9 : decode cX12_awayLong 9 = .ok (.getfield 28, 3) := by decide +kernel
theorem dX12_awayLong_12 : decode cX12_awayLong 12 = .ok (.iload_n 1, 1) := by decide +kernel
theorem dX12_awayLong_13 : decode cX12_awayLong 13 = .ok (.iaload, 1) := by decide +kernel
theorem dX12_awayLong_14 : decode cX12_awayLong 14 = .ok (.iadd, 1) := by decide +kernel
theorem dX12_awayLong_15 : decode cX12_awayLong 15 = .ok (.ireturn, 1) := by decide +kernel
theorem dX12_back_0 : decode cX12_back 0 = .ok (.aload_n 1, 1) := by decide +kernel
theorem dX12_back_1 : decode cX12_back 1 = .ok (.iload_n 2, 1) := by decide +kernel
theorem dX12_back_2 : decode cX12_back 2 = .ok (.invokestatic 274, 3) := by decide +kernel
theorem dX12_back_5 : decode cX12_back 5 = .ok (.aload_n 0, 1) := by decide +kernel
theorem dX12_back_6 : decode cX12_back 6 = .ok (.aload_n 1, 1) := by decide +kernel
theorem dX12_back_7 : decode cX12_back 7 = .ok (.iload_n 2, 1) := by decide +kernel
theorem dX12_back_8 : decode cX12_back 8 = .ok (.invokestatic 278, 3) := by decide +kernel
theorem dX12_back_11 : decode cX12_back 11 = .ok (.invokevirtual 281, 3) := by decide +kernel
theorem dX12_back_14 : decode cX12_back 14 = .ok (.iadd, 1) := by decide +kernel
theorem dX12_back_15 : decode cX12_back 15 = .ok (.ireturn, 1) := by decide +kernel
theorem dX12_isAway_0 : decode cX12_isAway 0 = .ok (.iload_n 3, 1) := by decide +kernel
theorem dX12_isAway_1 : decode cX12_isAway 1 = .ok (.i2l, 1) := by decide +kernel
theorem dX12_isAway_2 : decode cX12_isAway 2 = .ok (.aload_n 1, 1) := by decide +kernel
theorem dX12_isAway_3 : decode cX12_isAway 3 = .ok (.iload_n 2, 1) := by decide +kernel
theorem dX12_isAway_4 : decode cX12_isAway 4 = .ok (.invokestatic 274, 3) := by decide +kernel
theorem dX12_isAway_7 : decode cX12_isAway 7 = .ok (.i2l, 1) := by decide +kernel
theorem dX12_isAway_8 : decode cX12_isAway 8 = .ok (.aload_n 0, 1) := by decide +kernel
theorem dX12_isAway_9 : decode cX12_isAway 9 = .ok (.aload_n 1, 1) := by decide +kernel
theorem dX12_isAway_10 : decode cX12_isAway 10 = .ok (.iload_n 2, 1) := by decide +kernel
theorem dX12_isAway_11 : decode cX12_isAway 11 = .ok (.invokevirtual 284, 3) := by decide +kernel
theorem dX12_isAway_14 : decode cX12_isAway 14 = .ok (.iconst 1, 1) := by decide +kernel
theorem dX12_isAway_15 : decode cX12_isAway 15 = .ok (.isub, 1) := by decide +kernel
theorem dX12_isAway_16 : decode cX12_isAway 16 = .ok (.i2l, 1) := by decide +kernel
theorem dX12_isAway_17 : decode cX12_isAway 17 = .ok (.invokestatic 146, 3) := by decide +kernel
theorem dX12_isAway_20 : decode cX12_isAway 20 = .ok (.ireturn, 1) := by decide +kernel
theorem dX12_isThere_0 : decode cX12_isThere 0 = .ok (.aload_n 1, 1) := by decide +kernel
theorem dX12_isThere_1 : decode cX12_isThere 1 = .ok (.iload_n 2, 1) := by decide +kernel
theorem dX12_isThere_2 : decode cX12_isThere 2 = .ok (.invokestatic 274, 3) := by decide +kernel
theorem dX12_isThere_5 : decode cX12_isThere 5 = .ok (.aload_n 0, 1) := by decide +kernel
theorem dX12_isThere_6 : decode cX12_isThere 6 = .ok (.getfield 25, 3) := by decide +kernel
theorem dX12_isThere_9 : decode cX12_isThere 9 = .ok (.aload_n 1, 1) := by decide +kernel
theorem dX12_isThere_10 : decode cX12_isThere 10 = .ok (.iload_n 2, 1) := by decide +kernel
theorem dX12_isThere_11 : decode cX12_isThere 11 = .ok (.invokestatic 278, 3) := by decide +kernel
theorem dX12_isThere_14 : decode cX12_isThere 14 = .ok (.iaload, 1) := by decide +kernel
theorem dX12_isThere_15 : decode cX12_isThere 15 = .ok (.iadd, 1) := by decide +kernel
theorem dX12_isThere_16 : decode cX12_isThere 16 = .ok (.istore 4, 2) := by decide +kernel
theorem dX12_isThere_18 : decode cX12_isThere 18 = .ok (.iload_n 3, 1) := by decide +kernel
theorem dX12_isThere_19 : decode cX12_isThere 19 = .ok (.i2l, 1) := by decide +kernel
theorem dX12_isThere_20 : decode cX12_isThere 20 = .ok (.iload 4, 2) := by decide +kernel
theorem dX12_isThere_22 : decode cX12_isThere 22 = .ok (.i2l, 1) := by decide +kernel
theorem dX12_isThere_23 : decode cX12_isThere 23 = .ok (.iload 4, 2) := by decide +kernel
theorem dX12_isThere_25 : decode cX12_isThere 25 = .ok (.aload_n 0, 1) := by decide +kernel
theorem dX12_isThere_26 : decode cX12_isThere 26 = .ok (.getfield 28, 3) := by decide +kernel
theorem dX12_isThere_29 : decode cX12_isThere 29 = .ok (.aload_n 1, 1) := by decide +kernel
theorem dX12_isThere_30 : decode cX12_isThere 30 = .ok (.iload_n 2, 1) := by decide +kernel
theorem dX12_isThere_31 : decode cX12_isThere 31 = .ok (.invokestatic 278, 3) := by decide +kernel
theorem dX12_isThere_34 : decode cX12_isThere 34 = .ok (.iaload, 1) := by decide +kernel
theorem dX12_isThere_35 : decode cX12_isThere 35 = .ok (.iadd, 1) := by decide +kernel
theorem dX12_isThere_36 : decode cX12_isThere 36 = .ok (.iconst 1, 1) := by decide +kernel
theorem dX12_isThere_37 : decode cX12_isThere 37 = .ok (.isub, 1) := by decide +kernel
theorem dX12_isThere_38 : decode cX12_isThere 38 = .ok (.i2l, 1) := by decide +kernel
theorem dX12_isThere_39 : decode cX12_isThere 39 = .ok (.invokestatic 146, 3) := by decide +kernel
theorem dX12_isThere_42 : decode cX12_isThere 42 = .ok (.ireturn, 1) := by decide +kernel
theorem dX12_meet_0 : decode cX12_meet 0 = .ok (.aload_n 1, 1) := by decide +kernel
theorem dX12_meet_1 : decode cX12_meet 1 = .ok (.iload_n 2, 1) := by decide +kernel
theorem dX12_meet_2 : decode cX12_meet 2 = .ok (.invokestatic 274, 3) := by decide +kernel
theorem dX12_meet_5 : decode cX12_meet 5 = .ok (.aload_n 0, 1) := by decide +kernel
theorem dX12_meet_6 : decode cX12_meet 6 = .ok (.aload_n 1, 1) := by decide +kernel
theorem dX12_meet_7 : decode cX12_meet 7 = .ok (.iload_n 3, 1) := by decide +kernel
theorem dX12_meet_8 : decode cX12_meet 8 = .ok (.invokevirtual 284, 3) := by decide +kernel
theorem dX12_meet_11 : decode cX12_meet 11 = .ok (.if_icmp .ge 21, 3) := by decide +kernel
theorem dX12_meet_14 : decode cX12_meet 14 = .ok (.aload_n 1, 1) := by decide +kernel
theorem dX12_meet_15 : decode cX12_meet 15 = .ok (.iload_n 3, 1) := by decide +kernel
theorem dX12_meet_16 : decode cX12_meet 16 = .ok (.invokestatic 274, 3) := by decide +kernel
theorem dX12_meet_19 : decode cX12_meet 19 = .ok (.aload_n 0, 1) := by decide +kernel
theorem dX12_meet_20 : decode cX12_meet 20 = .ok (.aload_n 1, 1) := by decide +kernel
theorem dX12_meet_21 : decode cX12_meet 21 = .ok (.iload_n 2, 1) := by decide +kernel
theorem dX12_meet_22 : decode cX12_meet 22 = .ok (.invokevirtual 284, 3) := by decide +kernel
theorem dX12_meet_25 : decode cX12_meet 25 = .ok (.if_icmp .ge 7, 3) := by decide +kernel
theorem dX12_meet_28 : decode cX12_meet 28 = .ok (.iconst 1, 1) := by decide +kernel
theorem dX12_meet_29 : decode cX12_meet 29 = .ok (.goto 4, 3) := by decide +kernel
theorem dX12_meet_32 : decode cX12_meet 32 = .ok (.iconst 0, 1) := by decide +kernel
theorem dX12_meet_33 : decode cX12_meet 33 = .ok (.ireturn, 1) := by decide +kernel
theorem dX12_areOne_0 : decode cX12_areOne 0 = .ok (.aload_n 0, 1) := by decide +kernel
theorem dX12_areOne_1 : decode cX12_areOne 1 = .ok (.iload_n 1, 1) := by decide +kernel
theorem dX12_areOne_2 : decode cX12_areOne 2 = .ok (.invokestatic 278, 3) := by decide +kernel
theorem dX12_areOne_5 : decode cX12_areOne 5 = .ok (.aload_n 0, 1) := by decide +kernel
theorem dX12_areOne_6 : decode cX12_areOne 6 = .ok (.iload_n 2, 1) := by decide +kernel
theorem dX12_areOne_7 : decode cX12_areOne 7 = .ok (.invokestatic 278, 3) := by decide +kernel
theorem dX12_areOne_10 : decode cX12_areOne 10 = .ok (.if_icmp .ne 20, 3) := by decide +kernel
theorem dX12_areOne_13 : decode cX12_areOne 13 = .ok (.aload_n 0, 1) := by decide +kernel
theorem dX12_areOne_14 : decode cX12_areOne 14 = .ok (.iload_n 1, 1) := by decide +kernel
theorem dX12_areOne_15 : decode cX12_areOne 15 = .ok (.invokestatic 274, 3) := by decide +kernel
theorem dX12_areOne_18 : decode cX12_areOne 18 = .ok (.aload_n 0, 1) := by decide +kernel
theorem dX12_areOne_19 : decode cX12_areOne 19 = .ok (.iload_n 2, 1) := by decide +kernel
theorem dX12_areOne_20 : decode cX12_areOne 20 = .ok (.invokestatic 274, 3) := by decide +kernel
theorem dX12_areOne_23 : decode cX12_areOne 23 = .ok (.if_icmp .ne 7, 3) := by decide +kernel
theorem dX12_areOne_26 : decode cX12_areOne 26 = .ok (.iconst 1, 1) := by decide +kernel
theorem dX12_areOne_27 : decode cX12_areOne 27 = .ok (.goto 4, 3) := by decide +kernel
theorem dX12_areOne_30 : decode cX12_areOne 30 = .ok (.iconst 0, 1) := by decide +kernel
theorem dX12_areOne_31 : decode cX12_areOne 31 = .ok (.ireturn, 1) := by decide +kernel
theorem dX12_fitsIn_0 : decode cX12_fitsIn 0 = .ok (.iload_n 2, 1) := by decide +kernel
theorem dX12_fitsIn_1 : decode cX12_fitsIn 1 = .ok (.aload_n 0, 1) := by decide +kernel
theorem dX12_fitsIn_2 : decode cX12_fitsIn 2 = .ok (.getfield 25, 3) := by decide +kernel
theorem dX12_fitsIn_5 : decode cX12_fitsIn 5 = .ok (.iload_n 1, 1) := by decide +kernel
theorem dX12_fitsIn_6 : decode cX12_fitsIn 6 = .ok (.iaload, 1) := by decide +kernel
theorem dX12_fitsIn_7 : decode cX12_fitsIn 7 = .ok (.iadd, 1) := by decide +kernel
theorem dX12_fitsIn_8 : decode cX12_fitsIn 8 = .ok (.i2l, 1) := by decide +kernel
theorem dX12_fitsIn_9 : decode cX12_fitsIn 9 = .ok (.aload_n 0, 1) := by decide +kernel
theorem dX12_fitsIn_10 : decode cX12_fitsIn 10 = .ok (.getfield 31, 3) := by decide +kernel
theorem dX12_fitsIn_13 : decode cX12_fitsIn 13 = .ok (.iload_n 1, 1) := by decide +kernel
theorem dX12_fitsIn_14 : decode cX12_fitsIn 14 = .ok (.iaload, 1) := by decide +kernel
theorem dX12_fitsIn_15 : decode cX12_fitsIn 15 = .ok (.i2l, 1) := by decide +kernel
theorem dX12_fitsIn_16 : decode cX12_fitsIn 16 = .ok (.ldc2_w 287, 3) := by decide +kernel
theorem dX12_fitsIn_19 : decode cX12_fitsIn 19 = .ok (.invokestatic 146, 3) := by decide +kernel
theorem dX12_fitsIn_22 : decode cX12_fitsIn 22 = .ok (.ifCond .eq 31, 3) := by decide +kernel
theorem dX12_fitsIn_25 : decode cX12_fitsIn 25 = .ok (.iload_n 2, 1) := by decide +kernel
theorem dX12_fitsIn_26 : decode cX12_fitsIn 26 = .ok (.aload_n 0, 1) := by decide +kernel
theorem dX12_fitsIn_27 : decode cX12_fitsIn 27 = .ok (.getfield 25, 3) := by decide +kernel
theorem dX12_fitsIn_30 : decode cX12_fitsIn 30 = .ok (.iload_n 1, 1) := by decide +kernel
theorem dX12_fitsIn_31 : decode cX12_fitsIn 31 = .ok (.iaload, 1) := by decide +kernel
theorem dX12_fitsIn_32 : decode cX12_fitsIn 32 = .ok (.iadd, 1) := by decide +kernel
theorem dX12_fitsIn_33 : decode cX12_fitsIn 33 = .ok (.aload_n 0, 1) := by decide +kernel
theorem dX12_fitsIn_34 : decode cX12_fitsIn 34 = .ok (.getfield 28, 3) := by decide +kernel
theorem dX12_fitsIn_37 : decode cX12_fitsIn 37 = .ok (.iload_n 1, 1) := by decide +kernel
theorem dX12_fitsIn_38 : decode cX12_fitsIn 38 = .ok (.iaload, 1) := by decide +kernel
theorem dX12_fitsIn_39 : decode cX12_fitsIn 39 = .ok (.iadd, 1) := by decide +kernel
theorem dX12_fitsIn_40 : decode cX12_fitsIn 40 = .ok (.aload_n 0, 1) := by decide +kernel
theorem dX12_fitsIn_41 : decode cX12_fitsIn 41 = .ok (.getfield 34, 3) := by decide +kernel
theorem dX12_fitsIn_44 : decode cX12_fitsIn 44 = .ok (.iload_n 1, 1) := by decide +kernel
theorem dX12_fitsIn_45 : decode cX12_fitsIn 45 = .ok (.iaload, 1) := by decide +kernel
theorem dX12_fitsIn_46 : decode cX12_fitsIn 46 = .ok (.if_icmp .gt 7, 3) := by decide +kernel
theorem dX12_fitsIn_49 : decode cX12_fitsIn 49 = .ok (.iconst 1, 1) := by decide +kernel
theorem dX12_fitsIn_50 : decode cX12_fitsIn 50 = .ok (.goto 4, 3) := by decide +kernel
theorem dX12_fitsIn_53 : decode cX12_fitsIn 53 = .ok (.iconst 0, 1) := by decide +kernel
theorem dX12_fitsIn_54 : decode cX12_fitsIn 54 = .ok (.ireturn, 1) := by decide +kernel
theorem dX12_whyNot_0 : decode cX12_whyNot 0 = .ok (.aload_n 1, 1) := by decide +kernel
theorem dX12_whyNot_1 : decode cX12_whyNot 1 = .ok (.iload_n 2, 1) := by decide +kernel
theorem dX12_whyNot_2 : decode cX12_whyNot 2 = .ok (.invokestatic 278, 3) := by decide +kernel
theorem dX12_whyNot_5 : decode cX12_whyNot 5 = .ok (.istore_n 3, 1) := by decide +kernel
theorem dX12_whyNot_6 : decode cX12_whyNot 6 = .ok (.aload_n 0, 1) := by decide +kernel
theorem dX12_whyNot_7 : decode cX12_whyNot 7 = .ok (.aload_n 1, 1) := by decide +kernel
theorem dX12_whyNot_8 : decode cX12_whyNot 8 = .ok (.iload_n 2, 1) := by decide +kernel
theorem dX12_whyNot_9 : decode cX12_whyNot 9 = .ok (.invokevirtual 284, 3) := by decide +kernel
theorem dX12_whyNot_12 : decode cX12_whyNot 12 = .ok (.aload_n 0, 1) := by decide +kernel
theorem dX12_whyNot_13 : decode cX12_whyNot 13 = .ok (.getfield 13, 3) := by decide +kernel
theorem dX12_whyNot_16 : decode cX12_whyNot 16 = .ok (.if_icmp .le 5, 3) := by decide +kernel
theorem dX12_whyNot_19 : decode cX12_whyNot 19 = .ok (.iconst 1, 1) := by decide +kernel
theorem dX12_whyNot_20 : decode cX12_whyNot 20 = .ok (.ireturn, 1) := by decide +kernel
theorem dX12_whyNot_21 : decode cX12_whyNot 21 = .ok (.aload_n 0, 1) := by decide +kernel
theorem dX12_whyNot_22 : decode cX12_whyNot 22 = .ok (.iload_n 3, 1) := by decide +kernel
theorem dX12_whyNot_23 : decode cX12_whyNot 23 = .ok (.aload_n 1, 1) := by decide +kernel
theorem dX12_whyNot_24 : decode cX12_whyNot 24 = .ok (.iload_n 2, 1) := by decide +kernel
theorem dX12_whyNot_25 : decode cX12_whyNot 25 = .ok (.invokestatic 274, 3) := by decide +kernel
theorem dX12_whyNot_28 : decode cX12_whyNot 28 = .ok (.invokevirtual 289, 3) := by decide +kernel
theorem dX12_whyNot_31 : decode cX12_whyNot 31 = .ok (.ifCond .ne 5, 3) := by decide +kernel
theorem dX12_whyNot_34 : decode cX12_whyNot 34 = .ok (.iconst 2, 1) := by decide +kernel
theorem dX12_whyNot_35 : decode cX12_whyNot 35 = .ok (.ireturn, 1) := by decide +kernel
theorem dX12_whyNot_36 : decode cX12_whyNot 36 = .ok (.iconst 0, 1) := by decide +kernel
theorem dX12_whyNot_37 : decode cX12_whyNot 37 = .ok (.istore 4, 2) := by decide +kernel
theorem dX12_whyNot_39 : decode cX12_whyNot 39 = .ok (.iconst 0, 1) := by decide +kernel
theorem dX12_whyNot_40 : decode cX12_whyNot 40 = .ok (.istore 5, 2) := by decide +kernel
theorem dX12_whyNot_42 : decode cX12_whyNot 42 = .ok (.aload_n 0, 1) := by decide +kernel
theorem dX12_whyNot_43 : decode cX12_whyNot 43 = .ok (.getfield 17, 3) := by decide +kernel
theorem dX12_whyNot_46 : decode cX12_whyNot 46 = .ok (.aload_n 1, 1) := by decide +kernel
theorem dX12_whyNot_47 : decode cX12_whyNot 47 = .ok (.iload_n 2, 1) := by decide +kernel
theorem dX12_whyNot_48 : decode cX12_whyNot 48 = .ok (.invokestatic 293, 3) := by decide +kernel
theorem dX12_whyNot_51 : decode cX12_whyNot 51 = .ok (.baload, 1) := by decide +kernel
theorem dX12_whyNot_52 : decode cX12_whyNot 52 = .ok (.ifCond .ne 7, 3) := by decide +kernel
theorem dX12_whyNot_55 : decode cX12_whyNot 55 = .ok (.iconst 1, 1) := by decide +kernel
theorem dX12_whyNot_56 : decode cX12_whyNot 56 = .ok (.goto 4, 3) := by decide +kernel
theorem dX12_whyNot_59 : decode cX12_whyNot 59 = .ok (.iconst 0, 1) := by decide +kernel
theorem dX12_whyNot_60 : decode cX12_whyNot 60 = .ok (.istore 6, 2) := by decide +kernel
theorem dX12_whyNot_62 : decode cX12_whyNot 62 = .ok (.iconst 0, 1) := by decide +kernel
theorem dX12_whyNot_63 : decode cX12_whyNot 63 = .ok (.istore 7, 2) := by decide +kernel
theorem dX12_whyNot_65 : decode cX12_whyNot 65 = .ok (.iload 7, 2) := by decide +kernel
theorem dX12_whyNot_67 : decode cX12_whyNot 67 = .ok (.aload_n 1, 1) := by decide +kernel
theorem dX12_whyNot_68 : decode cX12_whyNot 68 = .ok (.bipush 45, 2) := by decide +kernel
theorem dX12_whyNot_70 : decode cX12_whyNot 70 = .ok (.iaload, 1) := by decide +kernel
theorem dX12_whyNot_71 : decode cX12_whyNot 71 = .ok (.if_icmp .ge 150, 3) := by decide +kernel
theorem dX12_whyNot_74 : decode cX12_whyNot 74 = .ok (.iload 7, 2) := by decide +kernel
theorem dX12_whyNot_76 : decode cX12_whyNot 76 = .ok (.iload_n 2, 1) := by decide +kernel
theorem dX12_whyNot_77 : decode cX12_whyNot 77 = .ok (.if_icmp .eq 138, 3) := by decide +kernel
theorem dX12_whyNot_80 : decode cX12_whyNot 80 = .ok (.iload 4, 2) := by decide +kernel
theorem dX12_whyNot_82 : decode cX12_whyNot 82 = .ok (.ifCond .ne 28, 3) := by decide +kernel
theorem dX12_whyNot_85 : decode cX12_whyNot 85 = .ok (.aload_n 1, 1) := by decide +kernel
theorem dX12_whyNot_86 : decode cX12_whyNot 86 = .ok (.iload 7, 2) := by decide +kernel
theorem dX12_whyNot_88 : decode cX12_whyNot 88 = .ok (.invokestatic 293, 3) := by decide +kernel
theorem dX12_whyNot_91 : decode cX12_whyNot 91 = .ok (.aload_n 1, 1) := by decide +kernel
theorem dX12_whyNot_92 : decode cX12_whyNot 92 = .ok (.iload_n 2, 1) := by decide +kernel
theorem dX12_whyNot_93 : decode cX12_whyNot 93 = .ok (.invokestatic 293, 3) := by decide +kernel
theorem dX12_whyNot_96 : decode cX12_whyNot 96 = .ok (.if_icmp .ne 18, 3) := by decide +kernel
theorem dX12_whyNot_99 : decode cX12_whyNot 99 = .ok (.aload_n 0, 1) := by decide +kernel
theorem dX12_whyNot_100 : decode cX12_whyNot 100 = .ok (.aload_n 1, 1) := by decide +kernel
theorem dX12_whyNot_101 : decode cX12_whyNot 101 = .ok (.iload_n 2, 1) := by decide +kernel
theorem dX12_whyNot_102 : decode cX12_whyNot 102 = .ok (.iload 7, 2) := by decide +kernel
theorem dX12_whyNot_104 : decode cX12_whyNot 104 = .ok (.invokevirtual 296, 3) := by decide +kernel
theorem dX12_whyNot_107 : decode cX12_whyNot 107 = .ok (.ifCond .eq 7, 3) := by decide +kernel
theorem dX12_whyNot_110 : decode cX12_whyNot 110 = .ok (.iconst 1, 1) := by decide +kernel
theorem dX12_whyNot_111 : decode cX12_whyNot 111 = .ok (.goto 4, 3) := by decide +kernel
theorem dX12_whyNot_114 : decode cX12_whyNot 114 = .ok (.iconst 0, 1) := by decide +kernel
theorem dX12_whyNot_115 : decode cX12_whyNot 115 = .ok (.istore 4, 2) := by decide +kernel
theorem dX12_whyNot_117 : decode cX12_whyNot 117 = .ok (.iload 5, 2) := by decide +kernel
theorem dX12_whyNot_119 : decode cX12_whyNot 119 = .ok (.ifCond .ne 53, 3) := by decide +kernel
theorem dX12_whyNot_122 : decode cX12_whyNot 122 = .ok (.aload_n 0, 1) := by decide +kernel
theorem dX12_whyNot_123 : decode cX12_whyNot 123 = .ok (.getfield 37, 3) := by decide +kernel
theorem dX12_whyNot_126 : decode cX12_whyNot 126 = .ok (.iload_n 3, 1) := by decide +kernel
theorem dX12_whyNot_127 : decode cX12_whyNot 127 = .ok (.iaload, 1) := by decide +kernel
theorem dX12_whyNot_128 : decode cX12_whyNot 128 = .ok (.ifCond .le 48, 3) := by decide +kernel
theorem dX12_whyNot_131 : decode cX12_whyNot 131 = .ok (.aload_n 0, 1) := by decide +kernel
theorem dX12_whyNot_132 : decode cX12_whyNot 132 = .ok (.getfield 37, 3) := by decide +kernel
theorem dX12_whyNot_135 : decode cX12_whyNot 135 = .ok (.aload_n 1, 1) := by decide +kernel
theorem dX12_whyNot_136 : decode cX12_whyNot 136 = .ok (.iload 7, 2) := by decide +kernel
theorem dX12_whyNot_138 : decode cX12_whyNot 138 = .ok (.invokestatic 278, 3) := by decide +kernel
theorem dX12_whyNot_141 : decode cX12_whyNot 141 = .ok (.iaload, 1) := by decide +kernel
theorem dX12_whyNot_142 : decode cX12_whyNot 142 = .ok (.aload_n 0, 1) := by decide +kernel
theorem dX12_whyNot_143 : decode cX12_whyNot 143 = .ok (.getfield 37, 3) := by decide +kernel
theorem dX12_whyNot_146 : decode cX12_whyNot 146 = .ok (.iload_n 3, 1) := by decide +kernel
theorem dX12_whyNot_147 : decode cX12_whyNot 147 = .ok (.iaload, 1) := by decide +kernel
theorem dX12_whyNot_148 : decode cX12_whyNot 148 = .ok (.if_icmp .ne 28, 3) := by decide +kernel
theorem dX12_whyNot_151 : decode cX12_whyNot 151 = .ok (.aload_n 0, 1) := by decide +kernel
theorem dX12_whyNot_152 : decode cX12_whyNot 152 = .ok (.aload_n 1, 1) := by decide +kernel
theorem dX12_whyNot_153 : decode cX12_whyNot 153 = .ok (.iload_n 2, 1) := by decide +kernel
theorem dX12_whyNot_154 : decode cX12_whyNot 154 = .ok (.iload 7, 2) := by decide +kernel
theorem dX12_whyNot_156 : decode cX12_whyNot 156 = .ok (.invokevirtual 296, 3) := by decide +kernel
theorem dX12_whyNot_159 : decode cX12_whyNot 159 = .ok (.ifCond .eq 17, 3) := by decide +kernel
theorem dX12_whyNot_162 : decode cX12_whyNot 162 = .ok (.aload_n 1, 1) := by decide +kernel
theorem dX12_whyNot_163 : decode cX12_whyNot 163 = .ok (.iload_n 2, 1) := by decide +kernel
theorem dX12_whyNot_164 : decode cX12_whyNot 164 = .ok (.iload 7, 2) := by decide +kernel
theorem dX12_whyNot_166 : decode cX12_whyNot 166 = .ok (.invokestatic 300, 3) := by decide +kernel
theorem dX12_whyNot_169 : decode cX12_whyNot 169 = .ok (.ifCond .ne 7, 3) := by decide +kernel
theorem dX12_whyNot_172 : decode cX12_whyNot 172 = .ok (.iconst 1, 1) := by decide +kernel
theorem dX12_whyNot_173 : decode cX12_whyNot 173 = .ok (.goto 4, 3) := by decide +kernel
theorem dX12_whyNot_176 : decode cX12_whyNot 176 = .ok (.iconst 0, 1) := by decide +kernel
theorem dX12_whyNot_177 : decode cX12_whyNot 177 = .ok (.istore 5, 2) := by decide +kernel
theorem dX12_whyNot_179 : decode cX12_whyNot 179 = .ok (.iload 6, 2) := by decide +kernel
theorem dX12_whyNot_181 : decode cX12_whyNot 181 = .ok (.ifCond .ne 27, 3) := by decide +kernel
theorem dX12_whyNot_184 : decode cX12_whyNot 184 = .ok (.aload_n 1, 1) := by decide +kernel
theorem dX12_whyNot_185 : decode cX12_whyNot 185 = .ok (.iload 7, 2) := by decide +kernel
theorem dX12_whyNot_187 : decode cX12_whyNot 187 = .ok (.invokestatic 293, 3) := by decide +kernel
theorem dX12_whyNot_190 : decode cX12_whyNot 190 = .ok (.aload_n 1, 1) := by decide +kernel
theorem dX12_whyNot_191 : decode cX12_whyNot 191 = .ok (.iload_n 2, 1) := by decide +kernel
theorem dX12_whyNot_192 : decode cX12_whyNot 192 = .ok (.invokestatic 293, 3) := by decide +kernel
theorem dX12_whyNot_195 : decode cX12_whyNot 195 = .ok (.if_icmp .eq 17, 3) := by decide +kernel
theorem dX12_whyNot_198 : decode cX12_whyNot 198 = .ok (.aload_n 1, 1) := by decide +kernel
theorem dX12_whyNot_199 : decode cX12_whyNot 199 = .ok (.iload_n 2, 1) := by decide +kernel
theorem dX12_whyNot_200 : decode cX12_whyNot 200 = .ok (.iload 7, 2) := by decide +kernel
theorem dX12_whyNot_202 : decode cX12_whyNot 202 = .ok (.invokestatic 300, 3) := by decide +kernel
theorem dX12_whyNot_205 : decode cX12_whyNot 205 = .ok (.ifCond .eq 7, 3) := by decide +kernel
theorem dX12_whyNot_208 : decode cX12_whyNot 208 = .ok (.iconst 1, 1) := by decide +kernel
theorem dX12_whyNot_209 : decode cX12_whyNot 209 = .ok (.goto 4, 3) := by decide +kernel
theorem dX12_whyNot_212 : decode cX12_whyNot 212 = .ok (.iconst 0, 1) := by decide +kernel
theorem dX12_whyNot_213 : decode cX12_whyNot 213 = .ok (.istore 6, 2) := by decide +kernel
theorem dX12_whyNot_215 : decode cX12_whyNot 215 = .ok (.iinc 7 1, 3) := by decide +kernel
theorem dX12_whyNot_218 : decode cX12_whyNot 218 = .ok (.goto (-153), 3) := by decide +kernel
theorem dX12_whyNot_221 : decode cX12_whyNot 221 = .ok (.iload 4, 2) := by decide +kernel
theorem dX12_whyNot_223 : decode cX12_whyNot 223 = .ok (.ifCond .eq 7, 3) := by decide +kernel
theorem dX12_whyNot_226 : decode cX12_whyNot 226 = .ok (.iconst 3, 1) := by decide +kernel
theorem dX12_whyNot_227 : decode cX12_whyNot 227 = .ok (.goto 22, 3) := by decide +kernel
theorem dX12_whyNot_230 : decode cX12_whyNot 230 = .ok (.iload 5, 2) := by decide +kernel
theorem dX12_whyNot_232 : decode cX12_whyNot 232 = .ok (.ifCond .eq 7, 3) := by decide +kernel
theorem dX12_whyNot_235 : decode cX12_whyNot 235 = .ok (.iconst 4, 1) := by decide +kernel
theorem dX12_whyNot_236 : decode cX12_whyNot 236 = .ok (.goto 13, 3) := by decide +kernel
theorem dX12_whyNot_239 : decode cX12_whyNot 239 = .ok (.iload 6, 2) := by decide +kernel
theorem dX12_whyNot_241 : decode cX12_whyNot 241 = .ok (.ifCond .eq 7, 3) := by decide +kernel
theorem dX12_whyNot_244 : decode cX12_whyNot 244 = .ok (.iconst 0, 1) := by decide +kernel
theorem dX12_whyNot_245 : decode cX12_whyNot 245 = .ok (.goto 4, 3) := by decide +kernel
theorem dX12_whyNot_248 : decode cX12_whyNot 248 = .ok (.iconst 5, 1) := by decide +kernel
theorem dX12_whyNot_249 : decode cX12_whyNot 249 = .ok (.ireturn, 1) := by decide +kernel
theorem dX12_thingOf_0 : decode cX12_thingOf 0 = .ok (.iconst 0, 1) := by decide +kernel
theorem dX12_thingOf_1 : decode cX12_thingOf 1 = .ok (.istore 4, 2) := by decide +kernel
theorem dX12_thingOf_3 : decode cX12_thingOf 3 = .ok (.iload_n 3, 1) := by decide +kernel
theorem dX12_thingOf_4 : decode cX12_thingOf 4 = .ok (.tableswitch 156 0 6 #[44, 64, 74, 80, 130, 136, 142], 44) := by decide +kernel
theorem dX12_thingOf_48 : decode cX12_thingOf 48 = .ok (.aload_n 0, 1) := by decide +kernel
theorem dX12_thingOf_49 : decode cX12_thingOf 49 = .ok (.getfield 21, 3) := by decide +kernel
theorem dX12_thingOf_52 : decode cX12_thingOf 52 = .ok (.bipush 8, 2) := by decide +kernel
theorem dX12_thingOf_54 : decode cX12_thingOf 54 = .ok (.aload_n 1, 1) := by decide +kernel
theorem dX12_thingOf_55 : decode cX12_thingOf 55 = .ok (.iload_n 2, 1) := by decide +kernel
theorem dX12_thingOf_56 : decode cX12_thingOf 56 = .ok (.invokestatic 293, 3) := by decide +kernel
theorem dX12_thingOf_59 : decode cX12_thingOf 59 = .ok (.imul, 1) := by decide +kernel
theorem dX12_thingOf_60 : decode cX12_thingOf 60 = .ok (.aload_n 1, 1) := by decide +kernel
theorem dX12_thingOf_61 : decode cX12_thingOf 61 = .ok (.iload_n 2, 1) := by decide +kernel
theorem dX12_thingOf_62 : decode cX12_thingOf 62 = .ok (.invokestatic 278, 3) := by decide +kernel
theorem dX12_thingOf_65 : decode cX12_thingOf 65 = .ok (.iadd, 1) := by decide +kernel
theorem dX12_thingOf_66 : decode cX12_thingOf 66 = .ok (.iaload, 1) := by decide +kernel
theorem dX12_thingOf_67 : decode cX12_thingOf 67 = .ok (.ireturn, 1) := by decide +kernel
theorem dX12_thingOf_68 : decode cX12_thingOf 68 = .ok (.aload_n 0, 1) := by decide +kernel
theorem dX12_thingOf_69 : decode cX12_thingOf 69 = .ok (.aload_n 1, 1) := by decide +kernel
theorem dX12_thingOf_70 : decode cX12_thingOf 70 = .ok (.iload_n 2, 1) := by decide +kernel
theorem dX12_thingOf_71 : decode cX12_thingOf 71 = .ok (.invokestatic 278, 3) := by decide +kernel
theorem dX12_thingOf_74 : decode cX12_thingOf 74 = .ok (.invokevirtual 281, 3) := by decide +kernel
theorem dX12_thingOf_77 : decode cX12_thingOf 77 = .ok (.ireturn, 1) := by decide +kernel
theorem dX12_thingOf_78 : decode cX12_thingOf 78 = .ok (.aload_n 1, 1) := by decide +kernel
theorem dX12_thingOf_79 : decode cX12_thingOf 79 = .ok (.iload_n 2, 1) := by decide +kernel
theorem dX12_thingOf_80 : decode cX12_thingOf 80 = .ok (.invokestatic 274, 3) := by decide +kernel
theorem dX12_thingOf_83 : decode cX12_thingOf 83 = .ok (.ireturn, 1) := by decide +kernel
theorem dX12_thingOf_84 : decode cX12_thingOf 84 = .ok (.iconst 0, 1) := by decide +kernel
theorem dX12_thingOf_85 : decode cX12_thingOf 85 = .ok (.istore 5, 2) := by decide +kernel
theorem dX12_thingOf_87 : decode cX12_thingOf 87 = .ok (.iload 5, 2) := by decide +kernel
theorem dX12_thingOf_89 : decode cX12_thingOf 89 = .ok (.aload_n 1, 1) := by decide +kernel
theorem dX12_thingOf_90 : decode cX12_thingOf 90 = .ok (.bipush 45, 2) := by decide +kernel
theorem dX12_thingOf_92 : decode cX12_thingOf 92 = .ok (.iaload, 1) := by decide +kernel
theorem dX12_thingOf_93 : decode cX12_thingOf 93 = .ok (.if_icmp .ge 38, 3) := by decide +kernel
theorem dX12_thingOf_96 : decode cX12_thingOf 96 = .ok (.iload 4, 2) := by decide +kernel
theorem dX12_thingOf_98 : decode cX12_thingOf 98 = .ok (.iload 5, 2) := by decide +kernel
theorem dX12_thingOf_100 : decode cX12_thingOf 100 = .ok (.iload_n 2, 1) := by decide +kernel
theorem dX12_thingOf_101 : decode cX12_thingOf 101 = .ok (.if_icmp .eq 17, 3) := by decide +kernel
theorem dX12_thingOf_104 : decode cX12_thingOf 104 = .ok (.aload_n 1, 1) := by decide +kernel
theorem dX12_thingOf_105 : decode cX12_thingOf 105 = .ok (.iload_n 2, 1) := by decide +kernel
theorem dX12_thingOf_106 : decode cX12_thingOf 106 = .ok (.iload 5, 2) := by decide +kernel
theorem dX12_thingOf_108 : decode cX12_thingOf 108 = .ok (.invokestatic 300, 3) := by decide +kernel
theorem dX12_thingOf_111 : decode cX12_thingOf 111 = .ok (.ifCond .eq 7, 3) := by decide +kernel
theorem dX12_thingOf_114 : decode cX12_thingOf 114 = .ok (.iconst 1, 1) := by decide +kernel
theorem dX12_thingOf_115 : decode cX12_thingOf 115 = .ok (.goto 4, 3) := by decide +kernel
theorem dX12_thingOf_118 : decode cX12_thingOf 118 = .ok (.iconst 0, 1) := by decide +kernel
theorem dX12_thingOf_119 : decode cX12_thingOf 119 = .ok (.invokestatic 171, 3) := by decide +kernel
theorem dX12_thingOf_122 : decode cX12_thingOf 122 = .ok (.iadd, 1) := by decide +kernel
theorem dX12_thingOf_123 : decode cX12_thingOf 123 = .ok (.istore 4, 2) := by decide +kernel
theorem dX12_thingOf_125 : decode cX12_thingOf 125 = .ok (.iinc 5 1, 3) := by decide +kernel
theorem dX12_thingOf_128 : decode cX12_thingOf 128 = .ok (.goto (-41), 3) := by decide +kernel
theorem dX12_thingOf_131 : decode cX12_thingOf 131 = .ok (.iload 4, 2) := by decide +kernel
theorem dX12_thingOf_133 : decode cX12_thingOf 133 = .ok (.ireturn, 1) := by decide +kernel
theorem dX12_thingOf_134 : decode cX12_thingOf 134 = .ok (.aload_n 1, 1) := by decide +kernel
theorem dX12_thingOf_135 : decode cX12_thingOf 135 = .ok (.iload_n 2, 1) := by decide +kernel
theorem dX12_thingOf_136 : decode cX12_thingOf 136 = .ok (.invokestatic 293, 3) := by decide +kernel
theorem dX12_thingOf_139 : decode cX12_thingOf 139 = .ok (.ireturn, 1) := by decide +kernel
theorem dX12_thingOf_140 : decode cX12_thingOf 140 = .ok (.aload_n 1, 1) := by decide +kernel
theorem dX12_thingOf_141 : decode cX12_thingOf 141 = .ok (.iload_n 2, 1) := by decide +kernel
theorem dX12_thingOf_142 : decode cX12_thingOf 142 = .ok (.invokestatic 278, 3) := by decide +kernel
theorem dX12_thingOf_145 : decode cX12_thingOf 145 = .ok (.ireturn, 1) := by decide +kernel
theorem dX12_thingOf_146 : decode cX12_thingOf 146 = .ok (.aload_n 0, 1) := by decide +kernel
theorem dX12_thingOf_147 : decode cX12_thingOf 147 = .ok (.getfield 17, 3) := by decide +kernel
theorem dX12_thingOf_150 : decode cX12_thingOf 150 = .ok (.aload_n 1, 1) := by decide +kernel
theorem dX12_thingOf_151 : decode cX12_thingOf 151 = .ok (.iload_n 2, 1) := by decide +kernel
theorem dX12_thingOf_152 : decode cX12_thingOf 152 = .ok (.invokestatic 293, 3) := by decide +kernel
theorem dX12_thingOf_155 : decode cX12_thingOf 155 = .ok (.baload, 1) := by decide +kernel
theorem dX12_thingOf_156 : decode cX12_thingOf 156 = .ok (.invokestatic 171, 3) := by decide +kernel
theorem dX12_thingOf_159 : decode cX12_thingOf 159 = .ok (.ireturn, 1) := by decide +kernel
theorem dX12_thingOf_160 : decode cX12_thingOf 160 = .ok (.iconst 0, 1) := by decide +kernel
theorem dX12_thingOf_161 : decode cX12_thingOf 161 = .ok (.istore 5, 2) := by decide +kernel
theorem dX12_thingOf_163 : decode cX12_thingOf 163 = .ok (.iload 5, 2) := by decide +kernel
theorem dX12_thingOf_165 : decode cX12_thingOf 165 = .ok (.iload_n 2, 1) := by decide +kernel
theorem dX12_thingOf_166 : decode cX12_thingOf 166 = .ok (.if_icmp .ge 50, 3) := by decide +kernel
theorem dX12_thingOf_169 : decode cX12_thingOf 169 = .ok (.iload 4, 2) := by decide +kernel
theorem dX12_thingOf_171 : decode cX12_thingOf 171 = .ok (.aload_n 1, 1) := by decide +kernel
theorem dX12_thingOf_172 : decode cX12_thingOf 172 = .ok (.iload 5, 2) := by decide +kernel
theorem dX12_thingOf_174 : decode cX12_thingOf 174 = .ok (.invokestatic 293, 3) := by decide +kernel
theorem dX12_thingOf_177 : decode cX12_thingOf 177 = .ok (.aload_n 1, 1) := by decide +kernel
theorem dX12_thingOf_178 : decode cX12_thingOf 178 = .ok (.iload_n 2, 1) := by decide +kernel
theorem dX12_thingOf_179 : decode cX12_thingOf 179 = .ok (.invokestatic 293, 3) := by decide +kernel
theorem dX12_thingOf_182 : decode cX12_thingOf 182 = .ok (.if_icmp .ne 21, 3) := by decide +kernel
theorem dX12_thingOf_185 : decode cX12_thingOf 185 = .ok (.aload_n 1, 1) := by decide +kernel
theorem dX12_thingOf_186 : decode cX12_thingOf 186 = .ok (.iload 5, 2) := by decide +kernel
theorem dX12_thingOf_188 : decode cX12_thingOf 188 = .ok (.invokestatic 278, 3) := by decide +kernel
theorem dX12_thingOf_191 : decode cX12_thingOf 191 = .ok (.aload_n 1, 1) := by decide +kernel
theorem dX12_thingOf_192 : decode cX12_thingOf 192 = .ok (.iload_n 2, 1) := by decide +kernel
theorem dX12_thingOf_193 : decode cX12_thingOf 193 = .ok (.invokestatic 278, 3) := by decide +kernel
theorem dX12_thingOf_196 : decode cX12_thingOf 196 = .ok (.if_icmp .ne 7, 3) := by decide +kernel
theorem dX12_thingOf_199 : decode cX12_thingOf 199 = .ok (.iconst 1, 1) := by decide +kernel
theorem dX12_thingOf_200 : decode cX12_thingOf 200 = .ok (.goto 4, 3) := by decide +kernel
theorem dX12_thingOf_203 : decode cX12_thingOf 203 = .ok (.iconst 0, 1) := by decide +kernel
theorem dX12_thingOf_204 : decode cX12_thingOf 204 = .ok (.invokestatic 171, 3) := by decide +kernel
theorem dX12_thingOf_207 : decode cX12_thingOf 207 = .ok (.iadd, 1) := by decide +kernel
theorem dX12_thingOf_208 : decode cX12_thingOf 208 = .ok (.istore 4, 2) := by decide +kernel
theorem dX12_thingOf_210 : decode cX12_thingOf 210 = .ok (.iinc 5 1, 3) := by decide +kernel
theorem dX12_thingOf_213 : decode cX12_thingOf 213 = .ok (.goto (-50), 3) := by decide +kernel
theorem dX12_thingOf_216 : decode cX12_thingOf 216 = .ok (.iload 4, 2) := by decide +kernel
theorem dX12_thingOf_218 : decode cX12_thingOf 218 = .ok (.ifCond .le 7, 3) := by decide +kernel
theorem dX12_thingOf_221 : decode cX12_thingOf 221 = .ok (.iconst 1, 1) := by decide +kernel
theorem dX12_thingOf_222 : decode cX12_thingOf 222 = .ok (.goto 4, 3) := by decide +kernel
theorem dX12_thingOf_225 : decode cX12_thingOf 225 = .ok (.iconst 0, 1) := by decide +kernel
theorem dX12_thingOf_226 : decode cX12_thingOf 226 = .ok (.invokestatic 171, 3) := by decide +kernel
theorem dX12_thingOf_229 : decode cX12_thingOf 229 = .ok (.ireturn, 1) := by decide +kernel
theorem dX12_worthOf_0 : decode cX12_worthOf 0 = .ok (.iconst 0, 1) := by decide +kernel
theorem dX12_worthOf_1 : decode cX12_worthOf 1 = .ok (.istore_n 3, 1) := by decide +kernel
theorem dX12_worthOf_2 : decode cX12_worthOf 2 = .ok (.iconst 0, 1) := by decide +kernel
theorem dX12_worthOf_3 : decode cX12_worthOf 3 = .ok (.istore 4, 2) := by decide +kernel
theorem dX12_worthOf_5 : decode cX12_worthOf 5 = .ok (.iload 4, 2) := by decide +kernel
theorem dX12_worthOf_7 : decode cX12_worthOf 7 = .ok (.aload_n 0, 1) := by decide +kernel
theorem dX12_worthOf_8 : decode cX12_worthOf 8 = .ok (.getfield 271, 3) := by decide +kernel
theorem dX12_worthOf_11 : decode cX12_worthOf 11 = .ok (.if_icmp .ge 125, 3) := by decide +kernel
theorem dX12_worthOf_14 : decode cX12_worthOf 14 = .ok (.aload_n 0, 1) := by decide +kernel
theorem dX12_worthOf_15 : decode cX12_worthOf 15 = .ok (.getfield 61, 3) := by decide +kernel
theorem dX12_worthOf_18 : decode cX12_worthOf 18 = .ok (.iload 4, 2) := by decide +kernel
theorem dX12_worthOf_20 : decode cX12_worthOf 20 = .ok (.iaload, 1) := by decide +kernel
theorem dX12_worthOf_21 : decode cX12_worthOf 21 = .ok (.istore 5, 2) := by decide +kernel
theorem dX12_worthOf_23 : decode cX12_worthOf 23 = .ok (.iload 5, 2) := by decide +kernel
theorem dX12_worthOf_25 : decode cX12_worthOf 25 = .ok (.sipush 3000, 3) := by decide +kernel
theorem dX12_worthOf_28 : decode cX12_worthOf 28 = .ok (.if_icmp .ne 23, 3) := by decide +kernel
theorem dX12_worthOf_31 : decode cX12_worthOf 31 = .ok (.aload_n 0, 1) := by decide +kernel
theorem dX12_worthOf_32 : decode cX12_worthOf 32 = .ok (.getfield 67, 3) := by decide +kernel
theorem dX12_worthOf_35 : decode cX12_worthOf 35 = .ok (.iload_n 3, 1) := by decide +kernel
theorem dX12_worthOf_36 : decode cX12_worthOf 36 = .ok (.iconst 1, 1) := by decide +kernel
theorem dX12_worthOf_37 : decode cX12_worthOf 37 = .ok (.isub, 1) := by decide +kernel
theorem dX12_worthOf_38 : decode cX12_worthOf 38 = .ok (.aload_n 0, 1) := by decide +kernel
theorem dX12_worthOf_39 : decode cX12_worthOf 39 = .ok (.getfield 67, 3) := by decide +kernel
theorem dX12_worthOf_42 : decode cX12_worthOf 42 = .ok (.iload_n 3, 1) := by decide +kernel
theorem dX12_worthOf_43 : decode cX12_worthOf 43 = .ok (.iconst 1, 1) := by decide +kernel
theorem dX12_worthOf_44 : decode cX12_worthOf 44 = .ok (.isub, 1) := by decide +kernel
theorem dX12_worthOf_45 : decode cX12_worthOf 45 = .ok (.iaload, 1) := by decide +kernel
theorem dX12_worthOf_46 : decode cX12_worthOf 46 = .ok (.ineg, 1) := by decide +kernel
theorem dX12_worthOf_47 : decode cX12_worthOf 47 = .ok (.iastore, 1) := by decide +kernel
theorem dX12_worthOf_48 : decode cX12_worthOf 48 = .ok (.goto 82, 3) := by decide +kernel
theorem dX12_worthOf_51 : decode cX12_worthOf 51 = .ok (.iload 5, 2) := by decide +kernel
theorem dX12_worthOf_53 : decode cX12_worthOf 53 = .ok (.sipush 2000, 3) := by decide +kernel
theorem dX12_worthOf_56 : decode cX12_worthOf 56 = .ok (.if_icmp .lt 40, 3) := by decide +kernel
theorem dX12_worthOf_59 : decode cX12_worthOf 59 = .ok (.iinc 3 (-1), 3) := by decide +kernel
theorem dX12_worthOf_62 : decode cX12_worthOf 62 = .ok (.aload_n 0, 1) := by decide +kernel
theorem dX12_worthOf_63 : decode cX12_worthOf 63 = .ok (.getfield 67, 3) := by decide +kernel
theorem dX12_worthOf_66 : decode cX12_worthOf 66 = .ok (.iload_n 3, 1) := by decide +kernel
theorem dX12_worthOf_67 : decode cX12_worthOf 67 = .ok (.iconst 1, 1) := by decide +kernel
theorem dX12_worthOf_68 : decode cX12_worthOf 68 = .ok (.isub, 1) := by decide +kernel
theorem dX12_worthOf_69 : decode cX12_worthOf 69 = .ok (.iload 5, 2) := by decide +kernel
theorem dX12_worthOf_71 : decode cX12_worthOf 71 = .ok (.sipush 2000, 3) := by decide +kernel
theorem dX12_worthOf_74 : decode cX12_worthOf 74 = .ok (.isub, 1) := by decide +kernel
theorem dX12_worthOf_75 : decode cX12_worthOf 75 = .ok (.aload_n 0, 1) := by decide +kernel
theorem dX12_worthOf_76 : decode cX12_worthOf 76 = .ok (.getfield 67, 3) := by decide +kernel
theorem dX12_worthOf_79 : decode cX12_worthOf 79 = .ok (.iload_n 3, 1) := by decide +kernel
theorem dX12_worthOf_80 : decode cX12_worthOf 80 = .ok (.iconst 1, 1) := by decide +kernel
theorem dX12_worthOf_81 : decode cX12_worthOf 81 = .ok (.isub, 1) := by decide +kernel
theorem dX12_worthOf_82 : decode cX12_worthOf 82 = .ok (.iaload, 1) := by decide +kernel
theorem dX12_worthOf_83 : decode cX12_worthOf 83 = .ok (.aload_n 0, 1) := by decide +kernel
theorem dX12_worthOf_84 : decode cX12_worthOf 84 = .ok (.getfield 67, 3) := by decide +kernel
theorem dX12_worthOf_87 : decode cX12_worthOf 87 = .ok (.iload_n 3, 1) := by decide +kernel
theorem dX12_worthOf_88 : decode cX12_worthOf 88 = .ok (.iaload, 1) := by decide +kernel
theorem dX12_worthOf_89 : decode cX12_worthOf 89 = .ok (.invokestatic 303, 3) := by decide +kernel
theorem dX12_worthOf_92 : decode cX12_worthOf 92 = .ok (.iastore, 1) := by decide +kernel
theorem dX12_worthOf_93 : decode cX12_worthOf 93 = .ok (.goto 37, 3) := by decide +kernel
theorem dX12_worthOf_96 : decode cX12_worthOf 96 = .ok (.aload_n 0, 1) := by decide +kernel
theorem dX12_worthOf_97 : decode cX12_worthOf 97 = .ok (.getfield 67, 3) := by decide +kernel
theorem dX12_worthOf_100 : decode cX12_worthOf 100 = .ok (.iload_n 3, 1) := by decide +kernel
theorem dX12_worthOf_101 : decode cX12_worthOf 101 = .ok (.iload 5, 2) := by decide +kernel
theorem dX12_worthOf_103 : decode cX12_worthOf 103 = .ok (.sipush 1000, 3) := by decide +kernel
theorem dX12_worthOf_106 : decode cX12_worthOf 106 = .ok (.if_icmp .lt 18, 3) := by decide +kernel
theorem dX12_worthOf_109 : decode cX12_worthOf 109 = .ok (.aload_n 0, 1) := by decide +kernel
theorem dX12_worthOf_110 : decode cX12_worthOf 110 = .ok (.aload_n 1, 1) := by decide +kernel
theorem dX12_worthOf_111 : decode cX12_worthOf 111 = .ok (.iload_n 2, 1) := by decide +kernel
theorem dX12_worthOf_112 : decode cX12_worthOf 112 = .ok (.iload 5, 2) := by decide +kernel
theorem dX12_worthOf_114 : decode cX12_worthOf 114 = .ok (.sipush 1000, 3) := by decide +kernel
theorem dX12_worthOf_117 : decode cX12_worthOf 117 = .ok (.isub, 1) := by decide +kernel
theorem dX12_worthOf_118 : decode cX12_worthOf 118 = .ok (.invokevirtual 307, 3) := by decide +kernel
theorem dX12_worthOf_121 : decode cX12_worthOf 121 = .ok (.goto 5, 3) := by decide +kernel
theorem dX12_worthOf_124 : decode cX12_worthOf 124 = .ok (.iload 5, 2) := by decide +kernel
theorem dX12_worthOf_126 : decode cX12_worthOf 126 = .ok (.iastore, 1) := by decide +kernel
theorem dX12_worthOf_127 : decode cX12_worthOf 127 = .ok (.iinc 3 1, 3) := by decide +kernel
theorem dX12_worthOf_130 : decode cX12_worthOf 130 = .ok (.iinc 4 1, 3) := by decide +kernel
theorem dX12_worthOf_133 : decode cX12_worthOf 133 = .ok (.goto (-128), 3) := by decide +kernel
theorem dX12_worthOf_136 : decode cX12_worthOf 136 = .ok (.aload_n 0, 1) := by decide +kernel
theorem dX12_worthOf_137 : decode cX12_worthOf 137 = .ok (.getfield 271, 3) := by decide +kernel
theorem dX12_worthOf_140 : decode cX12_worthOf 140 = .ok (.ifCond .ne 13, 3) := by decide +kernel
theorem dX12_worthOf_143 : decode cX12_worthOf 143 = .ok (.aload_n 0, 1) := by decide +kernel
theorem dX12_worthOf_144 : decode cX12_worthOf 144 = .ok (.aload_n 1, 1) := by decide +kernel
theorem dX12_worthOf_145 : decode cX12_worthOf 145 = .ok (.iload_n 2, 1) := by decide +kernel
theorem dX12_worthOf_146 : decode cX12_worthOf 146 = .ok (.iconst 0, 1) := by decide +kernel
theorem dX12_worthOf_147 : decode cX12_worthOf 147 = .ok (.invokevirtual 307, 3) := by decide +kernel
theorem dX12_worthOf_150 : decode cX12_worthOf 150 = .ok (.goto 9, 3) := by decide +kernel
theorem dX12_worthOf_153 : decode cX12_worthOf 153 = .ok (.aload_n 0, 1) := by decide +kernel
theorem dX12_worthOf_154 : decode cX12_worthOf 154 = .ok (.getfield 67, 3) := by decide +kernel
theorem dX12_worthOf_157 : decode cX12_worthOf 157 = .ok (.iconst 0, 1) := by decide +kernel
theorem dX12_worthOf_158 : decode cX12_worthOf 158 = .ok (.iaload, 1) := by decide +kernel
theorem dX12_worthOf_159 : decode cX12_worthOf 159 = .ok (.istore 4, 2) := by decide +kernel
theorem dX12_worthOf_161 : decode cX12_worthOf 161 = .ok (.sipush (-999), 3) := by decide +kernel
theorem dX12_worthOf_164 : decode cX12_worthOf 164 = .ok (.sipush 999, 3) := by decide +kernel
theorem dX12_worthOf_167 : decode cX12_worthOf 167 = .ok (.iload 4, 2) := by decide +kernel
theorem dX12_worthOf_169 : decode cX12_worthOf 169 = .ok (.invokestatic 162, 3) := by decide +kernel
theorem dX12_worthOf_172 : decode cX12_worthOf 172 = .ok (.invokestatic 311, 3) := by decide +kernel
theorem dX12_worthOf_175 : decode cX12_worthOf 175 = .ok (.ireturn, 1) := by decide +kernel
theorem dX12_worthAll_0 : decode cX12_worthAll 0 = .ok (.iconst 0, 1) := by decide +kernel
theorem dX12_worthAll_1 : decode cX12_worthAll 1 = .ok (.istore_n 2, 1) := by decide +kernel
theorem dX12_worthAll_2 : decode cX12_worthAll 2 = .ok (.iconst 0, 1) := by decide +kernel
theorem dX12_worthAll_3 : decode cX12_worthAll 3 = .ok (.istore_n 3, 1) := by decide +kernel
theorem dX12_worthAll_4 : decode cX12_worthAll 4 = .ok (.iload_n 3, 1) := by decide +kernel
theorem dX12_worthAll_5 : decode cX12_worthAll 5 = .ok (.aload_n 1, 1) := by decide +kernel
theorem dX12_worthAll_6 : decode cX12_worthAll 6 = .ok (.bipush 45, 2) := by decide +kernel
theorem dX12_worthAll_8 : decode cX12_worthAll 8 = .ok (.iaload, 1) := by decide +kernel
theorem dX12_worthAll_9 : decode cX12_worthAll 9 = .ok (.if_icmp .ge 18, 3) := by decide +kernel
theorem dX12_worthAll_12 : decode cX12_worthAll 12 = .ok (.iload_n 2, 1) := by decide +kernel
theorem dX12_worthAll_13 : decode cX12_worthAll 13 = .ok (.aload_n 0, 1) := by decide +kernel
theorem dX12_worthAll_14 : decode cX12_worthAll 14 = .ok (.aload_n 1, 1) := by decide +kernel
theorem dX12_worthAll_15 : decode cX12_worthAll 15 = .ok (.iload_n 3, 1) := by decide +kernel
theorem dX12_worthAll_16 : decode cX12_worthAll 16 = .ok (.invokevirtual 314, 3) := by decide +kernel
theorem dX12_worthAll_19 : decode cX12_worthAll 19 = .ok (.iadd, 1) := by decide +kernel
theorem dX12_worthAll_20 : decode cX12_worthAll 20 = .ok (.istore_n 2, 1) := by decide +kernel
theorem dX12_worthAll_21 : decode cX12_worthAll 21 = .ok (.iinc 3 1, 3) := by decide +kernel
theorem dX12_worthAll_24 : decode cX12_worthAll 24 = .ok (.goto (-20), 3) := by decide +kernel
theorem dX12_worthAll_27 : decode cX12_worthAll 27 = .ok (.iload_n 2, 1) := by decide +kernel
theorem dX12_worthAll_28 : decode cX12_worthAll 28 = .ok (.ireturn, 1) := by decide +kernel
theorem dX12_benchIn_0 : decode cX12_benchIn 0 = .ok (.iconst 1, 1) := by decide +kernel
theorem dX12_benchIn_1 : decode cX12_benchIn 1 = .ok (.aload_n 0, 1) := by decide +kernel
theorem dX12_benchIn_2 : decode cX12_benchIn 2 = .ok (.getfield 143, 3) := by decide +kernel
theorem dX12_benchIn_5 : decode cX12_benchIn 5 = .ok (.ishl, 1) := by decide +kernel
theorem dX12_benchIn_6 : decode cX12_benchIn 6 = .ok (.iconst 1, 1) := by decide +kernel
theorem dX12_benchIn_7 : decode cX12_benchIn 7 = .ok (.isub, 1) := by decide +kernel
theorem dX12_benchIn_8 : decode cX12_benchIn 8 = .ok (.istore_n 3, 1) := by decide +kernel
theorem dX12_benchIn_9 : decode cX12_benchIn 9 = .ok (.iconst 0, 1) := by decide +kernel
theorem dX12_benchIn_10 : decode cX12_benchIn 10 = .ok (.istore 4, 2) := by decide +kernel
theorem dX12_benchIn_12 : decode cX12_benchIn 12 = .ok (.iload 4, 2) := by decide +kernel
theorem dX12_benchIn_14 : decode cX12_benchIn 14 = .ok (.aload_n 1, 1) := by decide +kernel
theorem dX12_benchIn_15 : decode cX12_benchIn 15 = .ok (.bipush 45, 2) := by decide +kernel
theorem dX12_benchIn_17 : decode cX12_benchIn 17 = .ok (.iaload, 1) := by decide +kernel
theorem dX12_benchIn_18 : decode cX12_benchIn 18 = .ok (.if_icmp .ge 37, 3) := by decide +kernel
theorem dX12_benchIn_21 : decode cX12_benchIn 21 = .ok (.iload_n 3, 1) := by decide +kernel
theorem dX12_benchIn_22 : decode cX12_benchIn 22 = .ok (.aload_n 0, 1) := by decide +kernel
theorem dX12_benchIn_23 : decode cX12_benchIn 23 = .ok (.aload_n 1, 1) := by decide +kernel
theorem dX12_benchIn_24 : decode cX12_benchIn 24 = .ok (.iload 4, 2) := by decide +kernel
theorem dX12_benchIn_26 : decode cX12_benchIn 26 = .ok (.iload_n 2, 1) := by decide +kernel
theorem dX12_benchIn_27 : decode cX12_benchIn 27 = .ok (.invokevirtual 317, 3) := by decide +kernel
theorem dX12_benchIn_30 : decode cX12_benchIn 30 = .ok (.ifCond .eq 16, 3) := by decide +kernel
theorem dX12_benchIn_33 : decode cX12_benchIn 33 = .ok (.iconst 1, 1) := by decide +kernel
theorem dX12_benchIn_34 : decode cX12_benchIn 34 = .ok (.aload_n 1, 1) := by decide +kernel
theorem dX12_benchIn_35 : decode cX12_benchIn 35 = .ok (.iload 4, 2) := by decide +kernel
theorem dX12_benchIn_37 : decode cX12_benchIn 37 = .ok (.invokestatic 293, 3) := by decide +kernel
theorem dX12_benchIn_40 : decode cX12_benchIn 40 = .ok (.ishl, 1) := by decide +kernel
theorem dX12_benchIn_41 : decode cX12_benchIn 41 = .ok (.iconst (-1), 1) := by decide +kernel
theorem dX12_benchIn_42 : decode cX12_benchIn 42 = .ok (.ixor, 1) := by decide +kernel
theorem dX12_benchIn_43 : decode cX12_benchIn 43 = .ok (.goto 4, 3) := by decide +kernel
theorem dX12_benchIn_46 : decode cX12_benchIn 46 = .ok (.iconst (-1), 1) := by decide +kernel
theorem dX12_benchIn_47 : decode cX12_benchIn 47 = .ok (.iand, 1) := by decide +kernel
theorem dX12_benchIn_48 : decode cX12_benchIn 48 = .ok (.istore_n 3, 1) := by decide +kernel
theorem dX12_benchIn_49 : decode cX12_benchIn 49 = .ok (.iinc 4 1, 3) := by decide +kernel
theorem dX12_benchIn_52 : decode cX12_benchIn 52 = .ok (.goto (-40), 3) := by decide +kernel
theorem dX12_benchIn_55 : decode cX12_benchIn 55 = .ok (.iload_n 3, 1) := by decide +kernel
theorem dX12_benchIn_56 : decode cX12_benchIn 56 = .ok (.ireturn, 1) := by decide +kernel
theorem dX12_seersIn_0 : decode cX12_seersIn 0 = .ok (.iconst 0, 1) := by decide +kernel
theorem dX12_seersIn_1 : decode cX12_seersIn 1 = .ok (.istore_n 3, 1) := by decide +kernel
theorem dX12_seersIn_2 : decode cX12_seersIn 2 = .ok (.iconst 0, 1) := by decide +kernel
theorem dX12_seersIn_3 : decode cX12_seersIn 3 = .ok (.istore 4, 2) := by decide +kernel
theorem dX12_seersIn_5 : decode cX12_seersIn 5 = .ok (.iload 4, 2) := by decide +kernel
theorem dX12_seersIn_7 : decode cX12_seersIn 7 = .ok (.aload_n 1, 1) := by decide +kernel
theorem dX12_seersIn_8 : decode cX12_seersIn 8 = .ok (.bipush 45, 2) := by decide +kernel
theorem dX12_seersIn_10 : decode cX12_seersIn 10 = .ok (.iaload, 1) := by decide +kernel
theorem dX12_seersIn_11 : decode cX12_seersIn 11 = .ok (.if_icmp .ge 49, 3) := by decide +kernel
theorem dX12_seersIn_14 : decode cX12_seersIn 14 = .ok (.iload_n 3, 1) := by decide +kernel
theorem dX12_seersIn_15 : decode cX12_seersIn 15 = .ok (.aload_n 0, 1) := by decide +kernel
theorem dX12_seersIn_16 : decode cX12_seersIn 16 = .ok (.getfield 40, 3) := by decide +kernel
theorem dX12_seersIn_19 : decode cX12_seersIn 19 = .ok (.aload_n 1, 1) := by decide +kernel
theorem dX12_seersIn_20 : decode cX12_seersIn 20 = .ok (.iload 4, 2) := by decide +kernel
theorem dX12_seersIn_22 : decode cX12_seersIn 22 = .ok (.invokestatic 278, 3) := by decide +kernel
theorem dX12_seersIn_25 : decode cX12_seersIn 25 = .ok (.baload, 1) := by decide +kernel
theorem dX12_seersIn_26 : decode cX12_seersIn 26 = .ok (.ifCond .eq 25, 3) := by decide +kernel
theorem dX12_seersIn_29 : decode cX12_seersIn 29 = .ok (.aload_n 0, 1) := by decide +kernel
theorem dX12_seersIn_30 : decode cX12_seersIn 30 = .ok (.aload_n 1, 1) := by decide +kernel
theorem dX12_seersIn_31 : decode cX12_seersIn 31 = .ok (.iload 4, 2) := by decide +kernel
theorem dX12_seersIn_33 : decode cX12_seersIn 33 = .ok (.iload_n 2, 1) := by decide +kernel
theorem dX12_seersIn_34 : decode cX12_seersIn 34 = .ok (.invokevirtual 320, 3) := by decide +kernel
theorem dX12_seersIn_37 : decode cX12_seersIn 37 = .ok (.ifCond .eq 14, 3) := by decide +kernel
theorem dX12_seersIn_40 : decode cX12_seersIn 40 = .ok (.iconst 1, 1) := by decide +kernel
theorem dX12_seersIn_41 : decode cX12_seersIn 41 = .ok (.aload_n 1, 1) := by decide +kernel
theorem dX12_seersIn_42 : decode cX12_seersIn 42 = .ok (.iload 4, 2) := by decide +kernel
theorem dX12_seersIn_44 : decode cX12_seersIn 44 = .ok (.invokestatic 293, 3) := by decide +kernel
theorem dX12_seersIn_47 : decode cX12_seersIn 47 = .ok (.ishl, 1) := by decide +kernel
theorem dX12_seersIn_48 : decode cX12_seersIn 48 = .ok (.goto 4, 3) := by decide +kernel
theorem dX12_seersIn_51 : decode cX12_seersIn 51 = .ok (.iconst 0, 1) := by decide +kernel
theorem dX12_seersIn_52 : decode cX12_seersIn 52 = .ok (.ior, 1) := by decide +kernel
theorem dX12_seersIn_53 : decode cX12_seersIn 53 = .ok (.istore_n 3, 1) := by decide +kernel
theorem dX12_seersIn_54 : decode cX12_seersIn 54 = .ok (.iinc 4 1, 3) := by decide +kernel
theorem dX12_seersIn_57 : decode cX12_seersIn 57 = .ok (.goto (-52), 3) := by decide +kernel
theorem dX12_seersIn_60 : decode cX12_seersIn 60 = .ok (.iload_n 3, 1) := by decide +kernel
theorem dX12_seersIn_61 : decode cX12_seersIn 61 = .ok (.ireturn, 1) := by decide +kernel
theorem dX12_isWatched_0 : decode cX12_isWatched 0 = .ok (.aload_n 0, 1) := by decide +kernel
theorem dX12_isWatched_1 : decode cX12_isWatched 1 = .ok (.aload_n 1, 1) := by decide +kernel
theorem dX12_isWatched_2 : decode cX12_isWatched 2 = .ok (.iload_n 2, 1) := by decide +kernel
theorem dX12_isWatched_3 : decode cX12_isWatched 3 = .ok (.invokevirtual 323, 3) := by decide +kernel
theorem dX12_isWatched_6 : decode cX12_isWatched 6 = .ok (.aload_n 0, 1) := by decide +kernel
theorem dX12_isWatched_7 : decode cX12_isWatched 7 = .ok (.aload_n 1, 1) := by decide +kernel
theorem dX12_isWatched_8 : decode cX12_isWatched 8 = .ok (.iload_n 2, 1) := by decide +kernel
theorem dX12_isWatched_9 : decode cX12_isWatched 9 = .ok (.invokevirtual 326, 3) := by decide +kernel
theorem dX12_isWatched_12 : decode cX12_isWatched 12 = .ok (.ior, 1) := by decide +kernel
theorem dX12_isWatched_13 : decode cX12_isWatched 13 = .ok (.ifCond .eq 7, 3) := by decide +kernel
theorem dX12_isWatched_16 : decode cX12_isWatched 16 = .ok (.iconst 1, 1) := by decide +kernel
theorem dX12_isWatched_17 : decode cX12_isWatched 17 = .ok (.goto 4, 3) := by decide +kernel
theorem dX12_isWatched_20 : decode cX12_isWatched 20 = .ok (.iconst 0, 1) := by decide +kernel
theorem dX12_isWatched_21 : decode cX12_isWatched 21 = .ok (.ireturn, 1) := by decide +kernel
theorem dX12_isNoWorse_0 : decode cX12_isNoWorse 0 = .ok (.iconst 1, 1) := by decide +kernel
theorem dX12_isNoWorse_1 : decode cX12_isNoWorse 1 = .ok (.istore_n 1, 1) := by decide +kernel
theorem dX12_isNoWorse_2 : decode cX12_isNoWorse 2 = .ok (.iconst 0, 1) := by decide +kernel
theorem dX12_isNoWorse_3 : decode cX12_isNoWorse 3 = .ok (.istore_n 2, 1) := by decide +kernel
theorem dX12_isNoWorse_4 : decode cX12_isNoWorse 4 = .ok (.iload_n 2, 1) := by decide +kernel
theorem dX12_isNoWorse_5 : decode cX12_isNoWorse 5 = .ok (.aload_n 0, 1) := by decide +kernel
theorem dX12_isNoWorse_6 : decode cX12_isNoWorse 6 = .ok (.getfield 13, 3) := by decide +kernel
theorem dX12_isNoWorse_9 : decode cX12_isNoWorse 9 = .ok (.if_icmp .ge 43, 3) := by decide +kernel
theorem dX12_isNoWorse_12 : decode cX12_isNoWorse 12 = .ok (.iload_n 1, 1) := by decide +kernel
theorem dX12_isNoWorse_13 : decode cX12_isNoWorse 13 = .ok (.ifCond .eq 39, 3) := by decide +kernel
theorem dX12_isNoWorse_16 : decode cX12_isNoWorse 16 = .ok (.aload_n 0, 1) := by decide +kernel
theorem dX12_isNoWorse_17 : decode cX12_isNoWorse 17 = .ok (.aload_n 0, 1) := by decide +kernel
theorem dX12_isNoWorse_18 : decode cX12_isNoWorse 18 = .ok (.getfield 46, 3) := by decide +kernel
theorem dX12_isNoWorse_21 : decode cX12_isNoWorse 21 = .ok (.iload_n 2, 1) := by decide +kernel
theorem dX12_isNoWorse_22 : decode cX12_isNoWorse 22 = .ok (.invokevirtual 329, 3) := by decide +kernel
theorem dX12_isNoWorse_25 : decode cX12_isNoWorse 25 = .ok (.ifCond .ne 15, 3) := by decide +kernel
theorem dX12_isNoWorse_28 : decode cX12_isNoWorse 28 = .ok (.aload_n 0, 1) := by decide +kernel
theorem dX12_isNoWorse_29 : decode cX12_isNoWorse 29 = .ok (.aload_n 0, 1) := by decide +kernel
theorem dX12_isNoWorse_30 : decode cX12_isNoWorse 30 = .ok (.getfield 43, 3) := by decide +kernel
theorem dX12_isNoWorse_33 : decode cX12_isNoWorse 33 = .ok (.iload_n 2, 1) := by decide +kernel
theorem dX12_isNoWorse_34 : decode cX12_isNoWorse 34 = .ok (.invokevirtual 329, 3) := by decide +kernel
theorem dX12_isNoWorse_37 : decode cX12_isNoWorse 37 = .ok (.ifCond .ne 7, 3) := by decide +kernel
theorem dX12_isNoWorse_40 : decode cX12_isNoWorse 40 = .ok (.iconst 1, 1) := by decide +kernel
theorem dX12_isNoWorse_41 : decode cX12_isNoWorse 41 = .ok (.goto 4, 3) := by decide +kernel
theorem dX12_isNoWorse_44 : decode cX12_isNoWorse 44 = .ok (.iconst 0, 1) := by decide +kernel
theorem dX12_isNoWorse_45 : decode cX12_isNoWorse 45 = .ok (.istore_n 1, 1) := by decide +kernel
theorem dX12_isNoWorse_46 : decode cX12_isNoWorse 46 = .ok (.iinc 2 1, 3) := by decide +kernel
theorem dX12_isNoWorse_49 : decode cX12_isNoWorse 49 = .ok (.goto (-45), 3) := by decide +kernel
theorem dX12_isNoWorse_52 : decode cX12_isNoWorse 52 = .ok (.iload_n 1, 1) := by decide +kernel
theorem dX12_isNoWorse_53 : decode cX12_isNoWorse 53 = .ok (.ireturn, 1) := by decide +kernel
theorem dX12_readsTrip_0 : decode cX12_readsTrip 0 = .ok (.aload_n 0, 1) := by decide +kernel
theorem dX12_readsTrip_1 : decode cX12_readsTrip 1 = .ok (.getfield 70, 3) := by decide +kernel
theorem dX12_readsTrip_4 : decode cX12_readsTrip 4 = .ok (.bipush 45, 2) := by decide +kernel
theorem dX12_readsTrip_6 : decode cX12_readsTrip 6 = .ok (.iaload, 1) := by decide +kernel
theorem dX12_readsTrip_7 : decode cX12_readsTrip 7 = .ok (.bipush 12, 2) := by decide +kernel
theorem dX12_readsTrip_9 : decode cX12_readsTrip 9 = .ok (.if_icmp .ne 5, 3) := by decide +kernel
theorem dX12_readsTrip_12 : decode cX12_readsTrip 12 = .ok (.iconst 0, 1) := by decide +kernel
theorem dX12_readsTrip_13 : decode cX12_readsTrip 13 = .ok (.ireturn, 1) := by decide +kernel
theorem dX12_readsTrip_14 : decode cX12_readsTrip 14 = .ok (.aload_n 0, 1) := by decide +kernel
theorem dX12_readsTrip_15 : decode cX12_readsTrip 15 = .ok (.aload_n 0, 1) := by decide +kernel
theorem dX12_readsTrip_16 : decode cX12_readsTrip 16 = .ok (.getfield 143, 3) := by decide +kernel
theorem dX12_readsTrip_19 : decode cX12_readsTrip 19 = .ok (.invokevirtual 333, 3) := by decide +kernel
theorem dX12_readsTrip_22 : decode cX12_readsTrip 22 = .ok (.istore_n 1, 1) := by decide +kernel
theorem dX12_readsTrip_23 : decode cX12_readsTrip 23 = .ok (.iload_n 1, 1) := by decide +kernel
theorem dX12_readsTrip_24 : decode cX12_readsTrip 24 = .ok (.ifCond .ge 5, 3) := by decide +kernel
theorem dX12_readsTrip_27 : decode cX12_readsTrip 27 = .ok (.iconst 0, 1) := by decide +kernel
theorem dX12_readsTrip_28 : decode cX12_readsTrip 28 = .ok (.ireturn, 1) := by decide +kernel
theorem dX12_readsTrip_29 : decode cX12_readsTrip 29 = .ok (.aload_n 0, 1) := by decide +kernel
theorem dX12_readsTrip_30 : decode cX12_readsTrip 30 = .ok (.iconst 0, 1) := by decide +kernel
theorem dX12_readsTrip_31 : decode cX12_readsTrip 31 = .ok (.aload_n 0, 1) := by decide +kernel
theorem dX12_readsTrip_32 : decode cX12_readsTrip 32 = .ok (.getfield 150, 3) := by decide +kernel
theorem dX12_readsTrip_35 : decode cX12_readsTrip 35 = .ok (.iconst 1, 1) := by decide +kernel
theorem dX12_readsTrip_36 : decode cX12_readsTrip 36 = .ok (.isub, 1) := by decide +kernel
theorem dX12_readsTrip_37 : decode cX12_readsTrip 37 = .ok (.invokevirtual 209, 3) := by decide +kernel
theorem dX12_readsTrip_40 : decode cX12_readsTrip 40 = .ok (.istore_n 2, 1) := by decide +kernel
theorem dX12_readsTrip_41 : decode cX12_readsTrip 41 = .ok (.iload_n 2, 1) := by decide +kernel
theorem dX12_readsTrip_42 : decode cX12_readsTrip 42 = .ok (.ifCond .lt 12, 3) := by decide +kernel
theorem dX12_readsTrip_45 : decode cX12_readsTrip 45 = .ok (.aload_n 0, 1) := by decide +kernel
theorem dX12_readsTrip_46 : decode cX12_readsTrip 46 = .ok (.bipush 64, 2) := by decide +kernel
theorem dX12_readsTrip_48 : decode cX12_readsTrip 48 = .ok (.invokevirtual 202, 3) := by decide +kernel
theorem dX12_readsTrip_51 : decode cX12_readsTrip 51 = .ok (.ifCond .ne 5, 3) := by decide +kernel
theorem dX12_readsTrip_54 : decode cX12_readsTrip 54 = .ok (.iconst 0, 1) := by decide +kernel
theorem dX12_readsTrip_55 : decode cX12_readsTrip 55 = .ok (.ireturn, 1) := by decide +kernel
theorem dX12_readsTrip_56 : decode cX12_readsTrip 56 = .ok (.aload_n 0, 1) := by decide +kernel
theorem dX12_readsTrip_57 : decode cX12_readsTrip 57 = .ok (.iconst 2, 1) := by decide +kernel
theorem dX12_readsTrip_58 : decode cX12_readsTrip 58 = .ok (.invokevirtual 212, 3) := by decide +kernel
theorem dX12_readsTrip_61 : decode cX12_readsTrip 61 = .ok (.istore_n 3, 1) := by decide +kernel
theorem dX12_readsTrip_62 : decode cX12_readsTrip 62 = .ok (.iload_n 3, 1) := by decide +kernel
theorem dX12_readsTrip_63 : decode cX12_readsTrip 63 = .ok (.ifCond .ge 5, 3) := by decide +kernel
theorem dX12_readsTrip_66 : decode cX12_readsTrip 66 = .ok (.iconst 0, 1) := by decide +kernel
theorem dX12_readsTrip_67 : decode cX12_readsTrip 67 = .ok (.ireturn, 1) := by decide +kernel
theorem dX12_readsTrip_68 : decode cX12_readsTrip 68 = .ok (.aload_n 0, 1) := by decide +kernel
theorem dX12_readsTrip_69 : decode cX12_readsTrip 69 = .ok (.getfield 70, 3) := by decide +kernel
theorem dX12_readsTrip_72 : decode cX12_readsTrip 72 = .ok (.iload_n 1, 1) := by decide +kernel
theorem dX12_readsTrip_73 : decode cX12_readsTrip 73 = .ok (.iload_n 2, 1) := by decide +kernel
theorem dX12_readsTrip_74 : decode cX12_readsTrip 74 = .ok (.iload_n 3, 1) := by decide +kernel
theorem dX12_readsTrip_75 : decode cX12_readsTrip 75 = .ok (.invokestatic 336, 3) := by decide +kernel
theorem dX12_readsTrip_78 : decode cX12_readsTrip 78 = .ok (.iconst 1, 1) := by decide +kernel
theorem dX12_readsTrip_79 : decode cX12_readsTrip 79 = .ok (.ireturn, 1) := by decide +kernel
theorem dX12_plan_0 : decode cX12_plan 0 = .ok (.aload_n 0, 1) := by decide +kernel
theorem dX12_plan_1 : decode cX12_plan 1 = .ok (.iconst 0, 1) := by decide +kernel
theorem dX12_plan_2 : decode cX12_plan 2 = .ok (.putfield 133, 3) := by decide +kernel
theorem dX12_plan_5 : decode cX12_plan 5 = .ok (.aload_n 0, 1) := by decide +kernel
theorem dX12_plan_6 : decode cX12_plan 6 = .ok (.bipush 72, 2) := by decide +kernel
theorem dX12_plan_8 : decode cX12_plan 8 = .ok (.invokevirtual 231, 3) := by decide +kernel
theorem dX12_plan_11 : decode cX12_plan 11 = .ok (.istore_n 1, 1) := by decide +kernel
theorem dX12_plan_12 : decode cX12_plan 12 = .ok (.aload_n 0, 1) := by decide +kernel
theorem dX12_plan_13 : decode cX12_plan 13 = .ok (.getfield 70, 3) := by decide +kernel
theorem dX12_plan_16 : decode cX12_plan 16 = .ok (.bipush 45, 2) := by decide +kernel
theorem dX12_plan_18 : decode cX12_plan 18 = .ok (.iconst 0, 1) := by decide +kernel
theorem dX12_plan_19 : decode cX12_plan 19 = .ok (.iastore, 1) := by decide +kernel
theorem dX12_plan_20 : decode cX12_plan 20 = .ok (.iconst 1, 1) := by decide +kernel
theorem dX12_plan_21 : decode cX12_plan 21 = .ok (.istore_n 2, 1) := by decide +kernel
theorem dX12_plan_22 : decode cX12_plan 22 = .ok (.iload_n 1, 1) := by decide +kernel
theorem dX12_plan_23 : decode cX12_plan 23 = .ok (.ifCond .le 7, 3) := by decide +kernel
theorem dX12_plan_26 : decode cX12_plan 26 = .ok (.iconst 1, 1) := by decide +kernel
theorem dX12_plan_27 : decode cX12_plan 27 = .ok (.goto 4, 3) := by decide +kernel
theorem dX12_plan_30 : decode cX12_plan 30 = .ok (.iconst 0, 1) := by decide +kernel
theorem dX12_plan_31 : decode cX12_plan 31 = .ok (.istore_n 3, 1) := by decide +kernel
theorem dX12_plan_32 : decode cX12_plan 32 = .ok (.iload_n 3, 1) := by decide +kernel
theorem dX12_plan_33 : decode cX12_plan 33 = .ok (.ifCond .eq 30, 3) := by decide +kernel
theorem dX12_plan_36 : decode cX12_plan 36 = .ok (.aload_n 0, 1) := by decide +kernel
theorem dX12_plan_37 : decode cX12_plan 37 = .ok (.invokevirtual 340, 3) := by decide +kernel
theorem dX12_plan_40 : decode cX12_plan 40 = .ok (.istore_n 2, 1) := by decide +kernel
theorem dX12_plan_41 : decode cX12_plan 41 = .ok (.iload_n 2, 1) := by decide +kernel
theorem dX12_plan_42 : decode cX12_plan 42 = .ok (.ifCond .eq 16, 3) := by decide +kernel
theorem dX12_plan_45 : decode cX12_plan 45 = .ok (.aload_n 0, 1) := by decide +kernel
theorem dX12_plan_46 : decode cX12_plan 46 = .ok (.bipush 59, 2) := by decide +kernel
theorem dX12_plan_48 : decode cX12_plan 48 = .ok (.invokevirtual 202, 3) := by decide +kernel
theorem dX12_plan_51 : decode cX12_plan 51 = .ok (.ifCond .eq 7, 3) := by decide +kernel
theorem dX12_plan_54 : decode cX12_plan 54 = .ok (.iconst 1, 1) := by decide +kernel
theorem dX12_plan_55 : decode cX12_plan 55 = .ok (.goto 4, 3) := by decide +kernel
theorem dX12_plan_58 : decode cX12_plan 58 = .ok (.iconst 0, 1) := by decide +kernel
theorem dX12_plan_59 : decode cX12_plan 59 = .ok (.istore_n 3, 1) := by decide +kernel
theorem dX12_plan_60 : decode cX12_plan 60 = .ok (.goto (-28), 3) := by decide +kernel
theorem dX12_plan_63 : decode cX12_plan 63 = .ok (.aload_n 0, 1) := by decide +kernel
theorem dX12_plan_64 : decode cX12_plan 64 = .ok (.iload_n 1, 1) := by decide +kernel
theorem dX12_plan_65 : decode cX12_plan 65 = .ok (.bipush 72, 2) := by decide +kernel
theorem dX12_plan_67 : decode cX12_plan 67 = .ok (.iload_n 2, 1) := by decide +kernel
theorem dX12_plan_68 : decode cX12_plan 68 = .ok (.invokevirtual 237, 3) := by decide +kernel
theorem dX12_plan_71 : decode cX12_plan 71 = .ok (.istore 4, 2) := by decide +kernel
theorem dX12_plan_73 : decode cX12_plan 73 = .ok (.iload 4, 2) := by decide +kernel
theorem dX12_plan_75 : decode cX12_plan 75 = .ok (.ifCond .ge 6, 3) := by decide +kernel
theorem dX12_plan_78 : decode cX12_plan 78 = .ok (.iload 4, 2) := by decide +kernel
theorem dX12_plan_80 : decode cX12_plan 80 = .ok (.ireturn, 1) := by decide +kernel
theorem dX12_plan_81 : decode cX12_plan 81 = .ok (.aload_n 0, 1) := by decide +kernel
theorem dX12_plan_82 : decode cX12_plan 82 = .ok (.invokevirtual 343, 3) := by decide +kernel
theorem dX12_plan_85 : decode cX12_plan 85 = .ok (.aload_n 0, 1) := by decide +kernel
theorem dX12_plan_86 : decode cX12_plan 86 = .ok (.getfield 70, 3) := by decide +kernel
theorem dX12_plan_89 : decode cX12_plan 89 = .ok (.aload_n 0, 1) := by decide +kernel
theorem dX12_plan_90 : decode cX12_plan 90 = .ok (.getfield 43, 3) := by decide +kernel
theorem dX12_plan_93 : decode cX12_plan 93 = .ok (.invokestatic 346, 3) := by decide +kernel
theorem dX12_plan_96 : decode cX12_plan 96 = .ok (.aload_n 0, 1) := by decide +kernel
theorem dX12_plan_97 : decode cX12_plan 97 = .ok (.aload_n 0, 1) := by decide +kernel
theorem dX12_plan_98 : decode cX12_plan 98 = .ok (.getfield 43, 3) := by decide +kernel
theorem dX12_plan_101 : decode cX12_plan 101 = .ok (.bipush 45, 2) := by decide +kernel
theorem dX12_plan_103 : decode cX12_plan 103 = .ok (.iaload, 1) := by decide +kernel
theorem dX12_plan_104 : decode cX12_plan 104 = .ok (.invokevirtual 350, 3) := by decide +kernel
theorem dX12_plan_107 : decode cX12_plan 107 = .ok (.ireturn, 1) := by decide +kernel
theorem dX12_person_0 : decode cX12_person 0 = .ok (.aload_n 0, 1) := by decide +kernel
theorem dX12_person_1 : decode cX12_person 1 = .ok (.iconst 0, 1) := by decide +kernel
theorem dX12_person_2 : decode cX12_person 2 = .ok (.putfield 133, 3) := by decide +kernel
theorem dX12_person_5 : decode cX12_person 5 = .ok (.aload_n 0, 1) := by decide +kernel
theorem dX12_person_6 : decode cX12_person 6 = .ok (.iload_n 1, 1) := by decide +kernel
theorem dX12_person_7 : decode cX12_person 7 = .ok (.invokevirtual 247, 3) := by decide +kernel
theorem dX12_person_10 : decode cX12_person 10 = .ok (.ifCond .eq 15, 3) := by decide +kernel
theorem dX12_person_13 : decode cX12_person 13 = .ok (.iload_n 2, 1) := by decide +kernel
theorem dX12_person_14 : decode cX12_person 14 = .ok (.i2l, 1) := by decide +kernel
theorem dX12_person_15 : decode cX12_person 15 = .ok (.lconst 0, 1) := by decide +kernel
theorem dX12_person_16 : decode cX12_person 16 = .ok (.ldc2_w 353, 3) := by decide +kernel
theorem dX12_person_19 : decode cX12_person 19 = .ok (.invokestatic 146, 3) := by decide +kernel
theorem dX12_person_22 : decode cX12_person 22 = .ok (.ifCond .ne 8, 3) := by decide +kernel
theorem dX12_person_25 : decode cX12_person 25 = .ok (.aload_n 0, 1) := by decide +kernel
theorem dX12_person_26 : decode cX12_person 26 = .ok (.invokevirtual 355, 3) := by decide +kernel
theorem dX12_person_29 : decode cX12_person 29 = .ok (.ireturn, 1) := by decide +kernel
theorem dX12_person_30 : decode cX12_person 30 = .ok (.iconst 0, 1) := by decide +kernel
theorem dX12_person_31 : decode cX12_person 31 = .ok (.istore_n 3, 1) := by decide +kernel
theorem dX12_person_32 : decode cX12_person 32 = .ok (.iconst 0, 1) := by decide +kernel
theorem dX12_person_33 : decode cX12_person 33 = .ok (.istore 4, 2) := by decide +kernel
theorem dX12_person_35 : decode cX12_person 35 = .ok (.iconst 0, 1) := by decide +kernel
theorem dX12_person_36 : decode cX12_person 36 = .ok (.istore 5, 2) := by decide +kernel
theorem dX12_person_38 : decode cX12_person 38 = .ok (.iload 5, 2) := by decide +kernel
theorem dX12_person_40 : decode cX12_person 40 = .ok (.aload_n 0, 1) := by decide +kernel
theorem dX12_person_41 : decode cX12_person 41 = .ok (.getfield 43, 3) := by decide +kernel
theorem dX12_person_44 : decode cX12_person 44 = .ok (.bipush 45, 2) := by decide +kernel
theorem dX12_person_46 : decode cX12_person 46 = .ok (.iaload, 1) := by decide +kernel
theorem dX12_person_47 : decode cX12_person 47 = .ok (.if_icmp .ge 40, 3) := by decide +kernel
theorem dX12_person_50 : decode cX12_person 50 = .ok (.aload_n 0, 1) := by decide +kernel
theorem dX12_person_51 : decode cX12_person 51 = .ok (.getfield 43, 3) := by decide +kernel
theorem dX12_person_54 : decode cX12_person 54 = .ok (.iload 5, 2) := by decide +kernel
theorem dX12_person_56 : decode cX12_person 56 = .ok (.invokestatic 293, 3) := by decide +kernel
theorem dX12_person_59 : decode cX12_person 59 = .ok (.iload_n 1, 1) := by decide +kernel
theorem dX12_person_60 : decode cX12_person 60 = .ok (.if_icmp .ne 21, 3) := by decide +kernel
theorem dX12_person_63 : decode cX12_person 63 = .ok (.iinc 3 1, 3) := by decide +kernel
theorem dX12_person_66 : decode cX12_person 66 = .ok (.iload 4, 2) := by decide +kernel
theorem dX12_person_68 : decode cX12_person 68 = .ok (.aload_n 0, 1) := by decide +kernel
theorem dX12_person_69 : decode cX12_person 69 = .ok (.aload_n 0, 1) := by decide +kernel
theorem dX12_person_70 : decode cX12_person 70 = .ok (.getfield 43, 3) := by decide +kernel
theorem dX12_person_73 : decode cX12_person 73 = .ok (.iload 5, 2) := by decide +kernel
theorem dX12_person_75 : decode cX12_person 75 = .ok (.invokevirtual 314, 3) := by decide +kernel
theorem dX12_person_78 : decode cX12_person 78 = .ok (.iadd, 1) := by decide +kernel
theorem dX12_person_79 : decode cX12_person 79 = .ok (.istore 4, 2) := by decide +kernel
theorem dX12_person_81 : decode cX12_person 81 = .ok (.iinc 5 1, 3) := by decide +kernel
theorem dX12_person_84 : decode cX12_person 84 = .ok (.goto (-46), 3) := by decide +kernel
theorem dX12_person_87 : decode cX12_person 87 = .ok (.iconst 0, 1) := by decide +kernel
theorem dX12_person_88 : decode cX12_person 88 = .ok (.istore 5, 2) := by decide +kernel
theorem dX12_person_90 : decode cX12_person 90 = .ok (.iconst 0, 1) := by decide +kernel
theorem dX12_person_91 : decode cX12_person 91 = .ok (.istore 6, 2) := by decide +kernel
theorem dX12_person_93 : decode cX12_person 93 = .ok (.iconst 0, 1) := by decide +kernel
theorem dX12_person_94 : decode cX12_person 94 = .ok (.istore 7, 2) := by decide +kernel
theorem dX12_person_96 : decode cX12_person 96 = .ok (.iconst 0, 1) := by decide +kernel
theorem dX12_person_97 : decode cX12_person 97 = .ok (.istore 8, 2) := by decide +kernel
theorem dX12_person_99 : decode cX12_person 99 = .ok (.iload 8, 2) := by decide +kernel
theorem dX12_person_101 : decode cX12_person 101 = .ok (.aload_n 0, 1) := by decide +kernel
theorem dX12_person_102 : decode cX12_person 102 = .ok (.getfield 13, 3) := by decide +kernel
theorem dX12_person_105 : decode cX12_person 105 = .ok (.if_icmp .ge 59, 3) := by decide +kernel
theorem dX12_person_108 : decode cX12_person 108 = .ok (.aload_n 0, 1) := by decide +kernel
theorem dX12_person_109 : decode cX12_person 109 = .ok (.aload_n 0, 1) := by decide +kernel
theorem dX12_person_110 : decode cX12_person 110 = .ok (.getfield 43, 3) := by decide +kernel
theorem dX12_person_113 : decode cX12_person 113 = .ok (.iload 8, 2) := by decide +kernel
theorem dX12_person_115 : decode cX12_person 115 = .ok (.invokevirtual 323, 3) := by decide +kernel
theorem dX12_person_118 : decode cX12_person 118 = .ok (.iload_n 1, 1) := by decide +kernel
theorem dX12_person_119 : decode cX12_person 119 = .ok (.invokestatic 358, 3) := by decide +kernel
theorem dX12_person_122 : decode cX12_person 122 = .ok (.istore 9, 2) := by decide +kernel
theorem dX12_person_124 : decode cX12_person 124 = .ok (.iload 9, 2) := by decide +kernel
theorem dX12_person_126 : decode cX12_person 126 = .ok (.ifCond .eq 10, 3) := by decide +kernel
theorem dX12_person_129 : decode cX12_person 129 = .ok (.iload 6, 2) := by decide +kernel
theorem dX12_person_131 : decode cX12_person 131 = .ok (.iconst 1, 1) := by decide +kernel
theorem dX12_person_132 : decode cX12_person 132 = .ok (.iadd, 1) := by decide +kernel
theorem dX12_person_133 : decode cX12_person 133 = .ok (.goto 4, 3) := by decide +kernel
theorem dX12_person_136 : decode cX12_person 136 = .ok (.iconst 0, 1) := by decide +kernel
theorem dX12_person_137 : decode cX12_person 137 = .ok (.istore 6, 2) := by decide +kernel
theorem dX12_person_139 : decode cX12_person 139 = .ok (.iload 5, 2) := by decide +kernel
theorem dX12_person_141 : decode cX12_person 141 = .ok (.iload 9, 2) := by decide +kernel
theorem dX12_person_143 : decode cX12_person 143 = .ok (.invokestatic 171, 3) := by decide +kernel
theorem dX12_person_146 : decode cX12_person 146 = .ok (.iadd, 1) := by decide +kernel
theorem dX12_person_147 : decode cX12_person 147 = .ok (.istore 5, 2) := by decide +kernel
theorem dX12_person_149 : decode cX12_person 149 = .ok (.iload 7, 2) := by decide +kernel
theorem dX12_person_151 : decode cX12_person 151 = .ok (.iload 6, 2) := by decide +kernel
theorem dX12_person_153 : decode cX12_person 153 = .ok (.invokestatic 311, 3) := by decide +kernel
theorem dX12_person_156 : decode cX12_person 156 = .ok (.istore 7, 2) := by decide +kernel
theorem dX12_person_158 : decode cX12_person 158 = .ok (.iinc 8 1, 3) := by decide +kernel
theorem dX12_person_161 : decode cX12_person 161 = .ok (.goto (-62), 3) := by decide +kernel
theorem dX12_person_164 : decode cX12_person 164 = .ok (.iload_n 2, 1) := by decide +kernel
theorem dX12_person_165 : decode cX12_person 165 = .ok (.ifCond .ne 15, 3) := by decide +kernel
theorem dX12_person_168 : decode cX12_person 168 = .ok (.aload_n 0, 1) := by decide +kernel
theorem dX12_person_169 : decode cX12_person 169 = .ok (.getfield 17, 3) := by decide +kernel
theorem dX12_person_172 : decode cX12_person 172 = .ok (.iload_n 1, 1) := by decide +kernel
theorem dX12_person_173 : decode cX12_person 173 = .ok (.baload, 1) := by decide +kernel
theorem dX12_person_174 : decode cX12_person 174 = .ok (.invokestatic 171, 3) := by decide +kernel
theorem dX12_person_177 : decode cX12_person 177 = .ok (.goto 49, 3) := by decide +kernel
theorem dX12_person_180 : decode cX12_person 180 = .ok (.iload_n 2, 1) := by decide +kernel
theorem dX12_person_181 : decode cX12_person 181 = .ok (.iconst 1, 1) := by decide +kernel
theorem dX12_person_182 : decode cX12_person 182 = .ok (.if_icmp .ne 7, 3) := by decide +kernel
theorem dX12_person_185 : decode cX12_person 185 = .ok (.iload_n 3, 1) := by decide +kernel
theorem dX12_person_186 : decode cX12_person 186 = .ok (.goto 40, 3) := by decide +kernel
theorem dX12_person_189 : decode cX12_person 189 = .ok (.iload_n 2, 1) := by decide +kernel
theorem dX12_person_190 : decode cX12_person 190 = .ok (.iconst 2, 1) := by decide +kernel
theorem dX12_person_191 : decode cX12_person 191 = .ok (.if_icmp .ne 13, 3) := by decide +kernel
theorem dX12_person_194 : decode cX12_person 194 = .ok (.aload_n 0, 1) := by decide +kernel
theorem dX12_person_195 : decode cX12_person 195 = .ok (.getfield 13, 3) := by decide +kernel
theorem dX12_person_198 : decode cX12_person 198 = .ok (.iload 5, 2) := by decide +kernel
theorem dX12_person_200 : decode cX12_person 200 = .ok (.isub, 1) := by decide +kernel
theorem dX12_person_201 : decode cX12_person 201 = .ok (.goto 25, 3) := by decide +kernel
theorem dX12_person_204 : decode cX12_person 204 = .ok (.iload_n 2, 1) := by decide +kernel
theorem dX12_person_205 : decode cX12_person 205 = .ok (.iconst 3, 1) := by decide +kernel
theorem dX12_person_206 : decode cX12_person 206 = .ok (.if_icmp .ne 8, 3) := by decide +kernel
theorem dX12_person_209 : decode cX12_person 209 = .ok (.iload 5, 2) := by decide +kernel
theorem dX12_person_211 : decode cX12_person 211 = .ok (.goto 15, 3) := by decide +kernel
theorem dX12_person_214 : decode cX12_person 214 = .ok (.iload_n 2, 1) := by decide +kernel
theorem dX12_person_215 : decode cX12_person 215 = .ok (.iconst 4, 1) := by decide +kernel
theorem dX12_person_216 : decode cX12_person 216 = .ok (.if_icmp .ne 8, 3) := by decide +kernel
theorem dX12_person_219 : decode cX12_person 219 = .ok (.iload 7, 2) := by decide +kernel
theorem dX12_person_221 : decode cX12_person 221 = .ok (.goto 5, 3) := by decide +kernel
theorem dX12_person_224 : decode cX12_person 224 = .ok (.iload 4, 2) := by decide +kernel
theorem dX12_person_226 : decode cX12_person 226 = .ok (.ireturn, 1) := by decide +kernel
theorem dX12_errand_0 : decode cX12_errand 0 = .ok (.aload_n 0, 1) := by decide +kernel
theorem dX12_errand_1 : decode cX12_errand 1 = .ok (.iconst 0, 1) := by decide +kernel
theorem dX12_errand_2 : decode cX12_errand 2 = .ok (.putfield 133, 3) := by decide +kernel
theorem dX12_errand_5 : decode cX12_errand 5 = .ok (.aload_n 0, 1) := by decide +kernel
theorem dX12_errand_6 : decode cX12_errand 6 = .ok (.iload_n 1, 1) := by decide +kernel
theorem dX12_errand_7 : decode cX12_errand 7 = .ok (.invokevirtual 361, 3) := by decide +kernel
theorem dX12_errand_10 : decode cX12_errand 10 = .ok (.ifCond .eq 15, 3) := by decide +kernel
theorem dX12_errand_13 : decode cX12_errand 13 = .ok (.iload_n 2, 1) := by decide +kernel
theorem dX12_errand_14 : decode cX12_errand 14 = .ok (.i2l, 1) := by decide +kernel
theorem dX12_errand_15 : decode cX12_errand 15 = .ok (.lconst 0, 1) := by decide +kernel
theorem dX12_errand_16 : decode cX12_errand 16 = .ok (.ldc2_w 364, 3) := by decide +kernel
theorem dX12_errand_19 : decode cX12_errand 19 = .ok (.invokestatic 146, 3) := by decide +kernel
theorem dX12_errand_22 : decode cX12_errand 22 = .ok (.ifCond .ne 8, 3) := by decide +kernel
theorem dX12_errand_25 : decode cX12_errand 25 = .ok (.aload_n 0, 1) := by decide +kernel
theorem dX12_errand_26 : decode cX12_errand 26 = .ok (.invokevirtual 355, 3) := by decide +kernel
theorem dX12_errand_29 : decode cX12_errand 29 = .ok (.ireturn, 1) := by decide +kernel
theorem dX12_errand_30 : decode cX12_errand 30 = .ok (.iload_n 2, 1) := by decide +kernel
theorem dX12_errand_31 : decode cX12_errand 31 = .ok (.tableswitch 82 0 5 #[37, 44, 51, 58, 65, 72], 37) := by decide +kernel
theorem dX12_errand_68 : decode cX12_errand 68 = .ok (.aload_n 0, 1) := by decide +kernel
theorem dX12_errand_69 : decode cX12_errand 69 = .ok (.getfield 25, 3) := by decide +kernel
theorem dX12_errand_72 : decode cX12_errand 72 = .ok (.iload_n 1, 1) := by decide +kernel
theorem dX12_errand_73 : decode cX12_errand 73 = .ok (.iaload, 1) := by decide +kernel
theorem dX12_errand_74 : decode cX12_errand 74 = .ok (.ireturn, 1) := by decide +kernel
theorem dX12_errand_75 : decode cX12_errand 75 = .ok (.aload_n 0, 1) := by decide +kernel
theorem dX12_errand_76 : decode cX12_errand 76 = .ok (.getfield 28, 3) := by decide +kernel
theorem dX12_errand_79 : decode cX12_errand 79 = .ok (.iload_n 1, 1) := by decide +kernel
theorem dX12_errand_80 : decode cX12_errand 80 = .ok (.iaload, 1) := by decide +kernel
theorem dX12_errand_81 : decode cX12_errand 81 = .ok (.ireturn, 1) := by decide +kernel
theorem dX12_errand_82 : decode cX12_errand 82 = .ok (.aload_n 0, 1) := by decide +kernel
theorem dX12_errand_83 : decode cX12_errand 83 = .ok (.getfield 31, 3) := by decide +kernel
theorem dX12_errand_86 : decode cX12_errand 86 = .ok (.iload_n 1, 1) := by decide +kernel
theorem dX12_errand_87 : decode cX12_errand 87 = .ok (.iaload, 1) := by decide +kernel
theorem dX12_errand_88 : decode cX12_errand 88 = .ok (.ireturn, 1) := by decide +kernel
theorem dX12_errand_89 : decode cX12_errand 89 = .ok (.aload_n 0, 1) := by decide +kernel
theorem dX12_errand_90 : decode cX12_errand 90 = .ok (.getfield 34, 3) := by decide +kernel
theorem dX12_errand_93 : decode cX12_errand 93 = .ok (.iload_n 1, 1) := by decide +kernel
theorem dX12_errand_94 : decode cX12_errand 94 = .ok (.iaload, 1) := by decide +kernel
theorem dX12_errand_95 : decode cX12_errand 95 = .ok (.ireturn, 1) := by decide +kernel
theorem dX12_errand_96 : decode cX12_errand 96 = .ok (.aload_n 0, 1) := by decide +kernel
theorem dX12_errand_97 : decode cX12_errand 97 = .ok (.getfield 37, 3) := by decide +kernel
theorem dX12_errand_100 : decode cX12_errand 100 = .ok (.iload_n 1, 1) := by decide +kernel
theorem dX12_errand_101 : decode cX12_errand 101 = .ok (.iaload, 1) := by decide +kernel
theorem dX12_errand_102 : decode cX12_errand 102 = .ok (.ireturn, 1) := by decide +kernel
theorem dX12_errand_103 : decode cX12_errand 103 = .ok (.aload_n 0, 1) := by decide +kernel
theorem dX12_errand_104 : decode cX12_errand 104 = .ok (.getfield 40, 3) := by decide +kernel
theorem dX12_errand_107 : decode cX12_errand 107 = .ok (.iload_n 1, 1) := by decide +kernel
theorem dX12_errand_108 : decode cX12_errand 108 = .ok (.baload, 1) := by decide +kernel
theorem dX12_errand_109 : decode cX12_errand 109 = .ok (.invokestatic 171, 3) := by decide +kernel
theorem dX12_errand_112 : decode cX12_errand 112 = .ok (.ireturn, 1) := by decide +kernel
theorem dX12_errand_113 : decode cX12_errand 113 = .ok (.iconst 0, 1) := by decide +kernel
theorem dX12_errand_114 : decode cX12_errand 114 = .ok (.istore_n 3, 1) := by decide +kernel
theorem dX12_errand_115 : decode cX12_errand 115 = .ok (.iconst 0, 1) := by decide +kernel
theorem dX12_errand_116 : decode cX12_errand 116 = .ok (.istore 4, 2) := by decide +kernel
theorem dX12_errand_118 : decode cX12_errand 118 = .ok (.iload 4, 2) := by decide +kernel
theorem dX12_errand_120 : decode cX12_errand 120 = .ok (.aload_n 0, 1) := by decide +kernel
theorem dX12_errand_121 : decode cX12_errand 121 = .ok (.getfield 43, 3) := by decide +kernel
theorem dX12_errand_124 : decode cX12_errand 124 = .ok (.bipush 45, 2) := by decide +kernel
theorem dX12_errand_126 : decode cX12_errand 126 = .ok (.iaload, 1) := by decide +kernel
theorem dX12_errand_127 : decode cX12_errand 127 = .ok (.if_icmp .ge 33, 3) := by decide +kernel
theorem dX12_errand_130 : decode cX12_errand 130 = .ok (.iload_n 3, 1) := by decide +kernel
theorem dX12_errand_131 : decode cX12_errand 131 = .ok (.aload_n 0, 1) := by decide +kernel
theorem dX12_errand_132 : decode cX12_errand 132 = .ok (.getfield 43, 3) := by decide +kernel
theorem dX12_errand_135 : decode cX12_errand 135 = .ok (.iload 4, 2) := by decide +kernel
theorem dX12_errand_137 : decode cX12_errand 137 = .ok (.invokestatic 278, 3) := by decide +kernel
theorem dX12_errand_140 : decode cX12_errand 140 = .ok (.iload_n 1, 1) := by decide +kernel
theorem dX12_errand_141 : decode cX12_errand 141 = .ok (.if_icmp .ne 7, 3) := by decide +kernel
theorem dX12_errand_144 : decode cX12_errand 144 = .ok (.iconst 1, 1) := by decide +kernel
theorem dX12_errand_145 : decode cX12_errand 145 = .ok (.goto 4, 3) := by decide +kernel
theorem dX12_errand_148 : decode cX12_errand 148 = .ok (.iconst 0, 1) := by decide +kernel
theorem dX12_errand_149 : decode cX12_errand 149 = .ok (.invokestatic 171, 3) := by decide +kernel
theorem dX12_errand_152 : decode cX12_errand 152 = .ok (.iadd, 1) := by decide +kernel
theorem dX12_errand_153 : decode cX12_errand 153 = .ok (.istore_n 3, 1) := by decide +kernel
theorem dX12_errand_154 : decode cX12_errand 154 = .ok (.iinc 4 1, 3) := by decide +kernel
theorem dX12_errand_157 : decode cX12_errand 157 = .ok (.goto (-39), 3) := by decide +kernel
theorem dX12_errand_160 : decode cX12_errand 160 = .ok (.iload_n 3, 1) := by decide +kernel
theorem dX12_errand_161 : decode cX12_errand 161 = .ok (.ireturn, 1) := by decide +kernel
theorem dX12_trip_0 : decode cX12_trip 0 = .ok (.aload_n 0, 1) := by decide +kernel
theorem dX12_trip_1 : decode cX12_trip 1 = .ok (.iconst 0, 1) := by decide +kernel
theorem dX12_trip_2 : decode cX12_trip 2 = .ok (.putfield 133, 3) := by decide +kernel
theorem dX12_trip_5 : decode cX12_trip 5 = .ok (.aload_n 0, 1) := by decide +kernel
theorem dX12_trip_6 : decode cX12_trip 6 = .ok (.iload_n 1, 1) := by decide +kernel
theorem dX12_trip_7 : decode cX12_trip 7 = .ok (.invokevirtual 366, 3) := by decide +kernel
theorem dX12_trip_10 : decode cX12_trip 10 = .ok (.ifCond .eq 15, 3) := by decide +kernel
theorem dX12_trip_13 : decode cX12_trip 13 = .ok (.iload_n 2, 1) := by decide +kernel
theorem dX12_trip_14 : decode cX12_trip 14 = .ok (.i2l, 1) := by decide +kernel
theorem dX12_trip_15 : decode cX12_trip 15 = .ok (.lconst 0, 1) := by decide +kernel
theorem dX12_trip_16 : decode cX12_trip 16 = .ok (.ldc2_w 353, 3) := by decide +kernel
theorem dX12_trip_19 : decode cX12_trip 19 = .ok (.invokestatic 146, 3) := by decide +kernel
theorem dX12_trip_22 : decode cX12_trip 22 = .ok (.ifCond .ne 8, 3) := by decide +kernel
theorem dX12_trip_25 : decode cX12_trip 25 = .ok (.aload_n 0, 1) := by decide +kernel
theorem dX12_trip_26 : decode cX12_trip 26 = .ok (.invokevirtual 355, 3) := by decide +kernel
theorem dX12_trip_29 : decode cX12_trip 29 = .ok (.ireturn, 1) := by decide +kernel
theorem dX12_trip_30 : decode cX12_trip 30 = .ok (.iload_n 2, 1) := by decide +kernel
theorem dX12_trip_31 : decode cX12_trip 31 = .ok (.tableswitch 55 3 5 #[25, 35, 45], 25) := by decide +kernel
theorem dX12_trip_56 : decode cX12_trip 56 = .ok (.aload_n 0, 1) := by decide +kernel
theorem dX12_trip_57 : decode cX12_trip 57 = .ok (.aload_n 0, 1) := by decide +kernel
theorem dX12_trip_58 : decode cX12_trip 58 = .ok (.getfield 43, 3) := by decide +kernel
theorem dX12_trip_61 : decode cX12_trip 61 = .ok (.iload_n 1, 1) := by decide +kernel
theorem dX12_trip_62 : decode cX12_trip 62 = .ok (.invokevirtual 284, 3) := by decide +kernel
theorem dX12_trip_65 : decode cX12_trip 65 = .ok (.ireturn, 1) := by decide +kernel
theorem dX12_trip_66 : decode cX12_trip 66 = .ok (.aload_n 0, 1) := by decide +kernel
theorem dX12_trip_67 : decode cX12_trip 67 = .ok (.aload_n 0, 1) := by decide +kernel
theorem dX12_trip_68 : decode cX12_trip 68 = .ok (.getfield 43, 3) := by decide +kernel
theorem dX12_trip_71 : decode cX12_trip 71 = .ok (.iload_n 1, 1) := by decide +kernel
theorem dX12_trip_72 : decode cX12_trip 72 = .ok (.invokevirtual 314, 3) := by decide +kernel
theorem dX12_trip_75 : decode cX12_trip 75 = .ok (.ireturn, 1) := by decide +kernel
theorem dX12_trip_76 : decode cX12_trip 76 = .ok (.aload_n 0, 1) := by decide +kernel
theorem dX12_trip_77 : decode cX12_trip 77 = .ok (.aload_n 0, 1) := by decide +kernel
theorem dX12_trip_78 : decode cX12_trip 78 = .ok (.getfield 43, 3) := by decide +kernel
theorem dX12_trip_81 : decode cX12_trip 81 = .ok (.iload_n 1, 1) := by decide +kernel
theorem dX12_trip_82 : decode cX12_trip 82 = .ok (.invokevirtual 369, 3) := by decide +kernel
theorem dX12_trip_85 : decode cX12_trip 85 = .ok (.ireturn, 1) := by decide +kernel
theorem dX12_trip_86 : decode cX12_trip 86 = .ok (.aload_n 0, 1) := by decide +kernel
theorem dX12_trip_87 : decode cX12_trip 87 = .ok (.getfield 43, 3) := by decide +kernel
theorem dX12_trip_90 : decode cX12_trip 90 = .ok (.iconst 3, 1) := by decide +kernel
theorem dX12_trip_91 : decode cX12_trip 91 = .ok (.iload_n 1, 1) := by decide +kernel
theorem dX12_trip_92 : decode cX12_trip 92 = .ok (.imul, 1) := by decide +kernel
theorem dX12_trip_93 : decode cX12_trip 93 = .ok (.iload_n 2, 1) := by decide +kernel
theorem dX12_trip_94 : decode cX12_trip 94 = .ok (.iadd, 1) := by decide +kernel
theorem dX12_trip_95 : decode cX12_trip 95 = .ok (.iaload, 1) := by decide +kernel
theorem dX12_trip_96 : decode cX12_trip 96 = .ok (.ireturn, 1) := by decide +kernel
theorem dX12_wish_0 : decode cX12_wish 0 = .ok (.aload_n 0, 1) := by decide +kernel
theorem dX12_wish_1 : decode cX12_wish 1 = .ok (.iconst 0, 1) := by decide +kernel
theorem dX12_wish_2 : decode cX12_wish 2 = .ok (.putfield 133, 3) := by decide +kernel
theorem dX12_wish_5 : decode cX12_wish 5 = .ok (.aload_n 0, 1) := by decide +kernel
theorem dX12_wish_6 : decode cX12_wish 6 = .ok (.iload_n 1, 1) := by decide +kernel
theorem dX12_wish_7 : decode cX12_wish 7 = .ok (.invokevirtual 247, 3) := by decide +kernel
theorem dX12_wish_10 : decode cX12_wish 10 = .ok (.ifCond .eq 23, 3) := by decide +kernel
theorem dX12_wish_13 : decode cX12_wish 13 = .ok (.aload_n 0, 1) := by decide +kernel
theorem dX12_wish_14 : decode cX12_wish 14 = .ok (.iload_n 2, 1) := by decide +kernel
theorem dX12_wish_15 : decode cX12_wish 15 = .ok (.invokevirtual 361, 3) := by decide +kernel
theorem dX12_wish_18 : decode cX12_wish 18 = .ok (.ifCond .eq 15, 3) := by decide +kernel
theorem dX12_wish_21 : decode cX12_wish 21 = .ok (.iload_n 3, 1) := by decide +kernel
theorem dX12_wish_22 : decode cX12_wish 22 = .ok (.i2l, 1) := by decide +kernel
theorem dX12_wish_23 : decode cX12_wish 23 = .ok (.lconst 0, 1) := by decide +kernel
theorem dX12_wish_24 : decode cX12_wish 24 = .ok (.ldc2_w 372, 3) := by decide +kernel
theorem dX12_wish_27 : decode cX12_wish 27 = .ok (.invokestatic 146, 3) := by decide +kernel
theorem dX12_wish_30 : decode cX12_wish 30 = .ok (.ifCond .ne 5, 3) := by decide +kernel
theorem dX12_wish_33 : decode cX12_wish 33 = .ok (.iconst (-1), 1) := by decide +kernel
theorem dX12_wish_34 : decode cX12_wish 34 = .ok (.ireturn, 1) := by decide +kernel
theorem dX12_wish_35 : decode cX12_wish 35 = .ok (.aload_n 0, 1) := by decide +kernel
theorem dX12_wish_36 : decode cX12_wish 36 = .ok (.getfield 21, 3) := by decide +kernel
theorem dX12_wish_39 : decode cX12_wish 39 = .ok (.bipush 8, 2) := by decide +kernel
theorem dX12_wish_41 : decode cX12_wish 41 = .ok (.iload_n 1, 1) := by decide +kernel
theorem dX12_wish_42 : decode cX12_wish 42 = .ok (.imul, 1) := by decide +kernel
theorem dX12_wish_43 : decode cX12_wish 43 = .ok (.iload_n 2, 1) := by decide +kernel
theorem dX12_wish_44 : decode cX12_wish 44 = .ok (.iadd, 1) := by decide +kernel
theorem dX12_wish_45 : decode cX12_wish 45 = .ok (.iaload, 1) := by decide +kernel
theorem dX12_wish_46 : decode cX12_wish 46 = .ok (.istore 4, 2) := by decide +kernel
theorem dX12_wish_48 : decode cX12_wish 48 = .ok (.aload_n 0, 1) := by decide +kernel
theorem dX12_wish_49 : decode cX12_wish 49 = .ok (.getfield 21, 3) := by decide +kernel
theorem dX12_wish_52 : decode cX12_wish 52 = .ok (.bipush 8, 2) := by decide +kernel
theorem dX12_wish_54 : decode cX12_wish 54 = .ok (.iload_n 1, 1) := by decide +kernel
theorem dX12_wish_55 : decode cX12_wish 55 = .ok (.imul, 1) := by decide +kernel
theorem dX12_wish_56 : decode cX12_wish 56 = .ok (.iload_n 2, 1) := by decide +kernel
theorem dX12_wish_57 : decode cX12_wish 57 = .ok (.iadd, 1) := by decide +kernel
theorem dX12_wish_58 : decode cX12_wish 58 = .ok (.iload_n 3, 1) := by decide +kernel
theorem dX12_wish_59 : decode cX12_wish 59 = .ok (.iastore, 1) := by decide +kernel
theorem dX12_wish_60 : decode cX12_wish 60 = .ok (.iload 4, 2) := by decide +kernel
theorem dX12_wish_62 : decode cX12_wish 62 = .ok (.ireturn, 1) := by decide +kernel
theorem dX12_train_0 : decode cX12_train 0 = .ok (.aload_n 0, 1) := by decide +kernel
theorem dX12_train_1 : decode cX12_train 1 = .ok (.iconst 0, 1) := by decide +kernel
theorem dX12_train_2 : decode cX12_train 2 = .ok (.putfield 133, 3) := by decide +kernel
theorem dX12_train_5 : decode cX12_train 5 = .ok (.iload_n 1, 1) := by decide +kernel
theorem dX12_train_6 : decode cX12_train 6 = .ok (.i2l, 1) := by decide +kernel
theorem dX12_train_7 : decode cX12_train 7 = .ok (.lconst 1, 1) := by decide +kernel
theorem dX12_train_8 : decode cX12_train 8 = .ok (.ldc2_w 374, 3) := by decide +kernel
theorem dX12_train_11 : decode cX12_train 11 = .ok (.invokestatic 146, 3) := by decide +kernel
theorem dX12_train_14 : decode cX12_train 14 = .ok (.ifCond .ne 5, 3) := by decide +kernel
theorem dX12_train_17 : decode cX12_train 17 = .ok (.iconst (-1), 1) := by decide +kernel
theorem dX12_train_18 : decode cX12_train 18 = .ok (.ireturn, 1) := by decide +kernel
theorem dX12_train_19 : decode cX12_train 19 = .ok (.aload_n 0, 1) := by decide +kernel
theorem dX12_train_20 : decode cX12_train 20 = .ok (.getfield 13, 3) := by decide +kernel
theorem dX12_train_23 : decode cX12_train 23 = .ok (.istore_n 2, 1) := by decide +kernel
theorem dX12_train_24 : decode cX12_train 24 = .ok (.aload_n 0, 1) := by decide +kernel
theorem dX12_train_25 : decode cX12_train 25 = .ok (.iload_n 1, 1) := by decide +kernel
theorem dX12_train_26 : decode cX12_train 26 = .ok (.putfield 13, 3) := by decide +kernel
theorem dX12_train_29 : decode cX12_train 29 = .ok (.iload_n 2, 1) := by decide +kernel
theorem dX12_train_30 : decode cX12_train 30 = .ok (.ireturn, 1) := by decide +kernel
theorem dX12_sheet_0 : decode cX12_sheet 0 = .ok (.aload_n 0, 1) := by decide +kernel
theorem dX12_sheet_1 : decode cX12_sheet 1 = .ok (.iconst 0, 1) := by decide +kernel
theorem dX12_sheet_2 : decode cX12_sheet 2 = .ok (.putfield 133, 3) := by decide +kernel
theorem dX12_sheet_5 : decode cX12_sheet 5 = .ok (.iload_n 1, 1) := by decide +kernel
theorem dX12_sheet_6 : decode cX12_sheet 6 = .ok (.i2l, 1) := by decide +kernel
theorem dX12_sheet_7 : decode cX12_sheet 7 = .ok (.lconst 0, 1) := by decide +kernel
theorem dX12_sheet_8 : decode cX12_sheet 8 = .ok (.ldc2_w 376, 3) := by decide +kernel
theorem dX12_sheet_11 : decode cX12_sheet 11 = .ok (.invokestatic 146, 3) := by decide +kernel
theorem dX12_sheet_14 : decode cX12_sheet 14 = .ok (.ifCond .eq 9, 3) := by decide +kernel
theorem dX12_sheet_17 : decode cX12_sheet 17 = .ok (.iload_n 2, 1) := by decide +kernel
theorem dX12_sheet_18 : decode cX12_sheet 18 = .ok (.bipush 8, 2) := by decide +kernel
theorem dX12_sheet_20 : decode cX12_sheet 20 = .ok (.if_icmp .le 5, 3) := by decide +kernel
theorem dX12_sheet_23 : decode cX12_sheet 23 = .ok (.iconst (-1), 1) := by decide +kernel
theorem dX12_sheet_24 : decode cX12_sheet 24 = .ok (.ireturn, 1) := by decide +kernel
theorem dX12_sheet_25 : decode cX12_sheet 25 = .ok (.iload_n 1, 1) := by decide +kernel
theorem dX12_sheet_26 : decode cX12_sheet 26 = .ok (.iconst 3, 1) := by decide +kernel
theorem dX12_sheet_27 : decode cX12_sheet 27 = .ok (.if_icmp .eq 10, 3) := by decide +kernel
theorem dX12_sheet_30 : decode cX12_sheet 30 = .ok (.iload_n 2, 1) := by decide +kernel
theorem dX12_sheet_31 : decode cX12_sheet 31 = .ok (.ifCond .ge 6, 3) := by decide +kernel
theorem dX12_sheet_34 : decode cX12_sheet 34 = .ok (.bipush (-2), 2) := by decide +kernel
theorem dX12_sheet_36 : decode cX12_sheet 36 = .ok (.ireturn, 1) := by decide +kernel
theorem dX12_sheet_37 : decode cX12_sheet 37 = .ok (.iconst 0, 1) := by decide +kernel
theorem dX12_sheet_38 : decode cX12_sheet 38 = .ok (.istore 5, 2) := by decide +kernel
theorem dX12_sheet_40 : decode cX12_sheet 40 = .ok (.iload_n 3, 1) := by decide +kernel
theorem dX12_sheet_41 : decode cX12_sheet 41 = .ok (.istore 6, 2) := by decide +kernel
theorem dX12_sheet_43 : decode cX12_sheet 43 = .ok (.iconst 0, 1) := by decide +kernel
theorem dX12_sheet_44 : decode cX12_sheet 44 = .ok (.istore 7, 2) := by decide +kernel
theorem dX12_sheet_46 : decode cX12_sheet 46 = .ok (.iload 7, 2) := by decide +kernel
theorem dX12_sheet_48 : decode cX12_sheet 48 = .ok (.aload_n 0, 1) := by decide +kernel
theorem dX12_sheet_49 : decode cX12_sheet 49 = .ok (.getfield 150, 3) := by decide +kernel
theorem dX12_sheet_52 : decode cX12_sheet 52 = .ok (.if_icmp .ge 86, 3) := by decide +kernel
theorem dX12_sheet_55 : decode cX12_sheet 55 = .ok (.iload_n 1, 1) := by decide +kernel
theorem dX12_sheet_56 : decode cX12_sheet 56 = .ok (.ifCond .ne 9, 3) := by decide +kernel
theorem dX12_sheet_59 : decode cX12_sheet 59 = .ok (.iload 6, 2) := by decide +kernel
theorem dX12_sheet_61 : decode cX12_sheet 61 = .ok (.i2b, 1) := by decide +kernel
theorem dX12_sheet_62 : decode cX12_sheet 62 = .ok (.goto 16, 3) := by decide +kernel
theorem dX12_sheet_65 : decode cX12_sheet 65 = .ok (.iload_n 1, 1) := by decide +kernel
theorem dX12_sheet_66 : decode cX12_sheet 66 = .ok (.iconst 1, 1) := by decide +kernel
theorem dX12_sheet_67 : decode cX12_sheet 67 = .ok (.if_icmp .ne 9, 3) := by decide +kernel
theorem dX12_sheet_70 : decode cX12_sheet 70 = .ok (.iload 6, 2) := by decide +kernel
theorem dX12_sheet_72 : decode cX12_sheet 72 = .ok (.i2s, 1) := by decide +kernel
theorem dX12_sheet_73 : decode cX12_sheet 73 = .ok (.goto 5, 3) := by decide +kernel
theorem dX12_sheet_76 : decode cX12_sheet 76 = .ok (.iload 6, 2) := by decide +kernel
theorem dX12_sheet_78 : decode cX12_sheet 78 = .ok (.istore 8, 2) := by decide +kernel
theorem dX12_sheet_80 : decode cX12_sheet 80 = .ok (.aload_n 0, 1) := by decide +kernel
theorem dX12_sheet_81 : decode cX12_sheet 81 = .ok (.getfield 28, 3) := by decide +kernel
theorem dX12_sheet_84 : decode cX12_sheet 84 = .ok (.iload 7, 2) := by decide +kernel
theorem dX12_sheet_86 : decode cX12_sheet 86 = .ok (.iload_n 1, 1) := by decide +kernel
theorem dX12_sheet_87 : decode cX12_sheet 87 = .ok (.iconst 3, 1) := by decide +kernel
theorem dX12_sheet_88 : decode cX12_sheet 88 = .ok (.if_icmp .eq 9, 3) := by decide +kernel
theorem dX12_sheet_91 : decode cX12_sheet 91 = .ok (.iload 7, 2) := by decide +kernel
theorem dX12_sheet_93 : decode cX12_sheet 93 = .ok (.iload_n 2, 1) := by decide +kernel
theorem dX12_sheet_94 : decode cX12_sheet 94 = .ok (.if_icmp .lt 7, 3) := by decide +kernel
theorem dX12_sheet_97 : decode cX12_sheet 97 = .ok (.iconst 1, 1) := by decide +kernel
theorem dX12_sheet_98 : decode cX12_sheet 98 = .ok (.goto 14, 3) := by decide +kernel
theorem dX12_sheet_101 : decode cX12_sheet 101 = .ok (.iconst 1, 1) := by decide +kernel
theorem dX12_sheet_102 : decode cX12_sheet 102 = .ok (.bipush 9, 2) := by decide +kernel
theorem dX12_sheet_104 : decode cX12_sheet 104 = .ok (.iload 8, 2) := by decide +kernel
theorem dX12_sheet_106 : decode cX12_sheet 106 = .ok (.invokestatic 162, 3) := by decide +kernel
theorem dX12_sheet_109 : decode cX12_sheet 109 = .ok (.invokestatic 311, 3) := by decide +kernel
theorem dX12_sheet_112 : decode cX12_sheet 112 = .ok (.iastore, 1) := by decide +kernel
theorem dX12_sheet_113 : decode cX12_sheet 113 = .ok (.iload 5, 2) := by decide +kernel
theorem dX12_sheet_115 : decode cX12_sheet 115 = .ok (.aload_n 0, 1) := by decide +kernel
theorem dX12_sheet_116 : decode cX12_sheet 116 = .ok (.getfield 28, 3) := by decide +kernel
theorem dX12_sheet_119 : decode cX12_sheet 119 = .ok (.iload 7, 2) := by decide +kernel
theorem dX12_sheet_121 : decode cX12_sheet 121 = .ok (.iaload, 1) := by decide +kernel
theorem dX12_sheet_122 : decode cX12_sheet 122 = .ok (.iadd, 1) := by decide +kernel
theorem dX12_sheet_123 : decode cX12_sheet 123 = .ok (.istore 5, 2) := by decide +kernel
theorem dX12_sheet_125 : decode cX12_sheet 125 = .ok (.iload 6, 2) := by decide +kernel
theorem dX12_sheet_127 : decode cX12_sheet 127 = .ok (.iload 4, 2) := by decide +kernel
theorem dX12_sheet_129 : decode cX12_sheet 129 = .ok (.iadd, 1) := by decide +kernel
theorem dX12_sheet_130 : decode cX12_sheet 130 = .ok (.istore 6, 2) := by decide +kernel
theorem dX12_sheet_132 : decode cX12_sheet 132 = .ok (.iinc 7 1, 3) := by decide +kernel
theorem dX12_sheet_135 : decode cX12_sheet 135 = .ok (.goto (-89), 3) := by decide +kernel
theorem dX12_sheet_138 : decode cX12_sheet 138 = .ok (.iload_n 1, 1) := by decide +kernel
theorem dX12_sheet_139 : decode cX12_sheet 139 = .ok (.iconst 3, 1) := by decide +kernel
theorem dX12_sheet_140 : decode cX12_sheet 140 = .ok (.if_icmp .ne 8, 3) := by decide +kernel
theorem dX12_sheet_143 : decode cX12_sheet 143 = .ok (.bipush (-3), 2) := by decide +kernel
theorem dX12_sheet_145 : decode cX12_sheet 145 = .ok (.goto 5, 3) := by decide +kernel
theorem dX12_sheet_148 : decode cX12_sheet 148 = .ok (.iload 5, 2) := by decide +kernel
theorem dX12_sheet_150 : decode cX12_sheet 150 = .ok (.ireturn, 1) := by decide +kernel
theorem dX12_putsBy_0 : decode cX12_putsBy 0 = .ok (.iconst 0, 1) := by decide +kernel
theorem dX12_putsBy_1 : decode cX12_putsBy 1 = .ok (.istore_n 1, 1) := by decide +kernel
theorem dX12_putsBy_2 : decode cX12_putsBy 2 = .ok (.iload_n 1, 1) := by decide +kernel
theorem dX12_putsBy_3 : decode cX12_putsBy 3 = .ok (.bipush 46, 2) := by decide +kernel
theorem dX12_putsBy_5 : decode cX12_putsBy 5 = .ok (.if_icmp .ge 29, 3) := by decide +kernel
theorem dX12_putsBy_8 : decode cX12_putsBy 8 = .ok (.aload_n 0, 1) := by decide +kernel
theorem dX12_putsBy_9 : decode cX12_putsBy 9 = .ok (.getfield 73, 3) := by decide +kernel
theorem dX12_putsBy_12 : decode cX12_putsBy 12 = .ok (.bipush 46, 2) := by decide +kernel
theorem dX12_putsBy_14 : decode cX12_putsBy 14 = .ok (.aload_n 0, 1) := by decide +kernel
theorem dX12_putsBy_15 : decode cX12_putsBy 15 = .ok (.getfield 241, 3) := by decide +kernel
theorem dX12_putsBy_18 : decode cX12_putsBy 18 = .ok (.imul, 1) := by decide +kernel
theorem dX12_putsBy_19 : decode cX12_putsBy 19 = .ok (.iload_n 1, 1) := by decide +kernel
theorem dX12_putsBy_20 : decode cX12_putsBy 20 = .ok (.iadd, 1) := by decide +kernel
theorem dX12_putsBy_21 : decode cX12_putsBy 21 = .ok (.aload_n 0, 1) := by decide +kernel
theorem dX12_putsBy_22 : decode cX12_putsBy 22 = .ok (.getfield 43, 3) := by decide +kernel
theorem dX12_putsBy_25 : decode cX12_putsBy 25 = .ok (.iload_n 1, 1) := by decide +kernel
theorem dX12_putsBy_26 : decode cX12_putsBy 26 = .ok (.iaload, 1) := by decide +kernel
theorem dX12_putsBy_27 : decode cX12_putsBy 27 = .ok (.iastore, 1) := by decide +kernel
theorem dX12_putsBy_28 : decode cX12_putsBy 28 = .ok (.iinc 1 1, 3) := by decide +kernel
theorem dX12_putsBy_31 : decode cX12_putsBy 31 = .ok (.goto (-29), 3) := by decide +kernel
theorem dX12_putsBy_34 : decode cX12_putsBy 34 = .ok (.return_, 1) := by decide +kernel
theorem dX12_adds_0 : decode cX12_adds 0 = .ok (.aload_n 0, 1) := by decide +kernel
theorem dX12_adds_1 : decode cX12_adds 1 = .ok (.dup, 1) := by decide +kernel
theorem dX12_adds_2 : decode cX12_adds 2 = .ok (.getfield 241, 3) := by decide +kernel
theorem dX12_adds_5 : decode cX12_adds 5 = .ok (.iconst 1, 1) := by decide +kernel
theorem dX12_adds_6 : decode cX12_adds 6 = .ok (.iadd, 1) := by decide +kernel
theorem dX12_adds_7 : decode cX12_adds 7 = .ok (.putfield 241, 3) := by decide +kernel
theorem dX12_adds_10 : decode cX12_adds 10 = .ok (.aload_n 0, 1) := by decide +kernel
theorem dX12_adds_11 : decode cX12_adds 11 = .ok (.getfield 241, 3) := by decide +kernel
theorem dX12_adds_14 : decode cX12_adds 14 = .ok (.bipush 15, 2) := by decide +kernel
theorem dX12_adds_16 : decode cX12_adds 16 = .ok (.if_icmp .le 43, 3) := by decide +kernel
theorem dX12_adds_19 : decode cX12_adds 19 = .ok (.iconst 0, 1) := by decide +kernel
theorem dX12_adds_20 : decode cX12_adds 20 = .ok (.istore_n 2, 1) := by decide +kernel
theorem dX12_adds_21 : decode cX12_adds 21 = .ok (.iload_n 2, 1) := by decide +kernel
theorem dX12_adds_22 : decode cX12_adds 22 = .ok (.sipush 690, 3) := by decide +kernel
theorem dX12_adds_25 : decode cX12_adds 25 = .ok (.if_icmp .ge 24, 3) := by decide +kernel
theorem dX12_adds_28 : decode cX12_adds 28 = .ok (.aload_n 0, 1) := by decide +kernel
theorem dX12_adds_29 : decode cX12_adds 29 = .ok (.getfield 73, 3) := by decide +kernel
theorem dX12_adds_32 : decode cX12_adds 32 = .ok (.iload_n 2, 1) := by decide +kernel
theorem dX12_adds_33 : decode cX12_adds 33 = .ok (.aload_n 0, 1) := by decide +kernel
theorem dX12_adds_34 : decode cX12_adds 34 = .ok (.getfield 73, 3) := by decide +kernel
theorem dX12_adds_37 : decode cX12_adds 37 = .ok (.iload_n 2, 1) := by decide +kernel
theorem dX12_adds_38 : decode cX12_adds 38 = .ok (.bipush 46, 2) := by decide +kernel
theorem dX12_adds_40 : decode cX12_adds 40 = .ok (.iadd, 1) := by decide +kernel
theorem dX12_adds_41 : decode cX12_adds 41 = .ok (.iaload, 1) := by decide +kernel
theorem dX12_adds_42 : decode cX12_adds 42 = .ok (.iastore, 1) := by decide +kernel
theorem dX12_adds_43 : decode cX12_adds 43 = .ok (.iinc 2 1, 3) := by decide +kernel
theorem dX12_adds_46 : decode cX12_adds 46 = .ok (.goto (-25), 3) := by decide +kernel
theorem dX12_adds_49 : decode cX12_adds 49 = .ok (.aload_n 0, 1) := by decide +kernel
theorem dX12_adds_50 : decode cX12_adds 50 = .ok (.dup, 1) := by decide +kernel
theorem dX12_adds_51 : decode cX12_adds 51 = .ok (.getfield 241, 3) := by decide +kernel
theorem dX12_adds_54 : decode cX12_adds 54 = .ok (.iconst 1, 1) := by decide +kernel
theorem dX12_adds_55 : decode cX12_adds 55 = .ok (.isub, 1) := by decide +kernel
theorem dX12_adds_56 : decode cX12_adds 56 = .ok (.putfield 241, 3) := by decide +kernel
theorem dX12_adds_59 : decode cX12_adds 59 = .ok (.iload_n 1, 1) := by decide +kernel
theorem dX12_adds_60 : decode cX12_adds 60 = .ok (.ireturn, 1) := by decide +kernel
theorem dX12_undo_0 : decode cX12_undo 0 = .ok (.aload_n 0, 1) := by decide +kernel
theorem dX12_undo_1 : decode cX12_undo 1 = .ok (.iconst 0, 1) := by decide +kernel
theorem dX12_undo_2 : decode cX12_undo 2 = .ok (.putfield 133, 3) := by decide +kernel
theorem dX12_undo_5 : decode cX12_undo 5 = .ok (.aload_n 0, 1) := by decide +kernel
theorem dX12_undo_6 : decode cX12_undo 6 = .ok (.getfield 241, 3) := by decide +kernel
theorem dX12_undo_9 : decode cX12_undo 9 = .ok (.ifCond .ne 5, 3) := by decide +kernel
theorem dX12_undo_12 : decode cX12_undo 12 = .ok (.iconst (-1), 1) := by decide +kernel
theorem dX12_undo_13 : decode cX12_undo 13 = .ok (.ireturn, 1) := by decide +kernel
theorem dX12_undo_14 : decode cX12_undo 14 = .ok (.aload_n 0, 1) := by decide +kernel
theorem dX12_undo_15 : decode cX12_undo 15 = .ok (.dup, 1) := by decide +kernel
theorem dX12_undo_16 : decode cX12_undo 16 = .ok (.getfield 241, 3) := by decide +kernel
theorem dX12_undo_19 : decode cX12_undo 19 = .ok (.iconst 1, 1) := by decide +kernel
theorem dX12_undo_20 : decode cX12_undo 20 = .ok (.isub, 1) := by decide +kernel
theorem dX12_undo_21 : decode cX12_undo 21 = .ok (.putfield 241, 3) := by decide +kernel
theorem dX12_undo_24 : decode cX12_undo 24 = .ok (.iconst 0, 1) := by decide +kernel
theorem dX12_undo_25 : decode cX12_undo 25 = .ok (.istore_n 1, 1) := by decide +kernel
theorem dX12_undo_26 : decode cX12_undo 26 = .ok (.iload_n 1, 1) := by decide +kernel
theorem dX12_undo_27 : decode cX12_undo 27 = .ok (.bipush 46, 2) := by decide +kernel
theorem dX12_undo_29 : decode cX12_undo 29 = .ok (.if_icmp .ge 29, 3) := by decide +kernel
theorem dX12_undo_32 : decode cX12_undo 32 = .ok (.aload_n 0, 1) := by decide +kernel
theorem dX12_undo_33 : decode cX12_undo 33 = .ok (.getfield 43, 3) := by decide +kernel
theorem dX12_undo_36 : decode cX12_undo 36 = .ok (.iload_n 1, 1) := by decide +kernel
theorem dX12_undo_37 : decode cX12_undo 37 = .ok (.aload_n 0, 1) := by decide +kernel
theorem dX12_undo_38 : decode cX12_undo 38 = .ok (.getfield 73, 3) := by decide +kernel
theorem dX12_undo_41 : decode cX12_undo 41 = .ok (.bipush 46, 2) := by decide +kernel
theorem dX12_undo_43 : decode cX12_undo 43 = .ok (.aload_n 0, 1) := by decide +kernel
theorem dX12_undo_44 : decode cX12_undo 44 = .ok (.getfield 241, 3) := by decide +kernel
theorem dX12_undo_47 : decode cX12_undo 47 = .ok (.imul, 1) := by decide +kernel
theorem dX12_undo_48 : decode cX12_undo 48 = .ok (.iload_n 1, 1) := by decide +kernel
theorem dX12_undo_49 : decode cX12_undo 49 = .ok (.iadd, 1) := by decide +kernel
theorem dX12_undo_50 : decode cX12_undo 50 = .ok (.iaload, 1) := by decide +kernel
theorem dX12_undo_51 : decode cX12_undo 51 = .ok (.iastore, 1) := by decide +kernel
theorem dX12_undo_52 : decode cX12_undo 52 = .ok (.iinc 1 1, 3) := by decide +kernel
theorem dX12_undo_55 : decode cX12_undo 55 = .ok (.goto (-29), 3) := by decide +kernel
theorem dX12_undo_58 : decode cX12_undo 58 = .ok (.aload_n 0, 1) := by decide +kernel
theorem dX12_undo_59 : decode cX12_undo 59 = .ok (.getfield 241, 3) := by decide +kernel
theorem dX12_undo_62 : decode cX12_undo 62 = .ok (.ireturn, 1) := by decide +kernel
theorem dX12_canAsk_0 : decode cX12_canAsk 0 = .ok (.aload_n 0, 1) := by decide +kernel
theorem dX12_canAsk_1 : decode cX12_canAsk 1 = .ok (.iload_n 1, 1) := by decide +kernel
theorem dX12_canAsk_2 : decode cX12_canAsk 2 = .ok (.invokevirtual 247, 3) := by decide +kernel
theorem dX12_canAsk_5 : decode cX12_canAsk 5 = .ok (.ifCond .eq 27, 3) := by decide +kernel
theorem dX12_canAsk_8 : decode cX12_canAsk 8 = .ok (.aload_n 0, 1) := by decide +kernel
theorem dX12_canAsk_9 : decode cX12_canAsk 9 = .ok (.iload_n 2, 1) := by decide +kernel
theorem dX12_canAsk_10 : decode cX12_canAsk 10 = .ok (.invokevirtual 361, 3) := by decide +kernel
theorem dX12_canAsk_13 : decode cX12_canAsk 13 = .ok (.ifCond .eq 19, 3) := by decide +kernel
theorem dX12_canAsk_16 : decode cX12_canAsk 16 = .ok (.iload_n 3, 1) := by decide +kernel
theorem dX12_canAsk_17 : decode cX12_canAsk 17 = .ok (.i2l, 1) := by decide +kernel
theorem dX12_canAsk_18 : decode cX12_canAsk 18 = .ok (.lconst 0, 1) := by decide +kernel
theorem dX12_canAsk_19 : decode cX12_canAsk 19 = .ok (.ldc2_w 374, 3) := by decide +kernel
theorem dX12_canAsk_22 : decode cX12_canAsk 22 = .ok (.invokestatic 146, 3) := by decide +kernel
theorem dX12_canAsk_25 : decode cX12_canAsk 25 = .ok (.ifCond .eq 7, 3) := by decide +kernel
theorem dX12_canAsk_28 : decode cX12_canAsk 28 = .ok (.iconst 1, 1) := by decide +kernel
theorem dX12_canAsk_29 : decode cX12_canAsk 29 = .ok (.goto 4, 3) := by decide +kernel
theorem dX12_canAsk_32 : decode cX12_canAsk 32 = .ok (.iconst 0, 1) := by decide +kernel
theorem dX12_canAsk_33 : decode cX12_canAsk 33 = .ok (.ireturn, 1) := by decide +kernel
theorem dX12_mayNot_0 : decode cX12_mayNot 0 = .ok (.aload_n 0, 1) := by decide +kernel
theorem dX12_mayNot_1 : decode cX12_mayNot 1 = .ok (.getfield 43, 3) := by decide +kernel
theorem dX12_mayNot_4 : decode cX12_mayNot 4 = .ok (.aload_n 0, 1) := by decide +kernel
theorem dX12_mayNot_5 : decode cX12_mayNot 5 = .ok (.getfield 46, 3) := by decide +kernel
theorem dX12_mayNot_8 : decode cX12_mayNot 8 = .ok (.invokestatic 346, 3) := by decide +kernel
theorem dX12_mayNot_11 : decode cX12_mayNot 11 = .ok (.aload_n 0, 1) := by decide +kernel
theorem dX12_mayNot_12 : decode cX12_mayNot 12 = .ok (.getfield 46, 3) := by decide +kernel
theorem dX12_mayNot_15 : decode cX12_mayNot 15 = .ok (.iload_n 1, 1) := by decide +kernel
theorem dX12_mayNot_16 : decode cX12_mayNot 16 = .ok (.iload_n 2, 1) := by decide +kernel
theorem dX12_mayNot_17 : decode cX12_mayNot 17 = .ok (.iload_n 3, 1) := by decide +kernel
theorem dX12_mayNot_18 : decode cX12_mayNot 18 = .ok (.invokestatic 336, 3) := by decide +kernel
theorem dX12_mayNot_21 : decode cX12_mayNot 21 = .ok (.aload_n 0, 1) := by decide +kernel
theorem dX12_mayNot_22 : decode cX12_mayNot 22 = .ok (.aload_n 0, 1) := by decide +kernel
theorem dX12_mayNot_23 : decode cX12_mayNot 23 = .ok (.getfield 46, 3) := by decide +kernel
theorem dX12_mayNot_26 : decode cX12_mayNot 26 = .ok (.aload_n 0, 1) := by decide +kernel
theorem dX12_mayNot_27 : decode cX12_mayNot 27 = .ok (.getfield 46, 3) := by decide +kernel
theorem dX12_mayNot_30 : decode cX12_mayNot 30 = .ok (.bipush 45, 2) := by decide +kernel
theorem dX12_mayNot_32 : decode cX12_mayNot 32 = .ok (.iaload, 1) := by decide +kernel
theorem dX12_mayNot_33 : decode cX12_mayNot 33 = .ok (.iconst 1, 1) := by decide +kernel
theorem dX12_mayNot_34 : decode cX12_mayNot 34 = .ok (.isub, 1) := by decide +kernel
theorem dX12_mayNot_35 : decode cX12_mayNot 35 = .ok (.invokevirtual 369, 3) := by decide +kernel
theorem dX12_mayNot_38 : decode cX12_mayNot 38 = .ok (.istore 4, 2) := by decide +kernel
theorem dX12_mayNot_40 : decode cX12_mayNot 40 = .ok (.iload 4, 2) := by decide +kernel
theorem dX12_mayNot_42 : decode cX12_mayNot 42 = .ok (.ifCond .le 8, 3) := by decide +kernel
theorem dX12_mayNot_45 : decode cX12_mayNot 45 = .ok (.iload 4, 2) := by decide +kernel
theorem dX12_mayNot_47 : decode cX12_mayNot 47 = .ok (.goto 33, 3) := by decide +kernel
theorem dX12_mayNot_50 : decode cX12_mayNot 50 = .ok (.aload_n 0, 1) := by decide +kernel
theorem dX12_mayNot_51 : decode cX12_mayNot 51 = .ok (.invokevirtual 378, 3) := by decide +kernel
theorem dX12_mayNot_54 : decode cX12_mayNot 54 = .ok (.ifCond .ne 8, 3) := by decide +kernel
theorem dX12_mayNot_57 : decode cX12_mayNot 57 = .ok (.bipush 6, 2) := by decide +kernel
theorem dX12_mayNot_59 : decode cX12_mayNot 59 = .ok (.goto 21, 3) := by decide +kernel
theorem dX12_mayNot_62 : decode cX12_mayNot 62 = .ok (.aload_n 0, 1) := by decide +kernel
theorem dX12_mayNot_63 : decode cX12_mayNot 63 = .ok (.getfield 43, 3) := by decide +kernel
theorem dX12_mayNot_66 : decode cX12_mayNot 66 = .ok (.bipush 45, 2) := by decide +kernel
theorem dX12_mayNot_68 : decode cX12_mayNot 68 = .ok (.iaload, 1) := by decide +kernel
theorem dX12_mayNot_69 : decode cX12_mayNot 69 = .ok (.bipush 12, 2) := by decide +kernel
theorem dX12_mayNot_71 : decode cX12_mayNot 71 = .ok (.if_icmp .ne 8, 3) := by decide +kernel
theorem dX12_mayNot_74 : decode cX12_mayNot 74 = .ok (.bipush 7, 2) := by decide +kernel
theorem dX12_mayNot_76 : decode cX12_mayNot 76 = .ok (.goto 4, 3) := by decide +kernel
theorem dX12_mayNot_79 : decode cX12_mayNot 79 = .ok (.iconst 0, 1) := by decide +kernel
theorem dX12_mayNot_80 : decode cX12_mayNot 80 = .ok (.ireturn, 1) := by decide +kernel
theorem dX12_may_0 : decode cX12_may 0 = .ok (.aload_n 0, 1) := by decide +kernel
theorem dX12_may_1 : decode cX12_may 1 = .ok (.iconst 0, 1) := by decide +kernel
theorem dX12_may_2 : decode cX12_may 2 = .ok (.putfield 133, 3) := by decide +kernel
theorem dX12_may_5 : decode cX12_may 5 = .ok (.aload_n 0, 1) := by decide +kernel
theorem dX12_may_6 : decode cX12_may 6 = .ok (.iload_n 1, 1) := by decide +kernel
theorem dX12_may_7 : decode cX12_may 7 = .ok (.iload_n 2, 1) := by decide +kernel
theorem dX12_may_8 : decode cX12_may 8 = .ok (.iload_n 3, 1) := by decide +kernel
theorem dX12_may_9 : decode cX12_may 9 = .ok (.invokevirtual 381, 3) := by decide +kernel
theorem dX12_may_12 : decode cX12_may 12 = .ok (.ifCond .eq 13, 3) := by decide +kernel
theorem dX12_may_15 : decode cX12_may 15 = .ok (.aload_n 0, 1) := by decide +kernel
theorem dX12_may_16 : decode cX12_may 16 = .ok (.iload_n 1, 1) := by decide +kernel
theorem dX12_may_17 : decode cX12_may 17 = .ok (.iload_n 2, 1) := by decide +kernel
theorem dX12_may_18 : decode cX12_may 18 = .ok (.iload_n 3, 1) := by decide +kernel
theorem dX12_may_19 : decode cX12_may 19 = .ok (.invokevirtual 385, 3) := by decide +kernel
theorem dX12_may_22 : decode cX12_may 22 = .ok (.goto 4, 3) := by decide +kernel
theorem dX12_may_25 : decode cX12_may 25 = .ok (.iconst (-1), 1) := by decide +kernel
theorem dX12_may_26 : decode cX12_may 26 = .ok (.ireturn, 1) := by decide +kernel
theorem dX12_goes_0 : decode cX12_goes 0 = .ok (.aload_n 0, 1) := by decide +kernel
theorem dX12_goes_1 : decode cX12_goes 1 = .ok (.iload_n 1, 1) := by decide +kernel
theorem dX12_goes_2 : decode cX12_goes 2 = .ok (.iload_n 2, 1) := by decide +kernel
theorem dX12_goes_3 : decode cX12_goes 3 = .ok (.iload_n 3, 1) := by decide +kernel
theorem dX12_goes_4 : decode cX12_goes 4 = .ok (.invokevirtual 381, 3) := by decide +kernel
theorem dX12_goes_7 : decode cX12_goes 7 = .ok (.ifCond .ne 5, 3) := by decide +kernel
theorem dX12_goes_10 : decode cX12_goes 10 = .ok (.iconst (-1), 1) := by decide +kernel
theorem dX12_goes_11 : decode cX12_goes 11 = .ok (.ireturn, 1) := by decide +kernel
theorem dX12_goes_12 : decode cX12_goes 12 = .ok (.aload_n 0, 1) := by decide +kernel
theorem dX12_goes_13 : decode cX12_goes 13 = .ok (.iload_n 1, 1) := by decide +kernel
theorem dX12_goes_14 : decode cX12_goes 14 = .ok (.iload_n 2, 1) := by decide +kernel
theorem dX12_goes_15 : decode cX12_goes 15 = .ok (.iload_n 3, 1) := by decide +kernel
theorem dX12_goes_16 : decode cX12_goes 16 = .ok (.invokevirtual 385, 3) := by decide +kernel
theorem dX12_goes_19 : decode cX12_goes 19 = .ok (.ifCond .eq 6, 3) := by decide +kernel
theorem dX12_goes_22 : decode cX12_goes 22 = .ok (.bipush (-2), 2) := by decide +kernel
theorem dX12_goes_24 : decode cX12_goes 24 = .ok (.ireturn, 1) := by decide +kernel
theorem dX12_goes_25 : decode cX12_goes 25 = .ok (.aload_n 0, 1) := by decide +kernel
theorem dX12_goes_26 : decode cX12_goes 26 = .ok (.getfield 43, 3) := by decide +kernel
theorem dX12_goes_29 : decode cX12_goes 29 = .ok (.iload_n 1, 1) := by decide +kernel
theorem dX12_goes_30 : decode cX12_goes 30 = .ok (.iload_n 2, 1) := by decide +kernel
theorem dX12_goes_31 : decode cX12_goes 31 = .ok (.iload_n 3, 1) := by decide +kernel
theorem dX12_goes_32 : decode cX12_goes 32 = .ok (.invokestatic 336, 3) := by decide +kernel
theorem dX12_goes_35 : decode cX12_goes 35 = .ok (.aload_n 0, 1) := by decide +kernel
theorem dX12_goes_36 : decode cX12_goes 36 = .ok (.getfield 43, 3) := by decide +kernel
theorem dX12_goes_39 : decode cX12_goes 39 = .ok (.bipush 45, 2) := by decide +kernel
theorem dX12_goes_41 : decode cX12_goes 41 = .ok (.iaload, 1) := by decide +kernel
theorem dX12_goes_42 : decode cX12_goes 42 = .ok (.ireturn, 1) := by decide +kernel
theorem dX12_go_0 : decode cX12_go 0 = .ok (.aload_n 0, 1) := by decide +kernel
theorem dX12_go_1 : decode cX12_go 1 = .ok (.iconst 0, 1) := by decide +kernel
theorem dX12_go_2 : decode cX12_go 2 = .ok (.putfield 133, 3) := by decide +kernel
theorem dX12_go_5 : decode cX12_go 5 = .ok (.aload_n 0, 1) := by decide +kernel
theorem dX12_go_6 : decode cX12_go 6 = .ok (.invokevirtual 343, 3) := by decide +kernel
theorem dX12_go_9 : decode cX12_go 9 = .ok (.aload_n 0, 1) := by decide +kernel
theorem dX12_go_10 : decode cX12_go 10 = .ok (.iload_n 1, 1) := by decide +kernel
theorem dX12_go_11 : decode cX12_go 11 = .ok (.iload_n 2, 1) := by decide +kernel
theorem dX12_go_12 : decode cX12_go 12 = .ok (.iload_n 3, 1) := by decide +kernel
theorem dX12_go_13 : decode cX12_go 13 = .ok (.invokevirtual 388, 3) := by decide +kernel
theorem dX12_go_16 : decode cX12_go 16 = .ok (.istore 4, 2) := by decide +kernel
theorem dX12_go_18 : decode cX12_go 18 = .ok (.iload 4, 2) := by decide +kernel
theorem dX12_go_20 : decode cX12_go 20 = .ok (.ifCond .ge 8, 3) := by decide +kernel
theorem dX12_go_23 : decode cX12_go 23 = .ok (.iload 4, 2) := by decide +kernel
theorem dX12_go_25 : decode cX12_go 25 = .ok (.goto 9, 3) := by decide +kernel
theorem dX12_go_28 : decode cX12_go 28 = .ok (.aload_n 0, 1) := by decide +kernel
theorem dX12_go_29 : decode cX12_go 29 = .ok (.iload 4, 2) := by decide +kernel
theorem dX12_go_31 : decode cX12_go 31 = .ok (.invokevirtual 350, 3) := by decide +kernel
theorem dX12_go_34 : decode cX12_go 34 = .ok (.ireturn, 1) := by decide +kernel
theorem dX12_pair_0 : decode cX12_pair 0 = .ok (.aload_n 0, 1) := by decide +kernel
theorem dX12_pair_1 : decode cX12_pair 1 = .ok (.iconst 0, 1) := by decide +kernel
theorem dX12_pair_2 : decode cX12_pair 2 = .ok (.putfield 133, 3) := by decide +kernel
theorem dX12_pair_5 : decode cX12_pair 5 = .ok (.aload_n 0, 1) := by decide +kernel
theorem dX12_pair_6 : decode cX12_pair 6 = .ok (.iload_n 1, 1) := by decide +kernel
theorem dX12_pair_7 : decode cX12_pair 7 = .ok (.iload_n 3, 1) := by decide +kernel
theorem dX12_pair_8 : decode cX12_pair 8 = .ok (.iload 4, 2) := by decide +kernel
theorem dX12_pair_10 : decode cX12_pair 10 = .ok (.invokevirtual 381, 3) := by decide +kernel
theorem dX12_pair_13 : decode cX12_pair 13 = .ok (.ifCond .eq 16, 3) := by decide +kernel
theorem dX12_pair_16 : decode cX12_pair 16 = .ok (.aload_n 0, 1) := by decide +kernel
theorem dX12_pair_17 : decode cX12_pair 17 = .ok (.iload_n 2, 1) := by decide +kernel
theorem dX12_pair_18 : decode cX12_pair 18 = .ok (.invokevirtual 247, 3) := by decide +kernel
theorem dX12_pair_21 : decode cX12_pair 21 = .ok (.ifCond .eq 8, 3) := by decide +kernel
theorem dX12_pair_24 : decode cX12_pair 24 = .ok (.iload_n 1, 1) := by decide +kernel
theorem dX12_pair_25 : decode cX12_pair 25 = .ok (.iload_n 2, 1) := by decide +kernel
theorem dX12_pair_26 : decode cX12_pair 26 = .ok (.if_icmp .ne 5, 3) := by decide +kernel
theorem dX12_pair_29 : decode cX12_pair 29 = .ok (.iconst (-1), 1) := by decide +kernel
theorem dX12_pair_30 : decode cX12_pair 30 = .ok (.ireturn, 1) := by decide +kernel
theorem dX12_pair_31 : decode cX12_pair 31 = .ok (.aload_n 0, 1) := by decide +kernel
theorem dX12_pair_32 : decode cX12_pair 32 = .ok (.getfield 43, 3) := by decide +kernel
theorem dX12_pair_35 : decode cX12_pair 35 = .ok (.bipush 45, 2) := by decide +kernel
theorem dX12_pair_37 : decode cX12_pair 37 = .ok (.iaload, 1) := by decide +kernel
theorem dX12_pair_38 : decode cX12_pair 38 = .ok (.bipush 10, 2) := by decide +kernel
theorem dX12_pair_40 : decode cX12_pair 40 = .ok (.if_icmp .le 6, 3) := by decide +kernel
theorem dX12_pair_43 : decode cX12_pair 43 = .ok (.bipush (-2), 2) := by decide +kernel
theorem dX12_pair_45 : decode cX12_pair 45 = .ok (.ireturn, 1) := by decide +kernel
theorem dX12_pair_46 : decode cX12_pair 46 = .ok (.aload_n 0, 1) := by decide +kernel
theorem dX12_pair_47 : decode cX12_pair 47 = .ok (.getfield 43, 3) := by decide +kernel
theorem dX12_pair_50 : decode cX12_pair 50 = .ok (.aload_n 0, 1) := by decide +kernel
theorem dX12_pair_51 : decode cX12_pair 51 = .ok (.getfield 46, 3) := by decide +kernel
theorem dX12_pair_54 : decode cX12_pair 54 = .ok (.invokestatic 346, 3) := by decide +kernel
theorem dX12_pair_57 : decode cX12_pair 57 = .ok (.aload_n 0, 1) := by decide +kernel
theorem dX12_pair_58 : decode cX12_pair 58 = .ok (.getfield 46, 3) := by decide +kernel
theorem dX12_pair_61 : decode cX12_pair 61 = .ok (.iload_n 1, 1) := by decide +kernel
theorem dX12_pair_62 : decode cX12_pair 62 = .ok (.iload_n 3, 1) := by decide +kernel
theorem dX12_pair_63 : decode cX12_pair 63 = .ok (.iload 4, 2) := by decide +kernel
theorem dX12_pair_65 : decode cX12_pair 65 = .ok (.invokestatic 336, 3) := by decide +kernel
theorem dX12_pair_68 : decode cX12_pair 68 = .ok (.aload_n 0, 1) := by decide +kernel
theorem dX12_pair_69 : decode cX12_pair 69 = .ok (.getfield 46, 3) := by decide +kernel
theorem dX12_pair_72 : decode cX12_pair 72 = .ok (.iload_n 2, 1) := by decide +kernel
theorem dX12_pair_73 : decode cX12_pair 73 = .ok (.iload_n 3, 1) := by decide +kernel
theorem dX12_pair_74 : decode cX12_pair 74 = .ok (.iload 4, 2) := by decide +kernel
theorem dX12_pair_76 : decode cX12_pair 76 = .ok (.invokestatic 336, 3) := by decide +kernel
theorem dX12_pair_79 : decode cX12_pair 79 = .ok (.aload_n 0, 1) := by decide +kernel
theorem dX12_pair_80 : decode cX12_pair 80 = .ok (.aload_n 0, 1) := by decide +kernel
theorem dX12_pair_81 : decode cX12_pair 81 = .ok (.getfield 46, 3) := by decide +kernel
theorem dX12_pair_84 : decode cX12_pair 84 = .ok (.aload_n 0, 1) := by decide +kernel
theorem dX12_pair_85 : decode cX12_pair 85 = .ok (.getfield 46, 3) := by decide +kernel
theorem dX12_pair_88 : decode cX12_pair 88 = .ok (.bipush 45, 2) := by decide +kernel
theorem dX12_pair_90 : decode cX12_pair 90 = .ok (.iaload, 1) := by decide +kernel
theorem dX12_pair_91 : decode cX12_pair 91 = .ok (.iconst 2, 1) := by decide +kernel
theorem dX12_pair_92 : decode cX12_pair 92 = .ok (.isub, 1) := by decide +kernel
theorem dX12_pair_93 : decode cX12_pair 93 = .ok (.invokevirtual 369, 3) := by decide +kernel
theorem dX12_pair_96 : decode cX12_pair 96 = .ok (.ifCond .gt 30, 3) := by decide +kernel
theorem dX12_pair_99 : decode cX12_pair 99 = .ok (.aload_n 0, 1) := by decide +kernel
theorem dX12_pair_100 : decode cX12_pair 100 = .ok (.aload_n 0, 1) := by decide +kernel
theorem dX12_pair_101 : decode cX12_pair 101 = .ok (.getfield 46, 3) := by decide +kernel
theorem dX12_pair_104 : decode cX12_pair 104 = .ok (.aload_n 0, 1) := by decide +kernel
theorem dX12_pair_105 : decode cX12_pair 105 = .ok (.getfield 46, 3) := by decide +kernel
theorem dX12_pair_108 : decode cX12_pair 108 = .ok (.bipush 45, 2) := by decide +kernel
theorem dX12_pair_110 : decode cX12_pair 110 = .ok (.iaload, 1) := by decide +kernel
theorem dX12_pair_111 : decode cX12_pair 111 = .ok (.iconst 1, 1) := by decide +kernel
theorem dX12_pair_112 : decode cX12_pair 112 = .ok (.isub, 1) := by decide +kernel
theorem dX12_pair_113 : decode cX12_pair 113 = .ok (.invokevirtual 369, 3) := by decide +kernel
theorem dX12_pair_116 : decode cX12_pair 116 = .ok (.ifCond .gt 10, 3) := by decide +kernel
theorem dX12_pair_119 : decode cX12_pair 119 = .ok (.aload_n 0, 1) := by decide +kernel
theorem dX12_pair_120 : decode cX12_pair 120 = .ok (.invokevirtual 378, 3) := by decide +kernel
theorem dX12_pair_123 : decode cX12_pair 123 = .ok (.ifCond .ne 6, 3) := by decide +kernel
theorem dX12_pair_126 : decode cX12_pair 126 = .ok (.bipush (-2), 2) := by decide +kernel
theorem dX12_pair_128 : decode cX12_pair 128 = .ok (.ireturn, 1) := by decide +kernel
theorem dX12_pair_129 : decode cX12_pair 129 = .ok (.aload_n 0, 1) := by decide +kernel
theorem dX12_pair_130 : decode cX12_pair 130 = .ok (.invokevirtual 343, 3) := by decide +kernel
theorem dX12_pair_133 : decode cX12_pair 133 = .ok (.aload_n 0, 1) := by decide +kernel
theorem dX12_pair_134 : decode cX12_pair 134 = .ok (.getfield 46, 3) := by decide +kernel
theorem dX12_pair_137 : decode cX12_pair 137 = .ok (.aload_n 0, 1) := by decide +kernel
theorem dX12_pair_138 : decode cX12_pair 138 = .ok (.getfield 43, 3) := by decide +kernel
theorem dX12_pair_141 : decode cX12_pair 141 = .ok (.invokestatic 346, 3) := by decide +kernel
theorem dX12_pair_144 : decode cX12_pair 144 = .ok (.aload_n 0, 1) := by decide +kernel
theorem dX12_pair_145 : decode cX12_pair 145 = .ok (.aload_n 0, 1) := by decide +kernel
theorem dX12_pair_146 : decode cX12_pair 146 = .ok (.getfield 43, 3) := by decide +kernel
theorem dX12_pair_149 : decode cX12_pair 149 = .ok (.bipush 45, 2) := by decide +kernel
theorem dX12_pair_151 : decode cX12_pair 151 = .ok (.iaload, 1) := by decide +kernel
theorem dX12_pair_152 : decode cX12_pair 152 = .ok (.invokevirtual 350, 3) := by decide +kernel
theorem dX12_pair_155 : decode cX12_pair 155 = .ok (.ireturn, 1) := by decide +kernel
theorem dX12_strikes_0 : decode cX12_strikes 0 = .ok (.aload_n 0, 1) := by decide +kernel
theorem dX12_strikes_1 : decode cX12_strikes 1 = .ok (.iload_n 1, 1) := by decide +kernel
theorem dX12_strikes_2 : decode cX12_strikes 2 = .ok (.invokevirtual 366, 3) := by decide +kernel
theorem dX12_strikes_5 : decode cX12_strikes 5 = .ok (.ifCond .ne 5, 3) := by decide +kernel
theorem dX12_strikes_8 : decode cX12_strikes 8 = .ok (.iconst (-1), 1) := by decide +kernel
theorem dX12_strikes_9 : decode cX12_strikes 9 = .ok (.ireturn, 1) := by decide +kernel
theorem dX12_strikes_10 : decode cX12_strikes 10 = .ok (.aload_n 0, 1) := by decide +kernel
theorem dX12_strikes_11 : decode cX12_strikes 11 = .ok (.getfield 43, 3) := by decide +kernel
theorem dX12_strikes_14 : decode cX12_strikes 14 = .ok (.iload_n 1, 1) := by decide +kernel
theorem dX12_strikes_15 : decode cX12_strikes 15 = .ok (.invokestatic 391, 3) := by decide +kernel
theorem dX12_strikes_18 : decode cX12_strikes 18 = .ok (.aload_n 0, 1) := by decide +kernel
theorem dX12_strikes_19 : decode cX12_strikes 19 = .ok (.getfield 43, 3) := by decide +kernel
theorem dX12_strikes_22 : decode cX12_strikes 22 = .ok (.bipush 45, 2) := by decide +kernel
theorem dX12_strikes_24 : decode cX12_strikes 24 = .ok (.iaload, 1) := by decide +kernel
theorem dX12_strikes_25 : decode cX12_strikes 25 = .ok (.ireturn, 1) := by decide +kernel
theorem dX12_strike_0 : decode cX12_strike 0 = .ok (.aload_n 0, 1) := by decide +kernel
theorem dX12_strike_1 : decode cX12_strike 1 = .ok (.iconst 0, 1) := by decide +kernel
theorem dX12_strike_2 : decode cX12_strike 2 = .ok (.putfield 133, 3) := by decide +kernel
theorem dX12_strike_5 : decode cX12_strike 5 = .ok (.aload_n 0, 1) := by decide +kernel
theorem dX12_strike_6 : decode cX12_strike 6 = .ok (.invokevirtual 343, 3) := by decide +kernel
theorem dX12_strike_9 : decode cX12_strike 9 = .ok (.aload_n 0, 1) := by decide +kernel
theorem dX12_strike_10 : decode cX12_strike 10 = .ok (.iload_n 1, 1) := by decide +kernel
theorem dX12_strike_11 : decode cX12_strike 11 = .ok (.invokevirtual 395, 3) := by decide +kernel
theorem dX12_strike_14 : decode cX12_strike 14 = .ok (.istore_n 2, 1) := by decide +kernel
theorem dX12_strike_15 : decode cX12_strike 15 = .ok (.iload_n 2, 1) := by decide +kernel
theorem dX12_strike_16 : decode cX12_strike 16 = .ok (.ifCond .ge 7, 3) := by decide +kernel
theorem dX12_strike_19 : decode cX12_strike 19 = .ok (.iload_n 2, 1) := by decide +kernel
theorem dX12_strike_20 : decode cX12_strike 20 = .ok (.goto 8, 3) := by decide +kernel
theorem dX12_strike_23 : decode cX12_strike 23 = .ok (.aload_n 0, 1) := by decide +kernel
theorem dX12_strike_24 : decode cX12_strike 24 = .ok (.iload_n 2, 1) := by decide +kernel
theorem dX12_strike_25 : decode cX12_strike 25 = .ok (.invokevirtual 350, 3) := by decide +kernel
theorem dX12_strike_28 : decode cX12_strike 28 = .ok (.ireturn, 1) := by decide +kernel
theorem dX12_shifts_0 : decode cX12_shifts 0 = .ok (.aload_n 0, 1) := by decide +kernel
theorem dX12_shifts_1 : decode cX12_shifts 1 = .ok (.iload_n 1, 1) := by decide +kernel
theorem dX12_shifts_2 : decode cX12_shifts 2 = .ok (.invokevirtual 366, 3) := by decide +kernel
theorem dX12_shifts_5 : decode cX12_shifts 5 = .ok (.ifCond .eq 17, 3) := by decide +kernel
theorem dX12_shifts_8 : decode cX12_shifts 8 = .ok (.iload_n 2, 1) := by decide +kernel
theorem dX12_shifts_9 : decode cX12_shifts 9 = .ok (.i2l, 1) := by decide +kernel
theorem dX12_shifts_10 : decode cX12_shifts 10 = .ok (.ldc2_w 398, 3) := by decide +kernel
theorem dX12_shifts_13 : decode cX12_shifts 13 = .ok (.ldc2_w 374, 3) := by decide +kernel
theorem dX12_shifts_16 : decode cX12_shifts 16 = .ok (.invokestatic 146, 3) := by decide +kernel
theorem dX12_shifts_19 : decode cX12_shifts 19 = .ok (.ifCond .ne 5, 3) := by decide +kernel
theorem dX12_shifts_22 : decode cX12_shifts 22 = .ok (.iconst (-1), 1) := by decide +kernel
theorem dX12_shifts_23 : decode cX12_shifts 23 = .ok (.ireturn, 1) := by decide +kernel
theorem dX12_shifts_24 : decode cX12_shifts 24 = .ok (.aload_n 0, 1) := by decide +kernel
theorem dX12_shifts_25 : decode cX12_shifts 25 = .ok (.getfield 43, 3) := by decide +kernel
theorem dX12_shifts_28 : decode cX12_shifts 28 = .ok (.iload_n 1, 1) := by decide +kernel
theorem dX12_shifts_29 : decode cX12_shifts 29 = .ok (.invokestatic 274, 3) := by decide +kernel
theorem dX12_shifts_32 : decode cX12_shifts 32 = .ok (.iload_n 2, 1) := by decide +kernel
theorem dX12_shifts_33 : decode cX12_shifts 33 = .ok (.iadd, 1) := by decide +kernel
theorem dX12_shifts_34 : decode cX12_shifts 34 = .ok (.istore_n 3, 1) := by decide +kernel
theorem dX12_shifts_35 : decode cX12_shifts 35 = .ok (.iload_n 3, 1) := by decide +kernel
theorem dX12_shifts_36 : decode cX12_shifts 36 = .ok (.i2l, 1) := by decide +kernel
theorem dX12_shifts_37 : decode cX12_shifts 37 = .ok (.lconst 0, 1) := by decide +kernel
theorem dX12_shifts_38 : decode cX12_shifts 38 = .ok (.ldc2_w 374, 3) := by decide +kernel
theorem dX12_shifts_41 : decode cX12_shifts 41 = .ok (.invokestatic 146, 3) := by decide +kernel
theorem dX12_shifts_44 : decode cX12_shifts 44 = .ok (.ifCond .ne 6, 3) := by decide +kernel
theorem dX12_shifts_47 : decode cX12_shifts 47 = .ok (.bipush (-2), 2) := by decide +kernel
theorem dX12_shifts_49 : decode cX12_shifts 49 = .ok (.ireturn, 1) := by decide +kernel
theorem dX12_shifts_50 : decode cX12_shifts 50 = .ok (.aload_n 0, 1) := by decide +kernel
theorem dX12_shifts_51 : decode cX12_shifts 51 = .ok (.getfield 43, 3) := by decide +kernel
theorem dX12_shifts_54 : decode cX12_shifts 54 = .ok (.aload_n 0, 1) := by decide +kernel
theorem dX12_shifts_55 : decode cX12_shifts 55 = .ok (.getfield 46, 3) := by decide +kernel
theorem dX12_shifts_58 : decode cX12_shifts 58 = .ok (.invokestatic 346, 3) := by decide +kernel
theorem dX12_shifts_61 : decode cX12_shifts 61 = .ok (.aload_n 0, 1) := by decide +kernel
theorem dX12_shifts_62 : decode cX12_shifts 62 = .ok (.getfield 46, 3) := by decide +kernel
theorem dX12_shifts_65 : decode cX12_shifts 65 = .ok (.iconst 3, 1) := by decide +kernel
theorem dX12_shifts_66 : decode cX12_shifts 66 = .ok (.iload_n 1, 1) := by decide +kernel
theorem dX12_shifts_67 : decode cX12_shifts 67 = .ok (.imul, 1) := by decide +kernel
theorem dX12_shifts_68 : decode cX12_shifts 68 = .ok (.iconst 2, 1) := by decide +kernel
theorem dX12_shifts_69 : decode cX12_shifts 69 = .ok (.iadd, 1) := by decide +kernel
theorem dX12_shifts_70 : decode cX12_shifts 70 = .ok (.iload_n 3, 1) := by decide +kernel
theorem dX12_shifts_71 : decode cX12_shifts 71 = .ok (.iastore, 1) := by decide +kernel
theorem dX12_shifts_72 : decode cX12_shifts 72 = .ok (.aload_n 0, 1) := by decide +kernel
theorem dX12_shifts_73 : decode cX12_shifts 73 = .ok (.aload_n 0, 1) := by decide +kernel
theorem dX12_shifts_74 : decode cX12_shifts 74 = .ok (.getfield 46, 3) := by decide +kernel
theorem dX12_shifts_77 : decode cX12_shifts 77 = .ok (.iload_n 1, 1) := by decide +kernel
theorem dX12_shifts_78 : decode cX12_shifts 78 = .ok (.invokevirtual 369, 3) := by decide +kernel
theorem dX12_shifts_81 : decode cX12_shifts 81 = .ok (.ifCond .le 6, 3) := by decide +kernel
theorem dX12_shifts_84 : decode cX12_shifts 84 = .ok (.bipush (-2), 2) := by decide +kernel
theorem dX12_shifts_86 : decode cX12_shifts 86 = .ok (.ireturn, 1) := by decide +kernel
theorem dX12_shifts_87 : decode cX12_shifts 87 = .ok (.aload_n 0, 1) := by decide +kernel
theorem dX12_shifts_88 : decode cX12_shifts 88 = .ok (.getfield 43, 3) := by decide +kernel
theorem dX12_shifts_91 : decode cX12_shifts 91 = .ok (.iconst 3, 1) := by decide +kernel
theorem dX12_shifts_92 : decode cX12_shifts 92 = .ok (.iload_n 1, 1) := by decide +kernel
theorem dX12_shifts_93 : decode cX12_shifts 93 = .ok (.imul, 1) := by decide +kernel
theorem dX12_shifts_94 : decode cX12_shifts 94 = .ok (.iconst 2, 1) := by decide +kernel
theorem dX12_shifts_95 : decode cX12_shifts 95 = .ok (.iadd, 1) := by decide +kernel
theorem dX12_shifts_96 : decode cX12_shifts 96 = .ok (.iload_n 3, 1) := by decide +kernel
theorem dX12_shifts_97 : decode cX12_shifts 97 = .ok (.iastore, 1) := by decide +kernel
theorem dX12_shifts_98 : decode cX12_shifts 98 = .ok (.iload_n 3, 1) := by decide +kernel
theorem dX12_shifts_99 : decode cX12_shifts 99 = .ok (.ireturn, 1) := by decide +kernel
theorem dX12_shift_0 : decode cX12_shift 0 = .ok (.aload_n 0, 1) := by decide +kernel
theorem dX12_shift_1 : decode cX12_shift 1 = .ok (.iconst 0, 1) := by decide +kernel
theorem dX12_shift_2 : decode cX12_shift 2 = .ok (.putfield 133, 3) := by decide +kernel
theorem dX12_shift_5 : decode cX12_shift 5 = .ok (.aload_n 0, 1) := by decide +kernel
theorem dX12_shift_6 : decode cX12_shift 6 = .ok (.invokevirtual 343, 3) := by decide +kernel
theorem dX12_shift_9 : decode cX12_shift 9 = .ok (.aload_n 0, 1) := by decide +kernel
theorem dX12_shift_10 : decode cX12_shift 10 = .ok (.iload_n 1, 1) := by decide +kernel
theorem dX12_shift_11 : decode cX12_shift 11 = .ok (.iload_n 2, 1) := by decide +kernel
theorem dX12_shift_12 : decode cX12_shift 12 = .ok (.invokevirtual 400, 3) := by decide +kernel
theorem dX12_shift_15 : decode cX12_shift 15 = .ok (.istore_n 3, 1) := by decide +kernel
theorem dX12_shift_16 : decode cX12_shift 16 = .ok (.iload_n 3, 1) := by decide +kernel
theorem dX12_shift_17 : decode cX12_shift 17 = .ok (.ifCond .ge 7, 3) := by decide +kernel
theorem dX12_shift_20 : decode cX12_shift 20 = .ok (.iload_n 3, 1) := by decide +kernel
theorem dX12_shift_21 : decode cX12_shift 21 = .ok (.goto 8, 3) := by decide +kernel
theorem dX12_shift_24 : decode cX12_shift 24 = .ok (.aload_n 0, 1) := by decide +kernel
theorem dX12_shift_25 : decode cX12_shift 25 = .ok (.iload_n 3, 1) := by decide +kernel
theorem dX12_shift_26 : decode cX12_shift 26 = .ok (.invokevirtual 350, 3) := by decide +kernel
theorem dX12_shift_29 : decode cX12_shift 29 = .ok (.ireturn, 1) := by decide +kernel
theorem dX12_readsAct_0 : decode cX12_readsAct 0 = .ok (.aload_n 0, 1) := by decide +kernel
theorem dX12_readsAct_1 : decode cX12_readsAct 1 = .ok (.getfield 403, 3) := by decide +kernel
theorem dX12_readsAct_4 : decode cX12_readsAct 4 = .ok (.istore_n 1, 1) := by decide +kernel
theorem dX12_readsAct_5 : decode cX12_readsAct 5 = .ok (.aload_n 0, 1) := by decide +kernel
theorem dX12_readsAct_6 : decode cX12_readsAct 6 = .ok (.getfield 76, 3) := by decide +kernel
theorem dX12_readsAct_9 : decode cX12_readsAct 9 = .ok (.iload_n 1, 1) := by decide +kernel
theorem dX12_readsAct_10 : decode cX12_readsAct 10 = .ok (.aload_n 0, 1) := by decide +kernel
theorem dX12_readsAct_11 : decode cX12_readsAct 11 = .ok (.ldc_w 406, 3) := by decide +kernel
theorem dX12_readsAct_14 : decode cX12_readsAct 14 = .ok (.invokevirtual 218, 3) := by decide +kernel
theorem dX12_readsAct_17 : decode cX12_readsAct 17 = .ok (.iastore, 1) := by decide +kernel
theorem dX12_readsAct_18 : decode cX12_readsAct 18 = .ok (.aload_n 0, 1) := by decide +kernel
theorem dX12_readsAct_19 : decode cX12_readsAct 19 = .ok (.dup, 1) := by decide +kernel
theorem dX12_readsAct_20 : decode cX12_readsAct 20 = .ok (.getfield 403, 3) := by decide +kernel
theorem dX12_readsAct_23 : decode cX12_readsAct 23 = .ok (.iconst 1, 1) := by decide +kernel
theorem dX12_readsAct_24 : decode cX12_readsAct 24 = .ok (.iadd, 1) := by decide +kernel
theorem dX12_readsAct_25 : decode cX12_readsAct 25 = .ok (.putfield 403, 3) := by decide +kernel
theorem dX12_readsAct_28 : decode cX12_readsAct 28 = .ok (.aload_n 0, 1) := by decide +kernel
theorem dX12_readsAct_29 : decode cX12_readsAct 29 = .ok (.getfield 76, 3) := by decide +kernel
theorem dX12_readsAct_32 : decode cX12_readsAct 32 = .ok (.iload_n 1, 1) := by decide +kernel
theorem dX12_readsAct_33 : decode cX12_readsAct 33 = .ok (.iaload, 1) := by decide +kernel
theorem dX12_readsAct_34 : decode cX12_readsAct 34 = .ok (.ifCond .ge 5, 3) := by decide +kernel
theorem dX12_readsAct_37 : decode cX12_readsAct 37 = .ok (.iconst 0, 1) := by decide +kernel
theorem dX12_readsAct_38 : decode cX12_readsAct 38 = .ok (.ireturn, 1) := by decide +kernel
theorem dX12_readsAct_39 : decode cX12_readsAct 39 = .ok (.aload_n 0, 1) := by decide +kernel
theorem dX12_readsAct_40 : decode cX12_readsAct 40 = .ok (.getfield 79, 3) := by decide +kernel
theorem dX12_readsAct_43 : decode cX12_readsAct 43 = .ok (.iload_n 1, 1) := by decide +kernel
theorem dX12_readsAct_44 : decode cX12_readsAct 44 = .ok (.aload_n 0, 1) := by decide +kernel
theorem dX12_readsAct_45 : decode cX12_readsAct 45 = .ok (.getfield 76, 3) := by decide +kernel
theorem dX12_readsAct_48 : decode cX12_readsAct 48 = .ok (.iload_n 1, 1) := by decide +kernel
theorem dX12_readsAct_49 : decode cX12_readsAct 49 = .ok (.iaload, 1) := by decide +kernel
theorem dX12_readsAct_50 : decode cX12_readsAct 50 = .ok (.ifCond .ne 12, 3) := by decide +kernel
theorem dX12_readsAct_53 : decode cX12_readsAct 53 = .ok (.aload_n 0, 1) := by decide +kernel
theorem dX12_readsAct_54 : decode cX12_readsAct 54 = .ok (.bipush 6, 2) := by decide +kernel
theorem dX12_readsAct_56 : decode cX12_readsAct 56 = .ok (.invokevirtual 333, 3) := by decide +kernel
theorem dX12_readsAct_59 : decode cX12_readsAct 59 = .ok (.goto 8, 3) := by decide +kernel
theorem dX12_readsAct_62 : decode cX12_readsAct 62 = .ok (.aload_n 0, 1) := by decide +kernel
theorem dX12_readsAct_63 : decode cX12_readsAct 63 = .ok (.iconst 2, 1) := by decide +kernel
theorem dX12_readsAct_64 : decode cX12_readsAct 64 = .ok (.invokevirtual 212, 3) := by decide +kernel
theorem dX12_readsAct_67 : decode cX12_readsAct 67 = .ok (.iastore, 1) := by decide +kernel
theorem dX12_readsAct_68 : decode cX12_readsAct 68 = .ok (.aload_n 0, 1) := by decide +kernel
theorem dX12_readsAct_69 : decode cX12_readsAct 69 = .ok (.getfield 79, 3) := by decide +kernel
theorem dX12_readsAct_72 : decode cX12_readsAct 72 = .ok (.iload_n 1, 1) := by decide +kernel
theorem dX12_readsAct_73 : decode cX12_readsAct 73 = .ok (.iaload, 1) := by decide +kernel
theorem dX12_readsAct_74 : decode cX12_readsAct 74 = .ok (.ifCond .lt 13, 3) := by decide +kernel
theorem dX12_readsAct_77 : decode cX12_readsAct 77 = .ok (.aload_n 0, 1) := by decide +kernel
theorem dX12_readsAct_78 : decode cX12_readsAct 78 = .ok (.getfield 76, 3) := by decide +kernel
theorem dX12_readsAct_81 : decode cX12_readsAct 81 = .ok (.iload_n 1, 1) := by decide +kernel
theorem dX12_readsAct_82 : decode cX12_readsAct 82 = .ok (.iaload, 1) := by decide +kernel
theorem dX12_readsAct_83 : decode cX12_readsAct 83 = .ok (.iconst 1, 1) := by decide +kernel
theorem dX12_readsAct_84 : decode cX12_readsAct 84 = .ok (.if_icmp .ne 18, 3) := by decide +kernel
theorem dX12_readsAct_87 : decode cX12_readsAct 87 = .ok (.aload_n 0, 1) := by decide +kernel
theorem dX12_readsAct_88 : decode cX12_readsAct 88 = .ok (.getfield 79, 3) := by decide +kernel
theorem dX12_readsAct_91 : decode cX12_readsAct 91 = .ok (.iload_n 1, 1) := by decide +kernel
theorem dX12_readsAct_92 : decode cX12_readsAct 92 = .ok (.iaload, 1) := by decide +kernel
theorem dX12_readsAct_93 : decode cX12_readsAct 93 = .ok (.ifCond .lt 7, 3) := by decide +kernel
theorem dX12_readsAct_96 : decode cX12_readsAct 96 = .ok (.iconst 1, 1) := by decide +kernel
theorem dX12_readsAct_97 : decode cX12_readsAct 97 = .ok (.goto 4, 3) := by decide +kernel
theorem dX12_readsAct_100 : decode cX12_readsAct 100 = .ok (.iconst 0, 1) := by decide +kernel
theorem dX12_readsAct_101 : decode cX12_readsAct 101 = .ok (.ireturn, 1) := by decide +kernel
theorem dX12_readsAct_102 : decode cX12_readsAct 102 = .ok (.aload_n 0, 1) := by decide +kernel
theorem dX12_readsAct_103 : decode cX12_readsAct 103 = .ok (.getfield 76, 3) := by decide +kernel
theorem dX12_readsAct_106 : decode cX12_readsAct 106 = .ok (.iload_n 1, 1) := by decide +kernel
theorem dX12_readsAct_107 : decode cX12_readsAct 107 = .ok (.iaload, 1) := by decide +kernel
theorem dX12_readsAct_108 : decode cX12_readsAct 108 = .ok (.ifCond .ne 60, 3) := by decide +kernel
theorem dX12_readsAct_111 : decode cX12_readsAct 111 = .ok (.aload_n 0, 1) := by decide +kernel
theorem dX12_readsAct_112 : decode cX12_readsAct 112 = .ok (.getfield 82, 3) := by decide +kernel
theorem dX12_readsAct_115 : decode cX12_readsAct 115 = .ok (.iload_n 1, 1) := by decide +kernel
theorem dX12_readsAct_116 : decode cX12_readsAct 116 = .ok (.aload_n 0, 1) := by decide +kernel
theorem dX12_readsAct_117 : decode cX12_readsAct 117 = .ok (.iconst 1, 1) := by decide +kernel
theorem dX12_readsAct_118 : decode cX12_readsAct 118 = .ok (.invokevirtual 212, 3) := by decide +kernel
theorem dX12_readsAct_121 : decode cX12_readsAct 121 = .ok (.iastore, 1) := by decide +kernel
theorem dX12_readsAct_122 : decode cX12_readsAct 122 = .ok (.aload_n 0, 1) := by decide +kernel
theorem dX12_readsAct_123 : decode cX12_readsAct 123 = .ok (.getfield 82, 3) := by decide +kernel
theorem dX12_readsAct_126 : decode cX12_readsAct 126 = .ok (.iload_n 1, 1) := by decide +kernel
theorem dX12_readsAct_127 : decode cX12_readsAct 127 = .ok (.iaload, 1) := by decide +kernel
theorem dX12_readsAct_128 : decode cX12_readsAct 128 = .ok (.ifCond .lt 12, 3) := by decide +kernel
theorem dX12_readsAct_131 : decode cX12_readsAct 131 = .ok (.aload_n 0, 1) := by decide +kernel
theorem dX12_readsAct_132 : decode cX12_readsAct 132 = .ok (.bipush 64, 2) := by decide +kernel
theorem dX12_readsAct_134 : decode cX12_readsAct 134 = .ok (.invokevirtual 202, 3) := by decide +kernel
theorem dX12_readsAct_137 : decode cX12_readsAct 137 = .ok (.ifCond .ne 5, 3) := by decide +kernel
theorem dX12_readsAct_140 : decode cX12_readsAct 140 = .ok (.iconst 0, 1) := by decide +kernel
theorem dX12_readsAct_141 : decode cX12_readsAct 141 = .ok (.ireturn, 1) := by decide +kernel
theorem dX12_readsAct_142 : decode cX12_readsAct 142 = .ok (.aload_n 0, 1) := by decide +kernel
theorem dX12_readsAct_143 : decode cX12_readsAct 143 = .ok (.getfield 85, 3) := by decide +kernel
theorem dX12_readsAct_146 : decode cX12_readsAct 146 = .ok (.iload_n 1, 1) := by decide +kernel
theorem dX12_readsAct_147 : decode cX12_readsAct 147 = .ok (.aload_n 0, 1) := by decide +kernel
theorem dX12_readsAct_148 : decode cX12_readsAct 148 = .ok (.iconst 2, 1) := by decide +kernel
theorem dX12_readsAct_149 : decode cX12_readsAct 149 = .ok (.invokevirtual 212, 3) := by decide +kernel
theorem dX12_readsAct_152 : decode cX12_readsAct 152 = .ok (.iastore, 1) := by decide +kernel
theorem dX12_readsAct_153 : decode cX12_readsAct 153 = .ok (.aload_n 0, 1) := by decide +kernel
theorem dX12_readsAct_154 : decode cX12_readsAct 154 = .ok (.getfield 85, 3) := by decide +kernel
theorem dX12_readsAct_157 : decode cX12_readsAct 157 = .ok (.iload_n 1, 1) := by decide +kernel
theorem dX12_readsAct_158 : decode cX12_readsAct 158 = .ok (.iaload, 1) := by decide +kernel
theorem dX12_readsAct_159 : decode cX12_readsAct 159 = .ok (.ifCond .lt 7, 3) := by decide +kernel
theorem dX12_readsAct_162 : decode cX12_readsAct 162 = .ok (.iconst 1, 1) := by decide +kernel
theorem dX12_readsAct_163 : decode cX12_readsAct 163 = .ok (.goto 4, 3) := by decide +kernel
theorem dX12_readsAct_166 : decode cX12_readsAct 166 = .ok (.iconst 0, 1) := by decide +kernel
theorem dX12_readsAct_167 : decode cX12_readsAct 167 = .ok (.ireturn, 1) := by decide +kernel
theorem dX12_readsAct_168 : decode cX12_readsAct 168 = .ok (.aload_n 0, 1) := by decide +kernel
theorem dX12_readsAct_169 : decode cX12_readsAct 169 = .ok (.ldc_w 267, 3) := by decide +kernel
theorem dX12_readsAct_172 : decode cX12_readsAct 172 = .ok (.invokevirtual 218, 3) := by decide +kernel
theorem dX12_readsAct_175 : decode cX12_readsAct 175 = .ok (.istore_n 2, 1) := by decide +kernel
theorem dX12_readsAct_176 : decode cX12_readsAct 176 = .ok (.iload_n 2, 1) := by decide +kernel
theorem dX12_readsAct_177 : decode cX12_readsAct 177 = .ok (.ifCond .ge 5, 3) := by decide +kernel
theorem dX12_readsAct_180 : decode cX12_readsAct 180 = .ok (.iconst 0, 1) := by decide +kernel
theorem dX12_readsAct_181 : decode cX12_readsAct 181 = .ok (.ireturn, 1) := by decide +kernel
theorem dX12_readsAct_182 : decode cX12_readsAct 182 = .ok (.aload_n 0, 1) := by decide +kernel
theorem dX12_readsAct_183 : decode cX12_readsAct 183 = .ok (.iconst 2, 1) := by decide +kernel
theorem dX12_readsAct_184 : decode cX12_readsAct 184 = .ok (.invokevirtual 212, 3) := by decide +kernel
theorem dX12_readsAct_187 : decode cX12_readsAct 187 = .ok (.istore_n 3, 1) := by decide +kernel
theorem dX12_readsAct_188 : decode cX12_readsAct 188 = .ok (.aload_n 0, 1) := by decide +kernel
theorem dX12_readsAct_189 : decode cX12_readsAct 189 = .ok (.getfield 82, 3) := by decide +kernel
theorem dX12_readsAct_192 : decode cX12_readsAct 192 = .ok (.iload_n 1, 1) := by decide +kernel
theorem dX12_readsAct_193 : decode cX12_readsAct 193 = .ok (.iload_n 2, 1) := by decide +kernel
theorem dX12_readsAct_194 : decode cX12_readsAct 194 = .ok (.iconst 1, 1) := by decide +kernel
theorem dX12_readsAct_195 : decode cX12_readsAct 195 = .ok (.if_icmp .ne 8, 3) := by decide +kernel
theorem dX12_readsAct_198 : decode cX12_readsAct 198 = .ok (.iload_n 3, 1) := by decide +kernel
theorem dX12_readsAct_199 : decode cX12_readsAct 199 = .ok (.ineg, 1) := by decide +kernel
theorem dX12_readsAct_200 : decode cX12_readsAct 200 = .ok (.goto 4, 3) := by decide +kernel
theorem dX12_readsAct_203 : decode cX12_readsAct 203 = .ok (.iload_n 3, 1) := by decide +kernel
theorem dX12_readsAct_204 : decode cX12_readsAct 204 = .ok (.iastore, 1) := by decide +kernel
theorem dX12_readsAct_205 : decode cX12_readsAct 205 = .ok (.iload_n 3, 1) := by decide +kernel
theorem dX12_readsAct_206 : decode cX12_readsAct 206 = .ok (.ifCond .lt 7, 3) := by decide +kernel
theorem dX12_readsAct_209 : decode cX12_readsAct 209 = .ok (.iconst 1, 1) := by decide +kernel
theorem dX12_readsAct_210 : decode cX12_readsAct 210 = .ok (.goto 4, 3) := by decide +kernel
theorem dX12_readsAct_213 : decode cX12_readsAct 213 = .ok (.iconst 0, 1) := by decide +kernel
theorem dX12_readsAct_214 : decode cX12_readsAct 214 = .ok (.ireturn, 1) := by decide +kernel
theorem dX12_does_0 : decode cX12_does 0 = .ok (.aload_n 0, 1) := by decide +kernel
theorem dX12_does_1 : decode cX12_does 1 = .ok (.getfield 76, 3) := by decide +kernel
theorem dX12_does_4 : decode cX12_does 4 = .ok (.iload_n 1, 1) := by decide +kernel
theorem dX12_does_5 : decode cX12_does 5 = .ok (.iaload, 1) := by decide +kernel
theorem dX12_does_6 : decode cX12_does 6 = .ok (.ifCond .ne 28, 3) := by decide +kernel
theorem dX12_does_9 : decode cX12_does 9 = .ok (.aload_n 0, 1) := by decide +kernel
theorem dX12_does_10 : decode cX12_does 10 = .ok (.aload_n 0, 1) := by decide +kernel
theorem dX12_does_11 : decode cX12_does 11 = .ok (.getfield 79, 3) := by decide +kernel
theorem dX12_does_14 : decode cX12_does 14 = .ok (.iload_n 1, 1) := by decide +kernel
theorem dX12_does_15 : decode cX12_does 15 = .ok (.iaload, 1) := by decide +kernel
theorem dX12_does_16 : decode cX12_does 16 = .ok (.aload_n 0, 1) := by decide +kernel
theorem dX12_does_17 : decode cX12_does 17 = .ok (.getfield 82, 3) := by decide +kernel
theorem dX12_does_20 : decode cX12_does 20 = .ok (.iload_n 1, 1) := by decide +kernel
theorem dX12_does_21 : decode cX12_does 21 = .ok (.iaload, 1) := by decide +kernel
theorem dX12_does_22 : decode cX12_does 22 = .ok (.aload_n 0, 1) := by decide +kernel
theorem dX12_does_23 : decode cX12_does 23 = .ok (.getfield 85, 3) := by decide +kernel
theorem dX12_does_26 : decode cX12_does 26 = .ok (.iload_n 1, 1) := by decide +kernel
theorem dX12_does_27 : decode cX12_does 27 = .ok (.iaload, 1) := by decide +kernel
theorem dX12_does_28 : decode cX12_does 28 = .ok (.invokevirtual 388, 3) := by decide +kernel
theorem dX12_does_31 : decode cX12_does 31 = .ok (.goto 42, 3) := by decide +kernel
theorem dX12_does_34 : decode cX12_does 34 = .ok (.aload_n 0, 1) := by decide +kernel
theorem dX12_does_35 : decode cX12_does 35 = .ok (.getfield 76, 3) := by decide +kernel
theorem dX12_does_38 : decode cX12_does 38 = .ok (.iload_n 1, 1) := by decide +kernel
theorem dX12_does_39 : decode cX12_does 39 = .ok (.iaload, 1) := by decide +kernel
theorem dX12_does_40 : decode cX12_does 40 = .ok (.iconst 1, 1) := by decide +kernel
theorem dX12_does_41 : decode cX12_does 41 = .ok (.if_icmp .ne 16, 3) := by decide +kernel
theorem dX12_does_44 : decode cX12_does 44 = .ok (.aload_n 0, 1) := by decide +kernel
theorem dX12_does_45 : decode cX12_does 45 = .ok (.aload_n 0, 1) := by decide +kernel
theorem dX12_does_46 : decode cX12_does 46 = .ok (.getfield 79, 3) := by decide +kernel
theorem dX12_does_49 : decode cX12_does 49 = .ok (.iload_n 1, 1) := by decide +kernel
theorem dX12_does_50 : decode cX12_does 50 = .ok (.iaload, 1) := by decide +kernel
theorem dX12_does_51 : decode cX12_does 51 = .ok (.invokevirtual 395, 3) := by decide +kernel
theorem dX12_does_54 : decode cX12_does 54 = .ok (.goto 19, 3) := by decide +kernel
theorem dX12_does_57 : decode cX12_does 57 = .ok (.aload_n 0, 1) := by decide +kernel
theorem dX12_does_58 : decode cX12_does 58 = .ok (.aload_n 0, 1) := by decide +kernel
theorem dX12_does_59 : decode cX12_does 59 = .ok (.getfield 79, 3) := by decide +kernel
theorem dX12_does_62 : decode cX12_does 62 = .ok (.iload_n 1, 1) := by decide +kernel
theorem dX12_does_63 : decode cX12_does 63 = .ok (.iaload, 1) := by decide +kernel
theorem dX12_does_64 : decode cX12_does 64 = .ok (.aload_n 0, 1) := by decide +kernel
theorem dX12_does_65 : decode cX12_does 65 = .ok (.getfield 82, 3) := by decide +kernel
theorem dX12_does_68 : decode cX12_does 68 = .ok (.iload_n 1, 1) := by decide +kernel
theorem dX12_does_69 : decode cX12_does 69 = .ok (.iaload, 1) := by decide +kernel
theorem dX12_does_70 : decode cX12_does 70 = .ok (.invokevirtual 400, 3) := by decide +kernel
theorem dX12_does_73 : decode cX12_does 73 = .ok (.istore_n 2, 1) := by decide +kernel
theorem dX12_does_74 : decode cX12_does 74 = .ok (.iload_n 2, 1) := by decide +kernel
theorem dX12_does_75 : decode cX12_does 75 = .ok (.ifCond .lt 7, 3) := by decide +kernel
theorem dX12_does_78 : decode cX12_does 78 = .ok (.iconst 1, 1) := by decide +kernel
theorem dX12_does_79 : decode cX12_does 79 = .ok (.goto 4, 3) := by decide +kernel
theorem dX12_does_82 : decode cX12_does 82 = .ok (.iconst 0, 1) := by decide +kernel
theorem dX12_does_83 : decode cX12_does 83 = .ok (.ireturn, 1) := by decide +kernel
theorem dX12_afternoon_0 : decode cX12_afternoon 0 = .ok (.aload_n 0, 1) := by decide +kernel
theorem dX12_afternoon_1 : decode cX12_afternoon 1 = .ok (.iconst 0, 1) := by decide +kernel
theorem dX12_afternoon_2 : decode cX12_afternoon 2 = .ok (.putfield 133, 3) := by decide +kernel
theorem dX12_afternoon_5 : decode cX12_afternoon 5 = .ok (.aload_n 0, 1) := by decide +kernel
theorem dX12_afternoon_6 : decode cX12_afternoon 6 = .ok (.bipush 60, 2) := by decide +kernel
theorem dX12_afternoon_8 : decode cX12_afternoon 8 = .ok (.invokevirtual 231, 3) := by decide +kernel
theorem dX12_afternoon_11 : decode cX12_afternoon 11 = .ok (.istore_n 1, 1) := by decide +kernel
theorem dX12_afternoon_12 : decode cX12_afternoon 12 = .ok (.aload_n 0, 1) := by decide +kernel
theorem dX12_afternoon_13 : decode cX12_afternoon 13 = .ok (.iconst 0, 1) := by decide +kernel
theorem dX12_afternoon_14 : decode cX12_afternoon 14 = .ok (.putfield 403, 3) := by decide +kernel
theorem dX12_afternoon_17 : decode cX12_afternoon 17 = .ok (.iconst 1, 1) := by decide +kernel
theorem dX12_afternoon_18 : decode cX12_afternoon 18 = .ok (.istore_n 2, 1) := by decide +kernel
theorem dX12_afternoon_19 : decode cX12_afternoon 19 = .ok (.iload_n 1, 1) := by decide +kernel
theorem dX12_afternoon_20 : decode cX12_afternoon 20 = .ok (.ifCond .le 7, 3) := by decide +kernel
theorem dX12_afternoon_23 : decode cX12_afternoon 23 = .ok (.iconst 1, 1) := by decide +kernel
theorem dX12_afternoon_24 : decode cX12_afternoon 24 = .ok (.goto 4, 3) := by decide +kernel
theorem dX12_afternoon_27 : decode cX12_afternoon 27 = .ok (.iconst 0, 1) := by decide +kernel
theorem dX12_afternoon_28 : decode cX12_afternoon 28 = .ok (.istore_n 3, 1) := by decide +kernel
theorem dX12_afternoon_29 : decode cX12_afternoon 29 = .ok (.iload_n 3, 1) := by decide +kernel
theorem dX12_afternoon_30 : decode cX12_afternoon 30 = .ok (.ifCond .eq 30, 3) := by decide +kernel
theorem dX12_afternoon_33 : decode cX12_afternoon 33 = .ok (.aload_n 0, 1) := by decide +kernel
theorem dX12_afternoon_34 : decode cX12_afternoon 34 = .ok (.invokevirtual 408, 3) := by decide +kernel
theorem dX12_afternoon_37 : decode cX12_afternoon 37 = .ok (.istore_n 2, 1) := by decide +kernel
theorem dX12_afternoon_38 : decode cX12_afternoon 38 = .ok (.iload_n 2, 1) := by decide +kernel
theorem dX12_afternoon_39 : decode cX12_afternoon 39 = .ok (.ifCond .eq 16, 3) := by decide +kernel
theorem dX12_afternoon_42 : decode cX12_afternoon 42 = .ok (.aload_n 0, 1) := by decide +kernel
theorem dX12_afternoon_43 : decode cX12_afternoon 43 = .ok (.bipush 59, 2) := by decide +kernel
theorem dX12_afternoon_45 : decode cX12_afternoon 45 = .ok (.invokevirtual 202, 3) := by decide +kernel
theorem dX12_afternoon_48 : decode cX12_afternoon 48 = .ok (.ifCond .eq 7, 3) := by decide +kernel
theorem dX12_afternoon_51 : decode cX12_afternoon 51 = .ok (.iconst 1, 1) := by decide +kernel
theorem dX12_afternoon_52 : decode cX12_afternoon 52 = .ok (.goto 4, 3) := by decide +kernel
theorem dX12_afternoon_55 : decode cX12_afternoon 55 = .ok (.iconst 0, 1) := by decide +kernel
theorem dX12_afternoon_56 : decode cX12_afternoon 56 = .ok (.istore_n 3, 1) := by decide +kernel
theorem dX12_afternoon_57 : decode cX12_afternoon 57 = .ok (.goto (-28), 3) := by decide +kernel
theorem dX12_afternoon_60 : decode cX12_afternoon 60 = .ok (.aload_n 0, 1) := by decide +kernel
theorem dX12_afternoon_61 : decode cX12_afternoon 61 = .ok (.iload_n 1, 1) := by decide +kernel
theorem dX12_afternoon_62 : decode cX12_afternoon 62 = .ok (.bipush 60, 2) := by decide +kernel
theorem dX12_afternoon_64 : decode cX12_afternoon 64 = .ok (.iload_n 2, 1) := by decide +kernel
theorem dX12_afternoon_65 : decode cX12_afternoon 65 = .ok (.invokevirtual 237, 3) := by decide +kernel
theorem dX12_afternoon_68 : decode cX12_afternoon 68 = .ok (.istore 4, 2) := by decide +kernel
theorem dX12_afternoon_70 : decode cX12_afternoon 70 = .ok (.iload 4, 2) := by decide +kernel
theorem dX12_afternoon_72 : decode cX12_afternoon 72 = .ok (.ifCond .ge 6, 3) := by decide +kernel
theorem dX12_afternoon_75 : decode cX12_afternoon 75 = .ok (.iload 4, 2) := by decide +kernel
theorem dX12_afternoon_77 : decode cX12_afternoon 77 = .ok (.ireturn, 1) := by decide +kernel
theorem dX12_afternoon_78 : decode cX12_afternoon 78 = .ok (.aload_n 0, 1) := by decide +kernel
theorem dX12_afternoon_79 : decode cX12_afternoon 79 = .ok (.invokevirtual 343, 3) := by decide +kernel
theorem dX12_afternoon_82 : decode cX12_afternoon 82 = .ok (.iconst 0, 1) := by decide +kernel
theorem dX12_afternoon_83 : decode cX12_afternoon 83 = .ok (.istore 5, 2) := by decide +kernel
theorem dX12_afternoon_85 : decode cX12_afternoon 85 = .ok (.iload 5, 2) := by decide +kernel
theorem dX12_afternoon_87 : decode cX12_afternoon 87 = .ok (.aload_n 0, 1) := by decide +kernel
theorem dX12_afternoon_88 : decode cX12_afternoon 88 = .ok (.getfield 403, 3) := by decide +kernel
theorem dX12_afternoon_91 : decode cX12_afternoon 91 = .ok (.if_icmp .ge 18, 3) := by decide +kernel
theorem dX12_afternoon_94 : decode cX12_afternoon 94 = .ok (.aload_n 0, 1) := by decide +kernel
theorem dX12_afternoon_95 : decode cX12_afternoon 95 = .ok (.iload 5, 2) := by decide +kernel
theorem dX12_afternoon_97 : decode cX12_afternoon 97 = .ok (.invokevirtual 411, 3) := by decide +kernel
theorem dX12_afternoon_100 : decode cX12_afternoon 100 = .ok (.ifCond .eq 9, 3) := by decide +kernel
theorem dX12_afternoon_103 : decode cX12_afternoon 103 = .ok (.iinc 5 1, 3) := by decide +kernel
theorem dX12_afternoon_106 : decode cX12_afternoon 106 = .ok (.goto (-21), 3) := by decide +kernel
theorem dX12_afternoon_109 : decode cX12_afternoon 109 = .ok (.aload_n 0, 1) := by decide +kernel
theorem dX12_afternoon_110 : decode cX12_afternoon 110 = .ok (.iconst 0, 1) := by decide +kernel
theorem dX12_afternoon_111 : decode cX12_afternoon 111 = .ok (.putfield 140, 3) := by decide +kernel
theorem dX12_afternoon_114 : decode cX12_afternoon 114 = .ok (.aload_n 0, 1) := by decide +kernel
theorem dX12_afternoon_115 : decode cX12_afternoon 115 = .ok (.iload 5, 2) := by decide +kernel
theorem dX12_afternoon_117 : decode cX12_afternoon 117 = .ok (.aload_n 0, 1) := by decide +kernel
theorem dX12_afternoon_118 : decode cX12_afternoon 118 = .ok (.getfield 403, 3) := by decide +kernel
theorem dX12_afternoon_121 : decode cX12_afternoon 121 = .ok (.if_icmp .ge 7, 3) := by decide +kernel
theorem dX12_afternoon_124 : decode cX12_afternoon 124 = .ok (.iconst 1, 1) := by decide +kernel
theorem dX12_afternoon_125 : decode cX12_afternoon 125 = .ok (.goto 4, 3) := by decide +kernel
theorem dX12_afternoon_128 : decode cX12_afternoon 128 = .ok (.iconst 0, 1) := by decide +kernel
theorem dX12_afternoon_129 : decode cX12_afternoon 129 = .ok (.invokestatic 171, 3) := by decide +kernel
theorem dX12_afternoon_132 : decode cX12_afternoon 132 = .ok (.i2l, 1) := by decide +kernel
theorem dX12_afternoon_133 : decode cX12_afternoon 133 = .ok (.invokevirtual 414, 3) := by decide +kernel
theorem dX12_afternoon_136 : decode cX12_afternoon 136 = .ok (.aload_n 0, 1) := by decide +kernel
theorem dX12_afternoon_137 : decode cX12_afternoon 137 = .ok (.aload_n 0, 1) := by decide +kernel
theorem dX12_afternoon_138 : decode cX12_afternoon 138 = .ok (.aload_n 0, 1) := by decide +kernel
theorem dX12_afternoon_139 : decode cX12_afternoon 139 = .ok (.getfield 43, 3) := by decide +kernel
theorem dX12_afternoon_142 : decode cX12_afternoon 142 = .ok (.invokevirtual 418, 3) := by decide +kernel
theorem dX12_afternoon_145 : decode cX12_afternoon 145 = .ok (.i2l, 1) := by decide +kernel
theorem dX12_afternoon_146 : decode cX12_afternoon 146 = .ok (.invokevirtual 414, 3) := by decide +kernel
theorem dX12_afternoon_149 : decode cX12_afternoon 149 = .ok (.iload 5, 2) := by decide +kernel
theorem dX12_afternoon_151 : decode cX12_afternoon 151 = .ok (.ifCond .le 12, 3) := by decide +kernel
theorem dX12_afternoon_154 : decode cX12_afternoon 154 = .ok (.aload_n 0, 1) := by decide +kernel
theorem dX12_afternoon_155 : decode cX12_afternoon 155 = .ok (.iload 5, 2) := by decide +kernel
theorem dX12_afternoon_157 : decode cX12_afternoon 157 = .ok (.invokevirtual 350, 3) := by decide +kernel
theorem dX12_afternoon_160 : decode cX12_afternoon 160 = .ok (.goto 4, 3) := by decide +kernel
theorem dX12_afternoon_163 : decode cX12_afternoon 163 = .ok (.iconst 0, 1) := by decide +kernel
theorem dX12_afternoon_164 : decode cX12_afternoon 164 = .ok (.ireturn, 1) := by decide +kernel
theorem dX12_alone_0 : decode cX12_alone 0 = .ok (.aload_n 0, 1) := by decide +kernel
theorem dX12_alone_1 : decode cX12_alone 1 = .ok (.iconst 0, 1) := by decide +kernel
theorem dX12_alone_2 : decode cX12_alone 2 = .ok (.putfield 133, 3) := by decide +kernel
theorem dX12_alone_5 : decode cX12_alone 5 = .ok (.iconst 0, 1) := by decide +kernel
theorem dX12_alone_6 : decode cX12_alone 6 = .ok (.istore_n 1, 1) := by decide +kernel
theorem dX12_alone_7 : decode cX12_alone 7 = .ok (.iconst (-1), 1) := by decide +kernel
theorem dX12_alone_8 : decode cX12_alone 8 = .ok (.istore_n 2, 1) := by decide +kernel
theorem dX12_alone_9 : decode cX12_alone 9 = .ok (.iconst 0, 1) := by decide +kernel
theorem dX12_alone_10 : decode cX12_alone 10 = .ok (.istore_n 3, 1) := by decide +kernel
theorem dX12_alone_11 : decode cX12_alone 11 = .ok (.iconst (-1), 1) := by decide +kernel
theorem dX12_alone_12 : decode cX12_alone 12 = .ok (.istore 4, 2) := by decide +kernel
theorem dX12_alone_14 : decode cX12_alone 14 = .ok (.iconst 0, 1) := by decide +kernel
theorem dX12_alone_15 : decode cX12_alone 15 = .ok (.istore 5, 2) := by decide +kernel
theorem dX12_alone_17 : decode cX12_alone 17 = .ok (.iconst 0, 1) := by decide +kernel
theorem dX12_alone_18 : decode cX12_alone 18 = .ok (.istore 6, 2) := by decide +kernel
theorem dX12_alone_20 : decode cX12_alone 20 = .ok (.iload 6, 2) := by decide +kernel
theorem dX12_alone_22 : decode cX12_alone 22 = .ok (.aload_n 0, 1) := by decide +kernel
theorem dX12_alone_23 : decode cX12_alone 23 = .ok (.getfield 13, 3) := by decide +kernel
theorem dX12_alone_26 : decode cX12_alone 26 = .ok (.if_icmp .ge 86, 3) := by decide +kernel
theorem dX12_alone_29 : decode cX12_alone 29 = .ok (.aload_n 0, 1) := by decide +kernel
theorem dX12_alone_30 : decode cX12_alone 30 = .ok (.aload_n 0, 1) := by decide +kernel
theorem dX12_alone_31 : decode cX12_alone 31 = .ok (.getfield 43, 3) := by decide +kernel
theorem dX12_alone_34 : decode cX12_alone 34 = .ok (.iload 6, 2) := by decide +kernel
theorem dX12_alone_36 : decode cX12_alone 36 = .ok (.invokevirtual 329, 3) := by decide +kernel
theorem dX12_alone_39 : decode cX12_alone 39 = .ok (.ifCond .ne 7, 3) := by decide +kernel
theorem dX12_alone_42 : decode cX12_alone 42 = .ok (.iconst 1, 1) := by decide +kernel
theorem dX12_alone_43 : decode cX12_alone 43 = .ok (.goto 4, 3) := by decide +kernel
theorem dX12_alone_46 : decode cX12_alone 46 = .ok (.iconst 0, 1) := by decide +kernel
theorem dX12_alone_47 : decode cX12_alone 47 = .ok (.istore 7, 2) := by decide +kernel
theorem dX12_alone_49 : decode cX12_alone 49 = .ok (.iload 7, 2) := by decide +kernel
theorem dX12_alone_51 : decode cX12_alone 51 = .ok (.ifCond .eq 10, 3) := by decide +kernel
theorem dX12_alone_54 : decode cX12_alone 54 = .ok (.iload 5, 2) := by decide +kernel
theorem dX12_alone_56 : decode cX12_alone 56 = .ok (.iconst 1, 1) := by decide +kernel
theorem dX12_alone_57 : decode cX12_alone 57 = .ok (.iadd, 1) := by decide +kernel
theorem dX12_alone_58 : decode cX12_alone 58 = .ok (.goto 4, 3) := by decide +kernel
theorem dX12_alone_61 : decode cX12_alone 61 = .ok (.iconst 0, 1) := by decide +kernel
theorem dX12_alone_62 : decode cX12_alone 62 = .ok (.istore 5, 2) := by decide +kernel
theorem dX12_alone_64 : decode cX12_alone 64 = .ok (.iload_n 1, 1) := by decide +kernel
theorem dX12_alone_65 : decode cX12_alone 65 = .ok (.iload 7, 2) := by decide +kernel
theorem dX12_alone_67 : decode cX12_alone 67 = .ok (.invokestatic 171, 3) := by decide +kernel
theorem dX12_alone_70 : decode cX12_alone 70 = .ok (.iadd, 1) := by decide +kernel
theorem dX12_alone_71 : decode cX12_alone 71 = .ok (.istore_n 1, 1) := by decide +kernel
theorem dX12_alone_72 : decode cX12_alone 72 = .ok (.iload 7, 2) := by decide +kernel
theorem dX12_alone_74 : decode cX12_alone 74 = .ok (.ifCond .eq 12, 3) := by decide +kernel
theorem dX12_alone_77 : decode cX12_alone 77 = .ok (.iload_n 2, 1) := by decide +kernel
theorem dX12_alone_78 : decode cX12_alone 78 = .ok (.ifCond .ge 8, 3) := by decide +kernel
theorem dX12_alone_81 : decode cX12_alone 81 = .ok (.iload 6, 2) := by decide +kernel
theorem dX12_alone_83 : decode cX12_alone 83 = .ok (.goto 4, 3) := by decide +kernel
theorem dX12_alone_86 : decode cX12_alone 86 = .ok (.iload_n 2, 1) := by decide +kernel
theorem dX12_alone_87 : decode cX12_alone 87 = .ok (.istore_n 2, 1) := by decide +kernel
theorem dX12_alone_88 : decode cX12_alone 88 = .ok (.iload 5, 2) := by decide +kernel
theorem dX12_alone_90 : decode cX12_alone 90 = .ok (.iload_n 3, 1) := by decide +kernel
theorem dX12_alone_91 : decode cX12_alone 91 = .ok (.if_icmp .le 15, 3) := by decide +kernel
theorem dX12_alone_94 : decode cX12_alone 94 = .ok (.iload 5, 2) := by decide +kernel
theorem dX12_alone_96 : decode cX12_alone 96 = .ok (.istore_n 3, 1) := by decide +kernel
theorem dX12_alone_97 : decode cX12_alone 97 = .ok (.iload 6, 2) := by decide +kernel
theorem dX12_alone_99 : decode cX12_alone 99 = .ok (.iload 5, 2) := by decide +kernel
theorem dX12_alone_101 : decode cX12_alone 101 = .ok (.isub, 1) := by decide +kernel
theorem dX12_alone_102 : decode cX12_alone 102 = .ok (.iconst 1, 1) := by decide +kernel
theorem dX12_alone_103 : decode cX12_alone 103 = .ok (.iadd, 1) := by decide +kernel
theorem dX12_alone_104 : decode cX12_alone 104 = .ok (.istore 4, 2) := by decide +kernel
theorem dX12_alone_106 : decode cX12_alone 106 = .ok (.iinc 6 1, 3) := by decide +kernel
theorem dX12_alone_109 : decode cX12_alone 109 = .ok (.goto (-89), 3) := by decide +kernel
theorem dX12_alone_112 : decode cX12_alone 112 = .ok (.aload_n 0, 1) := by decide +kernel
theorem dX12_alone_113 : decode cX12_alone 113 = .ok (.iconst 0, 1) := by decide +kernel
theorem dX12_alone_114 : decode cX12_alone 114 = .ok (.putfield 140, 3) := by decide +kernel
theorem dX12_alone_117 : decode cX12_alone 117 = .ok (.aload_n 0, 1) := by decide +kernel
theorem dX12_alone_118 : decode cX12_alone 118 = .ok (.iload_n 2, 1) := by decide +kernel
theorem dX12_alone_119 : decode cX12_alone 119 = .ok (.i2l, 1) := by decide +kernel
theorem dX12_alone_120 : decode cX12_alone 120 = .ok (.invokevirtual 414, 3) := by decide +kernel
theorem dX12_alone_123 : decode cX12_alone 123 = .ok (.aload_n 0, 1) := by decide +kernel
theorem dX12_alone_124 : decode cX12_alone 124 = .ok (.iload_n 3, 1) := by decide +kernel
theorem dX12_alone_125 : decode cX12_alone 125 = .ok (.i2l, 1) := by decide +kernel
theorem dX12_alone_126 : decode cX12_alone 126 = .ok (.invokevirtual 414, 3) := by decide +kernel
theorem dX12_alone_129 : decode cX12_alone 129 = .ok (.aload_n 0, 1) := by decide +kernel
theorem dX12_alone_130 : decode cX12_alone 130 = .ok (.iload 4, 2) := by decide +kernel
theorem dX12_alone_132 : decode cX12_alone 132 = .ok (.i2l, 1) := by decide +kernel
theorem dX12_alone_133 : decode cX12_alone 133 = .ok (.invokevirtual 414, 3) := by decide +kernel
theorem dX12_alone_136 : decode cX12_alone 136 = .ok (.iload_n 1, 1) := by decide +kernel
theorem dX12_alone_137 : decode cX12_alone 137 = .ok (.ireturn, 1) := by decide +kernel
theorem dX12_isMinute_0 : decode cX12_isMinute 0 = .ok (.iload_n 1, 1) := by decide +kernel
theorem dX12_isMinute_1 : decode cX12_isMinute 1 = .ok (.i2l, 1) := by decide +kernel
theorem dX12_isMinute_2 : decode cX12_isMinute 2 = .ok (.lconst 0, 1) := by decide +kernel
theorem dX12_isMinute_3 : decode cX12_isMinute 3 = .ok (.aload_n 0, 1) := by decide +kernel
theorem dX12_isMinute_4 : decode cX12_isMinute 4 = .ok (.getfield 13, 3) := by decide +kernel
theorem dX12_isMinute_7 : decode cX12_isMinute 7 = .ok (.iconst 1, 1) := by decide +kernel
theorem dX12_isMinute_8 : decode cX12_isMinute 8 = .ok (.isub, 1) := by decide +kernel
theorem dX12_isMinute_9 : decode cX12_isMinute 9 = .ok (.i2l, 1) := by decide +kernel
theorem dX12_isMinute_10 : decode cX12_isMinute 10 = .ok (.invokestatic 146, 3) := by decide +kernel
theorem dX12_isMinute_13 : decode cX12_isMinute 13 = .ok (.ireturn, 1) := by decide +kernel
theorem dX12_bench_0 : decode cX12_bench 0 = .ok (.aload_n 0, 1) := by decide +kernel
theorem dX12_bench_1 : decode cX12_bench 1 = .ok (.iconst 0, 1) := by decide +kernel
theorem dX12_bench_2 : decode cX12_bench 2 = .ok (.putfield 133, 3) := by decide +kernel
theorem dX12_bench_5 : decode cX12_bench 5 = .ok (.aload_n 0, 1) := by decide +kernel
theorem dX12_bench_6 : decode cX12_bench 6 = .ok (.iload_n 1, 1) := by decide +kernel
theorem dX12_bench_7 : decode cX12_bench 7 = .ok (.invokevirtual 422, 3) := by decide +kernel
theorem dX12_bench_10 : decode cX12_bench 10 = .ok (.ifCond .ne 5, 3) := by decide +kernel
theorem dX12_bench_13 : decode cX12_bench 13 = .ok (.iconst (-1), 1) := by decide +kernel
theorem dX12_bench_14 : decode cX12_bench 14 = .ok (.ireturn, 1) := by decide +kernel
theorem dX12_bench_15 : decode cX12_bench 15 = .ok (.iconst 1, 1) := by decide +kernel
theorem dX12_bench_16 : decode cX12_bench 16 = .ok (.aload_n 0, 1) := by decide +kernel
theorem dX12_bench_17 : decode cX12_bench 17 = .ok (.getfield 143, 3) := by decide +kernel
theorem dX12_bench_20 : decode cX12_bench 20 = .ok (.ishl, 1) := by decide +kernel
theorem dX12_bench_21 : decode cX12_bench 21 = .ok (.iconst 1, 1) := by decide +kernel
theorem dX12_bench_22 : decode cX12_bench 22 = .ok (.isub, 1) := by decide +kernel
theorem dX12_bench_23 : decode cX12_bench 23 = .ok (.aload_n 0, 1) := by decide +kernel
theorem dX12_bench_24 : decode cX12_bench 24 = .ok (.aload_n 0, 1) := by decide +kernel
theorem dX12_bench_25 : decode cX12_bench 25 = .ok (.getfield 43, 3) := by decide +kernel
theorem dX12_bench_28 : decode cX12_bench 28 = .ok (.iload_n 1, 1) := by decide +kernel
theorem dX12_bench_29 : decode cX12_bench 29 = .ok (.invokevirtual 323, 3) := by decide +kernel
theorem dX12_bench_32 : decode cX12_bench 32 = .ok (.iconst (-1), 1) := by decide +kernel
theorem dX12_bench_33 : decode cX12_bench 33 = .ok (.ixor, 1) := by decide +kernel
theorem dX12_bench_34 : decode cX12_bench 34 = .ok (.iand, 1) := by decide +kernel
theorem dX12_bench_35 : decode cX12_bench 35 = .ok (.istore_n 2, 1) := by decide +kernel
theorem dX12_bench_36 : decode cX12_bench 36 = .ok (.iconst 0, 1) := by decide +kernel
theorem dX12_bench_37 : decode cX12_bench 37 = .ok (.istore_n 3, 1) := by decide +kernel
theorem dX12_bench_38 : decode cX12_bench 38 = .ok (.iload_n 3, 1) := by decide +kernel
theorem dX12_bench_39 : decode cX12_bench 39 = .ok (.aload_n 0, 1) := by decide +kernel
theorem dX12_bench_40 : decode cX12_bench 40 = .ok (.getfield 43, 3) := by decide +kernel
theorem dX12_bench_43 : decode cX12_bench 43 = .ok (.bipush 45, 2) := by decide +kernel
theorem dX12_bench_45 : decode cX12_bench 45 = .ok (.iaload, 1) := by decide +kernel
theorem dX12_bench_46 : decode cX12_bench 46 = .ok (.if_icmp .ge 41, 3) := by decide +kernel
theorem dX12_bench_49 : decode cX12_bench 49 = .ok (.iload_n 2, 1) := by decide +kernel
theorem dX12_bench_50 : decode cX12_bench 50 = .ok (.aload_n 0, 1) := by decide +kernel
theorem dX12_bench_51 : decode cX12_bench 51 = .ok (.aload_n 0, 1) := by decide +kernel
theorem dX12_bench_52 : decode cX12_bench 52 = .ok (.getfield 43, 3) := by decide +kernel
theorem dX12_bench_55 : decode cX12_bench 55 = .ok (.iload_n 3, 1) := by decide +kernel
theorem dX12_bench_56 : decode cX12_bench 56 = .ok (.iload_n 1, 1) := by decide +kernel
theorem dX12_bench_57 : decode cX12_bench 57 = .ok (.invokevirtual 320, 3) := by decide +kernel
theorem dX12_bench_60 : decode cX12_bench 60 = .ok (.ifCond .eq 18, 3) := by decide +kernel
theorem dX12_bench_63 : decode cX12_bench 63 = .ok (.iconst 1, 1) := by decide +kernel
theorem dX12_bench_64 : decode cX12_bench 64 = .ok (.aload_n 0, 1) := by decide +kernel
theorem dX12_bench_65 : decode cX12_bench 65 = .ok (.getfield 43, 3) := by decide +kernel
theorem dX12_bench_68 : decode cX12_bench 68 = .ok (.iload_n 3, 1) := by decide +kernel
theorem dX12_bench_69 : decode cX12_bench 69 = .ok (.invokestatic 293, 3) := by decide +kernel
theorem dX12_bench_72 : decode cX12_bench 72 = .ok (.ishl, 1) := by decide +kernel
theorem dX12_bench_73 : decode cX12_bench 73 = .ok (.iconst (-1), 1) := by decide +kernel
theorem dX12_bench_74 : decode cX12_bench 74 = .ok (.ixor, 1) := by decide +kernel
theorem dX12_bench_75 : decode cX12_bench 75 = .ok (.goto 4, 3) := by decide +kernel
theorem dX12_bench_78 : decode cX12_bench 78 = .ok (.iconst (-1), 1) := by decide +kernel
theorem dX12_bench_79 : decode cX12_bench 79 = .ok (.iand, 1) := by decide +kernel
theorem dX12_bench_80 : decode cX12_bench 80 = .ok (.istore_n 2, 1) := by decide +kernel
theorem dX12_bench_81 : decode cX12_bench 81 = .ok (.iinc 3 1, 3) := by decide +kernel
theorem dX12_bench_84 : decode cX12_bench 84 = .ok (.goto (-46), 3) := by decide +kernel
theorem dX12_bench_87 : decode cX12_bench 87 = .ok (.aload_n 0, 1) := by decide +kernel
theorem dX12_bench_88 : decode cX12_bench 88 = .ok (.iconst 0, 1) := by decide +kernel
theorem dX12_bench_89 : decode cX12_bench 89 = .ok (.putfield 140, 3) := by decide +kernel
theorem dX12_bench_92 : decode cX12_bench 92 = .ok (.aload_n 0, 1) := by decide +kernel
theorem dX12_bench_93 : decode cX12_bench 93 = .ok (.aload_n 0, 1) := by decide +kernel
theorem dX12_bench_94 : decode cX12_bench 94 = .ok (.aload_n 0, 1) := by decide +kernel
theorem dX12_bench_95 : decode cX12_bench 95 = .ok (.getfield 43, 3) := by decide +kernel
theorem dX12_bench_98 : decode cX12_bench 98 = .ok (.iload_n 1, 1) := by decide +kernel
theorem dX12_bench_99 : decode cX12_bench 99 = .ok (.invokevirtual 326, 3) := by decide +kernel
theorem dX12_bench_102 : decode cX12_bench 102 = .ok (.i2l, 1) := by decide +kernel
theorem dX12_bench_103 : decode cX12_bench 103 = .ok (.invokevirtual 414, 3) := by decide +kernel
theorem dX12_bench_106 : decode cX12_bench 106 = .ok (.aload_n 0, 1) := by decide +kernel
theorem dX12_bench_107 : decode cX12_bench 107 = .ok (.iload_n 2, 1) := by decide +kernel
theorem dX12_bench_108 : decode cX12_bench 108 = .ok (.i2l, 1) := by decide +kernel
theorem dX12_bench_109 : decode cX12_bench 109 = .ok (.invokevirtual 414, 3) := by decide +kernel
theorem dX12_bench_112 : decode cX12_bench 112 = .ok (.aload_n 0, 1) := by decide +kernel
theorem dX12_bench_113 : decode cX12_bench 113 = .ok (.aload_n 0, 1) := by decide +kernel
theorem dX12_bench_114 : decode cX12_bench 114 = .ok (.getfield 43, 3) := by decide +kernel
theorem dX12_bench_117 : decode cX12_bench 117 = .ok (.iload_n 1, 1) := by decide +kernel
theorem dX12_bench_118 : decode cX12_bench 118 = .ok (.invokevirtual 323, 3) := by decide +kernel
theorem dX12_bench_121 : decode cX12_bench 121 = .ok (.ireturn, 1) := by decide +kernel
theorem dX12_worth_0 : decode cX12_worth 0 = .ok (.aload_n 0, 1) := by decide +kernel
theorem dX12_worth_1 : decode cX12_worth 1 = .ok (.iconst 0, 1) := by decide +kernel
theorem dX12_worth_2 : decode cX12_worth 2 = .ok (.putfield 133, 3) := by decide +kernel
theorem dX12_worth_5 : decode cX12_worth 5 = .ok (.iconst 0, 1) := by decide +kernel
theorem dX12_worth_6 : decode cX12_worth 6 = .ok (.istore_n 1, 1) := by decide +kernel
theorem dX12_worth_7 : decode cX12_worth 7 = .ok (.iconst (-1), 1) := by decide +kernel
theorem dX12_worth_8 : decode cX12_worth 8 = .ok (.istore_n 2, 1) := by decide +kernel
theorem dX12_worth_9 : decode cX12_worth 9 = .ok (.iconst 0, 1) := by decide +kernel
theorem dX12_worth_10 : decode cX12_worth 10 = .ok (.istore_n 3, 1) := by decide +kernel
theorem dX12_worth_11 : decode cX12_worth 11 = .ok (.iload_n 3, 1) := by decide +kernel
theorem dX12_worth_12 : decode cX12_worth 12 = .ok (.aload_n 0, 1) := by decide +kernel
theorem dX12_worth_13 : decode cX12_worth 13 = .ok (.getfield 43, 3) := by decide +kernel
theorem dX12_worth_16 : decode cX12_worth 16 = .ok (.bipush 45, 2) := by decide +kernel
theorem dX12_worth_18 : decode cX12_worth 18 = .ok (.iaload, 1) := by decide +kernel
theorem dX12_worth_19 : decode cX12_worth 19 = .ok (.if_icmp .ge 34, 3) := by decide +kernel
theorem dX12_worth_22 : decode cX12_worth 22 = .ok (.aload_n 0, 1) := by decide +kernel
theorem dX12_worth_23 : decode cX12_worth 23 = .ok (.aload_n 0, 1) := by decide +kernel
theorem dX12_worth_24 : decode cX12_worth 24 = .ok (.getfield 43, 3) := by decide +kernel
theorem dX12_worth_27 : decode cX12_worth 27 = .ok (.iload_n 3, 1) := by decide +kernel
theorem dX12_worth_28 : decode cX12_worth 28 = .ok (.invokevirtual 369, 3) := by decide +kernel
theorem dX12_worth_31 : decode cX12_worth 31 = .ok (.ifCond .le 16, 3) := by decide +kernel
theorem dX12_worth_34 : decode cX12_worth 34 = .ok (.iload_n 2, 1) := by decide +kernel
theorem dX12_worth_35 : decode cX12_worth 35 = .ok (.ifCond .ge 7, 3) := by decide +kernel
theorem dX12_worth_38 : decode cX12_worth 38 = .ok (.iload_n 3, 1) := by decide +kernel
theorem dX12_worth_39 : decode cX12_worth 39 = .ok (.goto 4, 3) := by decide +kernel
theorem dX12_worth_42 : decode cX12_worth 42 = .ok (.iload_n 2, 1) := by decide +kernel
theorem dX12_worth_43 : decode cX12_worth 43 = .ok (.istore_n 2, 1) := by decide +kernel
theorem dX12_worth_44 : decode cX12_worth 44 = .ok (.iinc 1 1, 3) := by decide +kernel
theorem dX12_worth_47 : decode cX12_worth 47 = .ok (.iinc 3 1, 3) := by decide +kernel
theorem dX12_worth_50 : decode cX12_worth 50 = .ok (.goto (-39), 3) := by decide +kernel
theorem dX12_worth_53 : decode cX12_worth 53 = .ok (.aload_n 0, 1) := by decide +kernel
theorem dX12_worth_54 : decode cX12_worth 54 = .ok (.iconst 0, 1) := by decide +kernel
theorem dX12_worth_55 : decode cX12_worth 55 = .ok (.putfield 140, 3) := by decide +kernel
theorem dX12_worth_58 : decode cX12_worth 58 = .ok (.aload_n 0, 1) := by decide +kernel
theorem dX12_worth_59 : decode cX12_worth 59 = .ok (.iload_n 1, 1) := by decide +kernel
theorem dX12_worth_60 : decode cX12_worth 60 = .ok (.i2l, 1) := by decide +kernel
theorem dX12_worth_61 : decode cX12_worth 61 = .ok (.invokevirtual 414, 3) := by decide +kernel
theorem dX12_worth_64 : decode cX12_worth 64 = .ok (.aload_n 0, 1) := by decide +kernel
theorem dX12_worth_65 : decode cX12_worth 65 = .ok (.iload_n 2, 1) := by decide +kernel
theorem dX12_worth_66 : decode cX12_worth 66 = .ok (.i2l, 1) := by decide +kernel
theorem dX12_worth_67 : decode cX12_worth 67 = .ok (.invokevirtual 414, 3) := by decide +kernel
theorem dX12_worth_70 : decode cX12_worth 70 = .ok (.aload_n 0, 1) := by decide +kernel
theorem dX12_worth_71 : decode cX12_worth 71 = .ok (.aload_n 0, 1) := by decide +kernel
theorem dX12_worth_72 : decode cX12_worth 72 = .ok (.getfield 43, 3) := by decide +kernel
theorem dX12_worth_75 : decode cX12_worth 75 = .ok (.invokevirtual 418, 3) := by decide +kernel
theorem dX12_worth_78 : decode cX12_worth 78 = .ok (.ireturn, 1) := by decide +kernel
theorem dX12_benchLong_0 : decode cX12_benchLong 0 = .ok (.iconst 0, 1) := by decide +kernel
theorem dX12_benchLong_1 : decode cX12_benchLong 1 = .ok (.istore_n 2, 1) := by decide +kernel
theorem dX12_benchLong_2 : decode cX12_benchLong 2 = .ok (.iconst 0, 1) := by decide +kernel
theorem dX12_benchLong_3 : decode cX12_benchLong 3 = .ok (.istore_n 3, 1) := by decide +kernel
theorem dX12_benchLong_4 : decode cX12_benchLong 4 = .ok (.iload_n 3, 1) := by decide +kernel
theorem dX12_benchLong_5 : decode cX12_benchLong 5 = .ok (.aload_n 0, 1) := by decide +kernel
theorem dX12_benchLong_6 : decode cX12_benchLong 6 = .ok (.getfield 13, 3) := by decide +kernel
theorem dX12_benchLong_9 : decode cX12_benchLong 9 = .ok (.if_icmp .ge 28, 3) := by decide +kernel
theorem dX12_benchLong_12 : decode cX12_benchLong 12 = .ok (.iload_n 2, 1) := by decide +kernel
theorem dX12_benchLong_13 : decode cX12_benchLong 13 = .ok (.aload_n 0, 1) := by decide +kernel
theorem dX12_benchLong_14 : decode cX12_benchLong 14 = .ok (.aload_n 0, 1) := by decide +kernel
theorem dX12_benchLong_15 : decode cX12_benchLong 15 = .ok (.getfield 43, 3) := by decide +kernel
theorem dX12_benchLong_18 : decode cX12_benchLong 18 = .ok (.iload_n 3, 1) := by decide +kernel
theorem dX12_benchLong_19 : decode cX12_benchLong 19 = .ok (.invokevirtual 323, 3) := by decide +kernel
theorem dX12_benchLong_22 : decode cX12_benchLong 22 = .ok (.iload_n 1, 1) := by decide +kernel
theorem dX12_benchLong_23 : decode cX12_benchLong 23 = .ok (.invokestatic 358, 3) := by decide +kernel
theorem dX12_benchLong_26 : decode cX12_benchLong 26 = .ok (.invokestatic 171, 3) := by decide +kernel
theorem dX12_benchLong_29 : decode cX12_benchLong 29 = .ok (.iadd, 1) := by decide +kernel
theorem dX12_benchLong_30 : decode cX12_benchLong 30 = .ok (.istore_n 2, 1) := by decide +kernel
theorem dX12_benchLong_31 : decode cX12_benchLong 31 = .ok (.iinc 3 1, 3) := by decide +kernel
theorem dX12_benchLong_34 : decode cX12_benchLong 34 = .ok (.goto (-30), 3) := by decide +kernel
theorem dX12_benchLong_37 : decode cX12_benchLong 37 = .ok (.iload_n 2, 1) := by decide +kernel
theorem dX12_benchLong_38 : decode cX12_benchLong 38 = .ok (.ireturn, 1) := by decide +kernel
theorem dX12_stays_0 : decode cX12_stays 0 = .ok (.aload_n 0, 1) := by decide +kernel
theorem dX12_stays_1 : decode cX12_stays 1 = .ok (.iconst 0, 1) := by decide +kernel
theorem dX12_stays_2 : decode cX12_stays 2 = .ok (.putfield 133, 3) := by decide +kernel
theorem dX12_stays_5 : decode cX12_stays 5 = .ok (.aload_n 0, 1) := by decide +kernel
theorem dX12_stays_6 : decode cX12_stays 6 = .ok (.getfield 143, 3) := by decide +kernel
theorem dX12_stays_9 : decode cX12_stays 9 = .ok (.ifCond .ne 6, 3) := by decide +kernel
theorem dX12_stays_12 : decode cX12_stays 12 = .ok (.bipush (-2), 2) := by decide +kernel
theorem dX12_stays_14 : decode cX12_stays 14 = .ok (.ireturn, 1) := by decide +kernel
theorem dX12_stays_15 : decode cX12_stays 15 = .ok (.iconst 0, 1) := by decide +kernel
theorem dX12_stays_16 : decode cX12_stays 16 = .ok (.istore_n 1, 1) := by decide +kernel
theorem dX12_stays_17 : decode cX12_stays 17 = .ok (.iconst 0, 1) := by decide +kernel
theorem dX12_stays_18 : decode cX12_stays 18 = .ok (.istore_n 2, 1) := by decide +kernel
theorem dX12_stays_19 : decode cX12_stays 19 = .ok (.iconst 1, 1) := by decide +kernel
theorem dX12_stays_20 : decode cX12_stays 20 = .ok (.istore_n 3, 1) := by decide +kernel
theorem dX12_stays_21 : decode cX12_stays 21 = .ok (.iload_n 3, 1) := by decide +kernel
theorem dX12_stays_22 : decode cX12_stays 22 = .ok (.aload_n 0, 1) := by decide +kernel
theorem dX12_stays_23 : decode cX12_stays 23 = .ok (.getfield 143, 3) := by decide +kernel
theorem dX12_stays_26 : decode cX12_stays 26 = .ok (.if_icmp .ge 47, 3) := by decide +kernel
theorem dX12_stays_29 : decode cX12_stays 29 = .ok (.aload_n 0, 1) := by decide +kernel
theorem dX12_stays_30 : decode cX12_stays 30 = .ok (.iload_n 3, 1) := by decide +kernel
theorem dX12_stays_31 : decode cX12_stays 31 = .ok (.invokevirtual 425, 3) := by decide +kernel
theorem dX12_stays_34 : decode cX12_stays 34 = .ok (.aload_n 0, 1) := by decide +kernel
theorem dX12_stays_35 : decode cX12_stays 35 = .ok (.iload_n 1, 1) := by decide +kernel
theorem dX12_stays_36 : decode cX12_stays 36 = .ok (.invokevirtual 425, 3) := by decide +kernel
theorem dX12_stays_39 : decode cX12_stays 39 = .ok (.if_icmp .le 7, 3) := by decide +kernel
theorem dX12_stays_42 : decode cX12_stays 42 = .ok (.iload_n 3, 1) := by decide +kernel
theorem dX12_stays_43 : decode cX12_stays 43 = .ok (.goto 4, 3) := by decide +kernel
theorem dX12_stays_46 : decode cX12_stays 46 = .ok (.iload_n 1, 1) := by decide +kernel
theorem dX12_stays_47 : decode cX12_stays 47 = .ok (.istore_n 1, 1) := by decide +kernel
theorem dX12_stays_48 : decode cX12_stays 48 = .ok (.aload_n 0, 1) := by decide +kernel
theorem dX12_stays_49 : decode cX12_stays 49 = .ok (.iload_n 3, 1) := by decide +kernel
theorem dX12_stays_50 : decode cX12_stays 50 = .ok (.invokevirtual 425, 3) := by decide +kernel
theorem dX12_stays_53 : decode cX12_stays 53 = .ok (.aload_n 0, 1) := by decide +kernel
theorem dX12_stays_54 : decode cX12_stays 54 = .ok (.iload_n 2, 1) := by decide +kernel
theorem dX12_stays_55 : decode cX12_stays 55 = .ok (.invokevirtual 425, 3) := by decide +kernel
theorem dX12_stays_58 : decode cX12_stays 58 = .ok (.if_icmp .ge 7, 3) := by decide +kernel
theorem dX12_stays_61 : decode cX12_stays 61 = .ok (.iload_n 3, 1) := by decide +kernel
theorem dX12_stays_62 : decode cX12_stays 62 = .ok (.goto 4, 3) := by decide +kernel
theorem dX12_stays_65 : decode cX12_stays 65 = .ok (.iload_n 2, 1) := by decide +kernel
theorem dX12_stays_66 : decode cX12_stays 66 = .ok (.istore_n 2, 1) := by decide +kernel
theorem dX12_stays_67 : decode cX12_stays 67 = .ok (.iinc 3 1, 3) := by decide +kernel
theorem dX12_stays_70 : decode cX12_stays 70 = .ok (.goto (-49), 3) := by decide +kernel
theorem dX12_stays_73 : decode cX12_stays 73 = .ok (.aload_n 0, 1) := by decide +kernel
theorem dX12_stays_74 : decode cX12_stays 74 = .ok (.iconst 0, 1) := by decide +kernel
theorem dX12_stays_75 : decode cX12_stays 75 = .ok (.putfield 140, 3) := by decide +kernel
theorem dX12_stays_78 : decode cX12_stays 78 = .ok (.aload_n 0, 1) := by decide +kernel
theorem dX12_stays_79 : decode cX12_stays 79 = .ok (.aload_n 0, 1) := by decide +kernel
theorem dX12_stays_80 : decode cX12_stays 80 = .ok (.iload_n 1, 1) := by decide +kernel
theorem dX12_stays_81 : decode cX12_stays 81 = .ok (.invokevirtual 425, 3) := by decide +kernel
theorem dX12_stays_84 : decode cX12_stays 84 = .ok (.i2l, 1) := by decide +kernel
theorem dX12_stays_85 : decode cX12_stays 85 = .ok (.invokevirtual 414, 3) := by decide +kernel
theorem dX12_stays_88 : decode cX12_stays 88 = .ok (.aload_n 0, 1) := by decide +kernel
theorem dX12_stays_89 : decode cX12_stays 89 = .ok (.iload_n 2, 1) := by decide +kernel
theorem dX12_stays_90 : decode cX12_stays 90 = .ok (.i2l, 1) := by decide +kernel
theorem dX12_stays_91 : decode cX12_stays 91 = .ok (.invokevirtual 414, 3) := by decide +kernel
theorem dX12_stays_94 : decode cX12_stays 94 = .ok (.aload_n 0, 1) := by decide +kernel
theorem dX12_stays_95 : decode cX12_stays 95 = .ok (.aload_n 0, 1) := by decide +kernel
theorem dX12_stays_96 : decode cX12_stays 96 = .ok (.iload_n 2, 1) := by decide +kernel
theorem dX12_stays_97 : decode cX12_stays 97 = .ok (.invokevirtual 425, 3) := by decide +kernel
theorem dX12_stays_100 : decode cX12_stays 100 = .ok (.i2l, 1) := by decide +kernel
theorem dX12_stays_101 : decode cX12_stays 101 = .ok (.invokevirtual 414, 3) := by decide +kernel
theorem dX12_stays_104 : decode cX12_stays 104 = .ok (.iload_n 1, 1) := by decide +kernel
theorem dX12_stays_105 : decode cX12_stays 105 = .ok (.ireturn, 1) := by decide +kernel
theorem dX12_stuck_0 : decode cX12_stuck 0 = .ok (.aload_n 0, 1) := by decide +kernel
theorem dX12_stuck_1 : decode cX12_stuck 1 = .ok (.iconst 0, 1) := by decide +kernel
theorem dX12_stuck_2 : decode cX12_stuck 2 = .ok (.putfield 133, 3) := by decide +kernel
theorem dX12_stuck_5 : decode cX12_stuck 5 = .ok (.iconst 0, 1) := by decide +kernel
theorem dX12_stuck_6 : decode cX12_stuck 6 = .ok (.istore_n 1, 1) := by decide +kernel
theorem dX12_stuck_7 : decode cX12_stuck 7 = .ok (.iconst (-1), 1) := by decide +kernel
theorem dX12_stuck_8 : decode cX12_stuck 8 = .ok (.istore_n 2, 1) := by decide +kernel
theorem dX12_stuck_9 : decode cX12_stuck 9 = .ok (.iconst (-1), 1) := by decide +kernel
theorem dX12_stuck_10 : decode cX12_stuck 10 = .ok (.istore_n 3, 1) := by decide +kernel
theorem dX12_stuck_11 : decode cX12_stuck 11 = .ok (.iconst (-1), 1) := by decide +kernel
theorem dX12_stuck_12 : decode cX12_stuck 12 = .ok (.istore 4, 2) := by decide +kernel
theorem dX12_stuck_14 : decode cX12_stuck 14 = .ok (.iconst 0, 1) := by decide +kernel
theorem dX12_stuck_15 : decode cX12_stuck 15 = .ok (.istore 5, 2) := by decide +kernel
theorem dX12_stuck_17 : decode cX12_stuck 17 = .ok (.iconst 0, 1) := by decide +kernel
theorem dX12_stuck_18 : decode cX12_stuck 18 = .ok (.istore 6, 2) := by decide +kernel
theorem dX12_stuck_20 : decode cX12_stuck 20 = .ok (.iload 6, 2) := by decide +kernel
theorem dX12_stuck_22 : decode cX12_stuck 22 = .ok (.aload_n 0, 1) := by decide +kernel
theorem dX12_stuck_23 : decode cX12_stuck 23 = .ok (.getfield 13, 3) := by decide +kernel
theorem dX12_stuck_26 : decode cX12_stuck 26 = .ok (.if_icmp .ge 91, 3) := by decide +kernel
theorem dX12_stuck_29 : decode cX12_stuck 29 = .ok (.aload_n 0, 1) := by decide +kernel
theorem dX12_stuck_30 : decode cX12_stuck 30 = .ok (.aload_n 0, 1) := by decide +kernel
theorem dX12_stuck_31 : decode cX12_stuck 31 = .ok (.getfield 43, 3) := by decide +kernel
theorem dX12_stuck_34 : decode cX12_stuck 34 = .ok (.iload 6, 2) := by decide +kernel
theorem dX12_stuck_36 : decode cX12_stuck 36 = .ok (.invokevirtual 323, 3) := by decide +kernel
theorem dX12_stuck_39 : decode cX12_stuck 39 = .ok (.istore 7, 2) := by decide +kernel
theorem dX12_stuck_41 : decode cX12_stuck 41 = .ok (.iload 7, 2) := by decide +kernel
theorem dX12_stuck_43 : decode cX12_stuck 43 = .ok (.invokestatic 428, 3) := by decide +kernel
theorem dX12_stuck_46 : decode cX12_stuck 46 = .ok (.iconst 1, 1) := by decide +kernel
theorem dX12_stuck_47 : decode cX12_stuck 47 = .ok (.if_icmp .ne 11, 3) := by decide +kernel
theorem dX12_stuck_50 : decode cX12_stuck 50 = .ok (.iload 7, 2) := by decide +kernel
theorem dX12_stuck_52 : decode cX12_stuck 52 = .ok (.invokestatic 433, 3) := by decide +kernel
theorem dX12_stuck_55 : decode cX12_stuck 55 = .ok (.goto 4, 3) := by decide +kernel
theorem dX12_stuck_58 : decode cX12_stuck 58 = .ok (.iconst (-1), 1) := by decide +kernel
theorem dX12_stuck_59 : decode cX12_stuck 59 = .ok (.istore 8, 2) := by decide +kernel
theorem dX12_stuck_61 : decode cX12_stuck 61 = .ok (.iload 8, 2) := by decide +kernel
theorem dX12_stuck_63 : decode cX12_stuck 63 = .ok (.ifCond .ge 7, 3) := by decide +kernel
theorem dX12_stuck_66 : decode cX12_stuck 66 = .ok (.iconst 0, 1) := by decide +kernel
theorem dX12_stuck_67 : decode cX12_stuck 67 = .ok (.goto 18, 3) := by decide +kernel
theorem dX12_stuck_70 : decode cX12_stuck 70 = .ok (.iload 8, 2) := by decide +kernel
theorem dX12_stuck_72 : decode cX12_stuck 72 = .ok (.iload 4, 2) := by decide +kernel
theorem dX12_stuck_74 : decode cX12_stuck 74 = .ok (.if_icmp .ne 10, 3) := by decide +kernel
theorem dX12_stuck_77 : decode cX12_stuck 77 = .ok (.iload 5, 2) := by decide +kernel
theorem dX12_stuck_79 : decode cX12_stuck 79 = .ok (.iconst 1, 1) := by decide +kernel
theorem dX12_stuck_80 : decode cX12_stuck 80 = .ok (.iadd, 1) := by decide +kernel
theorem dX12_stuck_81 : decode cX12_stuck 81 = .ok (.goto 4, 3) := by decide +kernel
theorem dX12_stuck_84 : decode cX12_stuck 84 = .ok (.iconst 1, 1) := by decide +kernel
theorem dX12_stuck_85 : decode cX12_stuck 85 = .ok (.istore 5, 2) := by decide +kernel
theorem dX12_stuck_87 : decode cX12_stuck 87 = .ok (.iload 8, 2) := by decide +kernel
theorem dX12_stuck_89 : decode cX12_stuck 89 = .ok (.istore 4, 2) := by decide +kernel
theorem dX12_stuck_91 : decode cX12_stuck 91 = .ok (.iload 5, 2) := by decide +kernel
theorem dX12_stuck_93 : decode cX12_stuck 93 = .ok (.iload_n 1, 1) := by decide +kernel
theorem dX12_stuck_94 : decode cX12_stuck 94 = .ok (.if_icmp .le 17, 3) := by decide +kernel
theorem dX12_stuck_97 : decode cX12_stuck 97 = .ok (.iload 5, 2) := by decide +kernel
theorem dX12_stuck_99 : decode cX12_stuck 99 = .ok (.istore_n 1, 1) := by decide +kernel
theorem dX12_stuck_100 : decode cX12_stuck 100 = .ok (.iload 8, 2) := by decide +kernel
theorem dX12_stuck_102 : decode cX12_stuck 102 = .ok (.istore_n 2, 1) := by decide +kernel
theorem dX12_stuck_103 : decode cX12_stuck 103 = .ok (.iload 6, 2) := by decide +kernel
theorem dX12_stuck_105 : decode cX12_stuck 105 = .ok (.iload 5, 2) := by decide +kernel
theorem dX12_stuck_107 : decode cX12_stuck 107 = .ok (.isub, 1) := by decide +kernel
theorem dX12_stuck_108 : decode cX12_stuck 108 = .ok (.iconst 1, 1) := by decide +kernel
theorem dX12_stuck_109 : decode cX12_stuck 109 = .ok (.iadd, 1) := by decide +kernel
theorem dX12_stuck_110 : decode cX12_stuck 110 = .ok (.istore_n 3, 1) := by decide +kernel
theorem dX12_stuck_111 : decode cX12_stuck 111 = .ok (.iinc 6 1, 3) := by decide +kernel
theorem dX12_stuck_114 : decode cX12_stuck 114 = .ok (.goto (-94), 3) := by decide +kernel
theorem dX12_stuck_117 : decode cX12_stuck 117 = .ok (.aload_n 0, 1) := by decide +kernel
theorem dX12_stuck_118 : decode cX12_stuck 118 = .ok (.iconst 0, 1) := by decide +kernel
theorem dX12_stuck_119 : decode cX12_stuck 119 = .ok (.putfield 140, 3) := by decide +kernel
theorem dX12_stuck_122 : decode cX12_stuck 122 = .ok (.aload_n 0, 1) := by decide +kernel
theorem dX12_stuck_123 : decode cX12_stuck 123 = .ok (.iload_n 2, 1) := by decide +kernel
theorem dX12_stuck_124 : decode cX12_stuck 124 = .ok (.i2l, 1) := by decide +kernel
theorem dX12_stuck_125 : decode cX12_stuck 125 = .ok (.invokevirtual 414, 3) := by decide +kernel
theorem dX12_stuck_128 : decode cX12_stuck 128 = .ok (.aload_n 0, 1) := by decide +kernel
theorem dX12_stuck_129 : decode cX12_stuck 129 = .ok (.iload_n 3, 1) := by decide +kernel
theorem dX12_stuck_130 : decode cX12_stuck 130 = .ok (.i2l, 1) := by decide +kernel
theorem dX12_stuck_131 : decode cX12_stuck 131 = .ok (.invokevirtual 414, 3) := by decide +kernel
theorem dX12_stuck_134 : decode cX12_stuck 134 = .ok (.iload_n 1, 1) := by decide +kernel
theorem dX12_stuck_135 : decode cX12_stuck 135 = .ok (.ireturn, 1) := by decide +kernel
theorem dX12_hands_0 : decode cX12_hands 0 = .ok (.aload_n 0, 1) := by decide +kernel
theorem dX12_hands_1 : decode cX12_hands 1 = .ok (.iconst 0, 1) := by decide +kernel
theorem dX12_hands_2 : decode cX12_hands 2 = .ok (.putfield 133, 3) := by decide +kernel
theorem dX12_hands_5 : decode cX12_hands 5 = .ok (.iload_n 1, 1) := by decide +kernel
theorem dX12_hands_6 : decode cX12_hands 6 = .ok (.i2l, 1) := by decide +kernel
theorem dX12_hands_7 : decode cX12_hands 7 = .ok (.lconst 1, 1) := by decide +kernel
theorem dX12_hands_8 : decode cX12_hands 8 = .ok (.ldc2_w 436, 3) := by decide +kernel
theorem dX12_hands_11 : decode cX12_hands 11 = .ok (.invokestatic 146, 3) := by decide +kernel
theorem dX12_hands_14 : decode cX12_hands 14 = .ok (.ifCond .eq 11, 3) := by decide +kernel
theorem dX12_hands_17 : decode cX12_hands 17 = .ok (.aload_n 0, 1) := by decide +kernel
theorem dX12_hands_18 : decode cX12_hands 18 = .ok (.iload_n 2, 1) := by decide +kernel
theorem dX12_hands_19 : decode cX12_hands 19 = .ok (.invokevirtual 422, 3) := by decide +kernel
theorem dX12_hands_22 : decode cX12_hands 22 = .ok (.ifCond .ne 5, 3) := by decide +kernel
theorem dX12_hands_25 : decode cX12_hands 25 = .ok (.iconst (-1), 1) := by decide +kernel
theorem dX12_hands_26 : decode cX12_hands 26 = .ok (.ireturn, 1) := by decide +kernel
theorem dX12_hands_27 : decode cX12_hands 27 = .ok (.iconst 0, 1) := by decide +kernel
theorem dX12_hands_28 : decode cX12_hands 28 = .ok (.istore_n 3, 1) := by decide +kernel
theorem dX12_hands_29 : decode cX12_hands 29 = .ok (.iload_n 3, 1) := by decide +kernel
theorem dX12_hands_30 : decode cX12_hands 30 = .ok (.aload_n 0, 1) := by decide +kernel
theorem dX12_hands_31 : decode cX12_hands 31 = .ok (.getfield 43, 3) := by decide +kernel
theorem dX12_hands_34 : decode cX12_hands 34 = .ok (.bipush 45, 2) := by decide +kernel
theorem dX12_hands_36 : decode cX12_hands 36 = .ok (.iaload, 1) := by decide +kernel
theorem dX12_hands_37 : decode cX12_hands 37 = .ok (.if_icmp .ge 48, 3) := by decide +kernel
theorem dX12_hands_40 : decode cX12_hands 40 = .ok (.aload_n 0, 1) := by decide +kernel
theorem dX12_hands_41 : decode cX12_hands 41 = .ok (.getfield 37, 3) := by decide +kernel
theorem dX12_hands_44 : decode cX12_hands 44 = .ok (.aload_n 0, 1) := by decide +kernel
theorem dX12_hands_45 : decode cX12_hands 45 = .ok (.getfield 43, 3) := by decide +kernel
theorem dX12_hands_48 : decode cX12_hands 48 = .ok (.iload_n 3, 1) := by decide +kernel
theorem dX12_hands_49 : decode cX12_hands 49 = .ok (.invokestatic 278, 3) := by decide +kernel
theorem dX12_hands_52 : decode cX12_hands 52 = .ok (.iaload, 1) := by decide +kernel
theorem dX12_hands_53 : decode cX12_hands 53 = .ok (.iload_n 1, 1) := by decide +kernel
theorem dX12_hands_54 : decode cX12_hands 54 = .ok (.if_icmp .ne 25, 3) := by decide +kernel
theorem dX12_hands_57 : decode cX12_hands 57 = .ok (.aload_n 0, 1) := by decide +kernel
theorem dX12_hands_58 : decode cX12_hands 58 = .ok (.aload_n 0, 1) := by decide +kernel
theorem dX12_hands_59 : decode cX12_hands 59 = .ok (.getfield 43, 3) := by decide +kernel
theorem dX12_hands_62 : decode cX12_hands 62 = .ok (.iload_n 3, 1) := by decide +kernel
theorem dX12_hands_63 : decode cX12_hands 63 = .ok (.iload_n 2, 1) := by decide +kernel
theorem dX12_hands_64 : decode cX12_hands 64 = .ok (.invokevirtual 317, 3) := by decide +kernel
theorem dX12_hands_67 : decode cX12_hands 67 = .ok (.ifCond .eq 12, 3) := by decide +kernel
theorem dX12_hands_70 : decode cX12_hands 70 = .ok (.aload_n 0, 1) := by decide +kernel
theorem dX12_hands_71 : decode cX12_hands 71 = .ok (.getfield 43, 3) := by decide +kernel
theorem dX12_hands_74 : decode cX12_hands 74 = .ok (.iload_n 3, 1) := by decide +kernel
theorem dX12_hands_75 : decode cX12_hands 75 = .ok (.invokestatic 293, 3) := by decide +kernel
theorem dX12_hands_78 : decode cX12_hands 78 = .ok (.ireturn, 1) := by decide +kernel
theorem dX12_hands_79 : decode cX12_hands 79 = .ok (.iinc 3 1, 3) := by decide +kernel
theorem dX12_hands_82 : decode cX12_hands 82 = .ok (.goto (-53), 3) := by decide +kernel
theorem dX12_hands_85 : decode cX12_hands 85 = .ok (.bipush (-2), 2) := by decide +kernel
theorem dX12_hands_87 : decode cX12_hands 87 = .ok (.ireturn, 1) := by decide +kernel
theorem dX12_earliestFor_0 : decode cX12_earliestFor 0 = .ok (.iconst 0, 1) := by decide +kernel
theorem dX12_earliestFor_1 : decode cX12_earliestFor 1 = .ok (.istore_n 3, 1) := by decide +kernel
theorem dX12_earliestFor_2 : decode cX12_earliestFor 2 = .ok (.iload_n 3, 1) := by decide +kernel
theorem dX12_earliestFor_3 : decode cX12_earliestFor 3 = .ok (.bipush 99, 2) := by decide +kernel
theorem dX12_earliestFor_5 : decode cX12_earliestFor 5 = .ok (.if_icmp .gt 21, 3) := by decide +kernel
theorem dX12_earliestFor_8 : decode cX12_earliestFor 8 = .ok (.aload_n 0, 1) := by decide +kernel
theorem dX12_earliestFor_9 : decode cX12_earliestFor 9 = .ok (.iload_n 1, 1) := by decide +kernel
theorem dX12_earliestFor_10 : decode cX12_earliestFor 10 = .ok (.iload_n 2, 1) := by decide +kernel
theorem dX12_earliestFor_11 : decode cX12_earliestFor 11 = .ok (.iload_n 3, 1) := by decide +kernel
theorem dX12_earliestFor_12 : decode cX12_earliestFor 12 = .ok (.invokevirtual 385, 3) := by decide +kernel
theorem dX12_earliestFor_15 : decode cX12_earliestFor 15 = .ok (.ifCond .ne 5, 3) := by decide +kernel
theorem dX12_earliestFor_18 : decode cX12_earliestFor 18 = .ok (.iload_n 3, 1) := by decide +kernel
theorem dX12_earliestFor_19 : decode cX12_earliestFor 19 = .ok (.ireturn, 1) := by decide +kernel
theorem dX12_earliestFor_20 : decode cX12_earliestFor 20 = .ok (.iinc 3 1, 3) := by decide +kernel
theorem dX12_earliestFor_23 : decode cX12_earliestFor 23 = .ok (.goto (-21), 3) := by decide +kernel
theorem dX12_earliestFor_26 : decode cX12_earliestFor 26 = .ok (.bipush (-2), 2) := by decide +kernel
theorem dX12_earliestFor_28 : decode cX12_earliestFor 28 = .ok (.ireturn, 1) := by decide +kernel
theorem dX12_latestFor_0 : decode cX12_latestFor 0 = .ok (.bipush 99, 2) := by decide +kernel
theorem dX12_latestFor_2 : decode cX12_latestFor 2 = .ok (.istore_n 3, 1) := by decide +kernel
theorem dX12_latestFor_3 : decode cX12_latestFor 3 = .ok (.iload_n 3, 1) := by decide +kernel
theorem dX12_latestFor_4 : decode cX12_latestFor 4 = .ok (.ifCond .lt 21, 3) := by decide +kernel
theorem dX12_latestFor_7 : decode cX12_latestFor 7 = .ok (.aload_n 0, 1) := by decide +kernel
theorem dX12_latestFor_8 : decode cX12_latestFor 8 = .ok (.iload_n 1, 1) := by decide +kernel
theorem dX12_latestFor_9 : decode cX12_latestFor 9 = .ok (.iload_n 2, 1) := by decide +kernel
theorem dX12_latestFor_10 : decode cX12_latestFor 10 = .ok (.iload_n 3, 1) := by decide +kernel
theorem dX12_latestFor_11 : decode cX12_latestFor 11 = .ok (.invokevirtual 385, 3) := by decide +kernel
theorem dX12_latestFor_14 : decode cX12_latestFor 14 = .ok (.ifCond .ne 5, 3) := by decide +kernel
theorem dX12_latestFor_17 : decode cX12_latestFor 17 = .ok (.iload_n 3, 1) := by decide +kernel
theorem dX12_latestFor_18 : decode cX12_latestFor 18 = .ok (.ireturn, 1) := by decide +kernel
theorem dX12_latestFor_19 : decode cX12_latestFor 19 = .ok (.iinc 3 (-1), 3) := by decide +kernel
theorem dX12_latestFor_22 : decode cX12_latestFor 22 = .ok (.goto (-19), 3) := by decide +kernel
theorem dX12_latestFor_25 : decode cX12_latestFor 25 = .ok (.bipush (-2), 2) := by decide +kernel
theorem dX12_latestFor_27 : decode cX12_latestFor 27 = .ok (.ireturn, 1) := by decide +kernel
theorem dX12_tellsBack_0 : decode cX12_tellsBack 0 = .ok (.iload_n 2, 1) := by decide +kernel
theorem dX12_tellsBack_1 : decode cX12_tellsBack 1 = .ok (.ifCond .lt 20, 3) := by decide +kernel
theorem dX12_tellsBack_4 : decode cX12_tellsBack 4 = .ok (.aload_n 0, 1) := by decide +kernel
theorem dX12_tellsBack_5 : decode cX12_tellsBack 5 = .ok (.iconst 0, 1) := by decide +kernel
theorem dX12_tellsBack_6 : decode cX12_tellsBack 6 = .ok (.putfield 140, 3) := by decide +kernel
theorem dX12_tellsBack_9 : decode cX12_tellsBack 9 = .ok (.aload_n 0, 1) := by decide +kernel
theorem dX12_tellsBack_10 : decode cX12_tellsBack 10 = .ok (.iload_n 2, 1) := by decide +kernel
theorem dX12_tellsBack_11 : decode cX12_tellsBack 11 = .ok (.aload_n 0, 1) := by decide +kernel
theorem dX12_tellsBack_12 : decode cX12_tellsBack 12 = .ok (.iload_n 1, 1) := by decide +kernel
theorem dX12_tellsBack_13 : decode cX12_tellsBack 13 = .ok (.invokevirtual 281, 3) := by decide +kernel
theorem dX12_tellsBack_16 : decode cX12_tellsBack 16 = .ok (.iadd, 1) := by decide +kernel
theorem dX12_tellsBack_17 : decode cX12_tellsBack 17 = .ok (.i2l, 1) := by decide +kernel
theorem dX12_tellsBack_18 : decode cX12_tellsBack 18 = .ok (.invokevirtual 414, 3) := by decide +kernel
theorem dX12_tellsBack_21 : decode cX12_tellsBack 21 = .ok (.iload_n 2, 1) := by decide +kernel
theorem dX12_tellsBack_22 : decode cX12_tellsBack 22 = .ok (.ireturn, 1) := by decide +kernel
theorem dX12_earliest_0 : decode cX12_earliest 0 = .ok (.aload_n 0, 1) := by decide +kernel
theorem dX12_earliest_1 : decode cX12_earliest 1 = .ok (.iconst 0, 1) := by decide +kernel
theorem dX12_earliest_2 : decode cX12_earliest 2 = .ok (.putfield 133, 3) := by decide +kernel
theorem dX12_earliest_5 : decode cX12_earliest 5 = .ok (.aload_n 0, 1) := by decide +kernel
theorem dX12_earliest_6 : decode cX12_earliest 6 = .ok (.iload_n 1, 1) := by decide +kernel
theorem dX12_earliest_7 : decode cX12_earliest 7 = .ok (.invokevirtual 247, 3) := by decide +kernel
theorem dX12_earliest_10 : decode cX12_earliest 10 = .ok (.ifCond .eq 25, 3) := by decide +kernel
theorem dX12_earliest_13 : decode cX12_earliest 13 = .ok (.aload_n 0, 1) := by decide +kernel
theorem dX12_earliest_14 : decode cX12_earliest 14 = .ok (.iload_n 2, 1) := by decide +kernel
theorem dX12_earliest_15 : decode cX12_earliest 15 = .ok (.invokevirtual 361, 3) := by decide +kernel
theorem dX12_earliest_18 : decode cX12_earliest 18 = .ok (.ifCond .eq 17, 3) := by decide +kernel
theorem dX12_earliest_21 : decode cX12_earliest 21 = .ok (.aload_n 0, 1) := by decide +kernel
theorem dX12_earliest_22 : decode cX12_earliest 22 = .ok (.iload_n 2, 1) := by decide +kernel
theorem dX12_earliest_23 : decode cX12_earliest 23 = .ok (.aload_n 0, 1) := by decide +kernel
theorem dX12_earliest_24 : decode cX12_earliest 24 = .ok (.iload_n 1, 1) := by decide +kernel
theorem dX12_earliest_25 : decode cX12_earliest 25 = .ok (.iload_n 2, 1) := by decide +kernel
theorem dX12_earliest_26 : decode cX12_earliest 26 = .ok (.invokevirtual 438, 3) := by decide +kernel
theorem dX12_earliest_29 : decode cX12_earliest 29 = .ok (.invokevirtual 441, 3) := by decide +kernel
theorem dX12_earliest_32 : decode cX12_earliest 32 = .ok (.goto 4, 3) := by decide +kernel
theorem dX12_earliest_35 : decode cX12_earliest 35 = .ok (.iconst (-1), 1) := by decide +kernel
theorem dX12_earliest_36 : decode cX12_earliest 36 = .ok (.ireturn, 1) := by decide +kernel
theorem dX12_latest_0 : decode cX12_latest 0 = .ok (.aload_n 0, 1) := by decide +kernel
theorem dX12_latest_1 : decode cX12_latest 1 = .ok (.iconst 0, 1) := by decide +kernel
theorem dX12_latest_2 : decode cX12_latest 2 = .ok (.putfield 133, 3) := by decide +kernel
theorem dX12_latest_5 : decode cX12_latest 5 = .ok (.aload_n 0, 1) := by decide +kernel
theorem dX12_latest_6 : decode cX12_latest 6 = .ok (.iload_n 1, 1) := by decide +kernel
theorem dX12_latest_7 : decode cX12_latest 7 = .ok (.invokevirtual 247, 3) := by decide +kernel
theorem dX12_latest_10 : decode cX12_latest 10 = .ok (.ifCond .eq 25, 3) := by decide +kernel
theorem dX12_latest_13 : decode cX12_latest 13 = .ok (.aload_n 0, 1) := by decide +kernel
theorem dX12_latest_14 : decode cX12_latest 14 = .ok (.iload_n 2, 1) := by decide +kernel
theorem dX12_latest_15 : decode cX12_latest 15 = .ok (.invokevirtual 361, 3) := by decide +kernel
theorem dX12_latest_18 : decode cX12_latest 18 = .ok (.ifCond .eq 17, 3) := by decide +kernel
theorem dX12_latest_21 : decode cX12_latest 21 = .ok (.aload_n 0, 1) := by decide +kernel
theorem dX12_latest_22 : decode cX12_latest 22 = .ok (.iload_n 2, 1) := by decide +kernel
theorem dX12_latest_23 : decode cX12_latest 23 = .ok (.aload_n 0, 1) := by decide +kernel
theorem dX12_latest_24 : decode cX12_latest 24 = .ok (.iload_n 1, 1) := by decide +kernel
theorem dX12_latest_25 : decode cX12_latest 25 = .ok (.iload_n 2, 1) := by decide +kernel
theorem dX12_latest_26 : decode cX12_latest 26 = .ok (.invokevirtual 444, 3) := by decide +kernel
theorem dX12_latest_29 : decode cX12_latest 29 = .ok (.invokevirtual 441, 3) := by decide +kernel
theorem dX12_latest_32 : decode cX12_latest 32 = .ok (.goto 4, 3) := by decide +kernel
theorem dX12_latest_35 : decode cX12_latest 35 = .ok (.iconst (-1), 1) := by decide +kernel
theorem dX12_latest_36 : decode cX12_latest 36 = .ok (.ireturn, 1) := by decide +kernel
theorem dX12_best_0 : decode cX12_best 0 = .ok (.aload_n 0, 1) := by decide +kernel
theorem dX12_best_1 : decode cX12_best 1 = .ok (.iconst 0, 1) := by decide +kernel
theorem dX12_best_2 : decode cX12_best 2 = .ok (.putfield 133, 3) := by decide +kernel
theorem dX12_best_5 : decode cX12_best 5 = .ok (.aload_n 0, 1) := by decide +kernel
theorem dX12_best_6 : decode cX12_best 6 = .ok (.iload_n 1, 1) := by decide +kernel
theorem dX12_best_7 : decode cX12_best 7 = .ok (.invokevirtual 247, 3) := by decide +kernel
theorem dX12_best_10 : decode cX12_best 10 = .ok (.ifCond .ne 5, 3) := by decide +kernel
theorem dX12_best_13 : decode cX12_best 13 = .ok (.iconst (-1), 1) := by decide +kernel
theorem dX12_best_14 : decode cX12_best 14 = .ok (.ireturn, 1) := by decide +kernel
theorem dX12_best_15 : decode cX12_best 15 = .ok (.bipush (-2), 2) := by decide +kernel
theorem dX12_best_17 : decode cX12_best 17 = .ok (.istore_n 2, 1) := by decide +kernel
theorem dX12_best_18 : decode cX12_best 18 = .ok (.iconst 0, 1) := by decide +kernel
theorem dX12_best_19 : decode cX12_best 19 = .ok (.istore_n 3, 1) := by decide +kernel
theorem dX12_best_20 : decode cX12_best 20 = .ok (.iconst 0, 1) := by decide +kernel
theorem dX12_best_21 : decode cX12_best 21 = .ok (.istore 4, 2) := by decide +kernel
theorem dX12_best_23 : decode cX12_best 23 = .ok (.iconst 0, 1) := by decide +kernel
theorem dX12_best_24 : decode cX12_best 24 = .ok (.istore 5, 2) := by decide +kernel
theorem dX12_best_26 : decode cX12_best 26 = .ok (.iload 5, 2) := by decide +kernel
theorem dX12_best_28 : decode cX12_best 28 = .ok (.aload_n 0, 1) := by decide +kernel
theorem dX12_best_29 : decode cX12_best 29 = .ok (.getfield 150, 3) := by decide +kernel
theorem dX12_best_32 : decode cX12_best 32 = .ok (.if_icmp .ge 111, 3) := by decide +kernel
theorem dX12_best_35 : decode cX12_best 35 = .ok (.aload_n 0, 1) := by decide +kernel
theorem dX12_best_36 : decode cX12_best 36 = .ok (.iload_n 1, 1) := by decide +kernel
theorem dX12_best_37 : decode cX12_best 37 = .ok (.iload 5, 2) := by decide +kernel
theorem dX12_best_39 : decode cX12_best 39 = .ok (.invokevirtual 438, 3) := by decide +kernel
theorem dX12_best_42 : decode cX12_best 42 = .ok (.istore 6, 2) := by decide +kernel
theorem dX12_best_44 : decode cX12_best 44 = .ok (.iload 6, 2) := by decide +kernel
theorem dX12_best_46 : decode cX12_best 46 = .ok (.ifCond .lt 91, 3) := by decide +kernel
theorem dX12_best_49 : decode cX12_best 49 = .ok (.aload_n 0, 1) := by decide +kernel
theorem dX12_best_50 : decode cX12_best 50 = .ok (.getfield 43, 3) := by decide +kernel
theorem dX12_best_53 : decode cX12_best 53 = .ok (.aload_n 0, 1) := by decide +kernel
theorem dX12_best_54 : decode cX12_best 54 = .ok (.getfield 46, 3) := by decide +kernel
theorem dX12_best_57 : decode cX12_best 57 = .ok (.invokestatic 346, 3) := by decide +kernel
theorem dX12_best_60 : decode cX12_best 60 = .ok (.aload_n 0, 1) := by decide +kernel
theorem dX12_best_61 : decode cX12_best 61 = .ok (.getfield 46, 3) := by decide +kernel
theorem dX12_best_64 : decode cX12_best 64 = .ok (.iload_n 1, 1) := by decide +kernel
theorem dX12_best_65 : decode cX12_best 65 = .ok (.iload 5, 2) := by decide +kernel
theorem dX12_best_67 : decode cX12_best 67 = .ok (.iload 6, 2) := by decide +kernel
theorem dX12_best_69 : decode cX12_best 69 = .ok (.invokestatic 336, 3) := by decide +kernel
theorem dX12_best_72 : decode cX12_best 72 = .ok (.aload_n 0, 1) := by decide +kernel
theorem dX12_best_73 : decode cX12_best 73 = .ok (.aload_n 0, 1) := by decide +kernel
theorem dX12_best_74 : decode cX12_best 74 = .ok (.getfield 46, 3) := by decide +kernel
theorem dX12_best_77 : decode cX12_best 77 = .ok (.aload_n 0, 1) := by decide +kernel
theorem dX12_best_78 : decode cX12_best 78 = .ok (.getfield 46, 3) := by decide +kernel
theorem dX12_best_81 : decode cX12_best 81 = .ok (.bipush 45, 2) := by decide +kernel
theorem dX12_best_83 : decode cX12_best 83 = .ok (.iaload, 1) := by decide +kernel
theorem dX12_best_84 : decode cX12_best 84 = .ok (.iconst 1, 1) := by decide +kernel
theorem dX12_best_85 : decode cX12_best 85 = .ok (.isub, 1) := by decide +kernel
theorem dX12_best_86 : decode cX12_best 86 = .ok (.invokevirtual 314, 3) := by decide +kernel
theorem dX12_best_89 : decode cX12_best 89 = .ok (.istore 7, 2) := by decide +kernel
theorem dX12_best_91 : decode cX12_best 91 = .ok (.iload_n 2, 1) := by decide +kernel
theorem dX12_best_92 : decode cX12_best 92 = .ok (.ifCond .lt 35, 3) := by decide +kernel
theorem dX12_best_95 : decode cX12_best 95 = .ok (.iload 7, 2) := by decide +kernel
theorem dX12_best_97 : decode cX12_best 97 = .ok (.iload_n 3, 1) := by decide +kernel
theorem dX12_best_98 : decode cX12_best 98 = .ok (.if_icmp .gt 29, 3) := by decide +kernel
theorem dX12_best_101 : decode cX12_best 101 = .ok (.iload 7, 2) := by decide +kernel
theorem dX12_best_103 : decode cX12_best 103 = .ok (.iload_n 3, 1) := by decide +kernel
theorem dX12_best_104 : decode cX12_best 104 = .ok (.if_icmp .ne 33, 3) := by decide +kernel
theorem dX12_best_107 : decode cX12_best 107 = .ok (.iload 6, 2) := by decide +kernel
theorem dX12_best_109 : decode cX12_best 109 = .ok (.aload_n 0, 1) := by decide +kernel
theorem dX12_best_110 : decode cX12_best 110 = .ok (.iload 5, 2) := by decide +kernel
theorem dX12_best_112 : decode cX12_best 112 = .ok (.invokevirtual 281, 3) := by decide +kernel
theorem dX12_best_115 : decode cX12_best 115 = .ok (.iadd, 1) := by decide +kernel
theorem dX12_best_116 : decode cX12_best 116 = .ok (.iload 4, 2) := by decide +kernel
theorem dX12_best_118 : decode cX12_best 118 = .ok (.aload_n 0, 1) := by decide +kernel
theorem dX12_best_119 : decode cX12_best 119 = .ok (.iload_n 2, 1) := by decide +kernel
theorem dX12_best_120 : decode cX12_best 120 = .ok (.invokevirtual 281, 3) := by decide +kernel
theorem dX12_best_123 : decode cX12_best 123 = .ok (.iadd, 1) := by decide +kernel
theorem dX12_best_124 : decode cX12_best 124 = .ok (.if_icmp .ge 13, 3) := by decide +kernel
theorem dX12_best_127 : decode cX12_best 127 = .ok (.iload 5, 2) := by decide +kernel
theorem dX12_best_129 : decode cX12_best 129 = .ok (.istore_n 2, 1) := by decide +kernel
theorem dX12_best_130 : decode cX12_best 130 = .ok (.iload 7, 2) := by decide +kernel
theorem dX12_best_132 : decode cX12_best 132 = .ok (.istore_n 3, 1) := by decide +kernel
theorem dX12_best_133 : decode cX12_best 133 = .ok (.iload 6, 2) := by decide +kernel
theorem dX12_best_135 : decode cX12_best 135 = .ok (.istore 4, 2) := by decide +kernel
theorem dX12_best_137 : decode cX12_best 137 = .ok (.iinc 5 1, 3) := by decide +kernel
theorem dX12_best_140 : decode cX12_best 140 = .ok (.goto (-114), 3) := by decide +kernel
theorem dX12_best_143 : decode cX12_best 143 = .ok (.iload_n 2, 1) := by decide +kernel
theorem dX12_best_144 : decode cX12_best 144 = .ok (.ifCond .ge 6, 3) := by decide +kernel
theorem dX12_best_147 : decode cX12_best 147 = .ok (.bipush (-2), 2) := by decide +kernel
theorem dX12_best_149 : decode cX12_best 149 = .ok (.ireturn, 1) := by decide +kernel
theorem dX12_best_150 : decode cX12_best 150 = .ok (.aload_n 0, 1) := by decide +kernel
theorem dX12_best_151 : decode cX12_best 151 = .ok (.iconst 0, 1) := by decide +kernel
theorem dX12_best_152 : decode cX12_best 152 = .ok (.putfield 140, 3) := by decide +kernel
theorem dX12_best_155 : decode cX12_best 155 = .ok (.aload_n 0, 1) := by decide +kernel
theorem dX12_best_156 : decode cX12_best 156 = .ok (.iload 4, 2) := by decide +kernel
theorem dX12_best_158 : decode cX12_best 158 = .ok (.i2l, 1) := by decide +kernel
theorem dX12_best_159 : decode cX12_best 159 = .ok (.invokevirtual 414, 3) := by decide +kernel
theorem dX12_best_162 : decode cX12_best 162 = .ok (.aload_n 0, 1) := by decide +kernel
theorem dX12_best_163 : decode cX12_best 163 = .ok (.iload_n 3, 1) := by decide +kernel
theorem dX12_best_164 : decode cX12_best 164 = .ok (.i2l, 1) := by decide +kernel
theorem dX12_best_165 : decode cX12_best 165 = .ok (.invokevirtual 414, 3) := by decide +kernel
theorem dX12_best_168 : decode cX12_best 168 = .ok (.iload_n 2, 1) := by decide +kernel
theorem dX12_best_169 : decode cX12_best 169 = .ok (.ireturn, 1) := by decide +kernel
theorem dX12_putsIn_0 : decode cX12_putsIn 0 = .ok (.aload_n 0, 1) := by decide +kernel
theorem dX12_putsIn_1 : decode cX12_putsIn 1 = .ok (.aload_n 0, 1) := by decide +kernel
theorem dX12_putsIn_2 : decode cX12_putsIn 2 = .ok (.getfield 43, 3) := by decide +kernel
theorem dX12_putsIn_5 : decode cX12_putsIn 5 = .ok (.invokevirtual 418, 3) := by decide +kernel
theorem dX12_putsIn_8 : decode cX12_putsIn 8 = .ok (.iload_n 3, 1) := by decide +kernel
theorem dX12_putsIn_9 : decode cX12_putsIn 9 = .ok (.isub, 1) := by decide +kernel
theorem dX12_putsIn_10 : decode cX12_putsIn 10 = .ok (.istore 4, 2) := by decide +kernel
theorem dX12_putsIn_12 : decode cX12_putsIn 12 = .ok (.iload 4, 2) := by decide +kernel
theorem dX12_putsIn_14 : decode cX12_putsIn 14 = .ok (.aload_n 0, 1) := by decide +kernel
theorem dX12_putsIn_15 : decode cX12_putsIn 15 = .ok (.getfield 447, 3) := by decide +kernel
theorem dX12_putsIn_18 : decode cX12_putsIn 18 = .ok (.if_icmp .gt 20, 3) := by decide +kernel
theorem dX12_putsIn_21 : decode cX12_putsIn 21 = .ok (.iload 4, 2) := by decide +kernel
theorem dX12_putsIn_23 : decode cX12_putsIn 23 = .ok (.aload_n 0, 1) := by decide +kernel
theorem dX12_putsIn_24 : decode cX12_putsIn 24 = .ok (.getfield 447, 3) := by decide +kernel
theorem dX12_putsIn_27 : decode cX12_putsIn 27 = .ok (.if_icmp .ne 53, 3) := by decide +kernel
theorem dX12_putsIn_30 : decode cX12_putsIn 30 = .ok (.iload_n 1, 1) := by decide +kernel
theorem dX12_putsIn_31 : decode cX12_putsIn 31 = .ok (.aload_n 0, 1) := by decide +kernel
theorem dX12_putsIn_32 : decode cX12_putsIn 32 = .ok (.getfield 450, 3) := by decide +kernel
theorem dX12_putsIn_35 : decode cX12_putsIn 35 = .ok (.if_icmp .ge 45, 3) := by decide +kernel
theorem dX12_putsIn_38 : decode cX12_putsIn 38 = .ok (.aload_n 0, 1) := by decide +kernel
theorem dX12_putsIn_39 : decode cX12_putsIn 39 = .ok (.iload 4, 2) := by decide +kernel
theorem dX12_putsIn_41 : decode cX12_putsIn 41 = .ok (.putfield 447, 3) := by decide +kernel
theorem dX12_putsIn_44 : decode cX12_putsIn 44 = .ok (.aload_n 0, 1) := by decide +kernel
theorem dX12_putsIn_45 : decode cX12_putsIn 45 = .ok (.iload_n 1, 1) := by decide +kernel
theorem dX12_putsIn_46 : decode cX12_putsIn 46 = .ok (.putfield 450, 3) := by decide +kernel
theorem dX12_putsIn_49 : decode cX12_putsIn 49 = .ok (.iconst 0, 1) := by decide +kernel
theorem dX12_putsIn_50 : decode cX12_putsIn 50 = .ok (.istore 5, 2) := by decide +kernel
theorem dX12_putsIn_52 : decode cX12_putsIn 52 = .ok (.iload 5, 2) := by decide +kernel
theorem dX12_putsIn_54 : decode cX12_putsIn 54 = .ok (.iconst 3, 1) := by decide +kernel
theorem dX12_putsIn_55 : decode cX12_putsIn 55 = .ok (.iload_n 1, 1) := by decide +kernel
theorem dX12_putsIn_56 : decode cX12_putsIn 56 = .ok (.imul, 1) := by decide +kernel
theorem dX12_putsIn_57 : decode cX12_putsIn 57 = .ok (.if_icmp .ge 23, 3) := by decide +kernel
theorem dX12_putsIn_60 : decode cX12_putsIn 60 = .ok (.aload_n 0, 1) := by decide +kernel
theorem dX12_putsIn_61 : decode cX12_putsIn 61 = .ok (.getfield 91, 3) := by decide +kernel
theorem dX12_putsIn_64 : decode cX12_putsIn 64 = .ok (.iload 5, 2) := by decide +kernel
theorem dX12_putsIn_66 : decode cX12_putsIn 66 = .ok (.aload_n 0, 1) := by decide +kernel
theorem dX12_putsIn_67 : decode cX12_putsIn 67 = .ok (.getfield 88, 3) := by decide +kernel
theorem dX12_putsIn_70 : decode cX12_putsIn 70 = .ok (.iload 5, 2) := by decide +kernel
theorem dX12_putsIn_72 : decode cX12_putsIn 72 = .ok (.iaload, 1) := by decide +kernel
theorem dX12_putsIn_73 : decode cX12_putsIn 73 = .ok (.iastore, 1) := by decide +kernel
theorem dX12_putsIn_74 : decode cX12_putsIn 74 = .ok (.iinc 5 1, 3) := by decide +kernel
theorem dX12_putsIn_77 : decode cX12_putsIn 77 = .ok (.goto (-25), 3) := by decide +kernel
theorem dX12_putsIn_80 : decode cX12_putsIn 80 = .ok (.iload_n 1, 1) := by decide +kernel
theorem dX12_putsIn_81 : decode cX12_putsIn 81 = .ok (.iload_n 2, 1) := by decide +kernel
theorem dX12_putsIn_82 : decode cX12_putsIn 82 = .ok (.if_icmp .ne 4, 3) := by decide +kernel
theorem dX12_putsIn_85 : decode cX12_putsIn 85 = .ok (.return_, 1) := by decide +kernel
theorem dX12_putsIn_86 : decode cX12_putsIn 86 = .ok (.iconst 0, 1) := by decide +kernel
theorem dX12_putsIn_87 : decode cX12_putsIn 87 = .ok (.istore 5, 2) := by decide +kernel
theorem dX12_putsIn_89 : decode cX12_putsIn 89 = .ok (.iload 5, 2) := by decide +kernel
theorem dX12_putsIn_91 : decode cX12_putsIn 91 = .ok (.aload_n 0, 1) := by decide +kernel
theorem dX12_putsIn_92 : decode cX12_putsIn 92 = .ok (.getfield 143, 3) := by decide +kernel
theorem dX12_putsIn_95 : decode cX12_putsIn 95 = .ok (.if_icmp .ge 109, 3) := by decide +kernel
theorem dX12_putsIn_98 : decode cX12_putsIn 98 = .ok (.iconst 0, 1) := by decide +kernel
theorem dX12_putsIn_99 : decode cX12_putsIn 99 = .ok (.istore 6, 2) := by decide +kernel
theorem dX12_putsIn_101 : decode cX12_putsIn 101 = .ok (.iload 6, 2) := by decide +kernel
theorem dX12_putsIn_103 : decode cX12_putsIn 103 = .ok (.aload_n 0, 1) := by decide +kernel
theorem dX12_putsIn_104 : decode cX12_putsIn 104 = .ok (.getfield 150, 3) := by decide +kernel
theorem dX12_putsIn_107 : decode cX12_putsIn 107 = .ok (.if_icmp .ge 91, 3) := by decide +kernel
theorem dX12_putsIn_110 : decode cX12_putsIn 110 = .ok (.aload_n 0, 1) := by decide +kernel
theorem dX12_putsIn_111 : decode cX12_putsIn 111 = .ok (.iload 5, 2) := by decide +kernel
theorem dX12_putsIn_113 : decode cX12_putsIn 113 = .ok (.iload 6, 2) := by decide +kernel
theorem dX12_putsIn_115 : decode cX12_putsIn 115 = .ok (.invokevirtual 438, 3) := by decide +kernel
theorem dX12_putsIn_118 : decode cX12_putsIn 118 = .ok (.istore 7, 2) := by decide +kernel
theorem dX12_putsIn_120 : decode cX12_putsIn 120 = .ok (.iload 7, 2) := by decide +kernel
theorem dX12_putsIn_122 : decode cX12_putsIn 122 = .ok (.ifCond .lt 70, 3) := by decide +kernel
theorem dX12_putsIn_125 : decode cX12_putsIn 125 = .ok (.aload_n 0, 1) := by decide +kernel
theorem dX12_putsIn_126 : decode cX12_putsIn 126 = .ok (.getfield 88, 3) := by decide +kernel
theorem dX12_putsIn_129 : decode cX12_putsIn 129 = .ok (.iconst 3, 1) := by decide +kernel
theorem dX12_putsIn_130 : decode cX12_putsIn 130 = .ok (.iload_n 1, 1) := by decide +kernel
theorem dX12_putsIn_131 : decode cX12_putsIn 131 = .ok (.imul, 1) := by decide +kernel
theorem dX12_putsIn_132 : decode cX12_putsIn 132 = .ok (.iload 5, 2) := by decide +kernel
theorem dX12_putsIn_134 : decode cX12_putsIn 134 = .ok (.iastore, 1) := by decide +kernel
theorem dX12_putsIn_135 : decode cX12_putsIn 135 = .ok (.aload_n 0, 1) := by decide +kernel
theorem dX12_putsIn_136 : decode cX12_putsIn 136 = .ok (.getfield 88, 3) := by decide +kernel
theorem dX12_putsIn_139 : decode cX12_putsIn 139 = .ok (.iconst 3, 1) := by decide +kernel
theorem dX12_putsIn_140 : decode cX12_putsIn 140 = .ok (.iload_n 1, 1) := by decide +kernel
theorem dX12_putsIn_141 : decode cX12_putsIn 141 = .ok (.imul, 1) := by decide +kernel
theorem dX12_putsIn_142 : decode cX12_putsIn 142 = .ok (.iconst 1, 1) := by decide +kernel
theorem dX12_putsIn_143 : decode cX12_putsIn 143 = .ok (.iadd, 1) := by decide +kernel
theorem dX12_putsIn_144 : decode cX12_putsIn 144 = .ok (.iload 6, 2) := by decide +kernel
theorem dX12_putsIn_146 : decode cX12_putsIn 146 = .ok (.iastore, 1) := by decide +kernel
theorem dX12_putsIn_147 : decode cX12_putsIn 147 = .ok (.aload_n 0, 1) := by decide +kernel
theorem dX12_putsIn_148 : decode cX12_putsIn 148 = .ok (.getfield 88, 3) := by decide +kernel
theorem dX12_putsIn_151 : decode cX12_putsIn 151 = .ok (.iconst 3, 1) := by decide +kernel
theorem dX12_putsIn_152 : decode cX12_putsIn 152 = .ok (.iload_n 1, 1) := by decide +kernel
theorem dX12_putsIn_153 : decode cX12_putsIn 153 = .ok (.imul, 1) := by decide +kernel
theorem dX12_putsIn_154 : decode cX12_putsIn 154 = .ok (.iconst 2, 1) := by decide +kernel
theorem dX12_putsIn_155 : decode cX12_putsIn 155 = .ok (.iadd, 1) := by decide +kernel
theorem dX12_putsIn_156 : decode cX12_putsIn 156 = .ok (.iload 7, 2) := by decide +kernel
theorem dX12_putsIn_158 : decode cX12_putsIn 158 = .ok (.iastore, 1) := by decide +kernel
theorem dX12_putsIn_159 : decode cX12_putsIn 159 = .ok (.aload_n 0, 1) := by decide +kernel
theorem dX12_putsIn_160 : decode cX12_putsIn 160 = .ok (.getfield 43, 3) := by decide +kernel
theorem dX12_putsIn_163 : decode cX12_putsIn 163 = .ok (.iload 5, 2) := by decide +kernel
theorem dX12_putsIn_165 : decode cX12_putsIn 165 = .ok (.iload 6, 2) := by decide +kernel
theorem dX12_putsIn_167 : decode cX12_putsIn 167 = .ok (.iload 7, 2) := by decide +kernel
theorem dX12_putsIn_169 : decode cX12_putsIn 169 = .ok (.invokestatic 336, 3) := by decide +kernel
theorem dX12_putsIn_172 : decode cX12_putsIn 172 = .ok (.aload_n 0, 1) := by decide +kernel
theorem dX12_putsIn_173 : decode cX12_putsIn 173 = .ok (.iload_n 1, 1) := by decide +kernel
theorem dX12_putsIn_174 : decode cX12_putsIn 174 = .ok (.iconst 1, 1) := by decide +kernel
theorem dX12_putsIn_175 : decode cX12_putsIn 175 = .ok (.iadd, 1) := by decide +kernel
theorem dX12_putsIn_176 : decode cX12_putsIn 176 = .ok (.iload_n 2, 1) := by decide +kernel
theorem dX12_putsIn_177 : decode cX12_putsIn 177 = .ok (.iload_n 3, 1) := by decide +kernel
theorem dX12_putsIn_178 : decode cX12_putsIn 178 = .ok (.invokevirtual 453, 3) := by decide +kernel
theorem dX12_putsIn_181 : decode cX12_putsIn 181 = .ok (.aload_n 0, 1) := by decide +kernel
theorem dX12_putsIn_182 : decode cX12_putsIn 182 = .ok (.getfield 43, 3) := by decide +kernel
theorem dX12_putsIn_185 : decode cX12_putsIn 185 = .ok (.bipush 45, 2) := by decide +kernel
theorem dX12_putsIn_187 : decode cX12_putsIn 187 = .ok (.dup2, 1) := by decide +kernel
theorem dX12_putsIn_188 : decode cX12_putsIn 188 = .ok (.iaload, 1) := by decide +kernel
theorem dX12_putsIn_189 : decode cX12_putsIn 189 = .ok (.iconst 1, 1) := by decide +kernel
theorem dX12_putsIn_190 : decode cX12_putsIn 190 = .ok (.isub, 1) := by decide +kernel
theorem dX12_putsIn_191 : decode cX12_putsIn 191 = .ok (.iastore, 1) := by decide +kernel
theorem dX12_putsIn_192 : decode cX12_putsIn 192 = .ok (.iinc 6 1, 3) := by decide +kernel
theorem dX12_putsIn_195 : decode cX12_putsIn 195 = .ok (.goto (-94), 3) := by decide +kernel
theorem dX12_putsIn_198 : decode cX12_putsIn 198 = .ok (.iinc 5 1, 3) := by decide +kernel
theorem dX12_putsIn_201 : decode cX12_putsIn 201 = .ok (.goto (-112), 3) := by decide +kernel
theorem dX12_putsIn_204 : decode cX12_putsIn 204 = .ok (.return_, 1) := by decide +kernel
