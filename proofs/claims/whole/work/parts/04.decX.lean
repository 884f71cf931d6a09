/-! Decode rows. Written by wip/draft/gen_names.py -/
theorem zdX_init_0 : decode zkX_init 0 = .ok (.aload_n 0, 1) := by decide +kernel
theorem zdX_init_1 : decode zkX_init 1 = .ok (.invokespecial 3, 3) := by decide +kernel
theorem zdX_init_4 : decode zkX_init 4 = .ok (.aload_n 0, 1) := by decide +kernel
theorem zdX_init_5 : decode zkX_init 5 = .ok (.new 9, 3) := by decide +kernel
theorem zdX_init_8 : decode zkX_init 8 = .ok (.dup, 1) := by decide +kernel
theorem zdX_init_9 : decode zkX_init 9 = .ok (.bipush 60, 2) := by decide +kernel
theorem zdX_init_11 : decode zkX_init 11 = .ok (.invokespecial 11, 3) := by decide +kernel
theorem zdX_init_14 : decode zkX_init 14 = .ok (.putfield 14, 3) := by decide +kernel
theorem zdX_init_17 : decode zkX_init 17 = .ok (.aload_n 0, 1) := by decide +kernel
theorem zdX_init_18 : decode zkX_init 18 = .ok (.new 9, 3) := by decide +kernel
theorem zdX_init_21 : decode zkX_init 21 = .ok (.dup, 1) := by decide +kernel
theorem zdX_init_22 : decode zkX_init 22 = .ok (.bipush 20, 2) := by decide +kernel
theorem zdX_init_24 : decode zkX_init 24 = .ok (.invokespecial 11, 3) := by decide +kernel
theorem zdX_init_27 : decode zkX_init 27 = .ok (.putfield 18, 3) := by decide +kernel
theorem zdX_init_30 : decode zkX_init 30 = .ok (.aload_n 0, 1) := by decide +kernel
theorem zdX_init_31 : decode zkX_init 31 = .ok (.new 21, 3) := by decide +kernel
theorem zdX_init_34 : decode zkX_init 34 = .ok (.dup, 1) := by decide +kernel
theorem zdX_init_35 : decode zkX_init 35 = .ok (.invokespecial 23, 3) := by decide +kernel
theorem zdX_init_38 : decode zkX_init 38 = .ok (.putfield 24, 3) := by decide +kernel
theorem zdX_init_41 : decode zkX_init 41 = .ok (.aload_n 0, 1) := by decide +kernel
theorem zdX_init_42 : decode zkX_init 42 = .ok (.new 21, 3) := by decide +kernel
theorem zdX_init_45 : decode zkX_init 45 = .ok (.dup, 1) := by decide +kernel
theorem zdX_init_46 : decode zkX_init 46 = .ok (.invokespecial 23, 3) := by decide +kernel
theorem zdX_init_49 : decode zkX_init 49 = .ok (.putfield 28, 3) := by decide +kernel
theorem zdX_init_52 : decode zkX_init 52 = .ok (.aload_n 0, 1) := by decide +kernel
theorem zdX_init_53 : decode zkX_init 53 = .ok (.new 31, 3) := by decide +kernel
theorem zdX_init_56 : decode zkX_init 56 = .ok (.dup, 1) := by decide +kernel
theorem zdX_init_57 : decode zkX_init 57 = .ok (.invokespecial 33, 3) := by decide +kernel
theorem zdX_init_60 : decode zkX_init 60 = .ok (.putfield 34, 3) := by decide +kernel
theorem zdX_init_63 : decode zkX_init 63 = .ok (.aload_n 0, 1) := by decide +kernel
theorem zdX_init_64 : decode zkX_init 64 = .ok (.new 38, 3) := by decide +kernel
theorem zdX_init_67 : decode zkX_init 67 = .ok (.dup, 1) := by decide +kernel
theorem zdX_init_68 : decode zkX_init 68 = .ok (.invokespecial 40, 3) := by decide +kernel
theorem zdX_init_71 : decode zkX_init 71 = .ok (.putfield 41, 3) := by decide +kernel
theorem zdX_init_74 : decode zkX_init 74 = .ok (.aload_n 0, 1) := by decide +kernel
theorem zdX_init_75 : decode zkX_init 75 = .ok (.new 38, 3) := by decide +kernel
theorem zdX_init_78 : decode zkX_init 78 = .ok (.dup, 1) := by decide +kernel
theorem zdX_init_79 : decode zkX_init 79 = .ok (.invokespecial 40, 3) := by decide +kernel
theorem zdX_init_82 : decode zkX_init 82 = .ok (.putfield 45, 3) := by decide +kernel
theorem zdX_init_85 : decode zkX_init 85 = .ok (.return_, 1) := by decide +kernel
theorem zdX_write_0 : decode zkX_write 0 = .ok (.aload_n 0, 1) := by decide +kernel
theorem zdX_write_1 : decode zkX_write 1 = .ok (.getfield 14, 3) := by decide +kernel
theorem zdX_write_4 : decode zkX_write 4 = .ok (.iload_n 1, 1) := by decide +kernel
theorem zdX_write_5 : decode zkX_write 5 = .ok (.invokevirtual 48, 3) := by decide +kernel
theorem zdX_write_8 : decode zkX_write 8 = .ok (.ireturn, 1) := by decide +kernel
theorem zdX_erase_0 : decode zkX_erase 0 = .ok (.aload_n 0, 1) := by decide +kernel
theorem zdX_erase_1 : decode zkX_erase 1 = .ok (.getfield 14, 3) := by decide +kernel
theorem zdX_erase_4 : decode zkX_erase 4 = .ok (.invokevirtual 52, 3) := by decide +kernel
theorem zdX_erase_7 : decode zkX_erase 7 = .ok (.return_, 1) := by decide +kernel
theorem zdX_build_0 : decode zkX_build 0 = .ok (.iload_n 1, 1) := by decide +kernel
theorem zdX_build_1 : decode zkX_build 1 = .ok (.i2l, 1) := by decide +kernel
theorem zdX_build_2 : decode zkX_build 2 = .ok (.invokestatic 55, 3) := by decide +kernel
theorem zdX_build_5 : decode zkX_build 5 = .ok (.ifCond .ne 5, 3) := by decide +kernel
theorem zdX_build_8 : decode zkX_build 8 = .ok (.iconst 0, 1) := by decide +kernel
theorem zdX_build_9 : decode zkX_build 9 = .ok (.ireturn, 1) := by decide +kernel
theorem zdX_build_10 : decode zkX_build 10 = .ok (.aload_n 0, 1) := by decide +kernel
theorem zdX_build_11 : decode zkX_build 11 = .ok (.aload_n 0, 1) := by decide +kernel
theorem zdX_build_12 : decode zkX_build 12 = .ok (.getfield 14, 3) := by decide +kernel
theorem zdX_build_15 : decode zkX_build 15 = .ok (.iload_n 1, 1) := by decide +kernel
theorem zdX_build_16 : decode zkX_build 16 = .ok (.aload_n 0, 1) := by decide +kernel
theorem zdX_build_17 : decode zkX_build 17 = .ok (.getfield 24, 3) := by decide +kernel
theorem zdX_build_20 : decode zkX_build 20 = .ok (.invokevirtual 59, 3) := by decide +kernel
theorem zdX_build_23 : decode zkX_build 23 = .ok (.iconst 1, 1) := by decide +kernel
theorem zdX_build_24 : decode zkX_build 24 = .ok (.ireturn, 1) := by decide +kernel
theorem zdX_word_0 : decode zkX_word 0 = .ok (.iload_n 1, 1) := by decide +kernel
theorem zdX_word_1 : decode zkX_word 1 = .ok (.invokestatic 63, 3) := by decide +kernel
theorem zdX_word_4 : decode zkX_word 4 = .ok (.ifCond .eq 15, 3) := by decide +kernel
theorem zdX_word_7 : decode zkX_word 7 = .ok (.aload_n 0, 1) := by decide +kernel
theorem zdX_word_8 : decode zkX_word 8 = .ok (.getfield 24, 3) := by decide +kernel
theorem zdX_word_11 : decode zkX_word 11 = .ok (.getfield 66, 3) := by decide +kernel
theorem zdX_word_14 : decode zkX_word 14 = .ok (.iload_n 1, 1) := by decide +kernel
theorem zdX_word_15 : decode zkX_word 15 = .ok (.laload, 1) := by decide +kernel
theorem zdX_word_16 : decode zkX_word 16 = .ok (.goto 4, 3) := by decide +kernel
theorem zdX_word_19 : decode zkX_word 19 = .ok (.lconst 0, 1) := by decide +kernel
theorem zdX_word_20 : decode zkX_word 20 = .ok (.lreturn, 1) := by decide +kernel
theorem zdX_put_0 : decode zkX_put 0 = .ok (.iload_n 1, 1) := by decide +kernel
theorem zdX_put_1 : decode zkX_put 1 = .ok (.invokestatic 63, 3) := by decide +kernel
theorem zdX_put_4 : decode zkX_put 4 = .ok (.ifCond .ne 5, 3) := by decide +kernel
theorem zdX_put_7 : decode zkX_put 7 = .ok (.iconst 0, 1) := by decide +kernel
theorem zdX_put_8 : decode zkX_put 8 = .ok (.ireturn, 1) := by decide +kernel
theorem zdX_put_9 : decode zkX_put 9 = .ok (.aload_n 0, 1) := by decide +kernel
theorem zdX_put_10 : decode zkX_put 10 = .ok (.getfield 24, 3) := by decide +kernel
theorem zdX_put_13 : decode zkX_put 13 = .ok (.getfield 66, 3) := by decide +kernel
theorem zdX_put_16 : decode zkX_put 16 = .ok (.iload_n 1, 1) := by decide +kernel
theorem zdX_put_17 : decode zkX_put 17 = .ok (.lload_n 2, 1) := by decide +kernel
theorem zdX_put_18 : decode zkX_put 18 = .ok (.lastore, 1) := by decide +kernel
theorem zdX_put_19 : decode zkX_put 19 = .ok (.iconst 1, 1) := by decide +kernel
theorem zdX_put_20 : decode zkX_put 20 = .ok (.ireturn, 1) := by decide +kernel
theorem zdX_flip_0 : decode zkX_flip 0 = .ok (.iload_n 1, 1) := by decide +kernel
theorem zdX_flip_1 : decode zkX_flip 1 = .ok (.invokestatic 63, 3) := by decide +kernel
theorem zdX_flip_4 : decode zkX_flip 4 = .ok (.ifCond .eq 13, 3) := by decide +kernel
theorem zdX_flip_7 : decode zkX_flip 7 = .ok (.iload_n 2, 1) := by decide +kernel
theorem zdX_flip_8 : decode zkX_flip 8 = .ok (.ifCond .lt 9, 3) := by decide +kernel
theorem zdX_flip_11 : decode zkX_flip 11 = .ok (.iload_n 2, 1) := by decide +kernel
theorem zdX_flip_12 : decode zkX_flip 12 = .ok (.bipush 64, 2) := by decide +kernel
theorem zdX_flip_14 : decode zkX_flip 14 = .ok (.if_icmp .lt 5, 3) := by decide +kernel
theorem zdX_flip_17 : decode zkX_flip 17 = .ok (.iconst 0, 1) := by decide +kernel
theorem zdX_flip_18 : decode zkX_flip 18 = .ok (.ireturn, 1) := by decide +kernel
theorem zdX_flip_19 : decode zkX_flip 19 = .ok (.aload_n 0, 1) := by decide +kernel
theorem zdX_flip_20 : decode zkX_flip 20 = .ok (.getfield 24, 3) := by decide +kernel
theorem zdX_flip_23 : decode zkX_flip 23 = .ok (.getfield 66, 3) := by decide +kernel
theorem zdX_flip_26 : decode zkX_flip 26 = .ok (.iload_n 1, 1) := by decide +kernel
theorem zdX_flip_27 : decode zkX_flip 27 = .ok (.dup2, 1) := by decide +kernel
theorem zdX_flip_28 : decode zkX_flip 28 = .ok (.laload, 1) := by decide +kernel
theorem zdX_flip_29 : decode zkX_flip 29 = .ok (.lconst 1, 1) := by decide +kernel
theorem zdX_flip_30 : decode zkX_flip 30 = .ok (.iload_n 2, 1) := by decide +kernel
theorem zdX_flip_31 : decode zkX_flip 31 = .ok (.lshl, 1) := by decide +kernel
theorem zdX_flip_32 : decode zkX_flip 32 = .ok (.lxor, 1) := by decide +kernel
theorem zdX_flip_33 : decode zkX_flip 33 = .ok (.lastore, 1) := by decide +kernel
theorem zdX_flip_34 : decode zkX_flip 34 = .ok (.iconst 1, 1) := by decide +kernel
theorem zdX_flip_35 : decode zkX_flip 35 = .ok (.ireturn, 1) := by decide +kernel
theorem zdX_load_0 : decode zkX_load 0 = .ok (.aload_n 0, 1) := by decide +kernel
theorem zdX_load_1 : decode zkX_load 1 = .ok (.invokevirtual 70, 3) := by decide +kernel
theorem zdX_load_4 : decode zkX_load 4 = .ok (.ifCond .ne 5, 3) := by decide +kernel
theorem zdX_load_7 : decode zkX_load 7 = .ok (.iconst 0, 1) := by decide +kernel
theorem zdX_load_8 : decode zkX_load 8 = .ok (.ireturn, 1) := by decide +kernel
theorem zdX_load_9 : decode zkX_load 9 = .ok (.aload_n 0, 1) := by decide +kernel
theorem zdX_load_10 : decode zkX_load 10 = .ok (.aload_n 0, 1) := by decide +kernel
theorem zdX_load_11 : decode zkX_load 11 = .ok (.getfield 45, 3) := by decide +kernel
theorem zdX_load_14 : decode zkX_load 14 = .ok (.getfield 74, 3) := by decide +kernel
theorem zdX_load_17 : decode zkX_load 17 = .ok (.aload_n 0, 1) := by decide +kernel
theorem zdX_load_18 : decode zkX_load 18 = .ok (.getfield 45, 3) := by decide +kernel
theorem zdX_load_21 : decode zkX_load 21 = .ok (.getfield 77, 3) := by decide +kernel
theorem zdX_load_24 : decode zkX_load 24 = .ok (.aload_n 0, 1) := by decide +kernel
theorem zdX_load_25 : decode zkX_load 25 = .ok (.getfield 28, 3) := by decide +kernel
theorem zdX_load_28 : decode zkX_load 28 = .ok (.invokevirtual 59, 3) := by decide +kernel
theorem zdX_load_31 : decode zkX_load 31 = .ok (.aload_n 0, 1) := by decide +kernel
theorem zdX_load_32 : decode zkX_load 32 = .ok (.getfield 28, 3) := by decide +kernel
theorem zdX_load_35 : decode zkX_load 35 = .ok (.aload_n 0, 1) := by decide +kernel
theorem zdX_load_36 : decode zkX_load 36 = .ok (.getfield 24, 3) := by decide +kernel
theorem zdX_load_39 : decode zkX_load 39 = .ok (.invokevirtual 81, 3) := by decide +kernel
theorem zdX_load_42 : decode zkX_load 42 = .ok (.ifCond .ne 5, 3) := by decide +kernel
theorem zdX_load_45 : decode zkX_load 45 = .ok (.iconst 0, 1) := by decide +kernel
theorem zdX_load_46 : decode zkX_load 46 = .ok (.ireturn, 1) := by decide +kernel
theorem zdX_load_47 : decode zkX_load 47 = .ok (.aload_n 0, 1) := by decide +kernel
theorem zdX_load_48 : decode zkX_load 48 = .ok (.getfield 41, 3) := by decide +kernel
theorem zdX_load_51 : decode zkX_load 51 = .ok (.astore_n 1, 1) := by decide +kernel
theorem zdX_load_52 : decode zkX_load 52 = .ok (.aload_n 0, 1) := by decide +kernel
theorem zdX_load_53 : decode zkX_load 53 = .ok (.aload_n 0, 1) := by decide +kernel
theorem zdX_load_54 : decode zkX_load 54 = .ok (.getfield 45, 3) := by decide +kernel
theorem zdX_load_57 : decode zkX_load 57 = .ok (.putfield 41, 3) := by decide +kernel
theorem zdX_load_60 : decode zkX_load 60 = .ok (.aload_n 0, 1) := by decide +kernel
theorem zdX_load_61 : decode zkX_load 61 = .ok (.aload_n 1, 1) := by decide +kernel
theorem zdX_load_62 : decode zkX_load 62 = .ok (.putfield 45, 3) := by decide +kernel
theorem zdX_load_65 : decode zkX_load 65 = .ok (.iconst 1, 1) := by decide +kernel
theorem zdX_load_66 : decode zkX_load 66 = .ok (.ireturn, 1) := by decide +kernel
theorem zdX_length_0 : decode zkX_length 0 = .ok (.aload_n 0, 1) := by decide +kernel
theorem zdX_length_1 : decode zkX_length 1 = .ok (.invokevirtual 85, 3) := by decide +kernel
theorem zdX_length_4 : decode zkX_length 4 = .ok (.ifCond .eq 16, 3) := by decide +kernel
theorem zdX_length_7 : decode zkX_length 7 = .ok (.aload_n 0, 1) := by decide +kernel
theorem zdX_length_8 : decode zkX_length 8 = .ok (.getfield 41, 3) := by decide +kernel
theorem zdX_length_11 : decode zkX_length 11 = .ok (.getfield 74, 3) := by decide +kernel
theorem zdX_length_14 : decode zkX_length 14 = .ok (.getfield 88, 3) := by decide +kernel
theorem zdX_length_17 : decode zkX_length 17 = .ok (.goto 4, 3) := by decide +kernel
theorem zdX_length_20 : decode zkX_length 20 = .ok (.iconst (-1), 1) := by decide +kernel
theorem zdX_length_21 : decode zkX_length 21 = .ok (.ireturn, 1) := by decide +kernel
theorem zdX_rate_0 : decode zkX_rate 0 = .ok (.aload_n 0, 1) := by decide +kernel
theorem zdX_rate_1 : decode zkX_rate 1 = .ok (.invokevirtual 85, 3) := by decide +kernel
theorem zdX_rate_4 : decode zkX_rate 4 = .ok (.ifCond .eq 13, 3) := by decide +kernel
theorem zdX_rate_7 : decode zkX_rate 7 = .ok (.aload_n 0, 1) := by decide +kernel
theorem zdX_rate_8 : decode zkX_rate 8 = .ok (.getfield 41, 3) := by decide +kernel
theorem zdX_rate_11 : decode zkX_rate 11 = .ok (.getfield 77, 3) := by decide +kernel
theorem zdX_rate_14 : decode zkX_rate 14 = .ok (.goto 4, 3) := by decide +kernel
theorem zdX_rate_17 : decode zkX_rate 17 = .ok (.iconst (-1), 1) := by decide +kernel
theorem zdX_rate_18 : decode zkX_rate 18 = .ok (.ireturn, 1) := by decide +kernel
theorem zdX_charAt_0 : decode zkX_charAt 0 = .ok (.aload_n 0, 1) := by decide +kernel
theorem zdX_charAt_1 : decode zkX_charAt 1 = .ok (.iload_n 1, 1) := by decide +kernel
theorem zdX_charAt_2 : decode zkX_charAt 2 = .ok (.invokevirtual 91, 3) := by decide +kernel
theorem zdX_charAt_5 : decode zkX_charAt 5 = .ok (.ifCond .eq 17, 3) := by decide +kernel
theorem zdX_charAt_8 : decode zkX_charAt 8 = .ok (.aload_n 0, 1) := by decide +kernel
theorem zdX_charAt_9 : decode zkX_charAt 9 = .ok (.getfield 41, 3) := by decide +kernel
theorem zdX_charAt_12 : decode zkX_charAt 12 = .ok (.getfield 74, 3) := by decide +kernel
theorem zdX_charAt_15 : decode zkX_charAt 15 = .ok (.iload_n 1, 1) := by decide +kernel
theorem zdX_charAt_16 : decode zkX_charAt 16 = .ok (.invokevirtual 94, 3) := by decide +kernel
theorem zdX_charAt_19 : decode zkX_charAt 19 = .ok (.goto 4, 3) := by decide +kernel
theorem zdX_charAt_22 : decode zkX_charAt 22 = .ok (.iconst (-1), 1) := by decide +kernel
theorem zdX_charAt_23 : decode zkX_charAt 23 = .ok (.ireturn, 1) := by decide +kernel
theorem zdX_rowOf_0 : decode zkX_rowOf 0 = .ok (.aload_n 0, 1) := by decide +kernel
theorem zdX_rowOf_1 : decode zkX_rowOf 1 = .ok (.iload_n 1, 1) := by decide +kernel
theorem zdX_rowOf_2 : decode zkX_rowOf 2 = .ok (.invokevirtual 91, 3) := by decide +kernel
theorem zdX_rowOf_5 : decode zkX_rowOf 5 = .ok (.ifCond .eq 18, 3) := by decide +kernel
theorem zdX_rowOf_8 : decode zkX_rowOf 8 = .ok (.aload_n 0, 1) := by decide +kernel
theorem zdX_rowOf_9 : decode zkX_rowOf 9 = .ok (.getfield 41, 3) := by decide +kernel
theorem zdX_rowOf_12 : decode zkX_rowOf 12 = .ok (.getfield 98, 3) := by decide +kernel
theorem zdX_rowOf_15 : decode zkX_rowOf 15 = .ok (.getfield 102, 3) := by decide +kernel
theorem zdX_rowOf_18 : decode zkX_rowOf 18 = .ok (.iload_n 1, 1) := by decide +kernel
theorem zdX_rowOf_19 : decode zkX_rowOf 19 = .ok (.iaload, 1) := by decide +kernel
theorem zdX_rowOf_20 : decode zkX_rowOf 20 = .ok (.goto 4, 3) := by decide +kernel
theorem zdX_rowOf_23 : decode zkX_rowOf 23 = .ok (.iconst (-1), 1) := by decide +kernel
theorem zdX_rowOf_24 : decode zkX_rowOf 24 = .ok (.ireturn, 1) := by decide +kernel
theorem zdX_placeOf_0 : decode zkX_placeOf 0 = .ok (.aload_n 0, 1) := by decide +kernel
theorem zdX_placeOf_1 : decode zkX_placeOf 1 = .ok (.iload_n 1, 1) := by decide +kernel
theorem zdX_placeOf_2 : decode zkX_placeOf 2 = .ok (.invokevirtual 91, 3) := by decide +kernel
theorem zdX_placeOf_5 : decode zkX_placeOf 5 = .ok (.ifCond .eq 18, 3) := by decide +kernel
theorem zdX_placeOf_8 : decode zkX_placeOf 8 = .ok (.aload_n 0, 1) := by decide +kernel
theorem zdX_placeOf_9 : decode zkX_placeOf 9 = .ok (.getfield 41, 3) := by decide +kernel
theorem zdX_placeOf_12 : decode zkX_placeOf 12 = .ok (.getfield 98, 3) := by decide +kernel
theorem zdX_placeOf_15 : decode zkX_placeOf 15 = .ok (.getfield 108, 3) := by decide +kernel
theorem zdX_placeOf_18 : decode zkX_placeOf 18 = .ok (.iload_n 1, 1) := by decide +kernel
theorem zdX_placeOf_19 : decode zkX_placeOf 19 = .ok (.iaload, 1) := by decide +kernel
theorem zdX_placeOf_20 : decode zkX_placeOf 20 = .ok (.goto 4, 3) := by decide +kernel
theorem zdX_placeOf_23 : decode zkX_placeOf 23 = .ok (.iconst (-1), 1) := by decide +kernel
theorem zdX_placeOf_24 : decode zkX_placeOf 24 = .ok (.ireturn, 1) := by decide +kernel
theorem zdX_ask_0 : decode zkX_ask 0 = .ok (.aload_n 0, 1) := by decide +kernel
theorem zdX_ask_1 : decode zkX_ask 1 = .ok (.getfield 18, 3) := by decide +kernel
theorem zdX_ask_4 : decode zkX_ask 4 = .ok (.iload_n 1, 1) := by decide +kernel
theorem zdX_ask_5 : decode zkX_ask 5 = .ok (.invokevirtual 48, 3) := by decide +kernel
theorem zdX_ask_8 : decode zkX_ask 8 = .ok (.ireturn, 1) := by decide +kernel
theorem zdX_back_0 : decode zkX_back 0 = .ok (.aload_n 0, 1) := by decide +kernel
theorem zdX_back_1 : decode zkX_back 1 = .ok (.getfield 18, 3) := by decide +kernel
theorem zdX_back_4 : decode zkX_back 4 = .ok (.invokevirtual 111, 3) := by decide +kernel
theorem zdX_back_7 : decode zkX_back 7 = .ok (.ireturn, 1) := by decide +kernel
theorem zdX_count_0 : decode zkX_count 0 = .ok (.aload_n 0, 1) := by decide +kernel
theorem zdX_count_1 : decode zkX_count 1 = .ok (.invokevirtual 85, 3) := by decide +kernel
theorem zdX_count_4 : decode zkX_count 4 = .ok (.ifCond .ne 5, 3) := by decide +kernel
theorem zdX_count_7 : decode zkX_count 7 = .ok (.iconst (-1), 1) := by decide +kernel
theorem zdX_count_8 : decode zkX_count 8 = .ok (.ireturn, 1) := by decide +kernel
theorem zdX_count_9 : decode zkX_count 9 = .ok (.iconst 0, 1) := by decide +kernel
theorem zdX_count_10 : decode zkX_count 10 = .ok (.istore_n 1, 1) := by decide +kernel
theorem zdX_count_11 : decode zkX_count 11 = .ok (.iconst 0, 1) := by decide +kernel
theorem zdX_count_12 : decode zkX_count 12 = .ok (.istore_n 2, 1) := by decide +kernel
theorem zdX_count_13 : decode zkX_count 13 = .ok (.iload_n 2, 1) := by decide +kernel
theorem zdX_count_14 : decode zkX_count 14 = .ok (.aload_n 0, 1) := by decide +kernel
theorem zdX_count_15 : decode zkX_count 15 = .ok (.getfield 41, 3) := by decide +kernel
theorem zdX_count_18 : decode zkX_count 18 = .ok (.getfield 74, 3) := by decide +kernel
theorem zdX_count_21 : decode zkX_count 21 = .ok (.getfield 88, 3) := by decide +kernel
theorem zdX_count_24 : decode zkX_count 24 = .ok (.if_icmp .gt 20, 3) := by decide +kernel
theorem zdX_count_27 : decode zkX_count 27 = .ok (.aload_n 0, 1) := by decide +kernel
theorem zdX_count_28 : decode zkX_count 28 = .ok (.iload_n 2, 1) := by decide +kernel
theorem zdX_count_29 : decode zkX_count 29 = .ok (.invokevirtual 114, 3) := by decide +kernel
theorem zdX_count_32 : decode zkX_count 32 = .ok (.ifCond .eq 6, 3) := by decide +kernel
theorem zdX_count_35 : decode zkX_count 35 = .ok (.iinc 1 1, 3) := by decide +kernel
theorem zdX_count_38 : decode zkX_count 38 = .ok (.iinc 2 1, 3) := by decide +kernel
theorem zdX_count_41 : decode zkX_count 41 = .ok (.goto (-28), 3) := by decide +kernel
theorem zdX_count_44 : decode zkX_count 44 = .ok (.iload_n 1, 1) := by decide +kernel
theorem zdX_count_45 : decode zkX_count 45 = .ok (.ireturn, 1) := by decide +kernel
theorem zdX_firstRow_0 : decode zkX_firstRow 0 = .ok (.aload_n 0, 1) := by decide +kernel
theorem zdX_firstRow_1 : decode zkX_firstRow 1 = .ok (.invokevirtual 85, 3) := by decide +kernel
theorem zdX_firstRow_4 : decode zkX_firstRow 4 = .ok (.ifCond .ne 5, 3) := by decide +kernel
theorem zdX_firstRow_7 : decode zkX_firstRow 7 = .ok (.iconst (-1), 1) := by decide +kernel
theorem zdX_firstRow_8 : decode zkX_firstRow 8 = .ok (.ireturn, 1) := by decide +kernel
theorem zdX_firstRow_9 : decode zkX_firstRow 9 = .ok (.iconst 0, 1) := by decide +kernel
theorem zdX_firstRow_10 : decode zkX_firstRow 10 = .ok (.istore_n 1, 1) := by decide +kernel
theorem zdX_firstRow_11 : decode zkX_firstRow 11 = .ok (.iload_n 1, 1) := by decide +kernel
theorem zdX_firstRow_12 : decode zkX_firstRow 12 = .ok (.aload_n 0, 1) := by decide +kernel
theorem zdX_firstRow_13 : decode zkX_firstRow 13 = .ok (.getfield 41, 3) := by decide +kernel
theorem zdX_firstRow_16 : decode zkX_firstRow 16 = .ok (.getfield 74, 3) := by decide +kernel
theorem zdX_firstRow_19 : decode zkX_firstRow 19 = .ok (.getfield 88, 3) := by decide +kernel
theorem zdX_firstRow_22 : decode zkX_firstRow 22 = .ok (.if_icmp .gt 30, 3) := by decide +kernel
theorem zdX_firstRow_25 : decode zkX_firstRow 25 = .ok (.aload_n 0, 1) := by decide +kernel
theorem zdX_firstRow_26 : decode zkX_firstRow 26 = .ok (.aload_n 0, 1) := by decide +kernel
theorem zdX_firstRow_27 : decode zkX_firstRow 27 = .ok (.getfield 41, 3) := by decide +kernel
theorem zdX_firstRow_30 : decode zkX_firstRow 30 = .ok (.getfield 98, 3) := by decide +kernel
theorem zdX_firstRow_33 : decode zkX_firstRow 33 = .ok (.getfield 108, 3) := by decide +kernel
theorem zdX_firstRow_36 : decode zkX_firstRow 36 = .ok (.iload_n 1, 1) := by decide +kernel
theorem zdX_firstRow_37 : decode zkX_firstRow 37 = .ok (.iaload, 1) := by decide +kernel
theorem zdX_firstRow_38 : decode zkX_firstRow 38 = .ok (.invokevirtual 114, 3) := by decide +kernel
theorem zdX_firstRow_41 : decode zkX_firstRow 41 = .ok (.ifCond .eq 5, 3) := by decide +kernel
theorem zdX_firstRow_44 : decode zkX_firstRow 44 = .ok (.iload_n 1, 1) := by decide +kernel
theorem zdX_firstRow_45 : decode zkX_firstRow 45 = .ok (.ireturn, 1) := by decide +kernel
theorem zdX_firstRow_46 : decode zkX_firstRow 46 = .ok (.iinc 1 1, 3) := by decide +kernel
theorem zdX_firstRow_49 : decode zkX_firstRow 49 = .ok (.goto (-38), 3) := by decide +kernel
theorem zdX_firstRow_52 : decode zkX_firstRow 52 = .ok (.iconst (-1), 1) := by decide +kernel
theorem zdX_firstRow_53 : decode zkX_firstRow 53 = .ok (.ireturn, 1) := by decide +kernel
theorem zdX_locate_0 : decode zkX_locate 0 = .ok (.aload_n 0, 1) := by decide +kernel
theorem zdX_locate_1 : decode zkX_locate 1 = .ok (.invokevirtual 85, 3) := by decide +kernel
theorem zdX_locate_4 : decode zkX_locate 4 = .ok (.ifCond .eq 7, 3) := by decide +kernel
theorem zdX_locate_7 : decode zkX_locate 7 = .ok (.iload_n 1, 1) := by decide +kernel
theorem zdX_locate_8 : decode zkX_locate 8 = .ok (.ifCond .ge 5, 3) := by decide +kernel
theorem zdX_locate_11 : decode zkX_locate 11 = .ok (.iconst (-1), 1) := by decide +kernel
theorem zdX_locate_12 : decode zkX_locate 12 = .ok (.ireturn, 1) := by decide +kernel
theorem zdX_locate_13 : decode zkX_locate 13 = .ok (.iconst 0, 1) := by decide +kernel
theorem zdX_locate_14 : decode zkX_locate 14 = .ok (.istore_n 2, 1) := by decide +kernel
theorem zdX_locate_15 : decode zkX_locate 15 = .ok (.iconst 0, 1) := by decide +kernel
theorem zdX_locate_16 : decode zkX_locate 16 = .ok (.istore_n 3, 1) := by decide +kernel
theorem zdX_locate_17 : decode zkX_locate 17 = .ok (.iload_n 3, 1) := by decide +kernel
theorem zdX_locate_18 : decode zkX_locate 18 = .ok (.aload_n 0, 1) := by decide +kernel
theorem zdX_locate_19 : decode zkX_locate 19 = .ok (.getfield 41, 3) := by decide +kernel
theorem zdX_locate_22 : decode zkX_locate 22 = .ok (.getfield 74, 3) := by decide +kernel
theorem zdX_locate_25 : decode zkX_locate 25 = .ok (.getfield 88, 3) := by decide +kernel
theorem zdX_locate_28 : decode zkX_locate 28 = .ok (.if_icmp .gt 27, 3) := by decide +kernel
theorem zdX_locate_31 : decode zkX_locate 31 = .ok (.aload_n 0, 1) := by decide +kernel
theorem zdX_locate_32 : decode zkX_locate 32 = .ok (.iload_n 3, 1) := by decide +kernel
theorem zdX_locate_33 : decode zkX_locate 33 = .ok (.invokevirtual 114, 3) := by decide +kernel
theorem zdX_locate_36 : decode zkX_locate 36 = .ok (.ifCond .eq 13, 3) := by decide +kernel
theorem zdX_locate_39 : decode zkX_locate 39 = .ok (.iload_n 2, 1) := by decide +kernel
theorem zdX_locate_40 : decode zkX_locate 40 = .ok (.iload_n 1, 1) := by decide +kernel
theorem zdX_locate_41 : decode zkX_locate 41 = .ok (.if_icmp .ne 5, 3) := by decide +kernel
theorem zdX_locate_44 : decode zkX_locate 44 = .ok (.iload_n 3, 1) := by decide +kernel
theorem zdX_locate_45 : decode zkX_locate 45 = .ok (.ireturn, 1) := by decide +kernel
theorem zdX_locate_46 : decode zkX_locate 46 = .ok (.iinc 2 1, 3) := by decide +kernel
theorem zdX_locate_49 : decode zkX_locate 49 = .ok (.iinc 3 1, 3) := by decide +kernel
theorem zdX_locate_52 : decode zkX_locate 52 = .ok (.goto (-35), 3) := by decide +kernel
theorem zdX_locate_55 : decode zkX_locate 55 = .ok (.iconst (-1), 1) := by decide +kernel
theorem zdX_locate_56 : decode zkX_locate 56 = .ok (.ireturn, 1) := by decide +kernel
theorem zdX_variety_0 : decode zkX_variety 0 = .ok (.aload_n 0, 1) := by decide +kernel
theorem zdX_variety_1 : decode zkX_variety 1 = .ok (.invokevirtual 85, 3) := by decide +kernel
theorem zdX_variety_4 : decode zkX_variety 4 = .ok (.ifCond .ne 5, 3) := by decide +kernel
theorem zdX_variety_7 : decode zkX_variety 7 = .ok (.iconst (-1), 1) := by decide +kernel
theorem zdX_variety_8 : decode zkX_variety 8 = .ok (.ireturn, 1) := by decide +kernel
theorem zdX_variety_9 : decode zkX_variety 9 = .ok (.lconst 0, 1) := by decide +kernel
theorem zdX_variety_10 : decode zkX_variety 10 = .ok (.lstore_n 1, 1) := by decide +kernel
theorem zdX_variety_11 : decode zkX_variety 11 = .ok (.lconst 0, 1) := by decide +kernel
theorem zdX_variety_12 : decode zkX_variety 12 = .ok (.lstore_n 3, 1) := by decide +kernel
theorem zdX_variety_13 : decode zkX_variety 13 = .ok (.iconst 1, 1) := by decide +kernel
theorem zdX_variety_14 : decode zkX_variety 14 = .ok (.istore 5, 2) := by decide +kernel
theorem zdX_variety_16 : decode zkX_variety 16 = .ok (.iload 5, 2) := by decide +kernel
theorem zdX_variety_18 : decode zkX_variety 18 = .ok (.aload_n 0, 1) := by decide +kernel
theorem zdX_variety_19 : decode zkX_variety 19 = .ok (.getfield 41, 3) := by decide +kernel
theorem zdX_variety_22 : decode zkX_variety 22 = .ok (.getfield 74, 3) := by decide +kernel
theorem zdX_variety_25 : decode zkX_variety 25 = .ok (.getfield 88, 3) := by decide +kernel
theorem zdX_variety_28 : decode zkX_variety 28 = .ok (.if_icmp .gt 61, 3) := by decide +kernel
theorem zdX_variety_31 : decode zkX_variety 31 = .ok (.aload_n 0, 1) := by decide +kernel
theorem zdX_variety_32 : decode zkX_variety 32 = .ok (.iload 5, 2) := by decide +kernel
theorem zdX_variety_34 : decode zkX_variety 34 = .ok (.invokevirtual 114, 3) := by decide +kernel
theorem zdX_variety_37 : decode zkX_variety 37 = .ok (.ifCond .eq 46, 3) := by decide +kernel
theorem zdX_variety_40 : decode zkX_variety 40 = .ok (.aload_n 0, 1) := by decide +kernel
theorem zdX_variety_41 : decode zkX_variety 41 = .ok (.getfield 41, 3) := by decide +kernel
theorem zdX_variety_44 : decode zkX_variety 44 = .ok (.getfield 74, 3) := by decide +kernel
theorem zdX_variety_47 : decode zkX_variety 47 = .ok (.iload 5, 2) := by decide +kernel
theorem zdX_variety_49 : decode zkX_variety 49 = .ok (.iconst 1, 1) := by decide +kernel
theorem zdX_variety_50 : decode zkX_variety 50 = .ok (.isub, 1) := by decide +kernel
theorem zdX_variety_51 : decode zkX_variety 51 = .ok (.invokevirtual 94, 3) := by decide +kernel
theorem zdX_variety_54 : decode zkX_variety 54 = .ok (.istore 6, 2) := by decide +kernel
theorem zdX_variety_56 : decode zkX_variety 56 = .ok (.iload 6, 2) := by decide +kernel
theorem zdX_variety_58 : decode zkX_variety 58 = .ok (.bipush 64, 2) := by decide +kernel
theorem zdX_variety_60 : decode zkX_variety 60 = .ok (.if_icmp .ge 13, 3) := by decide +kernel
theorem zdX_variety_63 : decode zkX_variety 63 = .ok (.lload_n 1, 1) := by decide +kernel
theorem zdX_variety_64 : decode zkX_variety 64 = .ok (.lconst 1, 1) := by decide +kernel
theorem zdX_variety_65 : decode zkX_variety 65 = .ok (.iload 6, 2) := by decide +kernel
theorem zdX_variety_67 : decode zkX_variety 67 = .ok (.lshl, 1) := by decide +kernel
theorem zdX_variety_68 : decode zkX_variety 68 = .ok (.lor, 1) := by decide +kernel
theorem zdX_variety_69 : decode zkX_variety 69 = .ok (.lstore_n 1, 1) := by decide +kernel
theorem zdX_variety_70 : decode zkX_variety 70 = .ok (.goto 13, 3) := by decide +kernel
theorem zdX_variety_73 : decode zkX_variety 73 = .ok (.lload_n 3, 1) := by decide +kernel
theorem zdX_variety_74 : decode zkX_variety 74 = .ok (.lconst 1, 1) := by decide +kernel
theorem zdX_variety_75 : decode zkX_variety 75 = .ok (.iload 6, 2) := by decide +kernel
theorem zdX_variety_77 : decode zkX_variety 77 = .ok (.bipush 64, 2) := by decide +kernel
theorem zdX_variety_79 : decode zkX_variety 79 = .ok (.isub, 1) := by decide +kernel
theorem zdX_variety_80 : decode zkX_variety 80 = .ok (.lshl, 1) := by decide +kernel
theorem zdX_variety_81 : decode zkX_variety 81 = .ok (.lor, 1) := by decide +kernel
theorem zdX_variety_82 : decode zkX_variety 82 = .ok (.lstore_n 3, 1) := by decide +kernel
theorem zdX_variety_83 : decode zkX_variety 83 = .ok (.iinc 5 1, 3) := by decide +kernel
theorem zdX_variety_86 : decode zkX_variety 86 = .ok (.goto (-70), 3) := by decide +kernel
theorem zdX_variety_89 : decode zkX_variety 89 = .ok (.lload_n 1, 1) := by decide +kernel
theorem zdX_variety_90 : decode zkX_variety 90 = .ok (.invokestatic 117, 3) := by decide +kernel
theorem zdX_variety_93 : decode zkX_variety 93 = .ok (.lload_n 3, 1) := by decide +kernel
theorem zdX_variety_94 : decode zkX_variety 94 = .ok (.invokestatic 117, 3) := by decide +kernel
theorem zdX_variety_97 : decode zkX_variety 97 = .ok (.iadd, 1) := by decide +kernel
theorem zdX_variety_98 : decode zkX_variety 98 = .ok (.ireturn, 1) := by decide +kernel
theorem zdX_isWord_0 : decode zkX_isWord 0 = .ok (.iload_n 0, 1) := by decide +kernel
theorem zdX_isWord_1 : decode zkX_isWord 1 = .ok (.ifCond .lt 13, 3) := by decide +kernel
theorem zdX_isWord_4 : decode zkX_isWord 4 = .ok (.iload_n 0, 1) := by decide +kernel
theorem zdX_isWord_5 : decode zkX_isWord 5 = .ok (.bipush 23, 2) := by decide +kernel
theorem zdX_isWord_7 : decode zkX_isWord 7 = .ok (.if_icmp .ge 7, 3) := by decide +kernel
theorem zdX_isWord_10 : decode zkX_isWord 10 = .ok (.iconst 1, 1) := by decide +kernel
theorem zdX_isWord_11 : decode zkX_isWord 11 = .ok (.goto 4, 3) := by decide +kernel
theorem zdX_isWord_14 : decode zkX_isWord 14 = .ok (.iconst 0, 1) := by decide +kernel
theorem zdX_isWord_15 : decode zkX_isWord 15 = .ok (.ireturn, 1) := by decide +kernel
theorem zdX_isRate_0 : decode zkX_isRate 0 = .ok (.lload_n 0, 1) := by decide +kernel
theorem zdX_isRate_1 : decode zkX_isRate 1 = .ok (.lconst 1, 1) := by decide +kernel
theorem zdX_isRate_2 : decode zkX_isRate 2 = .ok (.lcmp, 1) := by decide +kernel
theorem zdX_isRate_3 : decode zkX_isRate 3 = .ok (.ifCond .lt 15, 3) := by decide +kernel
theorem zdX_isRate_6 : decode zkX_isRate 6 = .ok (.lload_n 0, 1) := by decide +kernel
theorem zdX_isRate_7 : decode zkX_isRate 7 = .ok (.ldc2_w 123, 3) := by decide +kernel
theorem zdX_isRate_10 : decode zkX_isRate 10 = .ok (.lcmp, 1) := by decide +kernel
theorem zdX_isRate_11 : decode zkX_isRate 11 = .ok (.ifCond .gt 7, 3) := by decide +kernel
theorem zdX_isRate_14 : decode zkX_isRate 14 = .ok (.iconst 1, 1) := by decide +kernel
theorem zdX_isRate_15 : decode zkX_isRate 15 = .ok (.goto 4, 3) := by decide +kernel
theorem zdX_isRate_18 : decode zkX_isRate 18 = .ok (.iconst 0, 1) := by decide +kernel
theorem zdX_isRate_19 : decode zkX_isRate 19 = .ok (.ireturn, 1) := by decide +kernel
theorem zdX_hasLoaded_0 : decode zkX_hasLoaded 0 = .ok (.aload_n 0, 1) := by decide +kernel
theorem zdX_hasLoaded_1 : decode zkX_hasLoaded 1 = .ok (.getfield 41, 3) := by decide +kernel
theorem zdX_hasLoaded_4 : decode zkX_hasLoaded 4 = .ok (.getfield 77, 3) := by decide +kernel
theorem zdX_hasLoaded_7 : decode zkX_hasLoaded 7 = .ok (.iconst (-1), 1) := by decide +kernel
theorem zdX_hasLoaded_8 : decode zkX_hasLoaded 8 = .ok (.if_icmp .eq 7, 3) := by decide +kernel
theorem zdX_hasLoaded_11 : decode zkX_hasLoaded 11 = .ok (.iconst 1, 1) := by decide +kernel
theorem zdX_hasLoaded_12 : decode zkX_hasLoaded 12 = .ok (.goto 4, 3) := by decide +kernel
theorem zdX_hasLoaded_15 : decode zkX_hasLoaded 15 = .ok (.iconst 0, 1) := by decide +kernel
theorem zdX_hasLoaded_16 : decode zkX_hasLoaded 16 = .ok (.ireturn, 1) := by decide +kernel
theorem zdX_isLoadedPlace_0 : decode zkX_isLoadedPlace 0 = .ok (.aload_n 0, 1) := by decide +kernel
theorem zdX_isLoadedPlace_1 : decode zkX_isLoadedPlace 1 = .ok (.invokevirtual 85, 3) := by decide +kernel
theorem zdX_isLoadedPlace_4 : decode zkX_isLoadedPlace 4 = .ok (.ifCond .eq 25, 3) := by decide +kernel
theorem zdX_isLoadedPlace_7 : decode zkX_isLoadedPlace 7 = .ok (.iload_n 1, 1) := by decide +kernel
theorem zdX_isLoadedPlace_8 : decode zkX_isLoadedPlace 8 = .ok (.ifCond .lt 21, 3) := by decide +kernel
theorem zdX_isLoadedPlace_11 : decode zkX_isLoadedPlace 11 = .ok (.iload_n 1, 1) := by decide +kernel
theorem zdX_isLoadedPlace_12 : decode zkX_isLoadedPlace 12 = .ok (.aload_n 0, 1) := by decide +kernel
theorem zdX_isLoadedPlace_13 : decode zkX_isLoadedPlace 13 = .ok (.getfield 41, 3) := by decide +kernel
theorem zdX_isLoadedPlace_16 : decode zkX_isLoadedPlace 16 = .ok (.getfield 74, 3) := by decide +kernel
theorem zdX_isLoadedPlace_19 : decode zkX_isLoadedPlace 19 = .ok (.getfield 88, 3) := by decide +kernel
theorem zdX_isLoadedPlace_22 : decode zkX_isLoadedPlace 22 = .ok (.if_icmp .gt 7, 3) := by decide +kernel
theorem zdX_isLoadedPlace_25 : decode zkX_isLoadedPlace 25 = .ok (.iconst 1, 1) := by decide +kernel
theorem zdX_isLoadedPlace_26 : decode zkX_isLoadedPlace 26 = .ok (.goto 4, 3) := by decide +kernel
theorem zdX_isLoadedPlace_29 : decode zkX_isLoadedPlace 29 = .ok (.iconst 0, 1) := by decide +kernel
theorem zdX_isLoadedPlace_30 : decode zkX_isLoadedPlace 30 = .ok (.ireturn, 1) := by decide +kernel
theorem zdX_occursAt_0 : decode zkX_occursAt 0 = .ok (.aload_n 0, 1) := by decide +kernel
theorem zdX_occursAt_1 : decode zkX_occursAt 1 = .ok (.getfield 41, 3) := by decide +kernel
theorem zdX_occursAt_4 : decode zkX_occursAt 4 = .ok (.getfield 74, 3) := by decide +kernel
theorem zdX_occursAt_7 : decode zkX_occursAt 7 = .ok (.aload_n 0, 1) := by decide +kernel
theorem zdX_occursAt_8 : decode zkX_occursAt 8 = .ok (.getfield 18, 3) := by decide +kernel
theorem zdX_occursAt_11 : decode zkX_occursAt 11 = .ok (.iload_n 1, 1) := by decide +kernel
theorem zdX_occursAt_12 : decode zkX_occursAt 12 = .ok (.invokevirtual 125, 3) := by decide +kernel
theorem zdX_occursAt_15 : decode zkX_occursAt 15 = .ok (.ireturn, 1) := by decide +kernel
theorem zdX_draw_0 : decode zkX_draw 0 = .ok (.aload_n 0, 1) := by decide +kernel
theorem zdX_draw_1 : decode zkX_draw 1 = .ok (.getfield 45, 3) := by decide +kernel
theorem zdX_draw_4 : decode zkX_draw 4 = .ok (.getfield 98, 3) := by decide +kernel
theorem zdX_draw_7 : decode zkX_draw 7 = .ok (.aload_n 1, 1) := by decide +kernel
theorem zdX_draw_8 : decode zkX_draw 8 = .ok (.invokevirtual 129, 3) := by decide +kernel
theorem zdX_draw_11 : decode zkX_draw 11 = .ok (.aload_n 0, 1) := by decide +kernel
theorem zdX_draw_12 : decode zkX_draw 12 = .ok (.getfield 34, 3) := by decide +kernel
theorem zdX_draw_15 : decode zkX_draw 15 = .ok (.aload_n 1, 1) := by decide +kernel
theorem zdX_draw_16 : decode zkX_draw 16 = .ok (.aload_n 0, 1) := by decide +kernel
theorem zdX_draw_17 : decode zkX_draw 17 = .ok (.getfield 45, 3) := by decide +kernel
theorem zdX_draw_20 : decode zkX_draw 20 = .ok (.getfield 98, 3) := by decide +kernel
theorem zdX_draw_23 : decode zkX_draw 23 = .ok (.invokevirtual 133, 3) := by decide +kernel
theorem zdX_draw_26 : decode zkX_draw 26 = .ok (.aload_n 3, 1) := by decide +kernel
theorem zdX_draw_27 : decode zkX_draw 27 = .ok (.aload_n 0, 1) := by decide +kernel
theorem zdX_draw_28 : decode zkX_draw 28 = .ok (.getfield 34, 3) := by decide +kernel
theorem zdX_draw_31 : decode zkX_draw 31 = .ok (.aload_n 0, 1) := by decide +kernel
theorem zdX_draw_32 : decode zkX_draw 32 = .ok (.getfield 45, 3) := by decide +kernel
theorem zdX_draw_35 : decode zkX_draw 35 = .ok (.getfield 98, 3) := by decide +kernel
theorem zdX_draw_38 : decode zkX_draw 38 = .ok (.iload_n 2, 1) := by decide +kernel
theorem zdX_draw_39 : decode zkX_draw 39 = .ok (.invokevirtual 137, 3) := by decide +kernel
theorem zdX_draw_42 : decode zkX_draw 42 = .ok (.return_, 1) := by decide +kernel
theorem zdX_readDesk_0 : decode zkX_readDesk 0 = .ok (.aload_n 0, 1) := by decide +kernel
theorem zdX_readDesk_1 : decode zkX_readDesk 1 = .ok (.getfield 24, 3) := by decide +kernel
theorem zdX_readDesk_4 : decode zkX_readDesk 4 = .ok (.getfield 66, 3) := by decide +kernel
theorem zdX_readDesk_7 : decode zkX_readDesk 7 = .ok (.iconst 0, 1) := by decide +kernel
theorem zdX_readDesk_8 : decode zkX_readDesk 8 = .ok (.laload, 1) := by decide +kernel
theorem zdX_readDesk_9 : decode zkX_readDesk 9 = .ok (.lstore_n 1, 1) := by decide +kernel
theorem zdX_readDesk_10 : decode zkX_readDesk 10 = .ok (.lload_n 1, 1) := by decide +kernel
theorem zdX_readDesk_11 : decode zkX_readDesk 11 = .ok (.ldc2_w 140, 3) := by decide +kernel
theorem zdX_readDesk_14 : decode zkX_readDesk 14 = .ok (.land, 1) := by decide +kernel
theorem zdX_readDesk_15 : decode zkX_readDesk 15 = .ok (.lstore_n 3, 1) := by decide +kernel
theorem zdX_readDesk_16 : decode zkX_readDesk 16 = .ok (.lload_n 1, 1) := by decide +kernel
theorem zdX_readDesk_17 : decode zkX_readDesk 17 = .ok (.ldc2_w 142, 3) := by decide +kernel
theorem zdX_readDesk_20 : decode zkX_readDesk 20 = .ok (.ldiv, 1) := by decide +kernel
theorem zdX_readDesk_21 : decode zkX_readDesk 21 = .ok (.lstore 5, 2) := by decide +kernel
theorem zdX_readDesk_23 : decode zkX_readDesk 23 = .ok (.lload_n 3, 1) := by decide +kernel
theorem zdX_readDesk_24 : decode zkX_readDesk 24 = .ok (.ldc2_w 144, 3) := by decide +kernel
theorem zdX_readDesk_27 : decode zkX_readDesk 27 = .ok (.lcmp, 1) := by decide +kernel
theorem zdX_readDesk_28 : decode zkX_readDesk 28 = .ok (.ifCond .gt 11, 3) := by decide +kernel
theorem zdX_readDesk_31 : decode zkX_readDesk 31 = .ok (.lload 5, 2) := by decide +kernel
theorem zdX_readDesk_33 : decode zkX_readDesk 33 = .ok (.invokestatic 55, 3) := by decide +kernel
theorem zdX_readDesk_36 : decode zkX_readDesk 36 = .ok (.ifCond .ne 5, 3) := by decide +kernel
theorem zdX_readDesk_39 : decode zkX_readDesk 39 = .ok (.iconst 0, 1) := by decide +kernel
theorem zdX_readDesk_40 : decode zkX_readDesk 40 = .ok (.ireturn, 1) := by decide +kernel
theorem zdX_readDesk_41 : decode zkX_readDesk 41 = .ok (.aload_n 0, 1) := by decide +kernel
theorem zdX_readDesk_42 : decode zkX_readDesk 42 = .ok (.getfield 34, 3) := by decide +kernel
theorem zdX_readDesk_45 : decode zkX_readDesk 45 = .ok (.aload_n 0, 1) := by decide +kernel
theorem zdX_readDesk_46 : decode zkX_readDesk 46 = .ok (.getfield 24, 3) := by decide +kernel
theorem zdX_readDesk_49 : decode zkX_readDesk 49 = .ok (.lload_n 3, 1) := by decide +kernel
theorem zdX_readDesk_50 : decode zkX_readDesk 50 = .ok (.l2i, 1) := by decide +kernel
theorem zdX_readDesk_51 : decode zkX_readDesk 51 = .ok (.invokevirtual 146, 3) := by decide +kernel
theorem zdX_readDesk_54 : decode zkX_readDesk 54 = .ok (.aload_n 0, 1) := by decide +kernel
theorem zdX_readDesk_55 : decode zkX_readDesk 55 = .ok (.getfield 45, 3) := by decide +kernel
theorem zdX_readDesk_58 : decode zkX_readDesk 58 = .ok (.lload 5, 2) := by decide +kernel
theorem zdX_readDesk_60 : decode zkX_readDesk 60 = .ok (.l2i, 1) := by decide +kernel
theorem zdX_readDesk_61 : decode zkX_readDesk 61 = .ok (.putfield 77, 3) := by decide +kernel
theorem zdX_readDesk_64 : decode zkX_readDesk 64 = .ok (.aload_n 0, 1) := by decide +kernel
theorem zdX_readDesk_65 : decode zkX_readDesk 65 = .ok (.getfield 34, 3) := by decide +kernel
theorem zdX_readDesk_68 : decode zkX_readDesk 68 = .ok (.aload_n 0, 1) := by decide +kernel
theorem zdX_readDesk_69 : decode zkX_readDesk 69 = .ok (.getfield 45, 3) := by decide +kernel
theorem zdX_readDesk_72 : decode zkX_readDesk 72 = .ok (.getfield 74, 3) := by decide +kernel
theorem zdX_readDesk_75 : decode zkX_readDesk 75 = .ok (.invokevirtual 150, 3) := by decide +kernel
theorem zdX_readDesk_78 : decode zkX_readDesk 78 = .ok (.ireturn, 1) := by decide +kernel
theorem zdB_init_0 : decode zkB_init 0 = .ok (.aload_n 0, 1) := by decide +kernel
theorem zdB_init_1 : decode zkB_init 1 = .ok (.invokespecial 3, 3) := by decide +kernel
theorem zdB_init_4 : decode zkB_init 4 = .ok (.aload_n 0, 1) := by decide +kernel
theorem zdB_init_5 : decode zkB_init 5 = .ok (.bipush 61, 2) := by decide +kernel
theorem zdB_init_7 : decode zkB_init 7 = .ok (.newarray .int, 2) := by decide +kernel
theorem zdB_init_9 : decode zkB_init 9 = .ok (.putfield 9, 3) := by decide +kernel
theorem zdB_init_12 : decode zkB_init 12 = .ok (.aload_n 0, 1) := by decide +kernel
theorem zdB_init_13 : decode zkB_init 13 = .ok (.bipush 61, 2) := by decide +kernel
theorem zdB_init_15 : decode zkB_init 15 = .ok (.newarray .int, 2) := by decide +kernel
theorem zdB_init_17 : decode zkB_init 17 = .ok (.putfield 15, 3) := by decide +kernel
theorem zdB_init_20 : decode zkB_init 20 = .ok (.aload_n 0, 1) := by decide +kernel
theorem zdB_init_21 : decode zkB_init 21 = .ok (.bipush 61, 2) := by decide +kernel
theorem zdB_init_23 : decode zkB_init 23 = .ok (.newarray .int, 2) := by decide +kernel
theorem zdB_init_25 : decode zkB_init 25 = .ok (.putfield 18, 3) := by decide +kernel
theorem zdB_init_28 : decode zkB_init 28 = .ok (.aload_n 0, 1) := by decide +kernel
theorem zdB_init_29 : decode zkB_init 29 = .ok (.bipush 61, 2) := by decide +kernel
theorem zdB_init_31 : decode zkB_init 31 = .ok (.newarray .int, 2) := by decide +kernel
theorem zdB_init_33 : decode zkB_init 33 = .ok (.putfield 21, 3) := by decide +kernel
theorem zdB_init_36 : decode zkB_init 36 = .ok (.aload_n 0, 1) := by decide +kernel
theorem zdB_init_37 : decode zkB_init 37 = .ok (.iconst 0, 1) := by decide +kernel
theorem zdB_init_38 : decode zkB_init 38 = .ok (.putfield 24, 3) := by decide +kernel
theorem zdB_init_41 : decode zkB_init 41 = .ok (.return_, 1) := by decide +kernel
theorem zdB_takeFrom_0 : decode zkB_takeFrom 0 = .ok (.aload_n 0, 1) := by decide +kernel
theorem zdB_takeFrom_1 : decode zkB_takeFrom 1 = .ok (.aload_n 2, 1) := by decide +kernel
theorem zdB_takeFrom_2 : decode zkB_takeFrom 2 = .ok (.getfield 28, 3) := by decide +kernel
theorem zdB_takeFrom_5 : decode zkB_takeFrom 5 = .ok (.putfield 24, 3) := by decide +kernel
theorem zdB_takeFrom_8 : decode zkB_takeFrom 8 = .ok (.iconst 0, 1) := by decide +kernel
theorem zdB_takeFrom_9 : decode zkB_takeFrom 9 = .ok (.istore_n 3, 1) := by decide +kernel
theorem zdB_takeFrom_10 : decode zkB_takeFrom 10 = .ok (.iload_n 3, 1) := by decide +kernel
theorem zdB_takeFrom_11 : decode zkB_takeFrom 11 = .ok (.aload_n 0, 1) := by decide +kernel
theorem zdB_takeFrom_12 : decode zkB_takeFrom 12 = .ok (.getfield 24, 3) := by decide +kernel
theorem zdB_takeFrom_15 : decode zkB_takeFrom 15 = .ok (.if_icmp .gt 27, 3) := by decide +kernel
theorem zdB_takeFrom_18 : decode zkB_takeFrom 18 = .ok (.aload_n 0, 1) := by decide +kernel
theorem zdB_takeFrom_19 : decode zkB_takeFrom 19 = .ok (.getfield 9, 3) := by decide +kernel
theorem zdB_takeFrom_22 : decode zkB_takeFrom 22 = .ok (.iload_n 3, 1) := by decide +kernel
theorem zdB_takeFrom_23 : decode zkB_takeFrom 23 = .ok (.aload_n 1, 1) := by decide +kernel
theorem zdB_takeFrom_24 : decode zkB_takeFrom 24 = .ok (.aload_n 2, 1) := by decide +kernel
theorem zdB_takeFrom_25 : decode zkB_takeFrom 25 = .ok (.getfield 31, 3) := by decide +kernel
theorem zdB_takeFrom_28 : decode zkB_takeFrom 28 = .ok (.iload_n 3, 1) := by decide +kernel
theorem zdB_takeFrom_29 : decode zkB_takeFrom 29 = .ok (.iaload, 1) := by decide +kernel
theorem zdB_takeFrom_30 : decode zkB_takeFrom 30 = .ok (.iconst 1, 1) := by decide +kernel
theorem zdB_takeFrom_31 : decode zkB_takeFrom 31 = .ok (.isub, 1) := by decide +kernel
theorem zdB_takeFrom_32 : decode zkB_takeFrom 32 = .ok (.invokevirtual 34, 3) := by decide +kernel
theorem zdB_takeFrom_35 : decode zkB_takeFrom 35 = .ok (.iastore, 1) := by decide +kernel
theorem zdB_takeFrom_36 : decode zkB_takeFrom 36 = .ok (.iinc 3 1, 3) := by decide +kernel
theorem zdB_takeFrom_39 : decode zkB_takeFrom 39 = .ok (.goto (-29), 3) := by decide +kernel
theorem zdB_takeFrom_42 : decode zkB_takeFrom 42 = .ok (.return_, 1) := by decide +kernel
theorem zdB_drawLevels_0 : decode zkB_drawLevels 0 = .ok (.aload_n 0, 1) := by decide +kernel
theorem zdB_drawLevels_1 : decode zkB_drawLevels 1 = .ok (.invokevirtual 40, 3) := by decide +kernel
theorem zdB_drawLevels_4 : decode zkB_drawLevels 4 = .ok (.iconst 0, 1) := by decide +kernel
theorem zdB_drawLevels_5 : decode zkB_drawLevels 5 = .ok (.istore_n 2, 1) := by decide +kernel
theorem zdB_drawLevels_6 : decode zkB_drawLevels 6 = .ok (.iload_n 2, 1) := by decide +kernel
theorem zdB_drawLevels_7 : decode zkB_drawLevels 7 = .ok (.bipush 7, 2) := by decide +kernel
theorem zdB_drawLevels_9 : decode zkB_drawLevels 9 = .ok (.if_icmp .ge 73, 3) := by decide +kernel
theorem zdB_drawLevels_12 : decode zkB_drawLevels 12 = .ok (.lconst 0, 1) := by decide +kernel
theorem zdB_drawLevels_13 : decode zkB_drawLevels 13 = .ok (.lstore_n 3, 1) := by decide +kernel
theorem zdB_drawLevels_14 : decode zkB_drawLevels 14 = .ok (.iconst 0, 1) := by decide +kernel
theorem zdB_drawLevels_15 : decode zkB_drawLevels 15 = .ok (.istore 5, 2) := by decide +kernel
theorem zdB_drawLevels_17 : decode zkB_drawLevels 17 = .ok (.iload 5, 2) := by decide +kernel
theorem zdB_drawLevels_19 : decode zkB_drawLevels 19 = .ok (.aload_n 0, 1) := by decide +kernel
theorem zdB_drawLevels_20 : decode zkB_drawLevels 20 = .ok (.getfield 24, 3) := by decide +kernel
theorem zdB_drawLevels_23 : decode zkB_drawLevels 23 = .ok (.if_icmp .gt 39, 3) := by decide +kernel
theorem zdB_drawLevels_26 : decode zkB_drawLevels 26 = .ok (.aload_n 0, 1) := by decide +kernel
theorem zdB_drawLevels_27 : decode zkB_drawLevels 27 = .ok (.getfield 9, 3) := by decide +kernel
theorem zdB_drawLevels_30 : decode zkB_drawLevels 30 = .ok (.aload_n 0, 1) := by decide +kernel
theorem zdB_drawLevels_31 : decode zkB_drawLevels 31 = .ok (.getfield 15, 3) := by decide +kernel
theorem zdB_drawLevels_34 : decode zkB_drawLevels 34 = .ok (.iload 5, 2) := by decide +kernel
theorem zdB_drawLevels_36 : decode zkB_drawLevels 36 = .ok (.iaload, 1) := by decide +kernel
theorem zdB_drawLevels_37 : decode zkB_drawLevels 37 = .ok (.iaload, 1) := by decide +kernel
theorem zdB_drawLevels_38 : decode zkB_drawLevels 38 = .ok (.bipush 6, 2) := by decide +kernel
theorem zdB_drawLevels_40 : decode zkB_drawLevels 40 = .ok (.iload_n 2, 1) := by decide +kernel
theorem zdB_drawLevels_41 : decode zkB_drawLevels 41 = .ok (.isub, 1) := by decide +kernel
theorem zdB_drawLevels_42 : decode zkB_drawLevels 42 = .ok (.ishr, 1) := by decide +kernel
theorem zdB_drawLevels_43 : decode zkB_drawLevels 43 = .ok (.iconst 1, 1) := by decide +kernel
theorem zdB_drawLevels_44 : decode zkB_drawLevels 44 = .ok (.iand, 1) := by decide +kernel
theorem zdB_drawLevels_45 : decode zkB_drawLevels 45 = .ok (.i2l, 1) := by decide +kernel
theorem zdB_drawLevels_46 : decode zkB_drawLevels 46 = .ok (.lstore 6, 2) := by decide +kernel
theorem zdB_drawLevels_48 : decode zkB_drawLevels 48 = .ok (.lload_n 3, 1) := by decide +kernel
theorem zdB_drawLevels_49 : decode zkB_drawLevels 49 = .ok (.lload 6, 2) := by decide +kernel
theorem zdB_drawLevels_51 : decode zkB_drawLevels 51 = .ok (.iload 5, 2) := by decide +kernel
theorem zdB_drawLevels_53 : decode zkB_drawLevels 53 = .ok (.lshl, 1) := by decide +kernel
theorem zdB_drawLevels_54 : decode zkB_drawLevels 54 = .ok (.lor, 1) := by decide +kernel
theorem zdB_drawLevels_55 : decode zkB_drawLevels 55 = .ok (.lstore_n 3, 1) := by decide +kernel
theorem zdB_drawLevels_56 : decode zkB_drawLevels 56 = .ok (.iinc 5 1, 3) := by decide +kernel
theorem zdB_drawLevels_59 : decode zkB_drawLevels 59 = .ok (.goto (-42), 3) := by decide +kernel
theorem zdB_drawLevels_62 : decode zkB_drawLevels 62 = .ok (.aload_n 1, 1) := by decide +kernel
theorem zdB_drawLevels_63 : decode zkB_drawLevels 63 = .ok (.getfield 43, 3) := by decide +kernel
theorem zdB_drawLevels_66 : decode zkB_drawLevels 66 = .ok (.iconst 1, 1) := by decide +kernel
theorem zdB_drawLevels_67 : decode zkB_drawLevels 67 = .ok (.iload_n 2, 1) := by decide +kernel
theorem zdB_drawLevels_68 : decode zkB_drawLevels 68 = .ok (.iadd, 1) := by decide +kernel
theorem zdB_drawLevels_69 : decode zkB_drawLevels 69 = .ok (.lload_n 3, 1) := by decide +kernel
theorem zdB_drawLevels_70 : decode zkB_drawLevels 70 = .ok (.lastore, 1) := by decide +kernel
theorem zdB_drawLevels_71 : decode zkB_drawLevels 71 = .ok (.aload_n 0, 1) := by decide +kernel
theorem zdB_drawLevels_72 : decode zkB_drawLevels 72 = .ok (.lload_n 3, 1) := by decide +kernel
theorem zdB_drawLevels_73 : decode zkB_drawLevels 73 = .ok (.invokevirtual 49, 3) := by decide +kernel
theorem zdB_drawLevels_76 : decode zkB_drawLevels 76 = .ok (.iinc 2 1, 3) := by decide +kernel
theorem zdB_drawLevels_79 : decode zkB_drawLevels 79 = .ok (.goto (-73), 3) := by decide +kernel
theorem zdB_drawLevels_82 : decode zkB_drawLevels 82 = .ok (.return_, 1) := by decide +kernel
theorem zdB_readLevels_0 : decode zkB_readLevels 0 = .ok (.aload_n 0, 1) := by decide +kernel
theorem zdB_readLevels_1 : decode zkB_readLevels 1 = .ok (.iload_n 2, 1) := by decide +kernel
theorem zdB_readLevels_2 : decode zkB_readLevels 2 = .ok (.putfield 24, 3) := by decide +kernel
theorem zdB_readLevels_5 : decode zkB_readLevels 5 = .ok (.aload_n 0, 1) := by decide +kernel
theorem zdB_readLevels_6 : decode zkB_readLevels 6 = .ok (.invokevirtual 40, 3) := by decide +kernel
theorem zdB_readLevels_9 : decode zkB_readLevels 9 = .ok (.iconst 0, 1) := by decide +kernel
theorem zdB_readLevels_10 : decode zkB_readLevels 10 = .ok (.istore_n 3, 1) := by decide +kernel
theorem zdB_readLevels_11 : decode zkB_readLevels 11 = .ok (.iload_n 3, 1) := by decide +kernel
theorem zdB_readLevels_12 : decode zkB_readLevels 12 = .ok (.aload_n 0, 1) := by decide +kernel
theorem zdB_readLevels_13 : decode zkB_readLevels 13 = .ok (.getfield 24, 3) := by decide +kernel
theorem zdB_readLevels_16 : decode zkB_readLevels 16 = .ok (.if_icmp .gt 16, 3) := by decide +kernel
theorem zdB_readLevels_19 : decode zkB_readLevels 19 = .ok (.aload_n 0, 1) := by decide +kernel
theorem zdB_readLevels_20 : decode zkB_readLevels 20 = .ok (.getfield 9, 3) := by decide +kernel
theorem zdB_readLevels_23 : decode zkB_readLevels 23 = .ok (.iload_n 3, 1) := by decide +kernel
theorem zdB_readLevels_24 : decode zkB_readLevels 24 = .ok (.iconst 0, 1) := by decide +kernel
theorem zdB_readLevels_25 : decode zkB_readLevels 25 = .ok (.iastore, 1) := by decide +kernel
theorem zdB_readLevels_26 : decode zkB_readLevels 26 = .ok (.iinc 3 1, 3) := by decide +kernel
theorem zdB_readLevels_29 : decode zkB_readLevels 29 = .ok (.goto (-18), 3) := by decide +kernel
theorem zdB_readLevels_32 : decode zkB_readLevels 32 = .ok (.iconst 0, 1) := by decide +kernel
theorem zdB_readLevels_33 : decode zkB_readLevels 33 = .ok (.istore_n 3, 1) := by decide +kernel
theorem zdB_readLevels_34 : decode zkB_readLevels 34 = .ok (.iload_n 3, 1) := by decide +kernel
theorem zdB_readLevels_35 : decode zkB_readLevels 35 = .ok (.bipush 7, 2) := by decide +kernel
theorem zdB_readLevels_37 : decode zkB_readLevels 37 = .ok (.if_icmp .ge 82, 3) := by decide +kernel
theorem zdB_readLevels_40 : decode zkB_readLevels 40 = .ok (.aload_n 1, 1) := by decide +kernel
theorem zdB_readLevels_41 : decode zkB_readLevels 41 = .ok (.getfield 43, 3) := by decide +kernel
theorem zdB_readLevels_44 : decode zkB_readLevels 44 = .ok (.iconst 1, 1) := by decide +kernel
theorem zdB_readLevels_45 : decode zkB_readLevels 45 = .ok (.iload_n 3, 1) := by decide +kernel
theorem zdB_readLevels_46 : decode zkB_readLevels 46 = .ok (.iadd, 1) := by decide +kernel
theorem zdB_readLevels_47 : decode zkB_readLevels 47 = .ok (.laload, 1) := by decide +kernel
theorem zdB_readLevels_48 : decode zkB_readLevels 48 = .ok (.lstore 4, 2) := by decide +kernel
theorem zdB_readLevels_50 : decode zkB_readLevels 50 = .ok (.iconst 0, 1) := by decide +kernel
theorem zdB_readLevels_51 : decode zkB_readLevels 51 = .ok (.istore 6, 2) := by decide +kernel
theorem zdB_readLevels_53 : decode zkB_readLevels 53 = .ok (.iload 6, 2) := by decide +kernel
theorem zdB_readLevels_55 : decode zkB_readLevels 55 = .ok (.aload_n 0, 1) := by decide +kernel
theorem zdB_readLevels_56 : decode zkB_readLevels 56 = .ok (.getfield 24, 3) := by decide +kernel
theorem zdB_readLevels_59 : decode zkB_readLevels 59 = .ok (.if_icmp .gt 48, 3) := by decide +kernel
theorem zdB_readLevels_62 : decode zkB_readLevels 62 = .ok (.lload 4, 2) := by decide +kernel
theorem zdB_readLevels_64 : decode zkB_readLevels 64 = .ok (.iload 6, 2) := by decide +kernel
theorem zdB_readLevels_66 : decode zkB_readLevels 66 = .ok (.lushr, 1) := by decide +kernel
theorem zdB_readLevels_67 : decode zkB_readLevels 67 = .ok (.lconst 1, 1) := by decide +kernel
theorem zdB_readLevels_68 : decode zkB_readLevels 68 = .ok (.land, 1) := by decide +kernel
theorem zdB_readLevels_69 : decode zkB_readLevels 69 = .ok (.l2i, 1) := by decide +kernel
theorem zdB_readLevels_70 : decode zkB_readLevels 70 = .ok (.istore 7, 2) := by decide +kernel
theorem zdB_readLevels_72 : decode zkB_readLevels 72 = .ok (.aload_n 0, 1) := by decide +kernel
theorem zdB_readLevels_73 : decode zkB_readLevels 73 = .ok (.getfield 9, 3) := by decide +kernel
theorem zdB_readLevels_76 : decode zkB_readLevels 76 = .ok (.aload_n 0, 1) := by decide +kernel
theorem zdB_readLevels_77 : decode zkB_readLevels 77 = .ok (.getfield 15, 3) := by decide +kernel
theorem zdB_readLevels_80 : decode zkB_readLevels 80 = .ok (.iload 6, 2) := by decide +kernel
theorem zdB_readLevels_82 : decode zkB_readLevels 82 = .ok (.iaload, 1) := by decide +kernel
theorem zdB_readLevels_83 : decode zkB_readLevels 83 = .ok (.iconst 2, 1) := by decide +kernel
theorem zdB_readLevels_84 : decode zkB_readLevels 84 = .ok (.aload_n 0, 1) := by decide +kernel
theorem zdB_readLevels_85 : decode zkB_readLevels 85 = .ok (.getfield 9, 3) := by decide +kernel
theorem zdB_readLevels_88 : decode zkB_readLevels 88 = .ok (.aload_n 0, 1) := by decide +kernel
theorem zdB_readLevels_89 : decode zkB_readLevels 89 = .ok (.getfield 15, 3) := by decide +kernel
theorem zdB_readLevels_92 : decode zkB_readLevels 92 = .ok (.iload 6, 2) := by decide +kernel
theorem zdB_readLevels_94 : decode zkB_readLevels 94 = .ok (.iaload, 1) := by decide +kernel
theorem zdB_readLevels_95 : decode zkB_readLevels 95 = .ok (.iaload, 1) := by decide +kernel
theorem zdB_readLevels_96 : decode zkB_readLevels 96 = .ok (.imul, 1) := by decide +kernel
theorem zdB_readLevels_97 : decode zkB_readLevels 97 = .ok (.iload 7, 2) := by decide +kernel
theorem zdB_readLevels_99 : decode zkB_readLevels 99 = .ok (.iadd, 1) := by decide +kernel
theorem zdB_readLevels_100 : decode zkB_readLevels 100 = .ok (.iastore, 1) := by decide +kernel
theorem zdB_readLevels_101 : decode zkB_readLevels 101 = .ok (.iinc 6 1, 3) := by decide +kernel
theorem zdB_readLevels_104 : decode zkB_readLevels 104 = .ok (.goto (-51), 3) := by decide +kernel
theorem zdB_readLevels_107 : decode zkB_readLevels 107 = .ok (.aload_n 0, 1) := by decide +kernel
theorem zdB_readLevels_108 : decode zkB_readLevels 108 = .ok (.lload 4, 2) := by decide +kernel
theorem zdB_readLevels_110 : decode zkB_readLevels 110 = .ok (.invokevirtual 49, 3) := by decide +kernel
theorem zdB_readLevels_113 : decode zkB_readLevels 113 = .ok (.iinc 3 1, 3) := by decide +kernel
theorem zdB_readLevels_116 : decode zkB_readLevels 116 = .ok (.goto (-82), 3) := by decide +kernel
theorem zdB_readLevels_119 : decode zkB_readLevels 119 = .ok (.return_, 1) := by decide +kernel
theorem zdB_spell_0 : decode zkB_spell 0 = .ok (.iconst 0, 1) := by decide +kernel
theorem zdB_spell_1 : decode zkB_spell 1 = .ok (.istore_n 2, 1) := by decide +kernel
theorem zdB_spell_2 : decode zkB_spell 2 = .ok (.iload_n 2, 1) := by decide +kernel
theorem zdB_spell_3 : decode zkB_spell 3 = .ok (.aload_n 0, 1) := by decide +kernel
theorem zdB_spell_4 : decode zkB_spell 4 = .ok (.getfield 24, 3) := by decide +kernel
theorem zdB_spell_7 : decode zkB_spell 7 = .ok (.if_icmp .gt 20, 3) := by decide +kernel
theorem zdB_spell_10 : decode zkB_spell 10 = .ok (.aload_n 0, 1) := by decide +kernel
theorem zdB_spell_11 : decode zkB_spell 11 = .ok (.getfield 21, 3) := by decide +kernel
theorem zdB_spell_14 : decode zkB_spell 14 = .ok (.aload_n 0, 1) := by decide +kernel
theorem zdB_spell_15 : decode zkB_spell 15 = .ok (.iload_n 2, 1) := by decide +kernel
theorem zdB_spell_16 : decode zkB_spell 16 = .ok (.invokevirtual 53, 3) := by decide +kernel
theorem zdB_spell_19 : decode zkB_spell 19 = .ok (.iload_n 2, 1) := by decide +kernel
theorem zdB_spell_20 : decode zkB_spell 20 = .ok (.iastore, 1) := by decide +kernel
theorem zdB_spell_21 : decode zkB_spell 21 = .ok (.iinc 2 1, 3) := by decide +kernel
theorem zdB_spell_24 : decode zkB_spell 24 = .ok (.goto (-22), 3) := by decide +kernel
theorem zdB_spell_27 : decode zkB_spell 27 = .ok (.aload_n 1, 1) := by decide +kernel
theorem zdB_spell_28 : decode zkB_spell 28 = .ok (.invokevirtual 56, 3) := by decide +kernel
theorem zdB_spell_31 : decode zkB_spell 31 = .ok (.aload_n 0, 1) := by decide +kernel
theorem zdB_spell_32 : decode zkB_spell 32 = .ok (.getfield 21, 3) := by decide +kernel
theorem zdB_spell_35 : decode zkB_spell 35 = .ok (.iconst 0, 1) := by decide +kernel
theorem zdB_spell_36 : decode zkB_spell 36 = .ok (.iaload, 1) := by decide +kernel
theorem zdB_spell_37 : decode zkB_spell 37 = .ok (.istore_n 2, 1) := by decide +kernel
theorem zdB_spell_38 : decode zkB_spell 38 = .ok (.iconst 0, 1) := by decide +kernel
theorem zdB_spell_39 : decode zkB_spell 39 = .ok (.istore_n 3, 1) := by decide +kernel
theorem zdB_spell_40 : decode zkB_spell 40 = .ok (.iload_n 3, 1) := by decide +kernel
theorem zdB_spell_41 : decode zkB_spell 41 = .ok (.aload_n 0, 1) := by decide +kernel
theorem zdB_spell_42 : decode zkB_spell 42 = .ok (.getfield 24, 3) := by decide +kernel
theorem zdB_spell_45 : decode zkB_spell 45 = .ok (.if_icmp .ge 31, 3) := by decide +kernel
theorem zdB_spell_48 : decode zkB_spell 48 = .ok (.aload_n 0, 1) := by decide +kernel
theorem zdB_spell_49 : decode zkB_spell 49 = .ok (.getfield 21, 3) := by decide +kernel
theorem zdB_spell_52 : decode zkB_spell 52 = .ok (.iload_n 2, 1) := by decide +kernel
theorem zdB_spell_53 : decode zkB_spell 53 = .ok (.iaload, 1) := by decide +kernel
theorem zdB_spell_54 : decode zkB_spell 54 = .ok (.istore_n 2, 1) := by decide +kernel
theorem zdB_spell_55 : decode zkB_spell 55 = .ok (.aload_n 1, 1) := by decide +kernel
theorem zdB_spell_56 : decode zkB_spell 56 = .ok (.aload_n 0, 1) := by decide +kernel
theorem zdB_spell_57 : decode zkB_spell 57 = .ok (.getfield 9, 3) := by decide +kernel
theorem zdB_spell_60 : decode zkB_spell 60 = .ok (.iload_n 2, 1) := by decide +kernel
theorem zdB_spell_61 : decode zkB_spell 61 = .ok (.iaload, 1) := by decide +kernel
theorem zdB_spell_62 : decode zkB_spell 62 = .ok (.invokevirtual 59, 3) := by decide +kernel
theorem zdB_spell_65 : decode zkB_spell 65 = .ok (.ifCond .ne 5, 3) := by decide +kernel
theorem zdB_spell_68 : decode zkB_spell 68 = .ok (.iconst 0, 1) := by decide +kernel
theorem zdB_spell_69 : decode zkB_spell 69 = .ok (.ireturn, 1) := by decide +kernel
theorem zdB_spell_70 : decode zkB_spell 70 = .ok (.iinc 3 1, 3) := by decide +kernel
theorem zdB_spell_73 : decode zkB_spell 73 = .ok (.goto (-33), 3) := by decide +kernel
theorem zdB_spell_76 : decode zkB_spell 76 = .ok (.iconst 1, 1) := by decide +kernel
theorem zdB_spell_77 : decode zkB_spell 77 = .ok (.ireturn, 1) := by decide +kernel
theorem zdB_rowBefore_0 : decode zkB_rowBefore 0 = .ok (.iconst 0, 1) := by decide +kernel
theorem zdB_rowBefore_1 : decode zkB_rowBefore 1 = .ok (.istore_n 2, 1) := by decide +kernel
theorem zdB_rowBefore_2 : decode zkB_rowBefore 2 = .ok (.iconst 0, 1) := by decide +kernel
theorem zdB_rowBefore_3 : decode zkB_rowBefore 3 = .ok (.istore_n 3, 1) := by decide +kernel
theorem zdB_rowBefore_4 : decode zkB_rowBefore 4 = .ok (.iload_n 3, 1) := by decide +kernel
theorem zdB_rowBefore_5 : decode zkB_rowBefore 5 = .ok (.aload_n 0, 1) := by decide +kernel
theorem zdB_rowBefore_6 : decode zkB_rowBefore 6 = .ok (.getfield 24, 3) := by decide +kernel
theorem zdB_rowBefore_9 : decode zkB_rowBefore 9 = .ok (.if_icmp .gt 47, 3) := by decide +kernel
theorem zdB_rowBefore_12 : decode zkB_rowBefore 12 = .ok (.aload_n 0, 1) := by decide +kernel
theorem zdB_rowBefore_13 : decode zkB_rowBefore 13 = .ok (.getfield 9, 3) := by decide +kernel
theorem zdB_rowBefore_16 : decode zkB_rowBefore 16 = .ok (.iload_n 3, 1) := by decide +kernel
theorem zdB_rowBefore_17 : decode zkB_rowBefore 17 = .ok (.iaload, 1) := by decide +kernel
theorem zdB_rowBefore_18 : decode zkB_rowBefore 18 = .ok (.aload_n 0, 1) := by decide +kernel
theorem zdB_rowBefore_19 : decode zkB_rowBefore 19 = .ok (.getfield 9, 3) := by decide +kernel
theorem zdB_rowBefore_22 : decode zkB_rowBefore 22 = .ok (.iload_n 1, 1) := by decide +kernel
theorem zdB_rowBefore_23 : decode zkB_rowBefore 23 = .ok (.iaload, 1) := by decide +kernel
theorem zdB_rowBefore_24 : decode zkB_rowBefore 24 = .ok (.if_icmp .lt 23, 3) := by decide +kernel
theorem zdB_rowBefore_27 : decode zkB_rowBefore 27 = .ok (.aload_n 0, 1) := by decide +kernel
theorem zdB_rowBefore_28 : decode zkB_rowBefore 28 = .ok (.getfield 9, 3) := by decide +kernel
theorem zdB_rowBefore_31 : decode zkB_rowBefore 31 = .ok (.iload_n 3, 1) := by decide +kernel
theorem zdB_rowBefore_32 : decode zkB_rowBefore 32 = .ok (.iaload, 1) := by decide +kernel
theorem zdB_rowBefore_33 : decode zkB_rowBefore 33 = .ok (.aload_n 0, 1) := by decide +kernel
theorem zdB_rowBefore_34 : decode zkB_rowBefore 34 = .ok (.getfield 9, 3) := by decide +kernel
theorem zdB_rowBefore_37 : decode zkB_rowBefore 37 = .ok (.iload_n 1, 1) := by decide +kernel
theorem zdB_rowBefore_38 : decode zkB_rowBefore 38 = .ok (.iaload, 1) := by decide +kernel
theorem zdB_rowBefore_39 : decode zkB_rowBefore 39 = .ok (.if_icmp .ne 11, 3) := by decide +kernel
theorem zdB_rowBefore_42 : decode zkB_rowBefore 42 = .ok (.iload_n 3, 1) := by decide +kernel
theorem zdB_rowBefore_43 : decode zkB_rowBefore 43 = .ok (.iload_n 1, 1) := by decide +kernel
theorem zdB_rowBefore_44 : decode zkB_rowBefore 44 = .ok (.if_icmp .ge 6, 3) := by decide +kernel
theorem zdB_rowBefore_47 : decode zkB_rowBefore 47 = .ok (.iinc 2 1, 3) := by decide +kernel
theorem zdB_rowBefore_50 : decode zkB_rowBefore 50 = .ok (.iinc 3 1, 3) := by decide +kernel
theorem zdB_rowBefore_53 : decode zkB_rowBefore 53 = .ok (.goto (-49), 3) := by decide +kernel
theorem zdB_rowBefore_56 : decode zkB_rowBefore 56 = .ok (.iload_n 2, 1) := by decide +kernel
theorem zdB_rowBefore_57 : decode zkB_rowBefore 57 = .ok (.ireturn, 1) := by decide +kernel
theorem zdB_startOrder_0 : decode zkB_startOrder 0 = .ok (.iconst 0, 1) := by decide +kernel
theorem zdB_startOrder_1 : decode zkB_startOrder 1 = .ok (.istore_n 1, 1) := by decide +kernel
theorem zdB_startOrder_2 : decode zkB_startOrder 2 = .ok (.iload_n 1, 1) := by decide +kernel
theorem zdB_startOrder_3 : decode zkB_startOrder 3 = .ok (.aload_n 0, 1) := by decide +kernel
theorem zdB_startOrder_4 : decode zkB_startOrder 4 = .ok (.getfield 24, 3) := by decide +kernel
theorem zdB_startOrder_7 : decode zkB_startOrder 7 = .ok (.if_icmp .gt 16, 3) := by decide +kernel
theorem zdB_startOrder_10 : decode zkB_startOrder 10 = .ok (.aload_n 0, 1) := by decide +kernel
theorem zdB_startOrder_11 : decode zkB_startOrder 11 = .ok (.getfield 15, 3) := by decide +kernel
theorem zdB_startOrder_14 : decode zkB_startOrder 14 = .ok (.iload_n 1, 1) := by decide +kernel
theorem zdB_startOrder_15 : decode zkB_startOrder 15 = .ok (.iload_n 1, 1) := by decide +kernel
theorem zdB_startOrder_16 : decode zkB_startOrder 16 = .ok (.iastore, 1) := by decide +kernel
theorem zdB_startOrder_17 : decode zkB_startOrder 17 = .ok (.iinc 1 1, 3) := by decide +kernel
theorem zdB_startOrder_20 : decode zkB_startOrder 20 = .ok (.goto (-18), 3) := by decide +kernel
theorem zdB_startOrder_23 : decode zkB_startOrder 23 = .ok (.return_, 1) := by decide +kernel
theorem zdB_partOrder_0 : decode zkB_partOrder 0 = .ok (.iconst 0, 1) := by decide +kernel
theorem zdB_partOrder_1 : decode zkB_partOrder 1 = .ok (.istore_n 3, 1) := by decide +kernel
theorem zdB_partOrder_2 : decode zkB_partOrder 2 = .ok (.iconst 0, 1) := by decide +kernel
theorem zdB_partOrder_3 : decode zkB_partOrder 3 = .ok (.istore 4, 2) := by decide +kernel
theorem zdB_partOrder_5 : decode zkB_partOrder 5 = .ok (.iconst 0, 1) := by decide +kernel
theorem zdB_partOrder_6 : decode zkB_partOrder 6 = .ok (.istore 5, 2) := by decide +kernel
theorem zdB_partOrder_8 : decode zkB_partOrder 8 = .ok (.iload 5, 2) := by decide +kernel
theorem zdB_partOrder_10 : decode zkB_partOrder 10 = .ok (.aload_n 0, 1) := by decide +kernel
theorem zdB_partOrder_11 : decode zkB_partOrder 11 = .ok (.getfield 24, 3) := by decide +kernel
theorem zdB_partOrder_14 : decode zkB_partOrder 14 = .ok (.if_icmp .gt 56, 3) := by decide +kernel
theorem zdB_partOrder_17 : decode zkB_partOrder 17 = .ok (.lload_n 1, 1) := by decide +kernel
theorem zdB_partOrder_18 : decode zkB_partOrder 18 = .ok (.iload 5, 2) := by decide +kernel
theorem zdB_partOrder_20 : decode zkB_partOrder 20 = .ok (.lushr, 1) := by decide +kernel
theorem zdB_partOrder_21 : decode zkB_partOrder 21 = .ok (.lconst 1, 1) := by decide +kernel
theorem zdB_partOrder_22 : decode zkB_partOrder 22 = .ok (.land, 1) := by decide +kernel
theorem zdB_partOrder_23 : decode zkB_partOrder 23 = .ok (.lconst 0, 1) := by decide +kernel
theorem zdB_partOrder_24 : decode zkB_partOrder 24 = .ok (.lcmp, 1) := by decide +kernel
theorem zdB_partOrder_25 : decode zkB_partOrder 25 = .ok (.ifCond .ne 22, 3) := by decide +kernel
theorem zdB_partOrder_28 : decode zkB_partOrder 28 = .ok (.aload_n 0, 1) := by decide +kernel
theorem zdB_partOrder_29 : decode zkB_partOrder 29 = .ok (.getfield 15, 3) := by decide +kernel
theorem zdB_partOrder_32 : decode zkB_partOrder 32 = .ok (.iload_n 3, 1) := by decide +kernel
theorem zdB_partOrder_33 : decode zkB_partOrder 33 = .ok (.aload_n 0, 1) := by decide +kernel
theorem zdB_partOrder_34 : decode zkB_partOrder 34 = .ok (.getfield 15, 3) := by decide +kernel
theorem zdB_partOrder_37 : decode zkB_partOrder 37 = .ok (.iload 5, 2) := by decide +kernel
theorem zdB_partOrder_39 : decode zkB_partOrder 39 = .ok (.iaload, 1) := by decide +kernel
theorem zdB_partOrder_40 : decode zkB_partOrder 40 = .ok (.iastore, 1) := by decide +kernel
theorem zdB_partOrder_41 : decode zkB_partOrder 41 = .ok (.iinc 3 1, 3) := by decide +kernel
theorem zdB_partOrder_44 : decode zkB_partOrder 44 = .ok (.goto 20, 3) := by decide +kernel
theorem zdB_partOrder_47 : decode zkB_partOrder 47 = .ok (.aload_n 0, 1) := by decide +kernel
theorem zdB_partOrder_48 : decode zkB_partOrder 48 = .ok (.getfield 18, 3) := by decide +kernel
theorem zdB_partOrder_51 : decode zkB_partOrder 51 = .ok (.iload 4, 2) := by decide +kernel
theorem zdB_partOrder_53 : decode zkB_partOrder 53 = .ok (.aload_n 0, 1) := by decide +kernel
theorem zdB_partOrder_54 : decode zkB_partOrder 54 = .ok (.getfield 15, 3) := by decide +kernel
theorem zdB_partOrder_57 : decode zkB_partOrder 57 = .ok (.iload 5, 2) := by decide +kernel
theorem zdB_partOrder_59 : decode zkB_partOrder 59 = .ok (.iaload, 1) := by decide +kernel
theorem zdB_partOrder_60 : decode zkB_partOrder 60 = .ok (.iastore, 1) := by decide +kernel
theorem zdB_partOrder_61 : decode zkB_partOrder 61 = .ok (.iinc 4 1, 3) := by decide +kernel
theorem zdB_partOrder_64 : decode zkB_partOrder 64 = .ok (.iinc 5 1, 3) := by decide +kernel
theorem zdB_partOrder_67 : decode zkB_partOrder 67 = .ok (.goto (-59), 3) := by decide +kernel
theorem zdB_partOrder_70 : decode zkB_partOrder 70 = .ok (.iconst 0, 1) := by decide +kernel
theorem zdB_partOrder_71 : decode zkB_partOrder 71 = .ok (.istore 5, 2) := by decide +kernel
theorem zdB_partOrder_73 : decode zkB_partOrder 73 = .ok (.iload 5, 2) := by decide +kernel
theorem zdB_partOrder_75 : decode zkB_partOrder 75 = .ok (.iload 4, 2) := by decide +kernel
theorem zdB_partOrder_77 : decode zkB_partOrder 77 = .ok (.if_icmp .ge 25, 3) := by decide +kernel
theorem zdB_partOrder_80 : decode zkB_partOrder 80 = .ok (.aload_n 0, 1) := by decide +kernel
theorem zdB_partOrder_81 : decode zkB_partOrder 81 = .ok (.getfield 15, 3) := by decide +kernel
theorem zdB_partOrder_84 : decode zkB_partOrder 84 = .ok (.iload_n 3, 1) := by decide +kernel
theorem zdB_partOrder_85 : decode zkB_partOrder 85 = .ok (.iload 5, 2) := by decide +kernel
theorem zdB_partOrder_87 : decode zkB_partOrder 87 = .ok (.iadd, 1) := by decide +kernel
theorem zdB_partOrder_88 : decode zkB_partOrder 88 = .ok (.aload_n 0, 1) := by decide +kernel
theorem zdB_partOrder_89 : decode zkB_partOrder 89 = .ok (.getfield 18, 3) := by decide +kernel
theorem zdB_partOrder_92 : decode zkB_partOrder 92 = .ok (.iload 5, 2) := by decide +kernel
theorem zdB_partOrder_94 : decode zkB_partOrder 94 = .ok (.iaload, 1) := by decide +kernel
theorem zdB_partOrder_95 : decode zkB_partOrder 95 = .ok (.iastore, 1) := by decide +kernel
theorem zdB_partOrder_96 : decode zkB_partOrder 96 = .ok (.iinc 5 1, 3) := by decide +kernel
theorem zdB_partOrder_99 : decode zkB_partOrder 99 = .ok (.goto (-26), 3) := by decide +kernel
theorem zdB_partOrder_102 : decode zkB_partOrder 102 = .ok (.return_, 1) := by decide +kernel
theorem zdI_init_0 : decode zkI_init 0 = .ok (.aload_n 0, 1) := by decide +kernel
theorem zdI_init_1 : decode zkI_init 1 = .ok (.invokespecial 3, 3) := by decide +kernel
theorem zdI_init_4 : decode zkI_init 4 = .ok (.aload_n 0, 1) := by decide +kernel
theorem zdI_init_5 : decode zkI_init 5 = .ok (.bipush 23, 2) := by decide +kernel
theorem zdI_init_7 : decode zkI_init 7 = .ok (.newarray .long, 2) := by decide +kernel
theorem zdI_init_9 : decode zkI_init 9 = .ok (.putfield 9, 3) := by decide +kernel
theorem zdI_init_12 : decode zkI_init 12 = .ok (.return_, 1) := by decide +kernel
theorem zdI_isSameAs_0 : decode zkI_isSameAs 0 = .ok (.iconst 0, 1) := by decide +kernel
theorem zdI_isSameAs_1 : decode zkI_isSameAs 1 = .ok (.istore_n 2, 1) := by decide +kernel
theorem zdI_isSameAs_2 : decode zkI_isSameAs 2 = .ok (.iload_n 2, 1) := by decide +kernel
theorem zdI_isSameAs_3 : decode zkI_isSameAs 3 = .ok (.bipush 23, 2) := by decide +kernel
theorem zdI_isSameAs_5 : decode zkI_isSameAs 5 = .ok (.if_icmp .ge 27, 3) := by decide +kernel
theorem zdI_isSameAs_8 : decode zkI_isSameAs 8 = .ok (.aload_n 0, 1) := by decide +kernel
theorem zdI_isSameAs_9 : decode zkI_isSameAs 9 = .ok (.getfield 9, 3) := by decide +kernel
theorem zdI_isSameAs_12 : decode zkI_isSameAs 12 = .ok (.iload_n 2, 1) := by decide +kernel
theorem zdI_isSameAs_13 : decode zkI_isSameAs 13 = .ok (.laload, 1) := by decide +kernel
theorem zdI_isSameAs_14 : decode zkI_isSameAs 14 = .ok (.aload_n 1, 1) := by decide +kernel
theorem zdI_isSameAs_15 : decode zkI_isSameAs 15 = .ok (.getfield 9, 3) := by decide +kernel
theorem zdI_isSameAs_18 : decode zkI_isSameAs 18 = .ok (.iload_n 2, 1) := by decide +kernel
theorem zdI_isSameAs_19 : decode zkI_isSameAs 19 = .ok (.laload, 1) := by decide +kernel
theorem zdI_isSameAs_20 : decode zkI_isSameAs 20 = .ok (.lcmp, 1) := by decide +kernel
theorem zdI_isSameAs_21 : decode zkI_isSameAs 21 = .ok (.ifCond .eq 5, 3) := by decide +kernel
theorem zdI_isSameAs_24 : decode zkI_isSameAs 24 = .ok (.iconst 0, 1) := by decide +kernel
theorem zdI_isSameAs_25 : decode zkI_isSameAs 25 = .ok (.ireturn, 1) := by decide +kernel
theorem zdI_isSameAs_26 : decode zkI_isSameAs 26 = .ok (.iinc 2 1, 3) := by decide +kernel
theorem zdI_isSameAs_29 : decode zkI_isSameAs 29 = .ok (.goto (-27), 3) := by decide +kernel
theorem zdI_isSameAs_32 : decode zkI_isSameAs 32 = .ok (.iconst 1, 1) := by decide +kernel
theorem zdI_isSameAs_33 : decode zkI_isSameAs 33 = .ok (.ireturn, 1) := by decide +kernel
theorem zdI_draw_0 : decode zkI_draw 0 = .ok (.iconst 0, 1) := by decide +kernel
theorem zdI_draw_1 : decode zkI_draw 1 = .ok (.istore 4, 2) := by decide +kernel
theorem zdI_draw_3 : decode zkI_draw 3 = .ok (.iload 4, 2) := by decide +kernel
theorem zdI_draw_5 : decode zkI_draw 5 = .ok (.bipush 23, 2) := by decide +kernel
theorem zdI_draw_7 : decode zkI_draw 7 = .ok (.if_icmp .ge 17, 3) := by decide +kernel
theorem zdI_draw_10 : decode zkI_draw 10 = .ok (.aload_n 0, 1) := by decide +kernel
theorem zdI_draw_11 : decode zkI_draw 11 = .ok (.getfield 9, 3) := by decide +kernel
theorem zdI_draw_14 : decode zkI_draw 14 = .ok (.iload 4, 2) := by decide +kernel
theorem zdI_draw_16 : decode zkI_draw 16 = .ok (.lconst 0, 1) := by decide +kernel
theorem zdI_draw_17 : decode zkI_draw 17 = .ok (.lastore, 1) := by decide +kernel
theorem zdI_draw_18 : decode zkI_draw 18 = .ok (.iinc 4 1, 3) := by decide +kernel
theorem zdI_draw_21 : decode zkI_draw 21 = .ok (.goto (-18), 3) := by decide +kernel
theorem zdI_draw_24 : decode zkI_draw 24 = .ok (.aload_n 0, 1) := by decide +kernel
theorem zdI_draw_25 : decode zkI_draw 25 = .ok (.getfield 9, 3) := by decide +kernel
theorem zdI_draw_28 : decode zkI_draw 28 = .ok (.iconst 0, 1) := by decide +kernel
theorem zdI_draw_29 : decode zkI_draw 29 = .ok (.aload_n 2, 1) := by decide +kernel
theorem zdI_draw_30 : decode zkI_draw 30 = .ok (.getfield 15, 3) := by decide +kernel
theorem zdI_draw_33 : decode zkI_draw 33 = .ok (.sipush 256, 3) := by decide +kernel
theorem zdI_draw_36 : decode zkI_draw 36 = .ok (.iload_n 3, 1) := by decide +kernel
theorem zdI_draw_37 : decode zkI_draw 37 = .ok (.imul, 1) := by decide +kernel
theorem zdI_draw_38 : decode zkI_draw 38 = .ok (.iadd, 1) := by decide +kernel
theorem zdI_draw_39 : decode zkI_draw 39 = .ok (.i2l, 1) := by decide +kernel
theorem zdI_draw_40 : decode zkI_draw 40 = .ok (.lastore, 1) := by decide +kernel
theorem zdI_draw_41 : decode zkI_draw 41 = .ok (.aload_n 1, 1) := by decide +kernel
theorem zdI_draw_42 : decode zkI_draw 42 = .ok (.aload_n 0, 1) := by decide +kernel
theorem zdI_draw_43 : decode zkI_draw 43 = .ok (.invokevirtual 21, 3) := by decide +kernel
theorem zdI_draw_46 : decode zkI_draw 46 = .ok (.aload_n 0, 1) := by decide +kernel
theorem zdI_draw_47 : decode zkI_draw 47 = .ok (.aload_n 2, 1) := by decide +kernel
theorem zdI_draw_48 : decode zkI_draw 48 = .ok (.iload_n 3, 1) := by decide +kernel
theorem zdI_draw_49 : decode zkI_draw 49 = .ok (.invokevirtual 27, 3) := by decide +kernel
theorem zdI_draw_52 : decode zkI_draw 52 = .ok (.aload_n 0, 1) := by decide +kernel
theorem zdI_draw_53 : decode zkI_draw 53 = .ok (.aload_n 2, 1) := by decide +kernel
theorem zdI_draw_54 : decode zkI_draw 54 = .ok (.iload_n 3, 1) := by decide +kernel
theorem zdI_draw_55 : decode zkI_draw 55 = .ok (.invokevirtual 31, 3) := by decide +kernel
theorem zdI_draw_58 : decode zkI_draw 58 = .ok (.return_, 1) := by decide +kernel
theorem zdI_drawMarkedRows_0 : decode zkI_drawMarkedRows 0 = .ok (.iconst 0, 1) := by decide +kernel
theorem zdI_drawMarkedRows_1 : decode zkI_drawMarkedRows 1 = .ok (.istore_n 3, 1) := by decide +kernel
theorem zdI_drawMarkedRows_2 : decode zkI_drawMarkedRows 2 = .ok (.iconst 0, 1) := by decide +kernel
theorem zdI_drawMarkedRows_3 : decode zkI_drawMarkedRows 3 = .ok (.istore 4, 2) := by decide +kernel
theorem zdI_drawMarkedRows_5 : decode zkI_drawMarkedRows 5 = .ok (.iload 4, 2) := by decide +kernel
theorem zdI_drawMarkedRows_7 : decode zkI_drawMarkedRows 7 = .ok (.aload_n 1, 1) := by decide +kernel
theorem zdI_drawMarkedRows_8 : decode zkI_drawMarkedRows 8 = .ok (.getfield 15, 3) := by decide +kernel
theorem zdI_drawMarkedRows_11 : decode zkI_drawMarkedRows 11 = .ok (.if_icmp .gt 54, 3) := by decide +kernel
theorem zdI_drawMarkedRows_14 : decode zkI_drawMarkedRows 14 = .ok (.aload_n 1, 1) := by decide +kernel
theorem zdI_drawMarkedRows_15 : decode zkI_drawMarkedRows 15 = .ok (.getfield 34, 3) := by decide +kernel
theorem zdI_drawMarkedRows_18 : decode zkI_drawMarkedRows 18 = .ok (.iload 4, 2) := by decide +kernel
theorem zdI_drawMarkedRows_20 : decode zkI_drawMarkedRows 20 = .ok (.iaload, 1) := by decide +kernel
theorem zdI_drawMarkedRows_21 : decode zkI_drawMarkedRows 21 = .ok (.istore 5, 2) := by decide +kernel
theorem zdI_drawMarkedRows_23 : decode zkI_drawMarkedRows 23 = .ok (.iload 5, 2) := by decide +kernel
theorem zdI_drawMarkedRows_25 : decode zkI_drawMarkedRows 25 = .ok (.iload_n 2, 1) := by decide +kernel
theorem zdI_drawMarkedRows_26 : decode zkI_drawMarkedRows 26 = .ok (.irem, 1) := by decide +kernel
theorem zdI_drawMarkedRows_27 : decode zkI_drawMarkedRows 27 = .ok (.ifCond .ne 32, 3) := by decide +kernel
theorem zdI_drawMarkedRows_30 : decode zkI_drawMarkedRows 30 = .ok (.aload_n 0, 1) := by decide +kernel
theorem zdI_drawMarkedRows_31 : decode zkI_drawMarkedRows 31 = .ok (.getfield 9, 3) := by decide +kernel
theorem zdI_drawMarkedRows_34 : decode zkI_drawMarkedRows 34 = .ok (.bipush 8, 2) := by decide +kernel
theorem zdI_drawMarkedRows_36 : decode zkI_drawMarkedRows 36 = .ok (.dup2, 1) := by decide +kernel
theorem zdI_drawMarkedRows_37 : decode zkI_drawMarkedRows 37 = .ok (.laload, 1) := by decide +kernel
theorem zdI_drawMarkedRows_38 : decode zkI_drawMarkedRows 38 = .ok (.lconst 1, 1) := by decide +kernel
theorem zdI_drawMarkedRows_39 : decode zkI_drawMarkedRows 39 = .ok (.iload 4, 2) := by decide +kernel
theorem zdI_drawMarkedRows_41 : decode zkI_drawMarkedRows 41 = .ok (.lshl, 1) := by decide +kernel
theorem zdI_drawMarkedRows_42 : decode zkI_drawMarkedRows 42 = .ok (.lor, 1) := by decide +kernel
theorem zdI_drawMarkedRows_43 : decode zkI_drawMarkedRows 43 = .ok (.lastore, 1) := by decide +kernel
theorem zdI_drawMarkedRows_44 : decode zkI_drawMarkedRows 44 = .ok (.aload_n 0, 1) := by decide +kernel
theorem zdI_drawMarkedRows_45 : decode zkI_drawMarkedRows 45 = .ok (.bipush 9, 2) := by decide +kernel
theorem zdI_drawMarkedRows_47 : decode zkI_drawMarkedRows 47 = .ok (.iload_n 3, 1) := by decide +kernel
theorem zdI_drawMarkedRows_48 : decode zkI_drawMarkedRows 48 = .ok (.iload 5, 2) := by decide +kernel
theorem zdI_drawMarkedRows_50 : decode zkI_drawMarkedRows 50 = .ok (.iload_n 2, 1) := by decide +kernel
theorem zdI_drawMarkedRows_51 : decode zkI_drawMarkedRows 51 = .ok (.idiv, 1) := by decide +kernel
theorem zdI_drawMarkedRows_52 : decode zkI_drawMarkedRows 52 = .ok (.i2l, 1) := by decide +kernel
theorem zdI_drawMarkedRows_53 : decode zkI_drawMarkedRows 53 = .ok (.invokevirtual 38, 3) := by decide +kernel
theorem zdI_drawMarkedRows_56 : decode zkI_drawMarkedRows 56 = .ok (.iinc 3 1, 3) := by decide +kernel
theorem zdI_drawMarkedRows_59 : decode zkI_drawMarkedRows 59 = .ok (.iinc 4 1, 3) := by decide +kernel
theorem zdI_drawMarkedRows_62 : decode zkI_drawMarkedRows 62 = .ok (.goto (-57), 3) := by decide +kernel
theorem zdI_drawMarkedRows_65 : decode zkI_drawMarkedRows 65 = .ok (.return_, 1) := by decide +kernel
theorem zdI_drawRowsOfPlaces_0 : decode zkI_drawRowsOfPlaces 0 = .ok (.aload_n 1, 1) := by decide +kernel
theorem zdI_drawRowsOfPlaces_1 : decode zkI_drawRowsOfPlaces 1 = .ok (.getfield 15, 3) := by decide +kernel
theorem zdI_drawRowsOfPlaces_4 : decode zkI_drawRowsOfPlaces 4 = .ok (.iload_n 2, 1) := by decide +kernel
theorem zdI_drawRowsOfPlaces_5 : decode zkI_drawRowsOfPlaces 5 = .ok (.idiv, 1) := by decide +kernel
theorem zdI_drawRowsOfPlaces_6 : decode zkI_drawRowsOfPlaces 6 = .ok (.istore_n 3, 1) := by decide +kernel
theorem zdI_drawRowsOfPlaces_7 : decode zkI_drawRowsOfPlaces 7 = .ok (.iconst 0, 1) := by decide +kernel
theorem zdI_drawRowsOfPlaces_8 : decode zkI_drawRowsOfPlaces 8 = .ok (.istore 4, 2) := by decide +kernel
theorem zdI_drawRowsOfPlaces_10 : decode zkI_drawRowsOfPlaces 10 = .ok (.iload 4, 2) := by decide +kernel
theorem zdI_drawRowsOfPlaces_12 : decode zkI_drawRowsOfPlaces 12 = .ok (.iload_n 3, 1) := by decide +kernel
theorem zdI_drawRowsOfPlaces_13 : decode zkI_drawRowsOfPlaces 13 = .ok (.if_icmp .gt 27, 3) := by decide +kernel
theorem zdI_drawRowsOfPlaces_16 : decode zkI_drawRowsOfPlaces 16 = .ok (.aload_n 0, 1) := by decide +kernel
theorem zdI_drawRowsOfPlaces_17 : decode zkI_drawRowsOfPlaces 17 = .ok (.bipush 16, 2) := by decide +kernel
theorem zdI_drawRowsOfPlaces_19 : decode zkI_drawRowsOfPlaces 19 = .ok (.iload 4, 2) := by decide +kernel
theorem zdI_drawRowsOfPlaces_21 : decode zkI_drawRowsOfPlaces 21 = .ok (.aload_n 1, 1) := by decide +kernel
theorem zdI_drawRowsOfPlaces_22 : decode zkI_drawRowsOfPlaces 22 = .ok (.getfield 42, 3) := by decide +kernel
theorem zdI_drawRowsOfPlaces_25 : decode zkI_drawRowsOfPlaces 25 = .ok (.iload 4, 2) := by decide +kernel
theorem zdI_drawRowsOfPlaces_27 : decode zkI_drawRowsOfPlaces 27 = .ok (.iload_n 2, 1) := by decide +kernel
theorem zdI_drawRowsOfPlaces_28 : decode zkI_drawRowsOfPlaces 28 = .ok (.imul, 1) := by decide +kernel
theorem zdI_drawRowsOfPlaces_29 : decode zkI_drawRowsOfPlaces 29 = .ok (.iaload, 1) := by decide +kernel
theorem zdI_drawRowsOfPlaces_30 : decode zkI_drawRowsOfPlaces 30 = .ok (.i2l, 1) := by decide +kernel
theorem zdI_drawRowsOfPlaces_31 : decode zkI_drawRowsOfPlaces 31 = .ok (.invokevirtual 38, 3) := by decide +kernel
theorem zdI_drawRowsOfPlaces_34 : decode zkI_drawRowsOfPlaces 34 = .ok (.iinc 4 1, 3) := by decide +kernel
theorem zdI_drawRowsOfPlaces_37 : decode zkI_drawRowsOfPlaces 37 = .ok (.goto (-27), 3) := by decide +kernel
theorem zdI_drawRowsOfPlaces_40 : decode zkI_drawRowsOfPlaces 40 = .ok (.return_, 1) := by decide +kernel
theorem zdI_drawNumber_0 : decode zkI_drawNumber 0 = .ok (.bipush 6, 2) := by decide +kernel
theorem zdI_drawNumber_2 : decode zkI_drawNumber 2 = .ok (.iload_n 2, 1) := by decide +kernel
theorem zdI_drawNumber_3 : decode zkI_drawNumber 3 = .ok (.bipush 10, 2) := by decide +kernel
theorem zdI_drawNumber_5 : decode zkI_drawNumber 5 = .ok (.irem, 1) := by decide +kernel
theorem zdI_drawNumber_6 : decode zkI_drawNumber 6 = .ok (.imul, 1) := by decide +kernel
theorem zdI_drawNumber_7 : decode zkI_drawNumber 7 = .ok (.istore 5, 2) := by decide +kernel
theorem zdI_drawNumber_9 : decode zkI_drawNumber 9 = .ok (.aload_n 0, 1) := by decide +kernel
theorem zdI_drawNumber_10 : decode zkI_drawNumber 10 = .ok (.getfield 9, 3) := by decide +kernel
theorem zdI_drawNumber_13 : decode zkI_drawNumber 13 = .ok (.iload_n 1, 1) := by decide +kernel
theorem zdI_drawNumber_14 : decode zkI_drawNumber 14 = .ok (.iload_n 2, 1) := by decide +kernel
theorem zdI_drawNumber_15 : decode zkI_drawNumber 15 = .ok (.bipush 10, 2) := by decide +kernel
theorem zdI_drawNumber_17 : decode zkI_drawNumber 17 = .ok (.idiv, 1) := by decide +kernel
theorem zdI_drawNumber_18 : decode zkI_drawNumber 18 = .ok (.iadd, 1) := by decide +kernel
theorem zdI_drawNumber_19 : decode zkI_drawNumber 19 = .ok (.dup2, 1) := by decide +kernel
theorem zdI_drawNumber_20 : decode zkI_drawNumber 20 = .ok (.laload, 1) := by decide +kernel
theorem zdI_drawNumber_21 : decode zkI_drawNumber 21 = .ok (.lload_n 3, 1) := by decide +kernel
theorem zdI_drawNumber_22 : decode zkI_drawNumber 22 = .ok (.iload 5, 2) := by decide +kernel
theorem zdI_drawNumber_24 : decode zkI_drawNumber 24 = .ok (.lshl, 1) := by decide +kernel
theorem zdI_drawNumber_25 : decode zkI_drawNumber 25 = .ok (.lor, 1) := by decide +kernel
theorem zdI_drawNumber_26 : decode zkI_drawNumber 26 = .ok (.lastore, 1) := by decide +kernel
theorem zdI_drawNumber_27 : decode zkI_drawNumber 27 = .ok (.return_, 1) := by decide +kernel
theorem zdL_init_0 : decode zkL_init 0 = .ok (.aload_n 0, 1) := by decide +kernel
theorem zdL_init_1 : decode zkL_init 1 = .ok (.invokespecial 3, 3) := by decide +kernel
theorem zdL_init_4 : decode zkL_init 4 = .ok (.aload_n 0, 1) := by decide +kernel
theorem zdL_init_5 : decode zkL_init 5 = .ok (.iload_n 1, 1) := by decide +kernel
theorem zdL_init_6 : decode zkL_init 6 = .ok (.newarray .int, 2) := by decide +kernel
theorem zdL_init_8 : decode zkL_init 8 = .ok (.putfield 9, 3) := by decide +kernel
theorem zdL_init_11 : decode zkL_init 11 = .ok (.aload_n 0, 1) := by decide +kernel
theorem zdL_init_12 : decode zkL_init 12 = .ok (.iconst 0, 1) := by decide +kernel
theorem zdL_init_13 : decode zkL_init 13 = .ok (.putfield 15, 3) := by decide +kernel
theorem zdL_init_16 : decode zkL_init 16 = .ok (.return_, 1) := by decide +kernel
theorem zdL_add_0 : decode zkL_add 0 = .ok (.iload_n 1, 1) := by decide +kernel
theorem zdL_add_1 : decode zkL_add 1 = .ok (.bipush 32, 2) := by decide +kernel
theorem zdL_add_3 : decode zkL_add 3 = .ok (.if_icmp .lt 21, 3) := by decide +kernel
theorem zdL_add_6 : decode zkL_add 6 = .ok (.iload_n 1, 1) := by decide +kernel
theorem zdL_add_7 : decode zkL_add 7 = .ok (.bipush 126, 2) := by decide +kernel
theorem zdL_add_9 : decode zkL_add 9 = .ok (.if_icmp .gt 15, 3) := by decide +kernel
theorem zdL_add_12 : decode zkL_add 12 = .ok (.aload_n 0, 1) := by decide +kernel
theorem zdL_add_13 : decode zkL_add 13 = .ok (.getfield 15, 3) := by decide +kernel
theorem zdL_add_16 : decode zkL_add 16 = .ok (.aload_n 0, 1) := by decide +kernel
theorem zdL_add_17 : decode zkL_add 17 = .ok (.getfield 9, 3) := by decide +kernel
theorem zdL_add_20 : decode zkL_add 20 = .ok (.arraylength, 1) := by decide +kernel
theorem zdL_add_21 : decode zkL_add 21 = .ok (.if_icmp .lt 5, 3) := by decide +kernel
theorem zdL_add_24 : decode zkL_add 24 = .ok (.iconst 0, 1) := by decide +kernel
theorem zdL_add_25 : decode zkL_add 25 = .ok (.ireturn, 1) := by decide +kernel
theorem zdL_add_26 : decode zkL_add 26 = .ok (.aload_n 0, 1) := by decide +kernel
theorem zdL_add_27 : decode zkL_add 27 = .ok (.getfield 9, 3) := by decide +kernel
theorem zdL_add_30 : decode zkL_add 30 = .ok (.aload_n 0, 1) := by decide +kernel
theorem zdL_add_31 : decode zkL_add 31 = .ok (.getfield 15, 3) := by decide +kernel
theorem zdL_add_34 : decode zkL_add 34 = .ok (.iload_n 1, 1) := by decide +kernel
theorem zdL_add_35 : decode zkL_add 35 = .ok (.iastore, 1) := by decide +kernel
theorem zdL_add_36 : decode zkL_add 36 = .ok (.aload_n 0, 1) := by decide +kernel
theorem zdL_add_37 : decode zkL_add 37 = .ok (.dup, 1) := by decide +kernel
theorem zdL_add_38 : decode zkL_add 38 = .ok (.getfield 15, 3) := by decide +kernel
theorem zdL_add_41 : decode zkL_add 41 = .ok (.iconst 1, 1) := by decide +kernel
theorem zdL_add_42 : decode zkL_add 42 = .ok (.iadd, 1) := by decide +kernel
theorem zdL_add_43 : decode zkL_add 43 = .ok (.putfield 15, 3) := by decide +kernel
theorem zdL_add_46 : decode zkL_add 46 = .ok (.iconst 1, 1) := by decide +kernel
theorem zdL_add_47 : decode zkL_add 47 = .ok (.ireturn, 1) := by decide +kernel
theorem zdL_dropLast_0 : decode zkL_dropLast 0 = .ok (.aload_n 0, 1) := by decide +kernel
theorem zdL_dropLast_1 : decode zkL_dropLast 1 = .ok (.getfield 15, 3) := by decide +kernel
theorem zdL_dropLast_4 : decode zkL_dropLast 4 = .ok (.ifCond .ne 5, 3) := by decide +kernel
theorem zdL_dropLast_7 : decode zkL_dropLast 7 = .ok (.iconst 0, 1) := by decide +kernel
theorem zdL_dropLast_8 : decode zkL_dropLast 8 = .ok (.ireturn, 1) := by decide +kernel
theorem zdL_dropLast_9 : decode zkL_dropLast 9 = .ok (.aload_n 0, 1) := by decide +kernel
theorem zdL_dropLast_10 : decode zkL_dropLast 10 = .ok (.dup, 1) := by decide +kernel
theorem zdL_dropLast_11 : decode zkL_dropLast 11 = .ok (.getfield 15, 3) := by decide +kernel
theorem zdL_dropLast_14 : decode zkL_dropLast 14 = .ok (.iconst 1, 1) := by decide +kernel
theorem zdL_dropLast_15 : decode zkL_dropLast 15 = .ok (.isub, 1) := by decide +kernel
theorem zdL_dropLast_16 : decode zkL_dropLast 16 = .ok (.putfield 15, 3) := by decide +kernel
theorem zdL_dropLast_19 : decode zkL_dropLast 19 = .ok (.iconst 1, 1) := by decide +kernel
theorem zdL_dropLast_20 : decode zkL_dropLast 20 = .ok (.ireturn, 1) := by decide +kernel
theorem zdL_clear_0 : decode zkL_clear 0 = .ok (.aload_n 0, 1) := by decide +kernel
theorem zdL_clear_1 : decode zkL_clear 1 = .ok (.iconst 0, 1) := by decide +kernel
theorem zdL_clear_2 : decode zkL_clear 2 = .ok (.putfield 15, 3) := by decide +kernel
theorem zdL_clear_5 : decode zkL_clear 5 = .ok (.return_, 1) := by decide +kernel
theorem zdL_codeAt_0 : decode zkL_codeAt 0 = .ok (.iload_n 1, 1) := by decide +kernel
theorem zdL_codeAt_1 : decode zkL_codeAt 1 = .ok (.ifCond .lt 20, 3) := by decide +kernel
theorem zdL_codeAt_4 : decode zkL_codeAt 4 = .ok (.iload_n 1, 1) := by decide +kernel
theorem zdL_codeAt_5 : decode zkL_codeAt 5 = .ok (.aload_n 0, 1) := by decide +kernel
theorem zdL_codeAt_6 : decode zkL_codeAt 6 = .ok (.getfield 15, 3) := by decide +kernel
theorem zdL_codeAt_9 : decode zkL_codeAt 9 = .ok (.if_icmp .ge 12, 3) := by decide +kernel
theorem zdL_codeAt_12 : decode zkL_codeAt 12 = .ok (.aload_n 0, 1) := by decide +kernel
theorem zdL_codeAt_13 : decode zkL_codeAt 13 = .ok (.getfield 9, 3) := by decide +kernel
theorem zdL_codeAt_16 : decode zkL_codeAt 16 = .ok (.iload_n 1, 1) := by decide +kernel
theorem zdL_codeAt_17 : decode zkL_codeAt 17 = .ok (.iaload, 1) := by decide +kernel
theorem zdL_codeAt_18 : decode zkL_codeAt 18 = .ok (.goto 4, 3) := by decide +kernel
theorem zdL_codeAt_21 : decode zkL_codeAt 21 = .ok (.iconst 0, 1) := by decide +kernel
theorem zdL_codeAt_22 : decode zkL_codeAt 22 = .ok (.ireturn, 1) := by decide +kernel
theorem zdL_hasAt_0 : decode zkL_hasAt 0 = .ok (.iconst 0, 1) := by decide +kernel
theorem zdL_hasAt_1 : decode zkL_hasAt 1 = .ok (.istore_n 3, 1) := by decide +kernel
theorem zdL_hasAt_2 : decode zkL_hasAt 2 = .ok (.iload_n 3, 1) := by decide +kernel
theorem zdL_hasAt_3 : decode zkL_hasAt 3 = .ok (.aload_n 1, 1) := by decide +kernel
theorem zdL_hasAt_4 : decode zkL_hasAt 4 = .ok (.getfield 15, 3) := by decide +kernel
theorem zdL_hasAt_7 : decode zkL_hasAt 7 = .ok (.if_icmp .ge 26, 3) := by decide +kernel
theorem zdL_hasAt_10 : decode zkL_hasAt 10 = .ok (.aload_n 0, 1) := by decide +kernel
theorem zdL_hasAt_11 : decode zkL_hasAt 11 = .ok (.iload_n 2, 1) := by decide +kernel
theorem zdL_hasAt_12 : decode zkL_hasAt 12 = .ok (.iload_n 3, 1) := by decide +kernel
theorem zdL_hasAt_13 : decode zkL_hasAt 13 = .ok (.iadd, 1) := by decide +kernel
theorem zdL_hasAt_14 : decode zkL_hasAt 14 = .ok (.invokevirtual 19, 3) := by decide +kernel
theorem zdL_hasAt_17 : decode zkL_hasAt 17 = .ok (.aload_n 1, 1) := by decide +kernel
theorem zdL_hasAt_18 : decode zkL_hasAt 18 = .ok (.iload_n 3, 1) := by decide +kernel
theorem zdL_hasAt_19 : decode zkL_hasAt 19 = .ok (.invokevirtual 19, 3) := by decide +kernel
theorem zdL_hasAt_22 : decode zkL_hasAt 22 = .ok (.if_icmp .eq 5, 3) := by decide +kernel
theorem zdL_hasAt_25 : decode zkL_hasAt 25 = .ok (.iconst 0, 1) := by decide +kernel
theorem zdL_hasAt_26 : decode zkL_hasAt 26 = .ok (.ireturn, 1) := by decide +kernel
theorem zdL_hasAt_27 : decode zkL_hasAt 27 = .ok (.iinc 3 1, 3) := by decide +kernel
theorem zdL_hasAt_30 : decode zkL_hasAt 30 = .ok (.goto (-28), 3) := by decide +kernel
theorem zdL_hasAt_33 : decode zkL_hasAt 33 = .ok (.iconst 1, 1) := by decide +kernel
theorem zdL_hasAt_34 : decode zkL_hasAt 34 = .ok (.ireturn, 1) := by decide +kernel
theorem zdR_init_0 : decode zkR_init 0 = .ok (.aload_n 0, 1) := by decide +kernel
theorem zdR_init_1 : decode zkR_init 1 = .ok (.invokespecial 3, 3) := by decide +kernel
theorem zdR_init_4 : decode zkR_init 4 = .ok (.aload_n 0, 1) := by decide +kernel
theorem zdR_init_5 : decode zkR_init 5 = .ok (.new 9, 3) := by decide +kernel
theorem zdR_init_8 : decode zkR_init 8 = .ok (.dup, 1) := by decide +kernel
theorem zdR_init_9 : decode zkR_init 9 = .ok (.bipush 60, 2) := by decide +kernel
theorem zdR_init_11 : decode zkR_init 11 = .ok (.invokespecial 11, 3) := by decide +kernel
theorem zdR_init_14 : decode zkR_init 14 = .ok (.putfield 14, 3) := by decide +kernel
theorem zdR_init_17 : decode zkR_init 17 = .ok (.aload_n 0, 1) := by decide +kernel
theorem zdR_init_18 : decode zkR_init 18 = .ok (.new 20, 3) := by decide +kernel
theorem zdR_init_21 : decode zkR_init 21 = .ok (.dup, 1) := by decide +kernel
theorem zdR_init_22 : decode zkR_init 22 = .ok (.invokespecial 22, 3) := by decide +kernel
theorem zdR_init_25 : decode zkR_init 25 = .ok (.putfield 23, 3) := by decide +kernel
theorem zdR_init_28 : decode zkR_init 28 = .ok (.aload_n 0, 1) := by decide +kernel
theorem zdR_init_29 : decode zkR_init 29 = .ok (.iconst (-1), 1) := by decide +kernel
theorem zdR_init_30 : decode zkR_init 30 = .ok (.putfield 27, 3) := by decide +kernel
theorem zdR_init_33 : decode zkR_init 33 = .ok (.return_, 1) := by decide +kernel
theorem zdS_init_0 : decode zkS_init 0 = .ok (.aload_n 0, 1) := by decide +kernel
theorem zdS_init_1 : decode zkS_init 1 = .ok (.invokespecial 3, 3) := by decide +kernel
theorem zdS_init_4 : decode zkS_init 4 = .ok (.aload_n 0, 1) := by decide +kernel
theorem zdS_init_5 : decode zkS_init 5 = .ok (.bipush 61, 2) := by decide +kernel
theorem zdS_init_7 : decode zkS_init 7 = .ok (.newarray .int, 2) := by decide +kernel
theorem zdS_init_9 : decode zkS_init 9 = .ok (.putfield 9, 3) := by decide +kernel
theorem zdS_init_12 : decode zkS_init 12 = .ok (.aload_n 0, 1) := by decide +kernel
theorem zdS_init_13 : decode zkS_init 13 = .ok (.bipush 61, 2) := by decide +kernel
theorem zdS_init_15 : decode zkS_init 15 = .ok (.newarray .int, 2) := by decide +kernel
theorem zdS_init_17 : decode zkS_init 17 = .ok (.putfield 15, 3) := by decide +kernel
theorem zdS_init_20 : decode zkS_init 20 = .ok (.aload_n 0, 1) := by decide +kernel
theorem zdS_init_21 : decode zkS_init 21 = .ok (.iconst 0, 1) := by decide +kernel
theorem zdS_init_22 : decode zkS_init 22 = .ok (.putfield 18, 3) := by decide +kernel
theorem zdS_init_25 : decode zkS_init 25 = .ok (.return_, 1) := by decide +kernel
theorem zdS_sort_0 : decode zkS_sort 0 = .ok (.aload_n 0, 1) := by decide +kernel
theorem zdS_sort_1 : decode zkS_sort 1 = .ok (.aload_n 1, 1) := by decide +kernel
theorem zdS_sort_2 : decode zkS_sort 2 = .ok (.getfield 22, 3) := by decide +kernel
theorem zdS_sort_5 : decode zkS_sort 5 = .ok (.putfield 18, 3) := by decide +kernel
theorem zdS_sort_8 : decode zkS_sort 8 = .ok (.aload_n 0, 1) := by decide +kernel
theorem zdS_sort_9 : decode zkS_sort 9 = .ok (.getfield 18, 3) := by decide +kernel
theorem zdS_sort_12 : decode zkS_sort 12 = .ok (.istore_n 2, 1) := by decide +kernel
theorem zdS_sort_13 : decode zkS_sort 13 = .ok (.iload_n 2, 1) := by decide +kernel
theorem zdS_sort_14 : decode zkS_sort 14 = .ok (.ifCond .lt 15, 3) := by decide +kernel
theorem zdS_sort_17 : decode zkS_sort 17 = .ok (.aload_n 0, 1) := by decide +kernel
theorem zdS_sort_18 : decode zkS_sort 18 = .ok (.aload_n 1, 1) := by decide +kernel
theorem zdS_sort_19 : decode zkS_sort 19 = .ok (.iload_n 2, 1) := by decide +kernel
theorem zdS_sort_20 : decode zkS_sort 20 = .ok (.invokevirtual 27, 3) := by decide +kernel
theorem zdS_sort_23 : decode zkS_sort 23 = .ok (.iinc 2 (-1), 3) := by decide +kernel
theorem zdS_sort_26 : decode zkS_sort 26 = .ok (.goto (-13), 3) := by decide +kernel
theorem zdS_sort_29 : decode zkS_sort 29 = .ok (.iconst 0, 1) := by decide +kernel
theorem zdS_sort_30 : decode zkS_sort 30 = .ok (.istore_n 2, 1) := by decide +kernel
theorem zdS_sort_31 : decode zkS_sort 31 = .ok (.iload_n 2, 1) := by decide +kernel
theorem zdS_sort_32 : decode zkS_sort 32 = .ok (.aload_n 0, 1) := by decide +kernel
theorem zdS_sort_33 : decode zkS_sort 33 = .ok (.getfield 18, 3) := by decide +kernel
theorem zdS_sort_36 : decode zkS_sort 36 = .ok (.if_icmp .gt 21, 3) := by decide +kernel
theorem zdS_sort_39 : decode zkS_sort 39 = .ok (.aload_n 0, 1) := by decide +kernel
theorem zdS_sort_40 : decode zkS_sort 40 = .ok (.getfield 15, 3) := by decide +kernel
theorem zdS_sort_43 : decode zkS_sort 43 = .ok (.aload_n 0, 1) := by decide +kernel
theorem zdS_sort_44 : decode zkS_sort 44 = .ok (.getfield 9, 3) := by decide +kernel
theorem zdS_sort_47 : decode zkS_sort 47 = .ok (.iload_n 2, 1) := by decide +kernel
theorem zdS_sort_48 : decode zkS_sort 48 = .ok (.iaload, 1) := by decide +kernel
theorem zdS_sort_49 : decode zkS_sort 49 = .ok (.iload_n 2, 1) := by decide +kernel
theorem zdS_sort_50 : decode zkS_sort 50 = .ok (.iastore, 1) := by decide +kernel
theorem zdS_sort_51 : decode zkS_sort 51 = .ok (.iinc 2 1, 3) := by decide +kernel
theorem zdS_sort_54 : decode zkS_sort 54 = .ok (.goto (-23), 3) := by decide +kernel
theorem zdS_sort_57 : decode zkS_sort 57 = .ok (.return_, 1) := by decide +kernel
theorem zdS_insert_0 : decode zkS_insert 0 = .ok (.iconst 0, 1) := by decide +kernel
theorem zdS_insert_1 : decode zkS_insert 1 = .ok (.istore_n 3, 1) := by decide +kernel
theorem zdS_insert_2 : decode zkS_insert 2 = .ok (.iload_n 2, 1) := by decide +kernel
theorem zdS_insert_3 : decode zkS_insert 3 = .ok (.iconst 1, 1) := by decide +kernel
theorem zdS_insert_4 : decode zkS_insert 4 = .ok (.iadd, 1) := by decide +kernel
theorem zdS_insert_5 : decode zkS_insert 5 = .ok (.istore 4, 2) := by decide +kernel
theorem zdS_insert_7 : decode zkS_insert 7 = .ok (.iload 4, 2) := by decide +kernel
theorem zdS_insert_9 : decode zkS_insert 9 = .ok (.aload_n 0, 1) := by decide +kernel
theorem zdS_insert_10 : decode zkS_insert 10 = .ok (.getfield 18, 3) := by decide +kernel
theorem zdS_insert_13 : decode zkS_insert 13 = .ok (.if_icmp .gt 23, 3) := by decide +kernel
theorem zdS_insert_16 : decode zkS_insert 16 = .ok (.aload_n 0, 1) := by decide +kernel
theorem zdS_insert_17 : decode zkS_insert 17 = .ok (.aload_n 1, 1) := by decide +kernel
theorem zdS_insert_18 : decode zkS_insert 18 = .ok (.iload 4, 2) := by decide +kernel
theorem zdS_insert_20 : decode zkS_insert 20 = .ok (.iload_n 2, 1) := by decide +kernel
theorem zdS_insert_21 : decode zkS_insert 21 = .ok (.invokevirtual 31, 3) := by decide +kernel
theorem zdS_insert_24 : decode zkS_insert 24 = .ok (.ifCond .eq 6, 3) := by decide +kernel
theorem zdS_insert_27 : decode zkS_insert 27 = .ok (.iinc 3 1, 3) := by decide +kernel
theorem zdS_insert_30 : decode zkS_insert 30 = .ok (.iinc 4 1, 3) := by decide +kernel
theorem zdS_insert_33 : decode zkS_insert 33 = .ok (.goto (-26), 3) := by decide +kernel
theorem zdS_insert_36 : decode zkS_insert 36 = .ok (.iload_n 2, 1) := by decide +kernel
theorem zdS_insert_37 : decode zkS_insert 37 = .ok (.iconst 1, 1) := by decide +kernel
theorem zdS_insert_38 : decode zkS_insert 38 = .ok (.iadd, 1) := by decide +kernel
theorem zdS_insert_39 : decode zkS_insert 39 = .ok (.istore 4, 2) := by decide +kernel
theorem zdS_insert_41 : decode zkS_insert 41 = .ok (.iload 4, 2) := by decide +kernel
theorem zdS_insert_43 : decode zkS_insert 43 = .ok (.aload_n 0, 1) := by decide +kernel
theorem zdS_insert_44 : decode zkS_insert 44 = .ok (.getfield 18, 3) := by decide +kernel
theorem zdS_insert_47 : decode zkS_insert 47 = .ok (.if_icmp .gt 31, 3) := by decide +kernel
theorem zdS_insert_50 : decode zkS_insert 50 = .ok (.aload_n 0, 1) := by decide +kernel
theorem zdS_insert_51 : decode zkS_insert 51 = .ok (.getfield 9, 3) := by decide +kernel
theorem zdS_insert_54 : decode zkS_insert 54 = .ok (.iload 4, 2) := by decide +kernel
theorem zdS_insert_56 : decode zkS_insert 56 = .ok (.iaload, 1) := by decide +kernel
theorem zdS_insert_57 : decode zkS_insert 57 = .ok (.iload_n 3, 1) := by decide +kernel
theorem zdS_insert_58 : decode zkS_insert 58 = .ok (.if_icmp .lt 14, 3) := by decide +kernel
theorem zdS_insert_61 : decode zkS_insert 61 = .ok (.aload_n 0, 1) := by decide +kernel
theorem zdS_insert_62 : decode zkS_insert 62 = .ok (.getfield 9, 3) := by decide +kernel
theorem zdS_insert_65 : decode zkS_insert 65 = .ok (.iload 4, 2) := by decide +kernel
theorem zdS_insert_67 : decode zkS_insert 67 = .ok (.dup2, 1) := by decide +kernel
theorem zdS_insert_68 : decode zkS_insert 68 = .ok (.iaload, 1) := by decide +kernel
theorem zdS_insert_69 : decode zkS_insert 69 = .ok (.iconst 1, 1) := by decide +kernel
theorem zdS_insert_70 : decode zkS_insert 70 = .ok (.iadd, 1) := by decide +kernel
theorem zdS_insert_71 : decode zkS_insert 71 = .ok (.iastore, 1) := by decide +kernel
theorem zdS_insert_72 : decode zkS_insert 72 = .ok (.iinc 4 1, 3) := by decide +kernel
theorem zdS_insert_75 : decode zkS_insert 75 = .ok (.goto (-34), 3) := by decide +kernel
theorem zdS_insert_78 : decode zkS_insert 78 = .ok (.aload_n 0, 1) := by decide +kernel
theorem zdS_insert_79 : decode zkS_insert 79 = .ok (.getfield 9, 3) := by decide +kernel
theorem zdS_insert_82 : decode zkS_insert 82 = .ok (.iload_n 2, 1) := by decide +kernel
theorem zdS_insert_83 : decode zkS_insert 83 = .ok (.iload_n 3, 1) := by decide +kernel
theorem zdS_insert_84 : decode zkS_insert 84 = .ok (.iastore, 1) := by decide +kernel
theorem zdS_insert_85 : decode zkS_insert 85 = .ok (.return_, 1) := by decide +kernel
theorem zdS_isSmaller_0 : decode zkS_isSmaller 0 = .ok (.aload_n 1, 1) := by decide +kernel
theorem zdS_isSmaller_1 : decode zkS_isSmaller 1 = .ok (.iload_n 2, 1) := by decide +kernel
theorem zdS_isSmaller_2 : decode zkS_isSmaller 2 = .ok (.invokevirtual 35, 3) := by decide +kernel
theorem zdS_isSmaller_5 : decode zkS_isSmaller 5 = .ok (.istore 4, 2) := by decide +kernel
theorem zdS_isSmaller_7 : decode zkS_isSmaller 7 = .ok (.aload_n 1, 1) := by decide +kernel
theorem zdS_isSmaller_8 : decode zkS_isSmaller 8 = .ok (.iload_n 3, 1) := by decide +kernel
theorem zdS_isSmaller_9 : decode zkS_isSmaller 9 = .ok (.invokevirtual 35, 3) := by decide +kernel
theorem zdS_isSmaller_12 : decode zkS_isSmaller 12 = .ok (.istore 5, 2) := by decide +kernel
theorem zdS_isSmaller_14 : decode zkS_isSmaller 14 = .ok (.iload 4, 2) := by decide +kernel
theorem zdS_isSmaller_16 : decode zkS_isSmaller 16 = .ok (.iload 5, 2) := by decide +kernel
theorem zdS_isSmaller_18 : decode zkS_isSmaller 18 = .ok (.if_icmp .ne 30, 3) := by decide +kernel
theorem zdS_isSmaller_21 : decode zkS_isSmaller 21 = .ok (.aload_n 0, 1) := by decide +kernel
theorem zdS_isSmaller_22 : decode zkS_isSmaller 22 = .ok (.getfield 9, 3) := by decide +kernel
theorem zdS_isSmaller_25 : decode zkS_isSmaller 25 = .ok (.iload_n 2, 1) := by decide +kernel
theorem zdS_isSmaller_26 : decode zkS_isSmaller 26 = .ok (.iconst 1, 1) := by decide +kernel
theorem zdS_isSmaller_27 : decode zkS_isSmaller 27 = .ok (.iadd, 1) := by decide +kernel
theorem zdS_isSmaller_28 : decode zkS_isSmaller 28 = .ok (.iaload, 1) := by decide +kernel
theorem zdS_isSmaller_29 : decode zkS_isSmaller 29 = .ok (.aload_n 0, 1) := by decide +kernel
theorem zdS_isSmaller_30 : decode zkS_isSmaller 30 = .ok (.getfield 9, 3) := by decide +kernel
theorem zdS_isSmaller_33 : decode zkS_isSmaller 33 = .ok (.iload_n 3, 1) := by decide +kernel
theorem zdS_isSmaller_34 : decode zkS_isSmaller 34 = .ok (.iconst 1, 1) := by decide +kernel
theorem zdS_isSmaller_35 : decode zkS_isSmaller 35 = .ok (.iadd, 1) := by decide +kernel
theorem zdS_isSmaller_36 : decode zkS_isSmaller 36 = .ok (.iaload, 1) := by decide +kernel
theorem zdS_isSmaller_37 : decode zkS_isSmaller 37 = .ok (.if_icmp .ge 7, 3) := by decide +kernel
theorem zdS_isSmaller_40 : decode zkS_isSmaller 40 = .ok (.iconst 1, 1) := by decide +kernel
theorem zdS_isSmaller_41 : decode zkS_isSmaller 41 = .ok (.goto 19, 3) := by decide +kernel
theorem zdS_isSmaller_44 : decode zkS_isSmaller 44 = .ok (.iconst 0, 1) := by decide +kernel
theorem zdS_isSmaller_45 : decode zkS_isSmaller 45 = .ok (.goto 15, 3) := by decide +kernel
theorem zdS_isSmaller_48 : decode zkS_isSmaller 48 = .ok (.iload 4, 2) := by decide +kernel
theorem zdS_isSmaller_50 : decode zkS_isSmaller 50 = .ok (.iload 5, 2) := by decide +kernel
theorem zdS_isSmaller_52 : decode zkS_isSmaller 52 = .ok (.if_icmp .ge 7, 3) := by decide +kernel
theorem zdS_isSmaller_55 : decode zkS_isSmaller 55 = .ok (.iconst 1, 1) := by decide +kernel
theorem zdS_isSmaller_56 : decode zkS_isSmaller 56 = .ok (.goto 4, 3) := by decide +kernel
theorem zdS_isSmaller_59 : decode zkS_isSmaller 59 = .ok (.iconst 0, 1) := by decide +kernel
theorem zdS_isSmaller_60 : decode zkS_isSmaller 60 = .ok (.ireturn, 1) := by decide +kernel
theorem zdJ_bitCount_0 : decode zkJ_bitCount 0 = .ok (.lload_n 0, 1) := by decide +kernel
theorem zdJ_bitCount_1 : decode zkJ_bitCount 1 = .ok (.lload_n 0, 1) := by decide +kernel
theorem zdJ_bitCount_2 : decode zkJ_bitCount 2 = .ok (.iconst 1, 1) := by decide +kernel
theorem zdJ_bitCount_3 : decode zkJ_bitCount 3 = .ok (.lushr, 1) := by decide +kernel
theorem zdJ_bitCount_4 : decode zkJ_bitCount 4 = .ok (.ldc2_w 314, 3) := by decide +kernel
theorem zdJ_bitCount_7 : decode zkJ_bitCount 7 = .ok (.land, 1) := by decide +kernel
theorem zdJ_bitCount_8 : decode zkJ_bitCount 8 = .ok (.lsub, 1) := by decide +kernel
theorem zdJ_bitCount_9 : decode zkJ_bitCount 9 = .ok (.lstore_n 0, 1) := by decide +kernel
theorem zdJ_bitCount_10 : decode zkJ_bitCount 10 = .ok (.lload_n 0, 1) := by decide +kernel
theorem zdJ_bitCount_11 : decode zkJ_bitCount 11 = .ok (.ldc2_w 316, 3) := by decide +kernel
theorem zdJ_bitCount_14 : decode zkJ_bitCount 14 = .ok (.land, 1) := by decide +kernel
theorem zdJ_bitCount_15 : decode zkJ_bitCount 15 = .ok (.lload_n 0, 1) := by decide +kernel
theorem zdJ_bitCount_16 : decode zkJ_bitCount 16 = .ok (.iconst 2, 1) := by decide +kernel
theorem zdJ_bitCount_17 : decode zkJ_bitCount 17 = .ok (.lushr, 1) := by decide +kernel
theorem zdJ_bitCount_18 : decode zkJ_bitCount 18 = .ok (.ldc2_w 316, 3) := by decide +kernel
theorem zdJ_bitCount_21 : decode zkJ_bitCount 21 = .ok (.land, 1) := by decide +kernel
theorem zdJ_bitCount_22 : decode zkJ_bitCount 22 = .ok (.ladd, 1) := by decide +kernel
theorem zdJ_bitCount_23 : decode zkJ_bitCount 23 = .ok (.lstore_n 0, 1) := by decide +kernel
theorem zdJ_bitCount_24 : decode zkJ_bitCount 24 = .ok (.lload_n 0, 1) := by decide +kernel
theorem zdJ_bitCount_25 : decode zkJ_bitCount 25 = .ok (.lload_n 0, 1) := by decide +kernel
theorem zdJ_bitCount_26 : decode zkJ_bitCount 26 = .ok (.iconst 4, 1) := by decide +kernel
theorem zdJ_bitCount_27 : decode zkJ_bitCount 27 = .ok (.lushr, 1) := by decide +kernel
theorem zdJ_bitCount_28 : decode zkJ_bitCount 28 = .ok (.ladd, 1) := by decide +kernel
theorem zdJ_bitCount_29 : decode zkJ_bitCount 29 = .ok (.ldc2_w 318, 3) := by decide +kernel
theorem zdJ_bitCount_32 : decode zkJ_bitCount 32 = .ok (.land, 1) := by decide +kernel
theorem zdJ_bitCount_33 : decode zkJ_bitCount 33 = .ok (.lstore_n 0, 1) := by decide +kernel
theorem zdJ_bitCount_34 : decode zkJ_bitCount 34 = .ok (.lload_n 0, 1) := by decide +kernel
theorem zdJ_bitCount_35 : decode zkJ_bitCount 35 = .ok (.lload_n 0, 1) := by decide +kernel
theorem zdJ_bitCount_36 : decode zkJ_bitCount 36 = .ok (.bipush 8, 2) := by decide +kernel
theorem zdJ_bitCount_38 : decode zkJ_bitCount 38 = .ok (.lushr, 1) := by decide +kernel
theorem zdJ_bitCount_39 : decode zkJ_bitCount 39 = .ok (.ladd, 1) := by decide +kernel
theorem zdJ_bitCount_40 : decode zkJ_bitCount 40 = .ok (.lstore_n 0, 1) := by decide +kernel
theorem zdJ_bitCount_41 : decode zkJ_bitCount 41 = .ok (.lload_n 0, 1) := by decide +kernel
theorem zdJ_bitCount_42 : decode zkJ_bitCount 42 = .ok (.lload_n 0, 1) := by decide +kernel
theorem zdJ_bitCount_43 : decode zkJ_bitCount 43 = .ok (.bipush 16, 2) := by decide +kernel
theorem zdJ_bitCount_45 : decode zkJ_bitCount 45 = .ok (.lushr, 1) := by decide +kernel
theorem zdJ_bitCount_46 : decode zkJ_bitCount 46 = .ok (.ladd, 1) := by decide +kernel
theorem zdJ_bitCount_47 : decode zkJ_bitCount 47 = .ok (.lstore_n 0, 1) := by decide +kernel
theorem zdJ_bitCount_48 : decode zkJ_bitCount 48 = .ok (.lload_n 0, 1) := by decide +kernel
theorem zdJ_bitCount_49 : decode zkJ_bitCount 49 = .ok (.lload_n 0, 1) := by decide +kernel
theorem zdJ_bitCount_50 : decode zkJ_bitCount 50 = .ok (.bipush 32, 2) := by decide +kernel
theorem zdJ_bitCount_52 : decode zkJ_bitCount 52 = .ok (.lushr, 1) := by decide +kernel
theorem zdJ_bitCount_53 : decode zkJ_bitCount 53 = .ok (.ladd, 1) := by decide +kernel
theorem zdJ_bitCount_54 : decode zkJ_bitCount 54 = .ok (.lstore_n 0, 1) := by decide +kernel
theorem zdJ_bitCount_55 : decode zkJ_bitCount 55 = .ok (.lload_n 0, 1) := by decide +kernel
theorem zdJ_bitCount_56 : decode zkJ_bitCount 56 = .ok (.l2i, 1) := by decide +kernel
theorem zdJ_bitCount_57 : decode zkJ_bitCount 57 = .ok (.bipush 127, 2) := by decide +kernel
theorem zdJ_bitCount_59 : decode zkJ_bitCount 59 = .ok (.iand, 1) := by decide +kernel
theorem zdJ_bitCount_60 : decode zkJ_bitCount 60 = .ok (.ireturn, 1) := by decide +kernel
