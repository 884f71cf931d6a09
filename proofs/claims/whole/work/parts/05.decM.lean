/-! Decode rows. Written by wip/draft/gen_names.py -/
theorem zdM_init_0 : decode zkM_init 0 = .ok (.aload_n 0, 1) := by decide +kernel
theorem zdM_init_1 : decode zkM_init 1 = .ok (.invokespecial 1, 3) := by decide +kernel
theorem zdM_init_4 : decode zkM_init 4 = .ok (.aload_n 0, 1) := by decide +kernel
theorem zdM_init_5 : decode zkM_init 5 = .ok (.bipush 60, 2) := by decide +kernel
theorem zdM_init_7 : decode zkM_init 7 = .ok (.newarray .int, 2) := by decide +kernel
theorem zdM_init_9 : decode zkM_init 9 = .ok (.putfield 7, 3) := by decide +kernel
theorem zdM_init_12 : decode zkM_init 12 = .ok (.aload_n 0, 1) := by decide +kernel
theorem zdM_init_13 : decode zkM_init 13 = .ok (.bipush 23, 2) := by decide +kernel
theorem zdM_init_15 : decode zkM_init 15 = .ok (.newarray .long, 2) := by decide +kernel
theorem zdM_init_17 : decode zkM_init 17 = .ok (.putfield 13, 3) := by decide +kernel
theorem zdM_init_20 : decode zkM_init 20 = .ok (.aload_n 0, 1) := by decide +kernel
theorem zdM_init_21 : decode zkM_init 21 = .ok (.bipush 61, 2) := by decide +kernel
theorem zdM_init_23 : decode zkM_init 23 = .ok (.newarray .int, 2) := by decide +kernel
theorem zdM_init_25 : decode zkM_init 25 = .ok (.putfield 17, 3) := by decide +kernel
theorem zdM_init_28 : decode zkM_init 28 = .ok (.aload_n 0, 1) := by decide +kernel
theorem zdM_init_29 : decode zkM_init 29 = .ok (.bipush 61, 2) := by decide +kernel
theorem zdM_init_31 : decode zkM_init 31 = .ok (.newarray .int, 2) := by decide +kernel
theorem zdM_init_33 : decode zkM_init 33 = .ok (.putfield 20, 3) := by decide +kernel
theorem zdM_init_36 : decode zkM_init 36 = .ok (.aload_n 0, 1) := by decide +kernel
theorem zdM_init_37 : decode zkM_init 37 = .ok (.bipush 61, 2) := by decide +kernel
theorem zdM_init_39 : decode zkM_init 39 = .ok (.newarray .int, 2) := by decide +kernel
theorem zdM_init_41 : decode zkM_init 41 = .ok (.putfield 23, 3) := by decide +kernel
theorem zdM_init_44 : decode zkM_init 44 = .ok (.aload_n 0, 1) := by decide +kernel
theorem zdM_init_45 : decode zkM_init 45 = .ok (.bipush 20, 2) := by decide +kernel
theorem zdM_init_47 : decode zkM_init 47 = .ok (.newarray .int, 2) := by decide +kernel
theorem zdM_init_49 : decode zkM_init 49 = .ok (.putfield 26, 3) := by decide +kernel
theorem zdM_init_52 : decode zkM_init 52 = .ok (.aload_n 0, 1) := by decide +kernel
theorem zdM_init_53 : decode zkM_init 53 = .ok (.bipush 61, 2) := by decide +kernel
theorem zdM_init_55 : decode zkM_init 55 = .ok (.newarray .int, 2) := by decide +kernel
theorem zdM_init_57 : decode zkM_init 57 = .ok (.putfield 29, 3) := by decide +kernel
theorem zdM_init_60 : decode zkM_init 60 = .ok (.aload_n 0, 1) := by decide +kernel
theorem zdM_init_61 : decode zkM_init 61 = .ok (.bipush 61, 2) := by decide +kernel
theorem zdM_init_63 : decode zkM_init 63 = .ok (.newarray .int, 2) := by decide +kernel
theorem zdM_init_65 : decode zkM_init 65 = .ok (.putfield 32, 3) := by decide +kernel
theorem zdM_init_68 : decode zkM_init 68 = .ok (.aload_n 0, 1) := by decide +kernel
theorem zdM_init_69 : decode zkM_init 69 = .ok (.bipush 61, 2) := by decide +kernel
theorem zdM_init_71 : decode zkM_init 71 = .ok (.newarray .int, 2) := by decide +kernel
theorem zdM_init_73 : decode zkM_init 73 = .ok (.putfield 35, 3) := by decide +kernel
theorem zdM_init_76 : decode zkM_init 76 = .ok (.aload_n 0, 1) := by decide +kernel
theorem zdM_init_77 : decode zkM_init 77 = .ok (.bipush 23, 2) := by decide +kernel
theorem zdM_init_79 : decode zkM_init 79 = .ok (.newarray .long, 2) := by decide +kernel
theorem zdM_init_81 : decode zkM_init 81 = .ok (.putfield 38, 3) := by decide +kernel
theorem zdM_init_84 : decode zkM_init 84 = .ok (.aload_n 0, 1) := by decide +kernel
theorem zdM_init_85 : decode zkM_init 85 = .ok (.bipush 61, 2) := by decide +kernel
theorem zdM_init_87 : decode zkM_init 87 = .ok (.newarray .int, 2) := by decide +kernel
theorem zdM_init_89 : decode zkM_init 89 = .ok (.putfield 41, 3) := by decide +kernel
theorem zdM_init_92 : decode zkM_init 92 = .ok (.aload_n 0, 1) := by decide +kernel
theorem zdM_init_93 : decode zkM_init 93 = .ok (.bipush 61, 2) := by decide +kernel
theorem zdM_init_95 : decode zkM_init 95 = .ok (.newarray .int, 2) := by decide +kernel
theorem zdM_init_97 : decode zkM_init 97 = .ok (.putfield 44, 3) := by decide +kernel
theorem zdM_init_100 : decode zkM_init 100 = .ok (.aload_n 0, 1) := by decide +kernel
theorem zdM_init_101 : decode zkM_init 101 = .ok (.bipush 61, 2) := by decide +kernel
theorem zdM_init_103 : decode zkM_init 103 = .ok (.newarray .int, 2) := by decide +kernel
theorem zdM_init_105 : decode zkM_init 105 = .ok (.putfield 47, 3) := by decide +kernel
theorem zdM_init_108 : decode zkM_init 108 = .ok (.return_, 1) := by decide +kernel
theorem zdM_write_0 : decode zkM_write 0 = .ok (.iload_n 1, 1) := by decide +kernel
theorem zdM_write_1 : decode zkM_write 1 = .ok (.bipush 32, 2) := by decide +kernel
theorem zdM_write_3 : decode zkM_write 3 = .ok (.if_icmp .lt 18, 3) := by decide +kernel
theorem zdM_write_6 : decode zkM_write 6 = .ok (.iload_n 1, 1) := by decide +kernel
theorem zdM_write_7 : decode zkM_write 7 = .ok (.bipush 126, 2) := by decide +kernel
theorem zdM_write_9 : decode zkM_write 9 = .ok (.if_icmp .gt 12, 3) := by decide +kernel
theorem zdM_write_12 : decode zkM_write 12 = .ok (.aload_n 0, 1) := by decide +kernel
theorem zdM_write_13 : decode zkM_write 13 = .ok (.getfield 50, 3) := by decide +kernel
theorem zdM_write_16 : decode zkM_write 16 = .ok (.bipush 60, 2) := by decide +kernel
theorem zdM_write_18 : decode zkM_write 18 = .ok (.if_icmp .ne 5, 3) := by decide +kernel
theorem zdM_write_21 : decode zkM_write 21 = .ok (.iconst 0, 1) := by decide +kernel
theorem zdM_write_22 : decode zkM_write 22 = .ok (.ireturn, 1) := by decide +kernel
theorem zdM_write_23 : decode zkM_write 23 = .ok (.aload_n 0, 1) := by decide +kernel
theorem zdM_write_24 : decode zkM_write 24 = .ok (.getfield 7, 3) := by decide +kernel
theorem zdM_write_27 : decode zkM_write 27 = .ok (.aload_n 0, 1) := by decide +kernel
theorem zdM_write_28 : decode zkM_write 28 = .ok (.getfield 50, 3) := by decide +kernel
theorem zdM_write_31 : decode zkM_write 31 = .ok (.iload_n 1, 1) := by decide +kernel
theorem zdM_write_32 : decode zkM_write 32 = .ok (.iastore, 1) := by decide +kernel
theorem zdM_write_33 : decode zkM_write 33 = .ok (.aload_n 0, 1) := by decide +kernel
theorem zdM_write_34 : decode zkM_write 34 = .ok (.dup, 1) := by decide +kernel
theorem zdM_write_35 : decode zkM_write 35 = .ok (.getfield 50, 3) := by decide +kernel
theorem zdM_write_38 : decode zkM_write 38 = .ok (.iconst 1, 1) := by decide +kernel
theorem zdM_write_39 : decode zkM_write 39 = .ok (.iadd, 1) := by decide +kernel
theorem zdM_write_40 : decode zkM_write 40 = .ok (.putfield 50, 3) := by decide +kernel
theorem zdM_write_43 : decode zkM_write 43 = .ok (.iconst 1, 1) := by decide +kernel
theorem zdM_write_44 : decode zkM_write 44 = .ok (.ireturn, 1) := by decide +kernel
theorem zdM_erase_0 : decode zkM_erase 0 = .ok (.aload_n 0, 1) := by decide +kernel
theorem zdM_erase_1 : decode zkM_erase 1 = .ok (.iconst 0, 1) := by decide +kernel
theorem zdM_erase_2 : decode zkM_erase 2 = .ok (.putfield 50, 3) := by decide +kernel
theorem zdM_erase_5 : decode zkM_erase 5 = .ok (.return_, 1) := by decide +kernel
theorem zdM_word_0 : decode zkM_word 0 = .ok (.iload_n 1, 1) := by decide +kernel
theorem zdM_word_1 : decode zkM_word 1 = .ok (.ifCond .lt 9, 3) := by decide +kernel
theorem zdM_word_4 : decode zkM_word 4 = .ok (.iload_n 1, 1) := by decide +kernel
theorem zdM_word_5 : decode zkM_word 5 = .ok (.bipush 22, 2) := by decide +kernel
theorem zdM_word_7 : decode zkM_word 7 = .ok (.if_icmp .le 7, 3) := by decide +kernel
theorem zdM_word_10 : decode zkM_word 10 = .ok (.lconst 0, 1) := by decide +kernel
theorem zdM_word_11 : decode zkM_word 11 = .ok (.goto 9, 3) := by decide +kernel
theorem zdM_word_14 : decode zkM_word 14 = .ok (.aload_n 0, 1) := by decide +kernel
theorem zdM_word_15 : decode zkM_word 15 = .ok (.getfield 13, 3) := by decide +kernel
theorem zdM_word_18 : decode zkM_word 18 = .ok (.iload_n 1, 1) := by decide +kernel
theorem zdM_word_19 : decode zkM_word 19 = .ok (.laload, 1) := by decide +kernel
theorem zdM_word_20 : decode zkM_word 20 = .ok (.lreturn, 1) := by decide +kernel
theorem zdM_put_0 : decode zkM_put 0 = .ok (.iload_n 1, 1) := by decide +kernel
theorem zdM_put_1 : decode zkM_put 1 = .ok (.ifCond .lt 9, 3) := by decide +kernel
theorem zdM_put_4 : decode zkM_put 4 = .ok (.iload_n 1, 1) := by decide +kernel
theorem zdM_put_5 : decode zkM_put 5 = .ok (.bipush 22, 2) := by decide +kernel
theorem zdM_put_7 : decode zkM_put 7 = .ok (.if_icmp .le 5, 3) := by decide +kernel
theorem zdM_put_10 : decode zkM_put 10 = .ok (.iconst 0, 1) := by decide +kernel
theorem zdM_put_11 : decode zkM_put 11 = .ok (.ireturn, 1) := by decide +kernel
theorem zdM_put_12 : decode zkM_put 12 = .ok (.aload_n 0, 1) := by decide +kernel
theorem zdM_put_13 : decode zkM_put 13 = .ok (.getfield 13, 3) := by decide +kernel
theorem zdM_put_16 : decode zkM_put 16 = .ok (.iload_n 1, 1) := by decide +kernel
theorem zdM_put_17 : decode zkM_put 17 = .ok (.lload_n 2, 1) := by decide +kernel
theorem zdM_put_18 : decode zkM_put 18 = .ok (.lastore, 1) := by decide +kernel
theorem zdM_put_19 : decode zkM_put 19 = .ok (.iconst 1, 1) := by decide +kernel
theorem zdM_put_20 : decode zkM_put 20 = .ok (.ireturn, 1) := by decide +kernel
theorem zdM_flip_0 : decode zkM_flip 0 = .ok (.iload_n 1, 1) := by decide +kernel
theorem zdM_flip_1 : decode zkM_flip 1 = .ok (.ifCond .lt 19, 3) := by decide +kernel
theorem zdM_flip_4 : decode zkM_flip 4 = .ok (.iload_n 1, 1) := by decide +kernel
theorem zdM_flip_5 : decode zkM_flip 5 = .ok (.bipush 22, 2) := by decide +kernel
theorem zdM_flip_7 : decode zkM_flip 7 = .ok (.if_icmp .gt 13, 3) := by decide +kernel
theorem zdM_flip_10 : decode zkM_flip 10 = .ok (.iload_n 2, 1) := by decide +kernel
theorem zdM_flip_11 : decode zkM_flip 11 = .ok (.ifCond .lt 9, 3) := by decide +kernel
theorem zdM_flip_14 : decode zkM_flip 14 = .ok (.iload_n 2, 1) := by decide +kernel
theorem zdM_flip_15 : decode zkM_flip 15 = .ok (.bipush 63, 2) := by decide +kernel
theorem zdM_flip_17 : decode zkM_flip 17 = .ok (.if_icmp .le 5, 3) := by decide +kernel
theorem zdM_flip_20 : decode zkM_flip 20 = .ok (.iconst 0, 1) := by decide +kernel
theorem zdM_flip_21 : decode zkM_flip 21 = .ok (.ireturn, 1) := by decide +kernel
theorem zdM_flip_22 : decode zkM_flip 22 = .ok (.aload_n 0, 1) := by decide +kernel
theorem zdM_flip_23 : decode zkM_flip 23 = .ok (.getfield 13, 3) := by decide +kernel
theorem zdM_flip_26 : decode zkM_flip 26 = .ok (.iload_n 1, 1) := by decide +kernel
theorem zdM_flip_27 : decode zkM_flip 27 = .ok (.aload_n 0, 1) := by decide +kernel
theorem zdM_flip_28 : decode zkM_flip 28 = .ok (.getfield 13, 3) := by decide +kernel
theorem zdM_flip_31 : decode zkM_flip 31 = .ok (.iload_n 1, 1) := by decide +kernel
theorem zdM_flip_32 : decode zkM_flip 32 = .ok (.laload, 1) := by decide +kernel
theorem zdM_flip_33 : decode zkM_flip 33 = .ok (.lconst 1, 1) := by decide +kernel
theorem zdM_flip_34 : decode zkM_flip 34 = .ok (.iload_n 2, 1) := by decide +kernel
theorem zdM_flip_35 : decode zkM_flip 35 = .ok (.lshl, 1) := by decide +kernel
theorem zdM_flip_36 : decode zkM_flip 36 = .ok (.lxor, 1) := by decide +kernel
theorem zdM_flip_37 : decode zkM_flip 37 = .ok (.lastore, 1) := by decide +kernel
theorem zdM_flip_38 : decode zkM_flip 38 = .ok (.iconst 1, 1) := by decide +kernel
theorem zdM_flip_39 : decode zkM_flip 39 = .ok (.ireturn, 1) := by decide +kernel
theorem zdM_earlier_0 : decode zkM_earlier 0 = .ok (.iload_n 1, 1) := by decide +kernel
theorem zdM_earlier_1 : decode zkM_earlier 1 = .ok (.istore_n 3, 1) := by decide +kernel
theorem zdM_earlier_2 : decode zkM_earlier 2 = .ok (.iload_n 2, 1) := by decide +kernel
theorem zdM_earlier_3 : decode zkM_earlier 3 = .ok (.istore 4, 2) := by decide +kernel
theorem zdM_earlier_5 : decode zkM_earlier 5 = .ok (.iload_n 3, 1) := by decide +kernel
theorem zdM_earlier_6 : decode zkM_earlier 6 = .ok (.aload_n 0, 1) := by decide +kernel
theorem zdM_earlier_7 : decode zkM_earlier 7 = .ok (.getfield 54, 3) := by decide +kernel
theorem zdM_earlier_10 : decode zkM_earlier 10 = .ok (.if_icmp .ge 37, 3) := by decide +kernel
theorem zdM_earlier_13 : decode zkM_earlier 13 = .ok (.iload 4, 2) := by decide +kernel
theorem zdM_earlier_15 : decode zkM_earlier 15 = .ok (.aload_n 0, 1) := by decide +kernel
theorem zdM_earlier_16 : decode zkM_earlier 16 = .ok (.getfield 54, 3) := by decide +kernel
theorem zdM_earlier_19 : decode zkM_earlier 19 = .ok (.if_icmp .ge 28, 3) := by decide +kernel
theorem zdM_earlier_22 : decode zkM_earlier 22 = .ok (.aload_n 0, 1) := by decide +kernel
theorem zdM_earlier_23 : decode zkM_earlier 23 = .ok (.getfield 29, 3) := by decide +kernel
theorem zdM_earlier_26 : decode zkM_earlier 26 = .ok (.iload_n 3, 1) := by decide +kernel
theorem zdM_earlier_27 : decode zkM_earlier 27 = .ok (.iaload, 1) := by decide +kernel
theorem zdM_earlier_28 : decode zkM_earlier 28 = .ok (.aload_n 0, 1) := by decide +kernel
theorem zdM_earlier_29 : decode zkM_earlier 29 = .ok (.getfield 29, 3) := by decide +kernel
theorem zdM_earlier_32 : decode zkM_earlier 32 = .ok (.iload 4, 2) := by decide +kernel
theorem zdM_earlier_34 : decode zkM_earlier 34 = .ok (.iaload, 1) := by decide +kernel
theorem zdM_earlier_35 : decode zkM_earlier 35 = .ok (.if_icmp .ne 12, 3) := by decide +kernel
theorem zdM_earlier_38 : decode zkM_earlier 38 = .ok (.iinc 3 1, 3) := by decide +kernel
theorem zdM_earlier_41 : decode zkM_earlier 41 = .ok (.iinc 4 1, 3) := by decide +kernel
theorem zdM_earlier_44 : decode zkM_earlier 44 = .ok (.goto (-39), 3) := by decide +kernel
theorem zdM_earlier_47 : decode zkM_earlier 47 = .ok (.aload_n 0, 1) := by decide +kernel
theorem zdM_earlier_48 : decode zkM_earlier 48 = .ok (.getfield 29, 3) := by decide +kernel
theorem zdM_earlier_51 : decode zkM_earlier 51 = .ok (.iload_n 3, 1) := by decide +kernel
theorem zdM_earlier_52 : decode zkM_earlier 52 = .ok (.iaload, 1) := by decide +kernel
theorem zdM_earlier_53 : decode zkM_earlier 53 = .ok (.aload_n 0, 1) := by decide +kernel
theorem zdM_earlier_54 : decode zkM_earlier 54 = .ok (.getfield 29, 3) := by decide +kernel
theorem zdM_earlier_57 : decode zkM_earlier 57 = .ok (.iload 4, 2) := by decide +kernel
theorem zdM_earlier_59 : decode zkM_earlier 59 = .ok (.iaload, 1) := by decide +kernel
theorem zdM_earlier_60 : decode zkM_earlier 60 = .ok (.if_icmp .ge 7, 3) := by decide +kernel
theorem zdM_earlier_63 : decode zkM_earlier 63 = .ok (.iconst 1, 1) := by decide +kernel
theorem zdM_earlier_64 : decode zkM_earlier 64 = .ok (.goto 4, 3) := by decide +kernel
theorem zdM_earlier_67 : decode zkM_earlier 67 = .ok (.iconst 0, 1) := by decide +kernel
theorem zdM_earlier_68 : decode zkM_earlier 68 = .ok (.ireturn, 1) := by decide +kernel
theorem zdM_sort_0 : decode zkM_sort 0 = .ok (.aload_n 0, 1) := by decide +kernel
theorem zdM_sort_1 : decode zkM_sort 1 = .ok (.getfield 29, 3) := by decide +kernel
theorem zdM_sort_4 : decode zkM_sort 4 = .ok (.aload_n 0, 1) := by decide +kernel
theorem zdM_sort_5 : decode zkM_sort 5 = .ok (.getfield 54, 3) := by decide +kernel
theorem zdM_sort_8 : decode zkM_sort 8 = .ok (.iconst 0, 1) := by decide +kernel
theorem zdM_sort_9 : decode zkM_sort 9 = .ok (.iastore, 1) := by decide +kernel
theorem zdM_sort_10 : decode zkM_sort 10 = .ok (.iconst 0, 1) := by decide +kernel
theorem zdM_sort_11 : decode zkM_sort 11 = .ok (.istore_n 1, 1) := by decide +kernel
theorem zdM_sort_12 : decode zkM_sort 12 = .ok (.iload_n 1, 1) := by decide +kernel
theorem zdM_sort_13 : decode zkM_sort 13 = .ok (.aload_n 0, 1) := by decide +kernel
theorem zdM_sort_14 : decode zkM_sort 14 = .ok (.getfield 54, 3) := by decide +kernel
theorem zdM_sort_17 : decode zkM_sort 17 = .ok (.if_icmp .gt 63, 3) := by decide +kernel
theorem zdM_sort_20 : decode zkM_sort 20 = .ok (.iconst 0, 1) := by decide +kernel
theorem zdM_sort_21 : decode zkM_sort 21 = .ok (.istore_n 2, 1) := by decide +kernel
theorem zdM_sort_22 : decode zkM_sort 22 = .ok (.iconst 0, 1) := by decide +kernel
theorem zdM_sort_23 : decode zkM_sort 23 = .ok (.istore_n 3, 1) := by decide +kernel
theorem zdM_sort_24 : decode zkM_sort 24 = .ok (.iload_n 3, 1) := by decide +kernel
theorem zdM_sort_25 : decode zkM_sort 25 = .ok (.aload_n 0, 1) := by decide +kernel
theorem zdM_sort_26 : decode zkM_sort 26 = .ok (.getfield 54, 3) := by decide +kernel
theorem zdM_sort_29 : decode zkM_sort 29 = .ok (.if_icmp .gt 31, 3) := by decide +kernel
theorem zdM_sort_32 : decode zkM_sort 32 = .ok (.iload_n 3, 1) := by decide +kernel
theorem zdM_sort_33 : decode zkM_sort 33 = .ok (.iload_n 1, 1) := by decide +kernel
theorem zdM_sort_34 : decode zkM_sort 34 = .ok (.if_icmp .eq 18, 3) := by decide +kernel
theorem zdM_sort_37 : decode zkM_sort 37 = .ok (.aload_n 0, 1) := by decide +kernel
theorem zdM_sort_38 : decode zkM_sort 38 = .ok (.iload_n 3, 1) := by decide +kernel
theorem zdM_sort_39 : decode zkM_sort 39 = .ok (.iload_n 1, 1) := by decide +kernel
theorem zdM_sort_40 : decode zkM_sort 40 = .ok (.invokevirtual 57, 3) := by decide +kernel
theorem zdM_sort_43 : decode zkM_sort 43 = .ok (.ifCond .eq 9, 3) := by decide +kernel
theorem zdM_sort_46 : decode zkM_sort 46 = .ok (.iload_n 2, 1) := by decide +kernel
theorem zdM_sort_47 : decode zkM_sort 47 = .ok (.iconst 1, 1) := by decide +kernel
theorem zdM_sort_48 : decode zkM_sort 48 = .ok (.iadd, 1) := by decide +kernel
theorem zdM_sort_49 : decode zkM_sort 49 = .ok (.goto 4, 3) := by decide +kernel
theorem zdM_sort_52 : decode zkM_sort 52 = .ok (.iload_n 2, 1) := by decide +kernel
theorem zdM_sort_53 : decode zkM_sort 53 = .ok (.istore_n 2, 1) := by decide +kernel
theorem zdM_sort_54 : decode zkM_sort 54 = .ok (.iinc 3 1, 3) := by decide +kernel
theorem zdM_sort_57 : decode zkM_sort 57 = .ok (.goto (-33), 3) := by decide +kernel
theorem zdM_sort_60 : decode zkM_sort 60 = .ok (.aload_n 0, 1) := by decide +kernel
theorem zdM_sort_61 : decode zkM_sort 61 = .ok (.getfield 35, 3) := by decide +kernel
theorem zdM_sort_64 : decode zkM_sort 64 = .ok (.iload_n 1, 1) := by decide +kernel
theorem zdM_sort_65 : decode zkM_sort 65 = .ok (.iload_n 2, 1) := by decide +kernel
theorem zdM_sort_66 : decode zkM_sort 66 = .ok (.iastore, 1) := by decide +kernel
theorem zdM_sort_67 : decode zkM_sort 67 = .ok (.aload_n 0, 1) := by decide +kernel
theorem zdM_sort_68 : decode zkM_sort 68 = .ok (.getfield 32, 3) := by decide +kernel
theorem zdM_sort_71 : decode zkM_sort 71 = .ok (.iload_n 2, 1) := by decide +kernel
theorem zdM_sort_72 : decode zkM_sort 72 = .ok (.iload_n 1, 1) := by decide +kernel
theorem zdM_sort_73 : decode zkM_sort 73 = .ok (.iastore, 1) := by decide +kernel
theorem zdM_sort_74 : decode zkM_sort 74 = .ok (.iinc 1 1, 3) := by decide +kernel
theorem zdM_sort_77 : decode zkM_sort 77 = .ok (.goto (-65), 3) := by decide +kernel
theorem zdM_sort_80 : decode zkM_sort 80 = .ok (.return_, 1) := by decide +kernel
theorem zdM_levels_0 : decode zkM_levels 0 = .ok (.iconst 0, 1) := by decide +kernel
theorem zdM_levels_1 : decode zkM_levels 1 = .ok (.istore_n 1, 1) := by decide +kernel
theorem zdM_levels_2 : decode zkM_levels 2 = .ok (.iload_n 1, 1) := by decide +kernel
theorem zdM_levels_3 : decode zkM_levels 3 = .ok (.aload_n 0, 1) := by decide +kernel
theorem zdM_levels_4 : decode zkM_levels 4 = .ok (.getfield 54, 3) := by decide +kernel
theorem zdM_levels_7 : decode zkM_levels 7 = .ok (.if_icmp .gt 41, 3) := by decide +kernel
theorem zdM_levels_10 : decode zkM_levels 10 = .ok (.aload_n 0, 1) := by decide +kernel
theorem zdM_levels_11 : decode zkM_levels 11 = .ok (.getfield 41, 3) := by decide +kernel
theorem zdM_levels_14 : decode zkM_levels 14 = .ok (.iload_n 1, 1) := by decide +kernel
theorem zdM_levels_15 : decode zkM_levels 15 = .ok (.aload_n 0, 1) := by decide +kernel
theorem zdM_levels_16 : decode zkM_levels 16 = .ok (.getfield 32, 3) := by decide +kernel
theorem zdM_levels_19 : decode zkM_levels 19 = .ok (.iload_n 1, 1) := by decide +kernel
theorem zdM_levels_20 : decode zkM_levels 20 = .ok (.iaload, 1) := by decide +kernel
theorem zdM_levels_21 : decode zkM_levels 21 = .ok (.ifCond .ne 7, 3) := by decide +kernel
theorem zdM_levels_24 : decode zkM_levels 24 = .ok (.iconst 0, 1) := by decide +kernel
theorem zdM_levels_25 : decode zkM_levels 25 = .ok (.goto 16, 3) := by decide +kernel
theorem zdM_levels_28 : decode zkM_levels 28 = .ok (.aload_n 0, 1) := by decide +kernel
theorem zdM_levels_29 : decode zkM_levels 29 = .ok (.getfield 29, 3) := by decide +kernel
theorem zdM_levels_32 : decode zkM_levels 32 = .ok (.aload_n 0, 1) := by decide +kernel
theorem zdM_levels_33 : decode zkM_levels 33 = .ok (.getfield 32, 3) := by decide +kernel
theorem zdM_levels_36 : decode zkM_levels 36 = .ok (.iload_n 1, 1) := by decide +kernel
theorem zdM_levels_37 : decode zkM_levels 37 = .ok (.iaload, 1) := by decide +kernel
theorem zdM_levels_38 : decode zkM_levels 38 = .ok (.iconst 1, 1) := by decide +kernel
theorem zdM_levels_39 : decode zkM_levels 39 = .ok (.isub, 1) := by decide +kernel
theorem zdM_levels_40 : decode zkM_levels 40 = .ok (.iaload, 1) := by decide +kernel
theorem zdM_levels_41 : decode zkM_levels 41 = .ok (.iastore, 1) := by decide +kernel
theorem zdM_levels_42 : decode zkM_levels 42 = .ok (.iinc 1 1, 3) := by decide +kernel
theorem zdM_levels_45 : decode zkM_levels 45 = .ok (.goto (-43), 3) := by decide +kernel
theorem zdM_levels_48 : decode zkM_levels 48 = .ok (.iconst 0, 1) := by decide +kernel
theorem zdM_levels_49 : decode zkM_levels 49 = .ok (.istore_n 1, 1) := by decide +kernel
theorem zdM_levels_50 : decode zkM_levels 50 = .ok (.iload_n 1, 1) := by decide +kernel
theorem zdM_levels_51 : decode zkM_levels 51 = .ok (.bipush 7, 2) := by decide +kernel
theorem zdM_levels_53 : decode zkM_levels 53 = .ok (.if_icmp .ge 126, 3) := by decide +kernel
theorem zdM_levels_56 : decode zkM_levels 56 = .ok (.iconst 0, 1) := by decide +kernel
theorem zdM_levels_57 : decode zkM_levels 57 = .ok (.istore_n 2, 1) := by decide +kernel
theorem zdM_levels_58 : decode zkM_levels 58 = .ok (.iconst 0, 1) := by decide +kernel
theorem zdM_levels_59 : decode zkM_levels 59 = .ok (.istore_n 3, 1) := by decide +kernel
theorem zdM_levels_60 : decode zkM_levels 60 = .ok (.iload_n 3, 1) := by decide +kernel
theorem zdM_levels_61 : decode zkM_levels 61 = .ok (.iconst 2, 1) := by decide +kernel
theorem zdM_levels_62 : decode zkM_levels 62 = .ok (.if_icmp .ge 83, 3) := by decide +kernel
theorem zdM_levels_65 : decode zkM_levels 65 = .ok (.iconst 0, 1) := by decide +kernel
theorem zdM_levels_66 : decode zkM_levels 66 = .ok (.istore 4, 2) := by decide +kernel
theorem zdM_levels_68 : decode zkM_levels 68 = .ok (.iload 4, 2) := by decide +kernel
theorem zdM_levels_70 : decode zkM_levels 70 = .ok (.aload_n 0, 1) := by decide +kernel
theorem zdM_levels_71 : decode zkM_levels 71 = .ok (.getfield 54, 3) := by decide +kernel
theorem zdM_levels_74 : decode zkM_levels 74 = .ok (.if_icmp .gt 65, 3) := by decide +kernel
theorem zdM_levels_77 : decode zkM_levels 77 = .ok (.aload_n 0, 1) := by decide +kernel
theorem zdM_levels_78 : decode zkM_levels 78 = .ok (.getfield 41, 3) := by decide +kernel
theorem zdM_levels_81 : decode zkM_levels 81 = .ok (.iload 4, 2) := by decide +kernel
theorem zdM_levels_83 : decode zkM_levels 83 = .ok (.iaload, 1) := by decide +kernel
theorem zdM_levels_84 : decode zkM_levels 84 = .ok (.bipush 6, 2) := by decide +kernel
theorem zdM_levels_86 : decode zkM_levels 86 = .ok (.iload_n 1, 1) := by decide +kernel
theorem zdM_levels_87 : decode zkM_levels 87 = .ok (.isub, 1) := by decide +kernel
theorem zdM_levels_88 : decode zkM_levels 88 = .ok (.ishr, 1) := by decide +kernel
theorem zdM_levels_89 : decode zkM_levels 89 = .ok (.iconst 1, 1) := by decide +kernel
theorem zdM_levels_90 : decode zkM_levels 90 = .ok (.iand, 1) := by decide +kernel
theorem zdM_levels_91 : decode zkM_levels 91 = .ok (.iload_n 3, 1) := by decide +kernel
theorem zdM_levels_92 : decode zkM_levels 92 = .ok (.if_icmp .ne 41, 3) := by decide +kernel
theorem zdM_levels_95 : decode zkM_levels 95 = .ok (.aload_n 0, 1) := by decide +kernel
theorem zdM_levels_96 : decode zkM_levels 96 = .ok (.getfield 44, 3) := by decide +kernel
theorem zdM_levels_99 : decode zkM_levels 99 = .ok (.iload_n 2, 1) := by decide +kernel
theorem zdM_levels_100 : decode zkM_levels 100 = .ok (.aload_n 0, 1) := by decide +kernel
theorem zdM_levels_101 : decode zkM_levels 101 = .ok (.getfield 41, 3) := by decide +kernel
theorem zdM_levels_104 : decode zkM_levels 104 = .ok (.iload 4, 2) := by decide +kernel
theorem zdM_levels_106 : decode zkM_levels 106 = .ok (.iaload, 1) := by decide +kernel
theorem zdM_levels_107 : decode zkM_levels 107 = .ok (.iastore, 1) := by decide +kernel
theorem zdM_levels_108 : decode zkM_levels 108 = .ok (.iinc 2 1, 3) := by decide +kernel
theorem zdM_levels_111 : decode zkM_levels 111 = .ok (.aload_n 0, 1) := by decide +kernel
theorem zdM_levels_112 : decode zkM_levels 112 = .ok (.getfield 38, 3) := by decide +kernel
theorem zdM_levels_115 : decode zkM_levels 115 = .ok (.iconst 1, 1) := by decide +kernel
theorem zdM_levels_116 : decode zkM_levels 116 = .ok (.iload_n 1, 1) := by decide +kernel
theorem zdM_levels_117 : decode zkM_levels 117 = .ok (.iadd, 1) := by decide +kernel
theorem zdM_levels_118 : decode zkM_levels 118 = .ok (.aload_n 0, 1) := by decide +kernel
theorem zdM_levels_119 : decode zkM_levels 119 = .ok (.getfield 38, 3) := by decide +kernel
theorem zdM_levels_122 : decode zkM_levels 122 = .ok (.iconst 1, 1) := by decide +kernel
theorem zdM_levels_123 : decode zkM_levels 123 = .ok (.iload_n 1, 1) := by decide +kernel
theorem zdM_levels_124 : decode zkM_levels 124 = .ok (.iadd, 1) := by decide +kernel
theorem zdM_levels_125 : decode zkM_levels 125 = .ok (.laload, 1) := by decide +kernel
theorem zdM_levels_126 : decode zkM_levels 126 = .ok (.iload_n 3, 1) := by decide +kernel
theorem zdM_levels_127 : decode zkM_levels 127 = .ok (.i2l, 1) := by decide +kernel
theorem zdM_levels_128 : decode zkM_levels 128 = .ok (.iload 4, 2) := by decide +kernel
theorem zdM_levels_130 : decode zkM_levels 130 = .ok (.lshl, 1) := by decide +kernel
theorem zdM_levels_131 : decode zkM_levels 131 = .ok (.lor, 1) := by decide +kernel
theorem zdM_levels_132 : decode zkM_levels 132 = .ok (.lastore, 1) := by decide +kernel
theorem zdM_levels_133 : decode zkM_levels 133 = .ok (.iinc 4 1, 3) := by decide +kernel
theorem zdM_levels_136 : decode zkM_levels 136 = .ok (.goto (-68), 3) := by decide +kernel
theorem zdM_levels_139 : decode zkM_levels 139 = .ok (.iinc 3 1, 3) := by decide +kernel
theorem zdM_levels_142 : decode zkM_levels 142 = .ok (.goto (-82), 3) := by decide +kernel
theorem zdM_levels_145 : decode zkM_levels 145 = .ok (.iconst 0, 1) := by decide +kernel
theorem zdM_levels_146 : decode zkM_levels 146 = .ok (.istore_n 3, 1) := by decide +kernel
theorem zdM_levels_147 : decode zkM_levels 147 = .ok (.iload_n 3, 1) := by decide +kernel
theorem zdM_levels_148 : decode zkM_levels 148 = .ok (.aload_n 0, 1) := by decide +kernel
theorem zdM_levels_149 : decode zkM_levels 149 = .ok (.getfield 54, 3) := by decide +kernel
theorem zdM_levels_152 : decode zkM_levels 152 = .ok (.if_icmp .gt 21, 3) := by decide +kernel
theorem zdM_levels_155 : decode zkM_levels 155 = .ok (.aload_n 0, 1) := by decide +kernel
theorem zdM_levels_156 : decode zkM_levels 156 = .ok (.getfield 41, 3) := by decide +kernel
theorem zdM_levels_159 : decode zkM_levels 159 = .ok (.iload_n 3, 1) := by decide +kernel
theorem zdM_levels_160 : decode zkM_levels 160 = .ok (.aload_n 0, 1) := by decide +kernel
theorem zdM_levels_161 : decode zkM_levels 161 = .ok (.getfield 44, 3) := by decide +kernel
theorem zdM_levels_164 : decode zkM_levels 164 = .ok (.iload_n 3, 1) := by decide +kernel
theorem zdM_levels_165 : decode zkM_levels 165 = .ok (.iaload, 1) := by decide +kernel
theorem zdM_levels_166 : decode zkM_levels 166 = .ok (.iastore, 1) := by decide +kernel
theorem zdM_levels_167 : decode zkM_levels 167 = .ok (.iinc 3 1, 3) := by decide +kernel
theorem zdM_levels_170 : decode zkM_levels 170 = .ok (.goto (-23), 3) := by decide +kernel
theorem zdM_levels_173 : decode zkM_levels 173 = .ok (.iinc 1 1, 3) := by decide +kernel
theorem zdM_levels_176 : decode zkM_levels 176 = .ok (.goto (-126), 3) := by decide +kernel
theorem zdM_levels_179 : decode zkM_levels 179 = .ok (.return_, 1) := by decide +kernel
theorem zdM_picture_0 : decode zkM_picture 0 = .ok (.iconst 0, 1) := by decide +kernel
theorem zdM_picture_1 : decode zkM_picture 1 = .ok (.istore_n 2, 1) := by decide +kernel
theorem zdM_picture_2 : decode zkM_picture 2 = .ok (.iload_n 2, 1) := by decide +kernel
theorem zdM_picture_3 : decode zkM_picture 3 = .ok (.bipush 23, 2) := by decide +kernel
theorem zdM_picture_5 : decode zkM_picture 5 = .ok (.if_icmp .ge 16, 3) := by decide +kernel
theorem zdM_picture_8 : decode zkM_picture 8 = .ok (.aload_n 0, 1) := by decide +kernel
theorem zdM_picture_9 : decode zkM_picture 9 = .ok (.getfield 38, 3) := by decide +kernel
theorem zdM_picture_12 : decode zkM_picture 12 = .ok (.iload_n 2, 1) := by decide +kernel
theorem zdM_picture_13 : decode zkM_picture 13 = .ok (.lconst 0, 1) := by decide +kernel
theorem zdM_picture_14 : decode zkM_picture 14 = .ok (.lastore, 1) := by decide +kernel
theorem zdM_picture_15 : decode zkM_picture 15 = .ok (.iinc 2 1, 3) := by decide +kernel
theorem zdM_picture_18 : decode zkM_picture 18 = .ok (.goto (-16), 3) := by decide +kernel
theorem zdM_picture_21 : decode zkM_picture 21 = .ok (.aload_n 0, 1) := by decide +kernel
theorem zdM_picture_22 : decode zkM_picture 22 = .ok (.invokevirtual 61, 3) := by decide +kernel
theorem zdM_picture_25 : decode zkM_picture 25 = .ok (.aload_n 0, 1) := by decide +kernel
theorem zdM_picture_26 : decode zkM_picture 26 = .ok (.getfield 38, 3) := by decide +kernel
theorem zdM_picture_29 : decode zkM_picture 29 = .ok (.iconst 0, 1) := by decide +kernel
theorem zdM_picture_30 : decode zkM_picture 30 = .ok (.aload_n 0, 1) := by decide +kernel
theorem zdM_picture_31 : decode zkM_picture 31 = .ok (.getfield 54, 3) := by decide +kernel
theorem zdM_picture_34 : decode zkM_picture 34 = .ok (.i2l, 1) := by decide +kernel
theorem zdM_picture_35 : decode zkM_picture 35 = .ok (.ldc2_w 64, 3) := by decide +kernel
theorem zdM_picture_38 : decode zkM_picture 38 = .ok (.iload_n 1, 1) := by decide +kernel
theorem zdM_picture_39 : decode zkM_picture 39 = .ok (.i2l, 1) := by decide +kernel
theorem zdM_picture_40 : decode zkM_picture 40 = .ok (.lmul, 1) := by decide +kernel
theorem zdM_picture_41 : decode zkM_picture 41 = .ok (.ladd, 1) := by decide +kernel
theorem zdM_picture_42 : decode zkM_picture 42 = .ok (.lastore, 1) := by decide +kernel
theorem zdM_picture_43 : decode zkM_picture 43 = .ok (.aload_n 0, 1) := by decide +kernel
theorem zdM_picture_44 : decode zkM_picture 44 = .ok (.invokevirtual 66, 3) := by decide +kernel
theorem zdM_picture_47 : decode zkM_picture 47 = .ok (.iconst 0, 1) := by decide +kernel
theorem zdM_picture_48 : decode zkM_picture 48 = .ok (.istore_n 2, 1) := by decide +kernel
theorem zdM_picture_49 : decode zkM_picture 49 = .ok (.iconst 0, 1) := by decide +kernel
theorem zdM_picture_50 : decode zkM_picture 50 = .ok (.istore_n 3, 1) := by decide +kernel
theorem zdM_picture_51 : decode zkM_picture 51 = .ok (.iload_n 3, 1) := by decide +kernel
theorem zdM_picture_52 : decode zkM_picture 52 = .ok (.aload_n 0, 1) := by decide +kernel
theorem zdM_picture_53 : decode zkM_picture 53 = .ok (.getfield 54, 3) := by decide +kernel
theorem zdM_picture_56 : decode zkM_picture 56 = .ok (.if_icmp .gt 83, 3) := by decide +kernel
theorem zdM_picture_59 : decode zkM_picture 59 = .ok (.aload_n 0, 1) := by decide +kernel
theorem zdM_picture_60 : decode zkM_picture 60 = .ok (.getfield 32, 3) := by decide +kernel
theorem zdM_picture_63 : decode zkM_picture 63 = .ok (.iload_n 3, 1) := by decide +kernel
theorem zdM_picture_64 : decode zkM_picture 64 = .ok (.iaload, 1) := by decide +kernel
theorem zdM_picture_65 : decode zkM_picture 65 = .ok (.iload_n 1, 1) := by decide +kernel
theorem zdM_picture_66 : decode zkM_picture 66 = .ok (.irem, 1) := by decide +kernel
theorem zdM_picture_67 : decode zkM_picture 67 = .ok (.ifCond .ne 66, 3) := by decide +kernel
theorem zdM_picture_70 : decode zkM_picture 70 = .ok (.aload_n 0, 1) := by decide +kernel
theorem zdM_picture_71 : decode zkM_picture 71 = .ok (.getfield 38, 3) := by decide +kernel
theorem zdM_picture_74 : decode zkM_picture 74 = .ok (.bipush 8, 2) := by decide +kernel
theorem zdM_picture_76 : decode zkM_picture 76 = .ok (.aload_n 0, 1) := by decide +kernel
theorem zdM_picture_77 : decode zkM_picture 77 = .ok (.getfield 38, 3) := by decide +kernel
theorem zdM_picture_80 : decode zkM_picture 80 = .ok (.bipush 8, 2) := by decide +kernel
theorem zdM_picture_82 : decode zkM_picture 82 = .ok (.laload, 1) := by decide +kernel
theorem zdM_picture_83 : decode zkM_picture 83 = .ok (.lconst 1, 1) := by decide +kernel
theorem zdM_picture_84 : decode zkM_picture 84 = .ok (.iload_n 3, 1) := by decide +kernel
theorem zdM_picture_85 : decode zkM_picture 85 = .ok (.lshl, 1) := by decide +kernel
theorem zdM_picture_86 : decode zkM_picture 86 = .ok (.lor, 1) := by decide +kernel
theorem zdM_picture_87 : decode zkM_picture 87 = .ok (.lastore, 1) := by decide +kernel
theorem zdM_picture_88 : decode zkM_picture 88 = .ok (.aload_n 0, 1) := by decide +kernel
theorem zdM_picture_89 : decode zkM_picture 89 = .ok (.getfield 38, 3) := by decide +kernel
theorem zdM_picture_92 : decode zkM_picture 92 = .ok (.bipush 9, 2) := by decide +kernel
theorem zdM_picture_94 : decode zkM_picture 94 = .ok (.iload_n 2, 1) := by decide +kernel
theorem zdM_picture_95 : decode zkM_picture 95 = .ok (.bipush 10, 2) := by decide +kernel
theorem zdM_picture_97 : decode zkM_picture 97 = .ok (.idiv, 1) := by decide +kernel
theorem zdM_picture_98 : decode zkM_picture 98 = .ok (.iadd, 1) := by decide +kernel
theorem zdM_picture_99 : decode zkM_picture 99 = .ok (.aload_n 0, 1) := by decide +kernel
theorem zdM_picture_100 : decode zkM_picture 100 = .ok (.getfield 38, 3) := by decide +kernel
theorem zdM_picture_103 : decode zkM_picture 103 = .ok (.bipush 9, 2) := by decide +kernel
theorem zdM_picture_105 : decode zkM_picture 105 = .ok (.iload_n 2, 1) := by decide +kernel
theorem zdM_picture_106 : decode zkM_picture 106 = .ok (.bipush 10, 2) := by decide +kernel
theorem zdM_picture_108 : decode zkM_picture 108 = .ok (.idiv, 1) := by decide +kernel
theorem zdM_picture_109 : decode zkM_picture 109 = .ok (.iadd, 1) := by decide +kernel
theorem zdM_picture_110 : decode zkM_picture 110 = .ok (.laload, 1) := by decide +kernel
theorem zdM_picture_111 : decode zkM_picture 111 = .ok (.aload_n 0, 1) := by decide +kernel
theorem zdM_picture_112 : decode zkM_picture 112 = .ok (.getfield 32, 3) := by decide +kernel
theorem zdM_picture_115 : decode zkM_picture 115 = .ok (.iload_n 3, 1) := by decide +kernel
theorem zdM_picture_116 : decode zkM_picture 116 = .ok (.iaload, 1) := by decide +kernel
theorem zdM_picture_117 : decode zkM_picture 117 = .ok (.iload_n 1, 1) := by decide +kernel
theorem zdM_picture_118 : decode zkM_picture 118 = .ok (.idiv, 1) := by decide +kernel
theorem zdM_picture_119 : decode zkM_picture 119 = .ok (.i2l, 1) := by decide +kernel
theorem zdM_picture_120 : decode zkM_picture 120 = .ok (.bipush 6, 2) := by decide +kernel
theorem zdM_picture_122 : decode zkM_picture 122 = .ok (.iload_n 2, 1) := by decide +kernel
theorem zdM_picture_123 : decode zkM_picture 123 = .ok (.bipush 10, 2) := by decide +kernel
theorem zdM_picture_125 : decode zkM_picture 125 = .ok (.irem, 1) := by decide +kernel
theorem zdM_picture_126 : decode zkM_picture 126 = .ok (.imul, 1) := by decide +kernel
theorem zdM_picture_127 : decode zkM_picture 127 = .ok (.lshl, 1) := by decide +kernel
theorem zdM_picture_128 : decode zkM_picture 128 = .ok (.lor, 1) := by decide +kernel
theorem zdM_picture_129 : decode zkM_picture 129 = .ok (.lastore, 1) := by decide +kernel
theorem zdM_picture_130 : decode zkM_picture 130 = .ok (.iinc 2 1, 3) := by decide +kernel
theorem zdM_picture_133 : decode zkM_picture 133 = .ok (.iinc 3 1, 3) := by decide +kernel
theorem zdM_picture_136 : decode zkM_picture 136 = .ok (.goto (-85), 3) := by decide +kernel
theorem zdM_picture_139 : decode zkM_picture 139 = .ok (.iconst 0, 1) := by decide +kernel
theorem zdM_picture_140 : decode zkM_picture 140 = .ok (.istore_n 3, 1) := by decide +kernel
theorem zdM_picture_141 : decode zkM_picture 141 = .ok (.iload_n 3, 1) := by decide +kernel
theorem zdM_picture_142 : decode zkM_picture 142 = .ok (.iload_n 1, 1) := by decide +kernel
theorem zdM_picture_143 : decode zkM_picture 143 = .ok (.imul, 1) := by decide +kernel
theorem zdM_picture_144 : decode zkM_picture 144 = .ok (.aload_n 0, 1) := by decide +kernel
theorem zdM_picture_145 : decode zkM_picture 145 = .ok (.getfield 54, 3) := by decide +kernel
theorem zdM_picture_148 : decode zkM_picture 148 = .ok (.if_icmp .gt 51, 3) := by decide +kernel
theorem zdM_picture_151 : decode zkM_picture 151 = .ok (.aload_n 0, 1) := by decide +kernel
theorem zdM_picture_152 : decode zkM_picture 152 = .ok (.getfield 38, 3) := by decide +kernel
theorem zdM_picture_155 : decode zkM_picture 155 = .ok (.bipush 16, 2) := by decide +kernel
theorem zdM_picture_157 : decode zkM_picture 157 = .ok (.iload_n 3, 1) := by decide +kernel
theorem zdM_picture_158 : decode zkM_picture 158 = .ok (.bipush 10, 2) := by decide +kernel
theorem zdM_picture_160 : decode zkM_picture 160 = .ok (.idiv, 1) := by decide +kernel
theorem zdM_picture_161 : decode zkM_picture 161 = .ok (.iadd, 1) := by decide +kernel
theorem zdM_picture_162 : decode zkM_picture 162 = .ok (.aload_n 0, 1) := by decide +kernel
theorem zdM_picture_163 : decode zkM_picture 163 = .ok (.getfield 38, 3) := by decide +kernel
theorem zdM_picture_166 : decode zkM_picture 166 = .ok (.bipush 16, 2) := by decide +kernel
theorem zdM_picture_168 : decode zkM_picture 168 = .ok (.iload_n 3, 1) := by decide +kernel
theorem zdM_picture_169 : decode zkM_picture 169 = .ok (.bipush 10, 2) := by decide +kernel
theorem zdM_picture_171 : decode zkM_picture 171 = .ok (.idiv, 1) := by decide +kernel
theorem zdM_picture_172 : decode zkM_picture 172 = .ok (.iadd, 1) := by decide +kernel
theorem zdM_picture_173 : decode zkM_picture 173 = .ok (.laload, 1) := by decide +kernel
theorem zdM_picture_174 : decode zkM_picture 174 = .ok (.aload_n 0, 1) := by decide +kernel
theorem zdM_picture_175 : decode zkM_picture 175 = .ok (.getfield 35, 3) := by decide +kernel
theorem zdM_picture_178 : decode zkM_picture 178 = .ok (.iload_n 3, 1) := by decide +kernel
theorem zdM_picture_179 : decode zkM_picture 179 = .ok (.iload_n 1, 1) := by decide +kernel
theorem zdM_picture_180 : decode zkM_picture 180 = .ok (.imul, 1) := by decide +kernel
theorem zdM_picture_181 : decode zkM_picture 181 = .ok (.iaload, 1) := by decide +kernel
theorem zdM_picture_182 : decode zkM_picture 182 = .ok (.i2l, 1) := by decide +kernel
theorem zdM_picture_183 : decode zkM_picture 183 = .ok (.bipush 6, 2) := by decide +kernel
theorem zdM_picture_185 : decode zkM_picture 185 = .ok (.iload_n 3, 1) := by decide +kernel
theorem zdM_picture_186 : decode zkM_picture 186 = .ok (.bipush 10, 2) := by decide +kernel
theorem zdM_picture_188 : decode zkM_picture 188 = .ok (.irem, 1) := by decide +kernel
theorem zdM_picture_189 : decode zkM_picture 189 = .ok (.imul, 1) := by decide +kernel
theorem zdM_picture_190 : decode zkM_picture 190 = .ok (.lshl, 1) := by decide +kernel
theorem zdM_picture_191 : decode zkM_picture 191 = .ok (.lor, 1) := by decide +kernel
theorem zdM_picture_192 : decode zkM_picture 192 = .ok (.lastore, 1) := by decide +kernel
theorem zdM_picture_193 : decode zkM_picture 193 = .ok (.iinc 3 1, 3) := by decide +kernel
theorem zdM_picture_196 : decode zkM_picture 196 = .ok (.goto (-55), 3) := by decide +kernel
theorem zdM_picture_199 : decode zkM_picture 199 = .ok (.return_, 1) := by decide +kernel
theorem zdM_build_0 : decode zkM_build 0 = .ok (.iload_n 1, 1) := by decide +kernel
theorem zdM_build_1 : decode zkM_build 1 = .ok (.iconst 1, 1) := by decide +kernel
theorem zdM_build_2 : decode zkM_build 2 = .ok (.if_icmp .lt 9, 3) := by decide +kernel
theorem zdM_build_5 : decode zkM_build 5 = .ok (.iload_n 1, 1) := by decide +kernel
theorem zdM_build_6 : decode zkM_build 6 = .ok (.bipush 16, 2) := by decide +kernel
theorem zdM_build_8 : decode zkM_build 8 = .ok (.if_icmp .le 5, 3) := by decide +kernel
theorem zdM_build_11 : decode zkM_build 11 = .ok (.iconst 0, 1) := by decide +kernel
theorem zdM_build_12 : decode zkM_build 12 = .ok (.ireturn, 1) := by decide +kernel
theorem zdM_build_13 : decode zkM_build 13 = .ok (.aload_n 0, 1) := by decide +kernel
theorem zdM_build_14 : decode zkM_build 14 = .ok (.aload_n 0, 1) := by decide +kernel
theorem zdM_build_15 : decode zkM_build 15 = .ok (.getfield 50, 3) := by decide +kernel
theorem zdM_build_18 : decode zkM_build 18 = .ok (.putfield 54, 3) := by decide +kernel
theorem zdM_build_21 : decode zkM_build 21 = .ok (.iconst 0, 1) := by decide +kernel
theorem zdM_build_22 : decode zkM_build 22 = .ok (.istore_n 2, 1) := by decide +kernel
theorem zdM_build_23 : decode zkM_build 23 = .ok (.iload_n 2, 1) := by decide +kernel
theorem zdM_build_24 : decode zkM_build 24 = .ok (.aload_n 0, 1) := by decide +kernel
theorem zdM_build_25 : decode zkM_build 25 = .ok (.getfield 50, 3) := by decide +kernel
theorem zdM_build_28 : decode zkM_build 28 = .ok (.if_icmp .ge 21, 3) := by decide +kernel
theorem zdM_build_31 : decode zkM_build 31 = .ok (.aload_n 0, 1) := by decide +kernel
theorem zdM_build_32 : decode zkM_build 32 = .ok (.getfield 29, 3) := by decide +kernel
theorem zdM_build_35 : decode zkM_build 35 = .ok (.iload_n 2, 1) := by decide +kernel
theorem zdM_build_36 : decode zkM_build 36 = .ok (.aload_n 0, 1) := by decide +kernel
theorem zdM_build_37 : decode zkM_build 37 = .ok (.getfield 7, 3) := by decide +kernel
theorem zdM_build_40 : decode zkM_build 40 = .ok (.iload_n 2, 1) := by decide +kernel
theorem zdM_build_41 : decode zkM_build 41 = .ok (.iaload, 1) := by decide +kernel
theorem zdM_build_42 : decode zkM_build 42 = .ok (.iastore, 1) := by decide +kernel
theorem zdM_build_43 : decode zkM_build 43 = .ok (.iinc 2 1, 3) := by decide +kernel
theorem zdM_build_46 : decode zkM_build 46 = .ok (.goto (-23), 3) := by decide +kernel
theorem zdM_build_49 : decode zkM_build 49 = .ok (.aload_n 0, 1) := by decide +kernel
theorem zdM_build_50 : decode zkM_build 50 = .ok (.iload_n 1, 1) := by decide +kernel
theorem zdM_build_51 : decode zkM_build 51 = .ok (.invokevirtual 69, 3) := by decide +kernel
theorem zdM_build_54 : decode zkM_build 54 = .ok (.iconst 0, 1) := by decide +kernel
theorem zdM_build_55 : decode zkM_build 55 = .ok (.istore_n 2, 1) := by decide +kernel
theorem zdM_build_56 : decode zkM_build 56 = .ok (.iload_n 2, 1) := by decide +kernel
theorem zdM_build_57 : decode zkM_build 57 = .ok (.bipush 23, 2) := by decide +kernel
theorem zdM_build_59 : decode zkM_build 59 = .ok (.if_icmp .ge 21, 3) := by decide +kernel
theorem zdM_build_62 : decode zkM_build 62 = .ok (.aload_n 0, 1) := by decide +kernel
theorem zdM_build_63 : decode zkM_build 63 = .ok (.getfield 13, 3) := by decide +kernel
theorem zdM_build_66 : decode zkM_build 66 = .ok (.iload_n 2, 1) := by decide +kernel
theorem zdM_build_67 : decode zkM_build 67 = .ok (.aload_n 0, 1) := by decide +kernel
theorem zdM_build_68 : decode zkM_build 68 = .ok (.getfield 38, 3) := by decide +kernel
theorem zdM_build_71 : decode zkM_build 71 = .ok (.iload_n 2, 1) := by decide +kernel
theorem zdM_build_72 : decode zkM_build 72 = .ok (.laload, 1) := by decide +kernel
theorem zdM_build_73 : decode zkM_build 73 = .ok (.lastore, 1) := by decide +kernel
theorem zdM_build_74 : decode zkM_build 74 = .ok (.iinc 2 1, 3) := by decide +kernel
theorem zdM_build_77 : decode zkM_build 77 = .ok (.goto (-21), 3) := by decide +kernel
theorem zdM_build_80 : decode zkM_build 80 = .ok (.iconst 1, 1) := by decide +kernel
theorem zdM_build_81 : decode zkM_build 81 = .ok (.ireturn, 1) := by decide +kernel
theorem zdM_readCodes_0 : decode zkM_readCodes 0 = .ok (.iconst 0, 1) := by decide +kernel
theorem zdM_readCodes_1 : decode zkM_readCodes 1 = .ok (.istore_n 1, 1) := by decide +kernel
theorem zdM_readCodes_2 : decode zkM_readCodes 2 = .ok (.iload_n 1, 1) := by decide +kernel
theorem zdM_readCodes_3 : decode zkM_readCodes 3 = .ok (.aload_n 0, 1) := by decide +kernel
theorem zdM_readCodes_4 : decode zkM_readCodes 4 = .ok (.getfield 54, 3) := by decide +kernel
theorem zdM_readCodes_7 : decode zkM_readCodes 7 = .ok (.if_icmp .gt 23, 3) := by decide +kernel
theorem zdM_readCodes_10 : decode zkM_readCodes 10 = .ok (.aload_n 0, 1) := by decide +kernel
theorem zdM_readCodes_11 : decode zkM_readCodes 11 = .ok (.getfield 41, 3) := by decide +kernel
theorem zdM_readCodes_14 : decode zkM_readCodes 14 = .ok (.iload_n 1, 1) := by decide +kernel
theorem zdM_readCodes_15 : decode zkM_readCodes 15 = .ok (.iload_n 1, 1) := by decide +kernel
theorem zdM_readCodes_16 : decode zkM_readCodes 16 = .ok (.iastore, 1) := by decide +kernel
theorem zdM_readCodes_17 : decode zkM_readCodes 17 = .ok (.aload_n 0, 1) := by decide +kernel
theorem zdM_readCodes_18 : decode zkM_readCodes 18 = .ok (.getfield 47, 3) := by decide +kernel
theorem zdM_readCodes_21 : decode zkM_readCodes 21 = .ok (.iload_n 1, 1) := by decide +kernel
theorem zdM_readCodes_22 : decode zkM_readCodes 22 = .ok (.iconst 0, 1) := by decide +kernel
theorem zdM_readCodes_23 : decode zkM_readCodes 23 = .ok (.iastore, 1) := by decide +kernel
theorem zdM_readCodes_24 : decode zkM_readCodes 24 = .ok (.iinc 1 1, 3) := by decide +kernel
theorem zdM_readCodes_27 : decode zkM_readCodes 27 = .ok (.goto (-25), 3) := by decide +kernel
theorem zdM_readCodes_30 : decode zkM_readCodes 30 = .ok (.iconst 0, 1) := by decide +kernel
theorem zdM_readCodes_31 : decode zkM_readCodes 31 = .ok (.istore_n 1, 1) := by decide +kernel
theorem zdM_readCodes_32 : decode zkM_readCodes 32 = .ok (.iload_n 1, 1) := by decide +kernel
theorem zdM_readCodes_33 : decode zkM_readCodes 33 = .ok (.bipush 7, 2) := by decide +kernel
theorem zdM_readCodes_35 : decode zkM_readCodes 35 = .ok (.if_icmp .ge 133, 3) := by decide +kernel
theorem zdM_readCodes_38 : decode zkM_readCodes 38 = .ok (.iconst 0, 1) := by decide +kernel
theorem zdM_readCodes_39 : decode zkM_readCodes 39 = .ok (.istore_n 2, 1) := by decide +kernel
theorem zdM_readCodes_40 : decode zkM_readCodes 40 = .ok (.iconst 0, 1) := by decide +kernel
theorem zdM_readCodes_41 : decode zkM_readCodes 41 = .ok (.istore_n 3, 1) := by decide +kernel
theorem zdM_readCodes_42 : decode zkM_readCodes 42 = .ok (.iload_n 3, 1) := by decide +kernel
theorem zdM_readCodes_43 : decode zkM_readCodes 43 = .ok (.iconst 2, 1) := by decide +kernel
theorem zdM_readCodes_44 : decode zkM_readCodes 44 = .ok (.if_icmp .ge 90, 3) := by decide +kernel
theorem zdM_readCodes_47 : decode zkM_readCodes 47 = .ok (.iconst 0, 1) := by decide +kernel
theorem zdM_readCodes_48 : decode zkM_readCodes 48 = .ok (.istore 4, 2) := by decide +kernel
theorem zdM_readCodes_50 : decode zkM_readCodes 50 = .ok (.iload 4, 2) := by decide +kernel
theorem zdM_readCodes_52 : decode zkM_readCodes 52 = .ok (.aload_n 0, 1) := by decide +kernel
theorem zdM_readCodes_53 : decode zkM_readCodes 53 = .ok (.getfield 54, 3) := by decide +kernel
theorem zdM_readCodes_56 : decode zkM_readCodes 56 = .ok (.if_icmp .gt 72, 3) := by decide +kernel
theorem zdM_readCodes_59 : decode zkM_readCodes 59 = .ok (.aload_n 0, 1) := by decide +kernel
theorem zdM_readCodes_60 : decode zkM_readCodes 60 = .ok (.getfield 13, 3) := by decide +kernel
theorem zdM_readCodes_63 : decode zkM_readCodes 63 = .ok (.iconst 1, 1) := by decide +kernel
theorem zdM_readCodes_64 : decode zkM_readCodes 64 = .ok (.iload_n 1, 1) := by decide +kernel
theorem zdM_readCodes_65 : decode zkM_readCodes 65 = .ok (.iadd, 1) := by decide +kernel
theorem zdM_readCodes_66 : decode zkM_readCodes 66 = .ok (.laload, 1) := by decide +kernel
theorem zdM_readCodes_67 : decode zkM_readCodes 67 = .ok (.iload 4, 2) := by decide +kernel
theorem zdM_readCodes_69 : decode zkM_readCodes 69 = .ok (.lshr, 1) := by decide +kernel
theorem zdM_readCodes_70 : decode zkM_readCodes 70 = .ok (.lconst 1, 1) := by decide +kernel
theorem zdM_readCodes_71 : decode zkM_readCodes 71 = .ok (.land, 1) := by decide +kernel
theorem zdM_readCodes_72 : decode zkM_readCodes 72 = .ok (.iload_n 3, 1) := by decide +kernel
theorem zdM_readCodes_73 : decode zkM_readCodes 73 = .ok (.i2l, 1) := by decide +kernel
theorem zdM_readCodes_74 : decode zkM_readCodes 74 = .ok (.lcmp, 1) := by decide +kernel
theorem zdM_readCodes_75 : decode zkM_readCodes 75 = .ok (.ifCond .ne 47, 3) := by decide +kernel
theorem zdM_readCodes_78 : decode zkM_readCodes 78 = .ok (.aload_n 0, 1) := by decide +kernel
theorem zdM_readCodes_79 : decode zkM_readCodes 79 = .ok (.getfield 47, 3) := by decide +kernel
theorem zdM_readCodes_82 : decode zkM_readCodes 82 = .ok (.aload_n 0, 1) := by decide +kernel
theorem zdM_readCodes_83 : decode zkM_readCodes 83 = .ok (.getfield 41, 3) := by decide +kernel
theorem zdM_readCodes_86 : decode zkM_readCodes 86 = .ok (.iload 4, 2) := by decide +kernel
theorem zdM_readCodes_88 : decode zkM_readCodes 88 = .ok (.iaload, 1) := by decide +kernel
theorem zdM_readCodes_89 : decode zkM_readCodes 89 = .ok (.iconst 2, 1) := by decide +kernel
theorem zdM_readCodes_90 : decode zkM_readCodes 90 = .ok (.aload_n 0, 1) := by decide +kernel
theorem zdM_readCodes_91 : decode zkM_readCodes 91 = .ok (.getfield 47, 3) := by decide +kernel
theorem zdM_readCodes_94 : decode zkM_readCodes 94 = .ok (.aload_n 0, 1) := by decide +kernel
theorem zdM_readCodes_95 : decode zkM_readCodes 95 = .ok (.getfield 41, 3) := by decide +kernel
theorem zdM_readCodes_98 : decode zkM_readCodes 98 = .ok (.iload 4, 2) := by decide +kernel
theorem zdM_readCodes_100 : decode zkM_readCodes 100 = .ok (.iaload, 1) := by decide +kernel
theorem zdM_readCodes_101 : decode zkM_readCodes 101 = .ok (.iaload, 1) := by decide +kernel
theorem zdM_readCodes_102 : decode zkM_readCodes 102 = .ok (.imul, 1) := by decide +kernel
theorem zdM_readCodes_103 : decode zkM_readCodes 103 = .ok (.iload_n 3, 1) := by decide +kernel
theorem zdM_readCodes_104 : decode zkM_readCodes 104 = .ok (.iadd, 1) := by decide +kernel
theorem zdM_readCodes_105 : decode zkM_readCodes 105 = .ok (.iastore, 1) := by decide +kernel
theorem zdM_readCodes_106 : decode zkM_readCodes 106 = .ok (.aload_n 0, 1) := by decide +kernel
theorem zdM_readCodes_107 : decode zkM_readCodes 107 = .ok (.getfield 44, 3) := by decide +kernel
theorem zdM_readCodes_110 : decode zkM_readCodes 110 = .ok (.iload_n 2, 1) := by decide +kernel
theorem zdM_readCodes_111 : decode zkM_readCodes 111 = .ok (.aload_n 0, 1) := by decide +kernel
theorem zdM_readCodes_112 : decode zkM_readCodes 112 = .ok (.getfield 41, 3) := by decide +kernel
theorem zdM_readCodes_115 : decode zkM_readCodes 115 = .ok (.iload 4, 2) := by decide +kernel
theorem zdM_readCodes_117 : decode zkM_readCodes 117 = .ok (.iaload, 1) := by decide +kernel
theorem zdM_readCodes_118 : decode zkM_readCodes 118 = .ok (.iastore, 1) := by decide +kernel
theorem zdM_readCodes_119 : decode zkM_readCodes 119 = .ok (.iinc 2 1, 3) := by decide +kernel
theorem zdM_readCodes_122 : decode zkM_readCodes 122 = .ok (.iinc 4 1, 3) := by decide +kernel
theorem zdM_readCodes_125 : decode zkM_readCodes 125 = .ok (.goto (-75), 3) := by decide +kernel
theorem zdM_readCodes_128 : decode zkM_readCodes 128 = .ok (.iinc 3 1, 3) := by decide +kernel
theorem zdM_readCodes_131 : decode zkM_readCodes 131 = .ok (.goto (-89), 3) := by decide +kernel
theorem zdM_readCodes_134 : decode zkM_readCodes 134 = .ok (.iconst 0, 1) := by decide +kernel
theorem zdM_readCodes_135 : decode zkM_readCodes 135 = .ok (.istore_n 3, 1) := by decide +kernel
theorem zdM_readCodes_136 : decode zkM_readCodes 136 = .ok (.iload_n 3, 1) := by decide +kernel
theorem zdM_readCodes_137 : decode zkM_readCodes 137 = .ok (.aload_n 0, 1) := by decide +kernel
theorem zdM_readCodes_138 : decode zkM_readCodes 138 = .ok (.getfield 54, 3) := by decide +kernel
theorem zdM_readCodes_141 : decode zkM_readCodes 141 = .ok (.if_icmp .gt 21, 3) := by decide +kernel
theorem zdM_readCodes_144 : decode zkM_readCodes 144 = .ok (.aload_n 0, 1) := by decide +kernel
theorem zdM_readCodes_145 : decode zkM_readCodes 145 = .ok (.getfield 41, 3) := by decide +kernel
theorem zdM_readCodes_148 : decode zkM_readCodes 148 = .ok (.iload_n 3, 1) := by decide +kernel
theorem zdM_readCodes_149 : decode zkM_readCodes 149 = .ok (.aload_n 0, 1) := by decide +kernel
theorem zdM_readCodes_150 : decode zkM_readCodes 150 = .ok (.getfield 44, 3) := by decide +kernel
theorem zdM_readCodes_153 : decode zkM_readCodes 153 = .ok (.iload_n 3, 1) := by decide +kernel
theorem zdM_readCodes_154 : decode zkM_readCodes 154 = .ok (.iaload, 1) := by decide +kernel
theorem zdM_readCodes_155 : decode zkM_readCodes 155 = .ok (.iastore, 1) := by decide +kernel
theorem zdM_readCodes_156 : decode zkM_readCodes 156 = .ok (.iinc 3 1, 3) := by decide +kernel
theorem zdM_readCodes_159 : decode zkM_readCodes 159 = .ok (.goto (-23), 3) := by decide +kernel
theorem zdM_readCodes_162 : decode zkM_readCodes 162 = .ok (.iinc 1 1, 3) := by decide +kernel
theorem zdM_readCodes_165 : decode zkM_readCodes 165 = .ok (.goto (-133), 3) := by decide +kernel
theorem zdM_readCodes_168 : decode zkM_readCodes 168 = .ok (.return_, 1) := by decide +kernel
theorem zdM_before_0 : decode zkM_before 0 = .ok (.iconst 0, 1) := by decide +kernel
theorem zdM_before_1 : decode zkM_before 1 = .ok (.istore_n 2, 1) := by decide +kernel
theorem zdM_before_2 : decode zkM_before 2 = .ok (.iconst 0, 1) := by decide +kernel
theorem zdM_before_3 : decode zkM_before 3 = .ok (.istore_n 3, 1) := by decide +kernel
theorem zdM_before_4 : decode zkM_before 4 = .ok (.iload_n 3, 1) := by decide +kernel
theorem zdM_before_5 : decode zkM_before 5 = .ok (.aload_n 0, 1) := by decide +kernel
theorem zdM_before_6 : decode zkM_before 6 = .ok (.getfield 54, 3) := by decide +kernel
theorem zdM_before_9 : decode zkM_before 9 = .ok (.if_icmp .gt 52, 3) := by decide +kernel
theorem zdM_before_12 : decode zkM_before 12 = .ok (.aload_n 0, 1) := by decide +kernel
theorem zdM_before_13 : decode zkM_before 13 = .ok (.getfield 47, 3) := by decide +kernel
theorem zdM_before_16 : decode zkM_before 16 = .ok (.iload_n 3, 1) := by decide +kernel
theorem zdM_before_17 : decode zkM_before 17 = .ok (.iaload, 1) := by decide +kernel
theorem zdM_before_18 : decode zkM_before 18 = .ok (.aload_n 0, 1) := by decide +kernel
theorem zdM_before_19 : decode zkM_before 19 = .ok (.getfield 47, 3) := by decide +kernel
theorem zdM_before_22 : decode zkM_before 22 = .ok (.iload_n 1, 1) := by decide +kernel
theorem zdM_before_23 : decode zkM_before 23 = .ok (.iaload, 1) := by decide +kernel
theorem zdM_before_24 : decode zkM_before 24 = .ok (.if_icmp .lt 23, 3) := by decide +kernel
theorem zdM_before_27 : decode zkM_before 27 = .ok (.aload_n 0, 1) := by decide +kernel
theorem zdM_before_28 : decode zkM_before 28 = .ok (.getfield 47, 3) := by decide +kernel
theorem zdM_before_31 : decode zkM_before 31 = .ok (.iload_n 3, 1) := by decide +kernel
theorem zdM_before_32 : decode zkM_before 32 = .ok (.iaload, 1) := by decide +kernel
theorem zdM_before_33 : decode zkM_before 33 = .ok (.aload_n 0, 1) := by decide +kernel
theorem zdM_before_34 : decode zkM_before 34 = .ok (.getfield 47, 3) := by decide +kernel
theorem zdM_before_37 : decode zkM_before 37 = .ok (.iload_n 1, 1) := by decide +kernel
theorem zdM_before_38 : decode zkM_before 38 = .ok (.iaload, 1) := by decide +kernel
theorem zdM_before_39 : decode zkM_before 39 = .ok (.if_icmp .ne 14, 3) := by decide +kernel
theorem zdM_before_42 : decode zkM_before 42 = .ok (.iload_n 3, 1) := by decide +kernel
theorem zdM_before_43 : decode zkM_before 43 = .ok (.iload_n 1, 1) := by decide +kernel
theorem zdM_before_44 : decode zkM_before 44 = .ok (.if_icmp .ge 9, 3) := by decide +kernel
theorem zdM_before_47 : decode zkM_before 47 = .ok (.iload_n 2, 1) := by decide +kernel
theorem zdM_before_48 : decode zkM_before 48 = .ok (.iconst 1, 1) := by decide +kernel
theorem zdM_before_49 : decode zkM_before 49 = .ok (.iadd, 1) := by decide +kernel
theorem zdM_before_50 : decode zkM_before 50 = .ok (.goto 4, 3) := by decide +kernel
theorem zdM_before_53 : decode zkM_before 53 = .ok (.iload_n 2, 1) := by decide +kernel
theorem zdM_before_54 : decode zkM_before 54 = .ok (.istore_n 2, 1) := by decide +kernel
theorem zdM_before_55 : decode zkM_before 55 = .ok (.iinc 3 1, 3) := by decide +kernel
theorem zdM_before_58 : decode zkM_before 58 = .ok (.goto (-54), 3) := by decide +kernel
theorem zdM_before_61 : decode zkM_before 61 = .ok (.iload_n 2, 1) := by decide +kernel
theorem zdM_before_62 : decode zkM_before 62 = .ok (.ireturn, 1) := by decide +kernel
theorem zdM_load_0 : decode zkM_load 0 = .ok (.aload_n 0, 1) := by decide +kernel
theorem zdM_load_1 : decode zkM_load 1 = .ok (.getfield 13, 3) := by decide +kernel
theorem zdM_load_4 : decode zkM_load 4 = .ok (.iconst 0, 1) := by decide +kernel
theorem zdM_load_5 : decode zkM_load 5 = .ok (.laload, 1) := by decide +kernel
theorem zdM_load_6 : decode zkM_load 6 = .ok (.bipush 8, 2) := by decide +kernel
theorem zdM_load_8 : decode zkM_load 8 = .ok (.lshr, 1) := by decide +kernel
theorem zdM_load_9 : decode zkM_load 9 = .ok (.lstore_n 1, 1) := by decide +kernel
theorem zdM_load_10 : decode zkM_load 10 = .ok (.lload_n 1, 1) := by decide +kernel
theorem zdM_load_11 : decode zkM_load 11 = .ok (.lconst 1, 1) := by decide +kernel
theorem zdM_load_12 : decode zkM_load 12 = .ok (.lcmp, 1) := by decide +kernel
theorem zdM_load_13 : decode zkM_load 13 = .ok (.ifCond .lt 28, 3) := by decide +kernel
theorem zdM_load_16 : decode zkM_load 16 = .ok (.lload_n 1, 1) := by decide +kernel
theorem zdM_load_17 : decode zkM_load 17 = .ok (.ldc2_w 73, 3) := by decide +kernel
theorem zdM_load_20 : decode zkM_load 20 = .ok (.lcmp, 1) := by decide +kernel
theorem zdM_load_21 : decode zkM_load 21 = .ok (.ifCond .gt 20, 3) := by decide +kernel
theorem zdM_load_24 : decode zkM_load 24 = .ok (.aload_n 0, 1) := by decide +kernel
theorem zdM_load_25 : decode zkM_load 25 = .ok (.getfield 13, 3) := by decide +kernel
theorem zdM_load_28 : decode zkM_load 28 = .ok (.iconst 0, 1) := by decide +kernel
theorem zdM_load_29 : decode zkM_load 29 = .ok (.laload, 1) := by decide +kernel
theorem zdM_load_30 : decode zkM_load 30 = .ok (.ldc2_w 75, 3) := by decide +kernel
theorem zdM_load_33 : decode zkM_load 33 = .ok (.land, 1) := by decide +kernel
theorem zdM_load_34 : decode zkM_load 34 = .ok (.ldc2_w 77, 3) := by decide +kernel
theorem zdM_load_37 : decode zkM_load 37 = .ok (.lcmp, 1) := by decide +kernel
theorem zdM_load_38 : decode zkM_load 38 = .ok (.ifCond .le 5, 3) := by decide +kernel
theorem zdM_load_41 : decode zkM_load 41 = .ok (.iconst 0, 1) := by decide +kernel
theorem zdM_load_42 : decode zkM_load 42 = .ok (.ireturn, 1) := by decide +kernel
theorem zdM_load_43 : decode zkM_load 43 = .ok (.aload_n 0, 1) := by decide +kernel
theorem zdM_load_44 : decode zkM_load 44 = .ok (.aload_n 0, 1) := by decide +kernel
theorem zdM_load_45 : decode zkM_load 45 = .ok (.getfield 13, 3) := by decide +kernel
theorem zdM_load_48 : decode zkM_load 48 = .ok (.iconst 0, 1) := by decide +kernel
theorem zdM_load_49 : decode zkM_load 49 = .ok (.laload, 1) := by decide +kernel
theorem zdM_load_50 : decode zkM_load 50 = .ok (.ldc2_w 75, 3) := by decide +kernel
theorem zdM_load_53 : decode zkM_load 53 = .ok (.land, 1) := by decide +kernel
theorem zdM_load_54 : decode zkM_load 54 = .ok (.l2i, 1) := by decide +kernel
theorem zdM_load_55 : decode zkM_load 55 = .ok (.putfield 54, 3) := by decide +kernel
theorem zdM_load_58 : decode zkM_load 58 = .ok (.aload_n 0, 1) := by decide +kernel
theorem zdM_load_59 : decode zkM_load 59 = .ok (.invokevirtual 79, 3) := by decide +kernel
theorem zdM_load_62 : decode zkM_load 62 = .ok (.iconst 0, 1) := by decide +kernel
theorem zdM_load_63 : decode zkM_load 63 = .ok (.istore_n 3, 1) := by decide +kernel
theorem zdM_load_64 : decode zkM_load 64 = .ok (.aload_n 0, 1) := by decide +kernel
theorem zdM_load_65 : decode zkM_load 65 = .ok (.getfield 54, 3) := by decide +kernel
theorem zdM_load_68 : decode zkM_load 68 = .ok (.iconst 1, 1) := by decide +kernel
theorem zdM_load_69 : decode zkM_load 69 = .ok (.isub, 1) := by decide +kernel
theorem zdM_load_70 : decode zkM_load 70 = .ok (.istore 4, 2) := by decide +kernel
theorem zdM_load_72 : decode zkM_load 72 = .ok (.iload 4, 2) := by decide +kernel
theorem zdM_load_74 : decode zkM_load 74 = .ok (.ifCond .lt 54, 3) := by decide +kernel
theorem zdM_load_77 : decode zkM_load 77 = .ok (.aload_n 0, 1) := by decide +kernel
theorem zdM_load_78 : decode zkM_load 78 = .ok (.getfield 29, 3) := by decide +kernel
theorem zdM_load_81 : decode zkM_load 81 = .ok (.iload 4, 2) := by decide +kernel
theorem zdM_load_83 : decode zkM_load 83 = .ok (.aload_n 0, 1) := by decide +kernel
theorem zdM_load_84 : decode zkM_load 84 = .ok (.getfield 47, 3) := by decide +kernel
theorem zdM_load_87 : decode zkM_load 87 = .ok (.iload_n 3, 1) := by decide +kernel
theorem zdM_load_88 : decode zkM_load 88 = .ok (.iaload, 1) := by decide +kernel
theorem zdM_load_89 : decode zkM_load 89 = .ok (.iastore, 1) := by decide +kernel
theorem zdM_load_90 : decode zkM_load 90 = .ok (.aload_n 0, 1) := by decide +kernel
theorem zdM_load_91 : decode zkM_load 91 = .ok (.getfield 29, 3) := by decide +kernel
theorem zdM_load_94 : decode zkM_load 94 = .ok (.iload 4, 2) := by decide +kernel
theorem zdM_load_96 : decode zkM_load 96 = .ok (.iaload, 1) := by decide +kernel
theorem zdM_load_97 : decode zkM_load 97 = .ok (.bipush 32, 2) := by decide +kernel
theorem zdM_load_99 : decode zkM_load 99 = .ok (.if_icmp .lt 15, 3) := by decide +kernel
theorem zdM_load_102 : decode zkM_load 102 = .ok (.aload_n 0, 1) := by decide +kernel
theorem zdM_load_103 : decode zkM_load 103 = .ok (.getfield 29, 3) := by decide +kernel
theorem zdM_load_106 : decode zkM_load 106 = .ok (.iload 4, 2) := by decide +kernel
theorem zdM_load_108 : decode zkM_load 108 = .ok (.iaload, 1) := by decide +kernel
theorem zdM_load_109 : decode zkM_load 109 = .ok (.bipush 126, 2) := by decide +kernel
theorem zdM_load_111 : decode zkM_load 111 = .ok (.if_icmp .le 5, 3) := by decide +kernel
theorem zdM_load_114 : decode zkM_load 114 = .ok (.iconst 0, 1) := by decide +kernel
theorem zdM_load_115 : decode zkM_load 115 = .ok (.ireturn, 1) := by decide +kernel
theorem zdM_load_116 : decode zkM_load 116 = .ok (.aload_n 0, 1) := by decide +kernel
theorem zdM_load_117 : decode zkM_load 117 = .ok (.iload_n 3, 1) := by decide +kernel
theorem zdM_load_118 : decode zkM_load 118 = .ok (.invokevirtual 82, 3) := by decide +kernel
theorem zdM_load_121 : decode zkM_load 121 = .ok (.istore_n 3, 1) := by decide +kernel
theorem zdM_load_122 : decode zkM_load 122 = .ok (.iinc 4 (-1), 3) := by decide +kernel
theorem zdM_load_125 : decode zkM_load 125 = .ok (.goto (-53), 3) := by decide +kernel
theorem zdM_load_128 : decode zkM_load 128 = .ok (.aload_n 0, 1) := by decide +kernel
theorem zdM_load_129 : decode zkM_load 129 = .ok (.lload_n 1, 1) := by decide +kernel
theorem zdM_load_130 : decode zkM_load 130 = .ok (.l2i, 1) := by decide +kernel
theorem zdM_load_131 : decode zkM_load 131 = .ok (.invokevirtual 69, 3) := by decide +kernel
theorem zdM_load_134 : decode zkM_load 134 = .ok (.iconst 0, 1) := by decide +kernel
theorem zdM_load_135 : decode zkM_load 135 = .ok (.istore 4, 2) := by decide +kernel
theorem zdM_load_137 : decode zkM_load 137 = .ok (.iload 4, 2) := by decide +kernel
theorem zdM_load_139 : decode zkM_load 139 = .ok (.bipush 23, 2) := by decide +kernel
theorem zdM_load_141 : decode zkM_load 141 = .ok (.if_icmp .ge 29, 3) := by decide +kernel
theorem zdM_load_144 : decode zkM_load 144 = .ok (.aload_n 0, 1) := by decide +kernel
theorem zdM_load_145 : decode zkM_load 145 = .ok (.getfield 38, 3) := by decide +kernel
theorem zdM_load_148 : decode zkM_load 148 = .ok (.iload 4, 2) := by decide +kernel
theorem zdM_load_150 : decode zkM_load 150 = .ok (.laload, 1) := by decide +kernel
theorem zdM_load_151 : decode zkM_load 151 = .ok (.aload_n 0, 1) := by decide +kernel
theorem zdM_load_152 : decode zkM_load 152 = .ok (.getfield 13, 3) := by decide +kernel
theorem zdM_load_155 : decode zkM_load 155 = .ok (.iload 4, 2) := by decide +kernel
theorem zdM_load_157 : decode zkM_load 157 = .ok (.laload, 1) := by decide +kernel
theorem zdM_load_158 : decode zkM_load 158 = .ok (.lcmp, 1) := by decide +kernel
theorem zdM_load_159 : decode zkM_load 159 = .ok (.ifCond .eq 5, 3) := by decide +kernel
theorem zdM_load_162 : decode zkM_load 162 = .ok (.iconst 0, 1) := by decide +kernel
theorem zdM_load_163 : decode zkM_load 163 = .ok (.ireturn, 1) := by decide +kernel
theorem zdM_load_164 : decode zkM_load 164 = .ok (.iinc 4 1, 3) := by decide +kernel
theorem zdM_load_167 : decode zkM_load 167 = .ok (.goto (-30), 3) := by decide +kernel
theorem zdM_load_170 : decode zkM_load 170 = .ok (.aload_n 0, 1) := by decide +kernel
theorem zdM_load_171 : decode zkM_load 171 = .ok (.iconst 1, 1) := by decide +kernel
theorem zdM_load_172 : decode zkM_load 172 = .ok (.putfield 86, 3) := by decide +kernel
theorem zdM_load_175 : decode zkM_load 175 = .ok (.aload_n 0, 1) := by decide +kernel
theorem zdM_load_176 : decode zkM_load 176 = .ok (.aload_n 0, 1) := by decide +kernel
theorem zdM_load_177 : decode zkM_load 177 = .ok (.getfield 54, 3) := by decide +kernel
theorem zdM_load_180 : decode zkM_load 180 = .ok (.putfield 90, 3) := by decide +kernel
theorem zdM_load_183 : decode zkM_load 183 = .ok (.aload_n 0, 1) := by decide +kernel
theorem zdM_load_184 : decode zkM_load 184 = .ok (.lload_n 1, 1) := by decide +kernel
theorem zdM_load_185 : decode zkM_load 185 = .ok (.l2i, 1) := by decide +kernel
theorem zdM_load_186 : decode zkM_load 186 = .ok (.putfield 93, 3) := by decide +kernel
theorem zdM_load_189 : decode zkM_load 189 = .ok (.iconst 0, 1) := by decide +kernel
theorem zdM_load_190 : decode zkM_load 190 = .ok (.istore 4, 2) := by decide +kernel
theorem zdM_load_192 : decode zkM_load 192 = .ok (.iload 4, 2) := by decide +kernel
theorem zdM_load_194 : decode zkM_load 194 = .ok (.aload_n 0, 1) := by decide +kernel
theorem zdM_load_195 : decode zkM_load 195 = .ok (.getfield 54, 3) := by decide +kernel
theorem zdM_load_198 : decode zkM_load 198 = .ok (.if_icmp .gt 51, 3) := by decide +kernel
theorem zdM_load_201 : decode zkM_load 201 = .ok (.aload_n 0, 1) := by decide +kernel
theorem zdM_load_202 : decode zkM_load 202 = .ok (.getfield 17, 3) := by decide +kernel
theorem zdM_load_205 : decode zkM_load 205 = .ok (.iload 4, 2) := by decide +kernel
theorem zdM_load_207 : decode zkM_load 207 = .ok (.aload_n 0, 1) := by decide +kernel
theorem zdM_load_208 : decode zkM_load 208 = .ok (.getfield 29, 3) := by decide +kernel
theorem zdM_load_211 : decode zkM_load 211 = .ok (.iload 4, 2) := by decide +kernel
theorem zdM_load_213 : decode zkM_load 213 = .ok (.iaload, 1) := by decide +kernel
theorem zdM_load_214 : decode zkM_load 214 = .ok (.iastore, 1) := by decide +kernel
theorem zdM_load_215 : decode zkM_load 215 = .ok (.aload_n 0, 1) := by decide +kernel
theorem zdM_load_216 : decode zkM_load 216 = .ok (.getfield 20, 3) := by decide +kernel
theorem zdM_load_219 : decode zkM_load 219 = .ok (.iload 4, 2) := by decide +kernel
theorem zdM_load_221 : decode zkM_load 221 = .ok (.aload_n 0, 1) := by decide +kernel
theorem zdM_load_222 : decode zkM_load 222 = .ok (.getfield 32, 3) := by decide +kernel
theorem zdM_load_225 : decode zkM_load 225 = .ok (.iload 4, 2) := by decide +kernel
theorem zdM_load_227 : decode zkM_load 227 = .ok (.iaload, 1) := by decide +kernel
theorem zdM_load_228 : decode zkM_load 228 = .ok (.iastore, 1) := by decide +kernel
theorem zdM_load_229 : decode zkM_load 229 = .ok (.aload_n 0, 1) := by decide +kernel
theorem zdM_load_230 : decode zkM_load 230 = .ok (.getfield 23, 3) := by decide +kernel
theorem zdM_load_233 : decode zkM_load 233 = .ok (.iload 4, 2) := by decide +kernel
theorem zdM_load_235 : decode zkM_load 235 = .ok (.aload_n 0, 1) := by decide +kernel
theorem zdM_load_236 : decode zkM_load 236 = .ok (.getfield 35, 3) := by decide +kernel
theorem zdM_load_239 : decode zkM_load 239 = .ok (.iload 4, 2) := by decide +kernel
theorem zdM_load_241 : decode zkM_load 241 = .ok (.iaload, 1) := by decide +kernel
theorem zdM_load_242 : decode zkM_load 242 = .ok (.iastore, 1) := by decide +kernel
theorem zdM_load_243 : decode zkM_load 243 = .ok (.iinc 4 1, 3) := by decide +kernel
theorem zdM_load_246 : decode zkM_load 246 = .ok (.goto (-54), 3) := by decide +kernel
theorem zdM_load_249 : decode zkM_load 249 = .ok (.iconst 1, 1) := by decide +kernel
theorem zdM_load_250 : decode zkM_load 250 = .ok (.ireturn, 1) := by decide +kernel
theorem zdM_length_0 : decode zkM_length 0 = .ok (.aload_n 0, 1) := by decide +kernel
theorem zdM_length_1 : decode zkM_length 1 = .ok (.getfield 86, 3) := by decide +kernel
theorem zdM_length_4 : decode zkM_length 4 = .ok (.ifCond .eq 10, 3) := by decide +kernel
theorem zdM_length_7 : decode zkM_length 7 = .ok (.aload_n 0, 1) := by decide +kernel
theorem zdM_length_8 : decode zkM_length 8 = .ok (.getfield 90, 3) := by decide +kernel
theorem zdM_length_11 : decode zkM_length 11 = .ok (.goto 4, 3) := by decide +kernel
theorem zdM_length_14 : decode zkM_length 14 = .ok (.iconst (-1), 1) := by decide +kernel
theorem zdM_length_15 : decode zkM_length 15 = .ok (.ireturn, 1) := by decide +kernel
theorem zdM_rate_0 : decode zkM_rate 0 = .ok (.aload_n 0, 1) := by decide +kernel
theorem zdM_rate_1 : decode zkM_rate 1 = .ok (.getfield 86, 3) := by decide +kernel
theorem zdM_rate_4 : decode zkM_rate 4 = .ok (.ifCond .eq 10, 3) := by decide +kernel
theorem zdM_rate_7 : decode zkM_rate 7 = .ok (.aload_n 0, 1) := by decide +kernel
theorem zdM_rate_8 : decode zkM_rate 8 = .ok (.getfield 93, 3) := by decide +kernel
theorem zdM_rate_11 : decode zkM_rate 11 = .ok (.goto 4, 3) := by decide +kernel
theorem zdM_rate_14 : decode zkM_rate 14 = .ok (.iconst (-1), 1) := by decide +kernel
theorem zdM_rate_15 : decode zkM_rate 15 = .ok (.ireturn, 1) := by decide +kernel
theorem zdM_place_0 : decode zkM_place 0 = .ok (.aload_n 0, 1) := by decide +kernel
theorem zdM_place_1 : decode zkM_place 1 = .ok (.getfield 86, 3) := by decide +kernel
theorem zdM_place_4 : decode zkM_place 4 = .ok (.ifCond .eq 19, 3) := by decide +kernel
theorem zdM_place_7 : decode zkM_place 7 = .ok (.iload_n 1, 1) := by decide +kernel
theorem zdM_place_8 : decode zkM_place 8 = .ok (.ifCond .lt 15, 3) := by decide +kernel
theorem zdM_place_11 : decode zkM_place 11 = .ok (.iload_n 1, 1) := by decide +kernel
theorem zdM_place_12 : decode zkM_place 12 = .ok (.aload_n 0, 1) := by decide +kernel
theorem zdM_place_13 : decode zkM_place 13 = .ok (.getfield 90, 3) := by decide +kernel
theorem zdM_place_16 : decode zkM_place 16 = .ok (.if_icmp .gt 7, 3) := by decide +kernel
theorem zdM_place_19 : decode zkM_place 19 = .ok (.iconst 1, 1) := by decide +kernel
theorem zdM_place_20 : decode zkM_place 20 = .ok (.goto 4, 3) := by decide +kernel
theorem zdM_place_23 : decode zkM_place 23 = .ok (.iconst 0, 1) := by decide +kernel
theorem zdM_place_24 : decode zkM_place 24 = .ok (.ireturn, 1) := by decide +kernel
theorem zdM_charAt_0 : decode zkM_charAt 0 = .ok (.aload_n 0, 1) := by decide +kernel
theorem zdM_charAt_1 : decode zkM_charAt 1 = .ok (.iload_n 1, 1) := by decide +kernel
theorem zdM_charAt_2 : decode zkM_charAt 2 = .ok (.invokevirtual 96, 3) := by decide +kernel
theorem zdM_charAt_5 : decode zkM_charAt 5 = .ok (.ifCond .eq 12, 3) := by decide +kernel
theorem zdM_charAt_8 : decode zkM_charAt 8 = .ok (.aload_n 0, 1) := by decide +kernel
theorem zdM_charAt_9 : decode zkM_charAt 9 = .ok (.getfield 17, 3) := by decide +kernel
theorem zdM_charAt_12 : decode zkM_charAt 12 = .ok (.iload_n 1, 1) := by decide +kernel
theorem zdM_charAt_13 : decode zkM_charAt 13 = .ok (.iaload, 1) := by decide +kernel
theorem zdM_charAt_14 : decode zkM_charAt 14 = .ok (.goto 4, 3) := by decide +kernel
theorem zdM_charAt_17 : decode zkM_charAt 17 = .ok (.iconst (-1), 1) := by decide +kernel
theorem zdM_charAt_18 : decode zkM_charAt 18 = .ok (.ireturn, 1) := by decide +kernel
theorem zdM_rowOf_0 : decode zkM_rowOf 0 = .ok (.aload_n 0, 1) := by decide +kernel
theorem zdM_rowOf_1 : decode zkM_rowOf 1 = .ok (.iload_n 1, 1) := by decide +kernel
theorem zdM_rowOf_2 : decode zkM_rowOf 2 = .ok (.invokevirtual 96, 3) := by decide +kernel
theorem zdM_rowOf_5 : decode zkM_rowOf 5 = .ok (.ifCond .eq 12, 3) := by decide +kernel
theorem zdM_rowOf_8 : decode zkM_rowOf 8 = .ok (.aload_n 0, 1) := by decide +kernel
theorem zdM_rowOf_9 : decode zkM_rowOf 9 = .ok (.getfield 23, 3) := by decide +kernel
theorem zdM_rowOf_12 : decode zkM_rowOf 12 = .ok (.iload_n 1, 1) := by decide +kernel
theorem zdM_rowOf_13 : decode zkM_rowOf 13 = .ok (.iaload, 1) := by decide +kernel
theorem zdM_rowOf_14 : decode zkM_rowOf 14 = .ok (.goto 4, 3) := by decide +kernel
theorem zdM_rowOf_17 : decode zkM_rowOf 17 = .ok (.iconst (-1), 1) := by decide +kernel
theorem zdM_rowOf_18 : decode zkM_rowOf 18 = .ok (.ireturn, 1) := by decide +kernel
theorem zdM_placeOf_0 : decode zkM_placeOf 0 = .ok (.aload_n 0, 1) := by decide +kernel
theorem zdM_placeOf_1 : decode zkM_placeOf 1 = .ok (.iload_n 1, 1) := by decide +kernel
theorem zdM_placeOf_2 : decode zkM_placeOf 2 = .ok (.invokevirtual 96, 3) := by decide +kernel
theorem zdM_placeOf_5 : decode zkM_placeOf 5 = .ok (.ifCond .eq 12, 3) := by decide +kernel
theorem zdM_placeOf_8 : decode zkM_placeOf 8 = .ok (.aload_n 0, 1) := by decide +kernel
theorem zdM_placeOf_9 : decode zkM_placeOf 9 = .ok (.getfield 20, 3) := by decide +kernel
theorem zdM_placeOf_12 : decode zkM_placeOf 12 = .ok (.iload_n 1, 1) := by decide +kernel
theorem zdM_placeOf_13 : decode zkM_placeOf 13 = .ok (.iaload, 1) := by decide +kernel
theorem zdM_placeOf_14 : decode zkM_placeOf 14 = .ok (.goto 4, 3) := by decide +kernel
theorem zdM_placeOf_17 : decode zkM_placeOf 17 = .ok (.iconst (-1), 1) := by decide +kernel
theorem zdM_placeOf_18 : decode zkM_placeOf 18 = .ok (.ireturn, 1) := by decide +kernel
theorem zdM_ask_0 : decode zkM_ask 0 = .ok (.iload_n 1, 1) := by decide +kernel
theorem zdM_ask_1 : decode zkM_ask 1 = .ok (.bipush 32, 2) := by decide +kernel
theorem zdM_ask_3 : decode zkM_ask 3 = .ok (.if_icmp .lt 18, 3) := by decide +kernel
theorem zdM_ask_6 : decode zkM_ask 6 = .ok (.iload_n 1, 1) := by decide +kernel
theorem zdM_ask_7 : decode zkM_ask 7 = .ok (.bipush 126, 2) := by decide +kernel
theorem zdM_ask_9 : decode zkM_ask 9 = .ok (.if_icmp .gt 12, 3) := by decide +kernel
theorem zdM_ask_12 : decode zkM_ask 12 = .ok (.aload_n 0, 1) := by decide +kernel
theorem zdM_ask_13 : decode zkM_ask 13 = .ok (.getfield 100, 3) := by decide +kernel
theorem zdM_ask_16 : decode zkM_ask 16 = .ok (.bipush 20, 2) := by decide +kernel
theorem zdM_ask_18 : decode zkM_ask 18 = .ok (.if_icmp .ne 5, 3) := by decide +kernel
theorem zdM_ask_21 : decode zkM_ask 21 = .ok (.iconst 0, 1) := by decide +kernel
theorem zdM_ask_22 : decode zkM_ask 22 = .ok (.ireturn, 1) := by decide +kernel
theorem zdM_ask_23 : decode zkM_ask 23 = .ok (.aload_n 0, 1) := by decide +kernel
theorem zdM_ask_24 : decode zkM_ask 24 = .ok (.getfield 26, 3) := by decide +kernel
theorem zdM_ask_27 : decode zkM_ask 27 = .ok (.aload_n 0, 1) := by decide +kernel
theorem zdM_ask_28 : decode zkM_ask 28 = .ok (.getfield 100, 3) := by decide +kernel
theorem zdM_ask_31 : decode zkM_ask 31 = .ok (.iload_n 1, 1) := by decide +kernel
theorem zdM_ask_32 : decode zkM_ask 32 = .ok (.iastore, 1) := by decide +kernel
theorem zdM_ask_33 : decode zkM_ask 33 = .ok (.aload_n 0, 1) := by decide +kernel
theorem zdM_ask_34 : decode zkM_ask 34 = .ok (.dup, 1) := by decide +kernel
theorem zdM_ask_35 : decode zkM_ask 35 = .ok (.getfield 100, 3) := by decide +kernel
theorem zdM_ask_38 : decode zkM_ask 38 = .ok (.iconst 1, 1) := by decide +kernel
theorem zdM_ask_39 : decode zkM_ask 39 = .ok (.iadd, 1) := by decide +kernel
theorem zdM_ask_40 : decode zkM_ask 40 = .ok (.putfield 100, 3) := by decide +kernel
theorem zdM_ask_43 : decode zkM_ask 43 = .ok (.iconst 1, 1) := by decide +kernel
theorem zdM_ask_44 : decode zkM_ask 44 = .ok (.ireturn, 1) := by decide +kernel
theorem zdM_back_0 : decode zkM_back 0 = .ok (.aload_n 0, 1) := by decide +kernel
theorem zdM_back_1 : decode zkM_back 1 = .ok (.getfield 100, 3) := by decide +kernel
theorem zdM_back_4 : decode zkM_back 4 = .ok (.ifCond .ne 5, 3) := by decide +kernel
theorem zdM_back_7 : decode zkM_back 7 = .ok (.iconst 0, 1) := by decide +kernel
theorem zdM_back_8 : decode zkM_back 8 = .ok (.ireturn, 1) := by decide +kernel
theorem zdM_back_9 : decode zkM_back 9 = .ok (.aload_n 0, 1) := by decide +kernel
theorem zdM_back_10 : decode zkM_back 10 = .ok (.dup, 1) := by decide +kernel
theorem zdM_back_11 : decode zkM_back 11 = .ok (.getfield 100, 3) := by decide +kernel
theorem zdM_back_14 : decode zkM_back 14 = .ok (.iconst 1, 1) := by decide +kernel
theorem zdM_back_15 : decode zkM_back 15 = .ok (.isub, 1) := by decide +kernel
theorem zdM_back_16 : decode zkM_back 16 = .ok (.putfield 100, 3) := by decide +kernel
theorem zdM_back_19 : decode zkM_back 19 = .ok (.iconst 1, 1) := by decide +kernel
theorem zdM_back_20 : decode zkM_back 20 = .ok (.ireturn, 1) := by decide +kernel
theorem zdM_occurs_0 : decode zkM_occurs 0 = .ok (.aload_n 0, 1) := by decide +kernel
theorem zdM_occurs_1 : decode zkM_occurs 1 = .ok (.getfield 86, 3) := by decide +kernel
theorem zdM_occurs_4 : decode zkM_occurs 4 = .ok (.ifCond .eq 16, 3) := by decide +kernel
theorem zdM_occurs_7 : decode zkM_occurs 7 = .ok (.iload_n 1, 1) := by decide +kernel
theorem zdM_occurs_8 : decode zkM_occurs 8 = .ok (.aload_n 0, 1) := by decide +kernel
theorem zdM_occurs_9 : decode zkM_occurs 9 = .ok (.getfield 100, 3) := by decide +kernel
theorem zdM_occurs_12 : decode zkM_occurs 12 = .ok (.iadd, 1) := by decide +kernel
theorem zdM_occurs_13 : decode zkM_occurs 13 = .ok (.aload_n 0, 1) := by decide +kernel
theorem zdM_occurs_14 : decode zkM_occurs 14 = .ok (.getfield 90, 3) := by decide +kernel
theorem zdM_occurs_17 : decode zkM_occurs 17 = .ok (.if_icmp .le 5, 3) := by decide +kernel
theorem zdM_occurs_20 : decode zkM_occurs 20 = .ok (.iconst 0, 1) := by decide +kernel
theorem zdM_occurs_21 : decode zkM_occurs 21 = .ok (.ireturn, 1) := by decide +kernel
theorem zdM_occurs_22 : decode zkM_occurs 22 = .ok (.iconst 0, 1) := by decide +kernel
theorem zdM_occurs_23 : decode zkM_occurs 23 = .ok (.istore_n 2, 1) := by decide +kernel
theorem zdM_occurs_24 : decode zkM_occurs 24 = .ok (.iload_n 2, 1) := by decide +kernel
theorem zdM_occurs_25 : decode zkM_occurs 25 = .ok (.aload_n 0, 1) := by decide +kernel
theorem zdM_occurs_26 : decode zkM_occurs 26 = .ok (.getfield 100, 3) := by decide +kernel
theorem zdM_occurs_29 : decode zkM_occurs 29 = .ok (.if_icmp .ge 28, 3) := by decide +kernel
theorem zdM_occurs_32 : decode zkM_occurs 32 = .ok (.aload_n 0, 1) := by decide +kernel
theorem zdM_occurs_33 : decode zkM_occurs 33 = .ok (.getfield 17, 3) := by decide +kernel
theorem zdM_occurs_36 : decode zkM_occurs 36 = .ok (.iload_n 1, 1) := by decide +kernel
theorem zdM_occurs_37 : decode zkM_occurs 37 = .ok (.iload_n 2, 1) := by decide +kernel
theorem zdM_occurs_38 : decode zkM_occurs 38 = .ok (.iadd, 1) := by decide +kernel
theorem zdM_occurs_39 : decode zkM_occurs 39 = .ok (.iaload, 1) := by decide +kernel
theorem zdM_occurs_40 : decode zkM_occurs 40 = .ok (.aload_n 0, 1) := by decide +kernel
theorem zdM_occurs_41 : decode zkM_occurs 41 = .ok (.getfield 26, 3) := by decide +kernel
theorem zdM_occurs_44 : decode zkM_occurs 44 = .ok (.iload_n 2, 1) := by decide +kernel
theorem zdM_occurs_45 : decode zkM_occurs 45 = .ok (.iaload, 1) := by decide +kernel
theorem zdM_occurs_46 : decode zkM_occurs 46 = .ok (.if_icmp .eq 5, 3) := by decide +kernel
theorem zdM_occurs_49 : decode zkM_occurs 49 = .ok (.iconst 0, 1) := by decide +kernel
theorem zdM_occurs_50 : decode zkM_occurs 50 = .ok (.ireturn, 1) := by decide +kernel
theorem zdM_occurs_51 : decode zkM_occurs 51 = .ok (.iinc 2 1, 3) := by decide +kernel
theorem zdM_occurs_54 : decode zkM_occurs 54 = .ok (.goto (-30), 3) := by decide +kernel
theorem zdM_occurs_57 : decode zkM_occurs 57 = .ok (.iconst 1, 1) := by decide +kernel
theorem zdM_occurs_58 : decode zkM_occurs 58 = .ok (.ireturn, 1) := by decide +kernel
theorem zdM_count_0 : decode zkM_count 0 = .ok (.iconst 0, 1) := by decide +kernel
theorem zdM_count_1 : decode zkM_count 1 = .ok (.istore_n 1, 1) := by decide +kernel
theorem zdM_count_2 : decode zkM_count 2 = .ok (.iconst 0, 1) := by decide +kernel
theorem zdM_count_3 : decode zkM_count 3 = .ok (.istore_n 2, 1) := by decide +kernel
theorem zdM_count_4 : decode zkM_count 4 = .ok (.aload_n 0, 1) := by decide +kernel
theorem zdM_count_5 : decode zkM_count 5 = .ok (.getfield 86, 3) := by decide +kernel
theorem zdM_count_8 : decode zkM_count 8 = .ok (.ifCond .eq 33, 3) := by decide +kernel
theorem zdM_count_11 : decode zkM_count 11 = .ok (.iload_n 2, 1) := by decide +kernel
theorem zdM_count_12 : decode zkM_count 12 = .ok (.aload_n 0, 1) := by decide +kernel
theorem zdM_count_13 : decode zkM_count 13 = .ok (.getfield 90, 3) := by decide +kernel
theorem zdM_count_16 : decode zkM_count 16 = .ok (.if_icmp .gt 25, 3) := by decide +kernel
theorem zdM_count_19 : decode zkM_count 19 = .ok (.aload_n 0, 1) := by decide +kernel
theorem zdM_count_20 : decode zkM_count 20 = .ok (.iload_n 2, 1) := by decide +kernel
theorem zdM_count_21 : decode zkM_count 21 = .ok (.invokevirtual 103, 3) := by decide +kernel
theorem zdM_count_24 : decode zkM_count 24 = .ok (.ifCond .eq 9, 3) := by decide +kernel
theorem zdM_count_27 : decode zkM_count 27 = .ok (.iload_n 1, 1) := by decide +kernel
theorem zdM_count_28 : decode zkM_count 28 = .ok (.iconst 1, 1) := by decide +kernel
theorem zdM_count_29 : decode zkM_count 29 = .ok (.iadd, 1) := by decide +kernel
theorem zdM_count_30 : decode zkM_count 30 = .ok (.goto 4, 3) := by decide +kernel
theorem zdM_count_33 : decode zkM_count 33 = .ok (.iload_n 1, 1) := by decide +kernel
theorem zdM_count_34 : decode zkM_count 34 = .ok (.istore_n 1, 1) := by decide +kernel
theorem zdM_count_35 : decode zkM_count 35 = .ok (.iinc 2 1, 3) := by decide +kernel
theorem zdM_count_38 : decode zkM_count 38 = .ok (.goto (-34), 3) := by decide +kernel
theorem zdM_count_41 : decode zkM_count 41 = .ok (.aload_n 0, 1) := by decide +kernel
theorem zdM_count_42 : decode zkM_count 42 = .ok (.getfield 86, 3) := by decide +kernel
theorem zdM_count_45 : decode zkM_count 45 = .ok (.ifCond .eq 7, 3) := by decide +kernel
theorem zdM_count_48 : decode zkM_count 48 = .ok (.iload_n 1, 1) := by decide +kernel
theorem zdM_count_49 : decode zkM_count 49 = .ok (.goto 4, 3) := by decide +kernel
theorem zdM_count_52 : decode zkM_count 52 = .ok (.iconst (-1), 1) := by decide +kernel
theorem zdM_count_53 : decode zkM_count 53 = .ok (.ireturn, 1) := by decide +kernel
theorem zdM_firstRow_0 : decode zkM_firstRow 0 = .ok (.iconst (-1), 1) := by decide +kernel
theorem zdM_firstRow_1 : decode zkM_firstRow 1 = .ok (.istore_n 1, 1) := by decide +kernel
theorem zdM_firstRow_2 : decode zkM_firstRow 2 = .ok (.iconst 0, 1) := by decide +kernel
theorem zdM_firstRow_3 : decode zkM_firstRow 3 = .ok (.istore_n 2, 1) := by decide +kernel
theorem zdM_firstRow_4 : decode zkM_firstRow 4 = .ok (.aload_n 0, 1) := by decide +kernel
theorem zdM_firstRow_5 : decode zkM_firstRow 5 = .ok (.getfield 86, 3) := by decide +kernel
theorem zdM_firstRow_8 : decode zkM_firstRow 8 = .ok (.ifCond .eq 50, 3) := by decide +kernel
theorem zdM_firstRow_11 : decode zkM_firstRow 11 = .ok (.iload_n 2, 1) := by decide +kernel
theorem zdM_firstRow_12 : decode zkM_firstRow 12 = .ok (.aload_n 0, 1) := by decide +kernel
theorem zdM_firstRow_13 : decode zkM_firstRow 13 = .ok (.getfield 90, 3) := by decide +kernel
theorem zdM_firstRow_16 : decode zkM_firstRow 16 = .ok (.if_icmp .gt 42, 3) := by decide +kernel
theorem zdM_firstRow_19 : decode zkM_firstRow 19 = .ok (.aload_n 0, 1) := by decide +kernel
theorem zdM_firstRow_20 : decode zkM_firstRow 20 = .ok (.iload_n 2, 1) := by decide +kernel
theorem zdM_firstRow_21 : decode zkM_firstRow 21 = .ok (.invokevirtual 103, 3) := by decide +kernel
theorem zdM_firstRow_24 : decode zkM_firstRow 24 = .ok (.ifCond .eq 26, 3) := by decide +kernel
theorem zdM_firstRow_27 : decode zkM_firstRow 27 = .ok (.iload_n 1, 1) := by decide +kernel
theorem zdM_firstRow_28 : decode zkM_firstRow 28 = .ok (.ifCond .lt 13, 3) := by decide +kernel
theorem zdM_firstRow_31 : decode zkM_firstRow 31 = .ok (.aload_n 0, 1) := by decide +kernel
theorem zdM_firstRow_32 : decode zkM_firstRow 32 = .ok (.getfield 23, 3) := by decide +kernel
theorem zdM_firstRow_35 : decode zkM_firstRow 35 = .ok (.iload_n 2, 1) := by decide +kernel
theorem zdM_firstRow_36 : decode zkM_firstRow 36 = .ok (.iaload, 1) := by decide +kernel
theorem zdM_firstRow_37 : decode zkM_firstRow 37 = .ok (.iload_n 1, 1) := by decide +kernel
theorem zdM_firstRow_38 : decode zkM_firstRow 38 = .ok (.if_icmp .ge 12, 3) := by decide +kernel
theorem zdM_firstRow_41 : decode zkM_firstRow 41 = .ok (.aload_n 0, 1) := by decide +kernel
theorem zdM_firstRow_42 : decode zkM_firstRow 42 = .ok (.getfield 23, 3) := by decide +kernel
theorem zdM_firstRow_45 : decode zkM_firstRow 45 = .ok (.iload_n 2, 1) := by decide +kernel
theorem zdM_firstRow_46 : decode zkM_firstRow 46 = .ok (.iaload, 1) := by decide +kernel
theorem zdM_firstRow_47 : decode zkM_firstRow 47 = .ok (.goto 4, 3) := by decide +kernel
theorem zdM_firstRow_50 : decode zkM_firstRow 50 = .ok (.iload_n 1, 1) := by decide +kernel
theorem zdM_firstRow_51 : decode zkM_firstRow 51 = .ok (.istore_n 1, 1) := by decide +kernel
theorem zdM_firstRow_52 : decode zkM_firstRow 52 = .ok (.iinc 2 1, 3) := by decide +kernel
theorem zdM_firstRow_55 : decode zkM_firstRow 55 = .ok (.goto (-51), 3) := by decide +kernel
theorem zdM_firstRow_58 : decode zkM_firstRow 58 = .ok (.iload_n 1, 1) := by decide +kernel
theorem zdM_firstRow_59 : decode zkM_firstRow 59 = .ok (.ireturn, 1) := by decide +kernel
theorem zdM_locate_0 : decode zkM_locate 0 = .ok (.iload_n 1, 1) := by decide +kernel
theorem zdM_locate_1 : decode zkM_locate 1 = .ok (.istore_n 2, 1) := by decide +kernel
theorem zdM_locate_2 : decode zkM_locate 2 = .ok (.iconst 0, 1) := by decide +kernel
theorem zdM_locate_3 : decode zkM_locate 3 = .ok (.istore_n 3, 1) := by decide +kernel
theorem zdM_locate_4 : decode zkM_locate 4 = .ok (.aload_n 0, 1) := by decide +kernel
theorem zdM_locate_5 : decode zkM_locate 5 = .ok (.getfield 86, 3) := by decide +kernel
theorem zdM_locate_8 : decode zkM_locate 8 = .ok (.ifCond .eq 38, 3) := by decide +kernel
theorem zdM_locate_11 : decode zkM_locate 11 = .ok (.iload_n 1, 1) := by decide +kernel
theorem zdM_locate_12 : decode zkM_locate 12 = .ok (.ifCond .lt 34, 3) := by decide +kernel
theorem zdM_locate_15 : decode zkM_locate 15 = .ok (.iload_n 3, 1) := by decide +kernel
theorem zdM_locate_16 : decode zkM_locate 16 = .ok (.aload_n 0, 1) := by decide +kernel
theorem zdM_locate_17 : decode zkM_locate 17 = .ok (.getfield 90, 3) := by decide +kernel
theorem zdM_locate_20 : decode zkM_locate 20 = .ok (.if_icmp .gt 26, 3) := by decide +kernel
theorem zdM_locate_23 : decode zkM_locate 23 = .ok (.aload_n 0, 1) := by decide +kernel
theorem zdM_locate_24 : decode zkM_locate 24 = .ok (.iload_n 3, 1) := by decide +kernel
theorem zdM_locate_25 : decode zkM_locate 25 = .ok (.invokevirtual 103, 3) := by decide +kernel
theorem zdM_locate_28 : decode zkM_locate 28 = .ok (.ifCond .eq 12, 3) := by decide +kernel
theorem zdM_locate_31 : decode zkM_locate 31 = .ok (.iload_n 2, 1) := by decide +kernel
theorem zdM_locate_32 : decode zkM_locate 32 = .ok (.ifCond .ne 5, 3) := by decide +kernel
theorem zdM_locate_35 : decode zkM_locate 35 = .ok (.iload_n 3, 1) := by decide +kernel
theorem zdM_locate_36 : decode zkM_locate 36 = .ok (.ireturn, 1) := by decide +kernel
theorem zdM_locate_37 : decode zkM_locate 37 = .ok (.iinc 2 (-1), 3) := by decide +kernel
theorem zdM_locate_40 : decode zkM_locate 40 = .ok (.iinc 3 1, 3) := by decide +kernel
theorem zdM_locate_43 : decode zkM_locate 43 = .ok (.goto (-39), 3) := by decide +kernel
theorem zdM_locate_46 : decode zkM_locate 46 = .ok (.iconst (-1), 1) := by decide +kernel
theorem zdM_locate_47 : decode zkM_locate 47 = .ok (.ireturn, 1) := by decide +kernel
theorem zdM_variety_0 : decode zkM_variety 0 = .ok (.iconst 0, 1) := by decide +kernel
theorem zdM_variety_1 : decode zkM_variety 1 = .ok (.istore_n 1, 1) := by decide +kernel
theorem zdM_variety_2 : decode zkM_variety 2 = .ok (.bipush 32, 2) := by decide +kernel
theorem zdM_variety_4 : decode zkM_variety 4 = .ok (.istore_n 2, 1) := by decide +kernel
theorem zdM_variety_5 : decode zkM_variety 5 = .ok (.iload_n 2, 1) := by decide +kernel
theorem zdM_variety_6 : decode zkM_variety 6 = .ok (.bipush 127, 2) := by decide +kernel
theorem zdM_variety_8 : decode zkM_variety 8 = .ok (.if_icmp .ge 80, 3) := by decide +kernel
theorem zdM_variety_11 : decode zkM_variety 11 = .ok (.aload_n 0, 1) := by decide +kernel
theorem zdM_variety_12 : decode zkM_variety 12 = .ok (.getfield 86, 3) := by decide +kernel
theorem zdM_variety_15 : decode zkM_variety 15 = .ok (.ifCond .eq 73, 3) := by decide +kernel
theorem zdM_variety_18 : decode zkM_variety 18 = .ok (.iconst 0, 1) := by decide +kernel
theorem zdM_variety_19 : decode zkM_variety 19 = .ok (.istore_n 3, 1) := by decide +kernel
theorem zdM_variety_20 : decode zkM_variety 20 = .ok (.iconst 1, 1) := by decide +kernel
theorem zdM_variety_21 : decode zkM_variety 21 = .ok (.istore 4, 2) := by decide +kernel
theorem zdM_variety_23 : decode zkM_variety 23 = .ok (.iload 4, 2) := by decide +kernel
theorem zdM_variety_25 : decode zkM_variety 25 = .ok (.aload_n 0, 1) := by decide +kernel
theorem zdM_variety_26 : decode zkM_variety 26 = .ok (.getfield 90, 3) := by decide +kernel
theorem zdM_variety_29 : decode zkM_variety 29 = .ok (.if_icmp .gt 41, 3) := by decide +kernel
theorem zdM_variety_32 : decode zkM_variety 32 = .ok (.iload_n 3, 1) := by decide +kernel
theorem zdM_variety_33 : decode zkM_variety 33 = .ok (.ifCond .ne 25, 3) := by decide +kernel
theorem zdM_variety_36 : decode zkM_variety 36 = .ok (.aload_n 0, 1) := by decide +kernel
theorem zdM_variety_37 : decode zkM_variety 37 = .ok (.getfield 17, 3) := by decide +kernel
theorem zdM_variety_40 : decode zkM_variety 40 = .ok (.iload 4, 2) := by decide +kernel
theorem zdM_variety_42 : decode zkM_variety 42 = .ok (.iconst 1, 1) := by decide +kernel
theorem zdM_variety_43 : decode zkM_variety 43 = .ok (.isub, 1) := by decide +kernel
theorem zdM_variety_44 : decode zkM_variety 44 = .ok (.iaload, 1) := by decide +kernel
theorem zdM_variety_45 : decode zkM_variety 45 = .ok (.iload_n 2, 1) := by decide +kernel
theorem zdM_variety_46 : decode zkM_variety 46 = .ok (.if_icmp .ne 16, 3) := by decide +kernel
theorem zdM_variety_49 : decode zkM_variety 49 = .ok (.aload_n 0, 1) := by decide +kernel
theorem zdM_variety_50 : decode zkM_variety 50 = .ok (.iload 4, 2) := by decide +kernel
theorem zdM_variety_52 : decode zkM_variety 52 = .ok (.invokevirtual 103, 3) := by decide +kernel
theorem zdM_variety_55 : decode zkM_variety 55 = .ok (.ifCond .eq 7, 3) := by decide +kernel
theorem zdM_variety_58 : decode zkM_variety 58 = .ok (.iconst 1, 1) := by decide +kernel
theorem zdM_variety_59 : decode zkM_variety 59 = .ok (.goto 4, 3) := by decide +kernel
theorem zdM_variety_62 : decode zkM_variety 62 = .ok (.iconst 0, 1) := by decide +kernel
theorem zdM_variety_63 : decode zkM_variety 63 = .ok (.istore_n 3, 1) := by decide +kernel
theorem zdM_variety_64 : decode zkM_variety 64 = .ok (.iinc 4 1, 3) := by decide +kernel
theorem zdM_variety_67 : decode zkM_variety 67 = .ok (.goto (-44), 3) := by decide +kernel
theorem zdM_variety_70 : decode zkM_variety 70 = .ok (.iload_n 3, 1) := by decide +kernel
theorem zdM_variety_71 : decode zkM_variety 71 = .ok (.ifCond .eq 9, 3) := by decide +kernel
theorem zdM_variety_74 : decode zkM_variety 74 = .ok (.iload_n 1, 1) := by decide +kernel
theorem zdM_variety_75 : decode zkM_variety 75 = .ok (.iconst 1, 1) := by decide +kernel
theorem zdM_variety_76 : decode zkM_variety 76 = .ok (.iadd, 1) := by decide +kernel
theorem zdM_variety_77 : decode zkM_variety 77 = .ok (.goto 4, 3) := by decide +kernel
theorem zdM_variety_80 : decode zkM_variety 80 = .ok (.iload_n 1, 1) := by decide +kernel
theorem zdM_variety_81 : decode zkM_variety 81 = .ok (.istore_n 1, 1) := by decide +kernel
theorem zdM_variety_82 : decode zkM_variety 82 = .ok (.iinc 2 1, 3) := by decide +kernel
theorem zdM_variety_85 : decode zkM_variety 85 = .ok (.goto (-80), 3) := by decide +kernel
theorem zdM_variety_88 : decode zkM_variety 88 = .ok (.aload_n 0, 1) := by decide +kernel
theorem zdM_variety_89 : decode zkM_variety 89 = .ok (.getfield 86, 3) := by decide +kernel
theorem zdM_variety_92 : decode zkM_variety 92 = .ok (.ifCond .eq 7, 3) := by decide +kernel
theorem zdM_variety_95 : decode zkM_variety 95 = .ok (.iload_n 1, 1) := by decide +kernel
theorem zdM_variety_96 : decode zkM_variety 96 = .ok (.goto 4, 3) := by decide +kernel
theorem zdM_variety_99 : decode zkM_variety 99 = .ok (.iconst (-1), 1) := by decide +kernel
theorem zdM_variety_100 : decode zkM_variety 100 = .ok (.ireturn, 1) := by decide +kernel
