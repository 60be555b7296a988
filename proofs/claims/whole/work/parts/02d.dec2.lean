theorem dX11_stock_4 : decode cX11_stock 4 = .ok (.getfield 62, 3) := by decide +kernel
theorem dX11_stock_7 : decode cX11_stock 7 = .ok (.iload_n 1, 1) := by decide +kernel
theorem dX11_stock_8 : decode cX11_stock 8 = .ok (.invokevirtual 88, 3) := by decide +kernel
theorem dX11_stock_11 : decode cX11_stock 11 = .ok (.ifCond .ne 6, 3) := by decide +kernel
theorem dX11_stock_14 : decode cX11_stock 14 = .ok (.ldc 61, 2) := by decide +kernel
theorem dX11_stock_16 : decode cX11_stock 16 = .ok (.ireturn, 1) := by decide +kernel
theorem dX11_stock_17 : decode cX11_stock 17 = .ok (.iload_n 2, 1) := by decide +kernel
theorem dX11_stock_18 : decode cX11_stock 18 = .ok (.tableswitch 93 0 4 #[34, 46, 55, 67, 80], 34) := by decide +kernel
theorem dX11_stock_52 : decode cX11_stock 52 = .ok (.aload_n 0, 1) := by decide +kernel
theorem dX11_stock_53 : decode cX11_stock 53 = .ok (.getfield 10, 3) := by decide +kernel
theorem dX11_stock_56 : decode cX11_stock 56 = .ok (.getfield 278, 3) := by decide +kernel
theorem dX11_stock_59 : decode cX11_stock 59 = .ok (.iload_n 1, 1) := by decide +kernel
theorem dX11_stock_60 : decode cX11_stock 60 = .ok (.invokevirtual 297, 3) := by decide +kernel
theorem dX11_stock_63 : decode cX11_stock 63 = .ok (.ireturn, 1) := by decide +kernel
theorem dX11_stock_64 : decode cX11_stock 64 = .ok (.aload_n 0, 1) := by decide +kernel
theorem dX11_stock_65 : decode cX11_stock 65 = .ok (.getfield 10, 3) := by decide +kernel
theorem dX11_stock_68 : decode cX11_stock 68 = .ok (.iload_n 1, 1) := by decide +kernel
theorem dX11_stock_69 : decode cX11_stock 69 = .ok (.invokevirtual 300, 3) := by decide +kernel
theorem dX11_stock_72 : decode cX11_stock 72 = .ok (.ireturn, 1) := by decide +kernel
theorem dX11_stock_73 : decode cX11_stock 73 = .ok (.aload_n 0, 1) := by decide +kernel
theorem dX11_stock_74 : decode cX11_stock 74 = .ok (.getfield 10, 3) := by decide +kernel
theorem dX11_stock_77 : decode cX11_stock 77 = .ok (.getfield 278, 3) := by decide +kernel
theorem dX11_stock_80 : decode cX11_stock 80 = .ok (.iload_n 1, 1) := by decide +kernel
theorem dX11_stock_81 : decode cX11_stock 81 = .ok (.invokevirtual 303, 3) := by decide +kernel
theorem dX11_stock_84 : decode cX11_stock 84 = .ok (.ireturn, 1) := by decide +kernel
theorem dX11_stock_85 : decode cX11_stock 85 = .ok (.aload_n 0, 1) := by decide +kernel
theorem dX11_stock_86 : decode cX11_stock 86 = .ok (.getfield 10, 3) := by decide +kernel
theorem dX11_stock_89 : decode cX11_stock 89 = .ok (.getfield 278, 3) := by decide +kernel
theorem dX11_stock_92 : decode cX11_stock 92 = .ok (.getfield 306, 3) := by decide +kernel
theorem dX11_stock_95 : decode cX11_stock 95 = .ok (.iload_n 1, 1) := by decide +kernel
theorem dX11_stock_96 : decode cX11_stock 96 = .ok (.iaload, 1) := by decide +kernel
theorem dX11_stock_97 : decode cX11_stock 97 = .ok (.ireturn, 1) := by decide +kernel
theorem dX11_stock_98 : decode cX11_stock 98 = .ok (.aload_n 0, 1) := by decide +kernel
theorem dX11_stock_99 : decode cX11_stock 99 = .ok (.getfield 10, 3) := by decide +kernel
theorem dX11_stock_102 : decode cX11_stock 102 = .ok (.getfield 278, 3) := by decide +kernel
theorem dX11_stock_105 : decode cX11_stock 105 = .ok (.getfield 308, 3) := by decide +kernel
theorem dX11_stock_108 : decode cX11_stock 108 = .ok (.iload_n 1, 1) := by decide +kernel
theorem dX11_stock_109 : decode cX11_stock 109 = .ok (.iaload, 1) := by decide +kernel
theorem dX11_stock_110 : decode cX11_stock 110 = .ok (.ireturn, 1) := by decide +kernel
theorem dX11_stock_111 : decode cX11_stock 111 = .ok (.ldc 61, 2) := by decide +kernel
theorem dX11_stock_113 : decode cX11_stock 113 = .ok (.ireturn, 1) := by decide +kernel
theorem dX11_swap_0 : decode cX11_swap 0 = .ok (.iload_n 1, 1) := by decide +kernel
theorem dX11_swap_1 : decode cX11_swap 1 = .ok (.iconst 1, 1) := by decide +kernel
theorem dX11_swap_2 : decode cX11_swap 2 = .ok (.sipush 5000, 3) := by decide +kernel
theorem dX11_swap_5 : decode cX11_swap 5 = .ok (.invokestatic 57, 3) := by decide +kernel
theorem dX11_swap_8 : decode cX11_swap 8 = .ok (.ifCond .eq 17, 3) := by decide +kernel
theorem dX11_swap_11 : decode cX11_swap 11 = .ok (.aload_n 0, 1) := by decide +kernel
theorem dX11_swap_12 : decode cX11_swap 12 = .ok (.getfield 10, 3) := by decide +kernel
theorem dX11_swap_15 : decode cX11_swap 15 = .ok (.getfield 144, 3) := by decide +kernel
theorem dX11_swap_18 : decode cX11_swap 18 = .ok (.iload_n 2, 1) := by decide +kernel
theorem dX11_swap_19 : decode cX11_swap 19 = .ok (.invokevirtual 163, 3) := by decide +kernel
theorem dX11_swap_22 : decode cX11_swap 22 = .ok (.ifCond .ne 6, 3) := by decide +kernel
theorem dX11_swap_25 : decode cX11_swap 25 = .ok (.ldc 61, 2) := by decide +kernel
theorem dX11_swap_27 : decode cX11_swap 27 = .ok (.ireturn, 1) := by decide +kernel
theorem dX11_swap_28 : decode cX11_swap 28 = .ok (.aload_n 0, 1) := by decide +kernel
theorem dX11_swap_29 : decode cX11_swap 29 = .ok (.getfield 35, 3) := by decide +kernel
theorem dX11_swap_32 : decode cX11_swap 32 = .ok (.iload_n 1, 1) := by decide +kernel
theorem dX11_swap_33 : decode cX11_swap 33 = .ok (.invokevirtual 311, 3) := by decide +kernel
theorem dX11_swap_36 : decode cX11_swap 36 = .ok (.istore_n 3, 1) := by decide +kernel
theorem dX11_swap_37 : decode cX11_swap 37 = .ok (.iload_n 3, 1) := by decide +kernel
theorem dX11_swap_38 : decode cX11_swap 38 = .ok (.ifCond .eq 5, 3) := by decide +kernel
theorem dX11_swap_41 : decode cX11_swap 41 = .ok (.iload_n 3, 1) := by decide +kernel
theorem dX11_swap_42 : decode cX11_swap 42 = .ok (.ireturn, 1) := by decide +kernel
theorem dX11_swap_43 : decode cX11_swap 43 = .ok (.aload_n 0, 1) := by decide +kernel
theorem dX11_swap_44 : decode cX11_swap 44 = .ok (.getfield 35, 3) := by decide +kernel
theorem dX11_swap_47 : decode cX11_swap 47 = .ok (.iload_n 2, 1) := by decide +kernel
theorem dX11_swap_48 : decode cX11_swap 48 = .ok (.invokevirtual 316, 3) := by decide +kernel
theorem dX11_swap_51 : decode cX11_swap 51 = .ok (.ifCond .ne 7, 3) := by decide +kernel
theorem dX11_swap_54 : decode cX11_swap 54 = .ok (.ldc_w 319, 3) := by decide +kernel
theorem dX11_swap_57 : decode cX11_swap 57 = .ok (.ireturn, 1) := by decide +kernel
theorem dX11_swap_58 : decode cX11_swap 58 = .ok (.bipush 100, 2) := by decide +kernel
theorem dX11_swap_60 : decode cX11_swap 60 = .ok (.aload_n 0, 1) := by decide +kernel
theorem dX11_swap_61 : decode cX11_swap 61 = .ok (.getfield 35, 3) := by decide +kernel
theorem dX11_swap_64 : decode cX11_swap 64 = .ok (.iload_n 2, 1) := by decide +kernel
theorem dX11_swap_65 : decode cX11_swap 65 = .ok (.invokevirtual 320, 3) := by decide +kernel
theorem dX11_swap_68 : decode cX11_swap 68 = .ok (.imul, 1) := by decide +kernel
theorem dX11_swap_69 : decode cX11_swap 69 = .ok (.aload_n 0, 1) := by decide +kernel
theorem dX11_swap_70 : decode cX11_swap 70 = .ok (.getfield 35, 3) := by decide +kernel
theorem dX11_swap_73 : decode cX11_swap 73 = .ok (.iload_n 2, 1) := by decide +kernel
theorem dX11_swap_74 : decode cX11_swap 74 = .ok (.invokevirtual 323, 3) := by decide +kernel
theorem dX11_swap_77 : decode cX11_swap 77 = .ok (.iadd, 1) := by decide +kernel
theorem dX11_swap_78 : decode cX11_swap 78 = .ok (.ireturn, 1) := by decide +kernel
theorem dX11_tell_0 : decode cX11_tell 0 = .ok (.aload_n 0, 1) := by decide +kernel
theorem dX11_tell_1 : decode cX11_tell 1 = .ok (.getfield 351, 3) := by decide +kernel
theorem dX11_tell_4 : decode cX11_tell 4 = .ok (.bipush 36, 2) := by decide +kernel
theorem dX11_tell_6 : decode cX11_tell 6 = .ok (.if_icmp .lt 6, 3) := by decide +kernel
theorem dX11_tell_9 : decode cX11_tell 9 = .ok (.ldc 72, 2) := by decide +kernel
theorem dX11_tell_11 : decode cX11_tell 11 = .ok (.ireturn, 1) := by decide +kernel
theorem dX11_tell_12 : decode cX11_tell 12 = .ok (.aload_n 0, 1) := by decide +kernel
theorem dX11_tell_13 : decode cX11_tell 13 = .ok (.getfield 53, 3) := by decide +kernel
theorem dX11_tell_16 : decode cX11_tell 16 = .ok (.aload_n 0, 1) := by decide +kernel
theorem dX11_tell_17 : decode cX11_tell 17 = .ok (.dup, 1) := by decide +kernel
theorem dX11_tell_18 : decode cX11_tell 18 = .ok (.getfield 351, 3) := by decide +kernel
theorem dX11_tell_21 : decode cX11_tell 21 = .ok (.dup_x1, 1) := by decide +kernel
theorem dX11_tell_22 : decode cX11_tell 22 = .ok (.iconst 1, 1) := by decide +kernel
theorem dX11_tell_23 : decode cX11_tell 23 = .ok (.iadd, 1) := by decide +kernel
theorem dX11_tell_24 : decode cX11_tell 24 = .ok (.putfield 351, 3) := by decide +kernel
theorem dX11_tell_27 : decode cX11_tell 27 = .ok (.iload_n 1, 1) := by decide +kernel
theorem dX11_tell_28 : decode cX11_tell 28 = .ok (.iastore, 1) := by decide +kernel
theorem dX11_tell_29 : decode cX11_tell 29 = .ok (.aload_n 0, 1) := by decide +kernel
theorem dX11_tell_30 : decode cX11_tell 30 = .ok (.getfield 351, 3) := by decide +kernel
theorem dX11_tell_33 : decode cX11_tell 33 = .ok (.ireturn, 1) := by decide +kernel
theorem dX11_told_0 : decode cX11_told 0 = .ok (.aload_n 0, 1) := by decide +kernel
theorem dX11_told_1 : decode cX11_told 1 = .ok (.getfield 10, 3) := by decide +kernel
theorem dX11_told_4 : decode cX11_told 4 = .ok (.getfield 278, 3) := by decide +kernel
theorem dX11_told_7 : decode cX11_told 7 = .ok (.iload_n 1, 1) := by decide +kernel
theorem dX11_told_8 : decode cX11_told 8 = .ok (.invokevirtual 296, 3) := by decide +kernel
theorem dX11_told_11 : decode cX11_told 11 = .ok (.ifCond .ne 6, 3) := by decide +kernel
theorem dX11_told_14 : decode cX11_told 14 = .ok (.ldc 61, 2) := by decide +kernel
theorem dX11_told_16 : decode cX11_told 16 = .ok (.ireturn, 1) := by decide +kernel
theorem dX11_told_17 : decode cX11_told 17 = .ok (.iload_n 2, 1) := by decide +kernel
theorem dX11_told_18 : decode cX11_told 18 = .ok (.tableswitch 82 0 3 #[30, 43, 56, 69], 30) := by decide +kernel
theorem dX11_told_48 : decode cX11_told 48 = .ok (.aload_n 0, 1) := by decide +kernel
theorem dX11_told_49 : decode cX11_told 49 = .ok (.getfield 10, 3) := by decide +kernel
theorem dX11_told_52 : decode cX11_told 52 = .ok (.getfield 278, 3) := by decide +kernel
theorem dX11_told_55 : decode cX11_told 55 = .ok (.getfield 285, 3) := by decide +kernel
theorem dX11_told_58 : decode cX11_told 58 = .ok (.iload_n 1, 1) := by decide +kernel
theorem dX11_told_59 : decode cX11_told 59 = .ok (.iaload, 1) := by decide +kernel
theorem dX11_told_60 : decode cX11_told 60 = .ok (.ireturn, 1) := by decide +kernel
theorem dX11_told_61 : decode cX11_told 61 = .ok (.aload_n 0, 1) := by decide +kernel
theorem dX11_told_62 : decode cX11_told 62 = .ok (.getfield 10, 3) := by decide +kernel
theorem dX11_told_65 : decode cX11_told 65 = .ok (.getfield 278, 3) := by decide +kernel
theorem dX11_told_68 : decode cX11_told 68 = .ok (.getfield 288, 3) := by decide +kernel
theorem dX11_told_71 : decode cX11_told 71 = .ok (.iload_n 1, 1) := by decide +kernel
theorem dX11_told_72 : decode cX11_told 72 = .ok (.iaload, 1) := by decide +kernel
theorem dX11_told_73 : decode cX11_told 73 = .ok (.ireturn, 1) := by decide +kernel
theorem dX11_told_74 : decode cX11_told 74 = .ok (.aload_n 0, 1) := by decide +kernel
theorem dX11_told_75 : decode cX11_told 75 = .ok (.getfield 10, 3) := by decide +kernel
theorem dX11_told_78 : decode cX11_told 78 = .ok (.getfield 278, 3) := by decide +kernel
theorem dX11_told_81 : decode cX11_told 81 = .ok (.getfield 290, 3) := by decide +kernel
theorem dX11_told_84 : decode cX11_told 84 = .ok (.iload_n 1, 1) := by decide +kernel
theorem dX11_told_85 : decode cX11_told 85 = .ok (.iaload, 1) := by decide +kernel
theorem dX11_told_86 : decode cX11_told 86 = .ok (.ireturn, 1) := by decide +kernel
theorem dX11_told_87 : decode cX11_told 87 = .ok (.aload_n 0, 1) := by decide +kernel
theorem dX11_told_88 : decode cX11_told 88 = .ok (.getfield 10, 3) := by decide +kernel
theorem dX11_told_91 : decode cX11_told 91 = .ok (.getfield 278, 3) := by decide +kernel
theorem dX11_told_94 : decode cX11_told 94 = .ok (.getfield 293, 3) := by decide +kernel
theorem dX11_told_97 : decode cX11_told 97 = .ok (.iload_n 1, 1) := by decide +kernel
theorem dX11_told_98 : decode cX11_told 98 = .ok (.iaload, 1) := by decide +kernel
theorem dX11_told_99 : decode cX11_told 99 = .ok (.ireturn, 1) := by decide +kernel
theorem dX11_told_100 : decode cX11_told 100 = .ok (.ldc 61, 2) := by decide +kernel
theorem dX11_told_102 : decode cX11_told 102 = .ok (.ireturn, 1) := by decide +kernel
theorem dX11_trim_0 : decode cX11_trim 0 = .ok (.iload_n 1, 1) := by decide +kernel
theorem dX11_trim_1 : decode cX11_trim 1 = .ok (.iconst 0, 1) := by decide +kernel
theorem dX11_trim_2 : decode cX11_trim 2 = .ok (.aload_n 0, 1) := by decide +kernel
theorem dX11_trim_3 : decode cX11_trim 3 = .ok (.getfield 19, 3) := by decide +kernel
theorem dX11_trim_6 : decode cX11_trim 6 = .ok (.getfield 215, 3) := by decide +kernel
theorem dX11_trim_9 : decode cX11_trim 9 = .ok (.invokestatic 57, 3) := by decide +kernel
theorem dX11_trim_12 : decode cX11_trim 12 = .ok (.ifCond .ne 6, 3) := by decide +kernel
theorem dX11_trim_15 : decode cX11_trim 15 = .ok (.ldc 61, 2) := by decide +kernel
theorem dX11_trim_17 : decode cX11_trim 17 = .ok (.ireturn, 1) := by decide +kernel
theorem dX11_trim_18 : decode cX11_trim 18 = .ok (.aload_n 0, 1) := by decide +kernel
theorem dX11_trim_19 : decode cX11_trim 19 = .ok (.getfield 19, 3) := by decide +kernel
theorem dX11_trim_22 : decode cX11_trim 22 = .ok (.iload_n 1, 1) := by decide +kernel
theorem dX11_trim_23 : decode cX11_trim 23 = .ok (.putfield 215, 3) := by decide +kernel
theorem dX11_trim_26 : decode cX11_trim 26 = .ok (.iload_n 1, 1) := by decide +kernel
theorem dX11_trim_27 : decode cX11_trim 27 = .ok (.ireturn, 1) := by decide +kernel
theorem dX11_truth_0 : decode cX11_truth 0 = .ok (.iload_n 0, 1) := by decide +kernel
theorem dX11_truth_1 : decode cX11_truth 1 = .ok (.ifCond .eq 7, 3) := by decide +kernel
theorem dX11_truth_4 : decode cX11_truth 4 = .ok (.iconst 1, 1) := by decide +kernel
theorem dX11_truth_5 : decode cX11_truth 5 = .ok (.goto 4, 3) := by decide +kernel
theorem dX11_truth_8 : decode cX11_truth 8 = .ok (.iconst 0, 1) := by decide +kernel
theorem dX11_truth_9 : decode cX11_truth 9 = .ok (.ireturn, 1) := by decide +kernel
theorem dX11_unlike_0 : decode cX11_unlike 0 = .ok (.aload_n 0, 1) := by decide +kernel
theorem dX11_unlike_1 : decode cX11_unlike 1 = .ok (.getfield 10, 3) := by decide +kernel
theorem dX11_unlike_4 : decode cX11_unlike 4 = .ok (.getfield 62, 3) := by decide +kernel
theorem dX11_unlike_7 : decode cX11_unlike 7 = .ok (.astore 4, 2) := by decide +kernel
theorem dX11_unlike_9 : decode cX11_unlike 9 = .ok (.aload 4, 2) := by decide +kernel
theorem dX11_unlike_11 : decode cX11_unlike 11 = .ok (.iload_n 1, 1) := by decide +kernel
theorem dX11_unlike_12 : decode cX11_unlike 12 = .ok (.invokevirtual 88, 3) := by decide +kernel
theorem dX11_unlike_15 : decode cX11_unlike 15 = .ok (.ifCond .eq 27, 3) := by decide +kernel
theorem dX11_unlike_18 : decode cX11_unlike 18 = .ok (.aload 4, 2) := by decide +kernel
theorem dX11_unlike_20 : decode cX11_unlike 20 = .ok (.iload_n 2, 1) := by decide +kernel
theorem dX11_unlike_21 : decode cX11_unlike 21 = .ok (.invokevirtual 88, 3) := by decide +kernel
theorem dX11_unlike_24 : decode cX11_unlike 24 = .ok (.ifCond .eq 18, 3) := by decide +kernel
theorem dX11_unlike_27 : decode cX11_unlike 27 = .ok (.iload_n 1, 1) := by decide +kernel
theorem dX11_unlike_28 : decode cX11_unlike 28 = .ok (.iload_n 2, 1) := by decide +kernel
theorem dX11_unlike_29 : decode cX11_unlike 29 = .ok (.if_icmp .eq 13, 3) := by decide +kernel
theorem dX11_unlike_32 : decode cX11_unlike 32 = .ok (.iload_n 3, 1) := by decide +kernel
theorem dX11_unlike_33 : decode cX11_unlike 33 = .ok (.iconst 1, 1) := by decide +kernel
theorem dX11_unlike_34 : decode cX11_unlike 34 = .ok (.bipush 99, 2) := by decide +kernel
theorem dX11_unlike_36 : decode cX11_unlike 36 = .ok (.invokestatic 57, 3) := by decide +kernel
theorem dX11_unlike_39 : decode cX11_unlike 39 = .ok (.ifCond .ne 6, 3) := by decide +kernel
theorem dX11_unlike_42 : decode cX11_unlike 42 = .ok (.ldc 61, 2) := by decide +kernel
theorem dX11_unlike_44 : decode cX11_unlike 44 = .ok (.ireturn, 1) := by decide +kernel
theorem dX11_unlike_45 : decode cX11_unlike 45 = .ok (.aload 4, 2) := by decide +kernel
theorem dX11_unlike_47 : decode cX11_unlike 47 = .ok (.getfield 92, 3) := by decide +kernel
theorem dX11_unlike_50 : decode cX11_unlike 50 = .ok (.iload_n 1, 1) := by decide +kernel
theorem dX11_unlike_51 : decode cX11_unlike 51 = .ok (.aaload, 1) := by decide +kernel
theorem dX11_unlike_52 : decode cX11_unlike 52 = .ok (.iload_n 2, 1) := by decide +kernel
theorem dX11_unlike_53 : decode cX11_unlike 53 = .ok (.iaload, 1) := by decide +kernel
theorem dX11_unlike_54 : decode cX11_unlike 54 = .ok (.istore 5, 2) := by decide +kernel
theorem dX11_unlike_56 : decode cX11_unlike 56 = .ok (.aload 4, 2) := by decide +kernel
theorem dX11_unlike_58 : decode cX11_unlike 58 = .ok (.getfield 92, 3) := by decide +kernel
theorem dX11_unlike_61 : decode cX11_unlike 61 = .ok (.iload_n 1, 1) := by decide +kernel
theorem dX11_unlike_62 : decode cX11_unlike 62 = .ok (.aaload, 1) := by decide +kernel
theorem dX11_unlike_63 : decode cX11_unlike 63 = .ok (.iload_n 2, 1) := by decide +kernel
theorem dX11_unlike_64 : decode cX11_unlike 64 = .ok (.iload_n 3, 1) := by decide +kernel
theorem dX11_unlike_65 : decode cX11_unlike 65 = .ok (.iastore, 1) := by decide +kernel
theorem dX11_unlike_66 : decode cX11_unlike 66 = .ok (.aload 4, 2) := by decide +kernel
theorem dX11_unlike_68 : decode cX11_unlike 68 = .ok (.getfield 92, 3) := by decide +kernel
theorem dX11_unlike_71 : decode cX11_unlike 71 = .ok (.iload_n 2, 1) := by decide +kernel
theorem dX11_unlike_72 : decode cX11_unlike 72 = .ok (.aaload, 1) := by decide +kernel
theorem dX11_unlike_73 : decode cX11_unlike 73 = .ok (.iload_n 1, 1) := by decide +kernel
theorem dX11_unlike_74 : decode cX11_unlike 74 = .ok (.iload_n 3, 1) := by decide +kernel
theorem dX11_unlike_75 : decode cX11_unlike 75 = .ok (.iastore, 1) := by decide +kernel
theorem dX11_unlike_76 : decode cX11_unlike 76 = .ok (.iload 5, 2) := by decide +kernel
theorem dX11_unlike_78 : decode cX11_unlike 78 = .ok (.ireturn, 1) := by decide +kernel
theorem dX11_with_0 : decode cX11_with 0 = .ok (.aload_n 0, 1) := by decide +kernel
theorem dX11_with_1 : decode cX11_with 1 = .ok (.getfield 10, 3) := by decide +kernel
theorem dX11_with_4 : decode cX11_with 4 = .ok (.getfield 96, 3) := by decide +kernel
theorem dX11_with_7 : decode cX11_with 7 = .ok (.astore 4, 2) := by decide +kernel
theorem dX11_with_9 : decode cX11_with 9 = .ok (.aload 4, 2) := by decide +kernel
theorem dX11_with_11 : decode cX11_with 11 = .ok (.iload_n 1, 1) := by decide +kernel
theorem dX11_with_12 : decode cX11_with 12 = .ok (.invokevirtual 109, 3) := by decide +kernel
theorem dX11_with_15 : decode cX11_with 15 = .ok (.ifCond .eq 28, 3) := by decide +kernel
theorem dX11_with_18 : decode cX11_with 18 = .ok (.aload_n 0, 1) := by decide +kernel
theorem dX11_with_19 : decode cX11_with 19 = .ok (.getfield 10, 3) := by decide +kernel
theorem dX11_with_22 : decode cX11_with 22 = .ok (.getfield 62, 3) := by decide +kernel
theorem dX11_with_25 : decode cX11_with 25 = .ok (.iload_n 2, 1) := by decide +kernel
theorem dX11_with_26 : decode cX11_with 26 = .ok (.invokevirtual 88, 3) := by decide +kernel
theorem dX11_with_29 : decode cX11_with 29 = .ok (.ifCond .eq 14, 3) := by decide +kernel
theorem dX11_with_32 : decode cX11_with 32 = .ok (.iload_n 3, 1) := by decide +kernel
theorem dX11_with_33 : decode cX11_with 33 = .ok (.iconst 1, 1) := by decide +kernel
theorem dX11_with_34 : decode cX11_with 34 = .ok (.sipush 999, 3) := by decide +kernel
theorem dX11_with_37 : decode cX11_with 37 = .ok (.invokestatic 57, 3) := by decide +kernel
theorem dX11_with_40 : decode cX11_with 40 = .ok (.ifCond .ne 6, 3) := by decide +kernel
theorem dX11_with_43 : decode cX11_with 43 = .ok (.ldc 61, 2) := by decide +kernel
theorem dX11_with_45 : decode cX11_with 45 = .ok (.ireturn, 1) := by decide +kernel
theorem dX11_with_46 : decode cX11_with 46 = .ok (.aload_n 0, 1) := by decide +kernel
theorem dX11_with_47 : decode cX11_with 47 = .ok (.getfield 10, 3) := by decide +kernel
theorem dX11_with_50 : decode cX11_with 50 = .ok (.getfield 118, 3) := by decide +kernel
theorem dX11_with_53 : decode cX11_with 53 = .ok (.iload_n 1, 1) := by decide +kernel
theorem dX11_with_54 : decode cX11_with 54 = .ok (.invokestatic 121, 3) := by decide +kernel
theorem dX11_with_57 : decode cX11_with 57 = .ok (.ifCond .eq 6, 3) := by decide +kernel
theorem dX11_with_60 : decode cX11_with 60 = .ok (.ldc 124, 2) := by decide +kernel
theorem dX11_with_62 : decode cX11_with 62 = .ok (.ireturn, 1) := by decide +kernel
theorem dX11_with_63 : decode cX11_with 63 = .ok (.aload 4, 2) := by decide +kernel
theorem dX11_with_65 : decode cX11_with 65 = .ok (.getfield 125, 3) := by decide +kernel
theorem dX11_with_68 : decode cX11_with 68 = .ok (.iload_n 1, 1) := by decide +kernel
theorem dX11_with_69 : decode cX11_with 69 = .ok (.aaload, 1) := by decide +kernel
theorem dX11_with_70 : decode cX11_with 70 = .ok (.iload_n 2, 1) := by decide +kernel
theorem dX11_with_71 : decode cX11_with 71 = .ok (.iaload, 1) := by decide +kernel
theorem dX11_with_72 : decode cX11_with 72 = .ok (.ifCond .ne 16, 3) := by decide +kernel
theorem dX11_with_75 : decode cX11_with 75 = .ok (.aload 4, 2) := by decide +kernel
theorem dX11_with_77 : decode cX11_with 77 = .ok (.iload_n 1, 1) := by decide +kernel
theorem dX11_with_78 : decode cX11_with 78 = .ok (.invokevirtual 128, 3) := by decide +kernel
theorem dX11_with_81 : decode cX11_with 81 = .ok (.iconst 5, 1) := by decide +kernel
theorem dX11_with_82 : decode cX11_with 82 = .ok (.if_icmp .lt 6, 3) := by decide +kernel
theorem dX11_with_85 : decode cX11_with 85 = .ok (.ldc 72, 2) := by decide +kernel
theorem dX11_with_87 : decode cX11_with 87 = .ok (.ireturn, 1) := by decide +kernel
theorem dX11_with_88 : decode cX11_with 88 = .ok (.aload 4, 2) := by decide +kernel
theorem dX11_with_90 : decode cX11_with 90 = .ok (.getfield 125, 3) := by decide +kernel
theorem dX11_with_93 : decode cX11_with 93 = .ok (.iload_n 1, 1) := by decide +kernel
theorem dX11_with_94 : decode cX11_with 94 = .ok (.aaload, 1) := by decide +kernel
theorem dX11_with_95 : decode cX11_with 95 = .ok (.iload_n 2, 1) := by decide +kernel
theorem dX11_with_96 : decode cX11_with 96 = .ok (.iload_n 3, 1) := by decide +kernel
theorem dX11_with_97 : decode cX11_with 97 = .ok (.iastore, 1) := by decide +kernel
theorem dX11_with_98 : decode cX11_with 98 = .ok (.aload 4, 2) := by decide +kernel
theorem dX11_with_100 : decode cX11_with 100 = .ok (.iload_n 1, 1) := by decide +kernel
theorem dX11_with_101 : decode cX11_with 101 = .ok (.invokevirtual 128, 3) := by decide +kernel
theorem dX11_with_104 : decode cX11_with 104 = .ok (.ireturn, 1) := by decide +kernel
theorem dX12_about_0 : decode cX12_about 0 = .ok (.aload_n 0, 1) := by decide +kernel
theorem dX12_about_1 : decode cX12_about 1 = .ok (.iload_n 1, 1) := by decide +kernel
theorem dX12_about_2 : decode cX12_about 2 = .ok (.invokevirtual 70, 3) := by decide +kernel
theorem dX12_about_5 : decode cX12_about 5 = .ok (.ifCond .eq 13, 3) := by decide +kernel
theorem dX12_about_8 : decode cX12_about 8 = .ok (.iload_n 2, 1) := by decide +kernel
theorem dX12_about_9 : decode cX12_about 9 = .ok (.iconst 0, 1) := by decide +kernel
theorem dX12_about_10 : decode cX12_about 10 = .ok (.bipush 6, 2) := by decide +kernel
theorem dX12_about_12 : decode cX12_about 12 = .ok (.invokestatic 52, 3) := by decide +kernel
theorem dX12_about_15 : decode cX12_about 15 = .ok (.ifCond .ne 6, 3) := by decide +kernel
theorem dX12_about_18 : decode cX12_about 18 = .ok (.ldc 57, 2) := by decide +kernel
theorem dX12_about_20 : decode cX12_about 20 = .ok (.ireturn, 1) := by decide +kernel
theorem dX12_about_21 : decode cX12_about 21 = .ok (.iload_n 2, 1) := by decide +kernel
theorem dX12_about_22 : decode cX12_about 22 = .ok (.tableswitch 89 0 5 #[38, 49, 60, 66, 72, 83], 38) := by decide +kernel
theorem dX12_about_60 : decode cX12_about 60 = .ok (.aload_n 0, 1) := by decide +kernel
theorem dX12_about_61 : decode cX12_about 61 = .ok (.getfield 9, 3) := by decide +kernel
theorem dX12_about_64 : decode cX12_about 64 = .ok (.iload_n 1, 1) := by decide +kernel
theorem dX12_about_65 : decode cX12_about 65 = .ok (.iconst 0, 1) := by decide +kernel
theorem dX12_about_66 : decode cX12_about 66 = .ok (.invokestatic 67, 3) := by decide +kernel
theorem dX12_about_69 : decode cX12_about 69 = .ok (.iaload, 1) := by decide +kernel
theorem dX12_about_70 : decode cX12_about 70 = .ok (.ireturn, 1) := by decide +kernel
theorem dX12_about_71 : decode cX12_about 71 = .ok (.aload_n 0, 1) := by decide +kernel
theorem dX12_about_72 : decode cX12_about 72 = .ok (.getfield 9, 3) := by decide +kernel
theorem dX12_about_75 : decode cX12_about 75 = .ok (.iload_n 1, 1) := by decide +kernel
theorem dX12_about_76 : decode cX12_about 76 = .ok (.iconst 1, 1) := by decide +kernel
theorem dX12_about_77 : decode cX12_about 77 = .ok (.invokestatic 67, 3) := by decide +kernel
theorem dX12_about_80 : decode cX12_about 80 = .ok (.iaload, 1) := by decide +kernel
theorem dX12_about_81 : decode cX12_about 81 = .ok (.ireturn, 1) := by decide +kernel
theorem dX12_about_82 : decode cX12_about 82 = .ok (.aload_n 0, 1) := by decide +kernel
theorem dX12_about_83 : decode cX12_about 83 = .ok (.iload_n 1, 1) := by decide +kernel
theorem dX12_about_84 : decode cX12_about 84 = .ok (.invokevirtual 86, 3) := by decide +kernel
theorem dX12_about_87 : decode cX12_about 87 = .ok (.ireturn, 1) := by decide +kernel
theorem dX12_about_88 : decode cX12_about 88 = .ok (.aload_n 0, 1) := by decide +kernel
theorem dX12_about_89 : decode cX12_about 89 = .ok (.iload_n 1, 1) := by decide +kernel
theorem dX12_about_90 : decode cX12_about 90 = .ok (.invokevirtual 90, 3) := by decide +kernel
theorem dX12_about_93 : decode cX12_about 93 = .ok (.ireturn, 1) := by decide +kernel
theorem dX12_about_94 : decode cX12_about 94 = .ok (.aload_n 0, 1) := by decide +kernel
theorem dX12_about_95 : decode cX12_about 95 = .ok (.getfield 9, 3) := by decide +kernel
theorem dX12_about_98 : decode cX12_about 98 = .ok (.iload_n 1, 1) := by decide +kernel
theorem dX12_about_99 : decode cX12_about 99 = .ok (.iconst 2, 1) := by decide +kernel
theorem dX12_about_100 : decode cX12_about 100 = .ok (.invokestatic 67, 3) := by decide +kernel
theorem dX12_about_103 : decode cX12_about 103 = .ok (.iaload, 1) := by decide +kernel
theorem dX12_about_104 : decode cX12_about 104 = .ok (.ireturn, 1) := by decide +kernel
theorem dX12_about_105 : decode cX12_about 105 = .ok (.aload_n 0, 1) := by decide +kernel
theorem dX12_about_106 : decode cX12_about 106 = .ok (.iload_n 1, 1) := by decide +kernel
theorem dX12_about_107 : decode cX12_about 107 = .ok (.invokevirtual 93, 3) := by decide +kernel
theorem dX12_about_110 : decode cX12_about 110 = .ok (.ireturn, 1) := by decide +kernel
theorem dX12_about_111 : decode cX12_about 111 = .ok (.aload_n 0, 1) := by decide +kernel
theorem dX12_about_112 : decode cX12_about 112 = .ok (.getfield 9, 3) := by decide +kernel
theorem dX12_about_115 : decode cX12_about 115 = .ok (.iconst 2, 1) := by decide +kernel
theorem dX12_about_116 : decode cX12_about 116 = .ok (.iaload, 1) := by decide +kernel
theorem dX12_about_117 : decode cX12_about 117 = .ok (.iconst 1, 1) := by decide +kernel
theorem dX12_about_118 : decode cX12_about 118 = .ok (.if_icmp .ne 16, 3) := by decide +kernel
theorem dX12_about_121 : decode cX12_about 121 = .ok (.aload_n 0, 1) := by decide +kernel
theorem dX12_about_122 : decode cX12_about 122 = .ok (.iconst 0, 1) := by decide +kernel
theorem dX12_about_123 : decode cX12_about 123 = .ok (.iload_n 1, 1) := by decide +kernel
theorem dX12_about_124 : decode cX12_about 124 = .ok (.invokevirtual 96, 3) := by decide +kernel
theorem dX12_about_127 : decode cX12_about 127 = .ok (.ifCond .eq 7, 3) := by decide +kernel
theorem dX12_about_130 : decode cX12_about 130 = .ok (.iconst 1, 1) := by decide +kernel
theorem dX12_about_131 : decode cX12_about 131 = .ok (.goto 4, 3) := by decide +kernel
theorem dX12_about_134 : decode cX12_about 134 = .ok (.iconst 0, 1) := by decide +kernel
theorem dX12_about_135 : decode cX12_about 135 = .ok (.ireturn, 1) := by decide +kernel
theorem dX12_allergens_0 : decode cX12_allergens 0 = .ok (.iconst 0, 1) := by decide +kernel
theorem dX12_allergens_1 : decode cX12_allergens 1 = .ok (.istore_n 2, 1) := by decide +kernel
theorem dX12_allergens_2 : decode cX12_allergens 2 = .ok (.iconst 0, 1) := by decide +kernel
theorem dX12_allergens_3 : decode cX12_allergens 3 = .ok (.istore_n 3, 1) := by decide +kernel
theorem dX12_allergens_4 : decode cX12_allergens 4 = .ok (.iload_n 3, 1) := by decide +kernel
theorem dX12_allergens_5 : decode cX12_allergens 5 = .ok (.aload_n 0, 1) := by decide +kernel
theorem dX12_allergens_6 : decode cX12_allergens 6 = .ok (.getfield 9, 3) := by decide +kernel
theorem dX12_allergens_9 : decode cX12_allergens 9 = .ok (.iload_n 1, 1) := by decide +kernel
theorem dX12_allergens_10 : decode cX12_allergens 10 = .ok (.iconst 2, 1) := by decide +kernel
theorem dX12_allergens_11 : decode cX12_allergens 11 = .ok (.invokestatic 67, 3) := by decide +kernel
theorem dX12_allergens_14 : decode cX12_allergens 14 = .ok (.iaload, 1) := by decide +kernel
theorem dX12_allergens_15 : decode cX12_allergens 15 = .ok (.if_icmp .ge 33, 3) := by decide +kernel
theorem dX12_allergens_18 : decode cX12_allergens 18 = .ok (.iload_n 2, 1) := by decide +kernel
theorem dX12_allergens_19 : decode cX12_allergens 19 = .ok (.aload_n 0, 1) := by decide +kernel
theorem dX12_allergens_20 : decode cX12_allergens 20 = .ok (.getfield 9, 3) := by decide +kernel
theorem dX12_allergens_23 : decode cX12_allergens 23 = .ok (.aload_n 0, 1) := by decide +kernel
theorem dX12_allergens_24 : decode cX12_allergens 24 = .ok (.getfield 9, 3) := by decide +kernel
theorem dX12_allergens_27 : decode cX12_allergens 27 = .ok (.iload_n 1, 1) := by decide +kernel
theorem dX12_allergens_28 : decode cX12_allergens 28 = .ok (.iconst 3, 1) := by decide +kernel
theorem dX12_allergens_29 : decode cX12_allergens 29 = .ok (.iload_n 3, 1) := by decide +kernel
theorem dX12_allergens_30 : decode cX12_allergens 30 = .ok (.iadd, 1) := by decide +kernel
theorem dX12_allergens_31 : decode cX12_allergens 31 = .ok (.invokestatic 67, 3) := by decide +kernel
theorem dX12_allergens_34 : decode cX12_allergens 34 = .ok (.iaload, 1) := by decide +kernel
theorem dX12_allergens_35 : decode cX12_allergens 35 = .ok (.iconst 0, 1) := by decide +kernel
theorem dX12_allergens_36 : decode cX12_allergens 36 = .ok (.invokestatic 59, 3) := by decide +kernel
theorem dX12_allergens_39 : decode cX12_allergens 39 = .ok (.iaload, 1) := by decide +kernel
theorem dX12_allergens_40 : decode cX12_allergens 40 = .ok (.ior, 1) := by decide +kernel
theorem dX12_allergens_41 : decode cX12_allergens 41 = .ok (.istore_n 2, 1) := by decide +kernel
theorem dX12_allergens_42 : decode cX12_allergens 42 = .ok (.iinc 3 1, 3) := by decide +kernel
theorem dX12_allergens_45 : decode cX12_allergens 45 = .ok (.goto (-41), 3) := by decide +kernel
theorem dX12_allergens_48 : decode cX12_allergens 48 = .ok (.iload_n 2, 1) := by decide +kernel
theorem dX12_allergens_49 : decode cX12_allergens 49 = .ok (.ireturn, 1) := by decide +kernel
theorem dX12_areMeals_0 : decode cX12_areMeals 0 = .ok (.iload_n 1, 1) := by decide +kernel
theorem dX12_areMeals_1 : decode cX12_areMeals 1 = .ok (.ifCond .lt 19, 3) := by decide +kernel
theorem dX12_areMeals_4 : decode cX12_areMeals 4 = .ok (.iload_n 1, 1) := by decide +kernel
theorem dX12_areMeals_5 : decode cX12_areMeals 5 = .ok (.iconst 1, 1) := by decide +kernel
theorem dX12_areMeals_6 : decode cX12_areMeals 6 = .ok (.aload_n 0, 1) := by decide +kernel
theorem dX12_areMeals_7 : decode cX12_areMeals 7 = .ok (.getfield 9, 3) := by decide +kernel
theorem dX12_areMeals_10 : decode cX12_areMeals 10 = .ok (.iconst 5, 1) := by decide +kernel
theorem dX12_areMeals_11 : decode cX12_areMeals 11 = .ok (.iaload, 1) := by decide +kernel
theorem dX12_areMeals_12 : decode cX12_areMeals 12 = .ok (.ishl, 1) := by decide +kernel
theorem dX12_areMeals_13 : decode cX12_areMeals 13 = .ok (.if_icmp .ge 7, 3) := by decide +kernel
theorem dX12_areMeals_16 : decode cX12_areMeals 16 = .ok (.iconst 1, 1) := by decide +kernel
theorem dX12_areMeals_17 : decode cX12_areMeals 17 = .ok (.goto 4, 3) := by decide +kernel
theorem dX12_areMeals_20 : decode cX12_areMeals 20 = .ok (.iconst 0, 1) := by decide +kernel
theorem dX12_areMeals_21 : decode cX12_areMeals 21 = .ok (.ireturn, 1) := by decide +kernel
theorem dX12_back_0 : decode cX12_back 0 = .ok (.aload_n 0, 1) := by decide +kernel
theorem dX12_back_1 : decode cX12_back 1 = .ok (.getfield 316, 3) := by decide +kernel
theorem dX12_back_4 : decode cX12_back 4 = .ok (.ifCond .ne 6, 3) := by decide +kernel
theorem dX12_back_7 : decode cX12_back 7 = .ok (.ldc 80, 2) := by decide +kernel
theorem dX12_back_9 : decode cX12_back 9 = .ok (.ireturn, 1) := by decide +kernel
theorem dX12_back_10 : decode cX12_back 10 = .ok (.iconst 0, 1) := by decide +kernel
theorem dX12_back_11 : decode cX12_back 11 = .ok (.istore_n 1, 1) := by decide +kernel
theorem dX12_back_12 : decode cX12_back 12 = .ok (.iload_n 1, 1) := by decide +kernel
theorem dX12_back_13 : decode cX12_back 13 = .ok (.sipush 2156, 3) := by decide +kernel
theorem dX12_back_16 : decode cX12_back 16 = .ok (.if_icmp .ge 21, 3) := by decide +kernel
theorem dX12_back_19 : decode cX12_back 19 = .ok (.aload_n 0, 1) := by decide +kernel
theorem dX12_back_20 : decode cX12_back 20 = .ok (.getfield 9, 3) := by decide +kernel
theorem dX12_back_23 : decode cX12_back 23 = .ok (.iload_n 1, 1) := by decide +kernel
theorem dX12_back_24 : decode cX12_back 24 = .ok (.aload_n 0, 1) := by decide +kernel
theorem dX12_back_25 : decode cX12_back 25 = .ok (.getfield 13, 3) := by decide +kernel
theorem dX12_back_28 : decode cX12_back 28 = .ok (.iload_n 1, 1) := by decide +kernel
theorem dX12_back_29 : decode cX12_back 29 = .ok (.iaload, 1) := by decide +kernel
theorem dX12_back_30 : decode cX12_back 30 = .ok (.iastore, 1) := by decide +kernel
theorem dX12_back_31 : decode cX12_back 31 = .ok (.iinc 1 1, 3) := by decide +kernel
theorem dX12_back_34 : decode cX12_back 34 = .ok (.goto (-22), 3) := by decide +kernel
theorem dX12_back_37 : decode cX12_back 37 = .ok (.aload_n 0, 1) := by decide +kernel
theorem dX12_back_38 : decode cX12_back 38 = .ok (.getfield 9, 3) := by decide +kernel
theorem dX12_back_41 : decode cX12_back 41 = .ok (.iconst 0, 1) := by decide +kernel
theorem dX12_back_42 : decode cX12_back 42 = .ok (.iaload, 1) := by decide +kernel
theorem dX12_back_43 : decode cX12_back 43 = .ok (.ireturn, 1) := by decide +kernel
theorem dX12_best_0 : decode cX12_best 0 = .ok (.iload_n 1, 1) := by decide +kernel
theorem dX12_best_1 : decode cX12_best 1 = .ok (.iconst 1, 1) := by decide +kernel
theorem dX12_best_2 : decode cX12_best 2 = .ok (.iconst 4, 1) := by decide +kernel
theorem dX12_best_3 : decode cX12_best 3 = .ok (.invokestatic 52, 3) := by decide +kernel
theorem dX12_best_6 : decode cX12_best 6 = .ok (.ifCond .eq 14, 3) := by decide +kernel
theorem dX12_best_9 : decode cX12_best 9 = .ok (.iload_n 2, 1) := by decide +kernel
theorem dX12_best_10 : decode cX12_best 10 = .ok (.iconst 1, 1) := by decide +kernel
theorem dX12_best_11 : decode cX12_best 11 = .ok (.sipush 2000, 3) := by decide +kernel
theorem dX12_best_14 : decode cX12_best 14 = .ok (.invokestatic 52, 3) := by decide +kernel
theorem dX12_best_17 : decode cX12_best 17 = .ok (.ifCond .ne 6, 3) := by decide +kernel
theorem dX12_best_20 : decode cX12_best 20 = .ok (.ldc 57, 2) := by decide +kernel
theorem dX12_best_22 : decode cX12_best 22 = .ok (.ireturn, 1) := by decide +kernel
theorem dX12_best_23 : decode cX12_best 23 = .ok (.aload_n 0, 1) := by decide +kernel
theorem dX12_best_24 : decode cX12_best 24 = .ok (.iconst (-1), 1) := by decide +kernel
theorem dX12_best_25 : decode cX12_best 25 = .ok (.putfield 238, 3) := by decide +kernel
theorem dX12_best_28 : decode cX12_best 28 = .ok (.aload_n 0, 1) := by decide +kernel
theorem dX12_best_29 : decode cX12_best 29 = .ok (.iload_n 2, 1) := by decide +kernel
theorem dX12_best_30 : decode cX12_best 30 = .ok (.putfield 253, 3) := by decide +kernel
theorem dX12_best_33 : decode cX12_best 33 = .ok (.aload_n 0, 1) := by decide +kernel
theorem dX12_best_34 : decode cX12_best 34 = .ok (.iconst 0, 1) := by decide +kernel
theorem dX12_best_35 : decode cX12_best 35 = .ok (.putfield 250, 3) := by decide +kernel
theorem dX12_best_38 : decode cX12_best 38 = .ok (.aload_n 0, 1) := by decide +kernel
theorem dX12_best_39 : decode cX12_best 39 = .ok (.iconst 0, 1) := by decide +kernel
theorem dX12_best_40 : decode cX12_best 40 = .ok (.iload_n 1, 1) := by decide +kernel
theorem dX12_best_41 : decode cX12_best 41 = .ok (.iconst 0, 1) := by decide +kernel
theorem dX12_best_42 : decode cX12_best 42 = .ok (.iconst 0, 1) := by decide +kernel
theorem dX12_best_43 : decode cX12_best 43 = .ok (.invokevirtual 256, 3) := by decide +kernel
theorem dX12_best_46 : decode cX12_best 46 = .ok (.aload_n 0, 1) := by decide +kernel
theorem dX12_best_47 : decode cX12_best 47 = .ok (.getfield 250, 3) := by decide +kernel
theorem dX12_best_50 : decode cX12_best 50 = .ok (.ifCond .eq 9, 3) := by decide +kernel
theorem dX12_best_53 : decode cX12_best 53 = .ok (.ldc_w 260, 3) := by decide +kernel
theorem dX12_best_56 : decode cX12_best 56 = .ok (.goto 19, 3) := by decide +kernel
theorem dX12_best_59 : decode cX12_best 59 = .ok (.aload_n 0, 1) := by decide +kernel
theorem dX12_best_60 : decode cX12_best 60 = .ok (.getfield 238, 3) := by decide +kernel
theorem dX12_best_63 : decode cX12_best 63 = .ok (.ifCond .ge 8, 3) := by decide +kernel
theorem dX12_best_66 : decode cX12_best 66 = .ok (.ldc 80, 2) := by decide +kernel
theorem dX12_best_68 : decode cX12_best 68 = .ok (.goto 7, 3) := by decide +kernel
theorem dX12_best_71 : decode cX12_best 71 = .ok (.aload_n 0, 1) := by decide +kernel
theorem dX12_best_72 : decode cX12_best 72 = .ok (.getfield 238, 3) := by decide +kernel
theorem dX12_best_75 : decode cX12_best 75 = .ok (.ireturn, 1) := by decide +kernel
theorem dX12_both_0 : decode cX12_both 0 = .ok (.aload_n 0, 1) := by decide +kernel
theorem dX12_both_1 : decode cX12_both 1 = .ok (.invokevirtual 202, 3) := by decide +kernel
theorem dX12_both_4 : decode cX12_both 4 = .ok (.aload_n 0, 1) := by decide +kernel
theorem dX12_both_5 : decode cX12_both 5 = .ok (.iconst 1, 1) := by decide +kernel
theorem dX12_both_6 : decode cX12_both 6 = .ok (.iconst 1, 1) := by decide +kernel
theorem dX12_both_7 : decode cX12_both 7 = .ok (.invokevirtual 192, 3) := by decide +kernel
theorem dX12_both_10 : decode cX12_both 10 = .ok (.ifCond .lt 20, 3) := by decide +kernel
theorem dX12_both_13 : decode cX12_both 13 = .ok (.aload_n 0, 1) := by decide +kernel
theorem dX12_both_14 : decode cX12_both 14 = .ok (.invokevirtual 144, 3) := by decide +kernel
theorem dX12_both_17 : decode cX12_both 17 = .ok (.aload_n 0, 1) := by decide +kernel
theorem dX12_both_18 : decode cX12_both 18 = .ok (.invokevirtual 202, 3) := by decide +kernel
theorem dX12_both_21 : decode cX12_both 21 = .ok (.aload_n 0, 1) := by decide +kernel
theorem dX12_both_22 : decode cX12_both 22 = .ok (.ldc 205, 2) := by decide +kernel
theorem dX12_both_24 : decode cX12_both 24 = .ok (.invokevirtual 168, 3) := by decide +kernel
theorem dX12_both_27 : decode cX12_both 27 = .ok (.goto (-23), 3) := by decide +kernel
theorem dX12_both_30 : decode cX12_both 30 = .ok (.return_, 1) := by decide +kernel
theorem dX12_boxToday_0 : decode cX12_boxToday 0 = .ok (.aload_n 0, 1) := by decide +kernel
theorem dX12_boxToday_1 : decode cX12_boxToday 1 = .ok (.getfield 9, 3) := by decide +kernel
theorem dX12_boxToday_4 : decode cX12_boxToday 4 = .ok (.iconst 3, 1) := by decide +kernel
theorem dX12_boxToday_5 : decode cX12_boxToday 5 = .ok (.iaload, 1) := by decide +kernel
theorem dX12_boxToday_6 : decode cX12_boxToday 6 = .ok (.iconst 1, 1) := by decide +kernel
theorem dX12_boxToday_7 : decode cX12_boxToday 7 = .ok (.if_icmp .ne 24, 3) := by decide +kernel
theorem dX12_boxToday_10 : decode cX12_boxToday 10 = .ok (.aload_n 0, 1) := by decide +kernel
theorem dX12_boxToday_11 : decode cX12_boxToday 11 = .ok (.getfield 9, 3) := by decide +kernel
theorem dX12_boxToday_14 : decode cX12_boxToday 14 = .ok (.sipush 828, 3) := by decide +kernel
theorem dX12_boxToday_17 : decode cX12_boxToday 17 = .ok (.bipush 12, 2) := by decide +kernel
theorem dX12_boxToday_19 : decode cX12_boxToday 19 = .ok (.aload_n 0, 1) := by decide +kernel
theorem dX12_boxToday_20 : decode cX12_boxToday 20 = .ok (.getfield 9, 3) := by decide +kernel
theorem dX12_boxToday_23 : decode cX12_boxToday 23 = .ok (.iconst 0, 1) := by decide +kernel
theorem dX12_boxToday_24 : decode cX12_boxToday 24 = .ok (.iaload, 1) := by decide +kernel
theorem dX12_boxToday_25 : decode cX12_boxToday 25 = .ok (.imul, 1) := by decide +kernel
theorem dX12_boxToday_26 : decode cX12_boxToday 26 = .ok (.iadd, 1) := by decide +kernel
theorem dX12_boxToday_27 : decode cX12_boxToday 27 = .ok (.iload_n 1, 1) := by decide +kernel
theorem dX12_boxToday_28 : decode cX12_boxToday 28 = .ok (.iadd, 1) := by decide +kernel
theorem dX12_boxToday_29 : decode cX12_boxToday 29 = .ok (.iaload, 1) := by decide +kernel
theorem dX12_boxToday_30 : decode cX12_boxToday 30 = .ok (.ireturn, 1) := by decide +kernel
theorem dX12_boxToday_31 : decode cX12_boxToday 31 = .ok (.aload_n 0, 1) := by decide +kernel
theorem dX12_boxToday_32 : decode cX12_boxToday 32 = .ok (.getfield 9, 3) := by decide +kernel
theorem dX12_boxToday_35 : decode cX12_boxToday 35 = .ok (.iload_n 1, 1) := by decide +kernel
theorem dX12_boxToday_36 : decode cX12_boxToday 36 = .ok (.iconst 4, 1) := by decide +kernel
theorem dX12_boxToday_37 : decode cX12_boxToday 37 = .ok (.invokestatic 99, 3) := by decide +kernel
theorem dX12_boxToday_40 : decode cX12_boxToday 40 = .ok (.iaload, 1) := by decide +kernel
theorem dX12_boxToday_41 : decode cX12_boxToday 41 = .ok (.istore_n 2, 1) := by decide +kernel
theorem dX12_boxToday_42 : decode cX12_boxToday 42 = .ok (.iload_n 2, 1) := by decide +kernel
theorem dX12_boxToday_43 : decode cX12_boxToday 43 = .ok (.iconst (-1), 1) := by decide +kernel
theorem dX12_boxToday_44 : decode cX12_boxToday 44 = .ok (.if_icmp .ne 5, 3) := by decide +kernel
theorem dX12_boxToday_47 : decode cX12_boxToday 47 = .ok (.iconst 0, 1) := by decide +kernel
theorem dX12_boxToday_48 : decode cX12_boxToday 48 = .ok (.ireturn, 1) := by decide +kernel
theorem dX12_boxToday_49 : decode cX12_boxToday 49 = .ok (.iload_n 2, 1) := by decide +kernel
theorem dX12_boxToday_50 : decode cX12_boxToday 50 = .ok (.invokestatic 109, 3) := by decide +kernel
theorem dX12_boxToday_53 : decode cX12_boxToday 53 = .ok (.istore_n 3, 1) := by decide +kernel
theorem dX12_boxToday_54 : decode cX12_boxToday 54 = .ok (.iload_n 3, 1) := by decide +kernel
theorem dX12_boxToday_55 : decode cX12_boxToday 55 = .ok (.iconst 2, 1) := by decide +kernel
theorem dX12_boxToday_56 : decode cX12_boxToday 56 = .ok (.if_icmp .ge 33, 3) := by decide +kernel
theorem dX12_boxToday_59 : decode cX12_boxToday 59 = .ok (.aload_n 0, 1) := by decide +kernel
theorem dX12_boxToday_60 : decode cX12_boxToday 60 = .ok (.iload_n 1, 1) := by decide +kernel
theorem dX12_boxToday_61 : decode cX12_boxToday 61 = .ok (.iload_n 2, 1) := by decide +kernel
theorem dX12_boxToday_62 : decode cX12_boxToday 62 = .ok (.invokevirtual 112, 3) := by decide +kernel
theorem dX12_boxToday_65 : decode cX12_boxToday 65 = .ok (.istore 4, 2) := by decide +kernel
theorem dX12_boxToday_67 : decode cX12_boxToday 67 = .ok (.iload_n 2, 1) := by decide +kernel
theorem dX12_boxToday_68 : decode cX12_boxToday 68 = .ok (.iload 4, 2) := by decide +kernel
theorem dX12_boxToday_70 : decode cX12_boxToday 70 = .ok (.ifCond .ge 7, 3) := by decide +kernel
theorem dX12_boxToday_73 : decode cX12_boxToday 73 = .ok (.iconst 0, 1) := by decide +kernel
theorem dX12_boxToday_74 : decode cX12_boxToday 74 = .ok (.goto 7, 3) := by decide +kernel
theorem dX12_boxToday_77 : decode cX12_boxToday 77 = .ok (.iconst 1, 1) := by decide +kernel
theorem dX12_boxToday_78 : decode cX12_boxToday 78 = .ok (.iload 4, 2) := by decide +kernel
theorem dX12_boxToday_80 : decode cX12_boxToday 80 = .ok (.ishl, 1) := by decide +kernel
theorem dX12_boxToday_81 : decode cX12_boxToday 81 = .ok (.ior, 1) := by decide +kernel
theorem dX12_boxToday_82 : decode cX12_boxToday 82 = .ok (.istore_n 2, 1) := by decide +kernel
theorem dX12_boxToday_83 : decode cX12_boxToday 83 = .ok (.iinc 3 1, 3) := by decide +kernel
theorem dX12_boxToday_86 : decode cX12_boxToday 86 = .ok (.goto (-32), 3) := by decide +kernel
theorem dX12_boxToday_89 : decode cX12_boxToday 89 = .ok (.iload_n 2, 1) := by decide +kernel
theorem dX12_boxToday_90 : decode cX12_boxToday 90 = .ok (.ireturn, 1) := by decide +kernel
theorem dX12_box_0 : decode cX12_box 0 = .ok (.aload_n 0, 1) := by decide +kernel
theorem dX12_box_1 : decode cX12_box 1 = .ok (.iload_n 1, 1) := by decide +kernel
theorem dX12_box_2 : decode cX12_box 2 = .ok (.invokevirtual 102, 3) := by decide +kernel
theorem dX12_box_5 : decode cX12_box 5 = .ok (.ifCond .eq 17, 3) := by decide +kernel
theorem dX12_box_8 : decode cX12_box 8 = .ok (.iload_n 2, 1) := by decide +kernel
theorem dX12_box_9 : decode cX12_box 9 = .ok (.iconst 0, 1) := by decide +kernel
theorem dX12_box_10 : decode cX12_box 10 = .ok (.aload_n 0, 1) := by decide +kernel
theorem dX12_box_11 : decode cX12_box 11 = .ok (.getfield 9, 3) := by decide +kernel
theorem dX12_box_14 : decode cX12_box 14 = .ok (.iconst 0, 1) := by decide +kernel
theorem dX12_box_15 : decode cX12_box 15 = .ok (.iaload, 1) := by decide +kernel
theorem dX12_box_16 : decode cX12_box 16 = .ok (.invokestatic 52, 3) := by decide +kernel
theorem dX12_box_19 : decode cX12_box 19 = .ok (.ifCond .ne 6, 3) := by decide +kernel
theorem dX12_box_22 : decode cX12_box 22 = .ok (.ldc 57, 2) := by decide +kernel
theorem dX12_box_24 : decode cX12_box 24 = .ok (.ireturn, 1) := by decide +kernel
theorem dX12_box_25 : decode cX12_box 25 = .ok (.iload_n 2, 1) := by decide +kernel
theorem dX12_box_26 : decode cX12_box 26 = .ok (.aload_n 0, 1) := by decide +kernel
theorem dX12_box_27 : decode cX12_box 27 = .ok (.getfield 9, 3) := by decide +kernel
theorem dX12_box_30 : decode cX12_box 30 = .ok (.iconst 0, 1) := by decide +kernel
theorem dX12_box_31 : decode cX12_box 31 = .ok (.iaload, 1) := by decide +kernel
theorem dX12_box_32 : decode cX12_box 32 = .ok (.if_icmp .ne 11, 3) := by decide +kernel
theorem dX12_box_35 : decode cX12_box 35 = .ok (.aload_n 0, 1) := by decide +kernel
theorem dX12_box_36 : decode cX12_box 36 = .ok (.iload_n 1, 1) := by decide +kernel
theorem dX12_box_37 : decode cX12_box 37 = .ok (.invokevirtual 115, 3) := by decide +kernel
theorem dX12_box_40 : decode cX12_box 40 = .ok (.goto 18, 3) := by decide +kernel
theorem dX12_box_43 : decode cX12_box 43 = .ok (.aload_n 0, 1) := by decide +kernel
theorem dX12_box_44 : decode cX12_box 44 = .ok (.getfield 9, 3) := by decide +kernel
theorem dX12_box_47 : decode cX12_box 47 = .ok (.sipush 828, 3) := by decide +kernel
theorem dX12_box_50 : decode cX12_box 50 = .ok (.bipush 12, 2) := by decide +kernel
theorem dX12_box_52 : decode cX12_box 52 = .ok (.iload_n 2, 1) := by decide +kernel
theorem dX12_box_53 : decode cX12_box 53 = .ok (.imul, 1) := by decide +kernel
theorem dX12_box_54 : decode cX12_box 54 = .ok (.iadd, 1) := by decide +kernel
theorem dX12_box_55 : decode cX12_box 55 = .ok (.iload_n 1, 1) := by decide +kernel
theorem dX12_box_56 : decode cX12_box 56 = .ok (.iadd, 1) := by decide +kernel
theorem dX12_box_57 : decode cX12_box 57 = .ok (.iaload, 1) := by decide +kernel
theorem dX12_box_58 : decode cX12_box 58 = .ok (.ireturn, 1) := by decide +kernel
theorem dX12_check_0 : decode cX12_check 0 = .ok (.aload_n 0, 1) := by decide +kernel
theorem dX12_check_1 : decode cX12_check 1 = .ok (.getfield 313, 3) := by decide +kernel
theorem dX12_check_4 : decode cX12_check 4 = .ok (.istore_n 1, 1) := by decide +kernel
theorem dX12_check_5 : decode cX12_check 5 = .ok (.aload_n 0, 1) := by decide +kernel
theorem dX12_check_6 : decode cX12_check 6 = .ok (.iconst 0, 1) := by decide +kernel
theorem dX12_check_7 : decode cX12_check 7 = .ok (.putfield 313, 3) := by decide +kernel
theorem dX12_check_10 : decode cX12_check 10 = .ok (.aload_n 0, 1) := by decide +kernel
theorem dX12_check_11 : decode cX12_check 11 = .ok (.sipush 5000, 3) := by decide +kernel
theorem dX12_check_14 : decode cX12_check 14 = .ok (.invokevirtual 297, 3) := by decide +kernel
theorem dX12_check_17 : decode cX12_check 17 = .ok (.istore_n 2, 1) := by decide +kernel
theorem dX12_check_18 : decode cX12_check 18 = .ok (.iload_n 2, 1) := by decide +kernel
theorem dX12_check_19 : decode cX12_check 19 = .ok (.ifCond .eq 5, 3) := by decide +kernel
theorem dX12_check_22 : decode cX12_check 22 = .ok (.iload_n 2, 1) := by decide +kernel
theorem dX12_check_23 : decode cX12_check 23 = .ok (.ireturn, 1) := by decide +kernel
theorem dX12_check_24 : decode cX12_check 24 = .ok (.iconst 0, 1) := by decide +kernel
theorem dX12_check_25 : decode cX12_check 25 = .ok (.istore_n 3, 1) := by decide +kernel
theorem dX12_check_26 : decode cX12_check 26 = .ok (.iconst 0, 1) := by decide +kernel
theorem dX12_check_27 : decode cX12_check 27 = .ok (.istore 4, 2) := by decide +kernel
theorem dX12_check_29 : decode cX12_check 29 = .ok (.iload 4, 2) := by decide +kernel
theorem dX12_check_31 : decode cX12_check 31 = .ok (.aload_n 0, 1) := by decide +kernel
theorem dX12_check_32 : decode cX12_check 32 = .ok (.getfield 9, 3) := by decide +kernel
theorem dX12_check_35 : decode cX12_check 35 = .ok (.bipush 6, 2) := by decide +kernel
theorem dX12_check_37 : decode cX12_check 37 = .ok (.iaload, 1) := by decide +kernel
theorem dX12_check_38 : decode cX12_check 38 = .ok (.if_icmp .ge 98, 3) := by decide +kernel
theorem dX12_check_41 : decode cX12_check 41 = .ok (.iconst 0, 1) := by decide +kernel
theorem dX12_check_42 : decode cX12_check 42 = .ok (.istore 5, 2) := by decide +kernel
theorem dX12_check_44 : decode cX12_check 44 = .ok (.iload 5, 2) := by decide +kernel
theorem dX12_check_46 : decode cX12_check 46 = .ok (.iconst 3, 1) := by decide +kernel
theorem dX12_check_47 : decode cX12_check 47 = .ok (.if_icmp .ge 83, 3) := by decide +kernel
theorem dX12_check_50 : decode cX12_check 50 = .ok (.aload_n 0, 1) := by decide +kernel
theorem dX12_check_51 : decode cX12_check 51 = .ok (.getfield 46, 3) := by decide +kernel
theorem dX12_check_54 : decode cX12_check 54 = .ok (.iload 4, 2) := by decide +kernel
theorem dX12_check_56 : decode cX12_check 56 = .ok (.iaload, 1) := by decide +kernel
theorem dX12_check_57 : decode cX12_check 57 = .ok (.ifCond .lt 73, 3) := by decide +kernel
theorem dX12_check_60 : decode cX12_check 60 = .ok (.iload 5, 2) := by decide +kernel
theorem dX12_check_62 : decode cX12_check 62 = .ok (.ifCond .ne 8, 3) := by decide +kernel
theorem dX12_check_65 : decode cX12_check 65 = .ok (.iload 4, 2) := by decide +kernel
theorem dX12_check_67 : decode cX12_check 67 = .ok (.goto 32, 3) := by decide +kernel
theorem dX12_check_70 : decode cX12_check 70 = .ok (.iload 5, 2) := by decide +kernel
theorem dX12_check_72 : decode cX12_check 72 = .ok (.iconst 1, 1) := by decide +kernel
theorem dX12_check_73 : decode cX12_check 73 = .ok (.if_icmp .ne 16, 3) := by decide +kernel
theorem dX12_check_76 : decode cX12_check 76 = .ok (.aload_n 0, 1) := by decide +kernel
theorem dX12_check_77 : decode cX12_check 77 = .ok (.getfield 46, 3) := by decide +kernel
theorem dX12_check_80 : decode cX12_check 80 = .ok (.iload 4, 2) := by decide +kernel
theorem dX12_check_82 : decode cX12_check 82 = .ok (.iaload, 1) := by decide +kernel
theorem dX12_check_83 : decode cX12_check 83 = .ok (.bipush 100, 2) := by decide +kernel
theorem dX12_check_85 : decode cX12_check 85 = .ok (.idiv, 1) := by decide +kernel
theorem dX12_check_86 : decode cX12_check 86 = .ok (.goto 13, 3) := by decide +kernel
theorem dX12_check_89 : decode cX12_check 89 = .ok (.aload_n 0, 1) := by decide +kernel
theorem dX12_check_90 : decode cX12_check 90 = .ok (.getfield 46, 3) := by decide +kernel
theorem dX12_check_93 : decode cX12_check 93 = .ok (.iload 4, 2) := by decide +kernel
theorem dX12_check_95 : decode cX12_check 95 = .ok (.iaload, 1) := by decide +kernel
theorem dX12_check_96 : decode cX12_check 96 = .ok (.bipush 100, 2) := by decide +kernel
theorem dX12_check_98 : decode cX12_check 98 = .ok (.irem, 1) := by decide +kernel
theorem dX12_check_99 : decode cX12_check 99 = .ok (.istore 6, 2) := by decide +kernel
theorem dX12_check_101 : decode cX12_check 101 = .ok (.iload_n 3, 1) := by decide +kernel
theorem dX12_check_102 : decode cX12_check 102 = .ok (.iload_n 1, 1) := by decide +kernel
theorem dX12_check_103 : decode cX12_check 103 = .ok (.if_icmp .eq 14, 3) := by decide +kernel
theorem dX12_check_106 : decode cX12_check 106 = .ok (.aload_n 0, 1) := by decide +kernel
theorem dX12_check_107 : decode cX12_check 107 = .ok (.getfield 19, 3) := by decide +kernel
theorem dX12_check_110 : decode cX12_check 110 = .ok (.iload_n 3, 1) := by decide +kernel
theorem dX12_check_111 : decode cX12_check 111 = .ok (.iaload, 1) := by decide +kernel
theorem dX12_check_112 : decode cX12_check 112 = .ok (.iload 6, 2) := by decide +kernel
theorem dX12_check_114 : decode cX12_check 114 = .ok (.if_icmp .eq 7, 3) := by decide +kernel
theorem dX12_check_117 : decode cX12_check 117 = .ok (.iconst 1, 1) := by decide +kernel
theorem dX12_check_118 : decode cX12_check 118 = .ok (.iload_n 3, 1) := by decide +kernel
theorem dX12_check_119 : decode cX12_check 119 = .ok (.iadd, 1) := by decide +kernel
theorem dX12_check_120 : decode cX12_check 120 = .ok (.ireturn, 1) := by decide +kernel
theorem dX12_check_121 : decode cX12_check 121 = .ok (.iinc 3 1, 3) := by decide +kernel
theorem dX12_check_124 : decode cX12_check 124 = .ok (.iinc 5 1, 3) := by decide +kernel
theorem dX12_check_127 : decode cX12_check 127 = .ok (.goto (-83), 3) := by decide +kernel
theorem dX12_check_130 : decode cX12_check 130 = .ok (.iinc 4 1, 3) := by decide +kernel
theorem dX12_check_133 : decode cX12_check 133 = .ok (.goto (-104), 3) := by decide +kernel
theorem dX12_check_136 : decode cX12_check 136 = .ok (.iload_n 3, 1) := by decide +kernel
theorem dX12_check_137 : decode cX12_check 137 = .ok (.iload_n 1, 1) := by decide +kernel
theorem dX12_check_138 : decode cX12_check 138 = .ok (.if_icmp .ge 9, 3) := by decide +kernel
theorem dX12_check_141 : decode cX12_check 141 = .ok (.iconst 1, 1) := by decide +kernel
theorem dX12_check_142 : decode cX12_check 142 = .ok (.iload_n 3, 1) := by decide +kernel
theorem dX12_check_143 : decode cX12_check 143 = .ok (.iadd, 1) := by decide +kernel
theorem dX12_check_144 : decode cX12_check 144 = .ok (.goto 4, 3) := by decide +kernel
theorem dX12_check_147 : decode cX12_check 147 = .ok (.iconst 0, 1) := by decide +kernel
theorem dX12_check_148 : decode cX12_check 148 = .ok (.ireturn, 1) := by decide +kernel
theorem dX12_choose_0 : decode cX12_choose 0 = .ok (.aload_n 0, 1) := by decide +kernel
theorem dX12_choose_1 : decode cX12_choose 1 = .ok (.iload_n 1, 1) := by decide +kernel
theorem dX12_choose_2 : decode cX12_choose 2 = .ok (.invokevirtual 102, 3) := by decide +kernel
theorem dX12_choose_5 : decode cX12_choose 5 = .ok (.ifCond .eq 38, 3) := by decide +kernel
theorem dX12_choose_8 : decode cX12_choose 8 = .ok (.iload_n 2, 1) := by decide +kernel
theorem dX12_choose_9 : decode cX12_choose 9 = .ok (.iconst (-1), 1) := by decide +kernel
theorem dX12_choose_10 : decode cX12_choose 10 = .ok (.if_icmp .eq 29, 3) := by decide +kernel
theorem dX12_choose_13 : decode cX12_choose 13 = .ok (.iload_n 2, 1) := by decide +kernel
theorem dX12_choose_14 : decode cX12_choose 14 = .ok (.ifCond .lt 29, 3) := by decide +kernel
theorem dX12_choose_17 : decode cX12_choose 17 = .ok (.iload_n 2, 1) := by decide +kernel
theorem dX12_choose_18 : decode cX12_choose 18 = .ok (.aload_n 0, 1) := by decide +kernel
theorem dX12_choose_19 : decode cX12_choose 19 = .ok (.getfield 9, 3) := by decide +kernel
theorem dX12_choose_22 : decode cX12_choose 22 = .ok (.bipush 8, 2) := by decide +kernel
theorem dX12_choose_24 : decode cX12_choose 24 = .ok (.iaload, 1) := by decide +kernel
theorem dX12_choose_25 : decode cX12_choose 25 = .ok (.iconst (-1), 1) := by decide +kernel
theorem dX12_choose_26 : decode cX12_choose 26 = .ok (.ixor, 1) := by decide +kernel
theorem dX12_choose_27 : decode cX12_choose 27 = .ok (.iand, 1) := by decide +kernel
theorem dX12_choose_28 : decode cX12_choose 28 = .ok (.ifCond .ne 15, 3) := by decide +kernel
theorem dX12_choose_31 : decode cX12_choose 31 = .ok (.iload_n 2, 1) := by decide +kernel
theorem dX12_choose_32 : decode cX12_choose 32 = .ok (.invokestatic 109, 3) := by decide +kernel
theorem dX12_choose_35 : decode cX12_choose 35 = .ok (.iconst 2, 1) := by decide +kernel
theorem dX12_choose_36 : decode cX12_choose 36 = .ok (.if_icmp .gt 7, 3) := by decide +kernel
theorem dX12_choose_39 : decode cX12_choose 39 = .ok (.iconst 1, 1) := by decide +kernel
theorem dX12_choose_40 : decode cX12_choose 40 = .ok (.goto 4, 3) := by decide +kernel
theorem dX12_choose_43 : decode cX12_choose 43 = .ok (.iconst 0, 1) := by decide +kernel
theorem dX12_choose_44 : decode cX12_choose 44 = .ok (.istore_n 3, 1) := by decide +kernel
theorem dX12_choose_45 : decode cX12_choose 45 = .ok (.iconst 0, 1) := by decide +kernel
theorem dX12_choose_46 : decode cX12_choose 46 = .ok (.istore 4, 2) := by decide +kernel
theorem dX12_choose_48 : decode cX12_choose 48 = .ok (.iload 4, 2) := by decide +kernel
theorem dX12_choose_50 : decode cX12_choose 50 = .ok (.bipush 10, 2) := by decide +kernel
theorem dX12_choose_52 : decode cX12_choose 52 = .ok (.if_icmp .ge 42, 3) := by decide +kernel
theorem dX12_choose_55 : decode cX12_choose 55 = .ok (.iload_n 3, 1) := by decide +kernel
theorem dX12_choose_56 : decode cX12_choose 56 = .ok (.ifCond .eq 38, 3) := by decide +kernel
theorem dX12_choose_59 : decode cX12_choose 59 = .ok (.iload_n 2, 1) := by decide +kernel
theorem dX12_choose_60 : decode cX12_choose 60 = .ok (.ifCond .lt 34, 3) := by decide +kernel
theorem dX12_choose_63 : decode cX12_choose 63 = .ok (.iload_n 2, 1) := by decide +kernel
theorem dX12_choose_64 : decode cX12_choose 64 = .ok (.iload 4, 2) := by decide +kernel
theorem dX12_choose_66 : decode cX12_choose 66 = .ok (.invokestatic 76, 3) := by decide +kernel
theorem dX12_choose_69 : decode cX12_choose 69 = .ok (.ifCond .eq 13, 3) := by decide +kernel
theorem dX12_choose_72 : decode cX12_choose 72 = .ok (.aload_n 0, 1) := by decide +kernel
theorem dX12_choose_73 : decode cX12_choose 73 = .ok (.iload_n 1, 1) := by decide +kernel
theorem dX12_choose_74 : decode cX12_choose 74 = .ok (.iload 4, 2) := by decide +kernel
theorem dX12_choose_76 : decode cX12_choose 76 = .ok (.invokevirtual 106, 3) := by decide +kernel
theorem dX12_choose_79 : decode cX12_choose 79 = .ok (.ifCond .eq 7, 3) := by decide +kernel
theorem dX12_choose_82 : decode cX12_choose 82 = .ok (.iconst 1, 1) := by decide +kernel
theorem dX12_choose_83 : decode cX12_choose 83 = .ok (.goto 4, 3) := by decide +kernel
theorem dX12_choose_86 : decode cX12_choose 86 = .ok (.iconst 0, 1) := by decide +kernel
theorem dX12_choose_87 : decode cX12_choose 87 = .ok (.istore_n 3, 1) := by decide +kernel
theorem dX12_choose_88 : decode cX12_choose 88 = .ok (.iinc 4 1, 3) := by decide +kernel
theorem dX12_choose_91 : decode cX12_choose 91 = .ok (.goto (-43), 3) := by decide +kernel
theorem dX12_choose_94 : decode cX12_choose 94 = .ok (.iload_n 3, 1) := by decide +kernel
theorem dX12_choose_95 : decode cX12_choose 95 = .ok (.ifCond .ne 6, 3) := by decide +kernel
theorem dX12_choose_98 : decode cX12_choose 98 = .ok (.ldc 57, 2) := by decide +kernel
theorem dX12_choose_100 : decode cX12_choose 100 = .ok (.ireturn, 1) := by decide +kernel
theorem dX12_choose_101 : decode cX12_choose 101 = .ok (.aload_n 0, 1) := by decide +kernel
theorem dX12_choose_102 : decode cX12_choose 102 = .ok (.getfield 9, 3) := by decide +kernel
theorem dX12_choose_105 : decode cX12_choose 105 = .ok (.iconst 3, 1) := by decide +kernel
theorem dX12_choose_106 : decode cX12_choose 106 = .ok (.iaload, 1) := by decide +kernel
theorem dX12_choose_107 : decode cX12_choose 107 = .ok (.iconst 1, 1) := by decide +kernel
theorem dX12_choose_108 : decode cX12_choose 108 = .ok (.if_icmp .ne 6, 3) := by decide +kernel
theorem dX12_choose_111 : decode cX12_choose 111 = .ok (.ldc 80, 2) := by decide +kernel
theorem dX12_choose_113 : decode cX12_choose 113 = .ok (.ireturn, 1) := by decide +kernel
theorem dX12_choose_114 : decode cX12_choose 114 = .ok (.aload_n 0, 1) := by decide +kernel
theorem dX12_choose_115 : decode cX12_choose 115 = .ok (.getfield 9, 3) := by decide +kernel
theorem dX12_choose_118 : decode cX12_choose 118 = .ok (.iload_n 1, 1) := by decide +kernel
theorem dX12_choose_119 : decode cX12_choose 119 = .ok (.iconst 4, 1) := by decide +kernel
theorem dX12_choose_120 : decode cX12_choose 120 = .ok (.invokestatic 99, 3) := by decide +kernel
theorem dX12_choose_123 : decode cX12_choose 123 = .ok (.iaload, 1) := by decide +kernel
theorem dX12_choose_124 : decode cX12_choose 124 = .ok (.istore 4, 2) := by decide +kernel
theorem dX12_choose_126 : decode cX12_choose 126 = .ok (.aload_n 0, 1) := by decide +kernel
theorem dX12_choose_127 : decode cX12_choose 127 = .ok (.getfield 9, 3) := by decide +kernel
theorem dX12_choose_130 : decode cX12_choose 130 = .ok (.iload_n 1, 1) := by decide +kernel
theorem dX12_choose_131 : decode cX12_choose 131 = .ok (.iconst 4, 1) := by decide +kernel
theorem dX12_choose_132 : decode cX12_choose 132 = .ok (.invokestatic 99, 3) := by decide +kernel
theorem dX12_choose_135 : decode cX12_choose 135 = .ok (.iload_n 2, 1) := by decide +kernel
theorem dX12_choose_136 : decode cX12_choose 136 = .ok (.iastore, 1) := by decide +kernel
theorem dX12_choose_137 : decode cX12_choose 137 = .ok (.iload 4, 2) := by decide +kernel
theorem dX12_choose_139 : decode cX12_choose 139 = .ok (.ireturn, 1) := by decide +kernel
theorem dX12_copy_0 : decode cX12_copy 0 = .ok (.iload_n 1, 1) := by decide +kernel
theorem dX12_copy_1 : decode cX12_copy 1 = .ok (.iconst 0, 1) := by decide +kernel
theorem dX12_copy_2 : decode cX12_copy 2 = .ok (.iconst 1, 1) := by decide +kernel
theorem dX12_copy_3 : decode cX12_copy 3 = .ok (.invokestatic 52, 3) := by decide +kernel
theorem dX12_copy_6 : decode cX12_copy 6 = .ok (.ifCond .eq 12, 3) := by decide +kernel
theorem dX12_copy_9 : decode cX12_copy 9 = .ok (.iload_n 3, 1) := by decide +kernel
theorem dX12_copy_10 : decode cX12_copy 10 = .ok (.iconst 0, 1) := by decide +kernel
theorem dX12_copy_11 : decode cX12_copy 11 = .ok (.iconst 1, 1) := by decide +kernel
theorem dX12_copy_12 : decode cX12_copy 12 = .ok (.invokestatic 52, 3) := by decide +kernel
theorem dX12_copy_15 : decode cX12_copy 15 = .ok (.ifCond .ne 6, 3) := by decide +kernel
theorem dX12_copy_18 : decode cX12_copy 18 = .ok (.ldc 57, 2) := by decide +kernel
theorem dX12_copy_20 : decode cX12_copy 20 = .ok (.ireturn, 1) := by decide +kernel
theorem dX12_copy_21 : decode cX12_copy 21 = .ok (.aload_n 0, 1) := by decide +kernel
theorem dX12_copy_22 : decode cX12_copy 22 = .ok (.getfield 22, 3) := by decide +kernel
theorem dX12_copy_25 : decode cX12_copy 25 = .ok (.iload_n 1, 1) := by decide +kernel
theorem dX12_copy_26 : decode cX12_copy 26 = .ok (.iaload, 1) := by decide +kernel
theorem dX12_copy_27 : decode cX12_copy 27 = .ok (.ifCond .lt 12, 3) := by decide +kernel
theorem dX12_copy_30 : decode cX12_copy 30 = .ok (.aload_n 0, 1) := by decide +kernel
theorem dX12_copy_31 : decode cX12_copy 31 = .ok (.getfield 22, 3) := by decide +kernel
theorem dX12_copy_34 : decode cX12_copy 34 = .ok (.iload_n 3, 1) := by decide +kernel
theorem dX12_copy_35 : decode cX12_copy 35 = .ok (.iaload, 1) := by decide +kernel
theorem dX12_copy_36 : decode cX12_copy 36 = .ok (.ifCond .ge 6, 3) := by decide +kernel
theorem dX12_copy_39 : decode cX12_copy 39 = .ok (.ldc 105, 2) := by decide +kernel
theorem dX12_copy_41 : decode cX12_copy 41 = .ok (.ireturn, 1) := by decide +kernel
theorem dX12_copy_42 : decode cX12_copy 42 = .ok (.iload 5, 2) := by decide +kernel
theorem dX12_copy_44 : decode cX12_copy 44 = .ok (.ifCond .lt 47, 3) := by decide +kernel
theorem dX12_copy_47 : decode cX12_copy 47 = .ok (.iload_n 2, 1) := by decide +kernel
theorem dX12_copy_48 : decode cX12_copy 48 = .ok (.ifCond .lt 43, 3) := by decide +kernel
theorem dX12_copy_51 : decode cX12_copy 51 = .ok (.iload 4, 2) := by decide +kernel
theorem dX12_copy_53 : decode cX12_copy 53 = .ok (.ifCond .lt 38, 3) := by decide +kernel
theorem dX12_copy_56 : decode cX12_copy 56 = .ok (.iload_n 2, 1) := by decide +kernel
theorem dX12_copy_57 : decode cX12_copy 57 = .ok (.i2l, 1) := by decide +kernel
theorem dX12_copy_58 : decode cX12_copy 58 = .ok (.iload 5, 2) := by decide +kernel
theorem dX12_copy_60 : decode cX12_copy 60 = .ok (.i2l, 1) := by decide +kernel
theorem dX12_copy_61 : decode cX12_copy 61 = .ok (.ladd, 1) := by decide +kernel
theorem dX12_copy_62 : decode cX12_copy 62 = .ok (.aload_n 0, 1) := by decide +kernel
theorem dX12_copy_63 : decode cX12_copy 63 = .ok (.getfield 22, 3) := by decide +kernel
theorem dX12_copy_66 : decode cX12_copy 66 = .ok (.iload_n 1, 1) := by decide +kernel
theorem dX12_copy_67 : decode cX12_copy 67 = .ok (.iaload, 1) := by decide +kernel
theorem dX12_copy_68 : decode cX12_copy 68 = .ok (.i2l, 1) := by decide +kernel
theorem dX12_copy_69 : decode cX12_copy 69 = .ok (.lcmp, 1) := by decide +kernel
theorem dX12_copy_70 : decode cX12_copy 70 = .ok (.ifCond .gt 21, 3) := by decide +kernel
theorem dX12_copy_73 : decode cX12_copy 73 = .ok (.iload 4, 2) := by decide +kernel
theorem dX12_copy_75 : decode cX12_copy 75 = .ok (.i2l, 1) := by decide +kernel
theorem dX12_copy_76 : decode cX12_copy 76 = .ok (.iload 5, 2) := by decide +kernel
theorem dX12_copy_78 : decode cX12_copy 78 = .ok (.i2l, 1) := by decide +kernel
theorem dX12_copy_79 : decode cX12_copy 79 = .ok (.ladd, 1) := by decide +kernel
theorem dX12_copy_80 : decode cX12_copy 80 = .ok (.aload_n 0, 1) := by decide +kernel
theorem dX12_copy_81 : decode cX12_copy 81 = .ok (.getfield 22, 3) := by decide +kernel
theorem dX12_copy_84 : decode cX12_copy 84 = .ok (.iload_n 3, 1) := by decide +kernel
theorem dX12_copy_85 : decode cX12_copy 85 = .ok (.iaload, 1) := by decide +kernel
theorem dX12_copy_86 : decode cX12_copy 86 = .ok (.i2l, 1) := by decide +kernel
theorem dX12_copy_87 : decode cX12_copy 87 = .ok (.lcmp, 1) := by decide +kernel
theorem dX12_copy_88 : decode cX12_copy 88 = .ok (.ifCond .le 7, 3) := by decide +kernel
theorem dX12_copy_91 : decode cX12_copy 91 = .ok (.ldc_w 320, 3) := by decide +kernel
theorem dX12_copy_94 : decode cX12_copy 94 = .ok (.ireturn, 1) := by decide +kernel
theorem dX12_copy_95 : decode cX12_copy 95 = .ok (.iconst 0, 1) := by decide +kernel
theorem dX12_copy_96 : decode cX12_copy 96 = .ok (.istore 6, 2) := by decide +kernel
theorem dX12_copy_98 : decode cX12_copy 98 = .ok (.iload 6, 2) := by decide +kernel
theorem dX12_copy_100 : decode cX12_copy 100 = .ok (.iload 5, 2) := by decide +kernel
theorem dX12_copy_102 : decode cX12_copy 102 = .ok (.if_icmp .ge 30, 3) := by decide +kernel
theorem dX12_copy_105 : decode cX12_copy 105 = .ok (.aload_n 0, 1) := by decide +kernel
theorem dX12_copy_106 : decode cX12_copy 106 = .ok (.getfield 49, 3) := by decide +kernel
theorem dX12_copy_109 : decode cX12_copy 109 = .ok (.iload 6, 2) := by decide +kernel
theorem dX12_copy_111 : decode cX12_copy 111 = .ok (.aload_n 0, 1) := by decide +kernel
theorem dX12_copy_112 : decode cX12_copy 112 = .ok (.getfield 25, 3) := by decide +kernel
theorem dX12_copy_115 : decode cX12_copy 115 = .ok (.bipush 16, 2) := by decide +kernel
theorem dX12_copy_117 : decode cX12_copy 117 = .ok (.iload_n 1, 1) := by decide +kernel
theorem dX12_copy_118 : decode cX12_copy 118 = .ok (.imul, 1) := by decide +kernel
theorem dX12_copy_119 : decode cX12_copy 119 = .ok (.iload_n 2, 1) := by decide +kernel
theorem dX12_copy_120 : decode cX12_copy 120 = .ok (.iadd, 1) := by decide +kernel
theorem dX12_copy_121 : decode cX12_copy 121 = .ok (.iload 6, 2) := by decide +kernel
theorem dX12_copy_123 : decode cX12_copy 123 = .ok (.iadd, 1) := by decide +kernel
theorem dX12_copy_124 : decode cX12_copy 124 = .ok (.iaload, 1) := by decide +kernel
theorem dX12_copy_125 : decode cX12_copy 125 = .ok (.iastore, 1) := by decide +kernel
theorem dX12_copy_126 : decode cX12_copy 126 = .ok (.iinc 6 1, 3) := by decide +kernel
theorem dX12_copy_129 : decode cX12_copy 129 = .ok (.goto (-31), 3) := by decide +kernel
theorem dX12_copy_132 : decode cX12_copy 132 = .ok (.iconst 0, 1) := by decide +kernel
theorem dX12_copy_133 : decode cX12_copy 133 = .ok (.istore 6, 2) := by decide +kernel
theorem dX12_copy_135 : decode cX12_copy 135 = .ok (.iload 6, 2) := by decide +kernel
theorem dX12_copy_137 : decode cX12_copy 137 = .ok (.iload 5, 2) := by decide +kernel
theorem dX12_copy_139 : decode cX12_copy 139 = .ok (.if_icmp .ge 31, 3) := by decide +kernel
theorem dX12_copy_142 : decode cX12_copy 142 = .ok (.aload_n 0, 1) := by decide +kernel
theorem dX12_copy_143 : decode cX12_copy 143 = .ok (.getfield 25, 3) := by decide +kernel
theorem dX12_copy_146 : decode cX12_copy 146 = .ok (.bipush 16, 2) := by decide +kernel
theorem dX12_copy_148 : decode cX12_copy 148 = .ok (.iload_n 3, 1) := by decide +kernel
theorem dX12_copy_149 : decode cX12_copy 149 = .ok (.imul, 1) := by decide +kernel
theorem dX12_copy_150 : decode cX12_copy 150 = .ok (.iload 4, 2) := by decide +kernel
theorem dX12_copy_152 : decode cX12_copy 152 = .ok (.iadd, 1) := by decide +kernel
theorem dX12_copy_153 : decode cX12_copy 153 = .ok (.iload 6, 2) := by decide +kernel
theorem dX12_copy_155 : decode cX12_copy 155 = .ok (.iadd, 1) := by decide +kernel
theorem dX12_copy_156 : decode cX12_copy 156 = .ok (.aload_n 0, 1) := by decide +kernel
theorem dX12_copy_157 : decode cX12_copy 157 = .ok (.getfield 49, 3) := by decide +kernel
theorem dX12_copy_160 : decode cX12_copy 160 = .ok (.iload 6, 2) := by decide +kernel
theorem dX12_copy_162 : decode cX12_copy 162 = .ok (.iaload, 1) := by decide +kernel
theorem dX12_copy_163 : decode cX12_copy 163 = .ok (.iastore, 1) := by decide +kernel
theorem dX12_copy_164 : decode cX12_copy 164 = .ok (.iinc 6 1, 3) := by decide +kernel
theorem dX12_copy_167 : decode cX12_copy 167 = .ok (.goto (-32), 3) := by decide +kernel
theorem dX12_copy_170 : decode cX12_copy 170 = .ok (.iload 5, 2) := by decide +kernel
theorem dX12_copy_172 : decode cX12_copy 172 = .ok (.ireturn, 1) := by decide +kernel
theorem dX12_cost_0 : decode cX12_cost 0 = .ok (.iconst 0, 1) := by decide +kernel
theorem dX12_cost_1 : decode cX12_cost 1 = .ok (.istore_n 2, 1) := by decide +kernel
theorem dX12_cost_2 : decode cX12_cost 2 = .ok (.iconst 0, 1) := by decide +kernel
theorem dX12_cost_3 : decode cX12_cost 3 = .ok (.istore_n 3, 1) := by decide +kernel
theorem dX12_cost_4 : decode cX12_cost 4 = .ok (.iload_n 3, 1) := by decide +kernel
theorem dX12_cost_5 : decode cX12_cost 5 = .ok (.aload_n 0, 1) := by decide +kernel
theorem dX12_cost_6 : decode cX12_cost 6 = .ok (.getfield 9, 3) := by decide +kernel
theorem dX12_cost_9 : decode cX12_cost 9 = .ok (.iload_n 1, 1) := by decide +kernel
theorem dX12_cost_10 : decode cX12_cost 10 = .ok (.iconst 2, 1) := by decide +kernel
theorem dX12_cost_11 : decode cX12_cost 11 = .ok (.invokestatic 67, 3) := by decide +kernel
theorem dX12_cost_14 : decode cX12_cost 14 = .ok (.iaload, 1) := by decide +kernel
theorem dX12_cost_15 : decode cX12_cost 15 = .ok (.if_icmp .ge 50, 3) := by decide +kernel
theorem dX12_cost_18 : decode cX12_cost 18 = .ok (.iload_n 2, 1) := by decide +kernel
theorem dX12_cost_19 : decode cX12_cost 19 = .ok (.aload_n 0, 1) := by decide +kernel
theorem dX12_cost_20 : decode cX12_cost 20 = .ok (.getfield 9, 3) := by decide +kernel
theorem dX12_cost_23 : decode cX12_cost 23 = .ok (.iload_n 1, 1) := by decide +kernel
theorem dX12_cost_24 : decode cX12_cost 24 = .ok (.bipush 8, 2) := by decide +kernel
theorem dX12_cost_26 : decode cX12_cost 26 = .ok (.iload_n 3, 1) := by decide +kernel
theorem dX12_cost_27 : decode cX12_cost 27 = .ok (.iadd, 1) := by decide +kernel
theorem dX12_cost_28 : decode cX12_cost 28 = .ok (.invokestatic 67, 3) := by decide +kernel
theorem dX12_cost_31 : decode cX12_cost 31 = .ok (.iaload, 1) := by decide +kernel
theorem dX12_cost_32 : decode cX12_cost 32 = .ok (.aload_n 0, 1) := by decide +kernel
theorem dX12_cost_33 : decode cX12_cost 33 = .ok (.getfield 9, 3) := by decide +kernel
theorem dX12_cost_36 : decode cX12_cost 36 = .ok (.aload_n 0, 1) := by decide +kernel
theorem dX12_cost_37 : decode cX12_cost 37 = .ok (.getfield 9, 3) := by decide +kernel
theorem dX12_cost_40 : decode cX12_cost 40 = .ok (.iload_n 1, 1) := by decide +kernel
theorem dX12_cost_41 : decode cX12_cost 41 = .ok (.iconst 3, 1) := by decide +kernel
theorem dX12_cost_42 : decode cX12_cost 42 = .ok (.iload_n 3, 1) := by decide +kernel
theorem dX12_cost_43 : decode cX12_cost 43 = .ok (.iadd, 1) := by decide +kernel
theorem dX12_cost_44 : decode cX12_cost 44 = .ok (.invokestatic 67, 3) := by decide +kernel
theorem dX12_cost_47 : decode cX12_cost 47 = .ok (.iaload, 1) := by decide +kernel
theorem dX12_cost_48 : decode cX12_cost 48 = .ok (.iconst 1, 1) := by decide +kernel
theorem dX12_cost_49 : decode cX12_cost 49 = .ok (.invokestatic 59, 3) := by decide +kernel
theorem dX12_cost_52 : decode cX12_cost 52 = .ok (.iaload, 1) := by decide +kernel
theorem dX12_cost_53 : decode cX12_cost 53 = .ok (.imul, 1) := by decide +kernel
theorem dX12_cost_54 : decode cX12_cost 54 = .ok (.bipush 100, 2) := by decide +kernel
theorem dX12_cost_56 : decode cX12_cost 56 = .ok (.idiv, 1) := by decide +kernel
theorem dX12_cost_57 : decode cX12_cost 57 = .ok (.iadd, 1) := by decide +kernel
theorem dX12_cost_58 : decode cX12_cost 58 = .ok (.istore_n 2, 1) := by decide +kernel
theorem dX12_cost_59 : decode cX12_cost 59 = .ok (.iinc 3 1, 3) := by decide +kernel
theorem dX12_cost_62 : decode cX12_cost 62 = .ok (.goto (-58), 3) := by decide +kernel
theorem dX12_cost_65 : decode cX12_cost 65 = .ok (.iload_n 2, 1) := by decide +kernel
theorem dX12_cost_66 : decode cX12_cost 66 = .ok (.ireturn, 1) := by decide +kernel
theorem dX12_count_0 : decode cX12_count 0 = .ok (.iload_n 1, 1) := by decide +kernel
theorem dX12_count_1 : decode cX12_count 1 = .ok (.tableswitch 116 0 8 #[51, 58, 65, 73, 81, 92, 99, 106, 111], 51) := by decide +kernel
theorem dX12_count_52 : decode cX12_count 52 = .ok (.aload_n 0, 1) := by decide +kernel
theorem dX12_count_53 : decode cX12_count 53 = .ok (.getfield 9, 3) := by decide +kernel
theorem dX12_count_56 : decode cX12_count 56 = .ok (.iconst 4, 1) := by decide +kernel
theorem dX12_count_57 : decode cX12_count 57 = .ok (.iaload, 1) := by decide +kernel
theorem dX12_count_58 : decode cX12_count 58 = .ok (.ireturn, 1) := by decide +kernel
theorem dX12_count_59 : decode cX12_count 59 = .ok (.aload_n 0, 1) := by decide +kernel
theorem dX12_count_60 : decode cX12_count 60 = .ok (.getfield 9, 3) := by decide +kernel
theorem dX12_count_63 : decode cX12_count 63 = .ok (.iconst 5, 1) := by decide +kernel
theorem dX12_count_64 : decode cX12_count 64 = .ok (.iaload, 1) := by decide +kernel
theorem dX12_count_65 : decode cX12_count 65 = .ok (.ireturn, 1) := by decide +kernel
theorem dX12_count_66 : decode cX12_count 66 = .ok (.aload_n 0, 1) := by decide +kernel
theorem dX12_count_67 : decode cX12_count 67 = .ok (.getfield 9, 3) := by decide +kernel
theorem dX12_count_70 : decode cX12_count 70 = .ok (.bipush 6, 2) := by decide +kernel
theorem dX12_count_72 : decode cX12_count 72 = .ok (.iaload, 1) := by decide +kernel
theorem dX12_count_73 : decode cX12_count 73 = .ok (.ireturn, 1) := by decide +kernel
theorem dX12_count_74 : decode cX12_count 74 = .ok (.aload_n 0, 1) := by decide +kernel
theorem dX12_count_75 : decode cX12_count 75 = .ok (.getfield 9, 3) := by decide +kernel
theorem dX12_count_78 : decode cX12_count 78 = .ok (.bipush 7, 2) := by decide +kernel
theorem dX12_count_80 : decode cX12_count 80 = .ok (.iaload, 1) := by decide +kernel
theorem dX12_count_81 : decode cX12_count 81 = .ok (.ireturn, 1) := by decide +kernel
theorem dX12_count_82 : decode cX12_count 82 = .ok (.aload_n 0, 1) := by decide +kernel
theorem dX12_count_83 : decode cX12_count 83 = .ok (.getfield 9, 3) := by decide +kernel
theorem dX12_count_86 : decode cX12_count 86 = .ok (.bipush 8, 2) := by decide +kernel
theorem dX12_count_88 : decode cX12_count 88 = .ok (.iaload, 1) := by decide +kernel
theorem dX12_count_89 : decode cX12_count 89 = .ok (.invokestatic 109, 3) := by decide +kernel
theorem dX12_count_92 : decode cX12_count 92 = .ok (.ireturn, 1) := by decide +kernel
theorem dX12_count_93 : decode cX12_count 93 = .ok (.aload_n 0, 1) := by decide +kernel
theorem dX12_count_94 : decode cX12_count 94 = .ok (.getfield 9, 3) := by decide +kernel
theorem dX12_count_97 : decode cX12_count 97 = .ok (.iconst 3, 1) := by decide +kernel
theorem dX12_count_98 : decode cX12_count 98 = .ok (.iaload, 1) := by decide +kernel
theorem dX12_count_99 : decode cX12_count 99 = .ok (.ireturn, 1) := by decide +kernel
theorem dX12_count_100 : decode cX12_count 100 = .ok (.aload_n 0, 1) := by decide +kernel
theorem dX12_count_101 : decode cX12_count 101 = .ok (.getfield 9, 3) := by decide +kernel
theorem dX12_count_104 : decode cX12_count 104 = .ok (.iconst 0, 1) := by decide +kernel
theorem dX12_count_105 : decode cX12_count 105 = .ok (.iaload, 1) := by decide +kernel
theorem dX12_count_106 : decode cX12_count 106 = .ok (.ireturn, 1) := by decide +kernel
theorem dX12_count_107 : decode cX12_count 107 = .ok (.aload_n 0, 1) := by decide +kernel
theorem dX12_count_108 : decode cX12_count 108 = .ok (.getfield 313, 3) := by decide +kernel
theorem dX12_count_111 : decode cX12_count 111 = .ok (.ireturn, 1) := by decide +kernel
theorem dX12_count_112 : decode cX12_count 112 = .ok (.aload_n 0, 1) := by decide +kernel
theorem dX12_count_113 : decode cX12_count 113 = .ok (.getfield 121, 3) := by decide +kernel
theorem dX12_count_116 : decode cX12_count 116 = .ok (.ireturn, 1) := by decide +kernel
theorem dX12_count_117 : decode cX12_count 117 = .ok (.ldc 57, 2) := by decide +kernel
theorem dX12_count_119 : decode cX12_count 119 = .ok (.ireturn, 1) := by decide +kernel
theorem dX12_done_0 : decode cX12_done 0 = .ok (.iload_n 0, 1) := by decide +kernel
theorem dX12_done_1 : decode cX12_done 1 = .ok (.tableswitch 120 0 7 #[47, 61, 75, 86, 97, 108, 112, 116], 47) := by decide +kernel
theorem dX12_done_48 : decode cX12_done 48 = .ok (.iload_n 1, 1) := by decide +kernel
theorem dX12_done_49 : decode cX12_done 49 = .ok (.ifCond .ne 7, 3) := by decide +kernel
theorem dX12_done_52 : decode cX12_done 52 = .ok (.iload_n 2, 1) := by decide +kernel
theorem dX12_done_53 : decode cX12_done 53 = .ok (.ifCond .eq 7, 3) := by decide +kernel
theorem dX12_done_56 : decode cX12_done 56 = .ok (.iconst 1, 1) := by decide +kernel
theorem dX12_done_57 : decode cX12_done 57 = .ok (.goto 4, 3) := by decide +kernel
theorem dX12_done_60 : decode cX12_done 60 = .ok (.iconst 0, 1) := by decide +kernel
theorem dX12_done_61 : decode cX12_done 61 = .ok (.ireturn, 1) := by decide +kernel
theorem dX12_done_62 : decode cX12_done 62 = .ok (.iload_n 1, 1) := by decide +kernel
theorem dX12_done_63 : decode cX12_done 63 = .ok (.ifCond .eq 11, 3) := by decide +kernel
theorem dX12_done_66 : decode cX12_done 66 = .ok (.iload_n 2, 1) := by decide +kernel
theorem dX12_done_67 : decode cX12_done 67 = .ok (.ifCond .eq 7, 3) := by decide +kernel
theorem dX12_done_70 : decode cX12_done 70 = .ok (.iconst 1, 1) := by decide +kernel
theorem dX12_done_71 : decode cX12_done 71 = .ok (.goto 4, 3) := by decide +kernel
theorem dX12_done_74 : decode cX12_done 74 = .ok (.iconst 0, 1) := by decide +kernel
theorem dX12_done_75 : decode cX12_done 75 = .ok (.ireturn, 1) := by decide +kernel
theorem dX12_done_76 : decode cX12_done 76 = .ok (.iload_n 1, 1) := by decide +kernel
theorem dX12_done_77 : decode cX12_done 77 = .ok (.iload_n 2, 1) := by decide +kernel
theorem dX12_done_78 : decode cX12_done 78 = .ok (.if_icmp .ge 7, 3) := by decide +kernel
theorem dX12_done_81 : decode cX12_done 81 = .ok (.iconst 1, 1) := by decide +kernel
theorem dX12_done_82 : decode cX12_done 82 = .ok (.goto 4, 3) := by decide +kernel
theorem dX12_done_85 : decode cX12_done 85 = .ok (.iconst 0, 1) := by decide +kernel
theorem dX12_done_86 : decode cX12_done 86 = .ok (.ireturn, 1) := by decide +kernel
theorem dX12_done_87 : decode cX12_done 87 = .ok (.iload_n 1, 1) := by decide +kernel
theorem dX12_done_88 : decode cX12_done 88 = .ok (.iload_n 2, 1) := by decide +kernel
theorem dX12_done_89 : decode cX12_done 89 = .ok (.if_icmp .ne 7, 3) := by decide +kernel
theorem dX12_done_92 : decode cX12_done 92 = .ok (.iconst 1, 1) := by decide +kernel
theorem dX12_done_93 : decode cX12_done 93 = .ok (.goto 4, 3) := by decide +kernel
theorem dX12_done_96 : decode cX12_done 96 = .ok (.iconst 0, 1) := by decide +kernel
theorem dX12_done_97 : decode cX12_done 97 = .ok (.ireturn, 1) := by decide +kernel
theorem dX12_done_98 : decode cX12_done 98 = .ok (.iload_n 1, 1) := by decide +kernel
theorem dX12_done_99 : decode cX12_done 99 = .ok (.iload_n 2, 1) := by decide +kernel
theorem dX12_done_100 : decode cX12_done 100 = .ok (.if_icmp .le 7, 3) := by decide +kernel
theorem dX12_done_103 : decode cX12_done 103 = .ok (.iconst 1, 1) := by decide +kernel
theorem dX12_done_104 : decode cX12_done 104 = .ok (.goto 4, 3) := by decide +kernel
theorem dX12_done_107 : decode cX12_done 107 = .ok (.iconst 0, 1) := by decide +kernel
theorem dX12_done_108 : decode cX12_done 108 = .ok (.ireturn, 1) := by decide +kernel
theorem dX12_done_109 : decode cX12_done 109 = .ok (.iload_n 1, 1) := by decide +kernel
theorem dX12_done_110 : decode cX12_done 110 = .ok (.iload_n 2, 1) := by decide +kernel
theorem dX12_done_111 : decode cX12_done 111 = .ok (.iadd, 1) := by decide +kernel
theorem dX12_done_112 : decode cX12_done 112 = .ok (.ireturn, 1) := by decide +kernel
theorem dX12_done_113 : decode cX12_done 113 = .ok (.iload_n 1, 1) := by decide +kernel
theorem dX12_done_114 : decode cX12_done 114 = .ok (.iload_n 2, 1) := by decide +kernel
theorem dX12_done_115 : decode cX12_done 115 = .ok (.isub, 1) := by decide +kernel
theorem dX12_done_116 : decode cX12_done 116 = .ok (.ireturn, 1) := by decide +kernel
theorem dX12_done_117 : decode cX12_done 117 = .ok (.iload_n 1, 1) := by decide +kernel
theorem dX12_done_118 : decode cX12_done 118 = .ok (.iload_n 2, 1) := by decide +kernel
theorem dX12_done_119 : decode cX12_done 119 = .ok (.imul, 1) := by decide +kernel
theorem dX12_done_120 : decode cX12_done 120 = .ok (.ireturn, 1) := by decide +kernel
theorem dX12_done_121 : decode cX12_done 121 = .ok (.iload_n 2, 1) := by decide +kernel
theorem dX12_done_122 : decode cX12_done 122 = .ok (.ifCond .ne 7, 3) := by decide +kernel
theorem dX12_done_125 : decode cX12_done 125 = .ok (.iconst 0, 1) := by decide +kernel
theorem dX12_done_126 : decode cX12_done 126 = .ok (.goto 6, 3) := by decide +kernel
theorem dX12_done_129 : decode cX12_done 129 = .ok (.iload_n 1, 1) := by decide +kernel
theorem dX12_done_130 : decode cX12_done 130 = .ok (.iload_n 2, 1) := by decide +kernel
theorem dX12_done_131 : decode cX12_done 131 = .ok (.idiv, 1) := by decide +kernel
theorem dX12_done_132 : decode cX12_done 132 = .ok (.ireturn, 1) := by decide +kernel
theorem dX12_either_0 : decode cX12_either 0 = .ok (.aload_n 0, 1) := by decide +kernel
theorem dX12_either_1 : decode cX12_either 1 = .ok (.invokevirtual 206, 3) := by decide +kernel
theorem dX12_either_4 : decode cX12_either 4 = .ok (.aload_n 0, 1) := by decide +kernel
theorem dX12_either_5 : decode cX12_either 5 = .ok (.iconst 0, 1) := by decide +kernel
theorem dX12_either_6 : decode cX12_either 6 = .ok (.iconst 0, 1) := by decide +kernel
theorem dX12_either_7 : decode cX12_either 7 = .ok (.invokevirtual 192, 3) := by decide +kernel
theorem dX12_either_10 : decode cX12_either 10 = .ok (.ifCond .lt 20, 3) := by decide +kernel
theorem dX12_either_13 : decode cX12_either 13 = .ok (.aload_n 0, 1) := by decide +kernel
theorem dX12_either_14 : decode cX12_either 14 = .ok (.invokevirtual 144, 3) := by decide +kernel
theorem dX12_either_17 : decode cX12_either 17 = .ok (.aload_n 0, 1) := by decide +kernel
theorem dX12_either_18 : decode cX12_either 18 = .ok (.invokevirtual 206, 3) := by decide +kernel
theorem dX12_either_21 : decode cX12_either 21 = .ok (.aload_n 0, 1) := by decide +kernel
theorem dX12_either_22 : decode cX12_either 22 = .ok (.ldc 195, 2) := by decide +kernel
theorem dX12_either_24 : decode cX12_either 24 = .ok (.invokevirtual 168, 3) := by decide +kernel
theorem dX12_either_27 : decode cX12_either 27 = .ok (.goto (-23), 3) := by decide +kernel
theorem dX12_either_30 : decode cX12_either 30 = .ok (.return_, 1) := by decide +kernel
theorem dX12_end_0 : decode cX12_end 0 = .ok (.aload_n 0, 1) := by decide +kernel
theorem dX12_end_1 : decode cX12_end 1 = .ok (.getfield 9, 3) := by decide +kernel
theorem dX12_end_4 : decode cX12_end 4 = .ok (.iconst 0, 1) := by decide +kernel
theorem dX12_end_5 : decode cX12_end 5 = .ok (.iaload, 1) := by decide +kernel
theorem dX12_end_6 : decode cX12_end 6 = .ok (.bipush 99, 2) := by decide +kernel
theorem dX12_end_8 : decode cX12_end 8 = .ok (.if_icmp .ne 6, 3) := by decide +kernel
theorem dX12_end_11 : decode cX12_end 11 = .ok (.ldc 80, 2) := by decide +kernel
theorem dX12_end_13 : decode cX12_end 13 = .ok (.ireturn, 1) := by decide +kernel
theorem dX12_end_14 : decode cX12_end 14 = .ok (.iconst 0, 1) := by decide +kernel
theorem dX12_end_15 : decode cX12_end 15 = .ok (.istore_n 1, 1) := by decide +kernel
theorem dX12_end_16 : decode cX12_end 16 = .ok (.iload_n 1, 1) := by decide +kernel
theorem dX12_end_17 : decode cX12_end 17 = .ok (.aload_n 0, 1) := by decide +kernel
theorem dX12_end_18 : decode cX12_end 18 = .ok (.getfield 9, 3) := by decide +kernel
theorem dX12_end_21 : decode cX12_end 21 = .ok (.bipush 7, 2) := by decide +kernel
theorem dX12_end_23 : decode cX12_end 23 = .ok (.iaload, 1) := by decide +kernel
theorem dX12_end_24 : decode cX12_end 24 = .ok (.if_icmp .ge 53, 3) := by decide +kernel
theorem dX12_end_27 : decode cX12_end 27 = .ok (.aload_n 0, 1) := by decide +kernel
theorem dX12_end_28 : decode cX12_end 28 = .ok (.getfield 9, 3) := by decide +kernel
theorem dX12_end_31 : decode cX12_end 31 = .ok (.iload_n 1, 1) := by decide +kernel
theorem dX12_end_32 : decode cX12_end 32 = .ok (.iconst 2, 1) := by decide +kernel
theorem dX12_end_33 : decode cX12_end 33 = .ok (.invokestatic 261, 3) := by decide +kernel
theorem dX12_end_36 : decode cX12_end 36 = .ok (.iaload, 1) := by decide +kernel
theorem dX12_end_37 : decode cX12_end 37 = .ok (.aload_n 0, 1) := by decide +kernel
theorem dX12_end_38 : decode cX12_end 38 = .ok (.getfield 9, 3) := by decide +kernel
theorem dX12_end_41 : decode cX12_end 41 = .ok (.aload_n 0, 1) := by decide +kernel
theorem dX12_end_42 : decode cX12_end 42 = .ok (.getfield 9, 3) := by decide +kernel
theorem dX12_end_45 : decode cX12_end 45 = .ok (.iload_n 1, 1) := by decide +kernel
theorem dX12_end_46 : decode cX12_end 46 = .ok (.iconst 0, 1) := by decide +kernel
theorem dX12_end_47 : decode cX12_end 47 = .ok (.invokestatic 261, 3) := by decide +kernel
theorem dX12_end_50 : decode cX12_end 50 = .ok (.iaload, 1) := by decide +kernel
theorem dX12_end_51 : decode cX12_end 51 = .ok (.iconst 4, 1) := by decide +kernel
theorem dX12_end_52 : decode cX12_end 52 = .ok (.invokestatic 59, 3) := by decide +kernel
theorem dX12_end_55 : decode cX12_end 55 = .ok (.iaload, 1) := by decide +kernel
theorem dX12_end_56 : decode cX12_end 56 = .ok (.iadd, 1) := by decide +kernel
theorem dX12_end_57 : decode cX12_end 57 = .ok (.aload_n 0, 1) := by decide +kernel
theorem dX12_end_58 : decode cX12_end 58 = .ok (.getfield 9, 3) := by decide +kernel
theorem dX12_end_61 : decode cX12_end 61 = .ok (.iconst 0, 1) := by decide +kernel
theorem dX12_end_62 : decode cX12_end 62 = .ok (.iaload, 1) := by decide +kernel
theorem dX12_end_63 : decode cX12_end 63 = .ok (.if_icmp .gt 8, 3) := by decide +kernel
theorem dX12_end_66 : decode cX12_end 66 = .ok (.aload_n 0, 1) := by decide +kernel
theorem dX12_end_67 : decode cX12_end 67 = .ok (.iload_n 1, 1) := by decide +kernel
theorem dX12_end_68 : decode cX12_end 68 = .ok (.invokevirtual 304, 3) := by decide +kernel
theorem dX12_end_71 : decode cX12_end 71 = .ok (.iinc 1 1, 3) := by decide +kernel
theorem dX12_end_74 : decode cX12_end 74 = .ok (.goto (-58), 3) := by decide +kernel
theorem dX12_end_77 : decode cX12_end 77 = .ok (.aload_n 0, 1) := by decide +kernel
theorem dX12_end_78 : decode cX12_end 78 = .ok (.getfield 9, 3) := by decide +kernel
theorem dX12_end_81 : decode cX12_end 81 = .ok (.iconst 0, 1) := by decide +kernel
theorem dX12_end_82 : decode cX12_end 82 = .ok (.dup2, 1) := by decide +kernel
theorem dX12_end_83 : decode cX12_end 83 = .ok (.iaload, 1) := by decide +kernel
theorem dX12_end_84 : decode cX12_end 84 = .ok (.iconst 1, 1) := by decide +kernel
theorem dX12_end_85 : decode cX12_end 85 = .ok (.iadd, 1) := by decide +kernel
theorem dX12_end_86 : decode cX12_end 86 = .ok (.iastore, 1) := by decide +kernel
theorem dX12_end_87 : decode cX12_end 87 = .ok (.aload_n 0, 1) := by decide +kernel
theorem dX12_end_88 : decode cX12_end 88 = .ok (.getfield 9, 3) := by decide +kernel
theorem dX12_end_91 : decode cX12_end 91 = .ok (.iconst 3, 1) := by decide +kernel
theorem dX12_end_92 : decode cX12_end 92 = .ok (.iconst 0, 1) := by decide +kernel
theorem dX12_end_93 : decode cX12_end 93 = .ok (.iastore, 1) := by decide +kernel
theorem dX12_end_94 : decode cX12_end 94 = .ok (.aload_n 0, 1) := by decide +kernel
theorem dX12_end_95 : decode cX12_end 95 = .ok (.getfield 9, 3) := by decide +kernel
theorem dX12_end_98 : decode cX12_end 98 = .ok (.bipush 8, 2) := by decide +kernel
theorem dX12_end_100 : decode cX12_end 100 = .ok (.iconst 0, 1) := by decide +kernel
theorem dX12_end_101 : decode cX12_end 101 = .ok (.iastore, 1) := by decide +kernel
theorem dX12_end_102 : decode cX12_end 102 = .ok (.iconst 0, 1) := by decide +kernel
theorem dX12_end_103 : decode cX12_end 103 = .ok (.istore_n 1, 1) := by decide +kernel
theorem dX12_end_104 : decode cX12_end 104 = .ok (.iload_n 1, 1) := by decide +kernel
theorem dX12_end_105 : decode cX12_end 105 = .ok (.aload_n 0, 1) := by decide +kernel
theorem dX12_end_106 : decode cX12_end 106 = .ok (.getfield 9, 3) := by decide +kernel
theorem dX12_end_109 : decode cX12_end 109 = .ok (.bipush 6, 2) := by decide +kernel
theorem dX12_end_111 : decode cX12_end 111 = .ok (.iaload, 1) := by decide +kernel
theorem dX12_end_112 : decode cX12_end 112 = .ok (.if_icmp .ge 20, 3) := by decide +kernel
theorem dX12_end_115 : decode cX12_end 115 = .ok (.aload_n 0, 1) := by decide +kernel
theorem dX12_end_116 : decode cX12_end 116 = .ok (.getfield 9, 3) := by decide +kernel
theorem dX12_end_119 : decode cX12_end 119 = .ok (.iload_n 1, 1) := by decide +kernel
theorem dX12_end_120 : decode cX12_end 120 = .ok (.iconst 4, 1) := by decide +kernel
theorem dX12_end_121 : decode cX12_end 121 = .ok (.invokestatic 99, 3) := by decide +kernel
theorem dX12_end_124 : decode cX12_end 124 = .ok (.iconst 0, 1) := by decide +kernel
theorem dX12_end_125 : decode cX12_end 125 = .ok (.iastore, 1) := by decide +kernel
theorem dX12_end_126 : decode cX12_end 126 = .ok (.iinc 1 1, 3) := by decide +kernel
theorem dX12_end_129 : decode cX12_end 129 = .ok (.goto (-25), 3) := by decide +kernel
theorem dX12_end_132 : decode cX12_end 132 = .ok (.aload_n 0, 1) := by decide +kernel
theorem dX12_end_133 : decode cX12_end 133 = .ok (.getfield 9, 3) := by decide +kernel
theorem dX12_end_136 : decode cX12_end 136 = .ok (.iconst 0, 1) := by decide +kernel
theorem dX12_end_137 : decode cX12_end 137 = .ok (.iaload, 1) := by decide +kernel
theorem dX12_end_138 : decode cX12_end 138 = .ok (.ireturn, 1) := by decide +kernel
theorem dX12_family_0 : decode cX12_family 0 = .ok (.iload_n 1, 1) := by decide +kernel
theorem dX12_family_1 : decode cX12_family 1 = .ok (.iconst 0, 1) := by decide +kernel
theorem dX12_family_2 : decode cX12_family 2 = .ok (.sipush 255, 3) := by decide +kernel
theorem dX12_family_5 : decode cX12_family 5 = .ok (.invokestatic 52, 3) := by decide +kernel
theorem dX12_family_8 : decode cX12_family 8 = .ok (.ifCond .eq 27, 3) := by decide +kernel
theorem dX12_family_11 : decode cX12_family 11 = .ok (.iload_n 2, 1) := by decide +kernel
theorem dX12_family_12 : decode cX12_family 12 = .ok (.iconst 0, 1) := by decide +kernel
theorem dX12_family_13 : decode cX12_family 13 = .ok (.sipush 19999, 3) := by decide +kernel
theorem dX12_family_16 : decode cX12_family 16 = .ok (.invokestatic 52, 3) := by decide +kernel
theorem dX12_family_19 : decode cX12_family 19 = .ok (.ifCond .eq 16, 3) := by decide +kernel
theorem dX12_family_22 : decode cX12_family 22 = .ok (.iload_n 2, 1) := by decide +kernel
theorem dX12_family_23 : decode cX12_family 23 = .ok (.bipush 10, 2) := by decide +kernel
theorem dX12_family_25 : decode cX12_family 25 = .ok (.irem, 1) := by decide +kernel
theorem dX12_family_26 : decode cX12_family 26 = .ok (.iconst 1, 1) := by decide +kernel
theorem dX12_family_27 : decode cX12_family 27 = .ok (.bipush 6, 2) := by decide +kernel
theorem dX12_family_29 : decode cX12_family 29 = .ok (.invokestatic 52, 3) := by decide +kernel
theorem dX12_family_32 : decode cX12_family 32 = .ok (.ifCond .ne 6, 3) := by decide +kernel
theorem dX12_family_35 : decode cX12_family 35 = .ok (.ldc 57, 2) := by decide +kernel
theorem dX12_family_37 : decode cX12_family 37 = .ok (.ireturn, 1) := by decide +kernel
theorem dX12_family_38 : decode cX12_family 38 = .ok (.aload_n 0, 1) := by decide +kernel
theorem dX12_family_39 : decode cX12_family 39 = .ok (.getfield 9, 3) := by decide +kernel
theorem dX12_family_42 : decode cX12_family 42 = .ok (.bipush 6, 2) := by decide +kernel
theorem dX12_family_44 : decode cX12_family 44 = .ok (.iaload, 1) := by decide +kernel
theorem dX12_family_45 : decode cX12_family 45 = .ok (.istore_n 3, 1) := by decide +kernel
theorem dX12_family_46 : decode cX12_family 46 = .ok (.iload_n 3, 1) := by decide +kernel
theorem dX12_family_47 : decode cX12_family 47 = .ok (.bipush 12, 2) := by decide +kernel
theorem dX12_family_49 : decode cX12_family 49 = .ok (.if_icmp .ne 6, 3) := by decide +kernel
theorem dX12_family_52 : decode cX12_family 52 = .ok (.ldc 58, 2) := by decide +kernel
theorem dX12_family_54 : decode cX12_family 54 = .ok (.ireturn, 1) := by decide +kernel
theorem dX12_family_55 : decode cX12_family 55 = .ok (.aload_n 0, 1) := by decide +kernel
theorem dX12_family_56 : decode cX12_family 56 = .ok (.getfield 9, 3) := by decide +kernel
theorem dX12_family_59 : decode cX12_family 59 = .ok (.iload_n 3, 1) := by decide +kernel
theorem dX12_family_60 : decode cX12_family 60 = .ok (.iconst 0, 1) := by decide +kernel
theorem dX12_family_61 : decode cX12_family 61 = .ok (.invokestatic 99, 3) := by decide +kernel
theorem dX12_family_64 : decode cX12_family 64 = .ok (.iload_n 1, 1) := by decide +kernel
theorem dX12_family_65 : decode cX12_family 65 = .ok (.iastore, 1) := by decide +kernel
theorem dX12_family_66 : decode cX12_family 66 = .ok (.aload_n 0, 1) := by decide +kernel
theorem dX12_family_67 : decode cX12_family 67 = .ok (.getfield 9, 3) := by decide +kernel
theorem dX12_family_70 : decode cX12_family 70 = .ok (.iload_n 3, 1) := by decide +kernel
theorem dX12_family_71 : decode cX12_family 71 = .ok (.iconst 1, 1) := by decide +kernel
theorem dX12_family_72 : decode cX12_family 72 = .ok (.invokestatic 99, 3) := by decide +kernel
theorem dX12_family_75 : decode cX12_family 75 = .ok (.iload_n 2, 1) := by decide +kernel
theorem dX12_family_76 : decode cX12_family 76 = .ok (.bipush 10, 2) := by decide +kernel
theorem dX12_family_78 : decode cX12_family 78 = .ok (.irem, 1) := by decide +kernel
theorem dX12_family_79 : decode cX12_family 79 = .ok (.iastore, 1) := by decide +kernel
theorem dX12_family_80 : decode cX12_family 80 = .ok (.aload_n 0, 1) := by decide +kernel
theorem dX12_family_81 : decode cX12_family 81 = .ok (.getfield 9, 3) := by decide +kernel
theorem dX12_family_84 : decode cX12_family 84 = .ok (.iload_n 3, 1) := by decide +kernel
theorem dX12_family_85 : decode cX12_family 85 = .ok (.iconst 2, 1) := by decide +kernel
theorem dX12_family_86 : decode cX12_family 86 = .ok (.invokestatic 99, 3) := by decide +kernel
theorem dX12_family_89 : decode cX12_family 89 = .ok (.iload_n 2, 1) := by decide +kernel
theorem dX12_family_90 : decode cX12_family 90 = .ok (.sipush 10000, 3) := by decide +kernel
theorem dX12_family_93 : decode cX12_family 93 = .ok (.idiv, 1) := by decide +kernel
theorem dX12_family_94 : decode cX12_family 94 = .ok (.iastore, 1) := by decide +kernel
theorem dX12_family_95 : decode cX12_family 95 = .ok (.aload_n 0, 1) := by decide +kernel
theorem dX12_family_96 : decode cX12_family 96 = .ok (.getfield 9, 3) := by decide +kernel
theorem dX12_family_99 : decode cX12_family 99 = .ok (.iload_n 3, 1) := by decide +kernel
theorem dX12_family_100 : decode cX12_family 100 = .ok (.iconst 3, 1) := by decide +kernel
theorem dX12_family_101 : decode cX12_family 101 = .ok (.invokestatic 99, 3) := by decide +kernel
theorem dX12_family_104 : decode cX12_family 104 = .ok (.iload_n 2, 1) := by decide +kernel
theorem dX12_family_105 : decode cX12_family 105 = .ok (.bipush 10, 2) := by decide +kernel
theorem dX12_family_107 : decode cX12_family 107 = .ok (.idiv, 1) := by decide +kernel
theorem dX12_family_108 : decode cX12_family 108 = .ok (.sipush 1000, 3) := by decide +kernel
theorem dX12_family_111 : decode cX12_family 111 = .ok (.irem, 1) := by decide +kernel
theorem dX12_family_112 : decode cX12_family 112 = .ok (.iastore, 1) := by decide +kernel
theorem dX12_family_113 : decode cX12_family 113 = .ok (.aload_n 0, 1) := by decide +kernel
theorem dX12_family_114 : decode cX12_family 114 = .ok (.getfield 9, 3) := by decide +kernel
theorem dX12_family_117 : decode cX12_family 117 = .ok (.iload_n 3, 1) := by decide +kernel
theorem dX12_family_118 : decode cX12_family 118 = .ok (.iconst 4, 1) := by decide +kernel
theorem dX12_family_119 : decode cX12_family 119 = .ok (.invokestatic 99, 3) := by decide +kernel
theorem dX12_family_122 : decode cX12_family 122 = .ok (.iconst 0, 1) := by decide +kernel
theorem dX12_family_123 : decode cX12_family 123 = .ok (.iastore, 1) := by decide +kernel
theorem dX12_family_124 : decode cX12_family 124 = .ok (.iconst 0, 1) := by decide +kernel
theorem dX12_family_125 : decode cX12_family 125 = .ok (.istore 4, 2) := by decide +kernel
theorem dX12_family_127 : decode cX12_family 127 = .ok (.iload 4, 2) := by decide +kernel
theorem dX12_family_129 : decode cX12_family 129 = .ok (.bipush 10, 2) := by decide +kernel
theorem dX12_family_131 : decode cX12_family 131 = .ok (.if_icmp .ge 23, 3) := by decide +kernel
theorem dX12_family_134 : decode cX12_family 134 = .ok (.aload_n 0, 1) := by decide +kernel
theorem dX12_family_135 : decode cX12_family 135 = .ok (.getfield 9, 3) := by decide +kernel
theorem dX12_family_138 : decode cX12_family 138 = .ok (.iload_n 3, 1) := by decide +kernel
theorem dX12_family_139 : decode cX12_family 139 = .ok (.iconst 5, 1) := by decide +kernel
theorem dX12_family_140 : decode cX12_family 140 = .ok (.iload 4, 2) := by decide +kernel
theorem dX12_family_142 : decode cX12_family 142 = .ok (.iadd, 1) := by decide +kernel
theorem dX12_family_143 : decode cX12_family 143 = .ok (.invokestatic 99, 3) := by decide +kernel
theorem dX12_family_146 : decode cX12_family 146 = .ok (.iconst 5, 1) := by decide +kernel
theorem dX12_family_147 : decode cX12_family 147 = .ok (.iastore, 1) := by decide +kernel
theorem dX12_family_148 : decode cX12_family 148 = .ok (.iinc 4 1, 3) := by decide +kernel
theorem dX12_family_151 : decode cX12_family 151 = .ok (.goto (-24), 3) := by decide +kernel
theorem dX12_family_154 : decode cX12_family 154 = .ok (.aload_n 0, 1) := by decide +kernel
theorem dX12_family_155 : decode cX12_family 155 = .ok (.getfield 9, 3) := by decide +kernel
theorem dX12_family_158 : decode cX12_family 158 = .ok (.bipush 6, 2) := by decide +kernel
theorem dX12_family_160 : decode cX12_family 160 = .ok (.dup2, 1) := by decide +kernel
theorem dX12_family_161 : decode cX12_family 161 = .ok (.iaload, 1) := by decide +kernel
theorem dX12_family_162 : decode cX12_family 162 = .ok (.iconst 1, 1) := by decide +kernel
theorem dX12_family_163 : decode cX12_family 163 = .ok (.iadd, 1) := by decide +kernel
theorem dX12_family_164 : decode cX12_family 164 = .ok (.iastore, 1) := by decide +kernel
theorem dX12_family_165 : decode cX12_family 165 = .ok (.iload_n 3, 1) := by decide +kernel
theorem dX12_family_166 : decode cX12_family 166 = .ok (.ireturn, 1) := by decide +kernel
theorem dX12_feed_0 : decode cX12_feed 0 = .ok (.aload_n 0, 1) := by decide +kernel
theorem dX12_feed_1 : decode cX12_feed 1 = .ok (.getfield 121, 3) := by decide +kernel
theorem dX12_feed_4 : decode cX12_feed 4 = .ok (.bipush 12, 2) := by decide +kernel
theorem dX12_feed_6 : decode cX12_feed 6 = .ok (.iadd, 1) := by decide +kernel
theorem dX12_feed_7 : decode cX12_feed 7 = .ok (.bipush 120, 2) := by decide +kernel
theorem dX12_feed_9 : decode cX12_feed 9 = .ok (.if_icmp .le 6, 3) := by decide +kernel
theorem dX12_feed_12 : decode cX12_feed 12 = .ok (.ldc 58, 2) := by decide +kernel
theorem dX12_feed_14 : decode cX12_feed 14 = .ok (.ireturn, 1) := by decide +kernel
theorem dX12_feed_15 : decode cX12_feed 15 = .ok (.iconst 0, 1) := by decide +kernel
theorem dX12_feed_16 : decode cX12_feed 16 = .ok (.istore 4, 2) := by decide +kernel
theorem dX12_feed_18 : decode cX12_feed 18 = .ok (.iload 4, 2) := by decide +kernel
theorem dX12_feed_20 : decode cX12_feed 20 = .ok (.bipush 12, 2) := by decide +kernel
theorem dX12_feed_22 : decode cX12_feed 22 = .ok (.if_icmp .ge 69, 3) := by decide +kernel
theorem dX12_feed_25 : decode cX12_feed 25 = .ok (.iload 4, 2) := by decide +kernel
theorem dX12_feed_27 : decode cX12_feed 27 = .ok (.iconst 4, 1) := by decide +kernel
theorem dX12_feed_28 : decode cX12_feed 28 = .ok (.if_icmp .ge 7, 3) := by decide +kernel
theorem dX12_feed_31 : decode cX12_feed 31 = .ok (.iload_n 1, 1) := by decide +kernel
theorem dX12_feed_32 : decode cX12_feed 32 = .ok (.goto 15, 3) := by decide +kernel
theorem dX12_feed_35 : decode cX12_feed 35 = .ok (.iload 4, 2) := by decide +kernel
theorem dX12_feed_37 : decode cX12_feed 37 = .ok (.bipush 8, 2) := by decide +kernel
theorem dX12_feed_39 : decode cX12_feed 39 = .ok (.if_icmp .ge 7, 3) := by decide +kernel
theorem dX12_feed_42 : decode cX12_feed 42 = .ok (.iload_n 2, 1) := by decide +kernel
theorem dX12_feed_43 : decode cX12_feed 43 = .ok (.goto 4, 3) := by decide +kernel
theorem dX12_feed_46 : decode cX12_feed 46 = .ok (.iload_n 3, 1) := by decide +kernel
theorem dX12_feed_47 : decode cX12_feed 47 = .ok (.istore 5, 2) := by decide +kernel
theorem dX12_feed_49 : decode cX12_feed 49 = .ok (.aload_n 0, 1) := by decide +kernel
theorem dX12_feed_50 : decode cX12_feed 50 = .ok (.getfield 16, 3) := by decide +kernel
theorem dX12_feed_53 : decode cX12_feed 53 = .ok (.aload_n 0, 1) := by decide +kernel
theorem dX12_feed_54 : decode cX12_feed 54 = .ok (.getfield 121, 3) := by decide +kernel
theorem dX12_feed_57 : decode cX12_feed 57 = .ok (.iload 5, 2) := by decide +kernel
theorem dX12_feed_59 : decode cX12_feed 59 = .ok (.bipush 24, 2) := by decide +kernel
theorem dX12_feed_61 : decode cX12_feed 61 = .ok (.bipush 8, 2) := by decide +kernel
theorem dX12_feed_63 : decode cX12_feed 63 = .ok (.iload 4, 2) := by decide +kernel
theorem dX12_feed_65 : decode cX12_feed 65 = .ok (.iconst 4, 1) := by decide +kernel
theorem dX12_feed_66 : decode cX12_feed 66 = .ok (.irem, 1) := by decide +kernel
theorem dX12_feed_67 : decode cX12_feed 67 = .ok (.imul, 1) := by decide +kernel
theorem dX12_feed_68 : decode cX12_feed 68 = .ok (.isub, 1) := by decide +kernel
theorem dX12_feed_69 : decode cX12_feed 69 = .ok (.ishr, 1) := by decide +kernel
theorem dX12_feed_70 : decode cX12_feed 70 = .ok (.sipush 255, 3) := by decide +kernel
theorem dX12_feed_73 : decode cX12_feed 73 = .ok (.iand, 1) := by decide +kernel
theorem dX12_feed_74 : decode cX12_feed 74 = .ok (.iastore, 1) := by decide +kernel
theorem dX12_feed_75 : decode cX12_feed 75 = .ok (.aload_n 0, 1) := by decide +kernel
theorem dX12_feed_76 : decode cX12_feed 76 = .ok (.dup, 1) := by decide +kernel
theorem dX12_feed_77 : decode cX12_feed 77 = .ok (.getfield 121, 3) := by decide +kernel
theorem dX12_feed_80 : decode cX12_feed 80 = .ok (.iconst 1, 1) := by decide +kernel
theorem dX12_feed_81 : decode cX12_feed 81 = .ok (.iadd, 1) := by decide +kernel
theorem dX12_feed_82 : decode cX12_feed 82 = .ok (.putfield 121, 3) := by decide +kernel
theorem dX12_feed_85 : decode cX12_feed 85 = .ok (.iinc 4 1, 3) := by decide +kernel
theorem dX12_feed_88 : decode cX12_feed 88 = .ok (.goto (-70), 3) := by decide +kernel
theorem dX12_feed_91 : decode cX12_feed 91 = .ok (.aload_n 0, 1) := by decide +kernel
theorem dX12_feed_92 : decode cX12_feed 92 = .ok (.getfield 121, 3) := by decide +kernel
theorem dX12_feed_95 : decode cX12_feed 95 = .ok (.ireturn, 1) := by decide +kernel
theorem dX12_findNeeds_0 : decode cX12_findNeeds 0 = .ok (.iconst 0, 1) := by decide +kernel
theorem dX12_findNeeds_1 : decode cX12_findNeeds 1 = .ok (.istore_n 1, 1) := by decide +kernel
theorem dX12_findNeeds_2 : decode cX12_findNeeds 2 = .ok (.iload_n 1, 1) := by decide +kernel
theorem dX12_findNeeds_3 : decode cX12_findNeeds 3 = .ok (.sipush 168, 3) := by decide +kernel
theorem dX12_findNeeds_6 : decode cX12_findNeeds 6 = .ok (.if_icmp .ge 16, 3) := by decide +kernel
theorem dX12_findNeeds_9 : decode cX12_findNeeds 9 = .ok (.aload_n 0, 1) := by decide +kernel
theorem dX12_findNeeds_10 : decode cX12_findNeeds 10 = .ok (.getfield 28, 3) := by decide +kernel
theorem dX12_findNeeds_13 : decode cX12_findNeeds 13 = .ok (.iload_n 1, 1) := by decide +kernel
theorem dX12_findNeeds_14 : decode cX12_findNeeds 14 = .ok (.iconst 0, 1) := by decide +kernel
theorem dX12_findNeeds_15 : decode cX12_findNeeds 15 = .ok (.iastore, 1) := by decide +kernel
theorem dX12_findNeeds_16 : decode cX12_findNeeds 16 = .ok (.iinc 1 1, 3) := by decide +kernel
theorem dX12_findNeeds_19 : decode cX12_findNeeds 19 = .ok (.goto (-17), 3) := by decide +kernel
theorem dX12_findNeeds_22 : decode cX12_findNeeds 22 = .ok (.iconst 0, 1) := by decide +kernel
theorem dX12_findNeeds_23 : decode cX12_findNeeds 23 = .ok (.istore_n 1, 1) := by decide +kernel
theorem dX12_findNeeds_24 : decode cX12_findNeeds 24 = .ok (.iload_n 1, 1) := by decide +kernel
theorem dX12_findNeeds_25 : decode cX12_findNeeds 25 = .ok (.aload_n 0, 1) := by decide +kernel
theorem dX12_findNeeds_26 : decode cX12_findNeeds 26 = .ok (.getfield 9, 3) := by decide +kernel
theorem dX12_findNeeds_29 : decode cX12_findNeeds 29 = .ok (.bipush 6, 2) := by decide +kernel
theorem dX12_findNeeds_31 : decode cX12_findNeeds 31 = .ok (.iaload, 1) := by decide +kernel
theorem dX12_findNeeds_32 : decode cX12_findNeeds 32 = .ok (.if_icmp .ge 112, 3) := by decide +kernel
theorem dX12_findNeeds_35 : decode cX12_findNeeds 35 = .ok (.aload_n 0, 1) := by decide +kernel
theorem dX12_findNeeds_36 : decode cX12_findNeeds 36 = .ok (.iload_n 1, 1) := by decide +kernel
theorem dX12_findNeeds_37 : decode cX12_findNeeds 37 = .ok (.invokevirtual 115, 3) := by decide +kernel
theorem dX12_findNeeds_40 : decode cX12_findNeeds 40 = .ok (.istore_n 2, 1) := by decide +kernel
theorem dX12_findNeeds_41 : decode cX12_findNeeds 41 = .ok (.iconst 0, 1) := by decide +kernel
theorem dX12_findNeeds_42 : decode cX12_findNeeds 42 = .ok (.istore_n 3, 1) := by decide +kernel
theorem dX12_findNeeds_43 : decode cX12_findNeeds 43 = .ok (.iload_n 3, 1) := by decide +kernel
theorem dX12_findNeeds_44 : decode cX12_findNeeds 44 = .ok (.bipush 10, 2) := by decide +kernel
theorem dX12_findNeeds_46 : decode cX12_findNeeds 46 = .ok (.if_icmp .ge 92, 3) := by decide +kernel
theorem dX12_findNeeds_49 : decode cX12_findNeeds 49 = .ok (.iconst 0, 1) := by decide +kernel
theorem dX12_findNeeds_50 : decode cX12_findNeeds 50 = .ok (.istore 4, 2) := by decide +kernel
theorem dX12_findNeeds_52 : decode cX12_findNeeds 52 = .ok (.iload 4, 2) := by decide +kernel
theorem dX12_findNeeds_54 : decode cX12_findNeeds 54 = .ok (.aload_n 0, 1) := by decide +kernel
theorem dX12_findNeeds_55 : decode cX12_findNeeds 55 = .ok (.getfield 9, 3) := by decide +kernel
theorem dX12_findNeeds_58 : decode cX12_findNeeds 58 = .ok (.iload_n 3, 1) := by decide +kernel
theorem dX12_findNeeds_59 : decode cX12_findNeeds 59 = .ok (.iconst 2, 1) := by decide +kernel
theorem dX12_findNeeds_60 : decode cX12_findNeeds 60 = .ok (.invokestatic 67, 3) := by decide +kernel
theorem dX12_findNeeds_63 : decode cX12_findNeeds 63 = .ok (.iaload, 1) := by decide +kernel
theorem dX12_findNeeds_64 : decode cX12_findNeeds 64 = .ok (.if_icmp .ge 68, 3) := by decide +kernel
theorem dX12_findNeeds_67 : decode cX12_findNeeds 67 = .ok (.iload_n 2, 1) := by decide +kernel
theorem dX12_findNeeds_68 : decode cX12_findNeeds 68 = .ok (.iload_n 3, 1) := by decide +kernel
theorem dX12_findNeeds_69 : decode cX12_findNeeds 69 = .ok (.invokestatic 76, 3) := by decide +kernel
theorem dX12_findNeeds_72 : decode cX12_findNeeds 72 = .ok (.ifCond .eq 60, 3) := by decide +kernel
theorem dX12_findNeeds_75 : decode cX12_findNeeds 75 = .ok (.aload_n 0, 1) := by decide +kernel
theorem dX12_findNeeds_76 : decode cX12_findNeeds 76 = .ok (.getfield 28, 3) := by decide +kernel
theorem dX12_findNeeds_79 : decode cX12_findNeeds 79 = .ok (.bipush 14, 2) := by decide +kernel
theorem dX12_findNeeds_81 : decode cX12_findNeeds 81 = .ok (.iload_n 1, 1) := by decide +kernel
theorem dX12_findNeeds_82 : decode cX12_findNeeds 82 = .ok (.imul, 1) := by decide +kernel
theorem dX12_findNeeds_83 : decode cX12_findNeeds 83 = .ok (.aload_n 0, 1) := by decide +kernel
theorem dX12_findNeeds_84 : decode cX12_findNeeds 84 = .ok (.getfield 9, 3) := by decide +kernel
theorem dX12_findNeeds_87 : decode cX12_findNeeds 87 = .ok (.iload_n 3, 1) := by decide +kernel
theorem dX12_findNeeds_88 : decode cX12_findNeeds 88 = .ok (.iconst 3, 1) := by decide +kernel
theorem dX12_findNeeds_89 : decode cX12_findNeeds 89 = .ok (.iload 4, 2) := by decide +kernel
theorem dX12_findNeeds_91 : decode cX12_findNeeds 91 = .ok (.iadd, 1) := by decide +kernel
theorem dX12_findNeeds_92 : decode cX12_findNeeds 92 = .ok (.invokestatic 67, 3) := by decide +kernel
theorem dX12_findNeeds_95 : decode cX12_findNeeds 95 = .ok (.iaload, 1) := by decide +kernel
theorem dX12_findNeeds_96 : decode cX12_findNeeds 96 = .ok (.iadd, 1) := by decide +kernel
theorem dX12_findNeeds_97 : decode cX12_findNeeds 97 = .ok (.dup2, 1) := by decide +kernel
theorem dX12_findNeeds_98 : decode cX12_findNeeds 98 = .ok (.iaload, 1) := by decide +kernel
theorem dX12_findNeeds_99 : decode cX12_findNeeds 99 = .ok (.aload_n 0, 1) := by decide +kernel
theorem dX12_findNeeds_100 : decode cX12_findNeeds 100 = .ok (.getfield 9, 3) := by decide +kernel
theorem dX12_findNeeds_103 : decode cX12_findNeeds 103 = .ok (.iload_n 3, 1) := by decide +kernel
theorem dX12_findNeeds_104 : decode cX12_findNeeds 104 = .ok (.bipush 8, 2) := by decide +kernel
theorem dX12_findNeeds_106 : decode cX12_findNeeds 106 = .ok (.iload 4, 2) := by decide +kernel
theorem dX12_findNeeds_108 : decode cX12_findNeeds 108 = .ok (.iadd, 1) := by decide +kernel
theorem dX12_findNeeds_109 : decode cX12_findNeeds 109 = .ok (.invokestatic 67, 3) := by decide +kernel
theorem dX12_findNeeds_112 : decode cX12_findNeeds 112 = .ok (.iaload, 1) := by decide +kernel
theorem dX12_findNeeds_113 : decode cX12_findNeeds 113 = .ok (.aload_n 0, 1) := by decide +kernel
theorem dX12_findNeeds_114 : decode cX12_findNeeds 114 = .ok (.getfield 9, 3) := by decide +kernel
theorem dX12_findNeeds_117 : decode cX12_findNeeds 117 = .ok (.iload_n 1, 1) := by decide +kernel
theorem dX12_findNeeds_118 : decode cX12_findNeeds 118 = .ok (.iconst 1, 1) := by decide +kernel
theorem dX12_findNeeds_119 : decode cX12_findNeeds 119 = .ok (.invokestatic 99, 3) := by decide +kernel
theorem dX12_findNeeds_122 : decode cX12_findNeeds 122 = .ok (.iaload, 1) := by decide +kernel
theorem dX12_findNeeds_123 : decode cX12_findNeeds 123 = .ok (.imul, 1) := by decide +kernel
theorem dX12_findNeeds_124 : decode cX12_findNeeds 124 = .ok (.iadd, 1) := by decide +kernel
theorem dX12_findNeeds_125 : decode cX12_findNeeds 125 = .ok (.iastore, 1) := by decide +kernel
theorem dX12_findNeeds_126 : decode cX12_findNeeds 126 = .ok (.iinc 4 1, 3) := by decide +kernel
theorem dX12_findNeeds_129 : decode cX12_findNeeds 129 = .ok (.goto (-77), 3) := by decide +kernel
theorem dX12_findNeeds_132 : decode cX12_findNeeds 132 = .ok (.iinc 3 1, 3) := by decide +kernel
theorem dX12_findNeeds_135 : decode cX12_findNeeds 135 = .ok (.goto (-92), 3) := by decide +kernel
theorem dX12_findNeeds_138 : decode cX12_findNeeds 138 = .ok (.iinc 1 1, 3) := by decide +kernel
theorem dX12_findNeeds_141 : decode cX12_findNeeds 141 = .ok (.goto (-117), 3) := by decide +kernel
theorem dX12_findNeeds_144 : decode cX12_findNeeds 144 = .ok (.return_, 1) := by decide +kernel
theorem dX12_findPlan_0 : decode cX12_findPlan 0 = .ok (.aload_n 0, 1) := by decide +kernel
theorem dX12_findPlan_1 : decode cX12_findPlan 1 = .ok (.invokevirtual 264, 3) := by decide +kernel
theorem dX12_findPlan_4 : decode cX12_findPlan 4 = .ok (.iconst 0, 1) := by decide +kernel
theorem dX12_findPlan_5 : decode cX12_findPlan 5 = .ok (.istore_n 2, 1) := by decide +kernel
theorem dX12_findPlan_6 : decode cX12_findPlan 6 = .ok (.iload_n 2, 1) := by decide +kernel
theorem dX12_findPlan_7 : decode cX12_findPlan 7 = .ok (.bipush 12, 2) := by decide +kernel
theorem dX12_findPlan_9 : decode cX12_findPlan 9 = .ok (.if_icmp .ge 16, 3) := by decide +kernel
theorem dX12_findPlan_12 : decode cX12_findPlan 12 = .ok (.aload_n 0, 1) := by decide +kernel
theorem dX12_findPlan_13 : decode cX12_findPlan 13 = .ok (.getfield 43, 3) := by decide +kernel
theorem dX12_findPlan_16 : decode cX12_findPlan 16 = .ok (.iload_n 2, 1) := by decide +kernel
theorem dX12_findPlan_17 : decode cX12_findPlan 17 = .ok (.iconst (-1), 1) := by decide +kernel
theorem dX12_findPlan_18 : decode cX12_findPlan 18 = .ok (.iastore, 1) := by decide +kernel
theorem dX12_findPlan_19 : decode cX12_findPlan 19 = .ok (.iinc 2 1, 3) := by decide +kernel
theorem dX12_findPlan_22 : decode cX12_findPlan 22 = .ok (.goto (-16), 3) := by decide +kernel
theorem dX12_findPlan_25 : decode cX12_findPlan 25 = .ok (.aload_n 0, 1) := by decide +kernel
theorem dX12_findPlan_26 : decode cX12_findPlan 26 = .ok (.iconst (-1), 1) := by decide +kernel
theorem dX12_findPlan_27 : decode cX12_findPlan 27 = .ok (.putfield 273, 3) := by decide +kernel
theorem dX12_findPlan_30 : decode cX12_findPlan 30 = .ok (.aload_n 0, 1) := by decide +kernel
theorem dX12_findPlan_31 : decode cX12_findPlan 31 = .ok (.iconst 0, 1) := by decide +kernel
theorem dX12_findPlan_32 : decode cX12_findPlan 32 = .ok (.putfield 276, 3) := by decide +kernel
theorem dX12_findPlan_35 : decode cX12_findPlan 35 = .ok (.aload_n 0, 1) := by decide +kernel
theorem dX12_findPlan_36 : decode cX12_findPlan 36 = .ok (.iload_n 1, 1) := by decide +kernel
theorem dX12_findPlan_37 : decode cX12_findPlan 37 = .ok (.putfield 253, 3) := by decide +kernel
theorem dX12_findPlan_40 : decode cX12_findPlan 40 = .ok (.aload_n 0, 1) := by decide +kernel
theorem dX12_findPlan_41 : decode cX12_findPlan 41 = .ok (.iconst 0, 1) := by decide +kernel
theorem dX12_findPlan_42 : decode cX12_findPlan 42 = .ok (.putfield 250, 3) := by decide +kernel
theorem dX12_findPlan_45 : decode cX12_findPlan 45 = .ok (.aload_n 0, 1) := by decide +kernel
theorem dX12_findPlan_46 : decode cX12_findPlan 46 = .ok (.iconst 0, 1) := by decide +kernel
theorem dX12_findPlan_47 : decode cX12_findPlan 47 = .ok (.iconst 0, 1) := by decide +kernel
theorem dX12_findPlan_48 : decode cX12_findPlan 48 = .ok (.iconst 0, 1) := by decide +kernel
theorem dX12_findPlan_49 : decode cX12_findPlan 49 = .ok (.invokevirtual 283, 3) := by decide +kernel
theorem dX12_findPlan_52 : decode cX12_findPlan 52 = .ok (.aload_n 0, 1) := by decide +kernel
theorem dX12_findPlan_53 : decode cX12_findPlan 53 = .ok (.getfield 250, 3) := by decide +kernel
theorem dX12_findPlan_56 : decode cX12_findPlan 56 = .ok (.ifCond .eq 9, 3) := by decide +kernel
theorem dX12_findPlan_59 : decode cX12_findPlan 59 = .ok (.ldc_w 260, 3) := by decide +kernel
theorem dX12_findPlan_62 : decode cX12_findPlan 62 = .ok (.goto 16, 3) := by decide +kernel
theorem dX12_findPlan_65 : decode cX12_findPlan 65 = .ok (.aload_n 0, 1) := by decide +kernel
theorem dX12_findPlan_66 : decode cX12_findPlan 66 = .ok (.getfield 273, 3) := by decide +kernel
theorem dX12_findPlan_69 : decode cX12_findPlan 69 = .ok (.ifCond .ge 8, 3) := by decide +kernel
theorem dX12_findPlan_72 : decode cX12_findPlan 72 = .ok (.ldc 80, 2) := by decide +kernel
theorem dX12_findPlan_74 : decode cX12_findPlan 74 = .ok (.goto 4, 3) := by decide +kernel
theorem dX12_findPlan_77 : decode cX12_findPlan 77 = .ok (.iconst 0, 1) := by decide +kernel
theorem dX12_findPlan_78 : decode cX12_findPlan 78 = .ok (.ireturn, 1) := by decide +kernel
theorem dX12_grams_0 : decode cX12_grams 0 = .ok (.iconst 0, 1) := by decide +kernel
theorem dX12_grams_1 : decode cX12_grams 1 = .ok (.istore_n 2, 1) := by decide +kernel
theorem dX12_grams_2 : decode cX12_grams 2 = .ok (.iconst 0, 1) := by decide +kernel
theorem dX12_grams_3 : decode cX12_grams 3 = .ok (.istore_n 3, 1) := by decide +kernel
theorem dX12_grams_4 : decode cX12_grams 4 = .ok (.iload_n 3, 1) := by decide +kernel
theorem dX12_grams_5 : decode cX12_grams 5 = .ok (.aload_n 0, 1) := by decide +kernel
theorem dX12_grams_6 : decode cX12_grams 6 = .ok (.getfield 9, 3) := by decide +kernel
theorem dX12_grams_9 : decode cX12_grams 9 = .ok (.iload_n 1, 1) := by decide +kernel
theorem dX12_grams_10 : decode cX12_grams 10 = .ok (.iconst 2, 1) := by decide +kernel
theorem dX12_grams_11 : decode cX12_grams 11 = .ok (.invokestatic 67, 3) := by decide +kernel
theorem dX12_grams_14 : decode cX12_grams 14 = .ok (.iaload, 1) := by decide +kernel
theorem dX12_grams_15 : decode cX12_grams 15 = .ok (.if_icmp .ge 25, 3) := by decide +kernel
theorem dX12_grams_18 : decode cX12_grams 18 = .ok (.iload_n 2, 1) := by decide +kernel
theorem dX12_grams_19 : decode cX12_grams 19 = .ok (.aload_n 0, 1) := by decide +kernel
theorem dX12_grams_20 : decode cX12_grams 20 = .ok (.getfield 9, 3) := by decide +kernel
theorem dX12_grams_23 : decode cX12_grams 23 = .ok (.iload_n 1, 1) := by decide +kernel
theorem dX12_grams_24 : decode cX12_grams 24 = .ok (.bipush 8, 2) := by decide +kernel
theorem dX12_grams_26 : decode cX12_grams 26 = .ok (.iload_n 3, 1) := by decide +kernel
theorem dX12_grams_27 : decode cX12_grams 27 = .ok (.iadd, 1) := by decide +kernel
theorem dX12_grams_28 : decode cX12_grams 28 = .ok (.invokestatic 67, 3) := by decide +kernel
theorem dX12_grams_31 : decode cX12_grams 31 = .ok (.iaload, 1) := by decide +kernel
theorem dX12_grams_32 : decode cX12_grams 32 = .ok (.iadd, 1) := by decide +kernel
theorem dX12_grams_33 : decode cX12_grams 33 = .ok (.istore_n 2, 1) := by decide +kernel
theorem dX12_grams_34 : decode cX12_grams 34 = .ok (.iinc 3 1, 3) := by decide +kernel
theorem dX12_grams_37 : decode cX12_grams 37 = .ok (.goto (-33), 3) := by decide +kernel
theorem dX12_grams_40 : decode cX12_grams 40 = .ok (.iload_n 2, 1) := by decide +kernel
theorem dX12_grams_41 : decode cX12_grams 41 = .ok (.ireturn, 1) := by decide +kernel
theorem dX12_guess_0 : decode cX12_guess 0 = .ok (.aload_n 0, 1) := by decide +kernel
theorem dX12_guess_1 : decode cX12_guess 1 = .ok (.getfield 9, 3) := by decide +kernel
theorem dX12_guess_4 : decode cX12_guess 4 = .ok (.iconst 0, 1) := by decide +kernel
theorem dX12_guess_5 : decode cX12_guess 5 = .ok (.iaload, 1) := by decide +kernel
theorem dX12_guess_6 : decode cX12_guess 6 = .ok (.ifCond .ne 7, 3) := by decide +kernel
theorem dX12_guess_9 : decode cX12_guess 9 = .ok (.iconst 0, 1) := by decide +kernel
theorem dX12_guess_10 : decode cX12_guess 10 = .ok (.goto 25, 3) := by decide +kernel
theorem dX12_guess_13 : decode cX12_guess 13 = .ok (.aload_n 0, 1) := by decide +kernel
theorem dX12_guess_14 : decode cX12_guess 14 = .ok (.getfield 9, 3) := by decide +kernel
theorem dX12_guess_17 : decode cX12_guess 17 = .ok (.sipush 828, 3) := by decide +kernel
theorem dX12_guess_20 : decode cX12_guess 20 = .ok (.bipush 12, 2) := by decide +kernel
theorem dX12_guess_22 : decode cX12_guess 22 = .ok (.aload_n 0, 1) := by decide +kernel
theorem dX12_guess_23 : decode cX12_guess 23 = .ok (.getfield 9, 3) := by decide +kernel
theorem dX12_guess_26 : decode cX12_guess 26 = .ok (.iconst 0, 1) := by decide +kernel
theorem dX12_guess_27 : decode cX12_guess 27 = .ok (.iaload, 1) := by decide +kernel
theorem dX12_guess_28 : decode cX12_guess 28 = .ok (.iconst 1, 1) := by decide +kernel
theorem dX12_guess_29 : decode cX12_guess 29 = .ok (.isub, 1) := by decide +kernel
theorem dX12_guess_30 : decode cX12_guess 30 = .ok (.imul, 1) := by decide +kernel
theorem dX12_guess_31 : decode cX12_guess 31 = .ok (.iadd, 1) := by decide +kernel
theorem dX12_guess_32 : decode cX12_guess 32 = .ok (.iload_n 1, 1) := by decide +kernel
theorem dX12_guess_33 : decode cX12_guess 33 = .ok (.iadd, 1) := by decide +kernel
theorem dX12_guess_34 : decode cX12_guess 34 = .ok (.iaload, 1) := by decide +kernel
theorem dX12_guess_35 : decode cX12_guess 35 = .ok (.istore_n 3, 1) := by decide +kernel
theorem dX12_guess_36 : decode cX12_guess 36 = .ok (.iconst (-1), 1) := by decide +kernel
theorem dX12_guess_37 : decode cX12_guess 37 = .ok (.istore 4, 2) := by decide +kernel
theorem dX12_guess_39 : decode cX12_guess 39 = .ok (.iconst (-1), 1) := by decide +kernel
theorem dX12_guess_40 : decode cX12_guess 40 = .ok (.istore 5, 2) := by decide +kernel
theorem dX12_guess_42 : decode cX12_guess 42 = .ok (.iconst 0, 1) := by decide +kernel
theorem dX12_guess_43 : decode cX12_guess 43 = .ok (.istore 6, 2) := by decide +kernel
theorem dX12_guess_45 : decode cX12_guess 45 = .ok (.iload 6, 2) := by decide +kernel
theorem dX12_guess_47 : decode cX12_guess 47 = .ok (.bipush 10, 2) := by decide +kernel
theorem dX12_guess_49 : decode cX12_guess 49 = .ok (.if_icmp .ge 89, 3) := by decide +kernel
theorem dX12_guess_52 : decode cX12_guess 52 = .ok (.aload_n 0, 1) := by decide +kernel
theorem dX12_guess_53 : decode cX12_guess 53 = .ok (.getfield 9, 3) := by decide +kernel
theorem dX12_guess_56 : decode cX12_guess 56 = .ok (.bipush 8, 2) := by decide +kernel
theorem dX12_guess_58 : decode cX12_guess 58 = .ok (.iaload, 1) := by decide +kernel
theorem dX12_guess_59 : decode cX12_guess 59 = .ok (.iload 6, 2) := by decide +kernel
theorem dX12_guess_61 : decode cX12_guess 61 = .ok (.invokestatic 76, 3) := by decide +kernel
theorem dX12_guess_64 : decode cX12_guess 64 = .ok (.ifCond .eq 68, 3) := by decide +kernel
theorem dX12_guess_67 : decode cX12_guess 67 = .ok (.iload_n 2, 1) := by decide +kernel
theorem dX12_guess_68 : decode cX12_guess 68 = .ok (.iload 6, 2) := by decide +kernel
theorem dX12_guess_70 : decode cX12_guess 70 = .ok (.invokestatic 76, 3) := by decide +kernel
theorem dX12_guess_73 : decode cX12_guess 73 = .ok (.ifCond .ne 59, 3) := by decide +kernel
theorem dX12_guess_76 : decode cX12_guess 76 = .ok (.aload_n 0, 1) := by decide +kernel
theorem dX12_guess_77 : decode cX12_guess 77 = .ok (.iload_n 1, 1) := by decide +kernel
theorem dX12_guess_78 : decode cX12_guess 78 = .ok (.iload 6, 2) := by decide +kernel
theorem dX12_guess_80 : decode cX12_guess 80 = .ok (.invokevirtual 106, 3) := by decide +kernel
theorem dX12_guess_83 : decode cX12_guess 83 = .ok (.ifCond .eq 49, 3) := by decide +kernel
theorem dX12_guess_86 : decode cX12_guess 86 = .ok (.aload_n 0, 1) := by decide +kernel
theorem dX12_guess_87 : decode cX12_guess 87 = .ok (.getfield 9, 3) := by decide +kernel
theorem dX12_guess_90 : decode cX12_guess 90 = .ok (.iload_n 1, 1) := by decide +kernel
theorem dX12_guess_91 : decode cX12_guess 91 = .ok (.iconst 5, 1) := by decide +kernel
theorem dX12_guess_92 : decode cX12_guess 92 = .ok (.iload 6, 2) := by decide +kernel
theorem dX12_guess_94 : decode cX12_guess 94 = .ok (.iadd, 1) := by decide +kernel
theorem dX12_guess_95 : decode cX12_guess 95 = .ok (.invokestatic 99, 3) := by decide +kernel
theorem dX12_guess_98 : decode cX12_guess 98 = .ok (.iaload, 1) := by decide +kernel
theorem dX12_guess_99 : decode cX12_guess 99 = .ok (.iload_n 3, 1) := by decide +kernel
theorem dX12_guess_100 : decode cX12_guess 100 = .ok (.iload 6, 2) := by decide +kernel
theorem dX12_guess_102 : decode cX12_guess 102 = .ok (.invokestatic 76, 3) := by decide +kernel
theorem dX12_guess_105 : decode cX12_guess 105 = .ok (.ifCond .eq 7, 3) := by decide +kernel
theorem dX12_guess_108 : decode cX12_guess 108 = .ok (.iconst 0, 1) := by decide +kernel
theorem dX12_guess_109 : decode cX12_guess 109 = .ok (.goto 5, 3) := by decide +kernel
theorem dX12_guess_112 : decode cX12_guess 112 = .ok (.bipush 10, 2) := by decide +kernel
theorem dX12_guess_114 : decode cX12_guess 114 = .ok (.iadd, 1) := by decide +kernel
theorem dX12_guess_115 : decode cX12_guess 115 = .ok (.istore 7, 2) := by decide +kernel
theorem dX12_guess_117 : decode cX12_guess 117 = .ok (.iload 7, 2) := by decide +kernel
theorem dX12_guess_119 : decode cX12_guess 119 = .ok (.iload 5, 2) := by decide +kernel
theorem dX12_guess_121 : decode cX12_guess 121 = .ok (.if_icmp .le 11, 3) := by decide +kernel
theorem dX12_guess_124 : decode cX12_guess 124 = .ok (.iload 7, 2) := by decide +kernel
theorem dX12_guess_126 : decode cX12_guess 126 = .ok (.istore 5, 2) := by decide +kernel
theorem dX12_guess_128 : decode cX12_guess 128 = .ok (.iload 6, 2) := by decide +kernel
theorem dX12_guess_130 : decode cX12_guess 130 = .ok (.istore 4, 2) := by decide +kernel
theorem dX12_guess_132 : decode cX12_guess 132 = .ok (.iinc 6 1, 3) := by decide +kernel
theorem dX12_guess_135 : decode cX12_guess 135 = .ok (.goto (-90), 3) := by decide +kernel
theorem dX12_guess_138 : decode cX12_guess 138 = .ok (.iload 4, 2) := by decide +kernel
theorem dX12_guess_140 : decode cX12_guess 140 = .ok (.ireturn, 1) := by decide +kernel
theorem dX12_has_0 : decode cX12_has 0 = .ok (.iload_n 0, 1) := by decide +kernel
theorem dX12_has_1 : decode cX12_has 1 = .ok (.iload_n 1, 1) := by decide +kernel
theorem dX12_has_2 : decode cX12_has 2 = .ok (.ishr, 1) := by decide +kernel
theorem dX12_has_3 : decode cX12_has 3 = .ok (.iconst 1, 1) := by decide +kernel
theorem dX12_has_4 : decode cX12_has 4 = .ok (.iand, 1) := by decide +kernel
theorem dX12_has_5 : decode cX12_has 5 = .ok (.iconst 1, 1) := by decide +kernel
theorem dX12_has_6 : decode cX12_has 6 = .ok (.if_icmp .ne 7, 3) := by decide +kernel
theorem dX12_has_9 : decode cX12_has 9 = .ok (.iconst 1, 1) := by decide +kernel
theorem dX12_has_10 : decode cX12_has 10 = .ok (.goto 4, 3) := by decide +kernel
theorem dX12_has_13 : decode cX12_has 13 = .ok (.iconst 0, 1) := by decide +kernel
theorem dX12_has_14 : decode cX12_has 14 = .ok (.ireturn, 1) := by decide +kernel
theorem dX12_heat_0 : decode cX12_heat 0 = .ok (.iload_n 1, 1) := by decide +kernel
theorem dX12_heat_1 : decode cX12_heat 1 = .ok (.iconst 0, 1) := by decide +kernel
theorem dX12_heat_2 : decode cX12_heat 2 = .ok (.bipush 60, 2) := by decide +kernel
theorem dX12_heat_4 : decode cX12_heat 4 = .ok (.invokestatic 52, 3) := by decide +kernel
theorem dX12_heat_7 : decode cX12_heat 7 = .ok (.ifCond .ne 6, 3) := by decide +kernel
theorem dX12_heat_10 : decode cX12_heat 10 = .ok (.ldc 57, 2) := by decide +kernel
theorem dX12_heat_12 : decode cX12_heat 12 = .ok (.ireturn, 1) := by decide +kernel
theorem dX12_heat_13 : decode cX12_heat 13 = .ok (.aload_n 0, 1) := by decide +kernel
theorem dX12_heat_14 : decode cX12_heat 14 = .ok (.getfield 9, 3) := by decide +kernel
theorem dX12_heat_17 : decode cX12_heat 17 = .ok (.iconst 1, 1) := by decide +kernel
theorem dX12_heat_18 : decode cX12_heat 18 = .ok (.iaload, 1) := by decide +kernel
theorem dX12_heat_19 : decode cX12_heat 19 = .ok (.istore_n 2, 1) := by decide +kernel
theorem dX12_heat_20 : decode cX12_heat 20 = .ok (.aload_n 0, 1) := by decide +kernel
theorem dX12_heat_21 : decode cX12_heat 21 = .ok (.getfield 9, 3) := by decide +kernel
theorem dX12_heat_24 : decode cX12_heat 24 = .ok (.iconst 1, 1) := by decide +kernel
theorem dX12_heat_25 : decode cX12_heat 25 = .ok (.iload_n 1, 1) := by decide +kernel
theorem dX12_heat_26 : decode cX12_heat 26 = .ok (.iastore, 1) := by decide +kernel
theorem dX12_heat_27 : decode cX12_heat 27 = .ok (.iload_n 2, 1) := by decide +kernel
theorem dX12_heat_28 : decode cX12_heat 28 = .ok (.ireturn, 1) := by decide +kernel
theorem dX12_ice_0 : decode cX12_ice 0 = .ok (.aload_n 0, 1) := by decide +kernel
theorem dX12_ice_1 : decode cX12_ice 1 = .ok (.iload_n 1, 1) := by decide +kernel
theorem dX12_ice_2 : decode cX12_ice 2 = .ok (.invokevirtual 102, 3) := by decide +kernel
theorem dX12_ice_5 : decode cX12_ice 5 = .ok (.ifCond .ne 6, 3) := by decide +kernel
theorem dX12_ice_8 : decode cX12_ice 8 = .ok (.ldc 57, 2) := by decide +kernel
theorem dX12_ice_10 : decode cX12_ice 10 = .ok (.ireturn, 1) := by decide +kernel
theorem dX12_ice_11 : decode cX12_ice 11 = .ok (.aload_n 0, 1) := by decide +kernel
theorem dX12_ice_12 : decode cX12_ice 12 = .ok (.getfield 9, 3) := by decide +kernel
theorem dX12_ice_15 : decode cX12_ice 15 = .ok (.iconst 2, 1) := by decide +kernel
theorem dX12_ice_16 : decode cX12_ice 16 = .ok (.iaload, 1) := by decide +kernel
theorem dX12_ice_17 : decode cX12_ice 17 = .ok (.ifCond .eq 11, 3) := by decide +kernel
theorem dX12_ice_20 : decode cX12_ice 20 = .ok (.aload_n 0, 1) := by decide +kernel
theorem dX12_ice_21 : decode cX12_ice 21 = .ok (.iload_n 1, 1) := by decide +kernel
theorem dX12_ice_22 : decode cX12_ice 22 = .ok (.invokevirtual 115, 3) := by decide +kernel
theorem dX12_ice_25 : decode cX12_ice 25 = .ok (.ifCond .ne 5, 3) := by decide +kernel
theorem dX12_ice_28 : decode cX12_ice 28 = .ok (.iconst 0, 1) := by decide +kernel
theorem dX12_ice_29 : decode cX12_ice 29 = .ok (.ireturn, 1) := by decide +kernel
theorem dX12_ice_30 : decode cX12_ice 30 = .ok (.iconst 0, 1) := by decide +kernel
theorem dX12_ice_31 : decode cX12_ice 31 = .ok (.sipush 9999, 3) := by decide +kernel
theorem dX12_ice_34 : decode cX12_ice 34 = .ok (.aload_n 0, 1) := by decide +kernel
theorem dX12_ice_35 : decode cX12_ice 35 = .ok (.iconst 1, 1) := by decide +kernel
theorem dX12_ice_36 : decode cX12_ice 36 = .ok (.iload_n 1, 1) := by decide +kernel
theorem dX12_ice_37 : decode cX12_ice 37 = .ok (.invokevirtual 96, 3) := by decide +kernel
theorem dX12_ice_40 : decode cX12_ice 40 = .ok (.invokestatic 118, 3) := by decide +kernel
theorem dX12_ice_43 : decode cX12_ice 43 = .ok (.invokestatic 81, 3) := by decide +kernel
theorem dX12_ice_46 : decode cX12_ice 46 = .ok (.ireturn, 1) := by decide +kernel
theorem dX12_isDigit_0 : decode cX12_isDigit 0 = .ok (.iload_n 1, 1) := by decide +kernel
theorem dX12_isDigit_1 : decode cX12_isDigit 1 = .ok (.aload_n 0, 1) := by decide +kernel
theorem dX12_isDigit_2 : decode cX12_isDigit 2 = .ok (.getfield 121, 3) := by decide +kernel
theorem dX12_isDigit_5 : decode cX12_isDigit 5 = .ok (.if_icmp .ge 23, 3) := by decide +kernel
theorem dX12_isDigit_8 : decode cX12_isDigit 8 = .ok (.aload_n 0, 1) := by decide +kernel
theorem dX12_isDigit_9 : decode cX12_isDigit 9 = .ok (.getfield 16, 3) := by decide +kernel
theorem dX12_isDigit_12 : decode cX12_isDigit 12 = .ok (.iload_n 1, 1) := by decide +kernel
theorem dX12_isDigit_13 : decode cX12_isDigit 13 = .ok (.iaload, 1) := by decide +kernel
theorem dX12_isDigit_14 : decode cX12_isDigit 14 = .ok (.bipush 48, 2) := by decide +kernel
theorem dX12_isDigit_16 : decode cX12_isDigit 16 = .ok (.bipush 57, 2) := by decide +kernel
theorem dX12_isDigit_18 : decode cX12_isDigit 18 = .ok (.invokestatic 52, 3) := by decide +kernel
theorem dX12_isDigit_21 : decode cX12_isDigit 21 = .ok (.ifCond .eq 7, 3) := by decide +kernel
theorem dX12_isDigit_24 : decode cX12_isDigit 24 = .ok (.iconst 1, 1) := by decide +kernel
theorem dX12_isDigit_25 : decode cX12_isDigit 25 = .ok (.goto 4, 3) := by decide +kernel
theorem dX12_isDigit_28 : decode cX12_isDigit 28 = .ok (.iconst 0, 1) := by decide +kernel
theorem dX12_isDigit_29 : decode cX12_isDigit 29 = .ok (.ireturn, 1) := by decide +kernel
theorem dX12_isEnough_0 : decode cX12_isEnough 0 = .ok (.iconst 1, 1) := by decide +kernel
theorem dX12_isEnough_1 : decode cX12_isEnough 1 = .ok (.istore_n 1, 1) := by decide +kernel
theorem dX12_isEnough_2 : decode cX12_isEnough 2 = .ok (.iconst 0, 1) := by decide +kernel
theorem dX12_isEnough_3 : decode cX12_isEnough 3 = .ok (.istore_n 2, 1) := by decide +kernel
theorem dX12_isEnough_4 : decode cX12_isEnough 4 = .ok (.iload_n 2, 1) := by decide +kernel
theorem dX12_isEnough_5 : decode cX12_isEnough 5 = .ok (.aload_n 0, 1) := by decide +kernel
theorem dX12_isEnough_6 : decode cX12_isEnough 6 = .ok (.getfield 9, 3) := by decide +kernel
theorem dX12_isEnough_9 : decode cX12_isEnough 9 = .ok (.iconst 4, 1) := by decide +kernel
theorem dX12_isEnough_10 : decode cX12_isEnough 10 = .ok (.iaload, 1) := by decide +kernel
theorem dX12_isEnough_11 : decode cX12_isEnough 11 = .ok (.if_icmp .ge 32, 3) := by decide +kernel
theorem dX12_isEnough_14 : decode cX12_isEnough 14 = .ok (.iload_n 1, 1) := by decide +kernel
theorem dX12_isEnough_15 : decode cX12_isEnough 15 = .ok (.ifCond .eq 20, 3) := by decide +kernel
theorem dX12_isEnough_18 : decode cX12_isEnough 18 = .ok (.aload_n 0, 1) := by decide +kernel
theorem dX12_isEnough_19 : decode cX12_isEnough 19 = .ok (.iload_n 2, 1) := by decide +kernel
theorem dX12_isEnough_20 : decode cX12_isEnough 20 = .ok (.invokevirtual 267, 3) := by decide +kernel
theorem dX12_isEnough_23 : decode cX12_isEnough 23 = .ok (.aload_n 0, 1) := by decide +kernel
theorem dX12_isEnough_24 : decode cX12_isEnough 24 = .ok (.iload_n 2, 1) := by decide +kernel
theorem dX12_isEnough_25 : decode cX12_isEnough 25 = .ok (.invokevirtual 270, 3) := by decide +kernel
theorem dX12_isEnough_28 : decode cX12_isEnough 28 = .ok (.if_icmp .gt 7, 3) := by decide +kernel
theorem dX12_isEnough_31 : decode cX12_isEnough 31 = .ok (.iconst 1, 1) := by decide +kernel
theorem dX12_isEnough_32 : decode cX12_isEnough 32 = .ok (.goto 4, 3) := by decide +kernel
theorem dX12_isEnough_35 : decode cX12_isEnough 35 = .ok (.iconst 0, 1) := by decide +kernel
theorem dX12_isEnough_36 : decode cX12_isEnough 36 = .ok (.istore_n 1, 1) := by decide +kernel
theorem dX12_isEnough_37 : decode cX12_isEnough 37 = .ok (.iinc 2 1, 3) := by decide +kernel
theorem dX12_isEnough_40 : decode cX12_isEnough 40 = .ok (.goto (-36), 3) := by decide +kernel
theorem dX12_isEnough_43 : decode cX12_isEnough 43 = .ok (.iload_n 1, 1) := by decide +kernel
theorem dX12_isEnough_44 : decode cX12_isEnough 44 = .ok (.ireturn, 1) := by decide +kernel
theorem dX12_isFamily_0 : decode cX12_isFamily 0 = .ok (.iload_n 1, 1) := by decide +kernel
theorem dX12_isFamily_1 : decode cX12_isFamily 1 = .ok (.iconst 0, 1) := by decide +kernel
theorem dX12_isFamily_2 : decode cX12_isFamily 2 = .ok (.aload_n 0, 1) := by decide +kernel
theorem dX12_isFamily_3 : decode cX12_isFamily 3 = .ok (.getfield 9, 3) := by decide +kernel
theorem dX12_isFamily_6 : decode cX12_isFamily 6 = .ok (.bipush 6, 2) := by decide +kernel
theorem dX12_isFamily_8 : decode cX12_isFamily 8 = .ok (.iaload, 1) := by decide +kernel
theorem dX12_isFamily_9 : decode cX12_isFamily 9 = .ok (.iconst 1, 1) := by decide +kernel
theorem dX12_isFamily_10 : decode cX12_isFamily 10 = .ok (.isub, 1) := by decide +kernel
theorem dX12_isFamily_11 : decode cX12_isFamily 11 = .ok (.invokestatic 52, 3) := by decide +kernel
theorem dX12_isFamily_14 : decode cX12_isFamily 14 = .ok (.ireturn, 1) := by decide +kernel
theorem dX12_isGreen_0 : decode cX12_isGreen 0 = .ok (.aload_n 0, 1) := by decide +kernel
theorem dX12_isGreen_1 : decode cX12_isGreen 1 = .ok (.getfield 9, 3) := by decide +kernel
theorem dX12_isGreen_4 : decode cX12_isGreen 4 = .ok (.iload_n 1, 1) := by decide +kernel
theorem dX12_isGreen_5 : decode cX12_isGreen 5 = .ok (.iconst 0, 1) := by decide +kernel
theorem dX12_isGreen_6 : decode cX12_isGreen 6 = .ok (.invokestatic 67, 3) := by decide +kernel
theorem dX12_isGreen_9 : decode cX12_isGreen 9 = .ok (.iaload, 1) := by decide +kernel
theorem dX12_isGreen_10 : decode cX12_isGreen 10 = .ok (.iconst 2, 1) := by decide +kernel
theorem dX12_isGreen_11 : decode cX12_isGreen 11 = .ok (.if_icmp .lt 7, 3) := by decide +kernel
theorem dX12_isGreen_14 : decode cX12_isGreen 14 = .ok (.iconst 1, 1) := by decide +kernel
theorem dX12_isGreen_15 : decode cX12_isGreen 15 = .ok (.goto 4, 3) := by decide +kernel
theorem dX12_isGreen_18 : decode cX12_isGreen 18 = .ok (.iconst 0, 1) := by decide +kernel
theorem dX12_isGreen_19 : decode cX12_isGreen 19 = .ok (.ireturn, 1) := by decide +kernel
theorem dX12_isLetter_0 : decode cX12_isLetter 0 = .ok (.iload_n 1, 1) := by decide +kernel
theorem dX12_isLetter_1 : decode cX12_isLetter 1 = .ok (.aload_n 0, 1) := by decide +kernel
theorem dX12_isLetter_2 : decode cX12_isLetter 2 = .ok (.getfield 121, 3) := by decide +kernel
theorem dX12_isLetter_5 : decode cX12_isLetter 5 = .ok (.if_icmp .ge 23, 3) := by decide +kernel
theorem dX12_isLetter_8 : decode cX12_isLetter 8 = .ok (.aload_n 0, 1) := by decide +kernel
theorem dX12_isLetter_9 : decode cX12_isLetter 9 = .ok (.getfield 16, 3) := by decide +kernel
theorem dX12_isLetter_12 : decode cX12_isLetter 12 = .ok (.iload_n 1, 1) := by decide +kernel
theorem dX12_isLetter_13 : decode cX12_isLetter 13 = .ok (.iaload, 1) := by decide +kernel
theorem dX12_isLetter_14 : decode cX12_isLetter 14 = .ok (.bipush 97, 2) := by decide +kernel
theorem dX12_isLetter_16 : decode cX12_isLetter 16 = .ok (.bipush 122, 2) := by decide +kernel
theorem dX12_isLetter_18 : decode cX12_isLetter 18 = .ok (.invokestatic 52, 3) := by decide +kernel
theorem dX12_isLetter_21 : decode cX12_isLetter 21 = .ok (.ifCond .eq 7, 3) := by decide +kernel
theorem dX12_isLetter_24 : decode cX12_isLetter 24 = .ok (.iconst 1, 1) := by decide +kernel
theorem dX12_isLetter_25 : decode cX12_isLetter 25 = .ok (.goto 4, 3) := by decide +kernel
theorem dX12_isLetter_28 : decode cX12_isLetter 28 = .ok (.iconst 0, 1) := by decide +kernel
theorem dX12_isLetter_29 : decode cX12_isLetter 29 = .ok (.ireturn, 1) := by decide +kernel
theorem dX12_isMeal_0 : decode cX12_isMeal 0 = .ok (.iload_n 1, 1) := by decide +kernel
theorem dX12_isMeal_1 : decode cX12_isMeal 1 = .ok (.iconst 0, 1) := by decide +kernel
theorem dX12_isMeal_2 : decode cX12_isMeal 2 = .ok (.aload_n 0, 1) := by decide +kernel
theorem dX12_isMeal_3 : decode cX12_isMeal 3 = .ok (.getfield 9, 3) := by decide +kernel
theorem dX12_isMeal_6 : decode cX12_isMeal 6 = .ok (.iconst 5, 1) := by decide +kernel
theorem dX12_isMeal_7 : decode cX12_isMeal 7 = .ok (.iaload, 1) := by decide +kernel
theorem dX12_isMeal_8 : decode cX12_isMeal 8 = .ok (.iconst 1, 1) := by decide +kernel
theorem dX12_isMeal_9 : decode cX12_isMeal 9 = .ok (.isub, 1) := by decide +kernel
theorem dX12_isMeal_10 : decode cX12_isMeal 10 = .ok (.invokestatic 52, 3) := by decide +kernel
theorem dX12_isMeal_13 : decode cX12_isMeal 13 = .ok (.ireturn, 1) := by decide +kernel
theorem dX12_isOf_0 : decode cX12_isOf 0 = .ok (.aload_n 0, 1) := by decide +kernel
theorem dX12_isOf_1 : decode cX12_isOf 1 = .ok (.iload_n 1, 1) := by decide +kernel
theorem dX12_isOf_2 : decode cX12_isOf 2 = .ok (.invokevirtual 70, 3) := by decide +kernel
theorem dX12_isOf_5 : decode cX12_isOf 5 = .ok (.ifCond .eq 12, 3) := by decide +kernel
theorem dX12_isOf_8 : decode cX12_isOf 8 = .ok (.iload_n 2, 1) := by decide +kernel
theorem dX12_isOf_9 : decode cX12_isOf 9 = .ok (.iconst 0, 1) := by decide +kernel
theorem dX12_isOf_10 : decode cX12_isOf 10 = .ok (.iconst 3, 1) := by decide +kernel
theorem dX12_isOf_11 : decode cX12_isOf 11 = .ok (.invokestatic 52, 3) := by decide +kernel
theorem dX12_isOf_14 : decode cX12_isOf 14 = .ok (.ifCond .ne 6, 3) := by decide +kernel
theorem dX12_isOf_17 : decode cX12_isOf 17 = .ok (.ldc 57, 2) := by decide +kernel
theorem dX12_isOf_19 : decode cX12_isOf 19 = .ok (.ireturn, 1) := by decide +kernel
theorem dX12_isOf_20 : decode cX12_isOf 20 = .ok (.iload_n 2, 1) := by decide +kernel
theorem dX12_isOf_21 : decode cX12_isOf 21 = .ok (.ifCond .eq 30, 3) := by decide +kernel
theorem dX12_isOf_24 : decode cX12_isOf 24 = .ok (.aload_n 0, 1) := by decide +kernel
theorem dX12_isOf_25 : decode cX12_isOf 25 = .ok (.getfield 9, 3) := by decide +kernel
theorem dX12_isOf_28 : decode cX12_isOf 28 = .ok (.iload_n 1, 1) := by decide +kernel
theorem dX12_isOf_29 : decode cX12_isOf 29 = .ok (.iconst 0, 1) := by decide +kernel
theorem dX12_isOf_30 : decode cX12_isOf 30 = .ok (.invokestatic 67, 3) := by decide +kernel
theorem dX12_isOf_33 : decode cX12_isOf 33 = .ok (.iaload, 1) := by decide +kernel
theorem dX12_isOf_34 : decode cX12_isOf 34 = .ok (.iload_n 2, 1) := by decide +kernel
theorem dX12_isOf_35 : decode cX12_isOf 35 = .ok (.if_icmp .eq 16, 3) := by decide +kernel
theorem dX12_isOf_38 : decode cX12_isOf 38 = .ok (.iload_n 2, 1) := by decide +kernel
theorem dX12_isOf_39 : decode cX12_isOf 39 = .ok (.iconst 2, 1) := by decide +kernel
theorem dX12_isOf_40 : decode cX12_isOf 40 = .ok (.if_icmp .ne 15, 3) := by decide +kernel
