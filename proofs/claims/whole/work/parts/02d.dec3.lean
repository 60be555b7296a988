theorem dX12_isOf_43 : decode cX12_isOf 43 = .ok (.aload_n 0, 1) := by decide +kernel
theorem dX12_isOf_44 : decode cX12_isOf 44 = .ok (.iload_n 1, 1) := by decide +kernel
theorem dX12_isOf_45 : decode cX12_isOf 45 = .ok (.invokevirtual 73, 3) := by decide +kernel
theorem dX12_isOf_48 : decode cX12_isOf 48 = .ok (.ifCond .eq 7, 3) := by decide +kernel
theorem dX12_isOf_51 : decode cX12_isOf 51 = .ok (.iconst 1, 1) := by decide +kernel
theorem dX12_isOf_52 : decode cX12_isOf 52 = .ok (.goto 4, 3) := by decide +kernel
theorem dX12_isOf_55 : decode cX12_isOf 55 = .ok (.iconst 0, 1) := by decide +kernel
theorem dX12_isOf_56 : decode cX12_isOf 56 = .ok (.ireturn, 1) := by decide +kernel
theorem dX12_isPart_0 : decode cX12_isPart 0 = .ok (.iload_n 1, 1) := by decide +kernel
theorem dX12_isPart_1 : decode cX12_isPart 1 = .ok (.iconst 0, 1) := by decide +kernel
theorem dX12_isPart_2 : decode cX12_isPart 2 = .ok (.aload_n 0, 1) := by decide +kernel
theorem dX12_isPart_3 : decode cX12_isPart 3 = .ok (.getfield 9, 3) := by decide +kernel
theorem dX12_isPart_6 : decode cX12_isPart 6 = .ok (.iconst 4, 1) := by decide +kernel
theorem dX12_isPart_7 : decode cX12_isPart 7 = .ok (.iaload, 1) := by decide +kernel
theorem dX12_isPart_8 : decode cX12_isPart 8 = .ok (.iconst 1, 1) := by decide +kernel
theorem dX12_isPart_9 : decode cX12_isPart 9 = .ok (.isub, 1) := by decide +kernel
theorem dX12_isPart_10 : decode cX12_isPart 10 = .ok (.invokestatic 52, 3) := by decide +kernel
theorem dX12_isPart_13 : decode cX12_isPart 13 = .ok (.ireturn, 1) := by decide +kernel
theorem dX12_isSign_0 : decode cX12_isSign 0 = .ok (.aload_n 0, 1) := by decide +kernel
theorem dX12_isSign_1 : decode cX12_isSign 1 = .ok (.getfield 140, 3) := by decide +kernel
theorem dX12_isSign_4 : decode cX12_isSign 4 = .ok (.ifCond .ne 28, 3) := by decide +kernel
theorem dX12_isSign_7 : decode cX12_isSign 7 = .ok (.aload_n 0, 1) := by decide +kernel
theorem dX12_isSign_8 : decode cX12_isSign 8 = .ok (.getfield 125, 3) := by decide +kernel
theorem dX12_isSign_11 : decode cX12_isSign 11 = .ok (.iconst 3, 1) := by decide +kernel
theorem dX12_isSign_12 : decode cX12_isSign 12 = .ok (.if_icmp .ne 20, 3) := by decide +kernel
theorem dX12_isSign_15 : decode cX12_isSign 15 = .ok (.aload_n 0, 1) := by decide +kernel
theorem dX12_isSign_16 : decode cX12_isSign 16 = .ok (.getfield 16, 3) := by decide +kernel
theorem dX12_isSign_19 : decode cX12_isSign 19 = .ok (.aload_n 0, 1) := by decide +kernel
theorem dX12_isSign_20 : decode cX12_isSign 20 = .ok (.getfield 131, 3) := by decide +kernel
theorem dX12_isSign_23 : decode cX12_isSign 23 = .ok (.iaload, 1) := by decide +kernel
theorem dX12_isSign_24 : decode cX12_isSign 24 = .ok (.iload_n 1, 1) := by decide +kernel
theorem dX12_isSign_25 : decode cX12_isSign 25 = .ok (.if_icmp .ne 7, 3) := by decide +kernel
theorem dX12_isSign_28 : decode cX12_isSign 28 = .ok (.iconst 1, 1) := by decide +kernel
theorem dX12_isSign_29 : decode cX12_isSign 29 = .ok (.goto 4, 3) := by decide +kernel
theorem dX12_isSign_32 : decode cX12_isSign 32 = .ok (.iconst 0, 1) := by decide +kernel
theorem dX12_isSign_33 : decode cX12_isSign 33 = .ok (.ireturn, 1) := by decide +kernel
theorem dX12_keep_0 : decode cX12_keep 0 = .ok (.iconst 0, 1) := by decide +kernel
theorem dX12_keep_1 : decode cX12_keep 1 = .ok (.istore_n 1, 1) := by decide +kernel
theorem dX12_keep_2 : decode cX12_keep 2 = .ok (.iload_n 1, 1) := by decide +kernel
theorem dX12_keep_3 : decode cX12_keep 3 = .ok (.sipush 2156, 3) := by decide +kernel
theorem dX12_keep_6 : decode cX12_keep 6 = .ok (.if_icmp .ge 21, 3) := by decide +kernel
theorem dX12_keep_9 : decode cX12_keep 9 = .ok (.aload_n 0, 1) := by decide +kernel
theorem dX12_keep_10 : decode cX12_keep 10 = .ok (.getfield 13, 3) := by decide +kernel
theorem dX12_keep_13 : decode cX12_keep 13 = .ok (.iload_n 1, 1) := by decide +kernel
theorem dX12_keep_14 : decode cX12_keep 14 = .ok (.aload_n 0, 1) := by decide +kernel
theorem dX12_keep_15 : decode cX12_keep 15 = .ok (.getfield 9, 3) := by decide +kernel
theorem dX12_keep_18 : decode cX12_keep 18 = .ok (.iload_n 1, 1) := by decide +kernel
theorem dX12_keep_19 : decode cX12_keep 19 = .ok (.iaload, 1) := by decide +kernel
theorem dX12_keep_20 : decode cX12_keep 20 = .ok (.iastore, 1) := by decide +kernel
theorem dX12_keep_21 : decode cX12_keep 21 = .ok (.iinc 1 1, 3) := by decide +kernel
theorem dX12_keep_24 : decode cX12_keep 24 = .ok (.goto (-22), 3) := by decide +kernel
theorem dX12_keep_27 : decode cX12_keep 27 = .ok (.aload_n 0, 1) := by decide +kernel
theorem dX12_keep_28 : decode cX12_keep 28 = .ok (.iconst 1, 1) := by decide +kernel
theorem dX12_keep_29 : decode cX12_keep 29 = .ok (.putfield 316, 3) := by decide +kernel
theorem dX12_keep_32 : decode cX12_keep 32 = .ok (.aload_n 0, 1) := by decide +kernel
theorem dX12_keep_33 : decode cX12_keep 33 = .ok (.getfield 9, 3) := by decide +kernel
theorem dX12_keep_36 : decode cX12_keep 36 = .ok (.iconst 0, 1) := by decide +kernel
theorem dX12_keep_37 : decode cX12_keep 37 = .ok (.iaload, 1) := by decide +kernel
theorem dX12_keep_38 : decode cX12_keep 38 = .ok (.ireturn, 1) := by decide +kernel
theorem dX12_keptBy_0 : decode cX12_keptBy 0 = .ok (.iload_n 1, 1) := by decide +kernel
theorem dX12_keptBy_1 : decode cX12_keptBy 1 = .ok (.invokestatic 109, 3) := by decide +kernel
theorem dX12_keptBy_4 : decode cX12_keptBy 4 = .ok (.iconst 1, 1) := by decide +kernel
theorem dX12_keptBy_5 : decode cX12_keptBy 5 = .ok (.if_icmp .ne 7, 3) := by decide +kernel
theorem dX12_keptBy_8 : decode cX12_keptBy 8 = .ok (.iconst 1, 1) := by decide +kernel
theorem dX12_keptBy_9 : decode cX12_keptBy 9 = .ok (.goto 4, 3) := by decide +kernel
theorem dX12_keptBy_12 : decode cX12_keptBy 12 = .ok (.iconst 2, 1) := by decide +kernel
theorem dX12_keptBy_13 : decode cX12_keptBy 13 = .ok (.istore_n 2, 1) := by decide +kernel
theorem dX12_keptBy_14 : decode cX12_keptBy 14 = .ok (.iconst 0, 1) := by decide +kernel
theorem dX12_keptBy_15 : decode cX12_keptBy 15 = .ok (.istore_n 3, 1) := by decide +kernel
theorem dX12_keptBy_16 : decode cX12_keptBy 16 = .ok (.iconst 0, 1) := by decide +kernel
theorem dX12_keptBy_17 : decode cX12_keptBy 17 = .ok (.istore 4, 2) := by decide +kernel
theorem dX12_keptBy_19 : decode cX12_keptBy 19 = .ok (.iload 4, 2) := by decide +kernel
theorem dX12_keptBy_21 : decode cX12_keptBy 21 = .ok (.aload_n 0, 1) := by decide +kernel
theorem dX12_keptBy_22 : decode cX12_keptBy 22 = .ok (.getfield 9, 3) := by decide +kernel
theorem dX12_keptBy_25 : decode cX12_keptBy 25 = .ok (.bipush 6, 2) := by decide +kernel
theorem dX12_keptBy_27 : decode cX12_keptBy 27 = .ok (.iaload, 1) := by decide +kernel
theorem dX12_keptBy_28 : decode cX12_keptBy 28 = .ok (.if_icmp .ge 90, 3) := by decide +kernel
theorem dX12_keptBy_31 : decode cX12_keptBy 31 = .ok (.iconst 0, 1) := by decide +kernel
theorem dX12_keptBy_32 : decode cX12_keptBy 32 = .ok (.istore 5, 2) := by decide +kernel
theorem dX12_keptBy_34 : decode cX12_keptBy 34 = .ok (.iconst 0, 1) := by decide +kernel
theorem dX12_keptBy_35 : decode cX12_keptBy 35 = .ok (.istore 6, 2) := by decide +kernel
theorem dX12_keptBy_37 : decode cX12_keptBy 37 = .ok (.iload 6, 2) := by decide +kernel
theorem dX12_keptBy_39 : decode cX12_keptBy 39 = .ok (.bipush 10, 2) := by decide +kernel
theorem dX12_keptBy_41 : decode cX12_keptBy 41 = .ok (.if_icmp .ge 57, 3) := by decide +kernel
theorem dX12_keptBy_44 : decode cX12_keptBy 44 = .ok (.iload 5, 2) := by decide +kernel
theorem dX12_keptBy_46 : decode cX12_keptBy 46 = .ok (.iload_n 1, 1) := by decide +kernel
theorem dX12_keptBy_47 : decode cX12_keptBy 47 = .ok (.iload 6, 2) := by decide +kernel
theorem dX12_keptBy_49 : decode cX12_keptBy 49 = .ok (.invokestatic 76, 3) := by decide +kernel
theorem dX12_keptBy_52 : decode cX12_keptBy 52 = .ok (.ifCond .eq 36, 3) := by decide +kernel
theorem dX12_keptBy_55 : decode cX12_keptBy 55 = .ok (.aload_n 0, 1) := by decide +kernel
theorem dX12_keptBy_56 : decode cX12_keptBy 56 = .ok (.iload 4, 2) := by decide +kernel
theorem dX12_keptBy_58 : decode cX12_keptBy 58 = .ok (.iload 6, 2) := by decide +kernel
theorem dX12_keptBy_60 : decode cX12_keptBy 60 = .ok (.invokevirtual 106, 3) := by decide +kernel
theorem dX12_keptBy_63 : decode cX12_keptBy 63 = .ok (.ifCond .eq 25, 3) := by decide +kernel
theorem dX12_keptBy_66 : decode cX12_keptBy 66 = .ok (.aload_n 0, 1) := by decide +kernel
theorem dX12_keptBy_67 : decode cX12_keptBy 67 = .ok (.getfield 9, 3) := by decide +kernel
theorem dX12_keptBy_70 : decode cX12_keptBy 70 = .ok (.iload 4, 2) := by decide +kernel
theorem dX12_keptBy_72 : decode cX12_keptBy 72 = .ok (.iconst 5, 1) := by decide +kernel
theorem dX12_keptBy_73 : decode cX12_keptBy 73 = .ok (.iload 6, 2) := by decide +kernel
theorem dX12_keptBy_75 : decode cX12_keptBy 75 = .ok (.iadd, 1) := by decide +kernel
theorem dX12_keptBy_76 : decode cX12_keptBy 76 = .ok (.invokestatic 99, 3) := by decide +kernel
theorem dX12_keptBy_79 : decode cX12_keptBy 79 = .ok (.iaload, 1) := by decide +kernel
theorem dX12_keptBy_80 : decode cX12_keptBy 80 = .ok (.iconst 5, 1) := by decide +kernel
theorem dX12_keptBy_81 : decode cX12_keptBy 81 = .ok (.if_icmp .lt 7, 3) := by decide +kernel
theorem dX12_keptBy_84 : decode cX12_keptBy 84 = .ok (.iconst 1, 1) := by decide +kernel
theorem dX12_keptBy_85 : decode cX12_keptBy 85 = .ok (.goto 4, 3) := by decide +kernel
theorem dX12_keptBy_88 : decode cX12_keptBy 88 = .ok (.iconst 0, 1) := by decide +kernel
theorem dX12_keptBy_89 : decode cX12_keptBy 89 = .ok (.iadd, 1) := by decide +kernel
theorem dX12_keptBy_90 : decode cX12_keptBy 90 = .ok (.istore 5, 2) := by decide +kernel
theorem dX12_keptBy_92 : decode cX12_keptBy 92 = .ok (.iinc 6 1, 3) := by decide +kernel
theorem dX12_keptBy_95 : decode cX12_keptBy 95 = .ok (.goto (-58), 3) := by decide +kernel
theorem dX12_keptBy_98 : decode cX12_keptBy 98 = .ok (.iload_n 3, 1) := by decide +kernel
theorem dX12_keptBy_99 : decode cX12_keptBy 99 = .ok (.iload 5, 2) := by decide +kernel
theorem dX12_keptBy_101 : decode cX12_keptBy 101 = .ok (.iload_n 2, 1) := by decide +kernel
theorem dX12_keptBy_102 : decode cX12_keptBy 102 = .ok (.if_icmp .lt 7, 3) := by decide +kernel
theorem dX12_keptBy_105 : decode cX12_keptBy 105 = .ok (.iconst 1, 1) := by decide +kernel
theorem dX12_keptBy_106 : decode cX12_keptBy 106 = .ok (.goto 4, 3) := by decide +kernel
theorem dX12_keptBy_109 : decode cX12_keptBy 109 = .ok (.iconst 0, 1) := by decide +kernel
theorem dX12_keptBy_110 : decode cX12_keptBy 110 = .ok (.iadd, 1) := by decide +kernel
theorem dX12_keptBy_111 : decode cX12_keptBy 111 = .ok (.istore_n 3, 1) := by decide +kernel
theorem dX12_keptBy_112 : decode cX12_keptBy 112 = .ok (.iinc 4 1, 3) := by decide +kernel
theorem dX12_keptBy_115 : decode cX12_keptBy 115 = .ok (.goto (-96), 3) := by decide +kernel
theorem dX12_keptBy_118 : decode cX12_keptBy 118 = .ok (.iload_n 3, 1) := by decide +kernel
theorem dX12_keptBy_119 : decode cX12_keptBy 119 = .ok (.ireturn, 1) := by decide +kernel
theorem dX12_kept_0 : decode cX12_kept 0 = .ok (.aload_n 0, 1) := by decide +kernel
theorem dX12_kept_1 : decode cX12_kept 1 = .ok (.iload_n 1, 1) := by decide +kernel
theorem dX12_kept_2 : decode cX12_kept 2 = .ok (.invokevirtual 232, 3) := by decide +kernel
theorem dX12_kept_5 : decode cX12_kept 5 = .ok (.ifCond .eq 15, 3) := by decide +kernel
theorem dX12_kept_8 : decode cX12_kept 8 = .ok (.iload_n 1, 1) := by decide +kernel
theorem dX12_kept_9 : decode cX12_kept 9 = .ok (.invokestatic 109, 3) := by decide +kernel
theorem dX12_kept_12 : decode cX12_kept 12 = .ok (.iconst 1, 1) := by decide +kernel
theorem dX12_kept_13 : decode cX12_kept 13 = .ok (.iconst 4, 1) := by decide +kernel
theorem dX12_kept_14 : decode cX12_kept 14 = .ok (.invokestatic 52, 3) := by decide +kernel
theorem dX12_kept_17 : decode cX12_kept 17 = .ok (.ifCond .ne 8, 3) := by decide +kernel
theorem dX12_kept_20 : decode cX12_kept 20 = .ok (.ldc 57, 2) := by decide +kernel
theorem dX12_kept_22 : decode cX12_kept 22 = .ok (.goto 8, 3) := by decide +kernel
theorem dX12_kept_25 : decode cX12_kept 25 = .ok (.aload_n 0, 1) := by decide +kernel
theorem dX12_kept_26 : decode cX12_kept 26 = .ok (.iload_n 1, 1) := by decide +kernel
theorem dX12_kept_27 : decode cX12_kept 27 = .ok (.invokevirtual 235, 3) := by decide +kernel
theorem dX12_kept_30 : decode cX12_kept 30 = .ok (.ireturn, 1) := by decide +kernel
theorem dX12_law_0 : decode cX12_law 0 = .ok (.aload_n 0, 1) := by decide +kernel
theorem dX12_law_1 : decode cX12_law 1 = .ok (.iconst 0, 1) := by decide +kernel
theorem dX12_law_2 : decode cX12_law 2 = .ok (.putfield 128, 3) := by decide +kernel
theorem dX12_law_5 : decode cX12_law 5 = .ok (.aload_n 0, 1) := by decide +kernel
theorem dX12_law_6 : decode cX12_law 6 = .ok (.iconst 0, 1) := by decide +kernel
theorem dX12_law_7 : decode cX12_law 7 = .ok (.putfield 125, 3) := by decide +kernel
theorem dX12_law_10 : decode cX12_law 10 = .ok (.aload_n 0, 1) := by decide +kernel
theorem dX12_law_11 : decode cX12_law 11 = .ok (.iconst 0, 1) := by decide +kernel
theorem dX12_law_12 : decode cX12_law 12 = .ok (.putfield 140, 3) := by decide +kernel
theorem dX12_law_15 : decode cX12_law 15 = .ok (.aload_n 0, 1) := by decide +kernel
theorem dX12_law_16 : decode cX12_law 16 = .ok (.iconst 0, 1) := by decide +kernel
theorem dX12_law_17 : decode cX12_law 17 = .ok (.putfield 186, 3) := by decide +kernel
theorem dX12_law_20 : decode cX12_law 20 = .ok (.aload_n 0, 1) := by decide +kernel
theorem dX12_law_21 : decode cX12_law 21 = .ok (.iconst 0, 1) := by decide +kernel
theorem dX12_law_22 : decode cX12_law 22 = .ok (.putfield 179, 3) := by decide +kernel
theorem dX12_law_25 : decode cX12_law 25 = .ok (.aload_n 0, 1) := by decide +kernel
theorem dX12_law_26 : decode cX12_law 26 = .ok (.iconst 0, 1) := by decide +kernel
theorem dX12_law_27 : decode cX12_law 27 = .ok (.putfield 160, 3) := by decide +kernel
theorem dX12_law_30 : decode cX12_law 30 = .ok (.aload_n 0, 1) := by decide +kernel
theorem dX12_law_31 : decode cX12_law 31 = .ok (.iconst 0, 1) := by decide +kernel
theorem dX12_law_32 : decode cX12_law 32 = .ok (.putfield 172, 3) := by decide +kernel
theorem dX12_law_35 : decode cX12_law 35 = .ok (.aload_n 0, 1) := by decide +kernel
theorem dX12_law_36 : decode cX12_law 36 = .ok (.invokevirtual 144, 3) := by decide +kernel
theorem dX12_law_39 : decode cX12_law 39 = .ok (.aload_n 0, 1) := by decide +kernel
theorem dX12_law_40 : decode cX12_law 40 = .ok (.ldc 209, 2) := by decide +kernel
theorem dX12_law_42 : decode cX12_law 42 = .ok (.putfield 33, 3) := by decide +kernel
theorem dX12_law_45 : decode cX12_law 45 = .ok (.aload_n 0, 1) := by decide +kernel
theorem dX12_law_46 : decode cX12_law 46 = .ok (.ldc 211, 2) := by decide +kernel
theorem dX12_law_48 : decode cX12_law 48 = .ok (.invokevirtual 213, 3) := by decide +kernel
theorem dX12_law_51 : decode cX12_law 51 = .ok (.aload_n 0, 1) := by decide +kernel
theorem dX12_law_52 : decode cX12_law 52 = .ok (.invokevirtual 189, 3) := by decide +kernel
theorem dX12_law_55 : decode cX12_law 55 = .ok (.aload_n 0, 1) := by decide +kernel
theorem dX12_law_56 : decode cX12_law 56 = .ok (.ldc 217, 2) := by decide +kernel
theorem dX12_law_58 : decode cX12_law 58 = .ok (.invokevirtual 168, 3) := by decide +kernel
theorem dX12_law_61 : decode cX12_law 61 = .ok (.aload_n 0, 1) := by decide +kernel
theorem dX12_law_62 : decode cX12_law 62 = .ok (.ldc 218, 2) := by decide +kernel
theorem dX12_law_64 : decode cX12_law 64 = .ok (.putfield 33, 3) := by decide +kernel
theorem dX12_law_67 : decode cX12_law 67 = .ok (.aload_n 0, 1) := by decide +kernel
theorem dX12_law_68 : decode cX12_law 68 = .ok (.ldc 220, 2) := by decide +kernel
theorem dX12_law_70 : decode cX12_law 70 = .ok (.invokevirtual 213, 3) := by decide +kernel
theorem dX12_law_73 : decode cX12_law 73 = .ok (.aload_n 0, 1) := by decide +kernel
theorem dX12_law_74 : decode cX12_law 74 = .ok (.invokevirtual 189, 3) := by decide +kernel
theorem dX12_law_77 : decode cX12_law 77 = .ok (.aload_n 0, 1) := by decide +kernel
theorem dX12_law_78 : decode cX12_law 78 = .ok (.ldc 217, 2) := by decide +kernel
theorem dX12_law_80 : decode cX12_law 80 = .ok (.invokevirtual 168, 3) := by decide +kernel
theorem dX12_law_83 : decode cX12_law 83 = .ok (.aload_n 0, 1) := by decide +kernel
theorem dX12_law_84 : decode cX12_law 84 = .ok (.aload_n 0, 1) := by decide +kernel
theorem dX12_law_85 : decode cX12_law 85 = .ok (.getfield 140, 3) := by decide +kernel
theorem dX12_law_88 : decode cX12_law 88 = .ok (.ifCond .ne 10, 3) := by decide +kernel
theorem dX12_law_91 : decode cX12_law 91 = .ok (.aload_n 0, 1) := by decide +kernel
theorem dX12_law_92 : decode cX12_law 92 = .ok (.getfield 125, 3) := by decide +kernel
theorem dX12_law_95 : decode cX12_law 95 = .ok (.ifCond .eq 7, 3) := by decide +kernel
theorem dX12_law_98 : decode cX12_law 98 = .ok (.iconst 1, 1) := by decide +kernel
theorem dX12_law_99 : decode cX12_law 99 = .ok (.goto 4, 3) := by decide +kernel
theorem dX12_law_102 : decode cX12_law 102 = .ok (.iconst 0, 1) := by decide +kernel
theorem dX12_law_103 : decode cX12_law 103 = .ok (.putfield 140, 3) := by decide +kernel
theorem dX12_law_106 : decode cX12_law 106 = .ok (.aload_n 0, 1) := by decide +kernel
theorem dX12_law_107 : decode cX12_law 107 = .ok (.getfield 131, 3) := by decide +kernel
theorem dX12_law_110 : decode cX12_law 110 = .ok (.istore_n 1, 1) := by decide +kernel
theorem dX12_law_111 : decode cX12_law 111 = .ok (.aload_n 0, 1) := by decide +kernel
theorem dX12_law_112 : decode cX12_law 112 = .ok (.iconst 0, 1) := by decide +kernel
theorem dX12_law_113 : decode cX12_law 113 = .ok (.putfield 121, 3) := by decide +kernel
theorem dX12_law_116 : decode cX12_law 116 = .ok (.aload_n 0, 1) := by decide +kernel
theorem dX12_law_117 : decode cX12_law 117 = .ok (.getfield 140, 3) := by decide +kernel
theorem dX12_law_120 : decode cX12_law 120 = .ok (.ifCond .eq 8, 3) := by decide +kernel
theorem dX12_law_123 : decode cX12_law 123 = .ok (.bipush (-100), 2) := by decide +kernel
theorem dX12_law_125 : decode cX12_law 125 = .ok (.iload_n 1, 1) := by decide +kernel
theorem dX12_law_126 : decode cX12_law 126 = .ok (.isub, 1) := by decide +kernel
theorem dX12_law_127 : decode cX12_law 127 = .ok (.ireturn, 1) := by decide +kernel
theorem dX12_law_128 : decode cX12_law 128 = .ok (.iconst 0, 1) := by decide +kernel
theorem dX12_law_129 : decode cX12_law 129 = .ok (.istore_n 2, 1) := by decide +kernel
theorem dX12_law_130 : decode cX12_law 130 = .ok (.iload_n 2, 1) := by decide +kernel
theorem dX12_law_131 : decode cX12_law 131 = .ok (.aload_n 0, 1) := by decide +kernel
theorem dX12_law_132 : decode cX12_law 132 = .ok (.getfield 160, 3) := by decide +kernel
theorem dX12_law_135 : decode cX12_law 135 = .ok (.if_icmp .ge 25, 3) := by decide +kernel
theorem dX12_law_138 : decode cX12_law 138 = .ok (.aload_n 0, 1) := by decide +kernel
theorem dX12_law_139 : decode cX12_law 139 = .ok (.getfield 9, 3) := by decide +kernel
theorem dX12_law_142 : decode cX12_law 142 = .ok (.sipush 2028, 3) := by decide +kernel
theorem dX12_law_145 : decode cX12_law 145 = .ok (.iload_n 2, 1) := by decide +kernel
theorem dX12_law_146 : decode cX12_law 146 = .ok (.iadd, 1) := by decide +kernel
theorem dX12_law_147 : decode cX12_law 147 = .ok (.aload_n 0, 1) := by decide +kernel
theorem dX12_law_148 : decode cX12_law 148 = .ok (.getfield 37, 3) := by decide +kernel
theorem dX12_law_151 : decode cX12_law 151 = .ok (.iload_n 2, 1) := by decide +kernel
theorem dX12_law_152 : decode cX12_law 152 = .ok (.iaload, 1) := by decide +kernel
theorem dX12_law_153 : decode cX12_law 153 = .ok (.iastore, 1) := by decide +kernel
theorem dX12_law_154 : decode cX12_law 154 = .ok (.iinc 2 1, 3) := by decide +kernel
theorem dX12_law_157 : decode cX12_law 157 = .ok (.goto (-27), 3) := by decide +kernel
theorem dX12_law_160 : decode cX12_law 160 = .ok (.aload_n 0, 1) := by decide +kernel
theorem dX12_law_161 : decode cX12_law 161 = .ok (.getfield 9, 3) := by decide +kernel
theorem dX12_law_164 : decode cX12_law 164 = .ok (.iconst 2, 1) := by decide +kernel
theorem dX12_law_165 : decode cX12_law 165 = .ok (.iconst 1, 1) := by decide +kernel
theorem dX12_law_166 : decode cX12_law 166 = .ok (.iastore, 1) := by decide +kernel
theorem dX12_law_167 : decode cX12_law 167 = .ok (.aload_n 0, 1) := by decide +kernel
theorem dX12_law_168 : decode cX12_law 168 = .ok (.getfield 172, 3) := by decide +kernel
theorem dX12_law_171 : decode cX12_law 171 = .ok (.ireturn, 1) := by decide +kernel
theorem dX12_lay_0 : decode cX12_lay 0 = .ok (.aload_n 0, 1) := by decide +kernel
theorem dX12_lay_1 : decode cX12_lay 1 = .ok (.iload_n 1, 1) := by decide +kernel
theorem dX12_lay_2 : decode cX12_lay 2 = .ok (.invokevirtual 102, 3) := by decide +kernel
theorem dX12_lay_5 : decode cX12_lay 5 = .ok (.ifCond .eq 12, 3) := by decide +kernel
theorem dX12_lay_8 : decode cX12_lay 8 = .ok (.iload_n 2, 1) := by decide +kernel
theorem dX12_lay_9 : decode cX12_lay 9 = .ok (.iconst 0, 1) := by decide +kernel
theorem dX12_lay_10 : decode cX12_lay 10 = .ok (.iconst 1, 1) := by decide +kernel
theorem dX12_lay_11 : decode cX12_lay 11 = .ok (.invokestatic 52, 3) := by decide +kernel
theorem dX12_lay_14 : decode cX12_lay 14 = .ok (.ifCond .ne 6, 3) := by decide +kernel
theorem dX12_lay_17 : decode cX12_lay 17 = .ok (.ldc 57, 2) := by decide +kernel
theorem dX12_lay_19 : decode cX12_lay 19 = .ok (.ireturn, 1) := by decide +kernel
theorem dX12_lay_20 : decode cX12_lay 20 = .ok (.aload_n 0, 1) := by decide +kernel
theorem dX12_lay_21 : decode cX12_lay 21 = .ok (.getfield 22, 3) := by decide +kernel
theorem dX12_lay_24 : decode cX12_lay 24 = .ok (.iload_n 2, 1) := by decide +kernel
theorem dX12_lay_25 : decode cX12_lay 25 = .ok (.iaload, 1) := by decide +kernel
theorem dX12_lay_26 : decode cX12_lay 26 = .ok (.ifCond .ge 6, 3) := by decide +kernel
theorem dX12_lay_29 : decode cX12_lay 29 = .ok (.ldc 105, 2) := by decide +kernel
theorem dX12_lay_31 : decode cX12_lay 31 = .ok (.ireturn, 1) := by decide +kernel
theorem dX12_lay_32 : decode cX12_lay 32 = .ok (.iconst 0, 1) := by decide +kernel
theorem dX12_lay_33 : decode cX12_lay 33 = .ok (.istore_n 3, 1) := by decide +kernel
theorem dX12_lay_34 : decode cX12_lay 34 = .ok (.iconst 0, 1) := by decide +kernel
theorem dX12_lay_35 : decode cX12_lay 35 = .ok (.istore 4, 2) := by decide +kernel
theorem dX12_lay_37 : decode cX12_lay 37 = .ok (.iload 4, 2) := by decide +kernel
theorem dX12_lay_39 : decode cX12_lay 39 = .ok (.aload_n 0, 1) := by decide +kernel
theorem dX12_lay_40 : decode cX12_lay 40 = .ok (.getfield 9, 3) := by decide +kernel
theorem dX12_lay_43 : decode cX12_lay 43 = .ok (.iconst 5, 1) := by decide +kernel
theorem dX12_lay_44 : decode cX12_lay 44 = .ok (.iaload, 1) := by decide +kernel
theorem dX12_lay_45 : decode cX12_lay 45 = .ok (.if_icmp .ge 63, 3) := by decide +kernel
theorem dX12_lay_48 : decode cX12_lay 48 = .ok (.iload 4, 2) := by decide +kernel
theorem dX12_lay_50 : decode cX12_lay 50 = .ok (.aload_n 0, 1) := by decide +kernel
theorem dX12_lay_51 : decode cX12_lay 51 = .ok (.getfield 22, 3) := by decide +kernel
theorem dX12_lay_54 : decode cX12_lay 54 = .ok (.iload_n 2, 1) := by decide +kernel
theorem dX12_lay_55 : decode cX12_lay 55 = .ok (.iaload, 1) := by decide +kernel
theorem dX12_lay_56 : decode cX12_lay 56 = .ok (.if_icmp .ge 52, 3) := by decide +kernel
theorem dX12_lay_59 : decode cX12_lay 59 = .ok (.aload_n 0, 1) := by decide +kernel
theorem dX12_lay_60 : decode cX12_lay 60 = .ok (.getfield 25, 3) := by decide +kernel
theorem dX12_lay_63 : decode cX12_lay 63 = .ok (.bipush 16, 2) := by decide +kernel
theorem dX12_lay_65 : decode cX12_lay 65 = .ok (.iload_n 2, 1) := by decide +kernel
theorem dX12_lay_66 : decode cX12_lay 66 = .ok (.imul, 1) := by decide +kernel
theorem dX12_lay_67 : decode cX12_lay 67 = .ok (.iload 4, 2) := by decide +kernel
theorem dX12_lay_69 : decode cX12_lay 69 = .ok (.iadd, 1) := by decide +kernel
theorem dX12_lay_70 : decode cX12_lay 70 = .ok (.iaload, 1) := by decide +kernel
theorem dX12_lay_71 : decode cX12_lay 71 = .ok (.istore 5, 2) := by decide +kernel
theorem dX12_lay_73 : decode cX12_lay 73 = .ok (.iload 5, 2) := by decide +kernel
theorem dX12_lay_75 : decode cX12_lay 75 = .ok (.iconst 0, 1) := by decide +kernel
theorem dX12_lay_76 : decode cX12_lay 76 = .ok (.bipush 9, 2) := by decide +kernel
theorem dX12_lay_78 : decode cX12_lay 78 = .ok (.invokestatic 52, 3) := by decide +kernel
theorem dX12_lay_81 : decode cX12_lay 81 = .ok (.ifCond .eq 21, 3) := by decide +kernel
theorem dX12_lay_84 : decode cX12_lay 84 = .ok (.aload_n 0, 1) := by decide +kernel
theorem dX12_lay_85 : decode cX12_lay 85 = .ok (.getfield 9, 3) := by decide +kernel
theorem dX12_lay_88 : decode cX12_lay 88 = .ok (.iload_n 1, 1) := by decide +kernel
theorem dX12_lay_89 : decode cX12_lay 89 = .ok (.iconst 5, 1) := by decide +kernel
theorem dX12_lay_90 : decode cX12_lay 90 = .ok (.iload 4, 2) := by decide +kernel
theorem dX12_lay_92 : decode cX12_lay 92 = .ok (.iadd, 1) := by decide +kernel
theorem dX12_lay_93 : decode cX12_lay 93 = .ok (.invokestatic 99, 3) := by decide +kernel
theorem dX12_lay_96 : decode cX12_lay 96 = .ok (.iload 5, 2) := by decide +kernel
theorem dX12_lay_98 : decode cX12_lay 98 = .ok (.iastore, 1) := by decide +kernel
theorem dX12_lay_99 : decode cX12_lay 99 = .ok (.iinc 3 1, 3) := by decide +kernel
theorem dX12_lay_102 : decode cX12_lay 102 = .ok (.iinc 4 1, 3) := by decide +kernel
theorem dX12_lay_105 : decode cX12_lay 105 = .ok (.goto (-68), 3) := by decide +kernel
theorem dX12_lay_108 : decode cX12_lay 108 = .ok (.iload_n 3, 1) := by decide +kernel
theorem dX12_lay_109 : decode cX12_lay 109 = .ok (.ireturn, 1) := by decide +kernel
theorem dX12_likes_0 : decode cX12_likes 0 = .ok (.aload_n 0, 1) := by decide +kernel
theorem dX12_likes_1 : decode cX12_likes 1 = .ok (.iload_n 1, 1) := by decide +kernel
theorem dX12_likes_2 : decode cX12_likes 2 = .ok (.invokevirtual 102, 3) := by decide +kernel
theorem dX12_likes_5 : decode cX12_likes 5 = .ok (.ifCond .eq 21, 3) := by decide +kernel
theorem dX12_likes_8 : decode cX12_likes 8 = .ok (.aload_n 0, 1) := by decide +kernel
theorem dX12_likes_9 : decode cX12_likes 9 = .ok (.iload_n 2, 1) := by decide +kernel
theorem dX12_likes_10 : decode cX12_likes 10 = .ok (.invokevirtual 70, 3) := by decide +kernel
theorem dX12_likes_13 : decode cX12_likes 13 = .ok (.ifCond .eq 13, 3) := by decide +kernel
theorem dX12_likes_16 : decode cX12_likes 16 = .ok (.iload_n 3, 1) := by decide +kernel
theorem dX12_likes_17 : decode cX12_likes 17 = .ok (.iconst 0, 1) := by decide +kernel
theorem dX12_likes_18 : decode cX12_likes 18 = .ok (.bipush 9, 2) := by decide +kernel
theorem dX12_likes_20 : decode cX12_likes 20 = .ok (.invokestatic 52, 3) := by decide +kernel
theorem dX12_likes_23 : decode cX12_likes 23 = .ok (.ifCond .ne 6, 3) := by decide +kernel
theorem dX12_likes_26 : decode cX12_likes 26 = .ok (.ldc 57, 2) := by decide +kernel
theorem dX12_likes_28 : decode cX12_likes 28 = .ok (.ireturn, 1) := by decide +kernel
theorem dX12_likes_29 : decode cX12_likes 29 = .ok (.aload_n 0, 1) := by decide +kernel
theorem dX12_likes_30 : decode cX12_likes 30 = .ok (.getfield 9, 3) := by decide +kernel
theorem dX12_likes_33 : decode cX12_likes 33 = .ok (.iload_n 1, 1) := by decide +kernel
theorem dX12_likes_34 : decode cX12_likes 34 = .ok (.iconst 5, 1) := by decide +kernel
theorem dX12_likes_35 : decode cX12_likes 35 = .ok (.iload_n 2, 1) := by decide +kernel
theorem dX12_likes_36 : decode cX12_likes 36 = .ok (.iadd, 1) := by decide +kernel
theorem dX12_likes_37 : decode cX12_likes 37 = .ok (.invokestatic 99, 3) := by decide +kernel
theorem dX12_likes_40 : decode cX12_likes 40 = .ok (.iaload, 1) := by decide +kernel
theorem dX12_likes_41 : decode cX12_likes 41 = .ok (.istore 4, 2) := by decide +kernel
theorem dX12_likes_43 : decode cX12_likes 43 = .ok (.aload_n 0, 1) := by decide +kernel
theorem dX12_likes_44 : decode cX12_likes 44 = .ok (.getfield 9, 3) := by decide +kernel
theorem dX12_likes_47 : decode cX12_likes 47 = .ok (.iload_n 1, 1) := by decide +kernel
theorem dX12_likes_48 : decode cX12_likes 48 = .ok (.iconst 5, 1) := by decide +kernel
theorem dX12_likes_49 : decode cX12_likes 49 = .ok (.iload_n 2, 1) := by decide +kernel
theorem dX12_likes_50 : decode cX12_likes 50 = .ok (.iadd, 1) := by decide +kernel
theorem dX12_likes_51 : decode cX12_likes 51 = .ok (.invokestatic 99, 3) := by decide +kernel
theorem dX12_likes_54 : decode cX12_likes 54 = .ok (.iload_n 3, 1) := by decide +kernel
theorem dX12_likes_55 : decode cX12_likes 55 = .ok (.iastore, 1) := by decide +kernel
theorem dX12_likes_56 : decode cX12_likes 56 = .ok (.iload 4, 2) := by decide +kernel
theorem dX12_likes_58 : decode cX12_likes 58 = .ok (.ireturn, 1) := by decide +kernel
theorem dX12_lot_0 : decode cX12_lot 0 = .ok (.aload_n 0, 1) := by decide +kernel
theorem dX12_lot_1 : decode cX12_lot 1 = .ok (.iload_n 1, 1) := by decide +kernel
theorem dX12_lot_2 : decode cX12_lot 2 = .ok (.invokevirtual 63, 3) := by decide +kernel
theorem dX12_lot_5 : decode cX12_lot 5 = .ok (.ifCond .eq 13, 3) := by decide +kernel
theorem dX12_lot_8 : decode cX12_lot 8 = .ok (.iload_n 2, 1) := by decide +kernel
theorem dX12_lot_9 : decode cX12_lot 9 = .ok (.iconst 1, 1) := by decide +kernel
theorem dX12_lot_10 : decode cX12_lot 10 = .ok (.ldc 56, 2) := by decide +kernel
theorem dX12_lot_12 : decode cX12_lot 12 = .ok (.invokestatic 52, 3) := by decide +kernel
theorem dX12_lot_15 : decode cX12_lot 15 = .ok (.ifCond .ne 6, 3) := by decide +kernel
theorem dX12_lot_18 : decode cX12_lot 18 = .ok (.ldc 57, 2) := by decide +kernel
theorem dX12_lot_20 : decode cX12_lot 20 = .ok (.ireturn, 1) := by decide +kernel
theorem dX12_lot_21 : decode cX12_lot 21 = .ok (.aload_n 0, 1) := by decide +kernel
theorem dX12_lot_22 : decode cX12_lot 22 = .ok (.getfield 9, 3) := by decide +kernel
theorem dX12_lot_25 : decode cX12_lot 25 = .ok (.bipush 7, 2) := by decide +kernel
theorem dX12_lot_27 : decode cX12_lot 27 = .ok (.iaload, 1) := by decide +kernel
theorem dX12_lot_28 : decode cX12_lot 28 = .ok (.istore_n 3, 1) := by decide +kernel
theorem dX12_lot_29 : decode cX12_lot 29 = .ok (.iload_n 3, 1) := by decide +kernel
theorem dX12_lot_30 : decode cX12_lot 30 = .ok (.bipush 40, 2) := by decide +kernel
theorem dX12_lot_32 : decode cX12_lot 32 = .ok (.if_icmp .ne 6, 3) := by decide +kernel
theorem dX12_lot_35 : decode cX12_lot 35 = .ok (.ldc 58, 2) := by decide +kernel
theorem dX12_lot_37 : decode cX12_lot 37 = .ok (.ireturn, 1) := by decide +kernel
theorem dX12_lot_38 : decode cX12_lot 38 = .ok (.aload_n 0, 1) := by decide +kernel
theorem dX12_lot_39 : decode cX12_lot 39 = .ok (.getfield 9, 3) := by decide +kernel
theorem dX12_lot_42 : decode cX12_lot 42 = .ok (.iload_n 3, 1) := by decide +kernel
theorem dX12_lot_43 : decode cX12_lot 43 = .ok (.iconst 0, 1) := by decide +kernel
theorem dX12_lot_44 : decode cX12_lot 44 = .ok (.invokestatic 261, 3) := by decide +kernel
theorem dX12_lot_47 : decode cX12_lot 47 = .ok (.iload_n 1, 1) := by decide +kernel
theorem dX12_lot_48 : decode cX12_lot 48 = .ok (.iastore, 1) := by decide +kernel
theorem dX12_lot_49 : decode cX12_lot 49 = .ok (.aload_n 0, 1) := by decide +kernel
theorem dX12_lot_50 : decode cX12_lot 50 = .ok (.getfield 9, 3) := by decide +kernel
theorem dX12_lot_53 : decode cX12_lot 53 = .ok (.iload_n 3, 1) := by decide +kernel
theorem dX12_lot_54 : decode cX12_lot 54 = .ok (.iconst 1, 1) := by decide +kernel
theorem dX12_lot_55 : decode cX12_lot 55 = .ok (.invokestatic 261, 3) := by decide +kernel
theorem dX12_lot_58 : decode cX12_lot 58 = .ok (.iload_n 2, 1) := by decide +kernel
theorem dX12_lot_59 : decode cX12_lot 59 = .ok (.iastore, 1) := by decide +kernel
theorem dX12_lot_60 : decode cX12_lot 60 = .ok (.aload_n 0, 1) := by decide +kernel
theorem dX12_lot_61 : decode cX12_lot 61 = .ok (.getfield 9, 3) := by decide +kernel
theorem dX12_lot_64 : decode cX12_lot 64 = .ok (.iload_n 3, 1) := by decide +kernel
theorem dX12_lot_65 : decode cX12_lot 65 = .ok (.iconst 2, 1) := by decide +kernel
theorem dX12_lot_66 : decode cX12_lot 66 = .ok (.invokestatic 261, 3) := by decide +kernel
theorem dX12_lot_69 : decode cX12_lot 69 = .ok (.aload_n 0, 1) := by decide +kernel
theorem dX12_lot_70 : decode cX12_lot 70 = .ok (.getfield 9, 3) := by decide +kernel
theorem dX12_lot_73 : decode cX12_lot 73 = .ok (.iconst 0, 1) := by decide +kernel
theorem dX12_lot_74 : decode cX12_lot 74 = .ok (.iaload, 1) := by decide +kernel
theorem dX12_lot_75 : decode cX12_lot 75 = .ok (.iastore, 1) := by decide +kernel
theorem dX12_lot_76 : decode cX12_lot 76 = .ok (.aload_n 0, 1) := by decide +kernel
theorem dX12_lot_77 : decode cX12_lot 77 = .ok (.getfield 9, 3) := by decide +kernel
theorem dX12_lot_80 : decode cX12_lot 80 = .ok (.iload_n 3, 1) := by decide +kernel
theorem dX12_lot_81 : decode cX12_lot 81 = .ok (.iconst 3, 1) := by decide +kernel
theorem dX12_lot_82 : decode cX12_lot 82 = .ok (.invokestatic 261, 3) := by decide +kernel
theorem dX12_lot_85 : decode cX12_lot 85 = .ok (.iload_n 2, 1) := by decide +kernel
theorem dX12_lot_86 : decode cX12_lot 86 = .ok (.iastore, 1) := by decide +kernel
theorem dX12_lot_87 : decode cX12_lot 87 = .ok (.aload_n 0, 1) := by decide +kernel
theorem dX12_lot_88 : decode cX12_lot 88 = .ok (.getfield 9, 3) := by decide +kernel
theorem dX12_lot_91 : decode cX12_lot 91 = .ok (.iload_n 3, 1) := by decide +kernel
theorem dX12_lot_92 : decode cX12_lot 92 = .ok (.iconst 4, 1) := by decide +kernel
theorem dX12_lot_93 : decode cX12_lot 93 = .ok (.invokestatic 261, 3) := by decide +kernel
theorem dX12_lot_96 : decode cX12_lot 96 = .ok (.iconst 0, 1) := by decide +kernel
theorem dX12_lot_97 : decode cX12_lot 97 = .ok (.iastore, 1) := by decide +kernel
theorem dX12_lot_98 : decode cX12_lot 98 = .ok (.aload_n 0, 1) := by decide +kernel
theorem dX12_lot_99 : decode cX12_lot 99 = .ok (.getfield 9, 3) := by decide +kernel
theorem dX12_lot_102 : decode cX12_lot 102 = .ok (.iload_n 1, 1) := by decide +kernel
theorem dX12_lot_103 : decode cX12_lot 103 = .ok (.iconst 5, 1) := by decide +kernel
theorem dX12_lot_104 : decode cX12_lot 104 = .ok (.invokestatic 59, 3) := by decide +kernel
theorem dX12_lot_107 : decode cX12_lot 107 = .ok (.dup2, 1) := by decide +kernel
theorem dX12_lot_108 : decode cX12_lot 108 = .ok (.iaload, 1) := by decide +kernel
theorem dX12_lot_109 : decode cX12_lot 109 = .ok (.iload_n 2, 1) := by decide +kernel
theorem dX12_lot_110 : decode cX12_lot 110 = .ok (.iadd, 1) := by decide +kernel
theorem dX12_lot_111 : decode cX12_lot 111 = .ok (.iastore, 1) := by decide +kernel
theorem dX12_lot_112 : decode cX12_lot 112 = .ok (.aload_n 0, 1) := by decide +kernel
theorem dX12_lot_113 : decode cX12_lot 113 = .ok (.getfield 9, 3) := by decide +kernel
theorem dX12_lot_116 : decode cX12_lot 116 = .ok (.bipush 7, 2) := by decide +kernel
theorem dX12_lot_118 : decode cX12_lot 118 = .ok (.dup2, 1) := by decide +kernel
theorem dX12_lot_119 : decode cX12_lot 119 = .ok (.iaload, 1) := by decide +kernel
theorem dX12_lot_120 : decode cX12_lot 120 = .ok (.iconst 1, 1) := by decide +kernel
theorem dX12_lot_121 : decode cX12_lot 121 = .ok (.iadd, 1) := by decide +kernel
theorem dX12_lot_122 : decode cX12_lot 122 = .ok (.iastore, 1) := by decide +kernel
theorem dX12_lot_123 : decode cX12_lot 123 = .ok (.iload_n 3, 1) := by decide +kernel
theorem dX12_lot_124 : decode cX12_lot 124 = .ok (.ireturn, 1) := by decide +kernel
theorem dX12_mark_0 : decode cX12_mark 0 = .ok (.iload_n 1, 1) := by decide +kernel
theorem dX12_mark_1 : decode cX12_mark 1 = .ok (.iconst 0, 1) := by decide +kernel
theorem dX12_mark_2 : decode cX12_mark 2 = .ok (.iconst 1, 1) := by decide +kernel
theorem dX12_mark_3 : decode cX12_mark 3 = .ok (.invokestatic 52, 3) := by decide +kernel
theorem dX12_mark_6 : decode cX12_mark 6 = .ok (.ifCond .ne 6, 3) := by decide +kernel
theorem dX12_mark_9 : decode cX12_mark 9 = .ok (.ldc 57, 2) := by decide +kernel
theorem dX12_mark_11 : decode cX12_mark 11 = .ok (.ireturn, 1) := by decide +kernel
theorem dX12_mark_12 : decode cX12_mark 12 = .ok (.aload_n 0, 1) := by decide +kernel
theorem dX12_mark_13 : decode cX12_mark 13 = .ok (.getfield 22, 3) := by decide +kernel
theorem dX12_mark_16 : decode cX12_mark 16 = .ok (.iload_n 1, 1) := by decide +kernel
theorem dX12_mark_17 : decode cX12_mark 17 = .ok (.iaload, 1) := by decide +kernel
theorem dX12_mark_18 : decode cX12_mark 18 = .ok (.ifCond .ge 6, 3) := by decide +kernel
theorem dX12_mark_21 : decode cX12_mark 21 = .ok (.ldc 105, 2) := by decide +kernel
theorem dX12_mark_23 : decode cX12_mark 23 = .ok (.ireturn, 1) := by decide +kernel
theorem dX12_mark_24 : decode cX12_mark 24 = .ok (.iload_n 2, 1) := by decide +kernel
theorem dX12_mark_25 : decode cX12_mark 25 = .ok (.iconst 0, 1) := by decide +kernel
theorem dX12_mark_26 : decode cX12_mark 26 = .ok (.aload_n 0, 1) := by decide +kernel
theorem dX12_mark_27 : decode cX12_mark 27 = .ok (.getfield 22, 3) := by decide +kernel
theorem dX12_mark_30 : decode cX12_mark 30 = .ok (.iload_n 1, 1) := by decide +kernel
theorem dX12_mark_31 : decode cX12_mark 31 = .ok (.iaload, 1) := by decide +kernel
theorem dX12_mark_32 : decode cX12_mark 32 = .ok (.iconst 1, 1) := by decide +kernel
theorem dX12_mark_33 : decode cX12_mark 33 = .ok (.isub, 1) := by decide +kernel
theorem dX12_mark_34 : decode cX12_mark 34 = .ok (.invokestatic 52, 3) := by decide +kernel
theorem dX12_mark_37 : decode cX12_mark 37 = .ok (.ifCond .ne 7, 3) := by decide +kernel
theorem dX12_mark_40 : decode cX12_mark 40 = .ok (.ldc_w 320, 3) := by decide +kernel
theorem dX12_mark_43 : decode cX12_mark 43 = .ok (.ireturn, 1) := by decide +kernel
theorem dX12_mark_44 : decode cX12_mark 44 = .ok (.aload_n 0, 1) := by decide +kernel
theorem dX12_mark_45 : decode cX12_mark 45 = .ok (.getfield 25, 3) := by decide +kernel
theorem dX12_mark_48 : decode cX12_mark 48 = .ok (.bipush 16, 2) := by decide +kernel
theorem dX12_mark_50 : decode cX12_mark 50 = .ok (.iload_n 1, 1) := by decide +kernel
theorem dX12_mark_51 : decode cX12_mark 51 = .ok (.imul, 1) := by decide +kernel
theorem dX12_mark_52 : decode cX12_mark 52 = .ok (.iload_n 2, 1) := by decide +kernel
theorem dX12_mark_53 : decode cX12_mark 53 = .ok (.iadd, 1) := by decide +kernel
theorem dX12_mark_54 : decode cX12_mark 54 = .ok (.iaload, 1) := by decide +kernel
theorem dX12_mark_55 : decode cX12_mark 55 = .ok (.istore 4, 2) := by decide +kernel
theorem dX12_mark_57 : decode cX12_mark 57 = .ok (.aload_n 0, 1) := by decide +kernel
theorem dX12_mark_58 : decode cX12_mark 58 = .ok (.getfield 25, 3) := by decide +kernel
theorem dX12_mark_61 : decode cX12_mark 61 = .ok (.bipush 16, 2) := by decide +kernel
theorem dX12_mark_63 : decode cX12_mark 63 = .ok (.iload_n 1, 1) := by decide +kernel
theorem dX12_mark_64 : decode cX12_mark 64 = .ok (.imul, 1) := by decide +kernel
theorem dX12_mark_65 : decode cX12_mark 65 = .ok (.iload_n 2, 1) := by decide +kernel
theorem dX12_mark_66 : decode cX12_mark 66 = .ok (.iadd, 1) := by decide +kernel
theorem dX12_mark_67 : decode cX12_mark 67 = .ok (.iload_n 3, 1) := by decide +kernel
theorem dX12_mark_68 : decode cX12_mark 68 = .ok (.i2s, 1) := by decide +kernel
theorem dX12_mark_69 : decode cX12_mark 69 = .ok (.iastore, 1) := by decide +kernel
theorem dX12_mark_70 : decode cX12_mark 70 = .ok (.iload 4, 2) := by decide +kernel
theorem dX12_mark_72 : decode cX12_mark 72 = .ok (.ireturn, 1) := by decide +kernel
theorem dX12_mayEat_0 : decode cX12_mayEat 0 = .ok (.aload_n 0, 1) := by decide +kernel
theorem dX12_mayEat_1 : decode cX12_mayEat 1 = .ok (.iload_n 2, 1) := by decide +kernel
theorem dX12_mayEat_2 : decode cX12_mayEat 2 = .ok (.invokevirtual 86, 3) := by decide +kernel
theorem dX12_mayEat_5 : decode cX12_mayEat 5 = .ok (.aload_n 0, 1) := by decide +kernel
theorem dX12_mayEat_6 : decode cX12_mayEat 6 = .ok (.getfield 9, 3) := by decide +kernel
theorem dX12_mayEat_9 : decode cX12_mayEat 9 = .ok (.iload_n 1, 1) := by decide +kernel
theorem dX12_mayEat_10 : decode cX12_mayEat 10 = .ok (.iconst 0, 1) := by decide +kernel
theorem dX12_mayEat_11 : decode cX12_mayEat 11 = .ok (.invokestatic 99, 3) := by decide +kernel
theorem dX12_mayEat_14 : decode cX12_mayEat 14 = .ok (.iaload, 1) := by decide +kernel
theorem dX12_mayEat_15 : decode cX12_mayEat 15 = .ok (.iand, 1) := by decide +kernel
theorem dX12_mayEat_16 : decode cX12_mayEat 16 = .ok (.ifCond .ne 28, 3) := by decide +kernel
theorem dX12_mayEat_19 : decode cX12_mayEat 19 = .ok (.aload_n 0, 1) := by decide +kernel
theorem dX12_mayEat_20 : decode cX12_mayEat 20 = .ok (.getfield 9, 3) := by decide +kernel
theorem dX12_mayEat_23 : decode cX12_mayEat 23 = .ok (.iload_n 1, 1) := by decide +kernel
theorem dX12_mayEat_24 : decode cX12_mayEat 24 = .ok (.iconst 2, 1) := by decide +kernel
theorem dX12_mayEat_25 : decode cX12_mayEat 25 = .ok (.invokestatic 99, 3) := by decide +kernel
theorem dX12_mayEat_28 : decode cX12_mayEat 28 = .ok (.iaload, 1) := by decide +kernel
theorem dX12_mayEat_29 : decode cX12_mayEat 29 = .ok (.ifCond .eq 11, 3) := by decide +kernel
theorem dX12_mayEat_32 : decode cX12_mayEat 32 = .ok (.aload_n 0, 1) := by decide +kernel
theorem dX12_mayEat_33 : decode cX12_mayEat 33 = .ok (.iload_n 2, 1) := by decide +kernel
theorem dX12_mayEat_34 : decode cX12_mayEat 34 = .ok (.invokevirtual 73, 3) := by decide +kernel
theorem dX12_mayEat_37 : decode cX12_mayEat 37 = .ok (.ifCond .eq 7, 3) := by decide +kernel
theorem dX12_mayEat_40 : decode cX12_mayEat 40 = .ok (.iconst 1, 1) := by decide +kernel
theorem dX12_mayEat_41 : decode cX12_mayEat 41 = .ok (.goto 4, 3) := by decide +kernel
theorem dX12_mayEat_44 : decode cX12_mayEat 44 = .ok (.iconst 0, 1) := by decide +kernel
theorem dX12_mayEat_45 : decode cX12_mayEat 45 = .ok (.ireturn, 1) := by decide +kernel
theorem dX12_maySwap_0 : decode cX12_maySwap 0 = .ok (.aload_n 0, 1) := by decide +kernel
theorem dX12_maySwap_1 : decode cX12_maySwap 1 = .ok (.getfield 28, 3) := by decide +kernel
theorem dX12_maySwap_4 : decode cX12_maySwap 4 = .ok (.bipush 14, 2) := by decide +kernel
theorem dX12_maySwap_6 : decode cX12_maySwap 6 = .ok (.iload_n 1, 1) := by decide +kernel
theorem dX12_maySwap_7 : decode cX12_maySwap 7 = .ok (.imul, 1) := by decide +kernel
theorem dX12_maySwap_8 : decode cX12_maySwap 8 = .ok (.iload_n 2, 1) := by decide +kernel
theorem dX12_maySwap_9 : decode cX12_maySwap 9 = .ok (.iadd, 1) := by decide +kernel
theorem dX12_maySwap_10 : decode cX12_maySwap 10 = .ok (.iaload, 1) := by decide +kernel
theorem dX12_maySwap_11 : decode cX12_maySwap 11 = .ok (.ifCond .le 21, 3) := by decide +kernel
theorem dX12_maySwap_14 : decode cX12_maySwap 14 = .ok (.aload_n 0, 1) := by decide +kernel
theorem dX12_maySwap_15 : decode cX12_maySwap 15 = .ok (.getfield 28, 3) := by decide +kernel
theorem dX12_maySwap_18 : decode cX12_maySwap 18 = .ok (.bipush 14, 2) := by decide +kernel
theorem dX12_maySwap_20 : decode cX12_maySwap 20 = .ok (.iload_n 1, 1) := by decide +kernel
theorem dX12_maySwap_21 : decode cX12_maySwap 21 = .ok (.imul, 1) := by decide +kernel
theorem dX12_maySwap_22 : decode cX12_maySwap 22 = .ok (.iload_n 3, 1) := by decide +kernel
theorem dX12_maySwap_23 : decode cX12_maySwap 23 = .ok (.iadd, 1) := by decide +kernel
theorem dX12_maySwap_24 : decode cX12_maySwap 24 = .ok (.iaload, 1) := by decide +kernel
theorem dX12_maySwap_25 : decode cX12_maySwap 25 = .ok (.ifCond .ne 7, 3) := by decide +kernel
theorem dX12_maySwap_28 : decode cX12_maySwap 28 = .ok (.iconst 1, 1) := by decide +kernel
theorem dX12_maySwap_29 : decode cX12_maySwap 29 = .ok (.goto 4, 3) := by decide +kernel
theorem dX12_maySwap_32 : decode cX12_maySwap 32 = .ok (.iconst 0, 1) := by decide +kernel
theorem dX12_maySwap_33 : decode cX12_maySwap 33 = .ok (.istore 4, 2) := by decide +kernel
theorem dX12_maySwap_35 : decode cX12_maySwap 35 = .ok (.aload_n 0, 1) := by decide +kernel
theorem dX12_maySwap_36 : decode cX12_maySwap 36 = .ok (.getfield 9, 3) := by decide +kernel
theorem dX12_maySwap_39 : decode cX12_maySwap 39 = .ok (.iload_n 2, 1) := by decide +kernel
theorem dX12_maySwap_40 : decode cX12_maySwap 40 = .ok (.iconst 3, 1) := by decide +kernel
theorem dX12_maySwap_41 : decode cX12_maySwap 41 = .ok (.invokestatic 59, 3) := by decide +kernel
theorem dX12_maySwap_44 : decode cX12_maySwap 44 = .ok (.iaload, 1) := by decide +kernel
theorem dX12_maySwap_45 : decode cX12_maySwap 45 = .ok (.aload_n 0, 1) := by decide +kernel
theorem dX12_maySwap_46 : decode cX12_maySwap 46 = .ok (.getfield 9, 3) := by decide +kernel
theorem dX12_maySwap_49 : decode cX12_maySwap 49 = .ok (.iload_n 3, 1) := by decide +kernel
theorem dX12_maySwap_50 : decode cX12_maySwap 50 = .ok (.iconst 3, 1) := by decide +kernel
theorem dX12_maySwap_51 : decode cX12_maySwap 51 = .ok (.invokestatic 59, 3) := by decide +kernel
theorem dX12_maySwap_54 : decode cX12_maySwap 54 = .ok (.iaload, 1) := by decide +kernel
theorem dX12_maySwap_55 : decode cX12_maySwap 55 = .ok (.if_icmp .ne 7, 3) := by decide +kernel
theorem dX12_maySwap_58 : decode cX12_maySwap 58 = .ok (.iconst 1, 1) := by decide +kernel
theorem dX12_maySwap_59 : decode cX12_maySwap 59 = .ok (.goto 4, 3) := by decide +kernel
theorem dX12_maySwap_62 : decode cX12_maySwap 62 = .ok (.iconst 0, 1) := by decide +kernel
theorem dX12_maySwap_63 : decode cX12_maySwap 63 = .ok (.istore 5, 2) := by decide +kernel
theorem dX12_maySwap_65 : decode cX12_maySwap 65 = .ok (.iload 4, 2) := by decide +kernel
theorem dX12_maySwap_67 : decode cX12_maySwap 67 = .ok (.ifCond .eq 36, 3) := by decide +kernel
theorem dX12_maySwap_70 : decode cX12_maySwap 70 = .ok (.iload 5, 2) := by decide +kernel
theorem dX12_maySwap_72 : decode cX12_maySwap 72 = .ok (.ifCond .eq 31, 3) := by decide +kernel
theorem dX12_maySwap_75 : decode cX12_maySwap 75 = .ok (.aload_n 0, 1) := by decide +kernel
theorem dX12_maySwap_76 : decode cX12_maySwap 76 = .ok (.getfield 9, 3) := by decide +kernel
theorem dX12_maySwap_79 : decode cX12_maySwap 79 = .ok (.iload_n 3, 1) := by decide +kernel
theorem dX12_maySwap_80 : decode cX12_maySwap 80 = .ok (.iconst 0, 1) := by decide +kernel
theorem dX12_maySwap_81 : decode cX12_maySwap 81 = .ok (.invokestatic 59, 3) := by decide +kernel
theorem dX12_maySwap_84 : decode cX12_maySwap 84 = .ok (.iaload, 1) := by decide +kernel
theorem dX12_maySwap_85 : decode cX12_maySwap 85 = .ok (.aload_n 0, 1) := by decide +kernel
theorem dX12_maySwap_86 : decode cX12_maySwap 86 = .ok (.getfield 9, 3) := by decide +kernel
theorem dX12_maySwap_89 : decode cX12_maySwap 89 = .ok (.iload_n 1, 1) := by decide +kernel
theorem dX12_maySwap_90 : decode cX12_maySwap 90 = .ok (.iconst 0, 1) := by decide +kernel
theorem dX12_maySwap_91 : decode cX12_maySwap 91 = .ok (.invokestatic 99, 3) := by decide +kernel
theorem dX12_maySwap_94 : decode cX12_maySwap 94 = .ok (.iaload, 1) := by decide +kernel
theorem dX12_maySwap_95 : decode cX12_maySwap 95 = .ok (.iand, 1) := by decide +kernel
theorem dX12_maySwap_96 : decode cX12_maySwap 96 = .ok (.ifCond .ne 7, 3) := by decide +kernel
theorem dX12_maySwap_99 : decode cX12_maySwap 99 = .ok (.iconst 1, 1) := by decide +kernel
theorem dX12_maySwap_100 : decode cX12_maySwap 100 = .ok (.goto 4, 3) := by decide +kernel
theorem dX12_maySwap_103 : decode cX12_maySwap 103 = .ok (.iconst 0, 1) := by decide +kernel
theorem dX12_maySwap_104 : decode cX12_maySwap 104 = .ok (.ireturn, 1) := by decide +kernel
theorem dX12_may_0 : decode cX12_may 0 = .ok (.aload_n 0, 1) := by decide +kernel
theorem dX12_may_1 : decode cX12_may 1 = .ok (.iload_n 1, 1) := by decide +kernel
theorem dX12_may_2 : decode cX12_may 2 = .ok (.invokevirtual 102, 3) := by decide +kernel
theorem dX12_may_5 : decode cX12_may 5 = .ok (.ifCond .eq 11, 3) := by decide +kernel
theorem dX12_may_8 : decode cX12_may 8 = .ok (.aload_n 0, 1) := by decide +kernel
theorem dX12_may_9 : decode cX12_may 9 = .ok (.iload_n 2, 1) := by decide +kernel
theorem dX12_may_10 : decode cX12_may 10 = .ok (.invokevirtual 70, 3) := by decide +kernel
theorem dX12_may_13 : decode cX12_may 13 = .ok (.ifCond .ne 8, 3) := by decide +kernel
theorem dX12_may_16 : decode cX12_may 16 = .ok (.ldc 57, 2) := by decide +kernel
theorem dX12_may_18 : decode cX12_may 18 = .ok (.goto 17, 3) := by decide +kernel
theorem dX12_may_21 : decode cX12_may 21 = .ok (.aload_n 0, 1) := by decide +kernel
theorem dX12_may_22 : decode cX12_may 22 = .ok (.iload_n 1, 1) := by decide +kernel
theorem dX12_may_23 : decode cX12_may 23 = .ok (.iload_n 2, 1) := by decide +kernel
theorem dX12_may_24 : decode cX12_may 24 = .ok (.invokevirtual 106, 3) := by decide +kernel
theorem dX12_may_27 : decode cX12_may 27 = .ok (.ifCond .eq 7, 3) := by decide +kernel
theorem dX12_may_30 : decode cX12_may 30 = .ok (.iconst 1, 1) := by decide +kernel
theorem dX12_may_31 : decode cX12_may 31 = .ok (.goto 4, 3) := by decide +kernel
theorem dX12_may_34 : decode cX12_may 34 = .ok (.iconst 0, 1) := by decide +kernel
theorem dX12_may_35 : decode cX12_may 35 = .ok (.ireturn, 1) := by decide +kernel
theorem dX12_meal_0 : decode cX12_meal 0 = .ok (.iload_n 1, 1) := by decide +kernel
theorem dX12_meal_1 : decode cX12_meal 1 = .ok (.iconst 0, 1) := by decide +kernel
theorem dX12_meal_2 : decode cX12_meal 2 = .ok (.iconst 3, 1) := by decide +kernel
theorem dX12_meal_3 : decode cX12_meal 3 = .ok (.invokestatic 52, 3) := by decide +kernel
theorem dX12_meal_6 : decode cX12_meal 6 = .ok (.ifCond .eq 13, 3) := by decide +kernel
theorem dX12_meal_9 : decode cX12_meal 9 = .ok (.iload_n 2, 1) := by decide +kernel
theorem dX12_meal_10 : decode cX12_meal 10 = .ok (.iconst 0, 1) := by decide +kernel
theorem dX12_meal_11 : decode cX12_meal 11 = .ok (.bipush 15, 2) := by decide +kernel
theorem dX12_meal_13 : decode cX12_meal 13 = .ok (.invokestatic 52, 3) := by decide +kernel
theorem dX12_meal_16 : decode cX12_meal 16 = .ok (.ifCond .ne 6, 3) := by decide +kernel
theorem dX12_meal_19 : decode cX12_meal 19 = .ok (.ldc 57, 2) := by decide +kernel
theorem dX12_meal_21 : decode cX12_meal 21 = .ok (.ireturn, 1) := by decide +kernel
theorem dX12_meal_22 : decode cX12_meal 22 = .ok (.aload_n 0, 1) := by decide +kernel
theorem dX12_meal_23 : decode cX12_meal 23 = .ok (.getfield 9, 3) := by decide +kernel
theorem dX12_meal_26 : decode cX12_meal 26 = .ok (.iconst 5, 1) := by decide +kernel
theorem dX12_meal_27 : decode cX12_meal 27 = .ok (.iaload, 1) := by decide +kernel
theorem dX12_meal_28 : decode cX12_meal 28 = .ok (.istore_n 3, 1) := by decide +kernel
theorem dX12_meal_29 : decode cX12_meal 29 = .ok (.iload_n 3, 1) := by decide +kernel
theorem dX12_meal_30 : decode cX12_meal 30 = .ok (.bipush 10, 2) := by decide +kernel
theorem dX12_meal_32 : decode cX12_meal 32 = .ok (.if_icmp .ne 6, 3) := by decide +kernel
theorem dX12_meal_35 : decode cX12_meal 35 = .ok (.ldc 58, 2) := by decide +kernel
theorem dX12_meal_37 : decode cX12_meal 37 = .ok (.ireturn, 1) := by decide +kernel
theorem dX12_meal_38 : decode cX12_meal 38 = .ok (.aload_n 0, 1) := by decide +kernel
theorem dX12_meal_39 : decode cX12_meal 39 = .ok (.getfield 9, 3) := by decide +kernel
theorem dX12_meal_42 : decode cX12_meal 42 = .ok (.iload_n 3, 1) := by decide +kernel
theorem dX12_meal_43 : decode cX12_meal 43 = .ok (.iconst 0, 1) := by decide +kernel
theorem dX12_meal_44 : decode cX12_meal 44 = .ok (.invokestatic 67, 3) := by decide +kernel
theorem dX12_meal_47 : decode cX12_meal 47 = .ok (.iload_n 1, 1) := by decide +kernel
theorem dX12_meal_48 : decode cX12_meal 48 = .ok (.iastore, 1) := by decide +kernel
theorem dX12_meal_49 : decode cX12_meal 49 = .ok (.aload_n 0, 1) := by decide +kernel
theorem dX12_meal_50 : decode cX12_meal 50 = .ok (.getfield 9, 3) := by decide +kernel
theorem dX12_meal_53 : decode cX12_meal 53 = .ok (.iload_n 3, 1) := by decide +kernel
theorem dX12_meal_54 : decode cX12_meal 54 = .ok (.iconst 1, 1) := by decide +kernel
theorem dX12_meal_55 : decode cX12_meal 55 = .ok (.invokestatic 67, 3) := by decide +kernel
theorem dX12_meal_58 : decode cX12_meal 58 = .ok (.iload_n 2, 1) := by decide +kernel
theorem dX12_meal_59 : decode cX12_meal 59 = .ok (.iastore, 1) := by decide +kernel
theorem dX12_meal_60 : decode cX12_meal 60 = .ok (.aload_n 0, 1) := by decide +kernel
theorem dX12_meal_61 : decode cX12_meal 61 = .ok (.getfield 9, 3) := by decide +kernel
theorem dX12_meal_64 : decode cX12_meal 64 = .ok (.iconst 5, 1) := by decide +kernel
theorem dX12_meal_65 : decode cX12_meal 65 = .ok (.dup2, 1) := by decide +kernel
theorem dX12_meal_66 : decode cX12_meal 66 = .ok (.iaload, 1) := by decide +kernel
theorem dX12_meal_67 : decode cX12_meal 67 = .ok (.iconst 1, 1) := by decide +kernel
theorem dX12_meal_68 : decode cX12_meal 68 = .ok (.iadd, 1) := by decide +kernel
theorem dX12_meal_69 : decode cX12_meal 69 = .ok (.iastore, 1) := by decide +kernel
theorem dX12_meal_70 : decode cX12_meal 70 = .ok (.iload_n 3, 1) := by decide +kernel
theorem dX12_meal_71 : decode cX12_meal 71 = .ok (.ireturn, 1) := by decide +kernel
theorem dX12_menuFrom_0 : decode cX12_menuFrom 0 = .ok (.iload_n 2, 1) := by decide +kernel
theorem dX12_menuFrom_1 : decode cX12_menuFrom 1 = .ok (.ifCond .ne 9, 3) := by decide +kernel
theorem dX12_menuFrom_4 : decode cX12_menuFrom 4 = .ok (.aload_n 0, 1) := by decide +kernel
theorem dX12_menuFrom_5 : decode cX12_menuFrom 5 = .ok (.iload_n 3, 1) := by decide +kernel
theorem dX12_menuFrom_6 : decode cX12_menuFrom 6 = .ok (.invokevirtual 247, 3) := by decide +kernel
theorem dX12_menuFrom_9 : decode cX12_menuFrom 9 = .ok (.return_, 1) := by decide +kernel
theorem dX12_menuFrom_10 : decode cX12_menuFrom 10 = .ok (.iload_n 1, 1) := by decide +kernel
theorem dX12_menuFrom_11 : decode cX12_menuFrom 11 = .ok (.istore 5, 2) := by decide +kernel
theorem dX12_menuFrom_13 : decode cX12_menuFrom 13 = .ok (.iload 5, 2) := by decide +kernel
theorem dX12_menuFrom_15 : decode cX12_menuFrom 15 = .ok (.aload_n 0, 1) := by decide +kernel
theorem dX12_menuFrom_16 : decode cX12_menuFrom 16 = .ok (.getfield 9, 3) := by decide +kernel
theorem dX12_menuFrom_19 : decode cX12_menuFrom 19 = .ok (.iconst 5, 1) := by decide +kernel
theorem dX12_menuFrom_20 : decode cX12_menuFrom 20 = .ok (.iaload, 1) := by decide +kernel
theorem dX12_menuFrom_21 : decode cX12_menuFrom 21 = .ok (.if_icmp .ge 99, 3) := by decide +kernel
theorem dX12_menuFrom_24 : decode cX12_menuFrom 24 = .ok (.aload_n 0, 1) := by decide +kernel
theorem dX12_menuFrom_25 : decode cX12_menuFrom 25 = .ok (.getfield 250, 3) := by decide +kernel
theorem dX12_menuFrom_28 : decode cX12_menuFrom 28 = .ok (.ifCond .ne 92, 3) := by decide +kernel
theorem dX12_menuFrom_31 : decode cX12_menuFrom 31 = .ok (.aload_n 0, 1) := by decide +kernel
theorem dX12_menuFrom_32 : decode cX12_menuFrom 32 = .ok (.getfield 9, 3) := by decide +kernel
theorem dX12_menuFrom_35 : decode cX12_menuFrom 35 = .ok (.iload 5, 2) := by decide +kernel
theorem dX12_menuFrom_37 : decode cX12_menuFrom 37 = .ok (.iconst 1, 1) := by decide +kernel
theorem dX12_menuFrom_38 : decode cX12_menuFrom 38 = .ok (.invokestatic 67, 3) := by decide +kernel
theorem dX12_menuFrom_41 : decode cX12_menuFrom 41 = .ok (.iaload, 1) := by decide +kernel
theorem dX12_menuFrom_42 : decode cX12_menuFrom 42 = .ok (.istore 6, 2) := by decide +kernel
theorem dX12_menuFrom_44 : decode cX12_menuFrom 44 = .ok (.iload 4, 2) := by decide +kernel
theorem dX12_menuFrom_46 : decode cX12_menuFrom 46 = .ok (.iload 6, 2) := by decide +kernel
theorem dX12_menuFrom_48 : decode cX12_menuFrom 48 = .ok (.invokestatic 76, 3) := by decide +kernel
theorem dX12_menuFrom_51 : decode cX12_menuFrom 51 = .ok (.ifCond .eq 6, 3) := by decide +kernel
theorem dX12_menuFrom_54 : decode cX12_menuFrom 54 = .ok (.goto 60, 3) := by decide +kernel
theorem dX12_menuFrom_57 : decode cX12_menuFrom 57 = .ok (.aload_n 0, 1) := by decide +kernel
theorem dX12_menuFrom_58 : decode cX12_menuFrom 58 = .ok (.aload_n 0, 1) := by decide +kernel
theorem dX12_menuFrom_59 : decode cX12_menuFrom 59 = .ok (.getfield 253, 3) := by decide +kernel
theorem dX12_menuFrom_62 : decode cX12_menuFrom 62 = .ok (.ifCond .ne 7, 3) := by decide +kernel
theorem dX12_menuFrom_65 : decode cX12_menuFrom 65 = .ok (.iconst 1, 1) := by decide +kernel
theorem dX12_menuFrom_66 : decode cX12_menuFrom 66 = .ok (.goto 4, 3) := by decide +kernel
theorem dX12_menuFrom_69 : decode cX12_menuFrom 69 = .ok (.iconst 0, 1) := by decide +kernel
theorem dX12_menuFrom_70 : decode cX12_menuFrom 70 = .ok (.putfield 250, 3) := by decide +kernel
theorem dX12_menuFrom_73 : decode cX12_menuFrom 73 = .ok (.aload_n 0, 1) := by decide +kernel
theorem dX12_menuFrom_74 : decode cX12_menuFrom 74 = .ok (.getfield 250, 3) := by decide +kernel
theorem dX12_menuFrom_77 : decode cX12_menuFrom 77 = .ok (.ifCond .ne 37, 3) := by decide +kernel
theorem dX12_menuFrom_80 : decode cX12_menuFrom 80 = .ok (.aload_n 0, 1) := by decide +kernel
theorem dX12_menuFrom_81 : decode cX12_menuFrom 81 = .ok (.dup, 1) := by decide +kernel
theorem dX12_menuFrom_82 : decode cX12_menuFrom 82 = .ok (.getfield 253, 3) := by decide +kernel
theorem dX12_menuFrom_85 : decode cX12_menuFrom 85 = .ok (.iconst 1, 1) := by decide +kernel
theorem dX12_menuFrom_86 : decode cX12_menuFrom 86 = .ok (.isub, 1) := by decide +kernel
theorem dX12_menuFrom_87 : decode cX12_menuFrom 87 = .ok (.putfield 253, 3) := by decide +kernel
theorem dX12_menuFrom_90 : decode cX12_menuFrom 90 = .ok (.aload_n 0, 1) := by decide +kernel
theorem dX12_menuFrom_91 : decode cX12_menuFrom 91 = .ok (.iload 5, 2) := by decide +kernel
theorem dX12_menuFrom_93 : decode cX12_menuFrom 93 = .ok (.iconst 1, 1) := by decide +kernel
theorem dX12_menuFrom_94 : decode cX12_menuFrom 94 = .ok (.iadd, 1) := by decide +kernel
theorem dX12_menuFrom_95 : decode cX12_menuFrom 95 = .ok (.iload_n 2, 1) := by decide +kernel
theorem dX12_menuFrom_96 : decode cX12_menuFrom 96 = .ok (.iconst 1, 1) := by decide +kernel
theorem dX12_menuFrom_97 : decode cX12_menuFrom 97 = .ok (.isub, 1) := by decide +kernel
theorem dX12_menuFrom_98 : decode cX12_menuFrom 98 = .ok (.iload_n 3, 1) := by decide +kernel
theorem dX12_menuFrom_99 : decode cX12_menuFrom 99 = .ok (.iconst 1, 1) := by decide +kernel
theorem dX12_menuFrom_100 : decode cX12_menuFrom 100 = .ok (.iload 5, 2) := by decide +kernel
theorem dX12_menuFrom_102 : decode cX12_menuFrom 102 = .ok (.ishl, 1) := by decide +kernel
theorem dX12_menuFrom_103 : decode cX12_menuFrom 103 = .ok (.ior, 1) := by decide +kernel
theorem dX12_menuFrom_104 : decode cX12_menuFrom 104 = .ok (.iload 4, 2) := by decide +kernel
theorem dX12_menuFrom_106 : decode cX12_menuFrom 106 = .ok (.iconst 1, 1) := by decide +kernel
theorem dX12_menuFrom_107 : decode cX12_menuFrom 107 = .ok (.iload 6, 2) := by decide +kernel
theorem dX12_menuFrom_109 : decode cX12_menuFrom 109 = .ok (.ishl, 1) := by decide +kernel
theorem dX12_menuFrom_110 : decode cX12_menuFrom 110 = .ok (.ior, 1) := by decide +kernel
theorem dX12_menuFrom_111 : decode cX12_menuFrom 111 = .ok (.invokevirtual 256, 3) := by decide +kernel
theorem dX12_menuFrom_114 : decode cX12_menuFrom 114 = .ok (.iinc 5 1, 3) := by decide +kernel
theorem dX12_menuFrom_117 : decode cX12_menuFrom 117 = .ok (.goto (-104), 3) := by decide +kernel
theorem dX12_menuFrom_120 : decode cX12_menuFrom 120 = .ok (.return_, 1) := by decide +kernel
theorem dX12_menu_0 : decode cX12_menu 0 = .ok (.aload_n 0, 1) := by decide +kernel
theorem dX12_menu_1 : decode cX12_menu 1 = .ok (.iload_n 1, 1) := by decide +kernel
theorem dX12_menu_2 : decode cX12_menu 2 = .ok (.invokevirtual 232, 3) := by decide +kernel
theorem dX12_menu_5 : decode cX12_menu 5 = .ok (.ifCond .ne 6, 3) := by decide +kernel
theorem dX12_menu_8 : decode cX12_menu 8 = .ok (.ldc 57, 2) := by decide +kernel
theorem dX12_menu_10 : decode cX12_menu 10 = .ok (.ireturn, 1) := by decide +kernel
theorem dX12_menu_11 : decode cX12_menu 11 = .ok (.aload_n 0, 1) := by decide +kernel
theorem dX12_menu_12 : decode cX12_menu 12 = .ok (.getfield 9, 3) := by decide +kernel
theorem dX12_menu_15 : decode cX12_menu 15 = .ok (.iconst 3, 1) := by decide +kernel
theorem dX12_menu_16 : decode cX12_menu 16 = .ok (.iaload, 1) := by decide +kernel
theorem dX12_menu_17 : decode cX12_menu 17 = .ok (.iconst 1, 1) := by decide +kernel
theorem dX12_menu_18 : decode cX12_menu 18 = .ok (.if_icmp .ne 6, 3) := by decide +kernel
theorem dX12_menu_21 : decode cX12_menu 21 = .ok (.ldc 80, 2) := by decide +kernel
theorem dX12_menu_23 : decode cX12_menu 23 = .ok (.ireturn, 1) := by decide +kernel
theorem dX12_menu_24 : decode cX12_menu 24 = .ok (.aload_n 0, 1) := by decide +kernel
theorem dX12_menu_25 : decode cX12_menu 25 = .ok (.getfield 9, 3) := by decide +kernel
theorem dX12_menu_28 : decode cX12_menu 28 = .ok (.bipush 8, 2) := by decide +kernel
theorem dX12_menu_30 : decode cX12_menu 30 = .ok (.iload_n 1, 1) := by decide +kernel
theorem dX12_menu_31 : decode cX12_menu 31 = .ok (.iastore, 1) := by decide +kernel
theorem dX12_menu_32 : decode cX12_menu 32 = .ok (.iconst 0, 1) := by decide +kernel
theorem dX12_menu_33 : decode cX12_menu 33 = .ok (.istore_n 2, 1) := by decide +kernel
theorem dX12_menu_34 : decode cX12_menu 34 = .ok (.iload_n 2, 1) := by decide +kernel
theorem dX12_menu_35 : decode cX12_menu 35 = .ok (.aload_n 0, 1) := by decide +kernel
theorem dX12_menu_36 : decode cX12_menu 36 = .ok (.getfield 9, 3) := by decide +kernel
theorem dX12_menu_39 : decode cX12_menu 39 = .ok (.bipush 6, 2) := by decide +kernel
theorem dX12_menu_41 : decode cX12_menu 41 = .ok (.iaload, 1) := by decide +kernel
theorem dX12_menu_42 : decode cX12_menu 42 = .ok (.if_icmp .ge 20, 3) := by decide +kernel
theorem dX12_menu_45 : decode cX12_menu 45 = .ok (.aload_n 0, 1) := by decide +kernel
theorem dX12_menu_46 : decode cX12_menu 46 = .ok (.getfield 9, 3) := by decide +kernel
theorem dX12_menu_49 : decode cX12_menu 49 = .ok (.iload_n 2, 1) := by decide +kernel
theorem dX12_menu_50 : decode cX12_menu 50 = .ok (.iconst 4, 1) := by decide +kernel
theorem dX12_menu_51 : decode cX12_menu 51 = .ok (.invokestatic 99, 3) := by decide +kernel
theorem dX12_menu_54 : decode cX12_menu 54 = .ok (.iconst 0, 1) := by decide +kernel
theorem dX12_menu_55 : decode cX12_menu 55 = .ok (.iastore, 1) := by decide +kernel
theorem dX12_menu_56 : decode cX12_menu 56 = .ok (.iinc 2 1, 3) := by decide +kernel
theorem dX12_menu_59 : decode cX12_menu 59 = .ok (.goto (-25), 3) := by decide +kernel
theorem dX12_menu_62 : decode cX12_menu 62 = .ok (.iload_n 1, 1) := by decide +kernel
theorem dX12_menu_63 : decode cX12_menu 63 = .ok (.invokestatic 109, 3) := by decide +kernel
theorem dX12_menu_66 : decode cX12_menu 66 = .ok (.ireturn, 1) := by decide +kernel
theorem dX12_mostPicks_0 : decode cX12_mostPicks 0 = .ok (.iconst 0, 1) := by decide +kernel
theorem dX12_mostPicks_1 : decode cX12_mostPicks 1 = .ok (.istore_n 2, 1) := by decide +kernel
theorem dX12_mostPicks_2 : decode cX12_mostPicks 2 = .ok (.iconst 0, 1) := by decide +kernel
theorem dX12_mostPicks_3 : decode cX12_mostPicks 3 = .ok (.istore_n 3, 1) := by decide +kernel
theorem dX12_mostPicks_4 : decode cX12_mostPicks 4 = .ok (.iload_n 3, 1) := by decide +kernel
theorem dX12_mostPicks_5 : decode cX12_mostPicks 5 = .ok (.bipush 8, 2) := by decide +kernel
theorem dX12_mostPicks_7 : decode cX12_mostPicks 7 = .ok (.if_icmp .ge 25, 3) := by decide +kernel
theorem dX12_mostPicks_10 : decode cX12_mostPicks 10 = .ok (.iload_n 2, 1) := by decide +kernel
theorem dX12_mostPicks_11 : decode cX12_mostPicks 11 = .ok (.aload_n 0, 1) := by decide +kernel
theorem dX12_mostPicks_12 : decode cX12_mostPicks 12 = .ok (.iload_n 3, 1) := by decide +kernel
theorem dX12_mostPicks_13 : decode cX12_mostPicks 13 = .ok (.iconst 2, 1) := by decide +kernel
theorem dX12_mostPicks_14 : decode cX12_mostPicks 14 = .ok (.idiv, 1) := by decide +kernel
theorem dX12_mostPicks_15 : decode cX12_mostPicks 15 = .ok (.iload_n 3, 1) := by decide +kernel
theorem dX12_mostPicks_16 : decode cX12_mostPicks 16 = .ok (.iconst 2, 1) := by decide +kernel
theorem dX12_mostPicks_17 : decode cX12_mostPicks 17 = .ok (.irem, 1) := by decide +kernel
theorem dX12_mostPicks_18 : decode cX12_mostPicks 18 = .ok (.iload_n 1, 1) := by decide +kernel
theorem dX12_mostPicks_19 : decode cX12_mostPicks 19 = .ok (.invokevirtual 307, 3) := by decide +kernel
theorem dX12_mostPicks_22 : decode cX12_mostPicks 22 = .ok (.invokestatic 81, 3) := by decide +kernel
theorem dX12_mostPicks_25 : decode cX12_mostPicks 25 = .ok (.istore_n 2, 1) := by decide +kernel
theorem dX12_mostPicks_26 : decode cX12_mostPicks 26 = .ok (.iinc 3 1, 3) := by decide +kernel
theorem dX12_mostPicks_29 : decode cX12_mostPicks 29 = .ok (.goto (-25), 3) := by decide +kernel
theorem dX12_mostPicks_32 : decode cX12_mostPicks 32 = .ok (.iload_n 2, 1) := by decide +kernel
theorem dX12_mostPicks_33 : decode cX12_mostPicks 33 = .ok (.ireturn, 1) := by decide +kernel
theorem dX12_moves_0 : decode cX12_moves 0 = .ok (.aload_n 0, 1) := by decide +kernel
theorem dX12_moves_1 : decode cX12_moves 1 = .ok (.getfield 28, 3) := by decide +kernel
theorem dX12_moves_4 : decode cX12_moves 4 = .ok (.bipush 14, 2) := by decide +kernel
theorem dX12_moves_6 : decode cX12_moves 6 = .ok (.iload_n 1, 1) := by decide +kernel
theorem dX12_moves_7 : decode cX12_moves 7 = .ok (.imul, 1) := by decide +kernel
theorem dX12_moves_8 : decode cX12_moves 8 = .ok (.iload_n 3, 1) := by decide +kernel
theorem dX12_moves_9 : decode cX12_moves 9 = .ok (.iadd, 1) := by decide +kernel
theorem dX12_moves_10 : decode cX12_moves 10 = .ok (.aload_n 0, 1) := by decide +kernel
theorem dX12_moves_11 : decode cX12_moves 11 = .ok (.getfield 28, 3) := by decide +kernel
theorem dX12_moves_14 : decode cX12_moves 14 = .ok (.bipush 14, 2) := by decide +kernel
theorem dX12_moves_16 : decode cX12_moves 16 = .ok (.iload_n 1, 1) := by decide +kernel
theorem dX12_moves_17 : decode cX12_moves 17 = .ok (.imul, 1) := by decide +kernel
theorem dX12_moves_18 : decode cX12_moves 18 = .ok (.iload_n 2, 1) := by decide +kernel
theorem dX12_moves_19 : decode cX12_moves 19 = .ok (.iadd, 1) := by decide +kernel
theorem dX12_moves_20 : decode cX12_moves 20 = .ok (.iaload, 1) := by decide +kernel
theorem dX12_moves_21 : decode cX12_moves 21 = .ok (.iastore, 1) := by decide +kernel
theorem dX12_moves_22 : decode cX12_moves 22 = .ok (.aload_n 0, 1) := by decide +kernel
theorem dX12_moves_23 : decode cX12_moves 23 = .ok (.getfield 28, 3) := by decide +kernel
theorem dX12_moves_26 : decode cX12_moves 26 = .ok (.bipush 14, 2) := by decide +kernel
theorem dX12_moves_28 : decode cX12_moves 28 = .ok (.iload_n 1, 1) := by decide +kernel
theorem dX12_moves_29 : decode cX12_moves 29 = .ok (.imul, 1) := by decide +kernel
theorem dX12_moves_30 : decode cX12_moves 30 = .ok (.iload_n 2, 1) := by decide +kernel
theorem dX12_moves_31 : decode cX12_moves 31 = .ok (.iadd, 1) := by decide +kernel
theorem dX12_moves_32 : decode cX12_moves 32 = .ok (.iconst 0, 1) := by decide +kernel
theorem dX12_moves_33 : decode cX12_moves 33 = .ok (.iastore, 1) := by decide +kernel
theorem dX12_moves_34 : decode cX12_moves 34 = .ok (.return_, 1) := by decide +kernel
theorem dX12_needOf_0 : decode cX12_needOf 0 = .ok (.iconst 0, 1) := by decide +kernel
theorem dX12_needOf_1 : decode cX12_needOf 1 = .ok (.istore_n 2, 1) := by decide +kernel
theorem dX12_needOf_2 : decode cX12_needOf 2 = .ok (.iconst 0, 1) := by decide +kernel
theorem dX12_needOf_3 : decode cX12_needOf 3 = .ok (.istore_n 3, 1) := by decide +kernel
theorem dX12_needOf_4 : decode cX12_needOf 4 = .ok (.iload_n 3, 1) := by decide +kernel
theorem dX12_needOf_5 : decode cX12_needOf 5 = .ok (.aload_n 0, 1) := by decide +kernel
theorem dX12_needOf_6 : decode cX12_needOf 6 = .ok (.getfield 9, 3) := by decide +kernel
theorem dX12_needOf_9 : decode cX12_needOf 9 = .ok (.bipush 6, 2) := by decide +kernel
theorem dX12_needOf_11 : decode cX12_needOf 11 = .ok (.iaload, 1) := by decide +kernel
theorem dX12_needOf_12 : decode cX12_needOf 12 = .ok (.if_icmp .ge 23, 3) := by decide +kernel
theorem dX12_needOf_15 : decode cX12_needOf 15 = .ok (.iload_n 2, 1) := by decide +kernel
theorem dX12_needOf_16 : decode cX12_needOf 16 = .ok (.aload_n 0, 1) := by decide +kernel
theorem dX12_needOf_17 : decode cX12_needOf 17 = .ok (.getfield 28, 3) := by decide +kernel
theorem dX12_needOf_20 : decode cX12_needOf 20 = .ok (.bipush 14, 2) := by decide +kernel
theorem dX12_needOf_22 : decode cX12_needOf 22 = .ok (.iload_n 3, 1) := by decide +kernel
theorem dX12_needOf_23 : decode cX12_needOf 23 = .ok (.imul, 1) := by decide +kernel
theorem dX12_needOf_24 : decode cX12_needOf 24 = .ok (.iload_n 1, 1) := by decide +kernel
theorem dX12_needOf_25 : decode cX12_needOf 25 = .ok (.iadd, 1) := by decide +kernel
theorem dX12_needOf_26 : decode cX12_needOf 26 = .ok (.iaload, 1) := by decide +kernel
theorem dX12_needOf_27 : decode cX12_needOf 27 = .ok (.iadd, 1) := by decide +kernel
theorem dX12_needOf_28 : decode cX12_needOf 28 = .ok (.istore_n 2, 1) := by decide +kernel
theorem dX12_needOf_29 : decode cX12_needOf 29 = .ok (.iinc 3 1, 3) := by decide +kernel
theorem dX12_needOf_32 : decode cX12_needOf 32 = .ok (.goto (-28), 3) := by decide +kernel
theorem dX12_needOf_35 : decode cX12_needOf 35 = .ok (.iload_n 2, 1) := by decide +kernel
theorem dX12_needOf_36 : decode cX12_needOf 36 = .ok (.ireturn, 1) := by decide +kernel
theorem dX12_need_0 : decode cX12_need 0 = .ok (.aload_n 0, 1) := by decide +kernel
theorem dX12_need_1 : decode cX12_need 1 = .ok (.aload_n 0, 1) := by decide +kernel
theorem dX12_need_2 : decode cX12_need 2 = .ok (.getfield 140, 3) := by decide +kernel
theorem dX12_need_5 : decode cX12_need 5 = .ok (.ifCond .ne 7, 3) := by decide +kernel
theorem dX12_need_8 : decode cX12_need 8 = .ok (.iload_n 1, 1) := by decide +kernel
theorem dX12_need_9 : decode cX12_need 9 = .ok (.ifCond .ne 7, 3) := by decide +kernel
theorem dX12_need_12 : decode cX12_need 12 = .ok (.iconst 1, 1) := by decide +kernel
theorem dX12_need_13 : decode cX12_need 13 = .ok (.goto 4, 3) := by decide +kernel
theorem dX12_need_16 : decode cX12_need 16 = .ok (.iconst 0, 1) := by decide +kernel
theorem dX12_need_17 : decode cX12_need 17 = .ok (.putfield 140, 3) := by decide +kernel
theorem dX12_need_20 : decode cX12_need 20 = .ok (.aload_n 0, 1) := by decide +kernel
theorem dX12_need_21 : decode cX12_need 21 = .ok (.getfield 140, 3) := by decide +kernel
theorem dX12_need_24 : decode cX12_need 24 = .ok (.ifCond .ne 7, 3) := by decide +kernel
theorem dX12_need_27 : decode cX12_need 27 = .ok (.aload_n 0, 1) := by decide +kernel
theorem dX12_need_28 : decode cX12_need 28 = .ok (.invokevirtual 144, 3) := by decide +kernel
theorem dX12_need_31 : decode cX12_need 31 = .ok (.return_, 1) := by decide +kernel
theorem dX12_next_0 : decode cX12_next 0 = .ok (.aload_n 0, 1) := by decide +kernel
theorem dX12_next_1 : decode cX12_next 1 = .ok (.getfield 125, 3) := by decide +kernel
theorem dX12_next_4 : decode cX12_next 4 = .ok (.iconst 1, 1) := by decide +kernel
theorem dX12_next_5 : decode cX12_next 5 = .ok (.if_icmp .eq 11, 3) := by decide +kernel
theorem dX12_next_8 : decode cX12_next 8 = .ok (.aload_n 0, 1) := by decide +kernel
theorem dX12_next_9 : decode cX12_next 9 = .ok (.getfield 125, 3) := by decide +kernel
theorem dX12_next_12 : decode cX12_next 12 = .ok (.iconst 2, 1) := by decide +kernel
theorem dX12_next_13 : decode cX12_next 13 = .ok (.if_icmp .ne 7, 3) := by decide +kernel
theorem dX12_next_16 : decode cX12_next 16 = .ok (.iconst 1, 1) := by decide +kernel
theorem dX12_next_17 : decode cX12_next 17 = .ok (.goto 4, 3) := by decide +kernel
theorem dX12_next_20 : decode cX12_next 20 = .ok (.iconst 0, 1) := by decide +kernel
theorem dX12_next_21 : decode cX12_next 21 = .ok (.istore_n 1, 1) := by decide +kernel
theorem dX12_next_22 : decode cX12_next 22 = .ok (.aload_n 0, 1) := by decide +kernel
theorem dX12_next_23 : decode cX12_next 23 = .ok (.getfield 128, 3) := by decide +kernel
theorem dX12_next_26 : decode cX12_next 26 = .ok (.istore_n 2, 1) := by decide +kernel
theorem dX12_next_27 : decode cX12_next 27 = .ok (.aload_n 0, 1) := by decide +kernel
theorem dX12_next_28 : decode cX12_next 28 = .ok (.aload_n 0, 1) := by decide +kernel
theorem dX12_next_29 : decode cX12_next 29 = .ok (.getfield 128, 3) := by decide +kernel
theorem dX12_next_32 : decode cX12_next 32 = .ok (.putfield 131, 3) := by decide +kernel
theorem dX12_next_35 : decode cX12_next 35 = .ok (.aload_n 0, 1) := by decide +kernel
theorem dX12_next_36 : decode cX12_next 36 = .ok (.getfield 131, 3) := by decide +kernel
theorem dX12_next_39 : decode cX12_next 39 = .ok (.aload_n 0, 1) := by decide +kernel
theorem dX12_next_40 : decode cX12_next 40 = .ok (.getfield 121, 3) := by decide +kernel
theorem dX12_next_43 : decode cX12_next 43 = .ok (.if_icmp .ge 30, 3) := by decide +kernel
theorem dX12_next_46 : decode cX12_next 46 = .ok (.aload_n 0, 1) := by decide +kernel
theorem dX12_next_47 : decode cX12_next 47 = .ok (.getfield 16, 3) := by decide +kernel
theorem dX12_next_50 : decode cX12_next 50 = .ok (.aload_n 0, 1) := by decide +kernel
theorem dX12_next_51 : decode cX12_next 51 = .ok (.getfield 131, 3) := by decide +kernel
theorem dX12_next_54 : decode cX12_next 54 = .ok (.iaload, 1) := by decide +kernel
theorem dX12_next_55 : decode cX12_next 55 = .ok (.bipush 32, 2) := by decide +kernel
theorem dX12_next_57 : decode cX12_next 57 = .ok (.if_icmp .ne 16, 3) := by decide +kernel
theorem dX12_next_60 : decode cX12_next 60 = .ok (.aload_n 0, 1) := by decide +kernel
theorem dX12_next_61 : decode cX12_next 61 = .ok (.dup, 1) := by decide +kernel
theorem dX12_next_62 : decode cX12_next 62 = .ok (.getfield 131, 3) := by decide +kernel
theorem dX12_next_65 : decode cX12_next 65 = .ok (.iconst 1, 1) := by decide +kernel
theorem dX12_next_66 : decode cX12_next 66 = .ok (.iadd, 1) := by decide +kernel
theorem dX12_next_67 : decode cX12_next 67 = .ok (.putfield 131, 3) := by decide +kernel
theorem dX12_next_70 : decode cX12_next 70 = .ok (.goto (-35), 3) := by decide +kernel
theorem dX12_next_73 : decode cX12_next 73 = .ok (.aload_n 0, 1) := by decide +kernel
theorem dX12_next_74 : decode cX12_next 74 = .ok (.aload_n 0, 1) := by decide +kernel
theorem dX12_next_75 : decode cX12_next 75 = .ok (.getfield 131, 3) := by decide +kernel
theorem dX12_next_78 : decode cX12_next 78 = .ok (.putfield 128, 3) := by decide +kernel
theorem dX12_next_81 : decode cX12_next 81 = .ok (.aload_n 0, 1) := by decide +kernel
theorem dX12_next_82 : decode cX12_next 82 = .ok (.getfield 131, 3) := by decide +kernel
theorem dX12_next_85 : decode cX12_next 85 = .ok (.aload_n 0, 1) := by decide +kernel
theorem dX12_next_86 : decode cX12_next 86 = .ok (.getfield 121, 3) := by decide +kernel
theorem dX12_next_89 : decode cX12_next 89 = .ok (.if_icmp .ne 9, 3) := by decide +kernel
theorem dX12_next_92 : decode cX12_next 92 = .ok (.aload_n 0, 1) := by decide +kernel
theorem dX12_next_93 : decode cX12_next 93 = .ok (.iconst 0, 1) := by decide +kernel
theorem dX12_next_94 : decode cX12_next 94 = .ok (.putfield 125, 3) := by decide +kernel
theorem dX12_next_97 : decode cX12_next 97 = .ok (.return_, 1) := by decide +kernel
theorem dX12_next_98 : decode cX12_next 98 = .ok (.aload_n 0, 1) := by decide +kernel
theorem dX12_next_99 : decode cX12_next 99 = .ok (.aload_n 0, 1) := by decide +kernel
theorem dX12_next_100 : decode cX12_next 100 = .ok (.aload_n 0, 1) := by decide +kernel
theorem dX12_next_101 : decode cX12_next 101 = .ok (.getfield 131, 3) := by decide +kernel
theorem dX12_next_104 : decode cX12_next 104 = .ok (.invokevirtual 134, 3) := by decide +kernel
theorem dX12_next_107 : decode cX12_next 107 = .ok (.ifCond .eq 7, 3) := by decide +kernel
theorem dX12_next_110 : decode cX12_next 110 = .ok (.iconst 1, 1) := by decide +kernel
theorem dX12_next_111 : decode cX12_next 111 = .ok (.goto 19, 3) := by decide +kernel
theorem dX12_next_114 : decode cX12_next 114 = .ok (.aload_n 0, 1) := by decide +kernel
theorem dX12_next_115 : decode cX12_next 115 = .ok (.aload_n 0, 1) := by decide +kernel
theorem dX12_next_116 : decode cX12_next 116 = .ok (.getfield 131, 3) := by decide +kernel
theorem dX12_next_119 : decode cX12_next 119 = .ok (.invokevirtual 137, 3) := by decide +kernel
theorem dX12_next_122 : decode cX12_next 122 = .ok (.ifCond .eq 7, 3) := by decide +kernel
theorem dX12_next_125 : decode cX12_next 125 = .ok (.iconst 2, 1) := by decide +kernel
theorem dX12_next_126 : decode cX12_next 126 = .ok (.goto 4, 3) := by decide +kernel
theorem dX12_next_129 : decode cX12_next 129 = .ok (.iconst 3, 1) := by decide +kernel
theorem dX12_next_130 : decode cX12_next 130 = .ok (.putfield 125, 3) := by decide +kernel
theorem dX12_next_133 : decode cX12_next 133 = .ok (.aload_n 0, 1) := by decide +kernel
theorem dX12_next_134 : decode cX12_next 134 = .ok (.dup, 1) := by decide +kernel
theorem dX12_next_135 : decode cX12_next 135 = .ok (.getfield 128, 3) := by decide +kernel
theorem dX12_next_138 : decode cX12_next 138 = .ok (.iconst 1, 1) := by decide +kernel
theorem dX12_next_139 : decode cX12_next 139 = .ok (.iadd, 1) := by decide +kernel
theorem dX12_next_140 : decode cX12_next 140 = .ok (.putfield 128, 3) := by decide +kernel
theorem dX12_next_143 : decode cX12_next 143 = .ok (.aload_n 0, 1) := by decide +kernel
theorem dX12_next_144 : decode cX12_next 144 = .ok (.getfield 125, 3) := by decide +kernel
theorem dX12_next_147 : decode cX12_next 147 = .ok (.iconst 1, 1) := by decide +kernel
theorem dX12_next_148 : decode cX12_next 148 = .ok (.if_icmp .ne 14, 3) := by decide +kernel
theorem dX12_next_151 : decode cX12_next 151 = .ok (.aload_n 0, 1) := by decide +kernel
theorem dX12_next_152 : decode cX12_next 152 = .ok (.aload_n 0, 1) := by decide +kernel
theorem dX12_next_153 : decode cX12_next 153 = .ok (.getfield 128, 3) := by decide +kernel
theorem dX12_next_156 : decode cX12_next 156 = .ok (.invokevirtual 134, 3) := by decide +kernel
theorem dX12_next_159 : decode cX12_next 159 = .ok (.ifCond .ne 22, 3) := by decide +kernel
theorem dX12_next_162 : decode cX12_next 162 = .ok (.aload_n 0, 1) := by decide +kernel
theorem dX12_next_163 : decode cX12_next 163 = .ok (.getfield 125, 3) := by decide +kernel
theorem dX12_next_166 : decode cX12_next 166 = .ok (.iconst 2, 1) := by decide +kernel
theorem dX12_next_167 : decode cX12_next 167 = .ok (.if_icmp .ne 27, 3) := by decide +kernel
theorem dX12_next_170 : decode cX12_next 170 = .ok (.aload_n 0, 1) := by decide +kernel
theorem dX12_next_171 : decode cX12_next 171 = .ok (.aload_n 0, 1) := by decide +kernel
theorem dX12_next_172 : decode cX12_next 172 = .ok (.getfield 128, 3) := by decide +kernel
theorem dX12_next_175 : decode cX12_next 175 = .ok (.invokevirtual 137, 3) := by decide +kernel
theorem dX12_next_178 : decode cX12_next 178 = .ok (.ifCond .eq 16, 3) := by decide +kernel
theorem dX12_next_181 : decode cX12_next 181 = .ok (.aload_n 0, 1) := by decide +kernel
theorem dX12_next_182 : decode cX12_next 182 = .ok (.dup, 1) := by decide +kernel
theorem dX12_next_183 : decode cX12_next 183 = .ok (.getfield 128, 3) := by decide +kernel
theorem dX12_next_186 : decode cX12_next 186 = .ok (.iconst 1, 1) := by decide +kernel
theorem dX12_next_187 : decode cX12_next 187 = .ok (.iadd, 1) := by decide +kernel
theorem dX12_next_188 : decode cX12_next 188 = .ok (.putfield 128, 3) := by decide +kernel
theorem dX12_next_191 : decode cX12_next 191 = .ok (.goto (-48), 3) := by decide +kernel
theorem dX12_next_194 : decode cX12_next 194 = .ok (.aload_n 0, 1) := by decide +kernel
theorem dX12_next_195 : decode cX12_next 195 = .ok (.getfield 125, 3) := by decide +kernel
theorem dX12_next_198 : decode cX12_next 198 = .ok (.iconst 3, 1) := by decide +kernel
theorem dX12_next_199 : decode cX12_next 199 = .ok (.if_icmp .eq 15, 3) := by decide +kernel
theorem dX12_next_202 : decode cX12_next 202 = .ok (.iload_n 1, 1) := by decide +kernel
theorem dX12_next_203 : decode cX12_next 203 = .ok (.ifCond .eq 11, 3) := by decide +kernel
theorem dX12_next_206 : decode cX12_next 206 = .ok (.aload_n 0, 1) := by decide +kernel
theorem dX12_next_207 : decode cX12_next 207 = .ok (.getfield 131, 3) := by decide +kernel
theorem dX12_next_210 : decode cX12_next 210 = .ok (.iload_n 2, 1) := by decide +kernel
theorem dX12_next_211 : decode cX12_next 211 = .ok (.if_icmp .eq 24, 3) := by decide +kernel
theorem dX12_next_214 : decode cX12_next 214 = .ok (.aload_n 0, 1) := by decide +kernel
theorem dX12_next_215 : decode cX12_next 215 = .ok (.getfield 125, 3) := by decide +kernel
theorem dX12_next_218 : decode cX12_next 218 = .ok (.iconst 2, 1) := by decide +kernel
theorem dX12_next_219 : decode cX12_next 219 = .ok (.if_icmp .ne 21, 3) := by decide +kernel
theorem dX12_next_222 : decode cX12_next 222 = .ok (.aload_n 0, 1) := by decide +kernel
theorem dX12_next_223 : decode cX12_next 223 = .ok (.getfield 128, 3) := by decide +kernel
theorem dX12_next_226 : decode cX12_next 226 = .ok (.aload_n 0, 1) := by decide +kernel
theorem dX12_next_227 : decode cX12_next 227 = .ok (.getfield 131, 3) := by decide +kernel
theorem dX12_next_230 : decode cX12_next 230 = .ok (.isub, 1) := by decide +kernel
theorem dX12_next_231 : decode cX12_next 231 = .ok (.iconst 5, 1) := by decide +kernel
theorem dX12_next_232 : decode cX12_next 232 = .ok (.if_icmp .le 8, 3) := by decide +kernel
theorem dX12_next_235 : decode cX12_next 235 = .ok (.aload_n 0, 1) := by decide +kernel
theorem dX12_next_236 : decode cX12_next 236 = .ok (.iconst 4, 1) := by decide +kernel
theorem dX12_next_237 : decode cX12_next 237 = .ok (.putfield 125, 3) := by decide +kernel
theorem dX12_next_240 : decode cX12_next 240 = .ok (.return_, 1) := by decide +kernel
theorem dX12_ofFamily_0 : decode cX12_ofFamily 0 = .ok (.sipush 448, 3) := by decide +kernel
theorem dX12_ofFamily_3 : decode cX12_ofFamily 3 = .ok (.bipush 15, 2) := by decide +kernel
theorem dX12_ofFamily_5 : decode cX12_ofFamily 5 = .ok (.iload_n 0, 1) := by decide +kernel
theorem dX12_ofFamily_6 : decode cX12_ofFamily 6 = .ok (.imul, 1) := by decide +kernel
theorem dX12_ofFamily_7 : decode cX12_ofFamily 7 = .ok (.iadd, 1) := by decide +kernel
theorem dX12_ofFamily_8 : decode cX12_ofFamily 8 = .ok (.iload_n 1, 1) := by decide +kernel
theorem dX12_ofFamily_9 : decode cX12_ofFamily 9 = .ok (.iadd, 1) := by decide +kernel
theorem dX12_ofFamily_10 : decode cX12_ofFamily 10 = .ok (.ireturn, 1) := by decide +kernel
theorem dX12_ofIce_0 : decode cX12_ofIce 0 = .ok (.aload_n 0, 1) := by decide +kernel
theorem dX12_ofIce_1 : decode cX12_ofIce 1 = .ok (.iload_n 2, 1) := by decide +kernel
theorem dX12_ofIce_2 : decode cX12_ofIce 2 = .ok (.invokevirtual 115, 3) := by decide +kernel
theorem dX12_ofIce_5 : decode cX12_ofIce 5 = .ok (.istore_n 3, 1) := by decide +kernel
theorem dX12_ofIce_6 : decode cX12_ofIce 6 = .ok (.iconst 0, 1) := by decide +kernel
theorem dX12_ofIce_7 : decode cX12_ofIce 7 = .ok (.istore 4, 2) := by decide +kernel
theorem dX12_ofIce_9 : decode cX12_ofIce 9 = .ok (.iconst 0, 1) := by decide +kernel
theorem dX12_ofIce_10 : decode cX12_ofIce 10 = .ok (.istore 5, 2) := by decide +kernel
theorem dX12_ofIce_12 : decode cX12_ofIce 12 = .ok (.iconst 0, 1) := by decide +kernel
theorem dX12_ofIce_13 : decode cX12_ofIce 13 = .ok (.istore 6, 2) := by decide +kernel
theorem dX12_ofIce_15 : decode cX12_ofIce 15 = .ok (.iload 6, 2) := by decide +kernel
theorem dX12_ofIce_17 : decode cX12_ofIce 17 = .ok (.bipush 10, 2) := by decide +kernel
theorem dX12_ofIce_19 : decode cX12_ofIce 19 = .ok (.if_icmp .ge 76, 3) := by decide +kernel
theorem dX12_ofIce_22 : decode cX12_ofIce 22 = .ok (.iload 4, 2) := by decide +kernel
theorem dX12_ofIce_24 : decode cX12_ofIce 24 = .ok (.iload_n 3, 1) := by decide +kernel
theorem dX12_ofIce_25 : decode cX12_ofIce 25 = .ok (.iload 6, 2) := by decide +kernel
theorem dX12_ofIce_27 : decode cX12_ofIce 27 = .ok (.invokestatic 76, 3) := by decide +kernel
theorem dX12_ofIce_30 : decode cX12_ofIce 30 = .ok (.ifCond .eq 23, 3) := by decide +kernel
theorem dX12_ofIce_33 : decode cX12_ofIce 33 = .ok (.aload_n 0, 1) := by decide +kernel
theorem dX12_ofIce_34 : decode cX12_ofIce 34 = .ok (.iload 6, 2) := by decide +kernel
theorem dX12_ofIce_36 : decode cX12_ofIce 36 = .ok (.invokevirtual 93, 3) := by decide +kernel
theorem dX12_ofIce_39 : decode cX12_ofIce 39 = .ok (.aload_n 0, 1) := by decide +kernel
theorem dX12_ofIce_40 : decode cX12_ofIce 40 = .ok (.getfield 9, 3) := by decide +kernel
theorem dX12_ofIce_43 : decode cX12_ofIce 43 = .ok (.iload_n 2, 1) := by decide +kernel
theorem dX12_ofIce_44 : decode cX12_ofIce 44 = .ok (.iconst 1, 1) := by decide +kernel
theorem dX12_ofIce_45 : decode cX12_ofIce 45 = .ok (.invokestatic 99, 3) := by decide +kernel
theorem dX12_ofIce_48 : decode cX12_ofIce 48 = .ok (.iaload, 1) := by decide +kernel
theorem dX12_ofIce_49 : decode cX12_ofIce 49 = .ok (.imul, 1) := by decide +kernel
theorem dX12_ofIce_50 : decode cX12_ofIce 50 = .ok (.goto 4, 3) := by decide +kernel
theorem dX12_ofIce_53 : decode cX12_ofIce 53 = .ok (.iconst 0, 1) := by decide +kernel
theorem dX12_ofIce_54 : decode cX12_ofIce 54 = .ok (.iadd, 1) := by decide +kernel
theorem dX12_ofIce_55 : decode cX12_ofIce 55 = .ok (.istore 4, 2) := by decide +kernel
theorem dX12_ofIce_57 : decode cX12_ofIce 57 = .ok (.iload_n 3, 1) := by decide +kernel
theorem dX12_ofIce_58 : decode cX12_ofIce 58 = .ok (.iload 6, 2) := by decide +kernel
theorem dX12_ofIce_60 : decode cX12_ofIce 60 = .ok (.invokestatic 76, 3) := by decide +kernel
theorem dX12_ofIce_63 : decode cX12_ofIce 63 = .ok (.ifCond .eq 22, 3) := by decide +kernel
theorem dX12_ofIce_66 : decode cX12_ofIce 66 = .ok (.aload_n 0, 1) := by decide +kernel
theorem dX12_ofIce_67 : decode cX12_ofIce 67 = .ok (.getfield 9, 3) := by decide +kernel
theorem dX12_ofIce_70 : decode cX12_ofIce 70 = .ok (.iload 6, 2) := by decide +kernel
theorem dX12_ofIce_72 : decode cX12_ofIce 72 = .ok (.iconst 0, 1) := by decide +kernel
theorem dX12_ofIce_73 : decode cX12_ofIce 73 = .ok (.invokestatic 67, 3) := by decide +kernel
theorem dX12_ofIce_76 : decode cX12_ofIce 76 = .ok (.iaload, 1) := by decide +kernel
theorem dX12_ofIce_77 : decode cX12_ofIce 77 = .ok (.iconst 3, 1) := by decide +kernel
theorem dX12_ofIce_78 : decode cX12_ofIce 78 = .ok (.if_icmp .ne 7, 3) := by decide +kernel
theorem dX12_ofIce_81 : decode cX12_ofIce 81 = .ok (.iconst 1, 1) := by decide +kernel
theorem dX12_ofIce_82 : decode cX12_ofIce 82 = .ok (.goto 5, 3) := by decide +kernel
theorem dX12_ofIce_85 : decode cX12_ofIce 85 = .ok (.iload 5, 2) := by decide +kernel
theorem dX12_ofIce_87 : decode cX12_ofIce 87 = .ok (.istore 5, 2) := by decide +kernel
theorem dX12_ofIce_89 : decode cX12_ofIce 89 = .ok (.iinc 6 1, 3) := by decide +kernel
theorem dX12_ofIce_92 : decode cX12_ofIce 92 = .ok (.goto (-77), 3) := by decide +kernel
theorem dX12_ofIce_95 : decode cX12_ofIce 95 = .ok (.iload_n 1, 1) := by decide +kernel
theorem dX12_ofIce_96 : decode cX12_ofIce 96 = .ok (.ifCond .ne 8, 3) := by decide +kernel
theorem dX12_ofIce_99 : decode cX12_ofIce 99 = .ok (.iload 4, 2) := by decide +kernel
theorem dX12_ofIce_101 : decode cX12_ofIce 101 = .ok (.goto 37, 3) := by decide +kernel
theorem dX12_ofIce_104 : decode cX12_ofIce 104 = .ok (.iload_n 1, 1) := by decide +kernel
theorem dX12_ofIce_105 : decode cX12_ofIce 105 = .ok (.iconst 1, 1) := by decide +kernel
theorem dX12_ofIce_106 : decode cX12_ofIce 106 = .ok (.if_icmp .ne 16, 3) := by decide +kernel
theorem dX12_ofIce_109 : decode cX12_ofIce 109 = .ok (.aload_n 0, 1) := by decide +kernel
theorem dX12_ofIce_110 : decode cX12_ofIce 110 = .ok (.getfield 9, 3) := by decide +kernel
theorem dX12_ofIce_113 : decode cX12_ofIce 113 = .ok (.iload_n 2, 1) := by decide +kernel
theorem dX12_ofIce_114 : decode cX12_ofIce 114 = .ok (.iconst 3, 1) := by decide +kernel
theorem dX12_ofIce_115 : decode cX12_ofIce 115 = .ok (.invokestatic 99, 3) := by decide +kernel
theorem dX12_ofIce_118 : decode cX12_ofIce 118 = .ok (.iaload, 1) := by decide +kernel
theorem dX12_ofIce_119 : decode cX12_ofIce 119 = .ok (.goto 19, 3) := by decide +kernel
theorem dX12_ofIce_122 : decode cX12_ofIce 122 = .ok (.iload_n 1, 1) := by decide +kernel
theorem dX12_ofIce_123 : decode cX12_ofIce 123 = .ok (.iconst 2, 1) := by decide +kernel
theorem dX12_ofIce_124 : decode cX12_ofIce 124 = .ok (.if_icmp .ne 12, 3) := by decide +kernel
theorem dX12_ofIce_127 : decode cX12_ofIce 127 = .ok (.aload_n 0, 1) := by decide +kernel
theorem dX12_ofIce_128 : decode cX12_ofIce 128 = .ok (.getfield 9, 3) := by decide +kernel
theorem dX12_ofIce_131 : decode cX12_ofIce 131 = .ok (.iconst 1, 1) := by decide +kernel
theorem dX12_ofIce_132 : decode cX12_ofIce 132 = .ok (.iaload, 1) := by decide +kernel
theorem dX12_ofIce_133 : decode cX12_ofIce 133 = .ok (.goto 5, 3) := by decide +kernel
theorem dX12_ofIce_136 : decode cX12_ofIce 136 = .ok (.iload 5, 2) := by decide +kernel
theorem dX12_ofIce_138 : decode cX12_ofIce 138 = .ok (.ireturn, 1) := by decide +kernel
theorem dX12_ofLot_0 : decode cX12_ofLot 0 = .ok (.sipush 628, 3) := by decide +kernel
theorem dX12_ofLot_3 : decode cX12_ofLot 3 = .ok (.iconst 5, 1) := by decide +kernel
theorem dX12_ofLot_4 : decode cX12_ofLot 4 = .ok (.iload_n 0, 1) := by decide +kernel
theorem dX12_ofLot_5 : decode cX12_ofLot 5 = .ok (.imul, 1) := by decide +kernel
theorem dX12_ofLot_6 : decode cX12_ofLot 6 = .ok (.iadd, 1) := by decide +kernel
theorem dX12_ofLot_7 : decode cX12_ofLot 7 = .ok (.iload_n 1, 1) := by decide +kernel
theorem dX12_ofLot_8 : decode cX12_ofLot 8 = .ok (.iadd, 1) := by decide +kernel
theorem dX12_ofLot_9 : decode cX12_ofLot 9 = .ok (.ireturn, 1) := by decide +kernel
theorem dX12_ofMark_0 : decode cX12_ofMark 0 = .ok (.iload_n 1, 1) := by decide +kernel
theorem dX12_ofMark_1 : decode cX12_ofMark 1 = .ok (.ifCond .ne 11, 3) := by decide +kernel
theorem dX12_ofMark_4 : decode cX12_ofMark 4 = .ok (.aload_n 0, 1) := by decide +kernel
theorem dX12_ofMark_5 : decode cX12_ofMark 5 = .ok (.iload_n 2, 1) := by decide +kernel
theorem dX12_ofMark_6 : decode cX12_ofMark 6 = .ok (.invokevirtual 93, 3) := by decide +kernel
theorem dX12_ofMark_9 : decode cX12_ofMark 9 = .ok (.goto 60, 3) := by decide +kernel
theorem dX12_ofMark_12 : decode cX12_ofMark 12 = .ok (.iload_n 1, 1) := by decide +kernel
theorem dX12_ofMark_13 : decode cX12_ofMark 13 = .ok (.iconst 1, 1) := by decide +kernel
theorem dX12_ofMark_14 : decode cX12_ofMark 14 = .ok (.if_icmp .ne 16, 3) := by decide +kernel
theorem dX12_ofMark_17 : decode cX12_ofMark 17 = .ok (.aload_n 0, 1) := by decide +kernel
theorem dX12_ofMark_18 : decode cX12_ofMark 18 = .ok (.getfield 9, 3) := by decide +kernel
theorem dX12_ofMark_21 : decode cX12_ofMark 21 = .ok (.iload_n 2, 1) := by decide +kernel
theorem dX12_ofMark_22 : decode cX12_ofMark 22 = .ok (.iconst 2, 1) := by decide +kernel
theorem dX12_ofMark_23 : decode cX12_ofMark 23 = .ok (.invokestatic 67, 3) := by decide +kernel
theorem dX12_ofMark_26 : decode cX12_ofMark 26 = .ok (.iaload, 1) := by decide +kernel
theorem dX12_ofMark_27 : decode cX12_ofMark 27 = .ok (.goto 42, 3) := by decide +kernel
theorem dX12_ofMark_30 : decode cX12_ofMark 30 = .ok (.iload_n 1, 1) := by decide +kernel
theorem dX12_ofMark_31 : decode cX12_ofMark 31 = .ok (.iconst 2, 1) := by decide +kernel
theorem dX12_ofMark_32 : decode cX12_ofMark 32 = .ok (.if_icmp .ne 14, 3) := by decide +kernel
theorem dX12_ofMark_35 : decode cX12_ofMark 35 = .ok (.aload_n 0, 1) := by decide +kernel
theorem dX12_ofMark_36 : decode cX12_ofMark 36 = .ok (.iload_n 2, 1) := by decide +kernel
theorem dX12_ofMark_37 : decode cX12_ofMark 37 = .ok (.invokevirtual 86, 3) := by decide +kernel
theorem dX12_ofMark_40 : decode cX12_ofMark 40 = .ok (.invokestatic 109, 3) := by decide +kernel
theorem dX12_ofMark_43 : decode cX12_ofMark 43 = .ok (.goto 26, 3) := by decide +kernel
theorem dX12_ofMark_46 : decode cX12_ofMark 46 = .ok (.iload_n 1, 1) := by decide +kernel
theorem dX12_ofMark_47 : decode cX12_ofMark 47 = .ok (.iconst 3, 1) := by decide +kernel
theorem dX12_ofMark_48 : decode cX12_ofMark 48 = .ok (.if_icmp .ne 16, 3) := by decide +kernel
theorem dX12_ofMark_51 : decode cX12_ofMark 51 = .ok (.aload_n 0, 1) := by decide +kernel
theorem dX12_ofMark_52 : decode cX12_ofMark 52 = .ok (.getfield 9, 3) := by decide +kernel
theorem dX12_ofMark_55 : decode cX12_ofMark 55 = .ok (.iload_n 2, 1) := by decide +kernel
theorem dX12_ofMark_56 : decode cX12_ofMark 56 = .ok (.iconst 0, 1) := by decide +kernel
theorem dX12_ofMark_57 : decode cX12_ofMark 57 = .ok (.invokestatic 67, 3) := by decide +kernel
theorem dX12_ofMark_60 : decode cX12_ofMark 60 = .ok (.iaload, 1) := by decide +kernel
theorem dX12_ofMark_61 : decode cX12_ofMark 61 = .ok (.goto 8, 3) := by decide +kernel
theorem dX12_ofMark_64 : decode cX12_ofMark 64 = .ok (.aload_n 0, 1) := by decide +kernel
theorem dX12_ofMark_65 : decode cX12_ofMark 65 = .ok (.iload_n 2, 1) := by decide +kernel
theorem dX12_ofMark_66 : decode cX12_ofMark 66 = .ok (.invokevirtual 90, 3) := by decide +kernel
theorem dX12_ofMark_69 : decode cX12_ofMark 69 = .ok (.ireturn, 1) := by decide +kernel
theorem dX12_ofMeal_0 : decode cX12_ofMeal 0 = .ok (.sipush 318, 3) := by decide +kernel
theorem dX12_ofMeal_3 : decode cX12_ofMeal 3 = .ok (.bipush 13, 2) := by decide +kernel
theorem dX12_ofMeal_5 : decode cX12_ofMeal 5 = .ok (.iload_n 0, 1) := by decide +kernel
theorem dX12_ofMeal_6 : decode cX12_ofMeal 6 = .ok (.imul, 1) := by decide +kernel
theorem dX12_ofMeal_7 : decode cX12_ofMeal 7 = .ok (.iadd, 1) := by decide +kernel
theorem dX12_ofMeal_8 : decode cX12_ofMeal 8 = .ok (.iload_n 1, 1) := by decide +kernel
theorem dX12_ofMeal_9 : decode cX12_ofMeal 9 = .ok (.iadd, 1) := by decide +kernel
theorem dX12_ofMeal_10 : decode cX12_ofMeal 10 = .ok (.ireturn, 1) := by decide +kernel
theorem dX12_ofPart_0 : decode cX12_ofPart 0 = .ok (.bipush 10, 2) := by decide +kernel
theorem dX12_ofPart_2 : decode cX12_ofPart 2 = .ok (.bipush 8, 2) := by decide +kernel
theorem dX12_ofPart_4 : decode cX12_ofPart 4 = .ok (.iload_n 0, 1) := by decide +kernel
theorem dX12_ofPart_5 : decode cX12_ofPart 5 = .ok (.imul, 1) := by decide +kernel
theorem dX12_ofPart_6 : decode cX12_ofPart 6 = .ok (.iadd, 1) := by decide +kernel
theorem dX12_ofPart_7 : decode cX12_ofPart 7 = .ok (.iload_n 1, 1) := by decide +kernel
theorem dX12_ofPart_8 : decode cX12_ofPart 8 = .ok (.iadd, 1) := by decide +kernel
theorem dX12_ofPart_9 : decode cX12_ofPart 9 = .ok (.ireturn, 1) := by decide +kernel
theorem dX12_ones_0 : decode cX12_ones 0 = .ok (.iconst 0, 1) := by decide +kernel
theorem dX12_ones_1 : decode cX12_ones 1 = .ok (.istore_n 1, 1) := by decide +kernel
theorem dX12_ones_2 : decode cX12_ones 2 = .ok (.iconst 0, 1) := by decide +kernel
theorem dX12_ones_3 : decode cX12_ones 3 = .ok (.istore_n 2, 1) := by decide +kernel
theorem dX12_ones_4 : decode cX12_ones 4 = .ok (.iload_n 2, 1) := by decide +kernel
theorem dX12_ones_5 : decode cX12_ones 5 = .ok (.bipush 16, 2) := by decide +kernel
theorem dX12_ones_7 : decode cX12_ones 7 = .ok (.if_icmp .ge 17, 3) := by decide +kernel
theorem dX12_ones_10 : decode cX12_ones 10 = .ok (.iload_n 1, 1) := by decide +kernel
theorem dX12_ones_11 : decode cX12_ones 11 = .ok (.iload_n 0, 1) := by decide +kernel
theorem dX12_ones_12 : decode cX12_ones 12 = .ok (.iload_n 2, 1) := by decide +kernel
theorem dX12_ones_13 : decode cX12_ones 13 = .ok (.ishr, 1) := by decide +kernel
theorem dX12_ones_14 : decode cX12_ones 14 = .ok (.iconst 1, 1) := by decide +kernel
theorem dX12_ones_15 : decode cX12_ones 15 = .ok (.iand, 1) := by decide +kernel
theorem dX12_ones_16 : decode cX12_ones 16 = .ok (.iadd, 1) := by decide +kernel
theorem dX12_ones_17 : decode cX12_ones 17 = .ok (.istore_n 1, 1) := by decide +kernel
theorem dX12_ones_18 : decode cX12_ones 18 = .ok (.iinc 2 1, 3) := by decide +kernel
theorem dX12_ones_21 : decode cX12_ones 21 = .ok (.goto (-17), 3) := by decide +kernel
theorem dX12_ones_24 : decode cX12_ones 24 = .ok (.iload_n 1, 1) := by decide +kernel
theorem dX12_ones_25 : decode cX12_ones 25 = .ok (.ireturn, 1) := by decide +kernel
theorem dX12_pack_0 : decode cX12_pack 0 = .ok (.iload_n 1, 1) := by decide +kernel
theorem dX12_pack_1 : decode cX12_pack 1 = .ok (.iconst 1, 1) := by decide +kernel
theorem dX12_pack_2 : decode cX12_pack 2 = .ok (.sipush 5000, 3) := by decide +kernel
theorem dX12_pack_5 : decode cX12_pack 5 = .ok (.invokestatic 52, 3) := by decide +kernel
theorem dX12_pack_8 : decode cX12_pack 8 = .ok (.ifCond .ne 6, 3) := by decide +kernel
theorem dX12_pack_11 : decode cX12_pack 11 = .ok (.ldc 57, 2) := by decide +kernel
theorem dX12_pack_13 : decode cX12_pack 13 = .ok (.ireturn, 1) := by decide +kernel
theorem dX12_pack_14 : decode cX12_pack 14 = .ok (.aload_n 0, 1) := by decide +kernel
theorem dX12_pack_15 : decode cX12_pack 15 = .ok (.getfield 9, 3) := by decide +kernel
theorem dX12_pack_18 : decode cX12_pack 18 = .ok (.iconst 3, 1) := by decide +kernel
theorem dX12_pack_19 : decode cX12_pack 19 = .ok (.iaload, 1) := by decide +kernel
theorem dX12_pack_20 : decode cX12_pack 20 = .ok (.iconst 1, 1) := by decide +kernel
theorem dX12_pack_21 : decode cX12_pack 21 = .ok (.if_icmp .ne 6, 3) := by decide +kernel
theorem dX12_pack_24 : decode cX12_pack 24 = .ok (.ldc 80, 2) := by decide +kernel
theorem dX12_pack_26 : decode cX12_pack 26 = .ok (.ireturn, 1) := by decide +kernel
theorem dX12_pack_27 : decode cX12_pack 27 = .ok (.aload_n 0, 1) := by decide +kernel
theorem dX12_pack_28 : decode cX12_pack 28 = .ok (.iload_n 1, 1) := by decide +kernel
theorem dX12_pack_29 : decode cX12_pack 29 = .ok (.invokevirtual 297, 3) := by decide +kernel
theorem dX12_pack_32 : decode cX12_pack 32 = .ok (.istore_n 2, 1) := by decide +kernel
theorem dX12_pack_33 : decode cX12_pack 33 = .ok (.iload_n 2, 1) := by decide +kernel
theorem dX12_pack_34 : decode cX12_pack 34 = .ok (.ifCond .eq 5, 3) := by decide +kernel
theorem dX12_pack_37 : decode cX12_pack 37 = .ok (.iload_n 2, 1) := by decide +kernel
theorem dX12_pack_38 : decode cX12_pack 38 = .ok (.ireturn, 1) := by decide +kernel
theorem dX12_pack_39 : decode cX12_pack 39 = .ok (.iconst 0, 1) := by decide +kernel
theorem dX12_pack_40 : decode cX12_pack 40 = .ok (.istore_n 3, 1) := by decide +kernel
theorem dX12_pack_41 : decode cX12_pack 41 = .ok (.iconst 0, 1) := by decide +kernel
theorem dX12_pack_42 : decode cX12_pack 42 = .ok (.istore 4, 2) := by decide +kernel
theorem dX12_pack_44 : decode cX12_pack 44 = .ok (.iload 4, 2) := by decide +kernel
theorem dX12_pack_46 : decode cX12_pack 46 = .ok (.aload_n 0, 1) := by decide +kernel
theorem dX12_pack_47 : decode cX12_pack 47 = .ok (.getfield 9, 3) := by decide +kernel
theorem dX12_pack_50 : decode cX12_pack 50 = .ok (.bipush 6, 2) := by decide +kernel
theorem dX12_pack_52 : decode cX12_pack 52 = .ok (.iaload, 1) := by decide +kernel
theorem dX12_pack_53 : decode cX12_pack 53 = .ok (.if_icmp .ge 102, 3) := by decide +kernel
theorem dX12_pack_56 : decode cX12_pack 56 = .ok (.aload_n 0, 1) := by decide +kernel
theorem dX12_pack_57 : decode cX12_pack 57 = .ok (.getfield 46, 3) := by decide +kernel
theorem dX12_pack_60 : decode cX12_pack 60 = .ok (.iload 4, 2) := by decide +kernel
theorem dX12_pack_62 : decode cX12_pack 62 = .ok (.iaload, 1) := by decide +kernel
theorem dX12_pack_63 : decode cX12_pack 63 = .ok (.ifCond .lt 29, 3) := by decide +kernel
theorem dX12_pack_66 : decode cX12_pack 66 = .ok (.aload_n 0, 1) := by decide +kernel
theorem dX12_pack_67 : decode cX12_pack 67 = .ok (.iload 4, 2) := by decide +kernel
theorem dX12_pack_69 : decode cX12_pack 69 = .ok (.aload_n 0, 1) := by decide +kernel
theorem dX12_pack_70 : decode cX12_pack 70 = .ok (.getfield 46, 3) := by decide +kernel
theorem dX12_pack_73 : decode cX12_pack 73 = .ok (.iload 4, 2) := by decide +kernel
theorem dX12_pack_75 : decode cX12_pack 75 = .ok (.iaload, 1) := by decide +kernel
theorem dX12_pack_76 : decode cX12_pack 76 = .ok (.bipush 100, 2) := by decide +kernel
theorem dX12_pack_78 : decode cX12_pack 78 = .ok (.idiv, 1) := by decide +kernel
theorem dX12_pack_79 : decode cX12_pack 79 = .ok (.aload_n 0, 1) := by decide +kernel
theorem dX12_pack_80 : decode cX12_pack 80 = .ok (.getfield 46, 3) := by decide +kernel
theorem dX12_pack_83 : decode cX12_pack 83 = .ok (.iload 4, 2) := by decide +kernel
theorem dX12_pack_85 : decode cX12_pack 85 = .ok (.iaload, 1) := by decide +kernel
theorem dX12_pack_86 : decode cX12_pack 86 = .ok (.bipush 100, 2) := by decide +kernel
theorem dX12_pack_88 : decode cX12_pack 88 = .ok (.irem, 1) := by decide +kernel
theorem dX12_pack_89 : decode cX12_pack 89 = .ok (.invokevirtual 294, 3) := by decide +kernel
theorem dX12_pack_92 : decode cX12_pack 92 = .ok (.iconst 0, 1) := by decide +kernel
theorem dX12_pack_93 : decode cX12_pack 93 = .ok (.istore 5, 2) := by decide +kernel
theorem dX12_pack_95 : decode cX12_pack 95 = .ok (.iload 5, 2) := by decide +kernel
theorem dX12_pack_97 : decode cX12_pack 97 = .ok (.aload_n 0, 1) := by decide +kernel
theorem dX12_pack_98 : decode cX12_pack 98 = .ok (.getfield 9, 3) := by decide +kernel
theorem dX12_pack_101 : decode cX12_pack 101 = .ok (.iconst 4, 1) := by decide +kernel
theorem dX12_pack_102 : decode cX12_pack 102 = .ok (.iaload, 1) := by decide +kernel
theorem dX12_pack_103 : decode cX12_pack 103 = .ok (.if_icmp .ge 46, 3) := by decide +kernel
theorem dX12_pack_106 : decode cX12_pack 106 = .ok (.aload_n 0, 1) := by decide +kernel
theorem dX12_pack_107 : decode cX12_pack 107 = .ok (.iload 4, 2) := by decide +kernel
theorem dX12_pack_109 : decode cX12_pack 109 = .ok (.iload 5, 2) := by decide +kernel
theorem dX12_pack_111 : decode cX12_pack 111 = .ok (.aload_n 0, 1) := by decide +kernel
theorem dX12_pack_112 : decode cX12_pack 112 = .ok (.getfield 28, 3) := by decide +kernel
theorem dX12_pack_115 : decode cX12_pack 115 = .ok (.bipush 14, 2) := by decide +kernel
theorem dX12_pack_117 : decode cX12_pack 117 = .ok (.iload 4, 2) := by decide +kernel
theorem dX12_pack_119 : decode cX12_pack 119 = .ok (.imul, 1) := by decide +kernel
theorem dX12_pack_120 : decode cX12_pack 120 = .ok (.iload 5, 2) := by decide +kernel
theorem dX12_pack_122 : decode cX12_pack 122 = .ok (.iadd, 1) := by decide +kernel
theorem dX12_pack_123 : decode cX12_pack 123 = .ok (.iaload, 1) := by decide +kernel
theorem dX12_pack_124 : decode cX12_pack 124 = .ok (.invokevirtual 301, 3) := by decide +kernel
theorem dX12_pack_127 : decode cX12_pack 127 = .ok (.iload_n 3, 1) := by decide +kernel
theorem dX12_pack_128 : decode cX12_pack 128 = .ok (.aload_n 0, 1) := by decide +kernel
theorem dX12_pack_129 : decode cX12_pack 129 = .ok (.getfield 28, 3) := by decide +kernel
theorem dX12_pack_132 : decode cX12_pack 132 = .ok (.bipush 14, 2) := by decide +kernel
theorem dX12_pack_134 : decode cX12_pack 134 = .ok (.iload 4, 2) := by decide +kernel
theorem dX12_pack_136 : decode cX12_pack 136 = .ok (.imul, 1) := by decide +kernel
theorem dX12_pack_137 : decode cX12_pack 137 = .ok (.iload 5, 2) := by decide +kernel
theorem dX12_pack_139 : decode cX12_pack 139 = .ok (.iadd, 1) := by decide +kernel
theorem dX12_pack_140 : decode cX12_pack 140 = .ok (.iaload, 1) := by decide +kernel
theorem dX12_pack_141 : decode cX12_pack 141 = .ok (.iadd, 1) := by decide +kernel
theorem dX12_pack_142 : decode cX12_pack 142 = .ok (.istore_n 3, 1) := by decide +kernel
theorem dX12_pack_143 : decode cX12_pack 143 = .ok (.iinc 5 1, 3) := by decide +kernel
theorem dX12_pack_146 : decode cX12_pack 146 = .ok (.goto (-51), 3) := by decide +kernel
theorem dX12_pack_149 : decode cX12_pack 149 = .ok (.iinc 4 1, 3) := by decide +kernel
theorem dX12_pack_152 : decode cX12_pack 152 = .ok (.goto (-108), 3) := by decide +kernel
theorem dX12_pack_155 : decode cX12_pack 155 = .ok (.iconst 0, 1) := by decide +kernel
theorem dX12_pack_156 : decode cX12_pack 156 = .ok (.istore 4, 2) := by decide +kernel
theorem dX12_pack_158 : decode cX12_pack 158 = .ok (.iload 4, 2) := by decide +kernel
theorem dX12_pack_160 : decode cX12_pack 160 = .ok (.aload_n 0, 1) := by decide +kernel
theorem dX12_pack_161 : decode cX12_pack 161 = .ok (.getfield 9, 3) := by decide +kernel
theorem dX12_pack_164 : decode cX12_pack 164 = .ok (.bipush 6, 2) := by decide +kernel
theorem dX12_pack_166 : decode cX12_pack 166 = .ok (.iaload, 1) := by decide +kernel
theorem dX12_pack_167 : decode cX12_pack 167 = .ok (.if_icmp .ge 36, 3) := by decide +kernel
theorem dX12_pack_170 : decode cX12_pack 170 = .ok (.aload_n 0, 1) := by decide +kernel
theorem dX12_pack_171 : decode cX12_pack 171 = .ok (.getfield 9, 3) := by decide +kernel
theorem dX12_pack_174 : decode cX12_pack 174 = .ok (.sipush 828, 3) := by decide +kernel
theorem dX12_pack_177 : decode cX12_pack 177 = .ok (.bipush 12, 2) := by decide +kernel
theorem dX12_pack_179 : decode cX12_pack 179 = .ok (.aload_n 0, 1) := by decide +kernel
theorem dX12_pack_180 : decode cX12_pack 180 = .ok (.getfield 9, 3) := by decide +kernel
theorem dX12_pack_183 : decode cX12_pack 183 = .ok (.iconst 0, 1) := by decide +kernel
theorem dX12_pack_184 : decode cX12_pack 184 = .ok (.iaload, 1) := by decide +kernel
theorem dX12_pack_185 : decode cX12_pack 185 = .ok (.imul, 1) := by decide +kernel
theorem dX12_pack_186 : decode cX12_pack 186 = .ok (.iadd, 1) := by decide +kernel
theorem dX12_pack_187 : decode cX12_pack 187 = .ok (.iload 4, 2) := by decide +kernel
theorem dX12_pack_189 : decode cX12_pack 189 = .ok (.iadd, 1) := by decide +kernel
theorem dX12_pack_190 : decode cX12_pack 190 = .ok (.aload_n 0, 1) := by decide +kernel
theorem dX12_pack_191 : decode cX12_pack 191 = .ok (.iload 4, 2) := by decide +kernel
theorem dX12_pack_193 : decode cX12_pack 193 = .ok (.invokevirtual 115, 3) := by decide +kernel
theorem dX12_pack_196 : decode cX12_pack 196 = .ok (.iastore, 1) := by decide +kernel
theorem dX12_pack_197 : decode cX12_pack 197 = .ok (.iinc 4 1, 3) := by decide +kernel
theorem dX12_pack_200 : decode cX12_pack 200 = .ok (.goto (-42), 3) := by decide +kernel
theorem dX12_pack_203 : decode cX12_pack 203 = .ok (.aload_n 0, 1) := by decide +kernel
theorem dX12_pack_204 : decode cX12_pack 204 = .ok (.getfield 9, 3) := by decide +kernel
theorem dX12_pack_207 : decode cX12_pack 207 = .ok (.iconst 3, 1) := by decide +kernel
theorem dX12_pack_208 : decode cX12_pack 208 = .ok (.iconst 1, 1) := by decide +kernel
theorem dX12_pack_209 : decode cX12_pack 209 = .ok (.iastore, 1) := by decide +kernel
theorem dX12_pack_210 : decode cX12_pack 210 = .ok (.iload_n 3, 1) := by decide +kernel
theorem dX12_pack_211 : decode cX12_pack 211 = .ok (.ireturn, 1) := by decide +kernel
theorem dX12_part_0 : decode cX12_part 0 = .ok (.iload_n 2, 1) := by decide +kernel
theorem dX12_part_1 : decode cX12_part 1 = .ok (.bipush 100, 2) := by decide +kernel
theorem dX12_part_3 : decode cX12_part 3 = .ok (.ldc 56, 2) := by decide +kernel
theorem dX12_part_5 : decode cX12_part 5 = .ok (.invokestatic 52, 3) := by decide +kernel
theorem dX12_part_8 : decode cX12_part 8 = .ok (.ifCond .eq 26, 3) := by decide +kernel
theorem dX12_part_11 : decode cX12_part 11 = .ok (.iload_n 2, 1) := by decide +kernel
theorem dX12_part_12 : decode cX12_part 12 = .ok (.bipush 10, 2) := by decide +kernel
theorem dX12_part_14 : decode cX12_part 14 = .ok (.irem, 1) := by decide +kernel
theorem dX12_part_15 : decode cX12_part 15 = .ok (.iconst 5, 1) := by decide +kernel
theorem dX12_part_16 : decode cX12_part 16 = .ok (.if_icmp .gt 18, 3) := by decide +kernel
theorem dX12_part_19 : decode cX12_part 19 = .ok (.iload_n 2, 1) := by decide +kernel
theorem dX12_part_20 : decode cX12_part 20 = .ok (.bipush 10, 2) := by decide +kernel
theorem dX12_part_22 : decode cX12_part 22 = .ok (.idiv, 1) := by decide +kernel
theorem dX12_part_23 : decode cX12_part 23 = .ok (.bipush 10, 2) := by decide +kernel
theorem dX12_part_25 : decode cX12_part 25 = .ok (.irem, 1) := by decide +kernel
theorem dX12_part_26 : decode cX12_part 26 = .ok (.iconst 4, 1) := by decide +kernel
theorem dX12_part_27 : decode cX12_part 27 = .ok (.if_icmp .ge 7, 3) := by decide +kernel
theorem dX12_part_30 : decode cX12_part 30 = .ok (.iconst 1, 1) := by decide +kernel
theorem dX12_part_31 : decode cX12_part 31 = .ok (.goto 4, 3) := by decide +kernel
theorem dX12_part_34 : decode cX12_part 34 = .ok (.iconst 0, 1) := by decide +kernel
theorem dX12_part_35 : decode cX12_part 35 = .ok (.istore 4, 2) := by decide +kernel
theorem dX12_part_37 : decode cX12_part 37 = .ok (.iload_n 1, 1) := by decide +kernel
theorem dX12_part_38 : decode cX12_part 38 = .ok (.iconst 0, 1) := by decide +kernel
theorem dX12_part_39 : decode cX12_part 39 = .ok (.sipush 255, 3) := by decide +kernel
theorem dX12_part_42 : decode cX12_part 42 = .ok (.invokestatic 52, 3) := by decide +kernel
theorem dX12_part_45 : decode cX12_part 45 = .ok (.ifCond .eq 18, 3) := by decide +kernel
theorem dX12_part_48 : decode cX12_part 48 = .ok (.iload 4, 2) := by decide +kernel
theorem dX12_part_50 : decode cX12_part 50 = .ok (.ifCond .eq 13, 3) := by decide +kernel
theorem dX12_part_53 : decode cX12_part 53 = .ok (.iload_n 3, 1) := by decide +kernel
theorem dX12_part_54 : decode cX12_part 54 = .ok (.iconst 1, 1) := by decide +kernel
theorem dX12_part_55 : decode cX12_part 55 = .ok (.bipush 20, 2) := by decide +kernel
theorem dX12_part_57 : decode cX12_part 57 = .ok (.invokestatic 52, 3) := by decide +kernel
theorem dX12_part_60 : decode cX12_part 60 = .ok (.ifCond .ne 6, 3) := by decide +kernel
theorem dX12_part_63 : decode cX12_part 63 = .ok (.ldc 57, 2) := by decide +kernel
theorem dX12_part_65 : decode cX12_part 65 = .ok (.ireturn, 1) := by decide +kernel
theorem dX12_part_66 : decode cX12_part 66 = .ok (.aload_n 0, 1) := by decide +kernel
theorem dX12_part_67 : decode cX12_part 67 = .ok (.getfield 9, 3) := by decide +kernel
theorem dX12_part_70 : decode cX12_part 70 = .ok (.iconst 4, 1) := by decide +kernel
theorem dX12_part_71 : decode cX12_part 71 = .ok (.iaload, 1) := by decide +kernel
theorem dX12_part_72 : decode cX12_part 72 = .ok (.istore 5, 2) := by decide +kernel
theorem dX12_part_74 : decode cX12_part 74 = .ok (.iload 5, 2) := by decide +kernel
theorem dX12_part_76 : decode cX12_part 76 = .ok (.bipush 14, 2) := by decide +kernel
theorem dX12_part_78 : decode cX12_part 78 = .ok (.if_icmp .ne 6, 3) := by decide +kernel
theorem dX12_part_81 : decode cX12_part 81 = .ok (.ldc 58, 2) := by decide +kernel
theorem dX12_part_83 : decode cX12_part 83 = .ok (.ireturn, 1) := by decide +kernel
theorem dX12_part_84 : decode cX12_part 84 = .ok (.aload_n 0, 1) := by decide +kernel
theorem dX12_part_85 : decode cX12_part 85 = .ok (.getfield 9, 3) := by decide +kernel
theorem dX12_part_88 : decode cX12_part 88 = .ok (.iload 5, 2) := by decide +kernel
theorem dX12_part_90 : decode cX12_part 90 = .ok (.iconst 0, 1) := by decide +kernel
theorem dX12_part_91 : decode cX12_part 91 = .ok (.invokestatic 59, 3) := by decide +kernel
theorem dX12_part_94 : decode cX12_part 94 = .ok (.iload_n 1, 1) := by decide +kernel
theorem dX12_part_95 : decode cX12_part 95 = .ok (.iastore, 1) := by decide +kernel
theorem dX12_part_96 : decode cX12_part 96 = .ok (.aload_n 0, 1) := by decide +kernel
theorem dX12_part_97 : decode cX12_part 97 = .ok (.getfield 9, 3) := by decide +kernel
theorem dX12_part_100 : decode cX12_part 100 = .ok (.iload 5, 2) := by decide +kernel
theorem dX12_part_102 : decode cX12_part 102 = .ok (.iconst 1, 1) := by decide +kernel
theorem dX12_part_103 : decode cX12_part 103 = .ok (.invokestatic 59, 3) := by decide +kernel
theorem dX12_part_106 : decode cX12_part 106 = .ok (.iload_n 2, 1) := by decide +kernel
theorem dX12_part_107 : decode cX12_part 107 = .ok (.bipush 100, 2) := by decide +kernel
theorem dX12_part_109 : decode cX12_part 109 = .ok (.idiv, 1) := by decide +kernel
theorem dX12_part_110 : decode cX12_part 110 = .ok (.iastore, 1) := by decide +kernel
theorem dX12_part_111 : decode cX12_part 111 = .ok (.aload_n 0, 1) := by decide +kernel
theorem dX12_part_112 : decode cX12_part 112 = .ok (.getfield 9, 3) := by decide +kernel
theorem dX12_part_115 : decode cX12_part 115 = .ok (.iload 5, 2) := by decide +kernel
theorem dX12_part_117 : decode cX12_part 117 = .ok (.iconst 2, 1) := by decide +kernel
theorem dX12_part_118 : decode cX12_part 118 = .ok (.invokestatic 59, 3) := by decide +kernel
theorem dX12_part_121 : decode cX12_part 121 = .ok (.iload_n 2, 1) := by decide +kernel
theorem dX12_part_122 : decode cX12_part 122 = .ok (.bipush 10, 2) := by decide +kernel
theorem dX12_part_124 : decode cX12_part 124 = .ok (.idiv, 1) := by decide +kernel
theorem dX12_part_125 : decode cX12_part 125 = .ok (.bipush 10, 2) := by decide +kernel
theorem dX12_part_127 : decode cX12_part 127 = .ok (.irem, 1) := by decide +kernel
theorem dX12_part_128 : decode cX12_part 128 = .ok (.iastore, 1) := by decide +kernel
theorem dX12_part_129 : decode cX12_part 129 = .ok (.aload_n 0, 1) := by decide +kernel
theorem dX12_part_130 : decode cX12_part 130 = .ok (.getfield 9, 3) := by decide +kernel
theorem dX12_part_133 : decode cX12_part 133 = .ok (.iload 5, 2) := by decide +kernel
theorem dX12_part_135 : decode cX12_part 135 = .ok (.iconst 3, 1) := by decide +kernel
theorem dX12_part_136 : decode cX12_part 136 = .ok (.invokestatic 59, 3) := by decide +kernel
theorem dX12_part_139 : decode cX12_part 139 = .ok (.iload_n 2, 1) := by decide +kernel
theorem dX12_part_140 : decode cX12_part 140 = .ok (.bipush 10, 2) := by decide +kernel
theorem dX12_part_142 : decode cX12_part 142 = .ok (.irem, 1) := by decide +kernel
theorem dX12_part_143 : decode cX12_part 143 = .ok (.iastore, 1) := by decide +kernel
theorem dX12_part_144 : decode cX12_part 144 = .ok (.aload_n 0, 1) := by decide +kernel
theorem dX12_part_145 : decode cX12_part 145 = .ok (.getfield 9, 3) := by decide +kernel
theorem dX12_part_148 : decode cX12_part 148 = .ok (.iload 5, 2) := by decide +kernel
theorem dX12_part_150 : decode cX12_part 150 = .ok (.iconst 4, 1) := by decide +kernel
theorem dX12_part_151 : decode cX12_part 151 = .ok (.invokestatic 59, 3) := by decide +kernel
theorem dX12_part_154 : decode cX12_part 154 = .ok (.iload_n 3, 1) := by decide +kernel
theorem dX12_part_155 : decode cX12_part 155 = .ok (.iastore, 1) := by decide +kernel
theorem dX12_part_156 : decode cX12_part 156 = .ok (.aload_n 0, 1) := by decide +kernel
theorem dX12_part_157 : decode cX12_part 157 = .ok (.getfield 9, 3) := by decide +kernel
theorem dX12_part_160 : decode cX12_part 160 = .ok (.iconst 4, 1) := by decide +kernel
theorem dX12_part_161 : decode cX12_part 161 = .ok (.dup2, 1) := by decide +kernel
theorem dX12_part_162 : decode cX12_part 162 = .ok (.iaload, 1) := by decide +kernel
theorem dX12_part_163 : decode cX12_part 163 = .ok (.iconst 1, 1) := by decide +kernel
theorem dX12_part_164 : decode cX12_part 164 = .ok (.iadd, 1) := by decide +kernel
theorem dX12_part_165 : decode cX12_part 165 = .ok (.iastore, 1) := by decide +kernel
theorem dX12_part_166 : decode cX12_part 166 = .ok (.iload 5, 2) := by decide +kernel
theorem dX12_part_168 : decode cX12_part 168 = .ok (.ireturn, 1) := by decide +kernel
theorem dX12_part__0 : decode cX12_part_ 0 = .ok (.aload_n 0, 1) := by decide +kernel
theorem dX12_part__1 : decode cX12_part_ 1 = .ok (.getfield 140, 3) := by decide +kernel
theorem dX12_part__4 : decode cX12_part_ 4 = .ok (.ifCond .eq 4, 3) := by decide +kernel
theorem dX12_part__7 : decode cX12_part_ 7 = .ok (.return_, 1) := by decide +kernel
theorem dX12_part__8 : decode cX12_part_ 8 = .ok (.aload_n 0, 1) := by decide +kernel
theorem dX12_part__9 : decode cX12_part_ 9 = .ok (.getfield 125, 3) := by decide +kernel
theorem dX12_part__12 : decode cX12_part_ 12 = .ok (.iconst 2, 1) := by decide +kernel
theorem dX12_part__13 : decode cX12_part_ 13 = .ok (.if_icmp .ne 61, 3) := by decide +kernel
theorem dX12_part__16 : decode cX12_part_ 16 = .ok (.iconst 0, 1) := by decide +kernel
theorem dX12_part__17 : decode cX12_part_ 17 = .ok (.istore_n 1, 1) := by decide +kernel
theorem dX12_part__18 : decode cX12_part_ 18 = .ok (.aload_n 0, 1) := by decide +kernel
theorem dX12_part__19 : decode cX12_part_ 19 = .ok (.getfield 131, 3) := by decide +kernel
theorem dX12_part__22 : decode cX12_part_ 22 = .ok (.istore_n 2, 1) := by decide +kernel
theorem dX12_part__23 : decode cX12_part_ 23 = .ok (.iload_n 2, 1) := by decide +kernel
theorem dX12_part__24 : decode cX12_part_ 24 = .ok (.aload_n 0, 1) := by decide +kernel
theorem dX12_part__25 : decode cX12_part_ 25 = .ok (.getfield 128, 3) := by decide +kernel
theorem dX12_part__28 : decode cX12_part_ 28 = .ok (.if_icmp .ge 24, 3) := by decide +kernel
theorem dX12_part__31 : decode cX12_part_ 31 = .ok (.bipush 10, 2) := by decide +kernel
theorem dX12_part__33 : decode cX12_part_ 33 = .ok (.iload_n 1, 1) := by decide +kernel
theorem dX12_part__34 : decode cX12_part_ 34 = .ok (.imul, 1) := by decide +kernel
theorem dX12_part__35 : decode cX12_part_ 35 = .ok (.aload_n 0, 1) := by decide +kernel
theorem dX12_part__36 : decode cX12_part_ 36 = .ok (.getfield 16, 3) := by decide +kernel
theorem dX12_part__39 : decode cX12_part_ 39 = .ok (.iload_n 2, 1) := by decide +kernel
theorem dX12_part__40 : decode cX12_part_ 40 = .ok (.iaload, 1) := by decide +kernel
theorem dX12_part__41 : decode cX12_part_ 41 = .ok (.iadd, 1) := by decide +kernel
theorem dX12_part__42 : decode cX12_part_ 42 = .ok (.bipush 48, 2) := by decide +kernel
theorem dX12_part__44 : decode cX12_part_ 44 = .ok (.isub, 1) := by decide +kernel
theorem dX12_part__45 : decode cX12_part_ 45 = .ok (.istore_n 1, 1) := by decide +kernel
theorem dX12_part__46 : decode cX12_part_ 46 = .ok (.iinc 2 1, 3) := by decide +kernel
theorem dX12_part__49 : decode cX12_part_ 49 = .ok (.goto (-26), 3) := by decide +kernel
theorem dX12_part__52 : decode cX12_part_ 52 = .ok (.aload_n 0, 1) := by decide +kernel
theorem dX12_part__53 : decode cX12_part_ 53 = .ok (.iload_n 1, 1) := by decide +kernel
theorem dX12_part__54 : decode cX12_part_ 54 = .ok (.invokevirtual 168, 3) := by decide +kernel
theorem dX12_part__57 : decode cX12_part_ 57 = .ok (.aload_n 0, 1) := by decide +kernel
theorem dX12_part__58 : decode cX12_part_ 58 = .ok (.dup, 1) := by decide +kernel
theorem dX12_part__59 : decode cX12_part_ 59 = .ok (.getfield 172, 3) := by decide +kernel
theorem dX12_part__62 : decode cX12_part_ 62 = .ok (.iconst 1, 1) := by decide +kernel
theorem dX12_part__63 : decode cX12_part_ 63 = .ok (.iadd, 1) := by decide +kernel
theorem dX12_part__64 : decode cX12_part_ 64 = .ok (.putfield 172, 3) := by decide +kernel
theorem dX12_part__67 : decode cX12_part_ 67 = .ok (.aload_n 0, 1) := by decide +kernel
theorem dX12_part__68 : decode cX12_part_ 68 = .ok (.invokevirtual 144, 3) := by decide +kernel
theorem dX12_part__71 : decode cX12_part_ 71 = .ok (.goto 202, 3) := by decide +kernel
theorem dX12_part__74 : decode cX12_part_ 74 = .ok (.aload_n 0, 1) := by decide +kernel
theorem dX12_part__75 : decode cX12_part_ 75 = .ok (.getfield 125, 3) := by decide +kernel
theorem dX12_part__78 : decode cX12_part_ 78 = .ok (.iconst 1, 1) := by decide +kernel
theorem dX12_part__79 : decode cX12_part_ 79 = .ok (.if_icmp .ne 75, 3) := by decide +kernel
theorem dX12_part__82 : decode cX12_part_ 82 = .ok (.aload_n 0, 1) := by decide +kernel
theorem dX12_part__83 : decode cX12_part_ 83 = .ok (.getfield 128, 3) := by decide +kernel
theorem dX12_part__86 : decode cX12_part_ 86 = .ok (.aload_n 0, 1) := by decide +kernel
theorem dX12_part__87 : decode cX12_part_ 87 = .ok (.getfield 131, 3) := by decide +kernel
theorem dX12_part__90 : decode cX12_part_ 90 = .ok (.isub, 1) := by decide +kernel
theorem dX12_part__91 : decode cX12_part_ 91 = .ok (.iconst 1, 1) := by decide +kernel
theorem dX12_part__92 : decode cX12_part_ 92 = .ok (.if_icmp .ne 62, 3) := by decide +kernel
theorem dX12_part__95 : decode cX12_part_ 95 = .ok (.aload_n 0, 1) := by decide +kernel
theorem dX12_part__96 : decode cX12_part_ 96 = .ok (.getfield 33, 3) := by decide +kernel
theorem dX12_part__99 : decode cX12_part_ 99 = .ok (.aload_n 0, 1) := by decide +kernel
theorem dX12_part__100 : decode cX12_part_ 100 = .ok (.getfield 16, 3) := by decide +kernel
theorem dX12_part__103 : decode cX12_part_ 103 = .ok (.aload_n 0, 1) := by decide +kernel
theorem dX12_part__104 : decode cX12_part_ 104 = .ok (.getfield 131, 3) := by decide +kernel
theorem dX12_part__107 : decode cX12_part_ 107 = .ok (.iaload, 1) := by decide +kernel
theorem dX12_part__108 : decode cX12_part_ 108 = .ok (.invokevirtual 175, 3) := by decide +kernel
theorem dX12_part__111 : decode cX12_part_ 111 = .ok (.ifCond .lt 43, 3) := by decide +kernel
theorem dX12_part__114 : decode cX12_part_ 114 = .ok (.aload_n 0, 1) := by decide +kernel
theorem dX12_part__115 : decode cX12_part_ 115 = .ok (.ldc 178, 2) := by decide +kernel
theorem dX12_part__117 : decode cX12_part_ 117 = .ok (.aload_n 0, 1) := by decide +kernel
theorem dX12_part__118 : decode cX12_part_ 118 = .ok (.getfield 33, 3) := by decide +kernel
theorem dX12_part__121 : decode cX12_part_ 121 = .ok (.aload_n 0, 1) := by decide +kernel
theorem dX12_part__122 : decode cX12_part_ 122 = .ok (.getfield 16, 3) := by decide +kernel
theorem dX12_part__125 : decode cX12_part_ 125 = .ok (.aload_n 0, 1) := by decide +kernel
theorem dX12_part__126 : decode cX12_part_ 126 = .ok (.getfield 131, 3) := by decide +kernel
theorem dX12_part__129 : decode cX12_part_ 129 = .ok (.iaload, 1) := by decide +kernel
theorem dX12_part__130 : decode cX12_part_ 130 = .ok (.invokevirtual 175, 3) := by decide +kernel
theorem dX12_part__133 : decode cX12_part_ 133 = .ok (.iadd, 1) := by decide +kernel
theorem dX12_part__134 : decode cX12_part_ 134 = .ok (.invokevirtual 168, 3) := by decide +kernel
theorem dX12_part__137 : decode cX12_part_ 137 = .ok (.aload_n 0, 1) := by decide +kernel
theorem dX12_part__138 : decode cX12_part_ 138 = .ok (.dup, 1) := by decide +kernel
theorem dX12_part__139 : decode cX12_part_ 139 = .ok (.getfield 172, 3) := by decide +kernel
theorem dX12_part__142 : decode cX12_part_ 142 = .ok (.iconst 1, 1) := by decide +kernel
theorem dX12_part__143 : decode cX12_part_ 143 = .ok (.iadd, 1) := by decide +kernel
theorem dX12_part__144 : decode cX12_part_ 144 = .ok (.putfield 172, 3) := by decide +kernel
theorem dX12_part__147 : decode cX12_part_ 147 = .ok (.aload_n 0, 1) := by decide +kernel
theorem dX12_part__148 : decode cX12_part_ 148 = .ok (.invokevirtual 144, 3) := by decide +kernel
theorem dX12_part__151 : decode cX12_part_ 151 = .ok (.goto 122, 3) := by decide +kernel
theorem dX12_part__154 : decode cX12_part_ 154 = .ok (.aload_n 0, 1) := by decide +kernel
theorem dX12_part__155 : decode cX12_part_ 155 = .ok (.bipush 33, 2) := by decide +kernel
theorem dX12_part__157 : decode cX12_part_ 157 = .ok (.invokevirtual 165, 3) := by decide +kernel
theorem dX12_part__160 : decode cX12_part_ 160 = .ok (.ifCond .eq 49, 3) := by decide +kernel
theorem dX12_part__163 : decode cX12_part_ 163 = .ok (.aload_n 0, 1) := by decide +kernel
theorem dX12_part__164 : decode cX12_part_ 164 = .ok (.getfield 179, 3) := by decide +kernel
theorem dX12_part__167 : decode cX12_part_ 167 = .ok (.bipush 8, 2) := by decide +kernel
theorem dX12_part__169 : decode cX12_part_ 169 = .ok (.if_icmp .ge 40, 3) := by decide +kernel
theorem dX12_part__172 : decode cX12_part_ 172 = .ok (.aload_n 0, 1) := by decide +kernel
theorem dX12_part__173 : decode cX12_part_ 173 = .ok (.dup, 1) := by decide +kernel
theorem dX12_part__174 : decode cX12_part_ 174 = .ok (.getfield 179, 3) := by decide +kernel
theorem dX12_part__177 : decode cX12_part_ 177 = .ok (.iconst 1, 1) := by decide +kernel
theorem dX12_part__178 : decode cX12_part_ 178 = .ok (.iadd, 1) := by decide +kernel
theorem dX12_part__179 : decode cX12_part_ 179 = .ok (.putfield 179, 3) := by decide +kernel
theorem dX12_part__182 : decode cX12_part_ 182 = .ok (.aload_n 0, 1) := by decide +kernel
theorem dX12_part__183 : decode cX12_part_ 183 = .ok (.invokevirtual 144, 3) := by decide +kernel
theorem dX12_part__186 : decode cX12_part_ 186 = .ok (.aload_n 0, 1) := by decide +kernel
theorem dX12_part__187 : decode cX12_part_ 187 = .ok (.invokevirtual 182, 3) := by decide +kernel
theorem dX12_part__190 : decode cX12_part_ 190 = .ok (.aload_n 0, 1) := by decide +kernel
theorem dX12_part__191 : decode cX12_part_ 191 = .ok (.dup, 1) := by decide +kernel
theorem dX12_part__192 : decode cX12_part_ 192 = .ok (.getfield 179, 3) := by decide +kernel
theorem dX12_part__195 : decode cX12_part_ 195 = .ok (.iconst 1, 1) := by decide +kernel
theorem dX12_part__196 : decode cX12_part_ 196 = .ok (.isub, 1) := by decide +kernel
theorem dX12_part__197 : decode cX12_part_ 197 = .ok (.putfield 179, 3) := by decide +kernel
theorem dX12_part__200 : decode cX12_part_ 200 = .ok (.aload_n 0, 1) := by decide +kernel
theorem dX12_part__201 : decode cX12_part_ 201 = .ok (.ldc 185, 2) := by decide +kernel
theorem dX12_part__203 : decode cX12_part_ 203 = .ok (.invokevirtual 168, 3) := by decide +kernel
theorem dX12_part__206 : decode cX12_part_ 206 = .ok (.goto 67, 3) := by decide +kernel
theorem dX12_part__209 : decode cX12_part_ 209 = .ok (.aload_n 0, 1) := by decide +kernel
theorem dX12_part__210 : decode cX12_part_ 210 = .ok (.bipush 40, 2) := by decide +kernel
theorem dX12_part__212 : decode cX12_part_ 212 = .ok (.invokevirtual 165, 3) := by decide +kernel
theorem dX12_part__215 : decode cX12_part_ 215 = .ok (.ifCond .eq 53, 3) := by decide +kernel
theorem dX12_part__218 : decode cX12_part_ 218 = .ok (.aload_n 0, 1) := by decide +kernel
theorem dX12_part__219 : decode cX12_part_ 219 = .ok (.getfield 186, 3) := by decide +kernel
theorem dX12_part__222 : decode cX12_part_ 222 = .ok (.bipush 8, 2) := by decide +kernel
theorem dX12_part__224 : decode cX12_part_ 224 = .ok (.if_icmp .ge 44, 3) := by decide +kernel
theorem dX12_part__227 : decode cX12_part_ 227 = .ok (.aload_n 0, 1) := by decide +kernel
theorem dX12_part__228 : decode cX12_part_ 228 = .ok (.dup, 1) := by decide +kernel
theorem dX12_part__229 : decode cX12_part_ 229 = .ok (.getfield 186, 3) := by decide +kernel
theorem dX12_part__232 : decode cX12_part_ 232 = .ok (.iconst 1, 1) := by decide +kernel
theorem dX12_part__233 : decode cX12_part_ 233 = .ok (.iadd, 1) := by decide +kernel
theorem dX12_part__234 : decode cX12_part_ 234 = .ok (.putfield 186, 3) := by decide +kernel
theorem dX12_part__237 : decode cX12_part_ 237 = .ok (.aload_n 0, 1) := by decide +kernel
theorem dX12_part__238 : decode cX12_part_ 238 = .ok (.invokevirtual 144, 3) := by decide +kernel
theorem dX12_part__241 : decode cX12_part_ 241 = .ok (.aload_n 0, 1) := by decide +kernel
theorem dX12_part__242 : decode cX12_part_ 242 = .ok (.invokevirtual 189, 3) := by decide +kernel
theorem dX12_part__245 : decode cX12_part_ 245 = .ok (.aload_n 0, 1) := by decide +kernel
theorem dX12_part__246 : decode cX12_part_ 246 = .ok (.aload_n 0, 1) := by decide +kernel
theorem dX12_part__247 : decode cX12_part_ 247 = .ok (.bipush 41, 2) := by decide +kernel
theorem dX12_part__249 : decode cX12_part_ 249 = .ok (.invokevirtual 165, 3) := by decide +kernel
theorem dX12_part__252 : decode cX12_part_ 252 = .ok (.invokevirtual 157, 3) := by decide +kernel
theorem dX12_part__255 : decode cX12_part_ 255 = .ok (.aload_n 0, 1) := by decide +kernel
theorem dX12_part__256 : decode cX12_part_ 256 = .ok (.dup, 1) := by decide +kernel
theorem dX12_part__257 : decode cX12_part_ 257 = .ok (.getfield 186, 3) := by decide +kernel
theorem dX12_part__260 : decode cX12_part_ 260 = .ok (.iconst 1, 1) := by decide +kernel
theorem dX12_part__261 : decode cX12_part_ 261 = .ok (.isub, 1) := by decide +kernel
theorem dX12_part__262 : decode cX12_part_ 262 = .ok (.putfield 186, 3) := by decide +kernel
theorem dX12_part__265 : decode cX12_part_ 265 = .ok (.goto 8, 3) := by decide +kernel
theorem dX12_part__268 : decode cX12_part_ 268 = .ok (.aload_n 0, 1) := by decide +kernel
theorem dX12_part__269 : decode cX12_part_ 269 = .ok (.iconst 1, 1) := by decide +kernel
theorem dX12_part__270 : decode cX12_part_ 270 = .ok (.putfield 140, 3) := by decide +kernel
theorem dX12_part__273 : decode cX12_part_ 273 = .ok (.return_, 1) := by decide +kernel
theorem dX12_picksOf_0 : decode cX12_picksOf 0 = .ok (.iconst 0, 1) := by decide +kernel
theorem dX12_picksOf_1 : decode cX12_picksOf 1 = .ok (.istore 4, 2) := by decide +kernel
theorem dX12_picksOf_3 : decode cX12_picksOf 3 = .ok (.iconst 0, 1) := by decide +kernel
theorem dX12_picksOf_4 : decode cX12_picksOf 4 = .ok (.istore 5, 2) := by decide +kernel
theorem dX12_picksOf_6 : decode cX12_picksOf 6 = .ok (.iload 5, 2) := by decide +kernel
theorem dX12_picksOf_8 : decode cX12_picksOf 8 = .ok (.aload_n 0, 1) := by decide +kernel
theorem dX12_picksOf_9 : decode cX12_picksOf 9 = .ok (.getfield 9, 3) := by decide +kernel
theorem dX12_picksOf_12 : decode cX12_picksOf 12 = .ok (.bipush 6, 2) := by decide +kernel
theorem dX12_picksOf_14 : decode cX12_picksOf 14 = .ok (.iaload, 1) := by decide +kernel
theorem dX12_picksOf_15 : decode cX12_picksOf 15 = .ok (.if_icmp .ge 89, 3) := by decide +kernel
theorem dX12_picksOf_18 : decode cX12_picksOf 18 = .ok (.iconst 0, 1) := by decide +kernel
theorem dX12_picksOf_19 : decode cX12_picksOf 19 = .ok (.istore 6, 2) := by decide +kernel
theorem dX12_picksOf_21 : decode cX12_picksOf 21 = .ok (.iload 6, 2) := by decide +kernel
theorem dX12_picksOf_23 : decode cX12_picksOf 23 = .ok (.aload_n 0, 1) := by decide +kernel
theorem dX12_picksOf_24 : decode cX12_picksOf 24 = .ok (.getfield 9, 3) := by decide +kernel
theorem dX12_picksOf_27 : decode cX12_picksOf 27 = .ok (.iconst 4, 1) := by decide +kernel
theorem dX12_picksOf_28 : decode cX12_picksOf 28 = .ok (.iaload, 1) := by decide +kernel
theorem dX12_picksOf_29 : decode cX12_picksOf 29 = .ok (.if_icmp .ge 69, 3) := by decide +kernel
theorem dX12_picksOf_32 : decode cX12_picksOf 32 = .ok (.iload_n 3, 1) := by decide +kernel
theorem dX12_picksOf_33 : decode cX12_picksOf 33 = .ok (.iload 5, 2) := by decide +kernel
theorem dX12_picksOf_35 : decode cX12_picksOf 35 = .ok (.invokestatic 76, 3) := by decide +kernel
theorem dX12_picksOf_38 : decode cX12_picksOf 38 = .ok (.iload_n 2, 1) := by decide +kernel
theorem dX12_picksOf_39 : decode cX12_picksOf 39 = .ok (.iconst 1, 1) := by decide +kernel
theorem dX12_picksOf_40 : decode cX12_picksOf 40 = .ok (.if_icmp .ne 7, 3) := by decide +kernel
theorem dX12_picksOf_43 : decode cX12_picksOf 43 = .ok (.iconst 1, 1) := by decide +kernel
theorem dX12_picksOf_44 : decode cX12_picksOf 44 = .ok (.goto 4, 3) := by decide +kernel
theorem dX12_picksOf_47 : decode cX12_picksOf 47 = .ok (.iconst 0, 1) := by decide +kernel
theorem dX12_picksOf_48 : decode cX12_picksOf 48 = .ok (.if_icmp .ne 50, 3) := by decide +kernel
theorem dX12_picksOf_51 : decode cX12_picksOf 51 = .ok (.iload 4, 2) := by decide +kernel
theorem dX12_picksOf_53 : decode cX12_picksOf 53 = .ok (.aload_n 0, 1) := by decide +kernel
theorem dX12_picksOf_54 : decode cX12_picksOf 54 = .ok (.getfield 28, 3) := by decide +kernel
theorem dX12_picksOf_57 : decode cX12_picksOf 57 = .ok (.bipush 14, 2) := by decide +kernel
theorem dX12_picksOf_59 : decode cX12_picksOf 59 = .ok (.iload 5, 2) := by decide +kernel
theorem dX12_picksOf_61 : decode cX12_picksOf 61 = .ok (.imul, 1) := by decide +kernel
theorem dX12_picksOf_62 : decode cX12_picksOf 62 = .ok (.iload 6, 2) := by decide +kernel
theorem dX12_picksOf_64 : decode cX12_picksOf 64 = .ok (.iadd, 1) := by decide +kernel
theorem dX12_picksOf_65 : decode cX12_picksOf 65 = .ok (.iaload, 1) := by decide +kernel
theorem dX12_picksOf_66 : decode cX12_picksOf 66 = .ok (.ifCond .le 22, 3) := by decide +kernel
theorem dX12_picksOf_69 : decode cX12_picksOf 69 = .ok (.aload_n 0, 1) := by decide +kernel
theorem dX12_picksOf_70 : decode cX12_picksOf 70 = .ok (.getfield 9, 3) := by decide +kernel
theorem dX12_picksOf_73 : decode cX12_picksOf 73 = .ok (.iload 6, 2) := by decide +kernel
theorem dX12_picksOf_75 : decode cX12_picksOf 75 = .ok (.iconst 2, 1) := by decide +kernel
theorem dX12_picksOf_76 : decode cX12_picksOf 76 = .ok (.invokestatic 59, 3) := by decide +kernel
theorem dX12_picksOf_79 : decode cX12_picksOf 79 = .ok (.iaload, 1) := by decide +kernel
theorem dX12_picksOf_80 : decode cX12_picksOf 80 = .ok (.iload_n 1, 1) := by decide +kernel
theorem dX12_picksOf_81 : decode cX12_picksOf 81 = .ok (.if_icmp .ne 7, 3) := by decide +kernel
theorem dX12_picksOf_84 : decode cX12_picksOf 84 = .ok (.iconst 1, 1) := by decide +kernel
theorem dX12_picksOf_85 : decode cX12_picksOf 85 = .ok (.goto 4, 3) := by decide +kernel
theorem dX12_picksOf_88 : decode cX12_picksOf 88 = .ok (.iconst 0, 1) := by decide +kernel
theorem dX12_picksOf_89 : decode cX12_picksOf 89 = .ok (.iadd, 1) := by decide +kernel
theorem dX12_picksOf_90 : decode cX12_picksOf 90 = .ok (.istore 4, 2) := by decide +kernel
theorem dX12_picksOf_92 : decode cX12_picksOf 92 = .ok (.iinc 6 1, 3) := by decide +kernel
theorem dX12_picksOf_95 : decode cX12_picksOf 95 = .ok (.goto (-74), 3) := by decide +kernel
theorem dX12_picksOf_98 : decode cX12_picksOf 98 = .ok (.iinc 5 1, 3) := by decide +kernel
theorem dX12_picksOf_101 : decode cX12_picksOf 101 = .ok (.goto (-95), 3) := by decide +kernel
theorem dX12_picksOf_104 : decode cX12_picksOf 104 = .ok (.iload 4, 2) := by decide +kernel
theorem dX12_picksOf_106 : decode cX12_picksOf 106 = .ok (.ireturn, 1) := by decide +kernel
theorem dX12_picks_0 : decode cX12_picks 0 = .ok (.iload_n 1, 1) := by decide +kernel
theorem dX12_picks_1 : decode cX12_picks 1 = .ok (.iconst 0, 1) := by decide +kernel
theorem dX12_picks_2 : decode cX12_picks 2 = .ok (.iconst 3, 1) := by decide +kernel
theorem dX12_picks_3 : decode cX12_picks 3 = .ok (.invokestatic 52, 3) := by decide +kernel
theorem dX12_picks_6 : decode cX12_picks 6 = .ok (.ifCond .eq 29, 3) := by decide +kernel
theorem dX12_picks_9 : decode cX12_picks 9 = .ok (.iload_n 2, 1) := by decide +kernel
theorem dX12_picks_10 : decode cX12_picks 10 = .ok (.iconst 0, 1) := by decide +kernel
theorem dX12_picks_11 : decode cX12_picks 11 = .ok (.iconst 1, 1) := by decide +kernel
theorem dX12_picks_12 : decode cX12_picks 12 = .ok (.invokestatic 52, 3) := by decide +kernel
theorem dX12_picks_15 : decode cX12_picks 15 = .ok (.ifCond .eq 20, 3) := by decide +kernel
theorem dX12_picks_18 : decode cX12_picks 18 = .ok (.iload_n 3, 1) := by decide +kernel
theorem dX12_picks_19 : decode cX12_picks 19 = .ok (.ifCond .lt 16, 3) := by decide +kernel
theorem dX12_picks_22 : decode cX12_picks 22 = .ok (.iload_n 3, 1) := by decide +kernel
theorem dX12_picks_23 : decode cX12_picks 23 = .ok (.iconst 1, 1) := by decide +kernel
theorem dX12_picks_24 : decode cX12_picks 24 = .ok (.aload_n 0, 1) := by decide +kernel
theorem dX12_picks_25 : decode cX12_picks 25 = .ok (.getfield 9, 3) := by decide +kernel
theorem dX12_picks_28 : decode cX12_picks 28 = .ok (.bipush 6, 2) := by decide +kernel
theorem dX12_picks_30 : decode cX12_picks 30 = .ok (.iaload, 1) := by decide +kernel
theorem dX12_picks_31 : decode cX12_picks 31 = .ok (.ishl, 1) := by decide +kernel
theorem dX12_picks_32 : decode cX12_picks 32 = .ok (.if_icmp .lt 6, 3) := by decide +kernel
theorem dX12_picks_35 : decode cX12_picks 35 = .ok (.ldc 57, 2) := by decide +kernel
theorem dX12_picks_37 : decode cX12_picks 37 = .ok (.ireturn, 1) := by decide +kernel
theorem dX12_picks_38 : decode cX12_picks 38 = .ok (.aload_n 0, 1) := by decide +kernel
theorem dX12_picks_39 : decode cX12_picks 39 = .ok (.invokevirtual 264, 3) := by decide +kernel
theorem dX12_picks_42 : decode cX12_picks 42 = .ok (.aload_n 0, 1) := by decide +kernel
theorem dX12_picks_43 : decode cX12_picks 43 = .ok (.iload_n 1, 1) := by decide +kernel
theorem dX12_picks_44 : decode cX12_picks 44 = .ok (.iload_n 2, 1) := by decide +kernel
theorem dX12_picks_45 : decode cX12_picks 45 = .ok (.iload_n 3, 1) := by decide +kernel
theorem dX12_picks_46 : decode cX12_picks 46 = .ok (.invokevirtual 307, 3) := by decide +kernel
theorem dX12_picks_49 : decode cX12_picks 49 = .ok (.ireturn, 1) := by decide +kernel
theorem dX12_planFrom_0 : decode cX12_planFrom 0 = .ok (.aload_n 0, 1) := by decide +kernel
theorem dX12_planFrom_1 : decode cX12_planFrom 1 = .ok (.getfield 273, 3) := by decide +kernel
theorem dX12_planFrom_4 : decode cX12_planFrom 4 = .ok (.ifCond .lt 28, 3) := by decide +kernel
theorem dX12_planFrom_7 : decode cX12_planFrom 7 = .ok (.iload_n 2, 1) := by decide +kernel
theorem dX12_planFrom_8 : decode cX12_planFrom 8 = .ok (.aload_n 0, 1) := by decide +kernel
theorem dX12_planFrom_9 : decode cX12_planFrom 9 = .ok (.getfield 273, 3) := by decide +kernel
theorem dX12_planFrom_12 : decode cX12_planFrom 12 = .ok (.if_icmp .gt 19, 3) := by decide +kernel
theorem dX12_planFrom_15 : decode cX12_planFrom 15 = .ok (.iload_n 2, 1) := by decide +kernel
theorem dX12_planFrom_16 : decode cX12_planFrom 16 = .ok (.aload_n 0, 1) := by decide +kernel
theorem dX12_planFrom_17 : decode cX12_planFrom 17 = .ok (.getfield 273, 3) := by decide +kernel
theorem dX12_planFrom_20 : decode cX12_planFrom 20 = .ok (.if_icmp .ne 12, 3) := by decide +kernel
theorem dX12_planFrom_23 : decode cX12_planFrom 23 = .ok (.iload_n 3, 1) := by decide +kernel
theorem dX12_planFrom_24 : decode cX12_planFrom 24 = .ok (.aload_n 0, 1) := by decide +kernel
theorem dX12_planFrom_25 : decode cX12_planFrom 25 = .ok (.getfield 276, 3) := by decide +kernel
theorem dX12_planFrom_28 : decode cX12_planFrom 28 = .ok (.if_icmp .lt 4, 3) := by decide +kernel
theorem dX12_planFrom_31 : decode cX12_planFrom 31 = .ok (.return_, 1) := by decide +kernel
theorem dX12_planFrom_32 : decode cX12_planFrom 32 = .ok (.iload_n 1, 1) := by decide +kernel
theorem dX12_planFrom_33 : decode cX12_planFrom 33 = .ok (.aload_n 0, 1) := by decide +kernel
theorem dX12_planFrom_34 : decode cX12_planFrom 34 = .ok (.getfield 9, 3) := by decide +kernel
theorem dX12_planFrom_37 : decode cX12_planFrom 37 = .ok (.bipush 6, 2) := by decide +kernel
theorem dX12_planFrom_39 : decode cX12_planFrom 39 = .ok (.iaload, 1) := by decide +kernel
theorem dX12_planFrom_40 : decode cX12_planFrom 40 = .ok (.if_icmp .ne 51, 3) := by decide +kernel
theorem dX12_planFrom_43 : decode cX12_planFrom 43 = .ok (.aload_n 0, 1) := by decide +kernel
theorem dX12_planFrom_44 : decode cX12_planFrom 44 = .ok (.invokevirtual 279, 3) := by decide +kernel
theorem dX12_planFrom_47 : decode cX12_planFrom 47 = .ok (.ifCond .eq 43, 3) := by decide +kernel
theorem dX12_planFrom_50 : decode cX12_planFrom 50 = .ok (.aload_n 0, 1) := by decide +kernel
theorem dX12_planFrom_51 : decode cX12_planFrom 51 = .ok (.iload_n 2, 1) := by decide +kernel
theorem dX12_planFrom_52 : decode cX12_planFrom 52 = .ok (.putfield 273, 3) := by decide +kernel
theorem dX12_planFrom_55 : decode cX12_planFrom 55 = .ok (.aload_n 0, 1) := by decide +kernel
theorem dX12_planFrom_56 : decode cX12_planFrom 56 = .ok (.iload_n 3, 1) := by decide +kernel
theorem dX12_planFrom_57 : decode cX12_planFrom 57 = .ok (.putfield 276, 3) := by decide +kernel
theorem dX12_planFrom_60 : decode cX12_planFrom 60 = .ok (.iconst 0, 1) := by decide +kernel
theorem dX12_planFrom_61 : decode cX12_planFrom 61 = .ok (.istore 4, 2) := by decide +kernel
theorem dX12_planFrom_63 : decode cX12_planFrom 63 = .ok (.iload 4, 2) := by decide +kernel
theorem dX12_planFrom_65 : decode cX12_planFrom 65 = .ok (.bipush 12, 2) := by decide +kernel
theorem dX12_planFrom_67 : decode cX12_planFrom 67 = .ok (.if_icmp .ge 23, 3) := by decide +kernel
theorem dX12_planFrom_70 : decode cX12_planFrom 70 = .ok (.aload_n 0, 1) := by decide +kernel
theorem dX12_planFrom_71 : decode cX12_planFrom 71 = .ok (.getfield 46, 3) := by decide +kernel
theorem dX12_planFrom_74 : decode cX12_planFrom 74 = .ok (.iload 4, 2) := by decide +kernel
theorem dX12_planFrom_76 : decode cX12_planFrom 76 = .ok (.aload_n 0, 1) := by decide +kernel
theorem dX12_planFrom_77 : decode cX12_planFrom 77 = .ok (.getfield 43, 3) := by decide +kernel
theorem dX12_planFrom_80 : decode cX12_planFrom 80 = .ok (.iload 4, 2) := by decide +kernel
theorem dX12_planFrom_82 : decode cX12_planFrom 82 = .ok (.iaload, 1) := by decide +kernel
theorem dX12_planFrom_83 : decode cX12_planFrom 83 = .ok (.iastore, 1) := by decide +kernel
theorem dX12_planFrom_84 : decode cX12_planFrom 84 = .ok (.iinc 4 1, 3) := by decide +kernel
theorem dX12_planFrom_87 : decode cX12_planFrom 87 = .ok (.goto (-24), 3) := by decide +kernel
theorem dX12_planFrom_90 : decode cX12_planFrom 90 = .ok (.return_, 1) := by decide +kernel
theorem dX12_planFrom_91 : decode cX12_planFrom 91 = .ok (.aload_n 0, 1) := by decide +kernel
theorem dX12_planFrom_92 : decode cX12_planFrom 92 = .ok (.iload_n 1, 1) := by decide +kernel
theorem dX12_planFrom_93 : decode cX12_planFrom 93 = .ok (.iconst 1, 1) := by decide +kernel
theorem dX12_planFrom_94 : decode cX12_planFrom 94 = .ok (.iadd, 1) := by decide +kernel
theorem dX12_planFrom_95 : decode cX12_planFrom 95 = .ok (.iload_n 2, 1) := by decide +kernel
theorem dX12_planFrom_96 : decode cX12_planFrom 96 = .ok (.iload_n 3, 1) := by decide +kernel
theorem dX12_planFrom_97 : decode cX12_planFrom 97 = .ok (.invokevirtual 283, 3) := by decide +kernel
theorem dX12_planFrom_100 : decode cX12_planFrom 100 = .ok (.iconst 0, 1) := by decide +kernel
theorem dX12_planFrom_101 : decode cX12_planFrom 101 = .ok (.istore 4, 2) := by decide +kernel
