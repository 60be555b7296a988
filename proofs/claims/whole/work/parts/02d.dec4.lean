theorem dX12_planFrom_103 : decode cX12_planFrom 103 = .ok (.iload 4, 2) := by decide +kernel
theorem dX12_planFrom_105 : decode cX12_planFrom 105 = .ok (.aload_n 0, 1) := by decide +kernel
theorem dX12_planFrom_106 : decode cX12_planFrom 106 = .ok (.getfield 9, 3) := by decide +kernel
theorem dX12_planFrom_109 : decode cX12_planFrom 109 = .ok (.iconst 4, 1) := by decide +kernel
theorem dX12_planFrom_110 : decode cX12_planFrom 110 = .ok (.iaload, 1) := by decide +kernel
theorem dX12_planFrom_111 : decode cX12_planFrom 111 = .ok (.if_icmp .ge 59, 3) := by decide +kernel
theorem dX12_planFrom_114 : decode cX12_planFrom 114 = .ok (.iconst 0, 1) := by decide +kernel
theorem dX12_planFrom_115 : decode cX12_planFrom 115 = .ok (.istore 5, 2) := by decide +kernel
theorem dX12_planFrom_117 : decode cX12_planFrom 117 = .ok (.iload 5, 2) := by decide +kernel
theorem dX12_planFrom_119 : decode cX12_planFrom 119 = .ok (.aload_n 0, 1) := by decide +kernel
theorem dX12_planFrom_120 : decode cX12_planFrom 120 = .ok (.getfield 9, 3) := by decide +kernel
theorem dX12_planFrom_123 : decode cX12_planFrom 123 = .ok (.iconst 4, 1) := by decide +kernel
theorem dX12_planFrom_124 : decode cX12_planFrom 124 = .ok (.iaload, 1) := by decide +kernel
theorem dX12_planFrom_125 : decode cX12_planFrom 125 = .ok (.if_icmp .ge 39, 3) := by decide +kernel
theorem dX12_planFrom_128 : decode cX12_planFrom 128 = .ok (.aload_n 0, 1) := by decide +kernel
theorem dX12_planFrom_129 : decode cX12_planFrom 129 = .ok (.getfield 250, 3) := by decide +kernel
theorem dX12_planFrom_132 : decode cX12_planFrom 132 = .ok (.ifCond .ne 32, 3) := by decide +kernel
theorem dX12_planFrom_135 : decode cX12_planFrom 135 = .ok (.aload_n 0, 1) := by decide +kernel
theorem dX12_planFrom_136 : decode cX12_planFrom 136 = .ok (.iload_n 1, 1) := by decide +kernel
theorem dX12_planFrom_137 : decode cX12_planFrom 137 = .ok (.iload 4, 2) := by decide +kernel
theorem dX12_planFrom_139 : decode cX12_planFrom 139 = .ok (.iload 5, 2) := by decide +kernel
theorem dX12_planFrom_141 : decode cX12_planFrom 141 = .ok (.invokevirtual 287, 3) := by decide +kernel
theorem dX12_planFrom_144 : decode cX12_planFrom 144 = .ok (.ifCond .eq 14, 3) := by decide +kernel
theorem dX12_planFrom_147 : decode cX12_planFrom 147 = .ok (.aload_n 0, 1) := by decide +kernel
theorem dX12_planFrom_148 : decode cX12_planFrom 148 = .ok (.iload_n 1, 1) := by decide +kernel
theorem dX12_planFrom_149 : decode cX12_planFrom 149 = .ok (.iload 4, 2) := by decide +kernel
theorem dX12_planFrom_151 : decode cX12_planFrom 151 = .ok (.iload 5, 2) := by decide +kernel
theorem dX12_planFrom_153 : decode cX12_planFrom 153 = .ok (.iload_n 2, 1) := by decide +kernel
theorem dX12_planFrom_154 : decode cX12_planFrom 154 = .ok (.iload_n 3, 1) := by decide +kernel
theorem dX12_planFrom_155 : decode cX12_planFrom 155 = .ok (.invokevirtual 290, 3) := by decide +kernel
theorem dX12_planFrom_158 : decode cX12_planFrom 158 = .ok (.iinc 5 1, 3) := by decide +kernel
theorem dX12_planFrom_161 : decode cX12_planFrom 161 = .ok (.goto (-44), 3) := by decide +kernel
theorem dX12_planFrom_164 : decode cX12_planFrom 164 = .ok (.iinc 4 1, 3) := by decide +kernel
theorem dX12_planFrom_167 : decode cX12_planFrom 167 = .ok (.goto (-64), 3) := by decide +kernel
theorem dX12_planFrom_170 : decode cX12_planFrom 170 = .ok (.return_, 1) := by decide +kernel
theorem dX12_plan_0 : decode cX12_plan 0 = .ok (.iload_n 1, 1) := by decide +kernel
theorem dX12_plan_1 : decode cX12_plan 1 = .ok (.iconst 1, 1) := by decide +kernel
theorem dX12_plan_2 : decode cX12_plan 2 = .ok (.sipush 5000, 3) := by decide +kernel
theorem dX12_plan_5 : decode cX12_plan 5 = .ok (.invokestatic 52, 3) := by decide +kernel
theorem dX12_plan_8 : decode cX12_plan 8 = .ok (.ifCond .ne 6, 3) := by decide +kernel
theorem dX12_plan_11 : decode cX12_plan 11 = .ok (.ldc 57, 2) := by decide +kernel
theorem dX12_plan_13 : decode cX12_plan 13 = .ok (.ireturn, 1) := by decide +kernel
theorem dX12_plan_14 : decode cX12_plan 14 = .ok (.aload_n 0, 1) := by decide +kernel
theorem dX12_plan_15 : decode cX12_plan 15 = .ok (.iload_n 1, 1) := by decide +kernel
theorem dX12_plan_16 : decode cX12_plan 16 = .ok (.invokevirtual 297, 3) := by decide +kernel
theorem dX12_plan_19 : decode cX12_plan 19 = .ok (.istore_n 2, 1) := by decide +kernel
theorem dX12_plan_20 : decode cX12_plan 20 = .ok (.iload_n 2, 1) := by decide +kernel
theorem dX12_plan_21 : decode cX12_plan 21 = .ok (.ifCond .eq 7, 3) := by decide +kernel
theorem dX12_plan_24 : decode cX12_plan 24 = .ok (.iload_n 2, 1) := by decide +kernel
theorem dX12_plan_25 : decode cX12_plan 25 = .ok (.goto 7, 3) := by decide +kernel
theorem dX12_plan_28 : decode cX12_plan 28 = .ok (.aload_n 0, 1) := by decide +kernel
theorem dX12_plan_29 : decode cX12_plan 29 = .ok (.getfield 273, 3) := by decide +kernel
theorem dX12_plan_32 : decode cX12_plan 32 = .ok (.ireturn, 1) := by decide +kernel
theorem dX12_put_0 : decode cX12_put 0 = .ok (.aload_n 0, 1) := by decide +kernel
theorem dX12_put_1 : decode cX12_put 1 = .ok (.getfield 140, 3) := by decide +kernel
theorem dX12_put_4 : decode cX12_put 4 = .ok (.ifCond .ne 23, 3) := by decide +kernel
theorem dX12_put_7 : decode cX12_put 7 = .ok (.aload_n 0, 1) := by decide +kernel
theorem dX12_put_8 : decode cX12_put 8 = .ok (.getfield 37, 3) := by decide +kernel
theorem dX12_put_11 : decode cX12_put 11 = .ok (.aload_n 0, 1) := by decide +kernel
theorem dX12_put_12 : decode cX12_put 12 = .ok (.getfield 160, 3) := by decide +kernel
theorem dX12_put_15 : decode cX12_put 15 = .ok (.iload_n 1, 1) := by decide +kernel
theorem dX12_put_16 : decode cX12_put 16 = .ok (.iastore, 1) := by decide +kernel
theorem dX12_put_17 : decode cX12_put 17 = .ok (.aload_n 0, 1) := by decide +kernel
theorem dX12_put_18 : decode cX12_put 18 = .ok (.dup, 1) := by decide +kernel
theorem dX12_put_19 : decode cX12_put 19 = .ok (.getfield 160, 3) := by decide +kernel
theorem dX12_put_22 : decode cX12_put 22 = .ok (.iconst 1, 1) := by decide +kernel
theorem dX12_put_23 : decode cX12_put 23 = .ok (.iadd, 1) := by decide +kernel
theorem dX12_put_24 : decode cX12_put 24 = .ok (.putfield 160, 3) := by decide +kernel
theorem dX12_put_27 : decode cX12_put 27 = .ok (.return_, 1) := by decide +kernel
theorem dX12_recall_0 : decode cX12_recall 0 = .ok (.iload_n 1, 1) := by decide +kernel
theorem dX12_recall_1 : decode cX12_recall 1 = .ok (.iconst 0, 1) := by decide +kernel
theorem dX12_recall_2 : decode cX12_recall 2 = .ok (.aload_n 0, 1) := by decide +kernel
theorem dX12_recall_3 : decode cX12_recall 3 = .ok (.getfield 9, 3) := by decide +kernel
theorem dX12_recall_6 : decode cX12_recall 6 = .ok (.bipush 7, 2) := by decide +kernel
theorem dX12_recall_8 : decode cX12_recall 8 = .ok (.iaload, 1) := by decide +kernel
theorem dX12_recall_9 : decode cX12_recall 9 = .ok (.iconst 1, 1) := by decide +kernel
theorem dX12_recall_10 : decode cX12_recall 10 = .ok (.isub, 1) := by decide +kernel
theorem dX12_recall_11 : decode cX12_recall 11 = .ok (.invokestatic 52, 3) := by decide +kernel
theorem dX12_recall_14 : decode cX12_recall 14 = .ok (.ifCond .ne 6, 3) := by decide +kernel
theorem dX12_recall_17 : decode cX12_recall 17 = .ok (.ldc 57, 2) := by decide +kernel
theorem dX12_recall_19 : decode cX12_recall 19 = .ok (.ireturn, 1) := by decide +kernel
theorem dX12_recall_20 : decode cX12_recall 20 = .ok (.aload_n 0, 1) := by decide +kernel
theorem dX12_recall_21 : decode cX12_recall 21 = .ok (.iload_n 1, 1) := by decide +kernel
theorem dX12_recall_22 : decode cX12_recall 22 = .ok (.invokevirtual 304, 3) := by decide +kernel
theorem dX12_recall_25 : decode cX12_recall 25 = .ok (.aload_n 0, 1) := by decide +kernel
theorem dX12_recall_26 : decode cX12_recall 26 = .ok (.getfield 9, 3) := by decide +kernel
theorem dX12_recall_29 : decode cX12_recall 29 = .ok (.iload_n 1, 1) := by decide +kernel
theorem dX12_recall_30 : decode cX12_recall 30 = .ok (.iconst 4, 1) := by decide +kernel
theorem dX12_recall_31 : decode cX12_recall 31 = .ok (.invokestatic 261, 3) := by decide +kernel
theorem dX12_recall_34 : decode cX12_recall 34 = .ok (.iaload, 1) := by decide +kernel
theorem dX12_recall_35 : decode cX12_recall 35 = .ok (.ireturn, 1) := by decide +kernel
theorem dX12_sheet_0 : decode cX12_sheet 0 = .ok (.iload_n 1, 1) := by decide +kernel
theorem dX12_sheet_1 : decode cX12_sheet 1 = .ok (.iconst 0, 1) := by decide +kernel
theorem dX12_sheet_2 : decode cX12_sheet 2 = .ok (.iconst 1, 1) := by decide +kernel
theorem dX12_sheet_3 : decode cX12_sheet 3 = .ok (.invokestatic 52, 3) := by decide +kernel
theorem dX12_sheet_6 : decode cX12_sheet 6 = .ok (.ifCond .eq 9, 3) := by decide +kernel
theorem dX12_sheet_9 : decode cX12_sheet 9 = .ok (.iload_n 2, 1) := by decide +kernel
theorem dX12_sheet_10 : decode cX12_sheet 10 = .ok (.bipush 16, 2) := by decide +kernel
theorem dX12_sheet_12 : decode cX12_sheet 12 = .ok (.if_icmp .le 6, 3) := by decide +kernel
theorem dX12_sheet_15 : decode cX12_sheet 15 = .ok (.ldc 57, 2) := by decide +kernel
theorem dX12_sheet_17 : decode cX12_sheet 17 = .ok (.ireturn, 1) := by decide +kernel
theorem dX12_sheet_18 : decode cX12_sheet 18 = .ok (.iload_n 2, 1) := by decide +kernel
theorem dX12_sheet_19 : decode cX12_sheet 19 = .ok (.ifCond .ge 7, 3) := by decide +kernel
theorem dX12_sheet_22 : decode cX12_sheet 22 = .ok (.ldc_w 319, 3) := by decide +kernel
theorem dX12_sheet_25 : decode cX12_sheet 25 = .ok (.ireturn, 1) := by decide +kernel
theorem dX12_sheet_26 : decode cX12_sheet 26 = .ok (.aload_n 0, 1) := by decide +kernel
theorem dX12_sheet_27 : decode cX12_sheet 27 = .ok (.getfield 22, 3) := by decide +kernel
theorem dX12_sheet_30 : decode cX12_sheet 30 = .ok (.iload_n 1, 1) := by decide +kernel
theorem dX12_sheet_31 : decode cX12_sheet 31 = .ok (.iload_n 2, 1) := by decide +kernel
theorem dX12_sheet_32 : decode cX12_sheet 32 = .ok (.iastore, 1) := by decide +kernel
theorem dX12_sheet_33 : decode cX12_sheet 33 = .ok (.iconst 0, 1) := by decide +kernel
theorem dX12_sheet_34 : decode cX12_sheet 34 = .ok (.istore_n 3, 1) := by decide +kernel
theorem dX12_sheet_35 : decode cX12_sheet 35 = .ok (.iload_n 3, 1) := by decide +kernel
theorem dX12_sheet_36 : decode cX12_sheet 36 = .ok (.bipush 16, 2) := by decide +kernel
theorem dX12_sheet_38 : decode cX12_sheet 38 = .ok (.if_icmp .ge 21, 3) := by decide +kernel
theorem dX12_sheet_41 : decode cX12_sheet 41 = .ok (.aload_n 0, 1) := by decide +kernel
theorem dX12_sheet_42 : decode cX12_sheet 42 = .ok (.getfield 25, 3) := by decide +kernel
theorem dX12_sheet_45 : decode cX12_sheet 45 = .ok (.bipush 16, 2) := by decide +kernel
theorem dX12_sheet_47 : decode cX12_sheet 47 = .ok (.iload_n 1, 1) := by decide +kernel
theorem dX12_sheet_48 : decode cX12_sheet 48 = .ok (.imul, 1) := by decide +kernel
theorem dX12_sheet_49 : decode cX12_sheet 49 = .ok (.iload_n 3, 1) := by decide +kernel
theorem dX12_sheet_50 : decode cX12_sheet 50 = .ok (.iadd, 1) := by decide +kernel
theorem dX12_sheet_51 : decode cX12_sheet 51 = .ok (.iconst 0, 1) := by decide +kernel
theorem dX12_sheet_52 : decode cX12_sheet 52 = .ok (.iastore, 1) := by decide +kernel
theorem dX12_sheet_53 : decode cX12_sheet 53 = .ok (.iinc 3 1, 3) := by decide +kernel
theorem dX12_sheet_56 : decode cX12_sheet 56 = .ok (.goto (-21), 3) := by decide +kernel
theorem dX12_sheet_59 : decode cX12_sheet 59 = .ok (.iload_n 2, 1) := by decide +kernel
theorem dX12_sheet_60 : decode cX12_sheet 60 = .ok (.ireturn, 1) := by decide +kernel
theorem dX12_shifts_0 : decode cX12_shifts 0 = .ok (.iload_n 1, 1) := by decide +kernel
theorem dX12_shifts_1 : decode cX12_shifts 1 = .ok (.iconst 0, 1) := by decide +kernel
theorem dX12_shifts_2 : decode cX12_shifts 2 = .ok (.iconst 1, 1) := by decide +kernel
theorem dX12_shifts_3 : decode cX12_shifts 3 = .ok (.invokestatic 52, 3) := by decide +kernel
theorem dX12_shifts_6 : decode cX12_shifts 6 = .ok (.ifCond .ne 6, 3) := by decide +kernel
theorem dX12_shifts_9 : decode cX12_shifts 9 = .ok (.ldc 57, 2) := by decide +kernel
theorem dX12_shifts_11 : decode cX12_shifts 11 = .ok (.ireturn, 1) := by decide +kernel
theorem dX12_shifts_12 : decode cX12_shifts 12 = .ok (.iconst 0, 1) := by decide +kernel
theorem dX12_shifts_13 : decode cX12_shifts 13 = .ok (.istore_n 2, 1) := by decide +kernel
theorem dX12_shifts_14 : decode cX12_shifts 14 = .ok (.iconst 0, 1) := by decide +kernel
theorem dX12_shifts_15 : decode cX12_shifts 15 = .ok (.istore_n 3, 1) := by decide +kernel
theorem dX12_shifts_16 : decode cX12_shifts 16 = .ok (.iload_n 3, 1) := by decide +kernel
theorem dX12_shifts_17 : decode cX12_shifts 17 = .ok (.aload_n 0, 1) := by decide +kernel
theorem dX12_shifts_18 : decode cX12_shifts 18 = .ok (.getfield 9, 3) := by decide +kernel
theorem dX12_shifts_21 : decode cX12_shifts 21 = .ok (.bipush 6, 2) := by decide +kernel
theorem dX12_shifts_23 : decode cX12_shifts 23 = .ok (.iaload, 1) := by decide +kernel
theorem dX12_shifts_24 : decode cX12_shifts 24 = .ok (.if_icmp .ge 27, 3) := by decide +kernel
theorem dX12_shifts_27 : decode cX12_shifts 27 = .ok (.iload_n 2, 1) := by decide +kernel
theorem dX12_shifts_28 : decode cX12_shifts 28 = .ok (.aload_n 0, 1) := by decide +kernel
theorem dX12_shifts_29 : decode cX12_shifts 29 = .ok (.iload_n 3, 1) := by decide +kernel
theorem dX12_shifts_30 : decode cX12_shifts 30 = .ok (.invokevirtual 115, 3) := by decide +kernel
theorem dX12_shifts_33 : decode cX12_shifts 33 = .ok (.ifCond .eq 9, 3) := by decide +kernel
theorem dX12_shifts_36 : decode cX12_shifts 36 = .ok (.iconst 1, 1) := by decide +kernel
theorem dX12_shifts_37 : decode cX12_shifts 37 = .ok (.iload_n 3, 1) := by decide +kernel
theorem dX12_shifts_38 : decode cX12_shifts 38 = .ok (.ishl, 1) := by decide +kernel
theorem dX12_shifts_39 : decode cX12_shifts 39 = .ok (.goto 4, 3) := by decide +kernel
theorem dX12_shifts_42 : decode cX12_shifts 42 = .ok (.iconst 0, 1) := by decide +kernel
theorem dX12_shifts_43 : decode cX12_shifts 43 = .ok (.ior, 1) := by decide +kernel
theorem dX12_shifts_44 : decode cX12_shifts 44 = .ok (.istore_n 2, 1) := by decide +kernel
theorem dX12_shifts_45 : decode cX12_shifts 45 = .ok (.iinc 3 1, 3) := by decide +kernel
theorem dX12_shifts_48 : decode cX12_shifts 48 = .ok (.goto (-32), 3) := by decide +kernel
theorem dX12_shifts_51 : decode cX12_shifts 51 = .ok (.aload_n 0, 1) := by decide +kernel
theorem dX12_shifts_52 : decode cX12_shifts 52 = .ok (.invokevirtual 264, 3) := by decide +kernel
theorem dX12_shifts_55 : decode cX12_shifts 55 = .ok (.aload_n 0, 1) := by decide +kernel
theorem dX12_shifts_56 : decode cX12_shifts 56 = .ok (.iconst 0, 1) := by decide +kernel
theorem dX12_shifts_57 : decode cX12_shifts 57 = .ok (.invokevirtual 310, 3) := by decide +kernel
theorem dX12_shifts_60 : decode cX12_shifts 60 = .ok (.istore_n 3, 1) := by decide +kernel
theorem dX12_shifts_61 : decode cX12_shifts 61 = .ok (.iconst 0, 1) := by decide +kernel
theorem dX12_shifts_62 : decode cX12_shifts 62 = .ok (.istore 4, 2) := by decide +kernel
theorem dX12_shifts_64 : decode cX12_shifts 64 = .ok (.iconst 1, 1) := by decide +kernel
theorem dX12_shifts_65 : decode cX12_shifts 65 = .ok (.istore 5, 2) := by decide +kernel
theorem dX12_shifts_67 : decode cX12_shifts 67 = .ok (.iload 5, 2) := by decide +kernel
theorem dX12_shifts_69 : decode cX12_shifts 69 = .ok (.iload_n 2, 1) := by decide +kernel
theorem dX12_shifts_70 : decode cX12_shifts 70 = .ok (.if_icmp .gt 48, 3) := by decide +kernel
theorem dX12_shifts_73 : decode cX12_shifts 73 = .ok (.iload 5, 2) := by decide +kernel
theorem dX12_shifts_75 : decode cX12_shifts 75 = .ok (.iload_n 2, 1) := by decide +kernel
theorem dX12_shifts_76 : decode cX12_shifts 76 = .ok (.iconst (-1), 1) := by decide +kernel
theorem dX12_shifts_77 : decode cX12_shifts 77 = .ok (.ixor, 1) := by decide +kernel
theorem dX12_shifts_78 : decode cX12_shifts 78 = .ok (.iand, 1) := by decide +kernel
theorem dX12_shifts_79 : decode cX12_shifts 79 = .ok (.ifCond .ne 33, 3) := by decide +kernel
theorem dX12_shifts_82 : decode cX12_shifts 82 = .ok (.aload_n 0, 1) := by decide +kernel
theorem dX12_shifts_83 : decode cX12_shifts 83 = .ok (.iload 5, 2) := by decide +kernel
theorem dX12_shifts_85 : decode cX12_shifts 85 = .ok (.invokevirtual 310, 3) := by decide +kernel
theorem dX12_shifts_88 : decode cX12_shifts 88 = .ok (.istore 6, 2) := by decide +kernel
theorem dX12_shifts_90 : decode cX12_shifts 90 = .ok (.iload 6, 2) := by decide +kernel
theorem dX12_shifts_92 : decode cX12_shifts 92 = .ok (.iload_n 3, 1) := by decide +kernel
theorem dX12_shifts_93 : decode cX12_shifts 93 = .ok (.if_icmp .ge 8, 3) := by decide +kernel
theorem dX12_shifts_96 : decode cX12_shifts 96 = .ok (.iload 5, 2) := by decide +kernel
theorem dX12_shifts_98 : decode cX12_shifts 98 = .ok (.goto 5, 3) := by decide +kernel
theorem dX12_shifts_101 : decode cX12_shifts 101 = .ok (.iload 4, 2) := by decide +kernel
theorem dX12_shifts_103 : decode cX12_shifts 103 = .ok (.istore 4, 2) := by decide +kernel
theorem dX12_shifts_105 : decode cX12_shifts 105 = .ok (.iload 6, 2) := by decide +kernel
theorem dX12_shifts_107 : decode cX12_shifts 107 = .ok (.iload_n 3, 1) := by decide +kernel
theorem dX12_shifts_108 : decode cX12_shifts 108 = .ok (.invokestatic 118, 3) := by decide +kernel
theorem dX12_shifts_111 : decode cX12_shifts 111 = .ok (.istore_n 3, 1) := by decide +kernel
theorem dX12_shifts_112 : decode cX12_shifts 112 = .ok (.iinc 5 1, 3) := by decide +kernel
theorem dX12_shifts_115 : decode cX12_shifts 115 = .ok (.goto (-48), 3) := by decide +kernel
theorem dX12_shifts_118 : decode cX12_shifts 118 = .ok (.iload_n 1, 1) := by decide +kernel
theorem dX12_shifts_119 : decode cX12_shifts 119 = .ok (.ifCond .ne 7, 3) := by decide +kernel
theorem dX12_shifts_122 : decode cX12_shifts 122 = .ok (.iload_n 3, 1) := by decide +kernel
theorem dX12_shifts_123 : decode cX12_shifts 123 = .ok (.goto 5, 3) := by decide +kernel
theorem dX12_shifts_126 : decode cX12_shifts 126 = .ok (.iload 4, 2) := by decide +kernel
theorem dX12_shifts_128 : decode cX12_shifts 128 = .ok (.ireturn, 1) := by decide +kernel
theorem dX12_signHere_0 : decode cX12_signHere 0 = .ok (.iconst (-1), 1) := by decide +kernel
theorem dX12_signHere_1 : decode cX12_signHere 1 = .ok (.istore_n 3, 1) := by decide +kernel
theorem dX12_signHere_2 : decode cX12_signHere 2 = .ok (.iload_n 1, 1) := by decide +kernel
theorem dX12_signHere_3 : decode cX12_signHere 3 = .ok (.istore 4, 2) := by decide +kernel
theorem dX12_signHere_5 : decode cX12_signHere 5 = .ok (.iload 4, 2) := by decide +kernel
theorem dX12_signHere_7 : decode cX12_signHere 7 = .ok (.iload_n 2, 1) := by decide +kernel
theorem dX12_signHere_8 : decode cX12_signHere 8 = .ok (.if_icmp .gt 30, 3) := by decide +kernel
theorem dX12_signHere_11 : decode cX12_signHere 11 = .ok (.aload_n 0, 1) := by decide +kernel
theorem dX12_signHere_12 : decode cX12_signHere 12 = .ok (.ldc 163, 2) := by decide +kernel
theorem dX12_signHere_14 : decode cX12_signHere 14 = .ok (.iload 4, 2) := by decide +kernel
theorem dX12_signHere_16 : decode cX12_signHere 16 = .ok (.invokevirtual 153, 3) := by decide +kernel
theorem dX12_signHere_19 : decode cX12_signHere 19 = .ok (.invokevirtual 165, 3) := by decide +kernel
theorem dX12_signHere_22 : decode cX12_signHere 22 = .ok (.ifCond .eq 8, 3) := by decide +kernel
theorem dX12_signHere_25 : decode cX12_signHere 25 = .ok (.iload 4, 2) := by decide +kernel
theorem dX12_signHere_27 : decode cX12_signHere 27 = .ok (.goto 4, 3) := by decide +kernel
theorem dX12_signHere_30 : decode cX12_signHere 30 = .ok (.iload_n 3, 1) := by decide +kernel
theorem dX12_signHere_31 : decode cX12_signHere 31 = .ok (.istore_n 3, 1) := by decide +kernel
theorem dX12_signHere_32 : decode cX12_signHere 32 = .ok (.iinc 4 1, 3) := by decide +kernel
theorem dX12_signHere_35 : decode cX12_signHere 35 = .ok (.goto (-30), 3) := by decide +kernel
theorem dX12_signHere_38 : decode cX12_signHere 38 = .ok (.iload_n 3, 1) := by decide +kernel
theorem dX12_signHere_39 : decode cX12_signHere 39 = .ok (.ireturn, 1) := by decide +kernel
theorem dX12_stockOf_0 : decode cX12_stockOf 0 = .ok (.iconst 0, 1) := by decide +kernel
theorem dX12_stockOf_1 : decode cX12_stockOf 1 = .ok (.istore_n 2, 1) := by decide +kernel
theorem dX12_stockOf_2 : decode cX12_stockOf 2 = .ok (.iconst 0, 1) := by decide +kernel
theorem dX12_stockOf_3 : decode cX12_stockOf 3 = .ok (.istore_n 3, 1) := by decide +kernel
theorem dX12_stockOf_4 : decode cX12_stockOf 4 = .ok (.iload_n 3, 1) := by decide +kernel
theorem dX12_stockOf_5 : decode cX12_stockOf 5 = .ok (.aload_n 0, 1) := by decide +kernel
theorem dX12_stockOf_6 : decode cX12_stockOf 6 = .ok (.getfield 9, 3) := by decide +kernel
theorem dX12_stockOf_9 : decode cX12_stockOf 9 = .ok (.bipush 7, 2) := by decide +kernel
theorem dX12_stockOf_11 : decode cX12_stockOf 11 = .ok (.iaload, 1) := by decide +kernel
theorem dX12_stockOf_12 : decode cX12_stockOf 12 = .ok (.if_icmp .ge 40, 3) := by decide +kernel
theorem dX12_stockOf_15 : decode cX12_stockOf 15 = .ok (.iload_n 2, 1) := by decide +kernel
theorem dX12_stockOf_16 : decode cX12_stockOf 16 = .ok (.aload_n 0, 1) := by decide +kernel
theorem dX12_stockOf_17 : decode cX12_stockOf 17 = .ok (.getfield 9, 3) := by decide +kernel
theorem dX12_stockOf_20 : decode cX12_stockOf 20 = .ok (.iload_n 3, 1) := by decide +kernel
theorem dX12_stockOf_21 : decode cX12_stockOf 21 = .ok (.iconst 0, 1) := by decide +kernel
theorem dX12_stockOf_22 : decode cX12_stockOf 22 = .ok (.invokestatic 261, 3) := by decide +kernel
theorem dX12_stockOf_25 : decode cX12_stockOf 25 = .ok (.iaload, 1) := by decide +kernel
theorem dX12_stockOf_26 : decode cX12_stockOf 26 = .ok (.iload_n 1, 1) := by decide +kernel
theorem dX12_stockOf_27 : decode cX12_stockOf 27 = .ok (.if_icmp .ne 16, 3) := by decide +kernel
theorem dX12_stockOf_30 : decode cX12_stockOf 30 = .ok (.aload_n 0, 1) := by decide +kernel
theorem dX12_stockOf_31 : decode cX12_stockOf 31 = .ok (.getfield 9, 3) := by decide +kernel
theorem dX12_stockOf_34 : decode cX12_stockOf 34 = .ok (.iload_n 3, 1) := by decide +kernel
theorem dX12_stockOf_35 : decode cX12_stockOf 35 = .ok (.iconst 3, 1) := by decide +kernel
theorem dX12_stockOf_36 : decode cX12_stockOf 36 = .ok (.invokestatic 261, 3) := by decide +kernel
theorem dX12_stockOf_39 : decode cX12_stockOf 39 = .ok (.iaload, 1) := by decide +kernel
theorem dX12_stockOf_40 : decode cX12_stockOf 40 = .ok (.goto 4, 3) := by decide +kernel
theorem dX12_stockOf_43 : decode cX12_stockOf 43 = .ok (.iconst 0, 1) := by decide +kernel
theorem dX12_stockOf_44 : decode cX12_stockOf 44 = .ok (.iadd, 1) := by decide +kernel
theorem dX12_stockOf_45 : decode cX12_stockOf 45 = .ok (.istore_n 2, 1) := by decide +kernel
theorem dX12_stockOf_46 : decode cX12_stockOf 46 = .ok (.iinc 3 1, 3) := by decide +kernel
theorem dX12_stockOf_49 : decode cX12_stockOf 49 = .ok (.goto (-45), 3) := by decide +kernel
theorem dX12_stockOf_52 : decode cX12_stockOf 52 = .ok (.iload_n 2, 1) := by decide +kernel
theorem dX12_stockOf_53 : decode cX12_stockOf 53 = .ok (.ireturn, 1) := by decide +kernel
theorem dX12_stock_0 : decode cX12_stock 0 = .ok (.aload_n 0, 1) := by decide +kernel
theorem dX12_stock_1 : decode cX12_stock 1 = .ok (.iload_n 1, 1) := by decide +kernel
theorem dX12_stock_2 : decode cX12_stock 2 = .ok (.invokevirtual 63, 3) := by decide +kernel
theorem dX12_stock_5 : decode cX12_stock 5 = .ok (.ifCond .eq 12, 3) := by decide +kernel
theorem dX12_stock_8 : decode cX12_stock 8 = .ok (.iload_n 2, 1) := by decide +kernel
theorem dX12_stock_9 : decode cX12_stock 9 = .ok (.iconst 0, 1) := by decide +kernel
theorem dX12_stock_10 : decode cX12_stock 10 = .ok (.iconst 4, 1) := by decide +kernel
theorem dX12_stock_11 : decode cX12_stock 11 = .ok (.invokestatic 52, 3) := by decide +kernel
theorem dX12_stock_14 : decode cX12_stock 14 = .ok (.ifCond .ne 6, 3) := by decide +kernel
theorem dX12_stock_17 : decode cX12_stock 17 = .ok (.ldc 57, 2) := by decide +kernel
theorem dX12_stock_19 : decode cX12_stock 19 = .ok (.ireturn, 1) := by decide +kernel
theorem dX12_stock_20 : decode cX12_stock 20 = .ok (.iload_n 2, 1) := by decide +kernel
theorem dX12_stock_21 : decode cX12_stock 21 = .ok (.iconst 1, 1) := by decide +kernel
theorem dX12_stock_22 : decode cX12_stock 22 = .ok (.if_icmp .ne 13, 3) := by decide +kernel
theorem dX12_stock_25 : decode cX12_stock 25 = .ok (.aload_n 0, 1) := by decide +kernel
theorem dX12_stock_26 : decode cX12_stock 26 = .ok (.invokevirtual 264, 3) := by decide +kernel
theorem dX12_stock_29 : decode cX12_stock 29 = .ok (.aload_n 0, 1) := by decide +kernel
theorem dX12_stock_30 : decode cX12_stock 30 = .ok (.iload_n 1, 1) := by decide +kernel
theorem dX12_stock_31 : decode cX12_stock 31 = .ok (.invokevirtual 267, 3) := by decide +kernel
theorem dX12_stock_34 : decode cX12_stock 34 = .ok (.ireturn, 1) := by decide +kernel
theorem dX12_stock_35 : decode cX12_stock 35 = .ok (.iload_n 2, 1) := by decide +kernel
theorem dX12_stock_36 : decode cX12_stock 36 = .ok (.ifCond .ne 11, 3) := by decide +kernel
theorem dX12_stock_39 : decode cX12_stock 39 = .ok (.aload_n 0, 1) := by decide +kernel
theorem dX12_stock_40 : decode cX12_stock 40 = .ok (.iload_n 1, 1) := by decide +kernel
theorem dX12_stock_41 : decode cX12_stock 41 = .ok (.invokevirtual 270, 3) := by decide +kernel
theorem dX12_stock_44 : decode cX12_stock 44 = .ok (.goto 17, 3) := by decide +kernel
theorem dX12_stock_47 : decode cX12_stock 47 = .ok (.aload_n 0, 1) := by decide +kernel
theorem dX12_stock_48 : decode cX12_stock 48 = .ok (.getfield 9, 3) := by decide +kernel
theorem dX12_stock_51 : decode cX12_stock 51 = .ok (.iload_n 1, 1) := by decide +kernel
theorem dX12_stock_52 : decode cX12_stock 52 = .ok (.iconst 5, 1) := by decide +kernel
theorem dX12_stock_53 : decode cX12_stock 53 = .ok (.iload_n 2, 1) := by decide +kernel
theorem dX12_stock_54 : decode cX12_stock 54 = .ok (.iadd, 1) := by decide +kernel
theorem dX12_stock_55 : decode cX12_stock 55 = .ok (.iconst 2, 1) := by decide +kernel
theorem dX12_stock_56 : decode cX12_stock 56 = .ok (.isub, 1) := by decide +kernel
theorem dX12_stock_57 : decode cX12_stock 57 = .ok (.invokestatic 59, 3) := by decide +kernel
theorem dX12_stock_60 : decode cX12_stock 60 = .ok (.iaload, 1) := by decide +kernel
theorem dX12_stock_61 : decode cX12_stock 61 = .ok (.ireturn, 1) := by decide +kernel
theorem dX12_sum_0 : decode cX12_sum 0 = .ok (.aload_n 0, 1) := by decide +kernel
theorem dX12_sum_1 : decode cX12_sum 1 = .ok (.invokevirtual 196, 3) := by decide +kernel
theorem dX12_sum_4 : decode cX12_sum 4 = .ok (.aload_n 0, 1) := by decide +kernel
theorem dX12_sum_5 : decode cX12_sum 5 = .ok (.iconst 5, 1) := by decide +kernel
theorem dX12_sum_6 : decode cX12_sum 6 = .ok (.bipush 6, 2) := by decide +kernel
theorem dX12_sum_8 : decode cX12_sum 8 = .ok (.invokevirtual 192, 3) := by decide +kernel
theorem dX12_sum_11 : decode cX12_sum 11 = .ok (.istore_n 1, 1) := by decide +kernel
theorem dX12_sum_12 : decode cX12_sum 12 = .ok (.iload_n 1, 1) := by decide +kernel
theorem dX12_sum_13 : decode cX12_sum 13 = .ok (.ifCond .lt 30, 3) := by decide +kernel
theorem dX12_sum_16 : decode cX12_sum 16 = .ok (.aload_n 0, 1) := by decide +kernel
theorem dX12_sum_17 : decode cX12_sum 17 = .ok (.invokevirtual 144, 3) := by decide +kernel
theorem dX12_sum_20 : decode cX12_sum 20 = .ok (.aload_n 0, 1) := by decide +kernel
theorem dX12_sum_21 : decode cX12_sum 21 = .ok (.invokevirtual 196, 3) := by decide +kernel
theorem dX12_sum_24 : decode cX12_sum 24 = .ok (.aload_n 0, 1) := by decide +kernel
theorem dX12_sum_25 : decode cX12_sum 25 = .ok (.ldc 195, 2) := by decide +kernel
theorem dX12_sum_27 : decode cX12_sum 27 = .ok (.iload_n 1, 1) := by decide +kernel
theorem dX12_sum_28 : decode cX12_sum 28 = .ok (.iadd, 1) := by decide +kernel
theorem dX12_sum_29 : decode cX12_sum 29 = .ok (.invokevirtual 168, 3) := by decide +kernel
theorem dX12_sum_32 : decode cX12_sum 32 = .ok (.aload_n 0, 1) := by decide +kernel
theorem dX12_sum_33 : decode cX12_sum 33 = .ok (.iconst 5, 1) := by decide +kernel
theorem dX12_sum_34 : decode cX12_sum 34 = .ok (.bipush 6, 2) := by decide +kernel
theorem dX12_sum_36 : decode cX12_sum 36 = .ok (.invokevirtual 192, 3) := by decide +kernel
theorem dX12_sum_39 : decode cX12_sum 39 = .ok (.istore_n 1, 1) := by decide +kernel
theorem dX12_sum_40 : decode cX12_sum 40 = .ok (.goto (-28), 3) := by decide +kernel
theorem dX12_sum_43 : decode cX12_sum 43 = .ok (.return_, 1) := by decide +kernel
theorem dX12_swap_0 : decode cX12_swap 0 = .ok (.iload_n 1, 1) := by decide +kernel
theorem dX12_swap_1 : decode cX12_swap 1 = .ok (.iconst 1, 1) := by decide +kernel
theorem dX12_swap_2 : decode cX12_swap 2 = .ok (.sipush 5000, 3) := by decide +kernel
theorem dX12_swap_5 : decode cX12_swap 5 = .ok (.invokestatic 52, 3) := by decide +kernel
theorem dX12_swap_8 : decode cX12_swap 8 = .ok (.ifCond .eq 11, 3) := by decide +kernel
theorem dX12_swap_11 : decode cX12_swap 11 = .ok (.aload_n 0, 1) := by decide +kernel
theorem dX12_swap_12 : decode cX12_swap 12 = .ok (.iload_n 2, 1) := by decide +kernel
theorem dX12_swap_13 : decode cX12_swap 13 = .ok (.invokevirtual 102, 3) := by decide +kernel
theorem dX12_swap_16 : decode cX12_swap 16 = .ok (.ifCond .ne 6, 3) := by decide +kernel
theorem dX12_swap_19 : decode cX12_swap 19 = .ok (.ldc 57, 2) := by decide +kernel
theorem dX12_swap_21 : decode cX12_swap 21 = .ok (.ireturn, 1) := by decide +kernel
theorem dX12_swap_22 : decode cX12_swap 22 = .ok (.aload_n 0, 1) := by decide +kernel
theorem dX12_swap_23 : decode cX12_swap 23 = .ok (.iload_n 1, 1) := by decide +kernel
theorem dX12_swap_24 : decode cX12_swap 24 = .ok (.invokevirtual 297, 3) := by decide +kernel
theorem dX12_swap_27 : decode cX12_swap 27 = .ok (.istore_n 3, 1) := by decide +kernel
theorem dX12_swap_28 : decode cX12_swap 28 = .ok (.iload_n 3, 1) := by decide +kernel
theorem dX12_swap_29 : decode cX12_swap 29 = .ok (.ifCond .eq 7, 3) := by decide +kernel
theorem dX12_swap_32 : decode cX12_swap 32 = .ok (.iload_n 3, 1) := by decide +kernel
theorem dX12_swap_33 : decode cX12_swap 33 = .ok (.goto 24, 3) := by decide +kernel
theorem dX12_swap_36 : decode cX12_swap 36 = .ok (.aload_n 0, 1) := by decide +kernel
theorem dX12_swap_37 : decode cX12_swap 37 = .ok (.getfield 46, 3) := by decide +kernel
theorem dX12_swap_40 : decode cX12_swap 40 = .ok (.iload_n 2, 1) := by decide +kernel
theorem dX12_swap_41 : decode cX12_swap 41 = .ok (.iaload, 1) := by decide +kernel
theorem dX12_swap_42 : decode cX12_swap 42 = .ok (.ifCond .ge 9, 3) := by decide +kernel
theorem dX12_swap_45 : decode cX12_swap 45 = .ok (.ldc_w 300, 3) := by decide +kernel
theorem dX12_swap_48 : decode cX12_swap 48 = .ok (.goto 9, 3) := by decide +kernel
theorem dX12_swap_51 : decode cX12_swap 51 = .ok (.aload_n 0, 1) := by decide +kernel
theorem dX12_swap_52 : decode cX12_swap 52 = .ok (.getfield 46, 3) := by decide +kernel
theorem dX12_swap_55 : decode cX12_swap 55 = .ok (.iload_n 2, 1) := by decide +kernel
theorem dX12_swap_56 : decode cX12_swap 56 = .ok (.iaload, 1) := by decide +kernel
theorem dX12_swap_57 : decode cX12_swap 57 = .ok (.ireturn, 1) := by decide +kernel
theorem dX12_takeMenu_0 : decode cX12_takeMenu 0 = .ok (.iconst 0, 1) := by decide +kernel
theorem dX12_takeMenu_1 : decode cX12_takeMenu 1 = .ok (.istore_n 2, 1) := by decide +kernel
theorem dX12_takeMenu_2 : decode cX12_takeMenu 2 = .ok (.iconst 0, 1) := by decide +kernel
theorem dX12_takeMenu_3 : decode cX12_takeMenu 3 = .ok (.istore_n 3, 1) := by decide +kernel
theorem dX12_takeMenu_4 : decode cX12_takeMenu 4 = .ok (.iconst 0, 1) := by decide +kernel
theorem dX12_takeMenu_5 : decode cX12_takeMenu 5 = .ok (.istore 4, 2) := by decide +kernel
theorem dX12_takeMenu_7 : decode cX12_takeMenu 7 = .ok (.iload 4, 2) := by decide +kernel
theorem dX12_takeMenu_9 : decode cX12_takeMenu 9 = .ok (.bipush 10, 2) := by decide +kernel
theorem dX12_takeMenu_11 : decode cX12_takeMenu 11 = .ok (.if_icmp .ge 59, 3) := by decide +kernel
theorem dX12_takeMenu_14 : decode cX12_takeMenu 14 = .ok (.iload_n 2, 1) := by decide +kernel
theorem dX12_takeMenu_15 : decode cX12_takeMenu 15 = .ok (.ifCond .ne 21, 3) := by decide +kernel
theorem dX12_takeMenu_18 : decode cX12_takeMenu 18 = .ok (.iload_n 1, 1) := by decide +kernel
theorem dX12_takeMenu_19 : decode cX12_takeMenu 19 = .ok (.iload 4, 2) := by decide +kernel
theorem dX12_takeMenu_21 : decode cX12_takeMenu 21 = .ok (.invokestatic 76, 3) := by decide +kernel
theorem dX12_takeMenu_24 : decode cX12_takeMenu 24 = .ok (.ifCond .eq 16, 3) := by decide +kernel
theorem dX12_takeMenu_27 : decode cX12_takeMenu 27 = .ok (.aload_n 0, 1) := by decide +kernel
theorem dX12_takeMenu_28 : decode cX12_takeMenu 28 = .ok (.iload 4, 2) := by decide +kernel
theorem dX12_takeMenu_30 : decode cX12_takeMenu 30 = .ok (.invokevirtual 73, 3) := by decide +kernel
theorem dX12_takeMenu_33 : decode cX12_takeMenu 33 = .ok (.ifCond .eq 7, 3) := by decide +kernel
theorem dX12_takeMenu_36 : decode cX12_takeMenu 36 = .ok (.iconst 1, 1) := by decide +kernel
theorem dX12_takeMenu_37 : decode cX12_takeMenu 37 = .ok (.goto 4, 3) := by decide +kernel
theorem dX12_takeMenu_40 : decode cX12_takeMenu 40 = .ok (.iconst 0, 1) := by decide +kernel
theorem dX12_takeMenu_41 : decode cX12_takeMenu 41 = .ok (.istore_n 2, 1) := by decide +kernel
theorem dX12_takeMenu_42 : decode cX12_takeMenu 42 = .ok (.iload_n 3, 1) := by decide +kernel
theorem dX12_takeMenu_43 : decode cX12_takeMenu 43 = .ok (.iload_n 1, 1) := by decide +kernel
theorem dX12_takeMenu_44 : decode cX12_takeMenu 44 = .ok (.iload 4, 2) := by decide +kernel
theorem dX12_takeMenu_46 : decode cX12_takeMenu 46 = .ok (.invokestatic 76, 3) := by decide +kernel
theorem dX12_takeMenu_49 : decode cX12_takeMenu 49 = .ok (.ifCond .eq 12, 3) := by decide +kernel
theorem dX12_takeMenu_52 : decode cX12_takeMenu 52 = .ok (.aload_n 0, 1) := by decide +kernel
theorem dX12_takeMenu_53 : decode cX12_takeMenu 53 = .ok (.iload 4, 2) := by decide +kernel
theorem dX12_takeMenu_55 : decode cX12_takeMenu 55 = .ok (.invokevirtual 90, 3) := by decide +kernel
theorem dX12_takeMenu_58 : decode cX12_takeMenu 58 = .ok (.goto 4, 3) := by decide +kernel
theorem dX12_takeMenu_61 : decode cX12_takeMenu 61 = .ok (.iconst 0, 1) := by decide +kernel
theorem dX12_takeMenu_62 : decode cX12_takeMenu 62 = .ok (.iadd, 1) := by decide +kernel
theorem dX12_takeMenu_63 : decode cX12_takeMenu 63 = .ok (.istore_n 3, 1) := by decide +kernel
theorem dX12_takeMenu_64 : decode cX12_takeMenu 64 = .ok (.iinc 4 1, 3) := by decide +kernel
theorem dX12_takeMenu_67 : decode cX12_takeMenu 67 = .ok (.goto (-60), 3) := by decide +kernel
theorem dX12_takeMenu_70 : decode cX12_takeMenu 70 = .ok (.aload_n 0, 1) := by decide +kernel
theorem dX12_takeMenu_71 : decode cX12_takeMenu 71 = .ok (.iload_n 1, 1) := by decide +kernel
theorem dX12_takeMenu_72 : decode cX12_takeMenu 72 = .ok (.invokevirtual 235, 3) := by decide +kernel
theorem dX12_takeMenu_75 : decode cX12_takeMenu 75 = .ok (.istore 4, 2) := by decide +kernel
theorem dX12_takeMenu_77 : decode cX12_takeMenu 77 = .ok (.iload_n 2, 1) := by decide +kernel
theorem dX12_takeMenu_78 : decode cX12_takeMenu 78 = .ok (.ifCond .eq 52, 3) := by decide +kernel
theorem dX12_takeMenu_81 : decode cX12_takeMenu 81 = .ok (.aload_n 0, 1) := by decide +kernel
theorem dX12_takeMenu_82 : decode cX12_takeMenu 82 = .ok (.getfield 238, 3) := by decide +kernel
theorem dX12_takeMenu_85 : decode cX12_takeMenu 85 = .ok (.ifCond .lt 29, 3) := by decide +kernel
theorem dX12_takeMenu_88 : decode cX12_takeMenu 88 = .ok (.iload 4, 2) := by decide +kernel
theorem dX12_takeMenu_90 : decode cX12_takeMenu 90 = .ok (.aload_n 0, 1) := by decide +kernel
theorem dX12_takeMenu_91 : decode cX12_takeMenu 91 = .ok (.getfield 241, 3) := by decide +kernel
theorem dX12_takeMenu_94 : decode cX12_takeMenu 94 = .ok (.if_icmp .gt 20, 3) := by decide +kernel
theorem dX12_takeMenu_97 : decode cX12_takeMenu 97 = .ok (.iload 4, 2) := by decide +kernel
theorem dX12_takeMenu_99 : decode cX12_takeMenu 99 = .ok (.aload_n 0, 1) := by decide +kernel
theorem dX12_takeMenu_100 : decode cX12_takeMenu 100 = .ok (.getfield 241, 3) := by decide +kernel
theorem dX12_takeMenu_103 : decode cX12_takeMenu 103 = .ok (.if_icmp .ne 27, 3) := by decide +kernel
theorem dX12_takeMenu_106 : decode cX12_takeMenu 106 = .ok (.iload_n 3, 1) := by decide +kernel
theorem dX12_takeMenu_107 : decode cX12_takeMenu 107 = .ok (.aload_n 0, 1) := by decide +kernel
theorem dX12_takeMenu_108 : decode cX12_takeMenu 108 = .ok (.getfield 244, 3) := by decide +kernel
theorem dX12_takeMenu_111 : decode cX12_takeMenu 111 = .ok (.if_icmp .ge 19, 3) := by decide +kernel
theorem dX12_takeMenu_114 : decode cX12_takeMenu 114 = .ok (.aload_n 0, 1) := by decide +kernel
theorem dX12_takeMenu_115 : decode cX12_takeMenu 115 = .ok (.iload_n 1, 1) := by decide +kernel
theorem dX12_takeMenu_116 : decode cX12_takeMenu 116 = .ok (.putfield 238, 3) := by decide +kernel
theorem dX12_takeMenu_119 : decode cX12_takeMenu 119 = .ok (.aload_n 0, 1) := by decide +kernel
theorem dX12_takeMenu_120 : decode cX12_takeMenu 120 = .ok (.iload 4, 2) := by decide +kernel
theorem dX12_takeMenu_122 : decode cX12_takeMenu 122 = .ok (.putfield 241, 3) := by decide +kernel
theorem dX12_takeMenu_125 : decode cX12_takeMenu 125 = .ok (.aload_n 0, 1) := by decide +kernel
theorem dX12_takeMenu_126 : decode cX12_takeMenu 126 = .ok (.iload_n 3, 1) := by decide +kernel
theorem dX12_takeMenu_127 : decode cX12_takeMenu 127 = .ok (.putfield 244, 3) := by decide +kernel
theorem dX12_takeMenu_130 : decode cX12_takeMenu 130 = .ok (.return_, 1) := by decide +kernel
theorem dX12_takes_0 : decode cX12_takes 0 = .ok (.iload_n 3, 1) := by decide +kernel
theorem dX12_takes_1 : decode cX12_takes 1 = .ok (.istore 4, 2) := by decide +kernel
theorem dX12_takes_3 : decode cX12_takes 3 = .ok (.iconst 0, 1) := by decide +kernel
theorem dX12_takes_4 : decode cX12_takes 4 = .ok (.istore 5, 2) := by decide +kernel
theorem dX12_takes_6 : decode cX12_takes 6 = .ok (.iload 5, 2) := by decide +kernel
theorem dX12_takes_8 : decode cX12_takes 8 = .ok (.aload_n 0, 1) := by decide +kernel
theorem dX12_takes_9 : decode cX12_takes 9 = .ok (.getfield 9, 3) := by decide +kernel
theorem dX12_takes_12 : decode cX12_takes 12 = .ok (.bipush 7, 2) := by decide +kernel
theorem dX12_takes_14 : decode cX12_takes 14 = .ok (.iaload, 1) := by decide +kernel
theorem dX12_takes_15 : decode cX12_takes 15 = .ok (.if_icmp .ge 95, 3) := by decide +kernel
theorem dX12_takes_18 : decode cX12_takes 18 = .ok (.aload_n 0, 1) := by decide +kernel
theorem dX12_takes_19 : decode cX12_takes 19 = .ok (.getfield 9, 3) := by decide +kernel
theorem dX12_takes_22 : decode cX12_takes 22 = .ok (.iload 5, 2) := by decide +kernel
theorem dX12_takes_24 : decode cX12_takes 24 = .ok (.iconst 0, 1) := by decide +kernel
theorem dX12_takes_25 : decode cX12_takes 25 = .ok (.invokestatic 261, 3) := by decide +kernel
theorem dX12_takes_28 : decode cX12_takes 28 = .ok (.iaload, 1) := by decide +kernel
theorem dX12_takes_29 : decode cX12_takes 29 = .ok (.iload_n 2, 1) := by decide +kernel
theorem dX12_takes_30 : decode cX12_takes 30 = .ok (.if_icmp .ne 22, 3) := by decide +kernel
theorem dX12_takes_33 : decode cX12_takes 33 = .ok (.iload 4, 2) := by decide +kernel
theorem dX12_takes_35 : decode cX12_takes 35 = .ok (.aload_n 0, 1) := by decide +kernel
theorem dX12_takes_36 : decode cX12_takes 36 = .ok (.getfield 9, 3) := by decide +kernel
theorem dX12_takes_39 : decode cX12_takes 39 = .ok (.iload 5, 2) := by decide +kernel
theorem dX12_takes_41 : decode cX12_takes 41 = .ok (.iconst 3, 1) := by decide +kernel
theorem dX12_takes_42 : decode cX12_takes 42 = .ok (.invokestatic 261, 3) := by decide +kernel
theorem dX12_takes_45 : decode cX12_takes 45 = .ok (.iaload, 1) := by decide +kernel
theorem dX12_takes_46 : decode cX12_takes 46 = .ok (.invokestatic 118, 3) := by decide +kernel
theorem dX12_takes_49 : decode cX12_takes 49 = .ok (.goto 4, 3) := by decide +kernel
theorem dX12_takes_52 : decode cX12_takes 52 = .ok (.iconst 0, 1) := by decide +kernel
theorem dX12_takes_53 : decode cX12_takes 53 = .ok (.istore 6, 2) := by decide +kernel
theorem dX12_takes_55 : decode cX12_takes 55 = .ok (.aload_n 0, 1) := by decide +kernel
theorem dX12_takes_56 : decode cX12_takes 56 = .ok (.getfield 9, 3) := by decide +kernel
theorem dX12_takes_59 : decode cX12_takes 59 = .ok (.iload 5, 2) := by decide +kernel
theorem dX12_takes_61 : decode cX12_takes 61 = .ok (.iconst 3, 1) := by decide +kernel
theorem dX12_takes_62 : decode cX12_takes 62 = .ok (.invokestatic 261, 3) := by decide +kernel
theorem dX12_takes_65 : decode cX12_takes 65 = .ok (.dup2, 1) := by decide +kernel
theorem dX12_takes_66 : decode cX12_takes 66 = .ok (.iaload, 1) := by decide +kernel
theorem dX12_takes_67 : decode cX12_takes 67 = .ok (.iload 6, 2) := by decide +kernel
theorem dX12_takes_69 : decode cX12_takes 69 = .ok (.isub, 1) := by decide +kernel
theorem dX12_takes_70 : decode cX12_takes 70 = .ok (.iastore, 1) := by decide +kernel
theorem dX12_takes_71 : decode cX12_takes 71 = .ok (.aload_n 0, 1) := by decide +kernel
theorem dX12_takes_72 : decode cX12_takes 72 = .ok (.getfield 9, 3) := by decide +kernel
theorem dX12_takes_75 : decode cX12_takes 75 = .ok (.iload 5, 2) := by decide +kernel
theorem dX12_takes_77 : decode cX12_takes 77 = .ok (.iconst 4, 1) := by decide +kernel
theorem dX12_takes_78 : decode cX12_takes 78 = .ok (.invokestatic 261, 3) := by decide +kernel
theorem dX12_takes_81 : decode cX12_takes 81 = .ok (.dup2, 1) := by decide +kernel
theorem dX12_takes_82 : decode cX12_takes 82 = .ok (.iaload, 1) := by decide +kernel
theorem dX12_takes_83 : decode cX12_takes 83 = .ok (.iload 6, 2) := by decide +kernel
theorem dX12_takes_85 : decode cX12_takes 85 = .ok (.ifCond .le 9, 3) := by decide +kernel
theorem dX12_takes_88 : decode cX12_takes 88 = .ok (.iconst 1, 1) := by decide +kernel
theorem dX12_takes_89 : decode cX12_takes 89 = .ok (.iload_n 1, 1) := by decide +kernel
theorem dX12_takes_90 : decode cX12_takes 90 = .ok (.ishl, 1) := by decide +kernel
theorem dX12_takes_91 : decode cX12_takes 91 = .ok (.goto 4, 3) := by decide +kernel
theorem dX12_takes_94 : decode cX12_takes 94 = .ok (.iconst 0, 1) := by decide +kernel
theorem dX12_takes_95 : decode cX12_takes 95 = .ok (.ior, 1) := by decide +kernel
theorem dX12_takes_96 : decode cX12_takes 96 = .ok (.iastore, 1) := by decide +kernel
theorem dX12_takes_97 : decode cX12_takes 97 = .ok (.iload 4, 2) := by decide +kernel
theorem dX12_takes_99 : decode cX12_takes 99 = .ok (.iload 6, 2) := by decide +kernel
theorem dX12_takes_101 : decode cX12_takes 101 = .ok (.isub, 1) := by decide +kernel
theorem dX12_takes_102 : decode cX12_takes 102 = .ok (.istore 4, 2) := by decide +kernel
theorem dX12_takes_104 : decode cX12_takes 104 = .ok (.iinc 5 1, 3) := by decide +kernel
theorem dX12_takes_107 : decode cX12_takes 107 = .ok (.goto (-101), 3) := by decide +kernel
theorem dX12_takes_110 : decode cX12_takes 110 = .ok (.aload_n 0, 1) := by decide +kernel
theorem dX12_takes_111 : decode cX12_takes 111 = .ok (.getfield 9, 3) := by decide +kernel
theorem dX12_takes_114 : decode cX12_takes 114 = .ok (.iload_n 2, 1) := by decide +kernel
theorem dX12_takes_115 : decode cX12_takes 115 = .ok (.bipush 6, 2) := by decide +kernel
theorem dX12_takes_117 : decode cX12_takes 117 = .ok (.invokestatic 59, 3) := by decide +kernel
theorem dX12_takes_120 : decode cX12_takes 120 = .ok (.dup2, 1) := by decide +kernel
theorem dX12_takes_121 : decode cX12_takes 121 = .ok (.iaload, 1) := by decide +kernel
theorem dX12_takes_122 : decode cX12_takes 122 = .ok (.iload_n 3, 1) := by decide +kernel
theorem dX12_takes_123 : decode cX12_takes 123 = .ok (.iadd, 1) := by decide +kernel
theorem dX12_takes_124 : decode cX12_takes 124 = .ok (.iastore, 1) := by decide +kernel
theorem dX12_takes_125 : decode cX12_takes 125 = .ok (.return_, 1) := by decide +kernel
theorem dX12_tell_0 : decode cX12_tell 0 = .ok (.aload_n 0, 1) := by decide +kernel
theorem dX12_tell_1 : decode cX12_tell 1 = .ok (.getfield 313, 3) := by decide +kernel
theorem dX12_tell_4 : decode cX12_tell 4 = .ok (.bipush 36, 2) := by decide +kernel
theorem dX12_tell_6 : decode cX12_tell 6 = .ok (.if_icmp .ne 6, 3) := by decide +kernel
theorem dX12_tell_9 : decode cX12_tell 9 = .ok (.ldc 58, 2) := by decide +kernel
theorem dX12_tell_11 : decode cX12_tell 11 = .ok (.ireturn, 1) := by decide +kernel
theorem dX12_tell_12 : decode cX12_tell 12 = .ok (.aload_n 0, 1) := by decide +kernel
theorem dX12_tell_13 : decode cX12_tell 13 = .ok (.getfield 19, 3) := by decide +kernel
theorem dX12_tell_16 : decode cX12_tell 16 = .ok (.aload_n 0, 1) := by decide +kernel
theorem dX12_tell_17 : decode cX12_tell 17 = .ok (.getfield 313, 3) := by decide +kernel
theorem dX12_tell_20 : decode cX12_tell 20 = .ok (.iload_n 1, 1) := by decide +kernel
theorem dX12_tell_21 : decode cX12_tell 21 = .ok (.iastore, 1) := by decide +kernel
theorem dX12_tell_22 : decode cX12_tell 22 = .ok (.aload_n 0, 1) := by decide +kernel
theorem dX12_tell_23 : decode cX12_tell 23 = .ok (.dup, 1) := by decide +kernel
theorem dX12_tell_24 : decode cX12_tell 24 = .ok (.getfield 313, 3) := by decide +kernel
theorem dX12_tell_27 : decode cX12_tell 27 = .ok (.iconst 1, 1) := by decide +kernel
theorem dX12_tell_28 : decode cX12_tell 28 = .ok (.iadd, 1) := by decide +kernel
theorem dX12_tell_29 : decode cX12_tell 29 = .ok (.putfield 313, 3) := by decide +kernel
theorem dX12_tell_32 : decode cX12_tell 32 = .ok (.aload_n 0, 1) := by decide +kernel
theorem dX12_tell_33 : decode cX12_tell 33 = .ok (.getfield 313, 3) := by decide +kernel
theorem dX12_tell_36 : decode cX12_tell 36 = .ok (.ireturn, 1) := by decide +kernel
theorem dX12_term_0 : decode cX12_term 0 = .ok (.aload_n 0, 1) := by decide +kernel
theorem dX12_term_1 : decode cX12_term 1 = .ok (.invokevirtual 182, 3) := by decide +kernel
theorem dX12_term_4 : decode cX12_term 4 = .ok (.aload_n 0, 1) := by decide +kernel
theorem dX12_term_5 : decode cX12_term 5 = .ok (.bipush 7, 2) := by decide +kernel
theorem dX12_term_7 : decode cX12_term 7 = .ok (.bipush 8, 2) := by decide +kernel
theorem dX12_term_9 : decode cX12_term 9 = .ok (.invokevirtual 192, 3) := by decide +kernel
theorem dX12_term_12 : decode cX12_term 12 = .ok (.istore_n 1, 1) := by decide +kernel
theorem dX12_term_13 : decode cX12_term 13 = .ok (.iload_n 1, 1) := by decide +kernel
theorem dX12_term_14 : decode cX12_term 14 = .ok (.ifCond .lt 31, 3) := by decide +kernel
theorem dX12_term_17 : decode cX12_term 17 = .ok (.aload_n 0, 1) := by decide +kernel
theorem dX12_term_18 : decode cX12_term 18 = .ok (.invokevirtual 144, 3) := by decide +kernel
theorem dX12_term_21 : decode cX12_term 21 = .ok (.aload_n 0, 1) := by decide +kernel
theorem dX12_term_22 : decode cX12_term 22 = .ok (.invokevirtual 182, 3) := by decide +kernel
theorem dX12_term_25 : decode cX12_term 25 = .ok (.aload_n 0, 1) := by decide +kernel
theorem dX12_term_26 : decode cX12_term 26 = .ok (.ldc 195, 2) := by decide +kernel
theorem dX12_term_28 : decode cX12_term 28 = .ok (.iload_n 1, 1) := by decide +kernel
theorem dX12_term_29 : decode cX12_term 29 = .ok (.iadd, 1) := by decide +kernel
theorem dX12_term_30 : decode cX12_term 30 = .ok (.invokevirtual 168, 3) := by decide +kernel
theorem dX12_term_33 : decode cX12_term 33 = .ok (.aload_n 0, 1) := by decide +kernel
theorem dX12_term_34 : decode cX12_term 34 = .ok (.bipush 7, 2) := by decide +kernel
theorem dX12_term_36 : decode cX12_term 36 = .ok (.bipush 8, 2) := by decide +kernel
theorem dX12_term_38 : decode cX12_term 38 = .ok (.invokevirtual 192, 3) := by decide +kernel
theorem dX12_term_41 : decode cX12_term 41 = .ok (.istore_n 1, 1) := by decide +kernel
theorem dX12_term_42 : decode cX12_term 42 = .ok (.goto (-29), 3) := by decide +kernel
theorem dX12_term_45 : decode cX12_term 45 = .ok (.return_, 1) := by decide +kernel
theorem dX12_test_0 : decode cX12_test 0 = .ok (.aload_n 0, 1) := by decide +kernel
theorem dX12_test_1 : decode cX12_test 1 = .ok (.invokevirtual 199, 3) := by decide +kernel
theorem dX12_test_4 : decode cX12_test 4 = .ok (.aload_n 0, 1) := by decide +kernel
theorem dX12_test_5 : decode cX12_test 5 = .ok (.iconst 2, 1) := by decide +kernel
theorem dX12_test_6 : decode cX12_test 6 = .ok (.iconst 4, 1) := by decide +kernel
theorem dX12_test_7 : decode cX12_test 7 = .ok (.invokevirtual 192, 3) := by decide +kernel
theorem dX12_test_10 : decode cX12_test 10 = .ok (.istore_n 1, 1) := by decide +kernel
theorem dX12_test_11 : decode cX12_test 11 = .ok (.iload_n 1, 1) := by decide +kernel
theorem dX12_test_12 : decode cX12_test 12 = .ok (.ifCond .lt 19, 3) := by decide +kernel
theorem dX12_test_15 : decode cX12_test 15 = .ok (.aload_n 0, 1) := by decide +kernel
theorem dX12_test_16 : decode cX12_test 16 = .ok (.invokevirtual 144, 3) := by decide +kernel
theorem dX12_test_19 : decode cX12_test 19 = .ok (.aload_n 0, 1) := by decide +kernel
theorem dX12_test_20 : decode cX12_test 20 = .ok (.invokevirtual 199, 3) := by decide +kernel
theorem dX12_test_23 : decode cX12_test 23 = .ok (.aload_n 0, 1) := by decide +kernel
theorem dX12_test_24 : decode cX12_test 24 = .ok (.ldc 195, 2) := by decide +kernel
theorem dX12_test_26 : decode cX12_test 26 = .ok (.iload_n 1, 1) := by decide +kernel
theorem dX12_test_27 : decode cX12_test 27 = .ok (.iadd, 1) := by decide +kernel
theorem dX12_test_28 : decode cX12_test 28 = .ok (.invokevirtual 168, 3) := by decide +kernel
theorem dX12_test_31 : decode cX12_test 31 = .ok (.return_, 1) := by decide +kernel
theorem dX12_throwLeft_0 : decode cX12_throwLeft 0 = .ok (.aload_n 0, 1) := by decide +kernel
theorem dX12_throwLeft_1 : decode cX12_throwLeft 1 = .ok (.getfield 9, 3) := by decide +kernel
theorem dX12_throwLeft_4 : decode cX12_throwLeft 4 = .ok (.aload_n 0, 1) := by decide +kernel
theorem dX12_throwLeft_5 : decode cX12_throwLeft 5 = .ok (.getfield 9, 3) := by decide +kernel
theorem dX12_throwLeft_8 : decode cX12_throwLeft 8 = .ok (.iload_n 1, 1) := by decide +kernel
theorem dX12_throwLeft_9 : decode cX12_throwLeft 9 = .ok (.iconst 0, 1) := by decide +kernel
theorem dX12_throwLeft_10 : decode cX12_throwLeft 10 = .ok (.invokestatic 261, 3) := by decide +kernel
theorem dX12_throwLeft_13 : decode cX12_throwLeft 13 = .ok (.iaload, 1) := by decide +kernel
theorem dX12_throwLeft_14 : decode cX12_throwLeft 14 = .ok (.bipush 7, 2) := by decide +kernel
theorem dX12_throwLeft_16 : decode cX12_throwLeft 16 = .ok (.invokestatic 59, 3) := by decide +kernel
theorem dX12_throwLeft_19 : decode cX12_throwLeft 19 = .ok (.dup2, 1) := by decide +kernel
theorem dX12_throwLeft_20 : decode cX12_throwLeft 20 = .ok (.iaload, 1) := by decide +kernel
theorem dX12_throwLeft_21 : decode cX12_throwLeft 21 = .ok (.aload_n 0, 1) := by decide +kernel
theorem dX12_throwLeft_22 : decode cX12_throwLeft 22 = .ok (.getfield 9, 3) := by decide +kernel
theorem dX12_throwLeft_25 : decode cX12_throwLeft 25 = .ok (.iload_n 1, 1) := by decide +kernel
theorem dX12_throwLeft_26 : decode cX12_throwLeft 26 = .ok (.iconst 3, 1) := by decide +kernel
theorem dX12_throwLeft_27 : decode cX12_throwLeft 27 = .ok (.invokestatic 261, 3) := by decide +kernel
theorem dX12_throwLeft_30 : decode cX12_throwLeft 30 = .ok (.iaload, 1) := by decide +kernel
theorem dX12_throwLeft_31 : decode cX12_throwLeft 31 = .ok (.iadd, 1) := by decide +kernel
theorem dX12_throwLeft_32 : decode cX12_throwLeft 32 = .ok (.iastore, 1) := by decide +kernel
theorem dX12_throwLeft_33 : decode cX12_throwLeft 33 = .ok (.aload_n 0, 1) := by decide +kernel
theorem dX12_throwLeft_34 : decode cX12_throwLeft 34 = .ok (.getfield 9, 3) := by decide +kernel
theorem dX12_throwLeft_37 : decode cX12_throwLeft 37 = .ok (.iload_n 1, 1) := by decide +kernel
theorem dX12_throwLeft_38 : decode cX12_throwLeft 38 = .ok (.iconst 3, 1) := by decide +kernel
theorem dX12_throwLeft_39 : decode cX12_throwLeft 39 = .ok (.invokestatic 261, 3) := by decide +kernel
theorem dX12_throwLeft_42 : decode cX12_throwLeft 42 = .ok (.iconst 0, 1) := by decide +kernel
theorem dX12_throwLeft_43 : decode cX12_throwLeft 43 = .ok (.iastore, 1) := by decide +kernel
theorem dX12_throwLeft_44 : decode cX12_throwLeft 44 = .ok (.return_, 1) := by decide +kernel
theorem dX12_told_0 : decode cX12_told 0 = .ok (.iload_n 1, 1) := by decide +kernel
theorem dX12_told_1 : decode cX12_told 1 = .ok (.iconst 0, 1) := by decide +kernel
theorem dX12_told_2 : decode cX12_told 2 = .ok (.aload_n 0, 1) := by decide +kernel
theorem dX12_told_3 : decode cX12_told 3 = .ok (.getfield 9, 3) := by decide +kernel
theorem dX12_told_6 : decode cX12_told 6 = .ok (.bipush 7, 2) := by decide +kernel
theorem dX12_told_8 : decode cX12_told 8 = .ok (.iaload, 1) := by decide +kernel
theorem dX12_told_9 : decode cX12_told 9 = .ok (.iconst 1, 1) := by decide +kernel
theorem dX12_told_10 : decode cX12_told 10 = .ok (.isub, 1) := by decide +kernel
theorem dX12_told_11 : decode cX12_told 11 = .ok (.invokestatic 52, 3) := by decide +kernel
theorem dX12_told_14 : decode cX12_told 14 = .ok (.ifCond .eq 12, 3) := by decide +kernel
theorem dX12_told_17 : decode cX12_told 17 = .ok (.iload_n 2, 1) := by decide +kernel
theorem dX12_told_18 : decode cX12_told 18 = .ok (.iconst 0, 1) := by decide +kernel
theorem dX12_told_19 : decode cX12_told 19 = .ok (.iconst 3, 1) := by decide +kernel
theorem dX12_told_20 : decode cX12_told 20 = .ok (.invokestatic 52, 3) := by decide +kernel
theorem dX12_told_23 : decode cX12_told 23 = .ok (.ifCond .ne 8, 3) := by decide +kernel
theorem dX12_told_26 : decode cX12_told 26 = .ok (.ldc 57, 2) := by decide +kernel
theorem dX12_told_28 : decode cX12_told 28 = .ok (.goto 13, 3) := by decide +kernel
theorem dX12_told_31 : decode cX12_told 31 = .ok (.aload_n 0, 1) := by decide +kernel
theorem dX12_told_32 : decode cX12_told 32 = .ok (.getfield 9, 3) := by decide +kernel
theorem dX12_told_35 : decode cX12_told 35 = .ok (.iload_n 1, 1) := by decide +kernel
theorem dX12_told_36 : decode cX12_told 36 = .ok (.iload_n 2, 1) := by decide +kernel
theorem dX12_told_37 : decode cX12_told 37 = .ok (.invokestatic 261, 3) := by decide +kernel
theorem dX12_told_40 : decode cX12_told 40 = .ok (.iaload, 1) := by decide +kernel
theorem dX12_told_41 : decode cX12_told 41 = .ok (.ireturn, 1) := by decide +kernel
theorem dX12_trim_0 : decode cX12_trim 0 = .ok (.iload_n 1, 1) := by decide +kernel
theorem dX12_trim_1 : decode cX12_trim 1 = .ok (.iconst 0, 1) := by decide +kernel
theorem dX12_trim_2 : decode cX12_trim 2 = .ok (.aload_n 0, 1) := by decide +kernel
theorem dX12_trim_3 : decode cX12_trim 3 = .ok (.getfield 121, 3) := by decide +kernel
theorem dX12_trim_6 : decode cX12_trim 6 = .ok (.invokestatic 52, 3) := by decide +kernel
theorem dX12_trim_9 : decode cX12_trim 9 = .ok (.ifCond .ne 6, 3) := by decide +kernel
theorem dX12_trim_12 : decode cX12_trim 12 = .ok (.ldc 57, 2) := by decide +kernel
theorem dX12_trim_14 : decode cX12_trim 14 = .ok (.ireturn, 1) := by decide +kernel
theorem dX12_trim_15 : decode cX12_trim 15 = .ok (.aload_n 0, 1) := by decide +kernel
theorem dX12_trim_16 : decode cX12_trim 16 = .ok (.iload_n 1, 1) := by decide +kernel
theorem dX12_trim_17 : decode cX12_trim 17 = .ok (.putfield 121, 3) := by decide +kernel
theorem dX12_trim_20 : decode cX12_trim 20 = .ok (.iload_n 1, 1) := by decide +kernel
theorem dX12_trim_21 : decode cX12_trim 21 = .ok (.ireturn, 1) := by decide +kernel
theorem dX12_trySwap_0 : decode cX12_trySwap 0 = .ok (.aload_n 0, 1) := by decide +kernel
theorem dX12_trySwap_1 : decode cX12_trySwap 1 = .ok (.getfield 253, 3) := by decide +kernel
theorem dX12_trySwap_4 : decode cX12_trySwap 4 = .ok (.ifCond .ne 9, 3) := by decide +kernel
theorem dX12_trySwap_7 : decode cX12_trySwap 7 = .ok (.aload_n 0, 1) := by decide +kernel
theorem dX12_trySwap_8 : decode cX12_trySwap 8 = .ok (.iconst 1, 1) := by decide +kernel
theorem dX12_trySwap_9 : decode cX12_trySwap 9 = .ok (.putfield 250, 3) := by decide +kernel
theorem dX12_trySwap_12 : decode cX12_trySwap 12 = .ok (.return_, 1) := by decide +kernel
theorem dX12_trySwap_13 : decode cX12_trySwap 13 = .ok (.aload_n 0, 1) := by decide +kernel
theorem dX12_trySwap_14 : decode cX12_trySwap 14 = .ok (.dup, 1) := by decide +kernel
theorem dX12_trySwap_15 : decode cX12_trySwap 15 = .ok (.getfield 253, 3) := by decide +kernel
theorem dX12_trySwap_18 : decode cX12_trySwap 18 = .ok (.iconst 1, 1) := by decide +kernel
theorem dX12_trySwap_19 : decode cX12_trySwap 19 = .ok (.isub, 1) := by decide +kernel
theorem dX12_trySwap_20 : decode cX12_trySwap 20 = .ok (.putfield 253, 3) := by decide +kernel
theorem dX12_trySwap_23 : decode cX12_trySwap 23 = .ok (.aload_n 0, 1) := by decide +kernel
theorem dX12_trySwap_24 : decode cX12_trySwap 24 = .ok (.getfield 28, 3) := by decide +kernel
theorem dX12_trySwap_27 : decode cX12_trySwap 27 = .ok (.bipush 14, 2) := by decide +kernel
theorem dX12_trySwap_29 : decode cX12_trySwap 29 = .ok (.iload_n 1, 1) := by decide +kernel
theorem dX12_trySwap_30 : decode cX12_trySwap 30 = .ok (.imul, 1) := by decide +kernel
theorem dX12_trySwap_31 : decode cX12_trySwap 31 = .ok (.iload_n 2, 1) := by decide +kernel
theorem dX12_trySwap_32 : decode cX12_trySwap 32 = .ok (.iadd, 1) := by decide +kernel
theorem dX12_trySwap_33 : decode cX12_trySwap 33 = .ok (.iaload, 1) := by decide +kernel
theorem dX12_trySwap_34 : decode cX12_trySwap 34 = .ok (.aload_n 0, 1) := by decide +kernel
theorem dX12_trySwap_35 : decode cX12_trySwap 35 = .ok (.getfield 9, 3) := by decide +kernel
theorem dX12_trySwap_38 : decode cX12_trySwap 38 = .ok (.bipush 122, 2) := by decide +kernel
theorem dX12_trySwap_40 : decode cX12_trySwap 40 = .ok (.bipush 14, 2) := by decide +kernel
theorem dX12_trySwap_42 : decode cX12_trySwap 42 = .ok (.iload_n 2, 1) := by decide +kernel
theorem dX12_trySwap_43 : decode cX12_trySwap 43 = .ok (.imul, 1) := by decide +kernel
theorem dX12_trySwap_44 : decode cX12_trySwap 44 = .ok (.iadd, 1) := by decide +kernel
theorem dX12_trySwap_45 : decode cX12_trySwap 45 = .ok (.iload_n 3, 1) := by decide +kernel
theorem dX12_trySwap_46 : decode cX12_trySwap 46 = .ok (.iadd, 1) := by decide +kernel
theorem dX12_trySwap_47 : decode cX12_trySwap 47 = .ok (.iaload, 1) := by decide +kernel
theorem dX12_trySwap_48 : decode cX12_trySwap 48 = .ok (.imul, 1) := by decide +kernel
theorem dX12_trySwap_49 : decode cX12_trySwap 49 = .ok (.bipush 100, 2) := by decide +kernel
theorem dX12_trySwap_51 : decode cX12_trySwap 51 = .ok (.idiv, 1) := by decide +kernel
theorem dX12_trySwap_52 : decode cX12_trySwap 52 = .ok (.istore 6, 2) := by decide +kernel
theorem dX12_trySwap_54 : decode cX12_trySwap 54 = .ok (.aload_n 0, 1) := by decide +kernel
theorem dX12_trySwap_55 : decode cX12_trySwap 55 = .ok (.iload_n 1, 1) := by decide +kernel
theorem dX12_trySwap_56 : decode cX12_trySwap 56 = .ok (.iload_n 2, 1) := by decide +kernel
theorem dX12_trySwap_57 : decode cX12_trySwap 57 = .ok (.iload_n 3, 1) := by decide +kernel
theorem dX12_trySwap_58 : decode cX12_trySwap 58 = .ok (.invokevirtual 294, 3) := by decide +kernel
theorem dX12_trySwap_61 : decode cX12_trySwap 61 = .ok (.aload_n 0, 1) := by decide +kernel
theorem dX12_trySwap_62 : decode cX12_trySwap 62 = .ok (.getfield 43, 3) := by decide +kernel
theorem dX12_trySwap_65 : decode cX12_trySwap 65 = .ok (.iload_n 1, 1) := by decide +kernel
theorem dX12_trySwap_66 : decode cX12_trySwap 66 = .ok (.bipush 100, 2) := by decide +kernel
theorem dX12_trySwap_68 : decode cX12_trySwap 68 = .ok (.iload_n 2, 1) := by decide +kernel
theorem dX12_trySwap_69 : decode cX12_trySwap 69 = .ok (.imul, 1) := by decide +kernel
theorem dX12_trySwap_70 : decode cX12_trySwap 70 = .ok (.iload_n 3, 1) := by decide +kernel
theorem dX12_trySwap_71 : decode cX12_trySwap 71 = .ok (.iadd, 1) := by decide +kernel
theorem dX12_trySwap_72 : decode cX12_trySwap 72 = .ok (.iastore, 1) := by decide +kernel
theorem dX12_trySwap_73 : decode cX12_trySwap 73 = .ok (.aload_n 0, 1) := by decide +kernel
theorem dX12_trySwap_74 : decode cX12_trySwap 74 = .ok (.iload_n 1, 1) := by decide +kernel
theorem dX12_trySwap_75 : decode cX12_trySwap 75 = .ok (.iconst 1, 1) := by decide +kernel
theorem dX12_trySwap_76 : decode cX12_trySwap 76 = .ok (.iadd, 1) := by decide +kernel
theorem dX12_trySwap_77 : decode cX12_trySwap 77 = .ok (.iload 4, 2) := by decide +kernel
theorem dX12_trySwap_79 : decode cX12_trySwap 79 = .ok (.iload 6, 2) := by decide +kernel
theorem dX12_trySwap_81 : decode cX12_trySwap 81 = .ok (.iadd, 1) := by decide +kernel
theorem dX12_trySwap_82 : decode cX12_trySwap 82 = .ok (.iload 5, 2) := by decide +kernel
theorem dX12_trySwap_84 : decode cX12_trySwap 84 = .ok (.iconst 1, 1) := by decide +kernel
theorem dX12_trySwap_85 : decode cX12_trySwap 85 = .ok (.iadd, 1) := by decide +kernel
theorem dX12_trySwap_86 : decode cX12_trySwap 86 = .ok (.invokevirtual 283, 3) := by decide +kernel
theorem dX12_trySwap_89 : decode cX12_trySwap 89 = .ok (.aload_n 0, 1) := by decide +kernel
theorem dX12_trySwap_90 : decode cX12_trySwap 90 = .ok (.getfield 43, 3) := by decide +kernel
theorem dX12_trySwap_93 : decode cX12_trySwap 93 = .ok (.iload_n 1, 1) := by decide +kernel
theorem dX12_trySwap_94 : decode cX12_trySwap 94 = .ok (.iconst (-1), 1) := by decide +kernel
theorem dX12_trySwap_95 : decode cX12_trySwap 95 = .ok (.iastore, 1) := by decide +kernel
theorem dX12_trySwap_96 : decode cX12_trySwap 96 = .ok (.aload_n 0, 1) := by decide +kernel
theorem dX12_trySwap_97 : decode cX12_trySwap 97 = .ok (.iload_n 1, 1) := by decide +kernel
theorem dX12_trySwap_98 : decode cX12_trySwap 98 = .ok (.iload_n 3, 1) := by decide +kernel
theorem dX12_trySwap_99 : decode cX12_trySwap 99 = .ok (.iload_n 2, 1) := by decide +kernel
theorem dX12_trySwap_100 : decode cX12_trySwap 100 = .ok (.invokevirtual 294, 3) := by decide +kernel
theorem dX12_trySwap_103 : decode cX12_trySwap 103 = .ok (.return_, 1) := by decide +kernel
theorem dX12_unlike_0 : decode cX12_unlike 0 = .ok (.aload_n 0, 1) := by decide +kernel
theorem dX12_unlike_1 : decode cX12_unlike 1 = .ok (.iload_n 1, 1) := by decide +kernel
theorem dX12_unlike_2 : decode cX12_unlike 2 = .ok (.invokevirtual 63, 3) := by decide +kernel
theorem dX12_unlike_5 : decode cX12_unlike 5 = .ok (.ifCond .eq 26, 3) := by decide +kernel
theorem dX12_unlike_8 : decode cX12_unlike 8 = .ok (.aload_n 0, 1) := by decide +kernel
theorem dX12_unlike_9 : decode cX12_unlike 9 = .ok (.iload_n 2, 1) := by decide +kernel
theorem dX12_unlike_10 : decode cX12_unlike 10 = .ok (.invokevirtual 63, 3) := by decide +kernel
theorem dX12_unlike_13 : decode cX12_unlike 13 = .ok (.ifCond .eq 18, 3) := by decide +kernel
theorem dX12_unlike_16 : decode cX12_unlike 16 = .ok (.iload_n 1, 1) := by decide +kernel
theorem dX12_unlike_17 : decode cX12_unlike 17 = .ok (.iload_n 2, 1) := by decide +kernel
theorem dX12_unlike_18 : decode cX12_unlike 18 = .ok (.if_icmp .eq 13, 3) := by decide +kernel
theorem dX12_unlike_21 : decode cX12_unlike 21 = .ok (.iload_n 3, 1) := by decide +kernel
theorem dX12_unlike_22 : decode cX12_unlike 22 = .ok (.iconst 1, 1) := by decide +kernel
theorem dX12_unlike_23 : decode cX12_unlike 23 = .ok (.bipush 99, 2) := by decide +kernel
theorem dX12_unlike_25 : decode cX12_unlike 25 = .ok (.invokestatic 52, 3) := by decide +kernel
theorem dX12_unlike_28 : decode cX12_unlike 28 = .ok (.ifCond .ne 6, 3) := by decide +kernel
theorem dX12_unlike_31 : decode cX12_unlike 31 = .ok (.ldc 57, 2) := by decide +kernel
theorem dX12_unlike_33 : decode cX12_unlike 33 = .ok (.ireturn, 1) := by decide +kernel
theorem dX12_unlike_34 : decode cX12_unlike 34 = .ok (.aload_n 0, 1) := by decide +kernel
theorem dX12_unlike_35 : decode cX12_unlike 35 = .ok (.getfield 9, 3) := by decide +kernel
theorem dX12_unlike_38 : decode cX12_unlike 38 = .ok (.bipush 122, 2) := by decide +kernel
theorem dX12_unlike_40 : decode cX12_unlike 40 = .ok (.bipush 14, 2) := by decide +kernel
theorem dX12_unlike_42 : decode cX12_unlike 42 = .ok (.iload_n 1, 1) := by decide +kernel
theorem dX12_unlike_43 : decode cX12_unlike 43 = .ok (.imul, 1) := by decide +kernel
theorem dX12_unlike_44 : decode cX12_unlike 44 = .ok (.iadd, 1) := by decide +kernel
theorem dX12_unlike_45 : decode cX12_unlike 45 = .ok (.iload_n 2, 1) := by decide +kernel
theorem dX12_unlike_46 : decode cX12_unlike 46 = .ok (.iadd, 1) := by decide +kernel
theorem dX12_unlike_47 : decode cX12_unlike 47 = .ok (.iaload, 1) := by decide +kernel
theorem dX12_unlike_48 : decode cX12_unlike 48 = .ok (.istore 4, 2) := by decide +kernel
theorem dX12_unlike_50 : decode cX12_unlike 50 = .ok (.aload_n 0, 1) := by decide +kernel
theorem dX12_unlike_51 : decode cX12_unlike 51 = .ok (.getfield 9, 3) := by decide +kernel
theorem dX12_unlike_54 : decode cX12_unlike 54 = .ok (.bipush 122, 2) := by decide +kernel
theorem dX12_unlike_56 : decode cX12_unlike 56 = .ok (.bipush 14, 2) := by decide +kernel
theorem dX12_unlike_58 : decode cX12_unlike 58 = .ok (.iload_n 1, 1) := by decide +kernel
theorem dX12_unlike_59 : decode cX12_unlike 59 = .ok (.imul, 1) := by decide +kernel
theorem dX12_unlike_60 : decode cX12_unlike 60 = .ok (.iadd, 1) := by decide +kernel
theorem dX12_unlike_61 : decode cX12_unlike 61 = .ok (.iload_n 2, 1) := by decide +kernel
theorem dX12_unlike_62 : decode cX12_unlike 62 = .ok (.iadd, 1) := by decide +kernel
theorem dX12_unlike_63 : decode cX12_unlike 63 = .ok (.iload_n 3, 1) := by decide +kernel
theorem dX12_unlike_64 : decode cX12_unlike 64 = .ok (.iastore, 1) := by decide +kernel
theorem dX12_unlike_65 : decode cX12_unlike 65 = .ok (.aload_n 0, 1) := by decide +kernel
theorem dX12_unlike_66 : decode cX12_unlike 66 = .ok (.getfield 9, 3) := by decide +kernel
theorem dX12_unlike_69 : decode cX12_unlike 69 = .ok (.bipush 122, 2) := by decide +kernel
theorem dX12_unlike_71 : decode cX12_unlike 71 = .ok (.bipush 14, 2) := by decide +kernel
theorem dX12_unlike_73 : decode cX12_unlike 73 = .ok (.iload_n 2, 1) := by decide +kernel
theorem dX12_unlike_74 : decode cX12_unlike 74 = .ok (.imul, 1) := by decide +kernel
theorem dX12_unlike_75 : decode cX12_unlike 75 = .ok (.iadd, 1) := by decide +kernel
theorem dX12_unlike_76 : decode cX12_unlike 76 = .ok (.iload_n 1, 1) := by decide +kernel
theorem dX12_unlike_77 : decode cX12_unlike 77 = .ok (.iadd, 1) := by decide +kernel
theorem dX12_unlike_78 : decode cX12_unlike 78 = .ok (.iload_n 3, 1) := by decide +kernel
theorem dX12_unlike_79 : decode cX12_unlike 79 = .ok (.iastore, 1) := by decide +kernel
theorem dX12_unlike_80 : decode cX12_unlike 80 = .ok (.iload 4, 2) := by decide +kernel
theorem dX12_unlike_82 : decode cX12_unlike 82 = .ok (.ireturn, 1) := by decide +kernel
theorem dX12_with_0 : decode cX12_with 0 = .ok (.aload_n 0, 1) := by decide +kernel
theorem dX12_with_1 : decode cX12_with 1 = .ok (.iload_n 1, 1) := by decide +kernel
theorem dX12_with_2 : decode cX12_with 2 = .ok (.invokevirtual 70, 3) := by decide +kernel
theorem dX12_with_5 : decode cX12_with 5 = .ok (.ifCond .eq 22, 3) := by decide +kernel
theorem dX12_with_8 : decode cX12_with 8 = .ok (.aload_n 0, 1) := by decide +kernel
theorem dX12_with_9 : decode cX12_with 9 = .ok (.iload_n 2, 1) := by decide +kernel
theorem dX12_with_10 : decode cX12_with 10 = .ok (.invokevirtual 63, 3) := by decide +kernel
theorem dX12_with_13 : decode cX12_with 13 = .ok (.ifCond .eq 14, 3) := by decide +kernel
theorem dX12_with_16 : decode cX12_with 16 = .ok (.iload_n 3, 1) := by decide +kernel
theorem dX12_with_17 : decode cX12_with 17 = .ok (.iconst 1, 1) := by decide +kernel
theorem dX12_with_18 : decode cX12_with 18 = .ok (.sipush 999, 3) := by decide +kernel
theorem dX12_with_21 : decode cX12_with 21 = .ok (.invokestatic 52, 3) := by decide +kernel
theorem dX12_with_24 : decode cX12_with 24 = .ok (.ifCond .ne 6, 3) := by decide +kernel
theorem dX12_with_27 : decode cX12_with 27 = .ok (.ldc 57, 2) := by decide +kernel
theorem dX12_with_29 : decode cX12_with 29 = .ok (.ireturn, 1) := by decide +kernel
theorem dX12_with_30 : decode cX12_with 30 = .ok (.aload_n 0, 1) := by decide +kernel
theorem dX12_with_31 : decode cX12_with 31 = .ok (.getfield 9, 3) := by decide +kernel
theorem dX12_with_34 : decode cX12_with 34 = .ok (.bipush 8, 2) := by decide +kernel
theorem dX12_with_36 : decode cX12_with 36 = .ok (.iaload, 1) := by decide +kernel
theorem dX12_with_37 : decode cX12_with 37 = .ok (.iload_n 1, 1) := by decide +kernel
theorem dX12_with_38 : decode cX12_with 38 = .ok (.invokestatic 76, 3) := by decide +kernel
theorem dX12_with_41 : decode cX12_with 41 = .ok (.ifCond .eq 6, 3) := by decide +kernel
theorem dX12_with_44 : decode cX12_with 44 = .ok (.ldc 80, 2) := by decide +kernel
theorem dX12_with_46 : decode cX12_with 46 = .ok (.ireturn, 1) := by decide +kernel
theorem dX12_with_47 : decode cX12_with 47 = .ok (.aload_n 0, 1) := by decide +kernel
theorem dX12_with_48 : decode cX12_with 48 = .ok (.getfield 9, 3) := by decide +kernel
theorem dX12_with_51 : decode cX12_with 51 = .ok (.iload_n 1, 1) := by decide +kernel
theorem dX12_with_52 : decode cX12_with 52 = .ok (.iconst 2, 1) := by decide +kernel
theorem dX12_with_53 : decode cX12_with 53 = .ok (.invokestatic 67, 3) := by decide +kernel
theorem dX12_with_56 : decode cX12_with 56 = .ok (.iaload, 1) := by decide +kernel
theorem dX12_with_57 : decode cX12_with 57 = .ok (.istore 4, 2) := by decide +kernel
theorem dX12_with_59 : decode cX12_with 59 = .ok (.iconst 0, 1) := by decide +kernel
theorem dX12_with_60 : decode cX12_with 60 = .ok (.istore 5, 2) := by decide +kernel
theorem dX12_with_62 : decode cX12_with 62 = .ok (.iload 5, 2) := by decide +kernel
theorem dX12_with_64 : decode cX12_with 64 = .ok (.iload 4, 2) := by decide +kernel
theorem dX12_with_66 : decode cX12_with 66 = .ok (.if_icmp .ge 26, 3) := by decide +kernel
theorem dX12_with_69 : decode cX12_with 69 = .ok (.aload_n 0, 1) := by decide +kernel
theorem dX12_with_70 : decode cX12_with 70 = .ok (.getfield 9, 3) := by decide +kernel
theorem dX12_with_73 : decode cX12_with 73 = .ok (.iload_n 1, 1) := by decide +kernel
theorem dX12_with_74 : decode cX12_with 74 = .ok (.iconst 3, 1) := by decide +kernel
theorem dX12_with_75 : decode cX12_with 75 = .ok (.iload 5, 2) := by decide +kernel
theorem dX12_with_77 : decode cX12_with 77 = .ok (.iadd, 1) := by decide +kernel
theorem dX12_with_78 : decode cX12_with 78 = .ok (.invokestatic 67, 3) := by decide +kernel
theorem dX12_with_81 : decode cX12_with 81 = .ok (.iaload, 1) := by decide +kernel
theorem dX12_with_82 : decode cX12_with 82 = .ok (.iload_n 2, 1) := by decide +kernel
theorem dX12_with_83 : decode cX12_with 83 = .ok (.if_icmp .eq 9, 3) := by decide +kernel
theorem dX12_with_86 : decode cX12_with 86 = .ok (.iinc 5 1, 3) := by decide +kernel
theorem dX12_with_89 : decode cX12_with 89 = .ok (.goto (-27), 3) := by decide +kernel
theorem dX12_with_92 : decode cX12_with 92 = .ok (.iload 5, 2) := by decide +kernel
theorem dX12_with_94 : decode cX12_with 94 = .ok (.iconst 5, 1) := by decide +kernel
theorem dX12_with_95 : decode cX12_with 95 = .ok (.if_icmp .ne 6, 3) := by decide +kernel
theorem dX12_with_98 : decode cX12_with 98 = .ok (.ldc 58, 2) := by decide +kernel
theorem dX12_with_100 : decode cX12_with 100 = .ok (.ireturn, 1) := by decide +kernel
theorem dX12_with_101 : decode cX12_with 101 = .ok (.aload_n 0, 1) := by decide +kernel
theorem dX12_with_102 : decode cX12_with 102 = .ok (.getfield 9, 3) := by decide +kernel
theorem dX12_with_105 : decode cX12_with 105 = .ok (.iload_n 1, 1) := by decide +kernel
theorem dX12_with_106 : decode cX12_with 106 = .ok (.iconst 3, 1) := by decide +kernel
theorem dX12_with_107 : decode cX12_with 107 = .ok (.iload 5, 2) := by decide +kernel
theorem dX12_with_109 : decode cX12_with 109 = .ok (.iadd, 1) := by decide +kernel
theorem dX12_with_110 : decode cX12_with 110 = .ok (.invokestatic 67, 3) := by decide +kernel
theorem dX12_with_113 : decode cX12_with 113 = .ok (.iload_n 2, 1) := by decide +kernel
theorem dX12_with_114 : decode cX12_with 114 = .ok (.iastore, 1) := by decide +kernel
theorem dX12_with_115 : decode cX12_with 115 = .ok (.aload_n 0, 1) := by decide +kernel
theorem dX12_with_116 : decode cX12_with 116 = .ok (.getfield 9, 3) := by decide +kernel
theorem dX12_with_119 : decode cX12_with 119 = .ok (.iload_n 1, 1) := by decide +kernel
theorem dX12_with_120 : decode cX12_with 120 = .ok (.bipush 8, 2) := by decide +kernel
theorem dX12_with_122 : decode cX12_with 122 = .ok (.iload 5, 2) := by decide +kernel
theorem dX12_with_124 : decode cX12_with 124 = .ok (.iadd, 1) := by decide +kernel
theorem dX12_with_125 : decode cX12_with 125 = .ok (.invokestatic 67, 3) := by decide +kernel
theorem dX12_with_128 : decode cX12_with 128 = .ok (.iload_n 3, 1) := by decide +kernel
theorem dX12_with_129 : decode cX12_with 129 = .ok (.iastore, 1) := by decide +kernel
theorem dX12_with_130 : decode cX12_with 130 = .ok (.aload_n 0, 1) := by decide +kernel
theorem dX12_with_131 : decode cX12_with 131 = .ok (.getfield 9, 3) := by decide +kernel
theorem dX12_with_134 : decode cX12_with 134 = .ok (.iload_n 1, 1) := by decide +kernel
theorem dX12_with_135 : decode cX12_with 135 = .ok (.iconst 2, 1) := by decide +kernel
theorem dX12_with_136 : decode cX12_with 136 = .ok (.invokestatic 67, 3) := by decide +kernel
theorem dX12_with_139 : decode cX12_with 139 = .ok (.iload 4, 2) := by decide +kernel
theorem dX12_with_141 : decode cX12_with 141 = .ok (.iload 5, 2) := by decide +kernel
theorem dX12_with_143 : decode cX12_with 143 = .ok (.iconst 1, 1) := by decide +kernel
theorem dX12_with_144 : decode cX12_with 144 = .ok (.iadd, 1) := by decide +kernel
theorem dX12_with_145 : decode cX12_with 145 = .ok (.invokestatic 81, 3) := by decide +kernel
theorem dX12_with_148 : decode cX12_with 148 = .ok (.iastore, 1) := by decide +kernel
theorem dX12_with_149 : decode cX12_with 149 = .ok (.aload_n 0, 1) := by decide +kernel
theorem dX12_with_150 : decode cX12_with 150 = .ok (.getfield 9, 3) := by decide +kernel
theorem dX12_with_153 : decode cX12_with 153 = .ok (.iload_n 1, 1) := by decide +kernel
theorem dX12_with_154 : decode cX12_with 154 = .ok (.iconst 2, 1) := by decide +kernel
theorem dX12_with_155 : decode cX12_with 155 = .ok (.invokestatic 67, 3) := by decide +kernel
theorem dX12_with_158 : decode cX12_with 158 = .ok (.iaload, 1) := by decide +kernel
theorem dX12_with_159 : decode cX12_with 159 = .ok (.ireturn, 1) := by decide +kernel
theorem dX12_within_0 : decode cX12_within 0 = .ok (.iload_n 0, 1) := by decide +kernel
theorem dX12_within_1 : decode cX12_within 1 = .ok (.iload_n 1, 1) := by decide +kernel
theorem dX12_within_2 : decode cX12_within 2 = .ok (.if_icmp .lt 12, 3) := by decide +kernel
theorem dX12_within_5 : decode cX12_within 5 = .ok (.iload_n 0, 1) := by decide +kernel
theorem dX12_within_6 : decode cX12_within 6 = .ok (.iload_n 2, 1) := by decide +kernel
theorem dX12_within_7 : decode cX12_within 7 = .ok (.if_icmp .gt 7, 3) := by decide +kernel
theorem dX12_within_10 : decode cX12_within 10 = .ok (.iconst 1, 1) := by decide +kernel
theorem dX12_within_11 : decode cX12_within 11 = .ok (.goto 4, 3) := by decide +kernel
theorem dX12_within_14 : decode cX12_within 14 = .ok (.iconst 0, 1) := by decide +kernel
theorem dX12_within_15 : decode cX12_within 15 = .ok (.ireturn, 1) := by decide +kernel
theorem dX12_word_0 : decode cX12_word 0 = .ok (.aload_n 0, 1) := by decide +kernel
theorem dX12_word_1 : decode cX12_word 1 = .ok (.getfield 125, 3) := by decide +kernel
theorem dX12_word_4 : decode cX12_word 4 = .ok (.iconst 1, 1) := by decide +kernel
theorem dX12_word_5 : decode cX12_word 5 = .ok (.if_icmp .ne 23, 3) := by decide +kernel
theorem dX12_word_8 : decode cX12_word 8 = .ok (.aload_n 0, 1) := by decide +kernel
theorem dX12_word_9 : decode cX12_word 9 = .ok (.getfield 128, 3) := by decide +kernel
theorem dX12_word_12 : decode cX12_word 12 = .ok (.aload_n 0, 1) := by decide +kernel
theorem dX12_word_13 : decode cX12_word 13 = .ok (.getfield 131, 3) := by decide +kernel
theorem dX12_word_16 : decode cX12_word 16 = .ok (.isub, 1) := by decide +kernel
theorem dX12_word_17 : decode cX12_word 17 = .ok (.aload_n 1, 1) := by decide +kernel
theorem dX12_word_18 : decode cX12_word 18 = .ok (.invokevirtual 147, 3) := by decide +kernel
theorem dX12_word_21 : decode cX12_word 21 = .ok (.if_icmp .ne 7, 3) := by decide +kernel
theorem dX12_word_24 : decode cX12_word 24 = .ok (.iconst 1, 1) := by decide +kernel
theorem dX12_word_25 : decode cX12_word 25 = .ok (.goto 4, 3) := by decide +kernel
theorem dX12_word_28 : decode cX12_word 28 = .ok (.iconst 0, 1) := by decide +kernel
theorem dX12_word_29 : decode cX12_word 29 = .ok (.istore_n 2, 1) := by decide +kernel
theorem dX12_word_30 : decode cX12_word 30 = .ok (.iconst 0, 1) := by decide +kernel
theorem dX12_word_31 : decode cX12_word 31 = .ok (.istore_n 3, 1) := by decide +kernel
theorem dX12_word_32 : decode cX12_word 32 = .ok (.iload_n 2, 1) := by decide +kernel
theorem dX12_word_33 : decode cX12_word 33 = .ok (.ifCond .eq 42, 3) := by decide +kernel
theorem dX12_word_36 : decode cX12_word 36 = .ok (.iload_n 3, 1) := by decide +kernel
theorem dX12_word_37 : decode cX12_word 37 = .ok (.aload_n 1, 1) := by decide +kernel
theorem dX12_word_38 : decode cX12_word 38 = .ok (.invokevirtual 147, 3) := by decide +kernel
theorem dX12_word_41 : decode cX12_word 41 = .ok (.if_icmp .ge 34, 3) := by decide +kernel
theorem dX12_word_44 : decode cX12_word 44 = .ok (.aload_n 0, 1) := by decide +kernel
theorem dX12_word_45 : decode cX12_word 45 = .ok (.getfield 16, 3) := by decide +kernel
theorem dX12_word_48 : decode cX12_word 48 = .ok (.aload_n 0, 1) := by decide +kernel
theorem dX12_word_49 : decode cX12_word 49 = .ok (.getfield 131, 3) := by decide +kernel
theorem dX12_word_52 : decode cX12_word 52 = .ok (.iload_n 3, 1) := by decide +kernel
theorem dX12_word_53 : decode cX12_word 53 = .ok (.iadd, 1) := by decide +kernel
theorem dX12_word_54 : decode cX12_word 54 = .ok (.iaload, 1) := by decide +kernel
theorem dX12_word_55 : decode cX12_word 55 = .ok (.aload_n 1, 1) := by decide +kernel
theorem dX12_word_56 : decode cX12_word 56 = .ok (.iload_n 3, 1) := by decide +kernel
theorem dX12_word_57 : decode cX12_word 57 = .ok (.invokevirtual 153, 3) := by decide +kernel
theorem dX12_word_60 : decode cX12_word 60 = .ok (.if_icmp .ne 7, 3) := by decide +kernel
theorem dX12_word_63 : decode cX12_word 63 = .ok (.iconst 1, 1) := by decide +kernel
theorem dX12_word_64 : decode cX12_word 64 = .ok (.goto 4, 3) := by decide +kernel
theorem dX12_word_67 : decode cX12_word 67 = .ok (.iconst 0, 1) := by decide +kernel
theorem dX12_word_68 : decode cX12_word 68 = .ok (.istore_n 2, 1) := by decide +kernel
theorem dX12_word_69 : decode cX12_word 69 = .ok (.iinc 3 1, 3) := by decide +kernel
theorem dX12_word_72 : decode cX12_word 72 = .ok (.goto (-40), 3) := by decide +kernel
theorem dX12_word_75 : decode cX12_word 75 = .ok (.aload_n 0, 1) := by decide +kernel
theorem dX12_word_76 : decode cX12_word 76 = .ok (.iload_n 2, 1) := by decide +kernel
theorem dX12_word_77 : decode cX12_word 77 = .ok (.invokevirtual 157, 3) := by decide +kernel
theorem dX12_word_80 : decode cX12_word 80 = .ok (.return_, 1) := by decide +kernel
theorem dX12_worked_0 : decode cX12_worked 0 = .ok (.sipush 2028, 3) := by decide +kernel
theorem dX12_worked_3 : decode cX12_worked 3 = .ok (.istore_n 3, 1) := by decide +kernel
theorem dX12_worked_4 : decode cX12_worked 4 = .ok (.iload_n 1, 1) := by decide +kernel
theorem dX12_worked_5 : decode cX12_worked 5 = .ok (.istore 4, 2) := by decide +kernel
theorem dX12_worked_7 : decode cX12_worked 7 = .ok (.iload 4, 2) := by decide +kernel
theorem dX12_worked_9 : decode cX12_worked 9 = .ok (.ifCond .le 30, 3) := by decide +kernel
theorem dX12_worked_12 : decode cX12_worked 12 = .ok (.iload 4, 2) := by decide +kernel
theorem dX12_worked_14 : decode cX12_worked 14 = .ok (.aload_n 0, 1) := by decide +kernel
theorem dX12_worked_15 : decode cX12_worked 15 = .ok (.getfield 9, 3) := by decide +kernel
theorem dX12_worked_18 : decode cX12_worked 18 = .ok (.iload_n 3, 1) := by decide +kernel
theorem dX12_worked_19 : decode cX12_worked 19 = .ok (.iaload, 1) := by decide +kernel
theorem dX12_worked_20 : decode cX12_worked 20 = .ok (.ldc 217, 2) := by decide +kernel
theorem dX12_worked_22 : decode cX12_worked 22 = .ok (.if_icmp .ne 7, 3) := by decide +kernel
theorem dX12_worked_25 : decode cX12_worked 25 = .ok (.iconst 1, 1) := by decide +kernel
theorem dX12_worked_26 : decode cX12_worked 26 = .ok (.goto 4, 3) := by decide +kernel
theorem dX12_worked_29 : decode cX12_worked 29 = .ok (.iconst 0, 1) := by decide +kernel
theorem dX12_worked_30 : decode cX12_worked 30 = .ok (.isub, 1) := by decide +kernel
theorem dX12_worked_31 : decode cX12_worked 31 = .ok (.istore 4, 2) := by decide +kernel
theorem dX12_worked_33 : decode cX12_worked 33 = .ok (.iinc 3 1, 3) := by decide +kernel
theorem dX12_worked_36 : decode cX12_worked 36 = .ok (.goto (-29), 3) := by decide +kernel
theorem dX12_worked_39 : decode cX12_worked 39 = .ok (.iconst 0, 1) := by decide +kernel
theorem dX12_worked_40 : decode cX12_worked 40 = .ok (.istore 5, 2) := by decide +kernel
theorem dX12_worked_42 : decode cX12_worked 42 = .ok (.aload_n 0, 1) := by decide +kernel
theorem dX12_worked_43 : decode cX12_worked 43 = .ok (.getfield 9, 3) := by decide +kernel
theorem dX12_worked_46 : decode cX12_worked 46 = .ok (.iload_n 3, 1) := by decide +kernel
theorem dX12_worked_47 : decode cX12_worked 47 = .ok (.iaload, 1) := by decide +kernel
theorem dX12_worked_48 : decode cX12_worked 48 = .ok (.ldc 217, 2) := by decide +kernel
theorem dX12_worked_50 : decode cX12_worked 50 = .ok (.if_icmp .eq 148, 3) := by decide +kernel
theorem dX12_worked_53 : decode cX12_worked 53 = .ok (.aload_n 0, 1) := by decide +kernel
theorem dX12_worked_54 : decode cX12_worked 54 = .ok (.getfield 9, 3) := by decide +kernel
theorem dX12_worked_57 : decode cX12_worked 57 = .ok (.iload_n 3, 1) := by decide +kernel
theorem dX12_worked_58 : decode cX12_worked 58 = .ok (.iaload, 1) := by decide +kernel
theorem dX12_worked_59 : decode cX12_worked 59 = .ok (.istore 6, 2) := by decide +kernel
theorem dX12_worked_61 : decode cX12_worked 61 = .ok (.iinc 3 1, 3) := by decide +kernel
theorem dX12_worked_64 : decode cX12_worked 64 = .ok (.iload 6, 2) := by decide +kernel
theorem dX12_worked_66 : decode cX12_worked 66 = .ok (.ldc 195, 2) := by decide +kernel
theorem dX12_worked_68 : decode cX12_worked 68 = .ok (.if_icmp .ge 55, 3) := by decide +kernel
theorem dX12_worked_71 : decode cX12_worked 71 = .ok (.aload_n 0, 1) := by decide +kernel
theorem dX12_worked_72 : decode cX12_worked 72 = .ok (.getfield 40, 3) := by decide +kernel
theorem dX12_worked_75 : decode cX12_worked 75 = .ok (.iload 5, 2) := by decide +kernel
theorem dX12_worked_77 : decode cX12_worked 77 = .ok (.iload 6, 2) := by decide +kernel
theorem dX12_worked_79 : decode cX12_worked 79 = .ok (.ldc 178, 2) := by decide +kernel
theorem dX12_worked_81 : decode cX12_worked 81 = .ok (.if_icmp .ge 8, 3) := by decide +kernel
theorem dX12_worked_84 : decode cX12_worked 84 = .ok (.iload 6, 2) := by decide +kernel
theorem dX12_worked_86 : decode cX12_worked 86 = .ok (.goto 30, 3) := by decide +kernel
theorem dX12_worked_89 : decode cX12_worked 89 = .ok (.iload_n 1, 1) := by decide +kernel
theorem dX12_worked_90 : decode cX12_worked 90 = .ok (.ifCond .ne 16, 3) := by decide +kernel
theorem dX12_worked_93 : decode cX12_worked 93 = .ok (.aload_n 0, 1) := by decide +kernel
theorem dX12_worked_94 : decode cX12_worked 94 = .ok (.iload 6, 2) := by decide +kernel
theorem dX12_worked_96 : decode cX12_worked 96 = .ok (.ldc 178, 2) := by decide +kernel
theorem dX12_worked_98 : decode cX12_worked 98 = .ok (.isub, 1) := by decide +kernel
theorem dX12_worked_99 : decode cX12_worked 99 = .ok (.iload_n 2, 1) := by decide +kernel
theorem dX12_worked_100 : decode cX12_worked 100 = .ok (.invokevirtual 222, 3) := by decide +kernel
theorem dX12_worked_103 : decode cX12_worked 103 = .ok (.goto 13, 3) := by decide +kernel
theorem dX12_worked_106 : decode cX12_worked 106 = .ok (.aload_n 0, 1) := by decide +kernel
theorem dX12_worked_107 : decode cX12_worked 107 = .ok (.iload 6, 2) := by decide +kernel
theorem dX12_worked_109 : decode cX12_worked 109 = .ok (.ldc 178, 2) := by decide +kernel
theorem dX12_worked_111 : decode cX12_worked 111 = .ok (.isub, 1) := by decide +kernel
theorem dX12_worked_112 : decode cX12_worked 112 = .ok (.iload_n 2, 1) := by decide +kernel
theorem dX12_worked_113 : decode cX12_worked 113 = .ok (.invokevirtual 225, 3) := by decide +kernel
theorem dX12_worked_116 : decode cX12_worked 116 = .ok (.iastore, 1) := by decide +kernel
theorem dX12_worked_117 : decode cX12_worked 117 = .ok (.iinc 5 1, 3) := by decide +kernel
theorem dX12_worked_120 : decode cX12_worked 120 = .ok (.goto 75, 3) := by decide +kernel
theorem dX12_worked_123 : decode cX12_worked 123 = .ok (.iload 6, 2) := by decide +kernel
theorem dX12_worked_125 : decode cX12_worked 125 = .ok (.ldc 185, 2) := by decide +kernel
theorem dX12_worked_127 : decode cX12_worked 127 = .ok (.if_icmp .ne 32, 3) := by decide +kernel
theorem dX12_worked_130 : decode cX12_worked 130 = .ok (.aload_n 0, 1) := by decide +kernel
theorem dX12_worked_131 : decode cX12_worked 131 = .ok (.getfield 40, 3) := by decide +kernel
theorem dX12_worked_134 : decode cX12_worked 134 = .ok (.iload 5, 2) := by decide +kernel
theorem dX12_worked_136 : decode cX12_worked 136 = .ok (.iconst 1, 1) := by decide +kernel
theorem dX12_worked_137 : decode cX12_worked 137 = .ok (.isub, 1) := by decide +kernel
theorem dX12_worked_138 : decode cX12_worked 138 = .ok (.aload_n 0, 1) := by decide +kernel
theorem dX12_worked_139 : decode cX12_worked 139 = .ok (.getfield 40, 3) := by decide +kernel
theorem dX12_worked_142 : decode cX12_worked 142 = .ok (.iload 5, 2) := by decide +kernel
theorem dX12_worked_144 : decode cX12_worked 144 = .ok (.iconst 1, 1) := by decide +kernel
theorem dX12_worked_145 : decode cX12_worked 145 = .ok (.isub, 1) := by decide +kernel
theorem dX12_worked_146 : decode cX12_worked 146 = .ok (.iaload, 1) := by decide +kernel
theorem dX12_worked_147 : decode cX12_worked 147 = .ok (.ifCond .ne 7, 3) := by decide +kernel
theorem dX12_worked_150 : decode cX12_worked 150 = .ok (.iconst 1, 1) := by decide +kernel
theorem dX12_worked_151 : decode cX12_worked 151 = .ok (.goto 4, 3) := by decide +kernel
theorem dX12_worked_154 : decode cX12_worked 154 = .ok (.iconst 0, 1) := by decide +kernel
theorem dX12_worked_155 : decode cX12_worked 155 = .ok (.iastore, 1) := by decide +kernel
theorem dX12_worked_156 : decode cX12_worked 156 = .ok (.goto 39, 3) := by decide +kernel
theorem dX12_worked_159 : decode cX12_worked 159 = .ok (.iinc 5 (-1), 3) := by decide +kernel
theorem dX12_worked_162 : decode cX12_worked 162 = .ok (.aload_n 0, 1) := by decide +kernel
theorem dX12_worked_163 : decode cX12_worked 163 = .ok (.getfield 40, 3) := by decide +kernel
theorem dX12_worked_166 : decode cX12_worked 166 = .ok (.iload 5, 2) := by decide +kernel
theorem dX12_worked_168 : decode cX12_worked 168 = .ok (.iconst 1, 1) := by decide +kernel
theorem dX12_worked_169 : decode cX12_worked 169 = .ok (.isub, 1) := by decide +kernel
theorem dX12_worked_170 : decode cX12_worked 170 = .ok (.iload 6, 2) := by decide +kernel
theorem dX12_worked_172 : decode cX12_worked 172 = .ok (.ldc 195, 2) := by decide +kernel
theorem dX12_worked_174 : decode cX12_worked 174 = .ok (.isub, 1) := by decide +kernel
theorem dX12_worked_175 : decode cX12_worked 175 = .ok (.aload_n 0, 1) := by decide +kernel
theorem dX12_worked_176 : decode cX12_worked 176 = .ok (.getfield 40, 3) := by decide +kernel
theorem dX12_worked_179 : decode cX12_worked 179 = .ok (.iload 5, 2) := by decide +kernel
theorem dX12_worked_181 : decode cX12_worked 181 = .ok (.iconst 1, 1) := by decide +kernel
theorem dX12_worked_182 : decode cX12_worked 182 = .ok (.isub, 1) := by decide +kernel
theorem dX12_worked_183 : decode cX12_worked 183 = .ok (.iaload, 1) := by decide +kernel
theorem dX12_worked_184 : decode cX12_worked 184 = .ok (.aload_n 0, 1) := by decide +kernel
theorem dX12_worked_185 : decode cX12_worked 185 = .ok (.getfield 40, 3) := by decide +kernel
theorem dX12_worked_188 : decode cX12_worked 188 = .ok (.iload 5, 2) := by decide +kernel
theorem dX12_worked_190 : decode cX12_worked 190 = .ok (.iaload, 1) := by decide +kernel
theorem dX12_worked_191 : decode cX12_worked 191 = .ok (.invokestatic 228, 3) := by decide +kernel
theorem dX12_worked_194 : decode cX12_worked 194 = .ok (.iastore, 1) := by decide +kernel
theorem dX12_worked_195 : decode cX12_worked 195 = .ok (.goto (-153), 3) := by decide +kernel
theorem dX12_worked_198 : decode cX12_worked 198 = .ok (.aload_n 0, 1) := by decide +kernel
theorem dX12_worked_199 : decode cX12_worked 199 = .ok (.getfield 40, 3) := by decide +kernel
theorem dX12_worked_202 : decode cX12_worked 202 = .ok (.iconst 0, 1) := by decide +kernel
theorem dX12_worked_203 : decode cX12_worked 203 = .ok (.iaload, 1) := by decide +kernel
theorem dX12_worked_204 : decode cX12_worked 204 = .ok (.ireturn, 1) := by decide +kernel
theorem dX1_allergensOf_0 : decode cX1_allergensOf 0 = .ok (.iconst 0, 1) := by decide +kernel
theorem dX1_allergensOf_1 : decode cX1_allergensOf 1 = .ok (.istore_n 2, 1) := by decide +kernel
theorem dX1_allergensOf_2 : decode cX1_allergensOf 2 = .ok (.iconst 0, 1) := by decide +kernel
theorem dX1_allergensOf_3 : decode cX1_allergensOf 3 = .ok (.istore_n 3, 1) := by decide +kernel
theorem dX1_allergensOf_4 : decode cX1_allergensOf 4 = .ok (.iload_n 3, 1) := by decide +kernel
theorem dX1_allergensOf_5 : decode cX1_allergensOf 5 = .ok (.aload_n 0, 1) := by decide +kernel
theorem dX1_allergensOf_6 : decode cX1_allergensOf 6 = .ok (.getfield 12, 3) := by decide +kernel
theorem dX1_allergensOf_9 : decode cX1_allergensOf 9 = .ok (.getfield 76, 3) := by decide +kernel
theorem dX1_allergensOf_12 : decode cX1_allergensOf 12 = .ok (.if_icmp .ge 35, 3) := by decide +kernel
theorem dX1_allergensOf_15 : decode cX1_allergensOf 15 = .ok (.aload_n 0, 1) := by decide +kernel
theorem dX1_allergensOf_16 : decode cX1_allergensOf 16 = .ok (.getfield 21, 3) := by decide +kernel
theorem dX1_allergensOf_19 : decode cX1_allergensOf 19 = .ok (.getfield 79, 3) := by decide +kernel
theorem dX1_allergensOf_22 : decode cX1_allergensOf 22 = .ok (.iload_n 1, 1) := by decide +kernel
theorem dX1_allergensOf_23 : decode cX1_allergensOf 23 = .ok (.aaload, 1) := by decide +kernel
theorem dX1_allergensOf_24 : decode cX1_allergensOf 24 = .ok (.iload_n 3, 1) := by decide +kernel
theorem dX1_allergensOf_25 : decode cX1_allergensOf 25 = .ok (.iaload, 1) := by decide +kernel
theorem dX1_allergensOf_26 : decode cX1_allergensOf 26 = .ok (.ifCond .le 15, 3) := by decide +kernel
theorem dX1_allergensOf_29 : decode cX1_allergensOf 29 = .ok (.iload_n 2, 1) := by decide +kernel
theorem dX1_allergensOf_30 : decode cX1_allergensOf 30 = .ok (.aload_n 0, 1) := by decide +kernel
theorem dX1_allergensOf_31 : decode cX1_allergensOf 31 = .ok (.getfield 12, 3) := by decide +kernel
theorem dX1_allergensOf_34 : decode cX1_allergensOf 34 = .ok (.getfield 83, 3) := by decide +kernel
theorem dX1_allergensOf_37 : decode cX1_allergensOf 37 = .ok (.iload_n 3, 1) := by decide +kernel
theorem dX1_allergensOf_38 : decode cX1_allergensOf 38 = .ok (.iaload, 1) := by decide +kernel
theorem dX1_allergensOf_39 : decode cX1_allergensOf 39 = .ok (.ior, 1) := by decide +kernel
theorem dX1_allergensOf_40 : decode cX1_allergensOf 40 = .ok (.istore_n 2, 1) := by decide +kernel
theorem dX1_allergensOf_41 : decode cX1_allergensOf 41 = .ok (.iinc 3 1, 3) := by decide +kernel
theorem dX1_allergensOf_44 : decode cX1_allergensOf 44 = .ok (.goto (-40), 3) := by decide +kernel
theorem dX1_allergensOf_47 : decode cX1_allergensOf 47 = .ok (.iload_n 2, 1) := by decide +kernel
theorem dX1_allergensOf_48 : decode cX1_allergensOf 48 = .ok (.ireturn, 1) := by decide +kernel
theorem dX1_boxToday_0 : decode cX1_boxToday 0 = .ok (.aload_n 0, 1) := by decide +kernel
theorem dX1_boxToday_1 : decode cX1_boxToday 1 = .ok (.getfield 72, 3) := by decide +kernel
theorem dX1_boxToday_4 : decode cX1_boxToday 4 = .ok (.ifCond .eq 18, 3) := by decide +kernel
theorem dX1_boxToday_7 : decode cX1_boxToday 7 = .ok (.aload_n 0, 1) := by decide +kernel
theorem dX1_boxToday_8 : decode cX1_boxToday 8 = .ok (.getfield 28, 3) := by decide +kernel
theorem dX1_boxToday_11 : decode cX1_boxToday 11 = .ok (.getfield 138, 3) := by decide +kernel
theorem dX1_boxToday_14 : decode cX1_boxToday 14 = .ok (.iload_n 1, 1) := by decide +kernel
theorem dX1_boxToday_15 : decode cX1_boxToday 15 = .ok (.aaload, 1) := by decide +kernel
theorem dX1_boxToday_16 : decode cX1_boxToday 16 = .ok (.aload_n 0, 1) := by decide +kernel
theorem dX1_boxToday_17 : decode cX1_boxToday 17 = .ok (.getfield 66, 3) := by decide +kernel
theorem dX1_boxToday_20 : decode cX1_boxToday 20 = .ok (.iaload, 1) := by decide +kernel
theorem dX1_boxToday_21 : decode cX1_boxToday 21 = .ok (.ireturn, 1) := by decide +kernel
theorem dX1_boxToday_22 : decode cX1_boxToday 22 = .ok (.aload_n 0, 1) := by decide +kernel
theorem dX1_boxToday_23 : decode cX1_boxToday 23 = .ok (.getfield 28, 3) := by decide +kernel
theorem dX1_boxToday_26 : decode cX1_boxToday 26 = .ok (.getfield 141, 3) := by decide +kernel
theorem dX1_boxToday_29 : decode cX1_boxToday 29 = .ok (.iload_n 1, 1) := by decide +kernel
theorem dX1_boxToday_30 : decode cX1_boxToday 30 = .ok (.iaload, 1) := by decide +kernel
theorem dX1_boxToday_31 : decode cX1_boxToday 31 = .ok (.istore_n 2, 1) := by decide +kernel
theorem dX1_boxToday_32 : decode cX1_boxToday 32 = .ok (.iload_n 2, 1) := by decide +kernel
theorem dX1_boxToday_33 : decode cX1_boxToday 33 = .ok (.iconst (-1), 1) := by decide +kernel
theorem dX1_boxToday_34 : decode cX1_boxToday 34 = .ok (.if_icmp .ne 5, 3) := by decide +kernel
theorem dX1_boxToday_37 : decode cX1_boxToday 37 = .ok (.iconst 0, 1) := by decide +kernel
theorem dX1_boxToday_38 : decode cX1_boxToday 38 = .ok (.ireturn, 1) := by decide +kernel
theorem dX1_boxToday_39 : decode cX1_boxToday 39 = .ok (.iload_n 2, 1) := by decide +kernel
theorem dX1_boxToday_40 : decode cX1_boxToday 40 = .ok (.istore_n 3, 1) := by decide +kernel
theorem dX1_boxToday_41 : decode cX1_boxToday 41 = .ok (.iload_n 2, 1) := by decide +kernel
theorem dX1_boxToday_42 : decode cX1_boxToday 42 = .ok (.invokestatic 106, 3) := by decide +kernel
theorem dX1_boxToday_45 : decode cX1_boxToday 45 = .ok (.istore 4, 2) := by decide +kernel
theorem dX1_boxToday_47 : decode cX1_boxToday 47 = .ok (.iload 4, 2) := by decide +kernel
theorem dX1_boxToday_49 : decode cX1_boxToday 49 = .ok (.iconst 2, 1) := by decide +kernel
theorem dX1_boxToday_50 : decode cX1_boxToday 50 = .ok (.if_icmp .ge 18, 3) := by decide +kernel
theorem dX1_boxToday_53 : decode cX1_boxToday 53 = .ok (.iload_n 3, 1) := by decide +kernel
theorem dX1_boxToday_54 : decode cX1_boxToday 54 = .ok (.aload_n 0, 1) := by decide +kernel
theorem dX1_boxToday_55 : decode cX1_boxToday 55 = .ok (.iload_n 1, 1) := by decide +kernel
theorem dX1_boxToday_56 : decode cX1_boxToday 56 = .ok (.iload_n 3, 1) := by decide +kernel
theorem dX1_boxToday_57 : decode cX1_boxToday 57 = .ok (.invokevirtual 144, 3) := by decide +kernel
theorem dX1_boxToday_60 : decode cX1_boxToday 60 = .ok (.ior, 1) := by decide +kernel
theorem dX1_boxToday_61 : decode cX1_boxToday 61 = .ok (.istore_n 3, 1) := by decide +kernel
theorem dX1_boxToday_62 : decode cX1_boxToday 62 = .ok (.iinc 4 1, 3) := by decide +kernel
theorem dX1_boxToday_65 : decode cX1_boxToday 65 = .ok (.goto (-18), 3) := by decide +kernel
theorem dX1_boxToday_68 : decode cX1_boxToday 68 = .ok (.iload_n 3, 1) := by decide +kernel
theorem dX1_boxToday_69 : decode cX1_boxToday 69 = .ok (.ireturn, 1) := by decide +kernel
theorem dX1_costOf_0 : decode cX1_costOf 0 = .ok (.iconst 0, 1) := by decide +kernel
theorem dX1_costOf_1 : decode cX1_costOf 1 = .ok (.istore_n 2, 1) := by decide +kernel
theorem dX1_costOf_2 : decode cX1_costOf 2 = .ok (.iconst 0, 1) := by decide +kernel
theorem dX1_costOf_3 : decode cX1_costOf 3 = .ok (.istore_n 3, 1) := by decide +kernel
theorem dX1_costOf_4 : decode cX1_costOf 4 = .ok (.iload_n 3, 1) := by decide +kernel
theorem dX1_costOf_5 : decode cX1_costOf 5 = .ok (.aload_n 0, 1) := by decide +kernel
theorem dX1_costOf_6 : decode cX1_costOf 6 = .ok (.getfield 12, 3) := by decide +kernel
theorem dX1_costOf_9 : decode cX1_costOf 9 = .ok (.getfield 76, 3) := by decide +kernel
theorem dX1_costOf_12 : decode cX1_costOf 12 = .ok (.if_icmp .ge 36, 3) := by decide +kernel
theorem dX1_costOf_15 : decode cX1_costOf 15 = .ok (.iload_n 2, 1) := by decide +kernel
theorem dX1_costOf_16 : decode cX1_costOf 16 = .ok (.aload_n 0, 1) := by decide +kernel
theorem dX1_costOf_17 : decode cX1_costOf 17 = .ok (.getfield 21, 3) := by decide +kernel
theorem dX1_costOf_20 : decode cX1_costOf 20 = .ok (.getfield 79, 3) := by decide +kernel
theorem dX1_costOf_23 : decode cX1_costOf 23 = .ok (.iload_n 1, 1) := by decide +kernel
theorem dX1_costOf_24 : decode cX1_costOf 24 = .ok (.aaload, 1) := by decide +kernel
theorem dX1_costOf_25 : decode cX1_costOf 25 = .ok (.iload_n 3, 1) := by decide +kernel
theorem dX1_costOf_26 : decode cX1_costOf 26 = .ok (.iaload, 1) := by decide +kernel
theorem dX1_costOf_27 : decode cX1_costOf 27 = .ok (.aload_n 0, 1) := by decide +kernel
theorem dX1_costOf_28 : decode cX1_costOf 28 = .ok (.getfield 12, 3) := by decide +kernel
theorem dX1_costOf_31 : decode cX1_costOf 31 = .ok (.getfield 87, 3) := by decide +kernel
theorem dX1_costOf_34 : decode cX1_costOf 34 = .ok (.iload_n 3, 1) := by decide +kernel
theorem dX1_costOf_35 : decode cX1_costOf 35 = .ok (.iaload, 1) := by decide +kernel
theorem dX1_costOf_36 : decode cX1_costOf 36 = .ok (.imul, 1) := by decide +kernel
theorem dX1_costOf_37 : decode cX1_costOf 37 = .ok (.bipush 100, 2) := by decide +kernel
theorem dX1_costOf_39 : decode cX1_costOf 39 = .ok (.idiv, 1) := by decide +kernel
theorem dX1_costOf_40 : decode cX1_costOf 40 = .ok (.iadd, 1) := by decide +kernel
theorem dX1_costOf_41 : decode cX1_costOf 41 = .ok (.istore_n 2, 1) := by decide +kernel
theorem dX1_costOf_42 : decode cX1_costOf 42 = .ok (.iinc 3 1, 3) := by decide +kernel
theorem dX1_costOf_45 : decode cX1_costOf 45 = .ok (.goto (-41), 3) := by decide +kernel
theorem dX1_costOf_48 : decode cX1_costOf 48 = .ok (.iload_n 2, 1) := by decide +kernel
theorem dX1_costOf_49 : decode cX1_costOf 49 = .ok (.ireturn, 1) := by decide +kernel
theorem dX1_endWeek_0 : decode cX1_endWeek 0 = .ok (.iconst 0, 1) := by decide +kernel
theorem dX1_endWeek_1 : decode cX1_endWeek 1 = .ok (.istore_n 1, 1) := by decide +kernel
theorem dX1_endWeek_2 : decode cX1_endWeek 2 = .ok (.iload_n 1, 1) := by decide +kernel
theorem dX1_endWeek_3 : decode cX1_endWeek 3 = .ok (.aload_n 0, 1) := by decide +kernel
theorem dX1_endWeek_4 : decode cX1_endWeek 4 = .ok (.getfield 35, 3) := by decide +kernel
theorem dX1_endWeek_7 : decode cX1_endWeek 7 = .ok (.getfield 176, 3) := by decide +kernel
theorem dX1_endWeek_10 : decode cX1_endWeek 10 = .ok (.if_icmp .ge 51, 3) := by decide +kernel
theorem dX1_endWeek_13 : decode cX1_endWeek 13 = .ok (.aload_n 0, 1) := by decide +kernel
theorem dX1_endWeek_14 : decode cX1_endWeek 14 = .ok (.getfield 35, 3) := by decide +kernel
theorem dX1_endWeek_17 : decode cX1_endWeek 17 = .ok (.getfield 177, 3) := by decide +kernel
theorem dX1_endWeek_20 : decode cX1_endWeek 20 = .ok (.iload_n 1, 1) := by decide +kernel
theorem dX1_endWeek_21 : decode cX1_endWeek 21 = .ok (.iaload, 1) := by decide +kernel
theorem dX1_endWeek_22 : decode cX1_endWeek 22 = .ok (.aload_n 0, 1) := by decide +kernel
theorem dX1_endWeek_23 : decode cX1_endWeek 23 = .ok (.getfield 12, 3) := by decide +kernel
theorem dX1_endWeek_26 : decode cX1_endWeek 26 = .ok (.getfield 180, 3) := by decide +kernel
theorem dX1_endWeek_29 : decode cX1_endWeek 29 = .ok (.aload_n 0, 1) := by decide +kernel
theorem dX1_endWeek_30 : decode cX1_endWeek 30 = .ok (.getfield 35, 3) := by decide +kernel
theorem dX1_endWeek_33 : decode cX1_endWeek 33 = .ok (.getfield 183, 3) := by decide +kernel
theorem dX1_endWeek_36 : decode cX1_endWeek 36 = .ok (.iload_n 1, 1) := by decide +kernel
theorem dX1_endWeek_37 : decode cX1_endWeek 37 = .ok (.iaload, 1) := by decide +kernel
theorem dX1_endWeek_38 : decode cX1_endWeek 38 = .ok (.iaload, 1) := by decide +kernel
theorem dX1_endWeek_39 : decode cX1_endWeek 39 = .ok (.iadd, 1) := by decide +kernel
theorem dX1_endWeek_40 : decode cX1_endWeek 40 = .ok (.aload_n 0, 1) := by decide +kernel
theorem dX1_endWeek_41 : decode cX1_endWeek 41 = .ok (.getfield 66, 3) := by decide +kernel
theorem dX1_endWeek_44 : decode cX1_endWeek 44 = .ok (.if_icmp .gt 11, 3) := by decide +kernel
theorem dX1_endWeek_47 : decode cX1_endWeek 47 = .ok (.aload_n 0, 1) := by decide +kernel
theorem dX1_endWeek_48 : decode cX1_endWeek 48 = .ok (.getfield 35, 3) := by decide +kernel
theorem dX1_endWeek_51 : decode cX1_endWeek 51 = .ok (.iload_n 1, 1) := by decide +kernel
theorem dX1_endWeek_52 : decode cX1_endWeek 52 = .ok (.invokevirtual 186, 3) := by decide +kernel
theorem dX1_endWeek_55 : decode cX1_endWeek 55 = .ok (.iinc 1 1, 3) := by decide +kernel
theorem dX1_endWeek_58 : decode cX1_endWeek 58 = .ok (.goto (-56), 3) := by decide +kernel
theorem dX1_endWeek_61 : decode cX1_endWeek 61 = .ok (.aload_n 0, 1) := by decide +kernel
theorem dX1_endWeek_62 : decode cX1_endWeek 62 = .ok (.dup, 1) := by decide +kernel
theorem dX1_endWeek_63 : decode cX1_endWeek 63 = .ok (.getfield 66, 3) := by decide +kernel
theorem dX1_endWeek_66 : decode cX1_endWeek 66 = .ok (.iconst 1, 1) := by decide +kernel
theorem dX1_endWeek_67 : decode cX1_endWeek 67 = .ok (.iadd, 1) := by decide +kernel
theorem dX1_endWeek_68 : decode cX1_endWeek 68 = .ok (.putfield 66, 3) := by decide +kernel
theorem dX1_endWeek_71 : decode cX1_endWeek 71 = .ok (.aload_n 0, 1) := by decide +kernel
theorem dX1_endWeek_72 : decode cX1_endWeek 72 = .ok (.iconst 0, 1) := by decide +kernel
theorem dX1_endWeek_73 : decode cX1_endWeek 73 = .ok (.putfield 69, 3) := by decide +kernel
theorem dX1_endWeek_76 : decode cX1_endWeek 76 = .ok (.aload_n 0, 1) := by decide +kernel
theorem dX1_endWeek_77 : decode cX1_endWeek 77 = .ok (.iconst 0, 1) := by decide +kernel
theorem dX1_endWeek_78 : decode cX1_endWeek 78 = .ok (.putfield 72, 3) := by decide +kernel
theorem dX1_endWeek_81 : decode cX1_endWeek 81 = .ok (.aload_n 0, 1) := by decide +kernel
theorem dX1_endWeek_82 : decode cX1_endWeek 82 = .ok (.getfield 28, 3) := by decide +kernel
theorem dX1_endWeek_85 : decode cX1_endWeek 85 = .ok (.getfield 141, 3) := by decide +kernel
theorem dX1_endWeek_88 : decode cX1_endWeek 88 = .ok (.iconst 0, 1) := by decide +kernel
theorem dX1_endWeek_89 : decode cX1_endWeek 89 = .ok (.invokestatic 190, 3) := by decide +kernel
theorem dX1_endWeek_92 : decode cX1_endWeek 92 = .ok (.return_, 1) := by decide +kernel
theorem dX1_freezeBoxes_0 : decode cX1_freezeBoxes 0 = .ok (.iconst 0, 1) := by decide +kernel
theorem dX1_freezeBoxes_1 : decode cX1_freezeBoxes 1 = .ok (.istore_n 1, 1) := by decide +kernel
theorem dX1_freezeBoxes_2 : decode cX1_freezeBoxes 2 = .ok (.iload_n 1, 1) := by decide +kernel
theorem dX1_freezeBoxes_3 : decode cX1_freezeBoxes 3 = .ok (.aload_n 0, 1) := by decide +kernel
theorem dX1_freezeBoxes_4 : decode cX1_freezeBoxes 4 = .ok (.getfield 28, 3) := by decide +kernel
theorem dX1_freezeBoxes_7 : decode cX1_freezeBoxes 7 = .ok (.getfield 171, 3) := by decide +kernel
theorem dX1_freezeBoxes_10 : decode cX1_freezeBoxes 10 = .ok (.if_icmp .ge 28, 3) := by decide +kernel
theorem dX1_freezeBoxes_13 : decode cX1_freezeBoxes 13 = .ok (.aload_n 0, 1) := by decide +kernel
theorem dX1_freezeBoxes_14 : decode cX1_freezeBoxes 14 = .ok (.getfield 28, 3) := by decide +kernel
theorem dX1_freezeBoxes_17 : decode cX1_freezeBoxes 17 = .ok (.getfield 138, 3) := by decide +kernel
theorem dX1_freezeBoxes_20 : decode cX1_freezeBoxes 20 = .ok (.iload_n 1, 1) := by decide +kernel
theorem dX1_freezeBoxes_21 : decode cX1_freezeBoxes 21 = .ok (.aaload, 1) := by decide +kernel
theorem dX1_freezeBoxes_22 : decode cX1_freezeBoxes 22 = .ok (.aload_n 0, 1) := by decide +kernel
theorem dX1_freezeBoxes_23 : decode cX1_freezeBoxes 23 = .ok (.getfield 66, 3) := by decide +kernel
theorem dX1_freezeBoxes_26 : decode cX1_freezeBoxes 26 = .ok (.aload_n 0, 1) := by decide +kernel
theorem dX1_freezeBoxes_27 : decode cX1_freezeBoxes 27 = .ok (.iload_n 1, 1) := by decide +kernel
theorem dX1_freezeBoxes_28 : decode cX1_freezeBoxes 28 = .ok (.invokevirtual 151, 3) := by decide +kernel
theorem dX1_freezeBoxes_31 : decode cX1_freezeBoxes 31 = .ok (.iastore, 1) := by decide +kernel
theorem dX1_freezeBoxes_32 : decode cX1_freezeBoxes 32 = .ok (.iinc 1 1, 3) := by decide +kernel
theorem dX1_freezeBoxes_35 : decode cX1_freezeBoxes 35 = .ok (.goto (-33), 3) := by decide +kernel
theorem dX1_freezeBoxes_38 : decode cX1_freezeBoxes 38 = .ok (.aload_n 0, 1) := by decide +kernel
theorem dX1_freezeBoxes_39 : decode cX1_freezeBoxes 39 = .ok (.iconst 1, 1) := by decide +kernel
theorem dX1_freezeBoxes_40 : decode cX1_freezeBoxes 40 = .ok (.putfield 72, 3) := by decide +kernel
theorem dX1_freezeBoxes_43 : decode cX1_freezeBoxes 43 = .ok (.return_, 1) := by decide +kernel
theorem dX1_guess_0 : decode cX1_guess 0 = .ok (.aload_n 0, 1) := by decide +kernel
theorem dX1_guess_1 : decode cX1_guess 1 = .ok (.getfield 66, 3) := by decide +kernel
theorem dX1_guess_4 : decode cX1_guess 4 = .ok (.ifCond .le 22, 3) := by decide +kernel
theorem dX1_guess_7 : decode cX1_guess 7 = .ok (.aload_n 0, 1) := by decide +kernel
theorem dX1_guess_8 : decode cX1_guess 8 = .ok (.getfield 28, 3) := by decide +kernel
theorem dX1_guess_11 : decode cX1_guess 11 = .ok (.getfield 138, 3) := by decide +kernel
theorem dX1_guess_14 : decode cX1_guess 14 = .ok (.iload_n 1, 1) := by decide +kernel
theorem dX1_guess_15 : decode cX1_guess 15 = .ok (.aaload, 1) := by decide +kernel
theorem dX1_guess_16 : decode cX1_guess 16 = .ok (.aload_n 0, 1) := by decide +kernel
theorem dX1_guess_17 : decode cX1_guess 17 = .ok (.getfield 66, 3) := by decide +kernel
theorem dX1_guess_20 : decode cX1_guess 20 = .ok (.iconst 1, 1) := by decide +kernel
theorem dX1_guess_21 : decode cX1_guess 21 = .ok (.isub, 1) := by decide +kernel
theorem dX1_guess_22 : decode cX1_guess 22 = .ok (.iaload, 1) := by decide +kernel
theorem dX1_guess_23 : decode cX1_guess 23 = .ok (.goto 4, 3) := by decide +kernel
theorem dX1_guess_26 : decode cX1_guess 26 = .ok (.iconst 0, 1) := by decide +kernel
theorem dX1_guess_27 : decode cX1_guess 27 = .ok (.istore_n 3, 1) := by decide +kernel
theorem dX1_guess_28 : decode cX1_guess 28 = .ok (.iconst (-1), 1) := by decide +kernel
theorem dX1_guess_29 : decode cX1_guess 29 = .ok (.istore 4, 2) := by decide +kernel
theorem dX1_guess_31 : decode cX1_guess 31 = .ok (.iconst 0, 1) := by decide +kernel
theorem dX1_guess_32 : decode cX1_guess 32 = .ok (.istore 5, 2) := by decide +kernel
theorem dX1_guess_34 : decode cX1_guess 34 = .ok (.iconst 0, 1) := by decide +kernel
theorem dX1_guess_35 : decode cX1_guess 35 = .ok (.istore 6, 2) := by decide +kernel
theorem dX1_guess_37 : decode cX1_guess 37 = .ok (.iload 6, 2) := by decide +kernel
theorem dX1_guess_39 : decode cX1_guess 39 = .ok (.aload_n 0, 1) := by decide +kernel
theorem dX1_guess_40 : decode cX1_guess 40 = .ok (.getfield 21, 3) := by decide +kernel
theorem dX1_guess_43 : decode cX1_guess 43 = .ok (.getfield 131, 3) := by decide +kernel
theorem dX1_guess_46 : decode cX1_guess 46 = .ok (.if_icmp .ge 85, 3) := by decide +kernel
theorem dX1_guess_49 : decode cX1_guess 49 = .ok (.aload_n 0, 1) := by decide +kernel
theorem dX1_guess_50 : decode cX1_guess 50 = .ok (.getfield 69, 3) := by decide +kernel
theorem dX1_guess_53 : decode cX1_guess 53 = .ok (.iload_n 2, 1) := by decide +kernel
theorem dX1_guess_54 : decode cX1_guess 54 = .ok (.iconst (-1), 1) := by decide +kernel
theorem dX1_guess_55 : decode cX1_guess 55 = .ok (.ixor, 1) := by decide +kernel
theorem dX1_guess_56 : decode cX1_guess 56 = .ok (.iand, 1) := by decide +kernel
theorem dX1_guess_57 : decode cX1_guess 57 = .ok (.iload 6, 2) := by decide +kernel
theorem dX1_guess_59 : decode cX1_guess 59 = .ok (.invokestatic 132, 3) := by decide +kernel
theorem dX1_guess_62 : decode cX1_guess 62 = .ok (.ifCond .eq 63, 3) := by decide +kernel
theorem dX1_guess_65 : decode cX1_guess 65 = .ok (.aload_n 0, 1) := by decide +kernel
theorem dX1_guess_66 : decode cX1_guess 66 = .ok (.iload_n 1, 1) := by decide +kernel
theorem dX1_guess_67 : decode cX1_guess 67 = .ok (.iload 6, 2) := by decide +kernel
theorem dX1_guess_69 : decode cX1_guess 69 = .ok (.invokevirtual 135, 3) := by decide +kernel
theorem dX1_guess_72 : decode cX1_guess 72 = .ok (.ifCond .ne 6, 3) := by decide +kernel
theorem dX1_guess_75 : decode cX1_guess 75 = .ok (.goto 50, 3) := by decide +kernel
theorem dX1_guess_78 : decode cX1_guess 78 = .ok (.aload_n 0, 1) := by decide +kernel
theorem dX1_guess_79 : decode cX1_guess 79 = .ok (.getfield 28, 3) := by decide +kernel
theorem dX1_guess_82 : decode cX1_guess 82 = .ok (.getfield 148, 3) := by decide +kernel
theorem dX1_guess_85 : decode cX1_guess 85 = .ok (.iload_n 1, 1) := by decide +kernel
theorem dX1_guess_86 : decode cX1_guess 86 = .ok (.aaload, 1) := by decide +kernel
theorem dX1_guess_87 : decode cX1_guess 87 = .ok (.iload 6, 2) := by decide +kernel
theorem dX1_guess_89 : decode cX1_guess 89 = .ok (.iaload, 1) := by decide +kernel
theorem dX1_guess_90 : decode cX1_guess 90 = .ok (.iload_n 3, 1) := by decide +kernel
theorem dX1_guess_91 : decode cX1_guess 91 = .ok (.iload 6, 2) := by decide +kernel
theorem dX1_guess_93 : decode cX1_guess 93 = .ok (.invokestatic 132, 3) := by decide +kernel
theorem dX1_guess_96 : decode cX1_guess 96 = .ok (.ifCond .eq 7, 3) := by decide +kernel
theorem dX1_guess_99 : decode cX1_guess 99 = .ok (.iconst 0, 1) := by decide +kernel
theorem dX1_guess_100 : decode cX1_guess 100 = .ok (.goto 5, 3) := by decide +kernel
theorem dX1_guess_103 : decode cX1_guess 103 = .ok (.bipush 10, 2) := by decide +kernel
theorem dX1_guess_105 : decode cX1_guess 105 = .ok (.iadd, 1) := by decide +kernel
theorem dX1_guess_106 : decode cX1_guess 106 = .ok (.istore 7, 2) := by decide +kernel
theorem dX1_guess_108 : decode cX1_guess 108 = .ok (.iload 7, 2) := by decide +kernel
theorem dX1_guess_110 : decode cX1_guess 110 = .ok (.iload 4, 2) := by decide +kernel
theorem dX1_guess_112 : decode cX1_guess 112 = .ok (.if_icmp .le 13, 3) := by decide +kernel
theorem dX1_guess_115 : decode cX1_guess 115 = .ok (.iload 7, 2) := by decide +kernel
theorem dX1_guess_117 : decode cX1_guess 117 = .ok (.istore 4, 2) := by decide +kernel
theorem dX1_guess_119 : decode cX1_guess 119 = .ok (.iconst 1, 1) := by decide +kernel
theorem dX1_guess_120 : decode cX1_guess 120 = .ok (.iload 6, 2) := by decide +kernel
theorem dX1_guess_122 : decode cX1_guess 122 = .ok (.ishl, 1) := by decide +kernel
theorem dX1_guess_123 : decode cX1_guess 123 = .ok (.istore 5, 2) := by decide +kernel
theorem dX1_guess_125 : decode cX1_guess 125 = .ok (.iinc 6 1, 3) := by decide +kernel
theorem dX1_guess_128 : decode cX1_guess 128 = .ok (.goto (-91), 3) := by decide +kernel
theorem dX1_guess_131 : decode cX1_guess 131 = .ok (.iload 5, 2) := by decide +kernel
theorem dX1_guess_133 : decode cX1_guess 133 = .ok (.ireturn, 1) := by decide +kernel
theorem dX1_iceOf_0 : decode cX1_iceOf 0 = .ok (.aload_n 0, 1) := by decide +kernel
theorem dX1_iceOf_1 : decode cX1_iceOf 1 = .ok (.iload_n 1, 1) := by decide +kernel
theorem dX1_iceOf_2 : decode cX1_iceOf 2 = .ok (.invokevirtual 151, 3) := by decide +kernel
theorem dX1_iceOf_5 : decode cX1_iceOf 5 = .ok (.istore_n 2, 1) := by decide +kernel
theorem dX1_iceOf_6 : decode cX1_iceOf 6 = .ok (.iload_n 2, 1) := by decide +kernel
theorem dX1_iceOf_7 : decode cX1_iceOf 7 = .ok (.ifCond .eq 13, 3) := by decide +kernel
theorem dX1_iceOf_10 : decode cX1_iceOf 10 = .ok (.aload_n 0, 1) := by decide +kernel
theorem dX1_iceOf_11 : decode cX1_iceOf 11 = .ok (.getfield 42, 3) := by decide +kernel
theorem dX1_iceOf_14 : decode cX1_iceOf 14 = .ok (.getfield 90, 3) := by decide +kernel
theorem dX1_iceOf_17 : decode cX1_iceOf 17 = .ok (.ifCond .ne 5, 3) := by decide +kernel
theorem dX1_iceOf_20 : decode cX1_iceOf 20 = .ok (.iconst 0, 1) := by decide +kernel
theorem dX1_iceOf_21 : decode cX1_iceOf 21 = .ok (.ireturn, 1) := by decide +kernel
theorem dX1_iceOf_22 : decode cX1_iceOf 22 = .ok (.iconst 0, 1) := by decide +kernel
theorem dX1_iceOf_23 : decode cX1_iceOf 23 = .ok (.istore_n 3, 1) := by decide +kernel
theorem dX1_iceOf_24 : decode cX1_iceOf 24 = .ok (.iconst 0, 1) := by decide +kernel
theorem dX1_iceOf_25 : decode cX1_iceOf 25 = .ok (.istore 4, 2) := by decide +kernel
theorem dX1_iceOf_27 : decode cX1_iceOf 27 = .ok (.iconst 0, 1) := by decide +kernel
theorem dX1_iceOf_28 : decode cX1_iceOf 28 = .ok (.istore 5, 2) := by decide +kernel
theorem dX1_iceOf_30 : decode cX1_iceOf 30 = .ok (.iload 5, 2) := by decide +kernel
theorem dX1_iceOf_32 : decode cX1_iceOf 32 = .ok (.aload_n 0, 1) := by decide +kernel
theorem dX1_iceOf_33 : decode cX1_iceOf 33 = .ok (.getfield 21, 3) := by decide +kernel
theorem dX1_iceOf_36 : decode cX1_iceOf 36 = .ok (.getfield 131, 3) := by decide +kernel
theorem dX1_iceOf_39 : decode cX1_iceOf 39 = .ok (.if_icmp .ge 49, 3) := by decide +kernel
theorem dX1_iceOf_42 : decode cX1_iceOf 42 = .ok (.iload_n 2, 1) := by decide +kernel
theorem dX1_iceOf_43 : decode cX1_iceOf 43 = .ok (.iload 5, 2) := by decide +kernel
theorem dX1_iceOf_45 : decode cX1_iceOf 45 = .ok (.invokestatic 132, 3) := by decide +kernel
theorem dX1_iceOf_48 : decode cX1_iceOf 48 = .ok (.ifCond .ne 6, 3) := by decide +kernel
theorem dX1_iceOf_51 : decode cX1_iceOf 51 = .ok (.goto 31, 3) := by decide +kernel
theorem dX1_iceOf_54 : decode cX1_iceOf 54 = .ok (.iload_n 3, 1) := by decide +kernel
theorem dX1_iceOf_55 : decode cX1_iceOf 55 = .ok (.aload_n 0, 1) := by decide +kernel
theorem dX1_iceOf_56 : decode cX1_iceOf 56 = .ok (.getfield 21, 3) := by decide +kernel
theorem dX1_iceOf_59 : decode cX1_iceOf 59 = .ok (.iload 5, 2) := by decide +kernel
theorem dX1_iceOf_61 : decode cX1_iceOf 61 = .ok (.invokevirtual 96, 3) := by decide +kernel
theorem dX1_iceOf_64 : decode cX1_iceOf 64 = .ok (.iadd, 1) := by decide +kernel
theorem dX1_iceOf_65 : decode cX1_iceOf 65 = .ok (.istore_n 3, 1) := by decide +kernel
theorem dX1_iceOf_66 : decode cX1_iceOf 66 = .ok (.aload_n 0, 1) := by decide +kernel
theorem dX1_iceOf_67 : decode cX1_iceOf 67 = .ok (.getfield 21, 3) := by decide +kernel
theorem dX1_iceOf_70 : decode cX1_iceOf 70 = .ok (.iload 5, 2) := by decide +kernel
theorem dX1_iceOf_72 : decode cX1_iceOf 72 = .ok (.iconst 3, 1) := by decide +kernel
theorem dX1_iceOf_73 : decode cX1_iceOf 73 = .ok (.invokevirtual 127, 3) := by decide +kernel
theorem dX1_iceOf_76 : decode cX1_iceOf 76 = .ok (.ifCond .eq 6, 3) := by decide +kernel
theorem dX1_iceOf_79 : decode cX1_iceOf 79 = .ok (.iconst 1, 1) := by decide +kernel
theorem dX1_iceOf_80 : decode cX1_iceOf 80 = .ok (.istore 4, 2) := by decide +kernel
theorem dX1_iceOf_82 : decode cX1_iceOf 82 = .ok (.iinc 5 1, 3) := by decide +kernel
theorem dX1_iceOf_85 : decode cX1_iceOf 85 = .ok (.goto (-55), 3) := by decide +kernel
theorem dX1_iceOf_88 : decode cX1_iceOf 88 = .ok (.aload_n 0, 1) := by decide +kernel
theorem dX1_iceOf_89 : decode cX1_iceOf 89 = .ok (.getfield 42, 3) := by decide +kernel
theorem dX1_iceOf_92 : decode cX1_iceOf 92 = .ok (.getfield 93, 3) := by decide +kernel
theorem dX1_iceOf_95 : decode cX1_iceOf 95 = .ok (.iconst 0, 1) := by decide +kernel
theorem dX1_iceOf_96 : decode cX1_iceOf 96 = .ok (.iload_n 3, 1) := by decide +kernel
theorem dX1_iceOf_97 : decode cX1_iceOf 97 = .ok (.aload_n 0, 1) := by decide +kernel
theorem dX1_iceOf_98 : decode cX1_iceOf 98 = .ok (.getfield 28, 3) := by decide +kernel
theorem dX1_iceOf_101 : decode cX1_iceOf 101 = .ok (.getfield 154, 3) := by decide +kernel
theorem dX1_iceOf_104 : decode cX1_iceOf 104 = .ok (.iload_n 1, 1) := by decide +kernel
theorem dX1_iceOf_105 : decode cX1_iceOf 105 = .ok (.iaload, 1) := by decide +kernel
theorem dX1_iceOf_106 : decode cX1_iceOf 106 = .ok (.imul, 1) := by decide +kernel
theorem dX1_iceOf_107 : decode cX1_iceOf 107 = .ok (.iastore, 1) := by decide +kernel
theorem dX1_iceOf_108 : decode cX1_iceOf 108 = .ok (.aload_n 0, 1) := by decide +kernel
theorem dX1_iceOf_109 : decode cX1_iceOf 109 = .ok (.getfield 42, 3) := by decide +kernel
theorem dX1_iceOf_112 : decode cX1_iceOf 112 = .ok (.getfield 93, 3) := by decide +kernel
theorem dX1_iceOf_115 : decode cX1_iceOf 115 = .ok (.iconst 1, 1) := by decide +kernel
theorem dX1_iceOf_116 : decode cX1_iceOf 116 = .ok (.aload_n 0, 1) := by decide +kernel
theorem dX1_iceOf_117 : decode cX1_iceOf 117 = .ok (.getfield 28, 3) := by decide +kernel
theorem dX1_iceOf_120 : decode cX1_iceOf 120 = .ok (.getfield 157, 3) := by decide +kernel
theorem dX1_iceOf_123 : decode cX1_iceOf 123 = .ok (.iload_n 1, 1) := by decide +kernel
theorem dX1_iceOf_124 : decode cX1_iceOf 124 = .ok (.iaload, 1) := by decide +kernel
theorem dX1_iceOf_125 : decode cX1_iceOf 125 = .ok (.iastore, 1) := by decide +kernel
theorem dX1_iceOf_126 : decode cX1_iceOf 126 = .ok (.aload_n 0, 1) := by decide +kernel
theorem dX1_iceOf_127 : decode cX1_iceOf 127 = .ok (.getfield 42, 3) := by decide +kernel
theorem dX1_iceOf_130 : decode cX1_iceOf 130 = .ok (.getfield 93, 3) := by decide +kernel
theorem dX1_iceOf_133 : decode cX1_iceOf 133 = .ok (.iconst 2, 1) := by decide +kernel
theorem dX1_iceOf_134 : decode cX1_iceOf 134 = .ok (.aload_n 0, 1) := by decide +kernel
theorem dX1_iceOf_135 : decode cX1_iceOf 135 = .ok (.getfield 46, 3) := by decide +kernel
theorem dX1_iceOf_138 : decode cX1_iceOf 138 = .ok (.iastore, 1) := by decide +kernel
theorem dX1_iceOf_139 : decode cX1_iceOf 139 = .ok (.aload_n 0, 1) := by decide +kernel
theorem dX1_iceOf_140 : decode cX1_iceOf 140 = .ok (.getfield 42, 3) := by decide +kernel
theorem dX1_iceOf_143 : decode cX1_iceOf 143 = .ok (.getfield 93, 3) := by decide +kernel
theorem dX1_iceOf_146 : decode cX1_iceOf 146 = .ok (.iconst 3, 1) := by decide +kernel
theorem dX1_iceOf_147 : decode cX1_iceOf 147 = .ok (.iload 4, 2) := by decide +kernel
theorem dX1_iceOf_149 : decode cX1_iceOf 149 = .ok (.iastore, 1) := by decide +kernel
theorem dX1_iceOf_150 : decode cX1_iceOf 150 = .ok (.iconst 0, 1) := by decide +kernel
theorem dX1_iceOf_151 : decode cX1_iceOf 151 = .ok (.sipush 9999, 3) := by decide +kernel
theorem dX1_iceOf_154 : decode cX1_iceOf 154 = .ok (.aload_n 0, 1) := by decide +kernel
theorem dX1_iceOf_155 : decode cX1_iceOf 155 = .ok (.getfield 42, 3) := by decide +kernel
theorem dX1_iceOf_158 : decode cX1_iceOf 158 = .ok (.invokevirtual 160, 3) := by decide +kernel
theorem dX1_iceOf_161 : decode cX1_iceOf 161 = .ok (.invokestatic 163, 3) := by decide +kernel
theorem dX1_iceOf_164 : decode cX1_iceOf 164 = .ok (.invokestatic 168, 3) := by decide +kernel
theorem dX1_iceOf_167 : decode cX1_iceOf 167 = .ok (.ireturn, 1) := by decide +kernel
theorem dX1_isMarked_0 : decode cX1_isMarked 0 = .ok (.aload_n 0, 1) := by decide +kernel
theorem dX1_isMarked_1 : decode cX1_isMarked 1 = .ok (.getfield 42, 3) := by decide +kernel
theorem dX1_isMarked_4 : decode cX1_isMarked 4 = .ok (.getfield 90, 3) := by decide +kernel
theorem dX1_isMarked_7 : decode cX1_isMarked 7 = .ok (.ifCond .ne 5, 3) := by decide +kernel
theorem dX1_isMarked_10 : decode cX1_isMarked 10 = .ok (.iconst 0, 1) := by decide +kernel
theorem dX1_isMarked_11 : decode cX1_isMarked 11 = .ok (.ireturn, 1) := by decide +kernel
theorem dX1_isMarked_12 : decode cX1_isMarked 12 = .ok (.aload_n 0, 1) := by decide +kernel
theorem dX1_isMarked_13 : decode cX1_isMarked 13 = .ok (.getfield 42, 3) := by decide +kernel
theorem dX1_isMarked_16 : decode cX1_isMarked 16 = .ok (.getfield 93, 3) := by decide +kernel
theorem dX1_isMarked_19 : decode cX1_isMarked 19 = .ok (.iconst 0, 1) := by decide +kernel
theorem dX1_isMarked_20 : decode cX1_isMarked 20 = .ok (.aload_n 0, 1) := by decide +kernel
theorem dX1_isMarked_21 : decode cX1_isMarked 21 = .ok (.getfield 21, 3) := by decide +kernel
theorem dX1_isMarked_24 : decode cX1_isMarked 24 = .ok (.iload_n 1, 1) := by decide +kernel
theorem dX1_isMarked_25 : decode cX1_isMarked 25 = .ok (.invokevirtual 96, 3) := by decide +kernel
theorem dX1_isMarked_28 : decode cX1_isMarked 28 = .ok (.iastore, 1) := by decide +kernel
theorem dX1_isMarked_29 : decode cX1_isMarked 29 = .ok (.aload_n 0, 1) := by decide +kernel
theorem dX1_isMarked_30 : decode cX1_isMarked 30 = .ok (.getfield 42, 3) := by decide +kernel
theorem dX1_isMarked_33 : decode cX1_isMarked 33 = .ok (.getfield 93, 3) := by decide +kernel
theorem dX1_isMarked_36 : decode cX1_isMarked 36 = .ok (.iconst 1, 1) := by decide +kernel
theorem dX1_isMarked_37 : decode cX1_isMarked 37 = .ok (.aload_n 0, 1) := by decide +kernel
theorem dX1_isMarked_38 : decode cX1_isMarked 38 = .ok (.getfield 21, 3) := by decide +kernel
theorem dX1_isMarked_41 : decode cX1_isMarked 41 = .ok (.iload_n 1, 1) := by decide +kernel
theorem dX1_isMarked_42 : decode cX1_isMarked 42 = .ok (.invokevirtual 100, 3) := by decide +kernel
theorem dX1_isMarked_45 : decode cX1_isMarked 45 = .ok (.iastore, 1) := by decide +kernel
theorem dX1_isMarked_46 : decode cX1_isMarked 46 = .ok (.aload_n 0, 1) := by decide +kernel
theorem dX1_isMarked_47 : decode cX1_isMarked 47 = .ok (.getfield 42, 3) := by decide +kernel
theorem dX1_isMarked_50 : decode cX1_isMarked 50 = .ok (.getfield 93, 3) := by decide +kernel
theorem dX1_isMarked_53 : decode cX1_isMarked 53 = .ok (.iconst 2, 1) := by decide +kernel
theorem dX1_isMarked_54 : decode cX1_isMarked 54 = .ok (.aload_n 0, 1) := by decide +kernel
theorem dX1_isMarked_55 : decode cX1_isMarked 55 = .ok (.iload_n 1, 1) := by decide +kernel
theorem dX1_isMarked_56 : decode cX1_isMarked 56 = .ok (.invokevirtual 103, 3) := by decide +kernel
theorem dX1_isMarked_59 : decode cX1_isMarked 59 = .ok (.invokestatic 106, 3) := by decide +kernel
theorem dX1_isMarked_62 : decode cX1_isMarked 62 = .ok (.iastore, 1) := by decide +kernel
theorem dX1_isMarked_63 : decode cX1_isMarked 63 = .ok (.aload_n 0, 1) := by decide +kernel
theorem dX1_isMarked_64 : decode cX1_isMarked 64 = .ok (.getfield 42, 3) := by decide +kernel
theorem dX1_isMarked_67 : decode cX1_isMarked 67 = .ok (.getfield 93, 3) := by decide +kernel
theorem dX1_isMarked_70 : decode cX1_isMarked 70 = .ok (.iconst 3, 1) := by decide +kernel
theorem dX1_isMarked_71 : decode cX1_isMarked 71 = .ok (.aload_n 0, 1) := by decide +kernel
theorem dX1_isMarked_72 : decode cX1_isMarked 72 = .ok (.getfield 21, 3) := by decide +kernel
theorem dX1_isMarked_75 : decode cX1_isMarked 75 = .ok (.getfield 111, 3) := by decide +kernel
theorem dX1_isMarked_78 : decode cX1_isMarked 78 = .ok (.iload_n 1, 1) := by decide +kernel
theorem dX1_isMarked_79 : decode cX1_isMarked 79 = .ok (.iaload, 1) := by decide +kernel
theorem dX1_isMarked_80 : decode cX1_isMarked 80 = .ok (.iastore, 1) := by decide +kernel
theorem dX1_isMarked_81 : decode cX1_isMarked 81 = .ok (.aload_n 0, 1) := by decide +kernel
theorem dX1_isMarked_82 : decode cX1_isMarked 82 = .ok (.getfield 42, 3) := by decide +kernel
theorem dX1_isMarked_85 : decode cX1_isMarked 85 = .ok (.getfield 93, 3) := by decide +kernel
theorem dX1_isMarked_88 : decode cX1_isMarked 88 = .ok (.iconst 4, 1) := by decide +kernel
theorem dX1_isMarked_89 : decode cX1_isMarked 89 = .ok (.aload_n 0, 1) := by decide +kernel
theorem dX1_isMarked_90 : decode cX1_isMarked 90 = .ok (.iload_n 1, 1) := by decide +kernel
theorem dX1_isMarked_91 : decode cX1_isMarked 91 = .ok (.invokevirtual 114, 3) := by decide +kernel
theorem dX1_isMarked_94 : decode cX1_isMarked 94 = .ok (.iastore, 1) := by decide +kernel
theorem dX1_isMarked_95 : decode cX1_isMarked 95 = .ok (.aload_n 0, 1) := by decide +kernel
theorem dX1_isMarked_96 : decode cX1_isMarked 96 = .ok (.getfield 42, 3) := by decide +kernel
theorem dX1_isMarked_99 : decode cX1_isMarked 99 = .ok (.invokevirtual 117, 3) := by decide +kernel
theorem dX1_isMarked_102 : decode cX1_isMarked 102 = .ok (.ifCond .eq 7, 3) := by decide +kernel
theorem dX1_isMarked_105 : decode cX1_isMarked 105 = .ok (.iconst 1, 1) := by decide +kernel
theorem dX1_isMarked_106 : decode cX1_isMarked 106 = .ok (.goto 4, 3) := by decide +kernel
theorem dX1_isMarked_109 : decode cX1_isMarked 109 = .ok (.iconst 0, 1) := by decide +kernel
theorem dX1_isMarked_110 : decode cX1_isMarked 110 = .ok (.ireturn, 1) := by decide +kernel
theorem dX1_mayChoose_0 : decode cX1_mayChoose 0 = .ok (.iload_n 2, 1) := by decide +kernel
theorem dX1_mayChoose_1 : decode cX1_mayChoose 1 = .ok (.ifCond .lt 22, 3) := by decide +kernel
theorem dX1_mayChoose_4 : decode cX1_mayChoose 4 = .ok (.iload_n 2, 1) := by decide +kernel
theorem dX1_mayChoose_5 : decode cX1_mayChoose 5 = .ok (.aload_n 0, 1) := by decide +kernel
theorem dX1_mayChoose_6 : decode cX1_mayChoose 6 = .ok (.getfield 69, 3) := by decide +kernel
theorem dX1_mayChoose_9 : decode cX1_mayChoose 9 = .ok (.iconst (-1), 1) := by decide +kernel
theorem dX1_mayChoose_10 : decode cX1_mayChoose 10 = .ok (.ixor, 1) := by decide +kernel
theorem dX1_mayChoose_11 : decode cX1_mayChoose 11 = .ok (.iand, 1) := by decide +kernel
theorem dX1_mayChoose_12 : decode cX1_mayChoose 12 = .ok (.ifCond .ne 11, 3) := by decide +kernel
theorem dX1_mayChoose_15 : decode cX1_mayChoose 15 = .ok (.iload_n 2, 1) := by decide +kernel
theorem dX1_mayChoose_16 : decode cX1_mayChoose 16 = .ok (.invokestatic 106, 3) := by decide +kernel
theorem dX1_mayChoose_19 : decode cX1_mayChoose 19 = .ok (.iconst 2, 1) := by decide +kernel
theorem dX1_mayChoose_20 : decode cX1_mayChoose 20 = .ok (.if_icmp .le 5, 3) := by decide +kernel
theorem dX1_mayChoose_23 : decode cX1_mayChoose 23 = .ok (.iconst 0, 1) := by decide +kernel
theorem dX1_mayChoose_24 : decode cX1_mayChoose 24 = .ok (.ireturn, 1) := by decide +kernel
theorem dX1_mayChoose_25 : decode cX1_mayChoose 25 = .ok (.iconst 0, 1) := by decide +kernel
theorem dX1_mayChoose_26 : decode cX1_mayChoose 26 = .ok (.istore_n 3, 1) := by decide +kernel
theorem dX1_mayChoose_27 : decode cX1_mayChoose 27 = .ok (.iload_n 3, 1) := by decide +kernel
theorem dX1_mayChoose_28 : decode cX1_mayChoose 28 = .ok (.aload_n 0, 1) := by decide +kernel
theorem dX1_mayChoose_29 : decode cX1_mayChoose 29 = .ok (.getfield 21, 3) := by decide +kernel
theorem dX1_mayChoose_32 : decode cX1_mayChoose 32 = .ok (.getfield 131, 3) := by decide +kernel
theorem dX1_mayChoose_35 : decode cX1_mayChoose 35 = .ok (.if_icmp .ge 28, 3) := by decide +kernel
theorem dX1_mayChoose_38 : decode cX1_mayChoose 38 = .ok (.iload_n 2, 1) := by decide +kernel
theorem dX1_mayChoose_39 : decode cX1_mayChoose 39 = .ok (.iload_n 3, 1) := by decide +kernel
theorem dX1_mayChoose_40 : decode cX1_mayChoose 40 = .ok (.invokestatic 132, 3) := by decide +kernel
theorem dX1_mayChoose_43 : decode cX1_mayChoose 43 = .ok (.ifCond .eq 14, 3) := by decide +kernel
theorem dX1_mayChoose_46 : decode cX1_mayChoose 46 = .ok (.aload_n 0, 1) := by decide +kernel
theorem dX1_mayChoose_47 : decode cX1_mayChoose 47 = .ok (.iload_n 1, 1) := by decide +kernel
theorem dX1_mayChoose_48 : decode cX1_mayChoose 48 = .ok (.iload_n 3, 1) := by decide +kernel
theorem dX1_mayChoose_49 : decode cX1_mayChoose 49 = .ok (.invokevirtual 135, 3) := by decide +kernel
theorem dX1_mayChoose_52 : decode cX1_mayChoose 52 = .ok (.ifCond .ne 5, 3) := by decide +kernel
theorem dX1_mayChoose_55 : decode cX1_mayChoose 55 = .ok (.iconst 0, 1) := by decide +kernel
theorem dX1_mayChoose_56 : decode cX1_mayChoose 56 = .ok (.ireturn, 1) := by decide +kernel
theorem dX1_mayChoose_57 : decode cX1_mayChoose 57 = .ok (.iinc 3 1, 3) := by decide +kernel
theorem dX1_mayChoose_60 : decode cX1_mayChoose 60 = .ok (.goto (-33), 3) := by decide +kernel
theorem dX1_mayChoose_63 : decode cX1_mayChoose 63 = .ok (.iconst 1, 1) := by decide +kernel
theorem dX1_mayChoose_64 : decode cX1_mayChoose 64 = .ok (.ireturn, 1) := by decide +kernel
theorem dX1_mayEat_0 : decode cX1_mayEat 0 = .ok (.aload_n 0, 1) := by decide +kernel
theorem dX1_mayEat_1 : decode cX1_mayEat 1 = .ok (.iload_n 2, 1) := by decide +kernel
theorem dX1_mayEat_2 : decode cX1_mayEat 2 = .ok (.invokevirtual 103, 3) := by decide +kernel
theorem dX1_mayEat_5 : decode cX1_mayEat 5 = .ok (.aload_n 0, 1) := by decide +kernel
theorem dX1_mayEat_6 : decode cX1_mayEat 6 = .ok (.getfield 28, 3) := by decide +kernel
theorem dX1_mayEat_9 : decode cX1_mayEat 9 = .ok (.getfield 121, 3) := by decide +kernel
theorem dX1_mayEat_12 : decode cX1_mayEat 12 = .ok (.iload_n 1, 1) := by decide +kernel
theorem dX1_mayEat_13 : decode cX1_mayEat 13 = .ok (.iaload, 1) := by decide +kernel
theorem dX1_mayEat_14 : decode cX1_mayEat 14 = .ok (.iand, 1) := by decide +kernel
theorem dX1_mayEat_15 : decode cX1_mayEat 15 = .ok (.ifCond .eq 5, 3) := by decide +kernel
theorem dX1_mayEat_18 : decode cX1_mayEat 18 = .ok (.iconst 0, 1) := by decide +kernel
theorem dX1_mayEat_19 : decode cX1_mayEat 19 = .ok (.ireturn, 1) := by decide +kernel
theorem dX1_mayEat_20 : decode cX1_mayEat 20 = .ok (.aload_n 0, 1) := by decide +kernel
theorem dX1_mayEat_21 : decode cX1_mayEat 21 = .ok (.getfield 28, 3) := by decide +kernel
theorem dX1_mayEat_24 : decode cX1_mayEat 24 = .ok (.getfield 124, 3) := by decide +kernel
theorem dX1_mayEat_27 : decode cX1_mayEat 27 = .ok (.iload_n 1, 1) := by decide +kernel
theorem dX1_mayEat_28 : decode cX1_mayEat 28 = .ok (.iaload, 1) := by decide +kernel
theorem dX1_mayEat_29 : decode cX1_mayEat 29 = .ok (.ifCond .eq 15, 3) := by decide +kernel
theorem dX1_mayEat_32 : decode cX1_mayEat 32 = .ok (.aload_n 0, 1) := by decide +kernel
theorem dX1_mayEat_33 : decode cX1_mayEat 33 = .ok (.getfield 21, 3) := by decide +kernel
theorem dX1_mayEat_36 : decode cX1_mayEat 36 = .ok (.iload_n 2, 1) := by decide +kernel
theorem dX1_mayEat_37 : decode cX1_mayEat 37 = .ok (.iconst 2, 1) := by decide +kernel
theorem dX1_mayEat_38 : decode cX1_mayEat 38 = .ok (.invokevirtual 127, 3) := by decide +kernel
theorem dX1_mayEat_41 : decode cX1_mayEat 41 = .ok (.ifCond .eq 7, 3) := by decide +kernel
theorem dX1_mayEat_44 : decode cX1_mayEat 44 = .ok (.iconst 1, 1) := by decide +kernel
theorem dX1_mayEat_45 : decode cX1_mayEat 45 = .ok (.goto 4, 3) := by decide +kernel
theorem dX1_mayEat_48 : decode cX1_mayEat 48 = .ok (.iconst 0, 1) := by decide +kernel
theorem dX1_mayEat_49 : decode cX1_mayEat 49 = .ok (.ireturn, 1) := by decide +kernel
theorem dX1_needOfAll_0 : decode cX1_needOfAll 0 = .ok (.iconst 0, 1) := by decide +kernel
theorem dX1_needOfAll_1 : decode cX1_needOfAll 1 = .ok (.istore_n 2, 1) := by decide +kernel
theorem dX1_needOfAll_2 : decode cX1_needOfAll 2 = .ok (.iconst 0, 1) := by decide +kernel
theorem dX1_needOfAll_3 : decode cX1_needOfAll 3 = .ok (.istore_n 3, 1) := by decide +kernel
theorem dX1_needOfAll_4 : decode cX1_needOfAll 4 = .ok (.iload_n 3, 1) := by decide +kernel
theorem dX1_needOfAll_5 : decode cX1_needOfAll 5 = .ok (.aload_n 0, 1) := by decide +kernel
theorem dX1_needOfAll_6 : decode cX1_needOfAll 6 = .ok (.getfield 28, 3) := by decide +kernel
theorem dX1_needOfAll_9 : decode cX1_needOfAll 9 = .ok (.getfield 171, 3) := by decide +kernel
theorem dX1_needOfAll_12 : decode cX1_needOfAll 12 = .ok (.if_icmp .ge 23, 3) := by decide +kernel
theorem dX1_needOfAll_15 : decode cX1_needOfAll 15 = .ok (.iload_n 2, 1) := by decide +kernel
theorem dX1_needOfAll_16 : decode cX1_needOfAll 16 = .ok (.aload_n 0, 1) := by decide +kernel
theorem dX1_needOfAll_17 : decode cX1_needOfAll 17 = .ok (.iload_n 3, 1) := by decide +kernel
theorem dX1_needOfAll_18 : decode cX1_needOfAll 18 = .ok (.aload_n 0, 1) := by decide +kernel
theorem dX1_needOfAll_19 : decode cX1_needOfAll 19 = .ok (.iload_n 3, 1) := by decide +kernel
theorem dX1_needOfAll_20 : decode cX1_needOfAll 20 = .ok (.invokevirtual 151, 3) := by decide +kernel
theorem dX1_needOfAll_23 : decode cX1_needOfAll 23 = .ok (.iload_n 1, 1) := by decide +kernel
theorem dX1_needOfAll_24 : decode cX1_needOfAll 24 = .ok (.invokevirtual 172, 3) := by decide +kernel
theorem dX1_needOfAll_27 : decode cX1_needOfAll 27 = .ok (.iadd, 1) := by decide +kernel
theorem dX1_needOfAll_28 : decode cX1_needOfAll 28 = .ok (.istore_n 2, 1) := by decide +kernel
theorem dX1_needOfAll_29 : decode cX1_needOfAll 29 = .ok (.iinc 3 1, 3) := by decide +kernel
theorem dX1_needOfAll_32 : decode cX1_needOfAll 32 = .ok (.goto (-28), 3) := by decide +kernel
theorem dX1_needOfAll_35 : decode cX1_needOfAll 35 = .ok (.iload_n 2, 1) := by decide +kernel
theorem dX1_needOfAll_36 : decode cX1_needOfAll 36 = .ok (.ireturn, 1) := by decide +kernel
theorem dX1_needOf_0 : decode cX1_needOf 0 = .ok (.iconst 0, 1) := by decide +kernel
theorem dX1_needOf_1 : decode cX1_needOf 1 = .ok (.istore 4, 2) := by decide +kernel
theorem dX1_needOf_3 : decode cX1_needOf 3 = .ok (.iconst 0, 1) := by decide +kernel
theorem dX1_needOf_4 : decode cX1_needOf 4 = .ok (.istore 5, 2) := by decide +kernel
theorem dX1_needOf_6 : decode cX1_needOf 6 = .ok (.iload 5, 2) := by decide +kernel
theorem dX1_needOf_8 : decode cX1_needOf 8 = .ok (.aload_n 0, 1) := by decide +kernel
theorem dX1_needOf_9 : decode cX1_needOf 9 = .ok (.getfield 21, 3) := by decide +kernel
theorem dX1_needOf_12 : decode cX1_needOf 12 = .ok (.getfield 131, 3) := by decide +kernel
theorem dX1_needOf_15 : decode cX1_needOf 15 = .ok (.if_icmp .ge 35, 3) := by decide +kernel
theorem dX1_needOf_18 : decode cX1_needOf 18 = .ok (.iload_n 2, 1) := by decide +kernel
theorem dX1_needOf_19 : decode cX1_needOf 19 = .ok (.iload 5, 2) := by decide +kernel
theorem dX1_needOf_21 : decode cX1_needOf 21 = .ok (.invokestatic 132, 3) := by decide +kernel
theorem dX1_needOf_24 : decode cX1_needOf 24 = .ok (.ifCond .eq 20, 3) := by decide +kernel
theorem dX1_needOf_27 : decode cX1_needOf 27 = .ok (.iload 4, 2) := by decide +kernel
theorem dX1_needOf_29 : decode cX1_needOf 29 = .ok (.aload_n 0, 1) := by decide +kernel
theorem dX1_needOf_30 : decode cX1_needOf 30 = .ok (.getfield 21, 3) := by decide +kernel
theorem dX1_needOf_33 : decode cX1_needOf 33 = .ok (.getfield 79, 3) := by decide +kernel
theorem dX1_needOf_36 : decode cX1_needOf 36 = .ok (.iload 5, 2) := by decide +kernel
theorem dX1_needOf_38 : decode cX1_needOf 38 = .ok (.aaload, 1) := by decide +kernel
theorem dX1_needOf_39 : decode cX1_needOf 39 = .ok (.iload_n 3, 1) := by decide +kernel
theorem dX1_needOf_40 : decode cX1_needOf 40 = .ok (.iaload, 1) := by decide +kernel
theorem dX1_needOf_41 : decode cX1_needOf 41 = .ok (.iadd, 1) := by decide +kernel
theorem dX1_needOf_42 : decode cX1_needOf 42 = .ok (.istore 4, 2) := by decide +kernel
theorem dX1_needOf_44 : decode cX1_needOf 44 = .ok (.iinc 5 1, 3) := by decide +kernel
theorem dX1_needOf_47 : decode cX1_needOf 47 = .ok (.goto (-41), 3) := by decide +kernel
theorem dX1_needOf_50 : decode cX1_needOf 50 = .ok (.iload 4, 2) := by decide +kernel
theorem dX1_needOf_52 : decode cX1_needOf 52 = .ok (.aload_n 0, 1) := by decide +kernel
theorem dX1_needOf_53 : decode cX1_needOf 53 = .ok (.getfield 28, 3) := by decide +kernel
theorem dX1_needOf_56 : decode cX1_needOf 56 = .ok (.getfield 154, 3) := by decide +kernel
theorem dX1_needOf_59 : decode cX1_needOf 59 = .ok (.iload_n 1, 1) := by decide +kernel
theorem dX1_needOf_60 : decode cX1_needOf 60 = .ok (.iaload, 1) := by decide +kernel
theorem dX1_needOf_61 : decode cX1_needOf 61 = .ok (.imul, 1) := by decide +kernel
theorem dX1_needOf_62 : decode cX1_needOf 62 = .ok (.ireturn, 1) := by decide +kernel
theorem dX1_takeFrom_0 : decode cX1_takeFrom 0 = .ok (.aload_n 0, 1) := by decide +kernel
theorem dX1_takeFrom_1 : decode cX1_takeFrom 1 = .ok (.getfield 12, 3) := by decide +kernel
theorem dX1_takeFrom_4 : decode cX1_takeFrom 4 = .ok (.aload_n 1, 1) := by decide +kernel
theorem dX1_takeFrom_5 : decode cX1_takeFrom 5 = .ok (.getfield 12, 3) := by decide +kernel
theorem dX1_takeFrom_8 : decode cX1_takeFrom 8 = .ok (.invokevirtual 50, 3) := by decide +kernel
theorem dX1_takeFrom_11 : decode cX1_takeFrom 11 = .ok (.aload_n 0, 1) := by decide +kernel
theorem dX1_takeFrom_12 : decode cX1_takeFrom 12 = .ok (.getfield 21, 3) := by decide +kernel
theorem dX1_takeFrom_15 : decode cX1_takeFrom 15 = .ok (.aload_n 1, 1) := by decide +kernel
theorem dX1_takeFrom_16 : decode cX1_takeFrom 16 = .ok (.getfield 21, 3) := by decide +kernel
theorem dX1_takeFrom_19 : decode cX1_takeFrom 19 = .ok (.invokevirtual 54, 3) := by decide +kernel
theorem dX1_takeFrom_22 : decode cX1_takeFrom 22 = .ok (.aload_n 0, 1) := by decide +kernel
theorem dX1_takeFrom_23 : decode cX1_takeFrom 23 = .ok (.getfield 28, 3) := by decide +kernel
theorem dX1_takeFrom_26 : decode cX1_takeFrom 26 = .ok (.aload_n 1, 1) := by decide +kernel
theorem dX1_takeFrom_27 : decode cX1_takeFrom 27 = .ok (.getfield 28, 3) := by decide +kernel
theorem dX1_takeFrom_30 : decode cX1_takeFrom 30 = .ok (.invokevirtual 57, 3) := by decide +kernel
theorem dX1_takeFrom_33 : decode cX1_takeFrom 33 = .ok (.aload_n 0, 1) := by decide +kernel
theorem dX1_takeFrom_34 : decode cX1_takeFrom 34 = .ok (.getfield 35, 3) := by decide +kernel
theorem dX1_takeFrom_37 : decode cX1_takeFrom 37 = .ok (.aload_n 1, 1) := by decide +kernel
theorem dX1_takeFrom_38 : decode cX1_takeFrom 38 = .ok (.getfield 35, 3) := by decide +kernel
theorem dX1_takeFrom_41 : decode cX1_takeFrom 41 = .ok (.invokevirtual 60, 3) := by decide +kernel
theorem dX1_takeFrom_44 : decode cX1_takeFrom 44 = .ok (.aload_n 0, 1) := by decide +kernel
theorem dX1_takeFrom_45 : decode cX1_takeFrom 45 = .ok (.getfield 42, 3) := by decide +kernel
theorem dX1_takeFrom_48 : decode cX1_takeFrom 48 = .ok (.aload_n 1, 1) := by decide +kernel
theorem dX1_takeFrom_49 : decode cX1_takeFrom 49 = .ok (.getfield 42, 3) := by decide +kernel
theorem dX1_takeFrom_52 : decode cX1_takeFrom 52 = .ok (.invokevirtual 63, 3) := by decide +kernel
theorem dX1_takeFrom_55 : decode cX1_takeFrom 55 = .ok (.aload_n 0, 1) := by decide +kernel
theorem dX1_takeFrom_56 : decode cX1_takeFrom 56 = .ok (.aload_n 1, 1) := by decide +kernel
theorem dX1_takeFrom_57 : decode cX1_takeFrom 57 = .ok (.getfield 66, 3) := by decide +kernel
theorem dX1_takeFrom_60 : decode cX1_takeFrom 60 = .ok (.putfield 66, 3) := by decide +kernel
theorem dX1_takeFrom_63 : decode cX1_takeFrom 63 = .ok (.aload_n 0, 1) := by decide +kernel
theorem dX1_takeFrom_64 : decode cX1_takeFrom 64 = .ok (.aload_n 1, 1) := by decide +kernel
theorem dX1_takeFrom_65 : decode cX1_takeFrom 65 = .ok (.getfield 69, 3) := by decide +kernel
theorem dX1_takeFrom_68 : decode cX1_takeFrom 68 = .ok (.putfield 69, 3) := by decide +kernel
theorem dX1_takeFrom_71 : decode cX1_takeFrom 71 = .ok (.aload_n 0, 1) := by decide +kernel
theorem dX1_takeFrom_72 : decode cX1_takeFrom 72 = .ok (.aload_n 1, 1) := by decide +kernel
theorem dX1_takeFrom_73 : decode cX1_takeFrom 73 = .ok (.getfield 46, 3) := by decide +kernel
theorem dX1_takeFrom_76 : decode cX1_takeFrom 76 = .ok (.putfield 46, 3) := by decide +kernel
theorem dX1_takeFrom_79 : decode cX1_takeFrom 79 = .ok (.aload_n 0, 1) := by decide +kernel
theorem dX1_takeFrom_80 : decode cX1_takeFrom 80 = .ok (.aload_n 1, 1) := by decide +kernel
theorem dX1_takeFrom_81 : decode cX1_takeFrom 81 = .ok (.getfield 72, 3) := by decide +kernel
theorem dX1_takeFrom_84 : decode cX1_takeFrom 84 = .ok (.putfield 72, 3) := by decide +kernel
theorem dX1_takeFrom_87 : decode cX1_takeFrom 87 = .ok (.return_, 1) := by decide +kernel
theorem dX2_join_0 : decode cX2_join 0 = .ok (.iload_n 0, 1) := by decide +kernel
theorem dX2_join_1 : decode cX2_join 1 = .ok (.lookupswitch 163 #[(38, 92), (42, 159), (43, 151), (45, 155), (60, 109), (61, 123), (62, 137), (124, 75)], 75) := by decide +kernel
theorem dX2_join_76 : decode cX2_join 76 = .ok (.iload_n 1, 1) := by decide +kernel
theorem dX2_join_77 : decode cX2_join 77 = .ok (.ifCond .ne 7, 3) := by decide +kernel
theorem dX2_join_80 : decode cX2_join 80 = .ok (.iload_n 2, 1) := by decide +kernel
theorem dX2_join_81 : decode cX2_join 81 = .ok (.ifCond .eq 7, 3) := by decide +kernel
theorem dX2_join_84 : decode cX2_join 84 = .ok (.iconst 1, 1) := by decide +kernel
theorem dX2_join_85 : decode cX2_join 85 = .ok (.goto 4, 3) := by decide +kernel
theorem dX2_join_88 : decode cX2_join 88 = .ok (.iconst 0, 1) := by decide +kernel
theorem dX2_join_89 : decode cX2_join 89 = .ok (.invokestatic 53, 3) := by decide +kernel
theorem dX2_join_92 : decode cX2_join 92 = .ok (.ireturn, 1) := by decide +kernel
theorem dX2_join_93 : decode cX2_join 93 = .ok (.iload_n 1, 1) := by decide +kernel
theorem dX2_join_94 : decode cX2_join 94 = .ok (.ifCond .eq 11, 3) := by decide +kernel
theorem dX2_join_97 : decode cX2_join 97 = .ok (.iload_n 2, 1) := by decide +kernel
theorem dX2_join_98 : decode cX2_join 98 = .ok (.ifCond .eq 7, 3) := by decide +kernel
theorem dX2_join_101 : decode cX2_join 101 = .ok (.iconst 1, 1) := by decide +kernel
theorem dX2_join_102 : decode cX2_join 102 = .ok (.goto 4, 3) := by decide +kernel
theorem dX2_join_105 : decode cX2_join 105 = .ok (.iconst 0, 1) := by decide +kernel
theorem dX2_join_106 : decode cX2_join 106 = .ok (.invokestatic 53, 3) := by decide +kernel
theorem dX2_join_109 : decode cX2_join 109 = .ok (.ireturn, 1) := by decide +kernel
theorem dX2_join_110 : decode cX2_join 110 = .ok (.iload_n 1, 1) := by decide +kernel
theorem dX2_join_111 : decode cX2_join 111 = .ok (.iload_n 2, 1) := by decide +kernel
theorem dX2_join_112 : decode cX2_join 112 = .ok (.if_icmp .ge 7, 3) := by decide +kernel
theorem dX2_join_115 : decode cX2_join 115 = .ok (.iconst 1, 1) := by decide +kernel
theorem dX2_join_116 : decode cX2_join 116 = .ok (.goto 4, 3) := by decide +kernel
theorem dX2_join_119 : decode cX2_join 119 = .ok (.iconst 0, 1) := by decide +kernel
theorem dX2_join_120 : decode cX2_join 120 = .ok (.invokestatic 53, 3) := by decide +kernel
theorem dX2_join_123 : decode cX2_join 123 = .ok (.ireturn, 1) := by decide +kernel
theorem dX2_join_124 : decode cX2_join 124 = .ok (.iload_n 1, 1) := by decide +kernel
theorem dX2_join_125 : decode cX2_join 125 = .ok (.iload_n 2, 1) := by decide +kernel
theorem dX2_join_126 : decode cX2_join 126 = .ok (.if_icmp .ne 7, 3) := by decide +kernel
theorem dX2_join_129 : decode cX2_join 129 = .ok (.iconst 1, 1) := by decide +kernel
theorem dX2_join_130 : decode cX2_join 130 = .ok (.goto 4, 3) := by decide +kernel
theorem dX2_join_133 : decode cX2_join 133 = .ok (.iconst 0, 1) := by decide +kernel
theorem dX2_join_134 : decode cX2_join 134 = .ok (.invokestatic 53, 3) := by decide +kernel
theorem dX2_join_137 : decode cX2_join 137 = .ok (.ireturn, 1) := by decide +kernel
theorem dX2_join_138 : decode cX2_join 138 = .ok (.iload_n 1, 1) := by decide +kernel
theorem dX2_join_139 : decode cX2_join 139 = .ok (.iload_n 2, 1) := by decide +kernel
theorem dX2_join_140 : decode cX2_join 140 = .ok (.if_icmp .le 7, 3) := by decide +kernel
theorem dX2_join_143 : decode cX2_join 143 = .ok (.iconst 1, 1) := by decide +kernel
theorem dX2_join_144 : decode cX2_join 144 = .ok (.goto 4, 3) := by decide +kernel
theorem dX2_join_147 : decode cX2_join 147 = .ok (.iconst 0, 1) := by decide +kernel
theorem dX2_join_148 : decode cX2_join 148 = .ok (.invokestatic 53, 3) := by decide +kernel
theorem dX2_join_151 : decode cX2_join 151 = .ok (.ireturn, 1) := by decide +kernel
theorem dX2_join_152 : decode cX2_join 152 = .ok (.iload_n 1, 1) := by decide +kernel
theorem dX2_join_153 : decode cX2_join 153 = .ok (.iload_n 2, 1) := by decide +kernel
theorem dX2_join_154 : decode cX2_join 154 = .ok (.iadd, 1) := by decide +kernel
theorem dX2_join_155 : decode cX2_join 155 = .ok (.ireturn, 1) := by decide +kernel
