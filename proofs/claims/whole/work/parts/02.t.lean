def RX11 : String := "DinnerBoxes"
abbrev cX11_init : ByteArray := prog_1_method_1_code
def yX11_init : MethodName := ⟨RX11, "<init>", "()V"⟩
abbrev cX11_part : ByteArray := prog_1_method_2_code
def yX11_part : MethodName := ⟨RX11, "part", "(III)I"⟩
abbrev cX11_unlike : ByteArray := prog_1_method_3_code
def yX11_unlike : MethodName := ⟨RX11, "unlike", "(III)I"⟩
abbrev cX11_meal : ByteArray := prog_1_method_4_code
def yX11_meal : MethodName := ⟨RX11, "meal", "(II)I"⟩
abbrev cX11_isOf : ByteArray := prog_1_method_5_code
def yX11_isOf : MethodName := ⟨RX11, "isOf", "(II)I"⟩
abbrev cX11_with : ByteArray := prog_1_method_6_code
def yX11_with : MethodName := ⟨RX11, "with", "(III)I"⟩
abbrev cX11_about : ByteArray := prog_1_method_7_code
def yX11_about : MethodName := ⟨RX11, "about", "(II)I"⟩
abbrev cX11_family : ByteArray := prog_1_method_8_code
def yX11_family : MethodName := ⟨RX11, "family", "(II)I"⟩
abbrev cX11_likes : ByteArray := prog_1_method_9_code
def yX11_likes : MethodName := ⟨RX11, "likes", "(III)I"⟩
abbrev cX11_lay : ByteArray := prog_1_method_10_code
def yX11_lay : MethodName := ⟨RX11, "lay", "(II)I"⟩
abbrev cX11_may : ByteArray := prog_1_method_11_code
def yX11_may : MethodName := ⟨RX11, "may", "(II)I"⟩
abbrev cX11_choose : ByteArray := prog_1_method_12_code
def yX11_choose : MethodName := ⟨RX11, "choose", "(II)I"⟩
abbrev cX11_box : ByteArray := prog_1_method_13_code
def yX11_box : MethodName := ⟨RX11, "box", "(II)I"⟩
abbrev cX11_ice : ByteArray := prog_1_method_14_code
def yX11_ice : MethodName := ⟨RX11, "ice", "(I)I"⟩
abbrev cX11_feed : ByteArray := prog_1_method_15_code
def yX11_feed : MethodName := ⟨RX11, "feed", "(III)I"⟩
abbrev cX11_trim : ByteArray := prog_1_method_16_code
def yX11_trim : MethodName := ⟨RX11, "trim", "(I)I"⟩
abbrev cX11_law : ByteArray := prog_1_method_17_code
def yX11_law : MethodName := ⟨RX11, "law", "()I"⟩
abbrev cX11_heat : ByteArray := prog_1_method_18_code
def yX11_heat : MethodName := ⟨RX11, "heat", "(I)I"⟩
abbrev cX11_menu : ByteArray := prog_1_method_19_code
def yX11_menu : MethodName := ⟨RX11, "menu", "(I)I"⟩
abbrev cX11_best : ByteArray := prog_1_method_20_code
def yX11_best : MethodName := ⟨RX11, "best", "(II)I"⟩
abbrev cX11_kept : ByteArray := prog_1_method_21_code
def yX11_kept : MethodName := ⟨RX11, "kept", "(I)I"⟩
abbrev cX11_lot : ByteArray := prog_1_method_22_code
def yX11_lot : MethodName := ⟨RX11, "lot", "(II)I"⟩
abbrev cX11_told : ByteArray := prog_1_method_23_code
def yX11_told : MethodName := ⟨RX11, "told", "(II)I"⟩
abbrev cX11_stock : ByteArray := prog_1_method_24_code
def yX11_stock : MethodName := ⟨RX11, "stock", "(II)I"⟩
abbrev cX11_plan : ByteArray := prog_1_method_25_code
def yX11_plan : MethodName := ⟨RX11, "plan", "(I)I"⟩
abbrev cX11_swap : ByteArray := prog_1_method_26_code
def yX11_swap : MethodName := ⟨RX11, "swap", "(II)I"⟩
abbrev cX11_pack : ByteArray := prog_1_method_27_code
def yX11_pack : MethodName := ⟨RX11, "pack", "(I)I"⟩
abbrev cX11_recall : ByteArray := prog_1_method_28_code
def yX11_recall : MethodName := ⟨RX11, "recall", "(I)I"⟩
abbrev cX11_end : ByteArray := prog_1_method_29_code
def yX11_end : MethodName := ⟨RX11, "end", "()I"⟩
abbrev cX11_shifts : ByteArray := prog_1_method_30_code
def yX11_shifts : MethodName := ⟨RX11, "shifts", "(I)I"⟩
abbrev cX11_picks : ByteArray := prog_1_method_31_code
def yX11_picks : MethodName := ⟨RX11, "picks", "(III)I"⟩
abbrev cX11_tell : ByteArray := prog_1_method_32_code
def yX11_tell : MethodName := ⟨RX11, "tell", "(I)I"⟩
abbrev cX11_check : ByteArray := prog_1_method_33_code
def yX11_check : MethodName := ⟨RX11, "check", "()I"⟩
abbrev cX11_keep : ByteArray := prog_1_method_34_code
def yX11_keep : MethodName := ⟨RX11, "keep", "()I"⟩
abbrev cX11_back : ByteArray := prog_1_method_35_code
def yX11_back : MethodName := ⟨RX11, "back", "()I"⟩
abbrev cX11_sheet : ByteArray := prog_1_method_36_code
def yX11_sheet : MethodName := ⟨RX11, "sheet", "(II)I"⟩
abbrev cX11_mark : ByteArray := prog_1_method_37_code
def yX11_mark : MethodName := ⟨RX11, "mark", "(III)I"⟩
abbrev cX11_copy : ByteArray := prog_1_method_38_code
def yX11_copy : MethodName := ⟨RX11, "copy", "(IIIII)I"⟩
abbrev cX11_count : ByteArray := prog_1_method_39_code
def yX11_count : MethodName := ⟨RX11, "count", "(I)I"⟩
abbrev cX11_isIn : ByteArray := prog_1_method_40_code
def yX11_isIn : MethodName := ⟨RX11, "isIn", "(III)Z"⟩
abbrev cX11_isLikes : ByteArray := prog_1_method_41_code
def yX11_isLikes : MethodName := ⟨RX11, "isLikes", "(I)Z"⟩
abbrev cX11_hasBit : ByteArray := prog_1_method_42_code
def yX11_hasBit : MethodName := ⟨RX11, "hasBit", "(II)Z"⟩
abbrev cX11_isBitsBelow : ByteArray := prog_1_method_43_code
def yX11_isBitsBelow : MethodName := ⟨RX11, "isBitsBelow", "(II)Z"⟩
abbrev cX11_truth : ByteArray := prog_1_method_44_code
def yX11_truth : MethodName := ⟨RX11, "truth", "(Z)I"⟩
abbrev cX11_copyRow : ByteArray := prog_1_method_45_code
def yX11_copyRow : MethodName := ⟨RX11, "copyRow", "([I[I)V"⟩
abbrev cX11_copyRows : ByteArray := prog_1_method_46_code
def yX11_copyRows : MethodName := ⟨RX11, "copyRows", "([[I[[I)V"⟩
theorem dX11_init_0 : decode cX11_init 0 = .ok (.aload_n 0, 1) := by decide +kernel
theorem dX11_init_1 : decode cX11_init 1 = .ok (.invokespecial 1, 3) := by decide +kernel
theorem dX11_init_4 : decode cX11_init 4 = .ok (.aload_n 0, 1) := by decide +kernel
theorem dX11_init_5 : decode cX11_init 5 = .ok (.new 7, 3) := by decide +kernel
theorem dX11_init_8 : decode cX11_init 8 = .ok (.dup, 1) := by decide +kernel
theorem dX11_init_9 : decode cX11_init 9 = .ok (.invokespecial 9, 3) := by decide +kernel
theorem dX11_init_12 : decode cX11_init 12 = .ok (.putfield 10, 3) := by decide +kernel
theorem dX11_init_15 : decode cX11_init 15 = .ok (.aload_n 0, 1) := by decide +kernel
theorem dX11_init_16 : decode cX11_init 16 = .ok (.new 16, 3) := by decide +kernel
theorem dX11_init_19 : decode cX11_init 19 = .ok (.dup, 1) := by decide +kernel
theorem dX11_init_20 : decode cX11_init 20 = .ok (.invokespecial 18, 3) := by decide +kernel
theorem dX11_init_23 : decode cX11_init 23 = .ok (.putfield 19, 3) := by decide +kernel
theorem dX11_init_26 : decode cX11_init 26 = .ok (.aload_n 0, 1) := by decide +kernel
theorem dX11_init_27 : decode cX11_init 27 = .ok (.new 23, 3) := by decide +kernel
theorem dX11_init_30 : decode cX11_init 30 = .ok (.dup, 1) := by decide +kernel
theorem dX11_init_31 : decode cX11_init 31 = .ok (.aload_n 0, 1) := by decide +kernel
theorem dX11_init_32 : decode cX11_init 32 = .ok (.getfield 10, 3) := by decide +kernel
theorem dX11_init_35 : decode cX11_init 35 = .ok (.invokespecial 25, 3) := by decide +kernel
theorem dX11_init_38 : decode cX11_init 38 = .ok (.putfield 28, 3) := by decide +kernel
theorem dX11_init_41 : decode cX11_init 41 = .ok (.aload_n 0, 1) := by decide +kernel
theorem dX11_init_42 : decode cX11_init 42 = .ok (.new 32, 3) := by decide +kernel
theorem dX11_init_45 : decode cX11_init 45 = .ok (.dup, 1) := by decide +kernel
theorem dX11_init_46 : decode cX11_init 46 = .ok (.aload_n 0, 1) := by decide +kernel
theorem dX11_init_47 : decode cX11_init 47 = .ok (.getfield 10, 3) := by decide +kernel
theorem dX11_init_50 : decode cX11_init 50 = .ok (.invokespecial 34, 3) := by decide +kernel
theorem dX11_init_53 : decode cX11_init 53 = .ok (.putfield 35, 3) := by decide +kernel
theorem dX11_init_56 : decode cX11_init 56 = .ok (.aload_n 0, 1) := by decide +kernel
theorem dX11_init_57 : decode cX11_init 57 = .ok (.new 39, 3) := by decide +kernel
theorem dX11_init_60 : decode cX11_init 60 = .ok (.dup, 1) := by decide +kernel
theorem dX11_init_61 : decode cX11_init 61 = .ok (.aload_n 0, 1) := by decide +kernel
theorem dX11_init_62 : decode cX11_init 62 = .ok (.getfield 10, 3) := by decide +kernel
theorem dX11_init_65 : decode cX11_init 65 = .ok (.invokespecial 41, 3) := by decide +kernel
theorem dX11_init_68 : decode cX11_init 68 = .ok (.putfield 42, 3) := by decide +kernel
theorem dX11_init_71 : decode cX11_init 71 = .ok (.aload_n 0, 1) := by decide +kernel
theorem dX11_init_72 : decode cX11_init 72 = .ok (.new 46, 3) := by decide +kernel
theorem dX11_init_75 : decode cX11_init 75 = .ok (.dup, 1) := by decide +kernel
theorem dX11_init_76 : decode cX11_init 76 = .ok (.invokespecial 48, 3) := by decide +kernel
theorem dX11_init_79 : decode cX11_init 79 = .ok (.putfield 49, 3) := by decide +kernel
theorem dX11_init_82 : decode cX11_init 82 = .ok (.aload_n 0, 1) := by decide +kernel
theorem dX11_init_83 : decode cX11_init 83 = .ok (.bipush 36, 2) := by decide +kernel
theorem dX11_init_85 : decode cX11_init 85 = .ok (.newarray .int, 2) := by decide +kernel
theorem dX11_init_87 : decode cX11_init 87 = .ok (.putfield 53, 3) := by decide +kernel
theorem dX11_init_90 : decode cX11_init 90 = .ok (.return_, 1) := by decide +kernel
theorem dX11_part_0 : decode cX11_part 0 = .ok (.iload_n 2, 1) := by decide +kernel
theorem dX11_part_1 : decode cX11_part 1 = .ok (.bipush 100, 2) := by decide +kernel
theorem dX11_part_3 : decode cX11_part 3 = .ok (.idiv, 1) := by decide +kernel
theorem dX11_part_4 : decode cX11_part 4 = .ok (.istore 4, 2) := by decide +kernel
theorem dX11_part_6 : decode cX11_part 6 = .ok (.iload_n 2, 1) := by decide +kernel
theorem dX11_part_7 : decode cX11_part 7 = .ok (.bipush 10, 2) := by decide +kernel
theorem dX11_part_9 : decode cX11_part 9 = .ok (.idiv, 1) := by decide +kernel
theorem dX11_part_10 : decode cX11_part 10 = .ok (.bipush 10, 2) := by decide +kernel
theorem dX11_part_12 : decode cX11_part 12 = .ok (.irem, 1) := by decide +kernel
theorem dX11_part_13 : decode cX11_part 13 = .ok (.istore 5, 2) := by decide +kernel
theorem dX11_part_15 : decode cX11_part 15 = .ok (.iload_n 2, 1) := by decide +kernel
theorem dX11_part_16 : decode cX11_part 16 = .ok (.bipush 10, 2) := by decide +kernel
theorem dX11_part_18 : decode cX11_part 18 = .ok (.irem, 1) := by decide +kernel
theorem dX11_part_19 : decode cX11_part 19 = .ok (.istore 6, 2) := by decide +kernel
theorem dX11_part_21 : decode cX11_part 21 = .ok (.iload_n 1, 1) := by decide +kernel
theorem dX11_part_22 : decode cX11_part 22 = .ok (.iconst 0, 1) := by decide +kernel
theorem dX11_part_23 : decode cX11_part 23 = .ok (.sipush 255, 3) := by decide +kernel
theorem dX11_part_26 : decode cX11_part 26 = .ok (.invokestatic 57, 3) := by decide +kernel
theorem dX11_part_29 : decode cX11_part 29 = .ok (.ifCond .eq 13, 3) := by decide +kernel
theorem dX11_part_32 : decode cX11_part 32 = .ok (.iload_n 3, 1) := by decide +kernel
theorem dX11_part_33 : decode cX11_part 33 = .ok (.iconst 1, 1) := by decide +kernel
theorem dX11_part_34 : decode cX11_part 34 = .ok (.bipush 20, 2) := by decide +kernel
theorem dX11_part_36 : decode cX11_part 36 = .ok (.invokestatic 57, 3) := by decide +kernel
theorem dX11_part_39 : decode cX11_part 39 = .ok (.ifCond .ne 6, 3) := by decide +kernel
theorem dX11_part_42 : decode cX11_part 42 = .ok (.ldc 61, 2) := by decide +kernel
theorem dX11_part_44 : decode cX11_part 44 = .ok (.ireturn, 1) := by decide +kernel
theorem dX11_part_45 : decode cX11_part 45 = .ok (.iload_n 2, 1) := by decide +kernel
theorem dX11_part_46 : decode cX11_part 46 = .ok (.ifCond .lt 28, 3) := by decide +kernel
theorem dX11_part_49 : decode cX11_part 49 = .ok (.iload 4, 2) := by decide +kernel
theorem dX11_part_51 : decode cX11_part 51 = .ok (.iconst 1, 1) := by decide +kernel
theorem dX11_part_52 : decode cX11_part 52 = .ok (.sipush 999, 3) := by decide +kernel
theorem dX11_part_55 : decode cX11_part 55 = .ok (.invokestatic 57, 3) := by decide +kernel
theorem dX11_part_58 : decode cX11_part 58 = .ok (.ifCond .eq 16, 3) := by decide +kernel
theorem dX11_part_61 : decode cX11_part 61 = .ok (.iload 5, 2) := by decide +kernel
theorem dX11_part_63 : decode cX11_part 63 = .ok (.iconst 4, 1) := by decide +kernel
theorem dX11_part_64 : decode cX11_part 64 = .ok (.if_icmp .ge 10, 3) := by decide +kernel
theorem dX11_part_67 : decode cX11_part 67 = .ok (.iload 6, 2) := by decide +kernel
theorem dX11_part_69 : decode cX11_part 69 = .ok (.bipush 6, 2) := by decide +kernel
theorem dX11_part_71 : decode cX11_part 71 = .ok (.if_icmp .lt 6, 3) := by decide +kernel
theorem dX11_part_74 : decode cX11_part 74 = .ok (.ldc 61, 2) := by decide +kernel
theorem dX11_part_76 : decode cX11_part 76 = .ok (.ireturn, 1) := by decide +kernel
theorem dX11_part_77 : decode cX11_part 77 = .ok (.aload_n 0, 1) := by decide +kernel
theorem dX11_part_78 : decode cX11_part 78 = .ok (.getfield 10, 3) := by decide +kernel
theorem dX11_part_81 : decode cX11_part 81 = .ok (.getfield 62, 3) := by decide +kernel
theorem dX11_part_84 : decode cX11_part 84 = .ok (.astore 7, 2) := by decide +kernel
theorem dX11_part_86 : decode cX11_part 86 = .ok (.aload 7, 2) := by decide +kernel
theorem dX11_part_88 : decode cX11_part 88 = .ok (.getfield 66, 3) := by decide +kernel
theorem dX11_part_91 : decode cX11_part 91 = .ok (.bipush 14, 2) := by decide +kernel
theorem dX11_part_93 : decode cX11_part 93 = .ok (.if_icmp .lt 6, 3) := by decide +kernel
theorem dX11_part_96 : decode cX11_part 96 = .ok (.ldc 72, 2) := by decide +kernel
theorem dX11_part_98 : decode cX11_part 98 = .ok (.ireturn, 1) := by decide +kernel
theorem dX11_part_99 : decode cX11_part 99 = .ok (.aload 7, 2) := by decide +kernel
theorem dX11_part_101 : decode cX11_part 101 = .ok (.dup, 1) := by decide +kernel
theorem dX11_part_102 : decode cX11_part 102 = .ok (.getfield 66, 3) := by decide +kernel
theorem dX11_part_105 : decode cX11_part 105 = .ok (.dup_x1, 1) := by decide +kernel
theorem dX11_part_106 : decode cX11_part 106 = .ok (.iconst 1, 1) := by decide +kernel
theorem dX11_part_107 : decode cX11_part 107 = .ok (.iadd, 1) := by decide +kernel
theorem dX11_part_108 : decode cX11_part 108 = .ok (.putfield 66, 3) := by decide +kernel
theorem dX11_part_111 : decode cX11_part 111 = .ok (.istore 8, 2) := by decide +kernel
theorem dX11_part_113 : decode cX11_part 113 = .ok (.aload 7, 2) := by decide +kernel
theorem dX11_part_115 : decode cX11_part 115 = .ok (.getfield 73, 3) := by decide +kernel
theorem dX11_part_118 : decode cX11_part 118 = .ok (.iload 8, 2) := by decide +kernel
theorem dX11_part_120 : decode cX11_part 120 = .ok (.iload_n 1, 1) := by decide +kernel
theorem dX11_part_121 : decode cX11_part 121 = .ok (.iastore, 1) := by decide +kernel
theorem dX11_part_122 : decode cX11_part 122 = .ok (.aload 7, 2) := by decide +kernel
theorem dX11_part_124 : decode cX11_part 124 = .ok (.getfield 76, 3) := by decide +kernel
theorem dX11_part_127 : decode cX11_part 127 = .ok (.iload 8, 2) := by decide +kernel
theorem dX11_part_129 : decode cX11_part 129 = .ok (.iload 4, 2) := by decide +kernel
theorem dX11_part_131 : decode cX11_part 131 = .ok (.iastore, 1) := by decide +kernel
theorem dX11_part_132 : decode cX11_part 132 = .ok (.aload 7, 2) := by decide +kernel
theorem dX11_part_134 : decode cX11_part 134 = .ok (.getfield 79, 3) := by decide +kernel
theorem dX11_part_137 : decode cX11_part 137 = .ok (.iload 8, 2) := by decide +kernel
theorem dX11_part_139 : decode cX11_part 139 = .ok (.iload 5, 2) := by decide +kernel
theorem dX11_part_141 : decode cX11_part 141 = .ok (.iastore, 1) := by decide +kernel
theorem dX11_part_142 : decode cX11_part 142 = .ok (.aload 7, 2) := by decide +kernel
theorem dX11_part_144 : decode cX11_part 144 = .ok (.getfield 82, 3) := by decide +kernel
theorem dX11_part_147 : decode cX11_part 147 = .ok (.iload 8, 2) := by decide +kernel
theorem dX11_part_149 : decode cX11_part 149 = .ok (.iload 6, 2) := by decide +kernel
theorem dX11_part_151 : decode cX11_part 151 = .ok (.iastore, 1) := by decide +kernel
theorem dX11_part_152 : decode cX11_part 152 = .ok (.aload 7, 2) := by decide +kernel
theorem dX11_part_154 : decode cX11_part 154 = .ok (.getfield 85, 3) := by decide +kernel
theorem dX11_part_157 : decode cX11_part 157 = .ok (.iload 8, 2) := by decide +kernel
theorem dX11_part_159 : decode cX11_part 159 = .ok (.iload_n 3, 1) := by decide +kernel
theorem dX11_part_160 : decode cX11_part 160 = .ok (.iastore, 1) := by decide +kernel
theorem dX11_part_161 : decode cX11_part 161 = .ok (.iload 8, 2) := by decide +kernel
theorem dX11_part_163 : decode cX11_part 163 = .ok (.ireturn, 1) := by decide +kernel
theorem dX11_unlike_0 : decode cX11_unlike 0 = .ok (.aload_n 0, 1) := by decide +kernel
theorem dX11_unlike_1 : decode cX11_unlike 1 = .ok (.getfield 10, 3) := by decide +kernel
theorem dX11_unlike_4 : decode cX11_unlike 4 = .ok (.getfield 62, 3) := by decide +kernel
theorem dX11_unlike_7 : decode cX11_unlike 7 = .ok (.astore 4, 2) := by decide +kernel
theorem dX11_unlike_9 : decode cX11_unlike 9 = .ok (.aload 4, 2) := by decide +kernel
theorem dX11_unlike_11 : decode cX11_unlike 11 = .ok (.iload_n 1, 1) := by decide +kernel
theorem dX11_unlike_12 : decode cX11_unlike 12 = .ok (.invokevirtual 88, 3) := by decide +kernel
theorem dX11_unlike_15 : decode cX11_unlike 15 = .ok (.ifCond .eq 27, 3) := by decide +kernel
theorem dX11_unlike_18 : decode cX11_unlike 18 = .ok (.aload 4, 2) := by decide +kernel
theorem dX11_unlike_20 : decode cX11_unlike 20 = .ok (.iload_n 2, 1) := by decide +kernel
theorem dX11_unlike_21 : decode cX11_unlike 21 = .ok (.invokevirtual 88, 3) := by decide +kernel
theorem dX11_unlike_24 : decode cX11_unlike 24 = .ok (.ifCond .eq 18, 3) := by decide +kernel
theorem dX11_unlike_27 : decode cX11_unlike 27 = .ok (.iload_n 1, 1) := by decide +kernel
theorem dX11_unlike_28 : decode cX11_unlike 28 = .ok (.iload_n 2, 1) := by decide +kernel
theorem dX11_unlike_29 : decode cX11_unlike 29 = .ok (.if_icmp .eq 13, 3) := by decide +kernel
theorem dX11_unlike_32 : decode cX11_unlike 32 = .ok (.iload_n 3, 1) := by decide +kernel
theorem dX11_unlike_33 : decode cX11_unlike 33 = .ok (.iconst 1, 1) := by decide +kernel
theorem dX11_unlike_34 : decode cX11_unlike 34 = .ok (.bipush 99, 2) := by decide +kernel
theorem dX11_unlike_36 : decode cX11_unlike 36 = .ok (.invokestatic 57, 3) := by decide +kernel
theorem dX11_unlike_39 : decode cX11_unlike 39 = .ok (.ifCond .ne 6, 3) := by decide +kernel
theorem dX11_unlike_42 : decode cX11_unlike 42 = .ok (.ldc 61, 2) := by decide +kernel
theorem dX11_unlike_44 : decode cX11_unlike 44 = .ok (.ireturn, 1) := by decide +kernel
theorem dX11_unlike_45 : decode cX11_unlike 45 = .ok (.aload 4, 2) := by decide +kernel
theorem dX11_unlike_47 : decode cX11_unlike 47 = .ok (.getfield 92, 3) := by decide +kernel
theorem dX11_unlike_50 : decode cX11_unlike 50 = .ok (.iload_n 1, 1) := by decide +kernel
theorem dX11_unlike_51 : decode cX11_unlike 51 = .ok (.aaload, 1) := by decide +kernel
theorem dX11_unlike_52 : decode cX11_unlike 52 = .ok (.iload_n 2, 1) := by decide +kernel
theorem dX11_unlike_53 : decode cX11_unlike 53 = .ok (.iaload, 1) := by decide +kernel
theorem dX11_unlike_54 : decode cX11_unlike 54 = .ok (.istore 5, 2) := by decide +kernel
theorem dX11_unlike_56 : decode cX11_unlike 56 = .ok (.aload 4, 2) := by decide +kernel
theorem dX11_unlike_58 : decode cX11_unlike 58 = .ok (.getfield 92, 3) := by decide +kernel
theorem dX11_unlike_61 : decode cX11_unlike 61 = .ok (.iload_n 1, 1) := by decide +kernel
theorem dX11_unlike_62 : decode cX11_unlike 62 = .ok (.aaload, 1) := by decide +kernel
theorem dX11_unlike_63 : decode cX11_unlike 63 = .ok (.iload_n 2, 1) := by decide +kernel
theorem dX11_unlike_64 : decode cX11_unlike 64 = .ok (.iload_n 3, 1) := by decide +kernel
theorem dX11_unlike_65 : decode cX11_unlike 65 = .ok (.iastore, 1) := by decide +kernel
theorem dX11_unlike_66 : decode cX11_unlike 66 = .ok (.aload 4, 2) := by decide +kernel
theorem dX11_unlike_68 : decode cX11_unlike 68 = .ok (.getfield 92, 3) := by decide +kernel
theorem dX11_unlike_71 : decode cX11_unlike 71 = .ok (.iload_n 2, 1) := by decide +kernel
theorem dX11_unlike_72 : decode cX11_unlike 72 = .ok (.aaload, 1) := by decide +kernel
theorem dX11_unlike_73 : decode cX11_unlike 73 = .ok (.iload_n 1, 1) := by decide +kernel
theorem dX11_unlike_74 : decode cX11_unlike 74 = .ok (.iload_n 3, 1) := by decide +kernel
theorem dX11_unlike_75 : decode cX11_unlike 75 = .ok (.iastore, 1) := by decide +kernel
theorem dX11_unlike_76 : decode cX11_unlike 76 = .ok (.iload 5, 2) := by decide +kernel
theorem dX11_unlike_78 : decode cX11_unlike 78 = .ok (.ireturn, 1) := by decide +kernel
theorem dX11_meal_0 : decode cX11_meal 0 = .ok (.iload_n 1, 1) := by decide +kernel
theorem dX11_meal_1 : decode cX11_meal 1 = .ok (.iconst 0, 1) := by decide +kernel
theorem dX11_meal_2 : decode cX11_meal 2 = .ok (.iconst 3, 1) := by decide +kernel
theorem dX11_meal_3 : decode cX11_meal 3 = .ok (.invokestatic 57, 3) := by decide +kernel
theorem dX11_meal_6 : decode cX11_meal 6 = .ok (.ifCond .eq 13, 3) := by decide +kernel
theorem dX11_meal_9 : decode cX11_meal 9 = .ok (.iload_n 2, 1) := by decide +kernel
theorem dX11_meal_10 : decode cX11_meal 10 = .ok (.iconst 0, 1) := by decide +kernel
theorem dX11_meal_11 : decode cX11_meal 11 = .ok (.bipush 15, 2) := by decide +kernel
theorem dX11_meal_13 : decode cX11_meal 13 = .ok (.invokestatic 57, 3) := by decide +kernel
theorem dX11_meal_16 : decode cX11_meal 16 = .ok (.ifCond .ne 6, 3) := by decide +kernel
theorem dX11_meal_19 : decode cX11_meal 19 = .ok (.ldc 61, 2) := by decide +kernel
theorem dX11_meal_21 : decode cX11_meal 21 = .ok (.ireturn, 1) := by decide +kernel
theorem dX11_meal_22 : decode cX11_meal 22 = .ok (.aload_n 0, 1) := by decide +kernel
theorem dX11_meal_23 : decode cX11_meal 23 = .ok (.getfield 10, 3) := by decide +kernel
theorem dX11_meal_26 : decode cX11_meal 26 = .ok (.getfield 96, 3) := by decide +kernel
theorem dX11_meal_29 : decode cX11_meal 29 = .ok (.astore_n 3, 1) := by decide +kernel
theorem dX11_meal_30 : decode cX11_meal 30 = .ok (.aload_n 3, 1) := by decide +kernel
theorem dX11_meal_31 : decode cX11_meal 31 = .ok (.getfield 100, 3) := by decide +kernel
theorem dX11_meal_34 : decode cX11_meal 34 = .ok (.bipush 10, 2) := by decide +kernel
theorem dX11_meal_36 : decode cX11_meal 36 = .ok (.if_icmp .lt 6, 3) := by decide +kernel
theorem dX11_meal_39 : decode cX11_meal 39 = .ok (.ldc 72, 2) := by decide +kernel
theorem dX11_meal_41 : decode cX11_meal 41 = .ok (.ireturn, 1) := by decide +kernel
theorem dX11_meal_42 : decode cX11_meal 42 = .ok (.aload_n 3, 1) := by decide +kernel
theorem dX11_meal_43 : decode cX11_meal 43 = .ok (.dup, 1) := by decide +kernel
theorem dX11_meal_44 : decode cX11_meal 44 = .ok (.getfield 100, 3) := by decide +kernel
theorem dX11_meal_47 : decode cX11_meal 47 = .ok (.dup_x1, 1) := by decide +kernel
theorem dX11_meal_48 : decode cX11_meal 48 = .ok (.iconst 1, 1) := by decide +kernel
theorem dX11_meal_49 : decode cX11_meal 49 = .ok (.iadd, 1) := by decide +kernel
theorem dX11_meal_50 : decode cX11_meal 50 = .ok (.putfield 100, 3) := by decide +kernel
theorem dX11_meal_53 : decode cX11_meal 53 = .ok (.istore 4, 2) := by decide +kernel
theorem dX11_meal_55 : decode cX11_meal 55 = .ok (.aload_n 3, 1) := by decide +kernel
theorem dX11_meal_56 : decode cX11_meal 56 = .ok (.getfield 103, 3) := by decide +kernel
theorem dX11_meal_59 : decode cX11_meal 59 = .ok (.iload 4, 2) := by decide +kernel
theorem dX11_meal_61 : decode cX11_meal 61 = .ok (.iload_n 1, 1) := by decide +kernel
theorem dX11_meal_62 : decode cX11_meal 62 = .ok (.iastore, 1) := by decide +kernel
theorem dX11_meal_63 : decode cX11_meal 63 = .ok (.aload_n 3, 1) := by decide +kernel
theorem dX11_meal_64 : decode cX11_meal 64 = .ok (.getfield 106, 3) := by decide +kernel
theorem dX11_meal_67 : decode cX11_meal 67 = .ok (.iload 4, 2) := by decide +kernel
theorem dX11_meal_69 : decode cX11_meal 69 = .ok (.iload_n 2, 1) := by decide +kernel
theorem dX11_meal_70 : decode cX11_meal 70 = .ok (.iastore, 1) := by decide +kernel
theorem dX11_meal_71 : decode cX11_meal 71 = .ok (.iload 4, 2) := by decide +kernel
theorem dX11_meal_73 : decode cX11_meal 73 = .ok (.ireturn, 1) := by decide +kernel
theorem dX11_isOf_0 : decode cX11_isOf 0 = .ok (.aload_n 0, 1) := by decide +kernel
theorem dX11_isOf_1 : decode cX11_isOf 1 = .ok (.getfield 10, 3) := by decide +kernel
theorem dX11_isOf_4 : decode cX11_isOf 4 = .ok (.getfield 96, 3) := by decide +kernel
theorem dX11_isOf_7 : decode cX11_isOf 7 = .ok (.iload_n 1, 1) := by decide +kernel
theorem dX11_isOf_8 : decode cX11_isOf 8 = .ok (.invokevirtual 109, 3) := by decide +kernel
theorem dX11_isOf_11 : decode cX11_isOf 11 = .ok (.ifCond .eq 12, 3) := by decide +kernel
theorem dX11_isOf_14 : decode cX11_isOf 14 = .ok (.iload_n 2, 1) := by decide +kernel
theorem dX11_isOf_15 : decode cX11_isOf 15 = .ok (.iconst 0, 1) := by decide +kernel
theorem dX11_isOf_16 : decode cX11_isOf 16 = .ok (.iconst 3, 1) := by decide +kernel
theorem dX11_isOf_17 : decode cX11_isOf 17 = .ok (.invokestatic 57, 3) := by decide +kernel
theorem dX11_isOf_20 : decode cX11_isOf 20 = .ok (.ifCond .ne 6, 3) := by decide +kernel
theorem dX11_isOf_23 : decode cX11_isOf 23 = .ok (.ldc 61, 2) := by decide +kernel
theorem dX11_isOf_25 : decode cX11_isOf 25 = .ok (.ireturn, 1) := by decide +kernel
theorem dX11_isOf_26 : decode cX11_isOf 26 = .ok (.aload_n 0, 1) := by decide +kernel
theorem dX11_isOf_27 : decode cX11_isOf 27 = .ok (.getfield 10, 3) := by decide +kernel
theorem dX11_isOf_30 : decode cX11_isOf 30 = .ok (.getfield 96, 3) := by decide +kernel
theorem dX11_isOf_33 : decode cX11_isOf 33 = .ok (.iload_n 1, 1) := by decide +kernel
theorem dX11_isOf_34 : decode cX11_isOf 34 = .ok (.iload_n 2, 1) := by decide +kernel
theorem dX11_isOf_35 : decode cX11_isOf 35 = .ok (.invokevirtual 110, 3) := by decide +kernel
theorem dX11_isOf_38 : decode cX11_isOf 38 = .ok (.invokestatic 114, 3) := by decide +kernel
theorem dX11_isOf_41 : decode cX11_isOf 41 = .ok (.ireturn, 1) := by decide +kernel
theorem dX11_with_0 : decode cX11_with 0 = .ok (.aload_n 0, 1) := by decide +kernel
theorem dX11_with_1 : decode cX11_with 1 = .ok (.getfield 10, 3) := by decide +kernel
theorem dX11_with_4 : decode cX11_with 4 = .ok (.getfield 96, 3) := by decide +kernel
theorem dX11_with_7 : decode cX11_with 7 = .ok (.astore 4, 2) := by decide +kernel
theorem dX11_with_9 : decode cX11_with 9 = .ok (.aload 4, 2) := by decide +kernel
theorem dX11_with_11 : decode cX11_with 11 = .ok (.iload_n 1, 1) := by decide +kernel
theorem dX11_with_12 : decode cX11_with 12 = .ok (.invokevirtual 109, 3) := by decide +kernel
theorem dX11_with_15 : decode cX11_with 15 = .ok (.ifCond .eq 28, 3) := by decide +kernel
theorem dX11_with_18 : decode cX11_with 18 = .ok (.aload_n 0, 1) := by decide +kernel
theorem dX11_with_19 : decode cX11_with 19 = .ok (.getfield 10, 3) := by decide +kernel
theorem dX11_with_22 : decode cX11_with 22 = .ok (.getfield 62, 3) := by decide +kernel
theorem dX11_with_25 : decode cX11_with 25 = .ok (.iload_n 2, 1) := by decide +kernel
theorem dX11_with_26 : decode cX11_with 26 = .ok (.invokevirtual 88, 3) := by decide +kernel
theorem dX11_with_29 : decode cX11_with 29 = .ok (.ifCond .eq 14, 3) := by decide +kernel
theorem dX11_with_32 : decode cX11_with 32 = .ok (.iload_n 3, 1) := by decide +kernel
theorem dX11_with_33 : decode cX11_with 33 = .ok (.iconst 1, 1) := by decide +kernel
theorem dX11_with_34 : decode cX11_with 34 = .ok (.sipush 999, 3) := by decide +kernel
theorem dX11_with_37 : decode cX11_with 37 = .ok (.invokestatic 57, 3) := by decide +kernel
theorem dX11_with_40 : decode cX11_with 40 = .ok (.ifCond .ne 6, 3) := by decide +kernel
theorem dX11_with_43 : decode cX11_with 43 = .ok (.ldc 61, 2) := by decide +kernel
theorem dX11_with_45 : decode cX11_with 45 = .ok (.ireturn, 1) := by decide +kernel
theorem dX11_with_46 : decode cX11_with 46 = .ok (.aload_n 0, 1) := by decide +kernel
theorem dX11_with_47 : decode cX11_with 47 = .ok (.getfield 10, 3) := by decide +kernel
theorem dX11_with_50 : decode cX11_with 50 = .ok (.getfield 118, 3) := by decide +kernel
theorem dX11_with_53 : decode cX11_with 53 = .ok (.iload_n 1, 1) := by decide +kernel
theorem dX11_with_54 : decode cX11_with 54 = .ok (.invokestatic 121, 3) := by decide +kernel
theorem dX11_with_57 : decode cX11_with 57 = .ok (.ifCond .eq 6, 3) := by decide +kernel
theorem dX11_with_60 : decode cX11_with 60 = .ok (.ldc 124, 2) := by decide +kernel
theorem dX11_with_62 : decode cX11_with 62 = .ok (.ireturn, 1) := by decide +kernel
theorem dX11_with_63 : decode cX11_with 63 = .ok (.aload 4, 2) := by decide +kernel
theorem dX11_with_65 : decode cX11_with 65 = .ok (.getfield 125, 3) := by decide +kernel
theorem dX11_with_68 : decode cX11_with 68 = .ok (.iload_n 1, 1) := by decide +kernel
theorem dX11_with_69 : decode cX11_with 69 = .ok (.aaload, 1) := by decide +kernel
theorem dX11_with_70 : decode cX11_with 70 = .ok (.iload_n 2, 1) := by decide +kernel
theorem dX11_with_71 : decode cX11_with 71 = .ok (.iaload, 1) := by decide +kernel
theorem dX11_with_72 : decode cX11_with 72 = .ok (.ifCond .ne 16, 3) := by decide +kernel
theorem dX11_with_75 : decode cX11_with 75 = .ok (.aload 4, 2) := by decide +kernel
theorem dX11_with_77 : decode cX11_with 77 = .ok (.iload_n 1, 1) := by decide +kernel
theorem dX11_with_78 : decode cX11_with 78 = .ok (.invokevirtual 128, 3) := by decide +kernel
theorem dX11_with_81 : decode cX11_with 81 = .ok (.iconst 5, 1) := by decide +kernel
theorem dX11_with_82 : decode cX11_with 82 = .ok (.if_icmp .lt 6, 3) := by decide +kernel
theorem dX11_with_85 : decode cX11_with 85 = .ok (.ldc 72, 2) := by decide +kernel
theorem dX11_with_87 : decode cX11_with 87 = .ok (.ireturn, 1) := by decide +kernel
theorem dX11_with_88 : decode cX11_with 88 = .ok (.aload 4, 2) := by decide +kernel
theorem dX11_with_90 : decode cX11_with 90 = .ok (.getfield 125, 3) := by decide +kernel
theorem dX11_with_93 : decode cX11_with 93 = .ok (.iload_n 1, 1) := by decide +kernel
theorem dX11_with_94 : decode cX11_with 94 = .ok (.aaload, 1) := by decide +kernel
theorem dX11_with_95 : decode cX11_with 95 = .ok (.iload_n 2, 1) := by decide +kernel
theorem dX11_with_96 : decode cX11_with 96 = .ok (.iload_n 3, 1) := by decide +kernel
theorem dX11_with_97 : decode cX11_with 97 = .ok (.iastore, 1) := by decide +kernel
theorem dX11_with_98 : decode cX11_with 98 = .ok (.aload 4, 2) := by decide +kernel
theorem dX11_with_100 : decode cX11_with 100 = .ok (.iload_n 1, 1) := by decide +kernel
theorem dX11_with_101 : decode cX11_with 101 = .ok (.invokevirtual 128, 3) := by decide +kernel
theorem dX11_with_104 : decode cX11_with 104 = .ok (.ireturn, 1) := by decide +kernel
theorem dX11_about_0 : decode cX11_about 0 = .ok (.aload_n 0, 1) := by decide +kernel
theorem dX11_about_1 : decode cX11_about 1 = .ok (.getfield 10, 3) := by decide +kernel
theorem dX11_about_4 : decode cX11_about 4 = .ok (.getfield 96, 3) := by decide +kernel
theorem dX11_about_7 : decode cX11_about 7 = .ok (.iload_n 1, 1) := by decide +kernel
theorem dX11_about_8 : decode cX11_about 8 = .ok (.invokevirtual 109, 3) := by decide +kernel
theorem dX11_about_11 : decode cX11_about 11 = .ok (.ifCond .ne 6, 3) := by decide +kernel
theorem dX11_about_14 : decode cX11_about 14 = .ok (.ldc 61, 2) := by decide +kernel
theorem dX11_about_16 : decode cX11_about 16 = .ok (.ireturn, 1) := by decide +kernel
theorem dX11_about_17 : decode cX11_about 17 = .ok (.iload_n 2, 1) := by decide +kernel
theorem dX11_about_18 : decode cX11_about 18 = .ok (.tableswitch 122 0 6 #[42, 55, 68, 77, 86, 98, 110], 42) := by decide +kernel
theorem dX11_about_60 : decode cX11_about 60 = .ok (.aload_n 0, 1) := by decide +kernel
theorem dX11_about_61 : decode cX11_about 61 = .ok (.getfield 10, 3) := by decide +kernel
theorem dX11_about_64 : decode cX11_about 64 = .ok (.getfield 96, 3) := by decide +kernel
theorem dX11_about_67 : decode cX11_about 67 = .ok (.getfield 103, 3) := by decide +kernel
theorem dX11_about_70 : decode cX11_about 70 = .ok (.iload_n 1, 1) := by decide +kernel
theorem dX11_about_71 : decode cX11_about 71 = .ok (.iaload, 1) := by decide +kernel
theorem dX11_about_72 : decode cX11_about 72 = .ok (.ireturn, 1) := by decide +kernel
theorem dX11_about_73 : decode cX11_about 73 = .ok (.aload_n 0, 1) := by decide +kernel
theorem dX11_about_74 : decode cX11_about 74 = .ok (.getfield 10, 3) := by decide +kernel
theorem dX11_about_77 : decode cX11_about 77 = .ok (.getfield 96, 3) := by decide +kernel
theorem dX11_about_80 : decode cX11_about 80 = .ok (.getfield 106, 3) := by decide +kernel
theorem dX11_about_83 : decode cX11_about 83 = .ok (.iload_n 1, 1) := by decide +kernel
theorem dX11_about_84 : decode cX11_about 84 = .ok (.iaload, 1) := by decide +kernel
theorem dX11_about_85 : decode cX11_about 85 = .ok (.ireturn, 1) := by decide +kernel
theorem dX11_about_86 : decode cX11_about 86 = .ok (.aload_n 0, 1) := by decide +kernel
theorem dX11_about_87 : decode cX11_about 87 = .ok (.getfield 10, 3) := by decide +kernel
theorem dX11_about_90 : decode cX11_about 90 = .ok (.iload_n 1, 1) := by decide +kernel
theorem dX11_about_91 : decode cX11_about 91 = .ok (.invokevirtual 132, 3) := by decide +kernel
theorem dX11_about_94 : decode cX11_about 94 = .ok (.ireturn, 1) := by decide +kernel
theorem dX11_about_95 : decode cX11_about 95 = .ok (.aload_n 0, 1) := by decide +kernel
theorem dX11_about_96 : decode cX11_about 96 = .ok (.getfield 10, 3) := by decide +kernel
theorem dX11_about_99 : decode cX11_about 99 = .ok (.iload_n 1, 1) := by decide +kernel
theorem dX11_about_100 : decode cX11_about 100 = .ok (.invokevirtual 135, 3) := by decide +kernel
theorem dX11_about_103 : decode cX11_about 103 = .ok (.ireturn, 1) := by decide +kernel
theorem dX11_about_104 : decode cX11_about 104 = .ok (.aload_n 0, 1) := by decide +kernel
theorem dX11_about_105 : decode cX11_about 105 = .ok (.getfield 10, 3) := by decide +kernel
theorem dX11_about_108 : decode cX11_about 108 = .ok (.getfield 96, 3) := by decide +kernel
theorem dX11_about_111 : decode cX11_about 111 = .ok (.iload_n 1, 1) := by decide +kernel
theorem dX11_about_112 : decode cX11_about 112 = .ok (.invokevirtual 128, 3) := by decide +kernel
theorem dX11_about_115 : decode cX11_about 115 = .ok (.ireturn, 1) := by decide +kernel
theorem dX11_about_116 : decode cX11_about 116 = .ok (.aload_n 0, 1) := by decide +kernel
theorem dX11_about_117 : decode cX11_about 117 = .ok (.getfield 10, 3) := by decide +kernel
theorem dX11_about_120 : decode cX11_about 120 = .ok (.getfield 96, 3) := by decide +kernel
theorem dX11_about_123 : decode cX11_about 123 = .ok (.iload_n 1, 1) := by decide +kernel
theorem dX11_about_124 : decode cX11_about 124 = .ok (.invokevirtual 138, 3) := by decide +kernel
theorem dX11_about_127 : decode cX11_about 127 = .ok (.ireturn, 1) := by decide +kernel
theorem dX11_about_128 : decode cX11_about 128 = .ok (.aload_n 0, 1) := by decide +kernel
theorem dX11_about_129 : decode cX11_about 129 = .ok (.getfield 10, 3) := by decide +kernel
theorem dX11_about_132 : decode cX11_about 132 = .ok (.iload_n 1, 1) := by decide +kernel
theorem dX11_about_133 : decode cX11_about 133 = .ok (.invokevirtual 141, 3) := by decide +kernel
theorem dX11_about_136 : decode cX11_about 136 = .ok (.invokestatic 114, 3) := by decide +kernel
theorem dX11_about_139 : decode cX11_about 139 = .ok (.ireturn, 1) := by decide +kernel
theorem dX11_about_140 : decode cX11_about 140 = .ok (.ldc 61, 2) := by decide +kernel
theorem dX11_about_142 : decode cX11_about 142 = .ok (.ireturn, 1) := by decide +kernel
theorem dX11_family_0 : decode cX11_family 0 = .ok (.iload_n 2, 1) := by decide +kernel
theorem dX11_family_1 : decode cX11_family 1 = .ok (.bipush 10, 2) := by decide +kernel
theorem dX11_family_3 : decode cX11_family 3 = .ok (.irem, 1) := by decide +kernel
theorem dX11_family_4 : decode cX11_family 4 = .ok (.istore_n 3, 1) := by decide +kernel
theorem dX11_family_5 : decode cX11_family 5 = .ok (.iload_n 2, 1) := by decide +kernel
theorem dX11_family_6 : decode cX11_family 6 = .ok (.bipush 10, 2) := by decide +kernel
theorem dX11_family_8 : decode cX11_family 8 = .ok (.idiv, 1) := by decide +kernel
theorem dX11_family_9 : decode cX11_family 9 = .ok (.sipush 1000, 3) := by decide +kernel
theorem dX11_family_12 : decode cX11_family 12 = .ok (.irem, 1) := by decide +kernel
theorem dX11_family_13 : decode cX11_family 13 = .ok (.istore 4, 2) := by decide +kernel
theorem dX11_family_15 : decode cX11_family 15 = .ok (.iload_n 2, 1) := by decide +kernel
theorem dX11_family_16 : decode cX11_family 16 = .ok (.sipush 10000, 3) := by decide +kernel
theorem dX11_family_19 : decode cX11_family 19 = .ok (.idiv, 1) := by decide +kernel
theorem dX11_family_20 : decode cX11_family 20 = .ok (.istore 5, 2) := by decide +kernel
theorem dX11_family_22 : decode cX11_family 22 = .ok (.iload_n 1, 1) := by decide +kernel
theorem dX11_family_23 : decode cX11_family 23 = .ok (.iconst 0, 1) := by decide +kernel
theorem dX11_family_24 : decode cX11_family 24 = .ok (.sipush 255, 3) := by decide +kernel
theorem dX11_family_27 : decode cX11_family 27 = .ok (.invokestatic 57, 3) := by decide +kernel
theorem dX11_family_30 : decode cX11_family 30 = .ok (.ifCond .eq 23, 3) := by decide +kernel
theorem dX11_family_33 : decode cX11_family 33 = .ok (.iload_n 2, 1) := by decide +kernel
theorem dX11_family_34 : decode cX11_family 34 = .ok (.ifCond .lt 19, 3) := by decide +kernel
theorem dX11_family_37 : decode cX11_family 37 = .ok (.iload_n 3, 1) := by decide +kernel
theorem dX11_family_38 : decode cX11_family 38 = .ok (.iconst 1, 1) := by decide +kernel
theorem dX11_family_39 : decode cX11_family 39 = .ok (.bipush 6, 2) := by decide +kernel
theorem dX11_family_41 : decode cX11_family 41 = .ok (.invokestatic 57, 3) := by decide +kernel
theorem dX11_family_44 : decode cX11_family 44 = .ok (.ifCond .eq 9, 3) := by decide +kernel
theorem dX11_family_47 : decode cX11_family 47 = .ok (.iload 5, 2) := by decide +kernel
theorem dX11_family_49 : decode cX11_family 49 = .ok (.iconst 1, 1) := by decide +kernel
theorem dX11_family_50 : decode cX11_family 50 = .ok (.if_icmp .le 6, 3) := by decide +kernel
theorem dX11_family_53 : decode cX11_family 53 = .ok (.ldc 61, 2) := by decide +kernel
theorem dX11_family_55 : decode cX11_family 55 = .ok (.ireturn, 1) := by decide +kernel
theorem dX11_family_56 : decode cX11_family 56 = .ok (.aload_n 0, 1) := by decide +kernel
theorem dX11_family_57 : decode cX11_family 57 = .ok (.getfield 10, 3) := by decide +kernel
theorem dX11_family_60 : decode cX11_family 60 = .ok (.getfield 144, 3) := by decide +kernel
theorem dX11_family_63 : decode cX11_family 63 = .ok (.astore 6, 2) := by decide +kernel
theorem dX11_family_65 : decode cX11_family 65 = .ok (.aload 6, 2) := by decide +kernel
theorem dX11_family_67 : decode cX11_family 67 = .ok (.getfield 148, 3) := by decide +kernel
theorem dX11_family_70 : decode cX11_family 70 = .ok (.bipush 12, 2) := by decide +kernel
theorem dX11_family_72 : decode cX11_family 72 = .ok (.if_icmp .lt 6, 3) := by decide +kernel
theorem dX11_family_75 : decode cX11_family 75 = .ok (.ldc 72, 2) := by decide +kernel
theorem dX11_family_77 : decode cX11_family 77 = .ok (.ireturn, 1) := by decide +kernel
theorem dX11_family_78 : decode cX11_family 78 = .ok (.aload 6, 2) := by decide +kernel
theorem dX11_family_80 : decode cX11_family 80 = .ok (.dup, 1) := by decide +kernel
theorem dX11_family_81 : decode cX11_family 81 = .ok (.getfield 148, 3) := by decide +kernel
theorem dX11_family_84 : decode cX11_family 84 = .ok (.dup_x1, 1) := by decide +kernel
theorem dX11_family_85 : decode cX11_family 85 = .ok (.iconst 1, 1) := by decide +kernel
theorem dX11_family_86 : decode cX11_family 86 = .ok (.iadd, 1) := by decide +kernel
theorem dX11_family_87 : decode cX11_family 87 = .ok (.putfield 148, 3) := by decide +kernel
theorem dX11_family_90 : decode cX11_family 90 = .ok (.istore 7, 2) := by decide +kernel
theorem dX11_family_92 : decode cX11_family 92 = .ok (.aload 6, 2) := by decide +kernel
theorem dX11_family_94 : decode cX11_family 94 = .ok (.getfield 151, 3) := by decide +kernel
theorem dX11_family_97 : decode cX11_family 97 = .ok (.iload 7, 2) := by decide +kernel
theorem dX11_family_99 : decode cX11_family 99 = .ok (.iload_n 1, 1) := by decide +kernel
theorem dX11_family_100 : decode cX11_family 100 = .ok (.iastore, 1) := by decide +kernel
theorem dX11_family_101 : decode cX11_family 101 = .ok (.aload 6, 2) := by decide +kernel
theorem dX11_family_103 : decode cX11_family 103 = .ok (.getfield 154, 3) := by decide +kernel
theorem dX11_family_106 : decode cX11_family 106 = .ok (.iload 7, 2) := by decide +kernel
theorem dX11_family_108 : decode cX11_family 108 = .ok (.iload_n 3, 1) := by decide +kernel
theorem dX11_family_109 : decode cX11_family 109 = .ok (.iastore, 1) := by decide +kernel
theorem dX11_family_110 : decode cX11_family 110 = .ok (.aload 6, 2) := by decide +kernel
theorem dX11_family_112 : decode cX11_family 112 = .ok (.getfield 157, 3) := by decide +kernel
theorem dX11_family_115 : decode cX11_family 115 = .ok (.iload 7, 2) := by decide +kernel
theorem dX11_family_117 : decode cX11_family 117 = .ok (.iload 4, 2) := by decide +kernel
theorem dX11_family_119 : decode cX11_family 119 = .ok (.iastore, 1) := by decide +kernel
theorem dX11_family_120 : decode cX11_family 120 = .ok (.aload 6, 2) := by decide +kernel
theorem dX11_family_122 : decode cX11_family 122 = .ok (.getfield 160, 3) := by decide +kernel
theorem dX11_family_125 : decode cX11_family 125 = .ok (.iload 7, 2) := by decide +kernel
theorem dX11_family_127 : decode cX11_family 127 = .ok (.iload 5, 2) := by decide +kernel
theorem dX11_family_129 : decode cX11_family 129 = .ok (.iastore, 1) := by decide +kernel
theorem dX11_family_130 : decode cX11_family 130 = .ok (.iload 7, 2) := by decide +kernel
theorem dX11_family_132 : decode cX11_family 132 = .ok (.ireturn, 1) := by decide +kernel
theorem dX11_likes_0 : decode cX11_likes 0 = .ok (.aload_n 0, 1) := by decide +kernel
theorem dX11_likes_1 : decode cX11_likes 1 = .ok (.getfield 10, 3) := by decide +kernel
theorem dX11_likes_4 : decode cX11_likes 4 = .ok (.getfield 144, 3) := by decide +kernel
theorem dX11_likes_7 : decode cX11_likes 7 = .ok (.iload_n 1, 1) := by decide +kernel
theorem dX11_likes_8 : decode cX11_likes 8 = .ok (.invokevirtual 163, 3) := by decide +kernel
theorem dX11_likes_11 : decode cX11_likes 11 = .ok (.ifCond .eq 24, 3) := by decide +kernel
theorem dX11_likes_14 : decode cX11_likes 14 = .ok (.aload_n 0, 1) := by decide +kernel
theorem dX11_likes_15 : decode cX11_likes 15 = .ok (.getfield 10, 3) := by decide +kernel
theorem dX11_likes_18 : decode cX11_likes 18 = .ok (.getfield 96, 3) := by decide +kernel
theorem dX11_likes_21 : decode cX11_likes 21 = .ok (.iload_n 2, 1) := by decide +kernel
theorem dX11_likes_22 : decode cX11_likes 22 = .ok (.invokevirtual 109, 3) := by decide +kernel
theorem dX11_likes_25 : decode cX11_likes 25 = .ok (.ifCond .eq 10, 3) := by decide +kernel
theorem dX11_likes_28 : decode cX11_likes 28 = .ok (.iload_n 3, 1) := by decide +kernel
theorem dX11_likes_29 : decode cX11_likes 29 = .ok (.invokestatic 164, 3) := by decide +kernel
theorem dX11_likes_32 : decode cX11_likes 32 = .ok (.ifCond .ne 6, 3) := by decide +kernel
theorem dX11_likes_35 : decode cX11_likes 35 = .ok (.ldc 61, 2) := by decide +kernel
theorem dX11_likes_37 : decode cX11_likes 37 = .ok (.ireturn, 1) := by decide +kernel
theorem dX11_likes_38 : decode cX11_likes 38 = .ok (.aload_n 0, 1) := by decide +kernel
theorem dX11_likes_39 : decode cX11_likes 39 = .ok (.getfield 10, 3) := by decide +kernel
theorem dX11_likes_42 : decode cX11_likes 42 = .ok (.getfield 144, 3) := by decide +kernel
theorem dX11_likes_45 : decode cX11_likes 45 = .ok (.getfield 167, 3) := by decide +kernel
theorem dX11_likes_48 : decode cX11_likes 48 = .ok (.iload_n 1, 1) := by decide +kernel
theorem dX11_likes_49 : decode cX11_likes 49 = .ok (.aaload, 1) := by decide +kernel
theorem dX11_likes_50 : decode cX11_likes 50 = .ok (.iload_n 2, 1) := by decide +kernel
theorem dX11_likes_51 : decode cX11_likes 51 = .ok (.iaload, 1) := by decide +kernel
theorem dX11_likes_52 : decode cX11_likes 52 = .ok (.istore 4, 2) := by decide +kernel
theorem dX11_likes_54 : decode cX11_likes 54 = .ok (.aload_n 0, 1) := by decide +kernel
theorem dX11_likes_55 : decode cX11_likes 55 = .ok (.getfield 10, 3) := by decide +kernel
theorem dX11_likes_58 : decode cX11_likes 58 = .ok (.getfield 144, 3) := by decide +kernel
theorem dX11_likes_61 : decode cX11_likes 61 = .ok (.getfield 167, 3) := by decide +kernel
theorem dX11_likes_64 : decode cX11_likes 64 = .ok (.iload_n 1, 1) := by decide +kernel
theorem dX11_likes_65 : decode cX11_likes 65 = .ok (.aaload, 1) := by decide +kernel
theorem dX11_likes_66 : decode cX11_likes 66 = .ok (.iload_n 2, 1) := by decide +kernel
theorem dX11_likes_67 : decode cX11_likes 67 = .ok (.iload_n 3, 1) := by decide +kernel
theorem dX11_likes_68 : decode cX11_likes 68 = .ok (.iastore, 1) := by decide +kernel
theorem dX11_likes_69 : decode cX11_likes 69 = .ok (.iload 4, 2) := by decide +kernel
theorem dX11_likes_71 : decode cX11_likes 71 = .ok (.ireturn, 1) := by decide +kernel
theorem dX11_lay_0 : decode cX11_lay 0 = .ok (.aload_n 0, 1) := by decide +kernel
theorem dX11_lay_1 : decode cX11_lay 1 = .ok (.getfield 10, 3) := by decide +kernel
theorem dX11_lay_4 : decode cX11_lay 4 = .ok (.getfield 144, 3) := by decide +kernel
theorem dX11_lay_7 : decode cX11_lay 7 = .ok (.iload_n 1, 1) := by decide +kernel
theorem dX11_lay_8 : decode cX11_lay 8 = .ok (.invokevirtual 163, 3) := by decide +kernel
theorem dX11_lay_11 : decode cX11_lay 11 = .ok (.ifCond .eq 14, 3) := by decide +kernel
theorem dX11_lay_14 : decode cX11_lay 14 = .ok (.aload_n 0, 1) := by decide +kernel
theorem dX11_lay_15 : decode cX11_lay 15 = .ok (.getfield 49, 3) := by decide +kernel
theorem dX11_lay_18 : decode cX11_lay 18 = .ok (.iload_n 2, 1) := by decide +kernel
theorem dX11_lay_19 : decode cX11_lay 19 = .ok (.invokevirtual 170, 3) := by decide +kernel
theorem dX11_lay_22 : decode cX11_lay 22 = .ok (.ifCond .ne 6, 3) := by decide +kernel
theorem dX11_lay_25 : decode cX11_lay 25 = .ok (.ldc 61, 2) := by decide +kernel
theorem dX11_lay_27 : decode cX11_lay 27 = .ok (.ireturn, 1) := by decide +kernel
theorem dX11_lay_28 : decode cX11_lay 28 = .ok (.aload_n 0, 1) := by decide +kernel
theorem dX11_lay_29 : decode cX11_lay 29 = .ok (.getfield 49, 3) := by decide +kernel
theorem dX11_lay_32 : decode cX11_lay 32 = .ok (.iload_n 2, 1) := by decide +kernel
theorem dX11_lay_33 : decode cX11_lay 33 = .ok (.invokevirtual 173, 3) := by decide +kernel
theorem dX11_lay_36 : decode cX11_lay 36 = .ok (.ifCond .eq 6, 3) := by decide +kernel
theorem dX11_lay_39 : decode cX11_lay 39 = .ok (.ldc 176, 2) := by decide +kernel
theorem dX11_lay_41 : decode cX11_lay 41 = .ok (.ireturn, 1) := by decide +kernel
theorem dX11_lay_42 : decode cX11_lay 42 = .ok (.aload_n 0, 1) := by decide +kernel
theorem dX11_lay_43 : decode cX11_lay 43 = .ok (.getfield 10, 3) := by decide +kernel
theorem dX11_lay_46 : decode cX11_lay 46 = .ok (.getfield 96, 3) := by decide +kernel
theorem dX11_lay_49 : decode cX11_lay 49 = .ok (.getfield 100, 3) := by decide +kernel
theorem dX11_lay_52 : decode cX11_lay 52 = .ok (.aload_n 0, 1) := by decide +kernel
theorem dX11_lay_53 : decode cX11_lay 53 = .ok (.getfield 49, 3) := by decide +kernel
theorem dX11_lay_56 : decode cX11_lay 56 = .ok (.getfield 177, 3) := by decide +kernel
theorem dX11_lay_59 : decode cX11_lay 59 = .ok (.iload_n 2, 1) := by decide +kernel
theorem dX11_lay_60 : decode cX11_lay 60 = .ok (.iaload, 1) := by decide +kernel
theorem dX11_lay_61 : decode cX11_lay 61 = .ok (.invokestatic 180, 3) := by decide +kernel
theorem dX11_lay_64 : decode cX11_lay 64 = .ok (.istore_n 3, 1) := by decide +kernel
theorem dX11_lay_65 : decode cX11_lay 65 = .ok (.iconst 0, 1) := by decide +kernel
theorem dX11_lay_66 : decode cX11_lay 66 = .ok (.istore 4, 2) := by decide +kernel
theorem dX11_lay_68 : decode cX11_lay 68 = .ok (.iconst 0, 1) := by decide +kernel
theorem dX11_lay_69 : decode cX11_lay 69 = .ok (.istore 5, 2) := by decide +kernel
theorem dX11_lay_71 : decode cX11_lay 71 = .ok (.iload 5, 2) := by decide +kernel
theorem dX11_lay_73 : decode cX11_lay 73 = .ok (.iload_n 3, 1) := by decide +kernel
theorem dX11_lay_74 : decode cX11_lay 74 = .ok (.if_icmp .ge 51, 3) := by decide +kernel
theorem dX11_lay_77 : decode cX11_lay 77 = .ok (.aload_n 0, 1) := by decide +kernel
theorem dX11_lay_78 : decode cX11_lay 78 = .ok (.getfield 49, 3) := by decide +kernel
theorem dX11_lay_81 : decode cX11_lay 81 = .ok (.getfield 186, 3) := by decide +kernel
theorem dX11_lay_84 : decode cX11_lay 84 = .ok (.iload_n 2, 1) := by decide +kernel
theorem dX11_lay_85 : decode cX11_lay 85 = .ok (.aaload, 1) := by decide +kernel
theorem dX11_lay_86 : decode cX11_lay 86 = .ok (.iload 5, 2) := by decide +kernel
theorem dX11_lay_88 : decode cX11_lay 88 = .ok (.saload, 1) := by decide +kernel
theorem dX11_lay_89 : decode cX11_lay 89 = .ok (.istore 6, 2) := by decide +kernel
theorem dX11_lay_91 : decode cX11_lay 91 = .ok (.iload 6, 2) := by decide +kernel
theorem dX11_lay_93 : decode cX11_lay 93 = .ok (.invokestatic 164, 3) := by decide +kernel
theorem dX11_lay_96 : decode cX11_lay 96 = .ok (.ifCond .eq 23, 3) := by decide +kernel
theorem dX11_lay_99 : decode cX11_lay 99 = .ok (.aload_n 0, 1) := by decide +kernel
theorem dX11_lay_100 : decode cX11_lay 100 = .ok (.getfield 10, 3) := by decide +kernel
theorem dX11_lay_103 : decode cX11_lay 103 = .ok (.getfield 144, 3) := by decide +kernel
theorem dX11_lay_106 : decode cX11_lay 106 = .ok (.getfield 167, 3) := by decide +kernel
theorem dX11_lay_109 : decode cX11_lay 109 = .ok (.iload_n 1, 1) := by decide +kernel
theorem dX11_lay_110 : decode cX11_lay 110 = .ok (.aaload, 1) := by decide +kernel
theorem dX11_lay_111 : decode cX11_lay 111 = .ok (.iload 5, 2) := by decide +kernel
theorem dX11_lay_113 : decode cX11_lay 113 = .ok (.iload 6, 2) := by decide +kernel
theorem dX11_lay_115 : decode cX11_lay 115 = .ok (.iastore, 1) := by decide +kernel
theorem dX11_lay_116 : decode cX11_lay 116 = .ok (.iinc 4 1, 3) := by decide +kernel
theorem dX11_lay_119 : decode cX11_lay 119 = .ok (.iinc 5 1, 3) := by decide +kernel
theorem dX11_lay_122 : decode cX11_lay 122 = .ok (.goto (-51), 3) := by decide +kernel
theorem dX11_lay_125 : decode cX11_lay 125 = .ok (.iload 4, 2) := by decide +kernel
theorem dX11_lay_127 : decode cX11_lay 127 = .ok (.ireturn, 1) := by decide +kernel
theorem dX11_may_0 : decode cX11_may 0 = .ok (.aload_n 0, 1) := by decide +kernel
theorem dX11_may_1 : decode cX11_may 1 = .ok (.getfield 10, 3) := by decide +kernel
theorem dX11_may_4 : decode cX11_may 4 = .ok (.getfield 144, 3) := by decide +kernel
theorem dX11_may_7 : decode cX11_may 7 = .ok (.iload_n 1, 1) := by decide +kernel
theorem dX11_may_8 : decode cX11_may 8 = .ok (.invokevirtual 163, 3) := by decide +kernel
theorem dX11_may_11 : decode cX11_may 11 = .ok (.ifCond .eq 17, 3) := by decide +kernel
theorem dX11_may_14 : decode cX11_may 14 = .ok (.aload_n 0, 1) := by decide +kernel
theorem dX11_may_15 : decode cX11_may 15 = .ok (.getfield 10, 3) := by decide +kernel
theorem dX11_may_18 : decode cX11_may 18 = .ok (.getfield 96, 3) := by decide +kernel
theorem dX11_may_21 : decode cX11_may 21 = .ok (.iload_n 2, 1) := by decide +kernel
theorem dX11_may_22 : decode cX11_may 22 = .ok (.invokevirtual 109, 3) := by decide +kernel
theorem dX11_may_25 : decode cX11_may 25 = .ok (.ifCond .ne 6, 3) := by decide +kernel
theorem dX11_may_28 : decode cX11_may 28 = .ok (.ldc 61, 2) := by decide +kernel
theorem dX11_may_30 : decode cX11_may 30 = .ok (.ireturn, 1) := by decide +kernel
theorem dX11_may_31 : decode cX11_may 31 = .ok (.aload_n 0, 1) := by decide +kernel
theorem dX11_may_32 : decode cX11_may 32 = .ok (.getfield 10, 3) := by decide +kernel
theorem dX11_may_35 : decode cX11_may 35 = .ok (.iload_n 1, 1) := by decide +kernel
theorem dX11_may_36 : decode cX11_may 36 = .ok (.iload_n 2, 1) := by decide +kernel
theorem dX11_may_37 : decode cX11_may 37 = .ok (.invokevirtual 190, 3) := by decide +kernel
theorem dX11_may_40 : decode cX11_may 40 = .ok (.invokestatic 114, 3) := by decide +kernel
theorem dX11_may_43 : decode cX11_may 43 = .ok (.ireturn, 1) := by decide +kernel
theorem dX11_choose_0 : decode cX11_choose 0 = .ok (.aload_n 0, 1) := by decide +kernel
theorem dX11_choose_1 : decode cX11_choose 1 = .ok (.getfield 10, 3) := by decide +kernel
theorem dX11_choose_4 : decode cX11_choose 4 = .ok (.getfield 144, 3) := by decide +kernel
theorem dX11_choose_7 : decode cX11_choose 7 = .ok (.iload_n 1, 1) := by decide +kernel
theorem dX11_choose_8 : decode cX11_choose 8 = .ok (.invokevirtual 163, 3) := by decide +kernel
theorem dX11_choose_11 : decode cX11_choose 11 = .ok (.ifCond .ne 6, 3) := by decide +kernel
theorem dX11_choose_14 : decode cX11_choose 14 = .ok (.ldc 61, 2) := by decide +kernel
theorem dX11_choose_16 : decode cX11_choose 16 = .ok (.ireturn, 1) := by decide +kernel
theorem dX11_choose_17 : decode cX11_choose 17 = .ok (.iload_n 2, 1) := by decide +kernel
theorem dX11_choose_18 : decode cX11_choose 18 = .ok (.iconst (-1), 1) := by decide +kernel
theorem dX11_choose_19 : decode cX11_choose 19 = .ok (.if_icmp .eq 18, 3) := by decide +kernel
theorem dX11_choose_22 : decode cX11_choose 22 = .ok (.aload_n 0, 1) := by decide +kernel
theorem dX11_choose_23 : decode cX11_choose 23 = .ok (.getfield 10, 3) := by decide +kernel
theorem dX11_choose_26 : decode cX11_choose 26 = .ok (.iload_n 1, 1) := by decide +kernel
theorem dX11_choose_27 : decode cX11_choose 27 = .ok (.iload_n 2, 1) := by decide +kernel
theorem dX11_choose_28 : decode cX11_choose 28 = .ok (.invokevirtual 193, 3) := by decide +kernel
theorem dX11_choose_31 : decode cX11_choose 31 = .ok (.ifCond .ne 6, 3) := by decide +kernel
theorem dX11_choose_34 : decode cX11_choose 34 = .ok (.ldc 61, 2) := by decide +kernel
theorem dX11_choose_36 : decode cX11_choose 36 = .ok (.ireturn, 1) := by decide +kernel
theorem dX11_choose_37 : decode cX11_choose 37 = .ok (.aload_n 0, 1) := by decide +kernel
theorem dX11_choose_38 : decode cX11_choose 38 = .ok (.getfield 10, 3) := by decide +kernel
theorem dX11_choose_41 : decode cX11_choose 41 = .ok (.getfield 196, 3) := by decide +kernel
theorem dX11_choose_44 : decode cX11_choose 44 = .ok (.ifCond .eq 6, 3) := by decide +kernel
theorem dX11_choose_47 : decode cX11_choose 47 = .ok (.ldc 124, 2) := by decide +kernel
theorem dX11_choose_49 : decode cX11_choose 49 = .ok (.ireturn, 1) := by decide +kernel
theorem dX11_choose_50 : decode cX11_choose 50 = .ok (.aload_n 0, 1) := by decide +kernel
theorem dX11_choose_51 : decode cX11_choose 51 = .ok (.getfield 10, 3) := by decide +kernel
theorem dX11_choose_54 : decode cX11_choose 54 = .ok (.getfield 144, 3) := by decide +kernel
theorem dX11_choose_57 : decode cX11_choose 57 = .ok (.getfield 200, 3) := by decide +kernel
theorem dX11_choose_60 : decode cX11_choose 60 = .ok (.iload_n 1, 1) := by decide +kernel
theorem dX11_choose_61 : decode cX11_choose 61 = .ok (.iaload, 1) := by decide +kernel
theorem dX11_choose_62 : decode cX11_choose 62 = .ok (.istore_n 3, 1) := by decide +kernel
theorem dX11_choose_63 : decode cX11_choose 63 = .ok (.aload_n 0, 1) := by decide +kernel
theorem dX11_choose_64 : decode cX11_choose 64 = .ok (.getfield 10, 3) := by decide +kernel
theorem dX11_choose_67 : decode cX11_choose 67 = .ok (.getfield 144, 3) := by decide +kernel
theorem dX11_choose_70 : decode cX11_choose 70 = .ok (.getfield 200, 3) := by decide +kernel
theorem dX11_choose_73 : decode cX11_choose 73 = .ok (.iload_n 1, 1) := by decide +kernel
theorem dX11_choose_74 : decode cX11_choose 74 = .ok (.iload_n 2, 1) := by decide +kernel
theorem dX11_choose_75 : decode cX11_choose 75 = .ok (.iastore, 1) := by decide +kernel
theorem dX11_choose_76 : decode cX11_choose 76 = .ok (.iload_n 3, 1) := by decide +kernel
theorem dX11_choose_77 : decode cX11_choose 77 = .ok (.ireturn, 1) := by decide +kernel
theorem dX11_box_0 : decode cX11_box 0 = .ok (.aload_n 0, 1) := by decide +kernel
theorem dX11_box_1 : decode cX11_box 1 = .ok (.getfield 10, 3) := by decide +kernel
theorem dX11_box_4 : decode cX11_box 4 = .ok (.getfield 144, 3) := by decide +kernel
theorem dX11_box_7 : decode cX11_box 7 = .ok (.iload_n 1, 1) := by decide +kernel
theorem dX11_box_8 : decode cX11_box 8 = .ok (.invokevirtual 163, 3) := by decide +kernel
theorem dX11_box_11 : decode cX11_box 11 = .ok (.ifCond .eq 18, 3) := by decide +kernel
theorem dX11_box_14 : decode cX11_box 14 = .ok (.iload_n 2, 1) := by decide +kernel
theorem dX11_box_15 : decode cX11_box 15 = .ok (.iconst 0, 1) := by decide +kernel
theorem dX11_box_16 : decode cX11_box 16 = .ok (.aload_n 0, 1) := by decide +kernel
theorem dX11_box_17 : decode cX11_box 17 = .ok (.getfield 10, 3) := by decide +kernel
theorem dX11_box_20 : decode cX11_box 20 = .ok (.getfield 203, 3) := by decide +kernel
theorem dX11_box_23 : decode cX11_box 23 = .ok (.invokestatic 57, 3) := by decide +kernel
theorem dX11_box_26 : decode cX11_box 26 = .ok (.ifCond .ne 6, 3) := by decide +kernel
theorem dX11_box_29 : decode cX11_box 29 = .ok (.ldc 61, 2) := by decide +kernel
theorem dX11_box_31 : decode cX11_box 31 = .ok (.ireturn, 1) := by decide +kernel
theorem dX11_box_32 : decode cX11_box 32 = .ok (.iload_n 2, 1) := by decide +kernel
theorem dX11_box_33 : decode cX11_box 33 = .ok (.aload_n 0, 1) := by decide +kernel
theorem dX11_box_34 : decode cX11_box 34 = .ok (.getfield 10, 3) := by decide +kernel
theorem dX11_box_37 : decode cX11_box 37 = .ok (.getfield 203, 3) := by decide +kernel
theorem dX11_box_40 : decode cX11_box 40 = .ok (.if_icmp .ne 14, 3) := by decide +kernel
theorem dX11_box_43 : decode cX11_box 43 = .ok (.aload_n 0, 1) := by decide +kernel
theorem dX11_box_44 : decode cX11_box 44 = .ok (.getfield 10, 3) := by decide +kernel
theorem dX11_box_47 : decode cX11_box 47 = .ok (.iload_n 1, 1) := by decide +kernel
theorem dX11_box_48 : decode cX11_box 48 = .ok (.invokevirtual 206, 3) := by decide +kernel
theorem dX11_box_51 : decode cX11_box 51 = .ok (.goto 17, 3) := by decide +kernel
theorem dX11_box_54 : decode cX11_box 54 = .ok (.aload_n 0, 1) := by decide +kernel
theorem dX11_box_55 : decode cX11_box 55 = .ok (.getfield 10, 3) := by decide +kernel
theorem dX11_box_58 : decode cX11_box 58 = .ok (.getfield 144, 3) := by decide +kernel
theorem dX11_box_61 : decode cX11_box 61 = .ok (.getfield 209, 3) := by decide +kernel
theorem dX11_box_64 : decode cX11_box 64 = .ok (.iload_n 1, 1) := by decide +kernel
theorem dX11_box_65 : decode cX11_box 65 = .ok (.aaload, 1) := by decide +kernel
theorem dX11_box_66 : decode cX11_box 66 = .ok (.iload_n 2, 1) := by decide +kernel
theorem dX11_box_67 : decode cX11_box 67 = .ok (.iaload, 1) := by decide +kernel
theorem dX11_box_68 : decode cX11_box 68 = .ok (.ireturn, 1) := by decide +kernel
theorem dX11_ice_0 : decode cX11_ice 0 = .ok (.aload_n 0, 1) := by decide +kernel
theorem dX11_ice_1 : decode cX11_ice 1 = .ok (.getfield 10, 3) := by decide +kernel
theorem dX11_ice_4 : decode cX11_ice 4 = .ok (.getfield 144, 3) := by decide +kernel
theorem dX11_ice_7 : decode cX11_ice 7 = .ok (.iload_n 1, 1) := by decide +kernel
theorem dX11_ice_8 : decode cX11_ice 8 = .ok (.invokevirtual 163, 3) := by decide +kernel
theorem dX11_ice_11 : decode cX11_ice 11 = .ok (.ifCond .ne 6, 3) := by decide +kernel
theorem dX11_ice_14 : decode cX11_ice 14 = .ok (.ldc 61, 2) := by decide +kernel
theorem dX11_ice_16 : decode cX11_ice 16 = .ok (.ireturn, 1) := by decide +kernel
theorem dX11_ice_17 : decode cX11_ice 17 = .ok (.aload_n 0, 1) := by decide +kernel
theorem dX11_ice_18 : decode cX11_ice 18 = .ok (.getfield 10, 3) := by decide +kernel
theorem dX11_ice_21 : decode cX11_ice 21 = .ok (.iload_n 1, 1) := by decide +kernel
theorem dX11_ice_22 : decode cX11_ice 22 = .ok (.invokevirtual 212, 3) := by decide +kernel
theorem dX11_ice_25 : decode cX11_ice 25 = .ok (.ireturn, 1) := by decide +kernel
theorem dX11_feed_0 : decode cX11_feed 0 = .ok (.aload_n 0, 1) := by decide +kernel
theorem dX11_feed_1 : decode cX11_feed 1 = .ok (.getfield 19, 3) := by decide +kernel
theorem dX11_feed_4 : decode cX11_feed 4 = .ok (.getfield 215, 3) := by decide +kernel
theorem dX11_feed_7 : decode cX11_feed 7 = .ok (.bipush 12, 2) := by decide +kernel
theorem dX11_feed_9 : decode cX11_feed 9 = .ok (.iadd, 1) := by decide +kernel
theorem dX11_feed_10 : decode cX11_feed 10 = .ok (.bipush 120, 2) := by decide +kernel
theorem dX11_feed_12 : decode cX11_feed 12 = .ok (.if_icmp .le 6, 3) := by decide +kernel
theorem dX11_feed_15 : decode cX11_feed 15 = .ok (.ldc 72, 2) := by decide +kernel
theorem dX11_feed_17 : decode cX11_feed 17 = .ok (.ireturn, 1) := by decide +kernel
theorem dX11_feed_18 : decode cX11_feed 18 = .ok (.aload_n 0, 1) := by decide +kernel
theorem dX11_feed_19 : decode cX11_feed 19 = .ok (.getfield 19, 3) := by decide +kernel
theorem dX11_feed_22 : decode cX11_feed 22 = .ok (.iload_n 1, 1) := by decide +kernel
theorem dX11_feed_23 : decode cX11_feed 23 = .ok (.invokevirtual 218, 3) := by decide +kernel
theorem dX11_feed_26 : decode cX11_feed 26 = .ok (.aload_n 0, 1) := by decide +kernel
theorem dX11_feed_27 : decode cX11_feed 27 = .ok (.getfield 19, 3) := by decide +kernel
theorem dX11_feed_30 : decode cX11_feed 30 = .ok (.iload_n 2, 1) := by decide +kernel
theorem dX11_feed_31 : decode cX11_feed 31 = .ok (.invokevirtual 218, 3) := by decide +kernel
theorem dX11_feed_34 : decode cX11_feed 34 = .ok (.aload_n 0, 1) := by decide +kernel
theorem dX11_feed_35 : decode cX11_feed 35 = .ok (.getfield 19, 3) := by decide +kernel
theorem dX11_feed_38 : decode cX11_feed 38 = .ok (.iload_n 3, 1) := by decide +kernel
theorem dX11_feed_39 : decode cX11_feed 39 = .ok (.invokevirtual 218, 3) := by decide +kernel
theorem dX11_feed_42 : decode cX11_feed 42 = .ok (.aload_n 0, 1) := by decide +kernel
theorem dX11_feed_43 : decode cX11_feed 43 = .ok (.getfield 19, 3) := by decide +kernel
theorem dX11_feed_46 : decode cX11_feed 46 = .ok (.getfield 215, 3) := by decide +kernel
theorem dX11_feed_49 : decode cX11_feed 49 = .ok (.ireturn, 1) := by decide +kernel
theorem dX11_trim_0 : decode cX11_trim 0 = .ok (.iload_n 1, 1) := by decide +kernel
theorem dX11_trim_1 : decode cX11_trim 1 = .ok (.iconst 0, 1) := by decide +kernel
theorem dX11_trim_2 : decode cX11_trim 2 = .ok (.aload_n 0, 1) := by decide +kernel
theorem dX11_trim_3 : decode cX11_trim 3 = .ok (.getfield 19, 3) := by decide +kernel
theorem dX11_trim_6 : decode cX11_trim 6 = .ok (.getfield 215, 3) := by decide +kernel
theorem dX11_trim_9 : decode cX11_trim 9 = .ok (.invokestatic 57, 3) := by decide +kernel
theorem dX11_trim_12 : decode cX11_trim 12 = .ok (.ifCond .ne 6, 3) := by decide +kernel
theorem dX11_trim_15 : decode cX11_trim 15 = .ok (.ldc 61, 2) := by decide +kernel
theorem dX11_trim_17 : decode cX11_trim 17 = .ok (.ireturn, 1) := by decide +kernel
theorem dX11_trim_18 : decode cX11_trim 18 = .ok (.aload_n 0, 1) := by decide +kernel
theorem dX11_trim_19 : decode cX11_trim 19 = .ok (.getfield 19, 3) := by decide +kernel
theorem dX11_trim_22 : decode cX11_trim 22 = .ok (.iload_n 1, 1) := by decide +kernel
theorem dX11_trim_23 : decode cX11_trim 23 = .ok (.putfield 215, 3) := by decide +kernel
theorem dX11_trim_26 : decode cX11_trim 26 = .ok (.iload_n 1, 1) := by decide +kernel
theorem dX11_trim_27 : decode cX11_trim 27 = .ok (.ireturn, 1) := by decide +kernel
theorem dX11_law_0 : decode cX11_law 0 = .ok (.aload_n 0, 1) := by decide +kernel
theorem dX11_law_1 : decode cX11_law 1 = .ok (.getfield 19, 3) := by decide +kernel
theorem dX11_law_4 : decode cX11_law 4 = .ok (.invokevirtual 222, 3) := by decide +kernel
theorem dX11_law_7 : decode cX11_law 7 = .ok (.aload_n 0, 1) := by decide +kernel
theorem dX11_law_8 : decode cX11_law 8 = .ok (.getfield 19, 3) := by decide +kernel
theorem dX11_law_11 : decode cX11_law 11 = .ok (.iconst 0, 1) := by decide +kernel
theorem dX11_law_12 : decode cX11_law 12 = .ok (.putfield 215, 3) := by decide +kernel
theorem dX11_law_15 : decode cX11_law 15 = .ok (.aload_n 0, 1) := by decide +kernel
theorem dX11_law_16 : decode cX11_law 16 = .ok (.getfield 19, 3) := by decide +kernel
theorem dX11_law_19 : decode cX11_law 19 = .ok (.getfield 225, 3) := by decide +kernel
theorem dX11_law_22 : decode cX11_law 22 = .ok (.ifCond .lt 14, 3) := by decide +kernel
theorem dX11_law_25 : decode cX11_law 25 = .ok (.bipush (-100), 2) := by decide +kernel
theorem dX11_law_27 : decode cX11_law 27 = .ok (.aload_n 0, 1) := by decide +kernel
theorem dX11_law_28 : decode cX11_law 28 = .ok (.getfield 19, 3) := by decide +kernel
theorem dX11_law_31 : decode cX11_law 31 = .ok (.getfield 225, 3) := by decide +kernel
theorem dX11_law_34 : decode cX11_law 34 = .ok (.isub, 1) := by decide +kernel
theorem dX11_law_35 : decode cX11_law 35 = .ok (.ireturn, 1) := by decide +kernel
theorem dX11_law_36 : decode cX11_law 36 = .ok (.aload_n 0, 1) := by decide +kernel
theorem dX11_law_37 : decode cX11_law 37 = .ok (.getfield 10, 3) := by decide +kernel
theorem dX11_law_40 : decode cX11_law 40 = .ok (.getfield 228, 3) := by decide +kernel
theorem dX11_law_43 : decode cX11_law 43 = .ok (.aload_n 0, 1) := by decide +kernel
theorem dX11_law_44 : decode cX11_law 44 = .ok (.getfield 19, 3) := by decide +kernel
theorem dX11_law_47 : decode cX11_law 47 = .ok (.getfield 232, 3) := by decide +kernel
theorem dX11_law_50 : decode cX11_law 50 = .ok (.aload_n 0, 1) := by decide +kernel
theorem dX11_law_51 : decode cX11_law 51 = .ok (.getfield 19, 3) := by decide +kernel
theorem dX11_law_54 : decode cX11_law 54 = .ok (.getfield 235, 3) := by decide +kernel
theorem dX11_law_57 : decode cX11_law 57 = .ok (.aload_n 0, 1) := by decide +kernel
theorem dX11_law_58 : decode cX11_law 58 = .ok (.getfield 19, 3) := by decide +kernel
theorem dX11_law_61 : decode cX11_law 61 = .ok (.getfield 236, 3) := by decide +kernel
theorem dX11_law_64 : decode cX11_law 64 = .ok (.invokevirtual 239, 3) := by decide +kernel
theorem dX11_law_67 : decode cX11_law 67 = .ok (.aload_n 0, 1) := by decide +kernel
theorem dX11_law_68 : decode cX11_law 68 = .ok (.getfield 19, 3) := by decide +kernel
theorem dX11_law_71 : decode cX11_law 71 = .ok (.getfield 245, 3) := by decide +kernel
theorem dX11_law_74 : decode cX11_law 74 = .ok (.ireturn, 1) := by decide +kernel
theorem dX11_heat_0 : decode cX11_heat 0 = .ok (.iload_n 1, 1) := by decide +kernel
