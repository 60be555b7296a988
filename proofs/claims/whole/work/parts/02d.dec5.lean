theorem dX2_join_156 : decode cX2_join 156 = .ok (.iload_n 1, 1) := by decide +kernel
theorem dX2_join_157 : decode cX2_join 157 = .ok (.iload_n 2, 1) := by decide +kernel
theorem dX2_join_158 : decode cX2_join 158 = .ok (.isub, 1) := by decide +kernel
theorem dX2_join_159 : decode cX2_join 159 = .ok (.ireturn, 1) := by decide +kernel
theorem dX2_join_160 : decode cX2_join 160 = .ok (.iload_n 1, 1) := by decide +kernel
theorem dX2_join_161 : decode cX2_join 161 = .ok (.iload_n 2, 1) := by decide +kernel
theorem dX2_join_162 : decode cX2_join 162 = .ok (.imul, 1) := by decide +kernel
theorem dX2_join_163 : decode cX2_join 163 = .ok (.ireturn, 1) := by decide +kernel
theorem dX2_join_164 : decode cX2_join 164 = .ok (.iload_n 2, 1) := by decide +kernel
theorem dX2_join_165 : decode cX2_join 165 = .ok (.ifCond .ne 7, 3) := by decide +kernel
theorem dX2_join_168 : decode cX2_join 168 = .ok (.iconst 0, 1) := by decide +kernel
theorem dX2_join_169 : decode cX2_join 169 = .ok (.goto 6, 3) := by decide +kernel
theorem dX2_join_172 : decode cX2_join 172 = .ok (.iload_n 1, 1) := by decide +kernel
theorem dX2_join_173 : decode cX2_join 173 = .ok (.iload_n 2, 1) := by decide +kernel
theorem dX2_join_174 : decode cX2_join 174 = .ok (.idiv, 1) := by decide +kernel
theorem dX2_join_175 : decode cX2_join 175 = .ok (.ireturn, 1) := by decide +kernel
theorem dX2_nameOf_0 : decode cX2_nameOf 0 = .ok (.iload_n 1, 1) := by decide +kernel
theorem dX2_nameOf_1 : decode cX2_nameOf 1 = .ok (.ifCond .lt 17, 3) := by decide +kernel
theorem dX2_nameOf_4 : decode cX2_nameOf 4 = .ok (.iload_n 1, 1) := by decide +kernel
theorem dX2_nameOf_5 : decode cX2_nameOf 5 = .ok (.iconst 5, 1) := by decide +kernel
theorem dX2_nameOf_6 : decode cX2_nameOf 6 = .ok (.if_icmp .ge 12, 3) := by decide +kernel
theorem dX2_nameOf_9 : decode cX2_nameOf 9 = .ok (.aload_n 0, 1) := by decide +kernel
theorem dX2_nameOf_10 : decode cX2_nameOf 10 = .ok (.getfield 18, 3) := by decide +kernel
theorem dX2_nameOf_13 : decode cX2_nameOf 13 = .ok (.iload_n 1, 1) := by decide +kernel
theorem dX2_nameOf_14 : decode cX2_nameOf 14 = .ok (.iaload, 1) := by decide +kernel
theorem dX2_nameOf_15 : decode cX2_nameOf 15 = .ok (.goto 4, 3) := by decide +kernel
theorem dX2_nameOf_18 : decode cX2_nameOf 18 = .ok (.iconst 0, 1) := by decide +kernel
theorem dX2_nameOf_19 : decode cX2_nameOf 19 = .ok (.ireturn, 1) := by decide +kernel
theorem dX2_takeCode_0 : decode cX2_takeCode 0 = .ok (.aload_n 1, 1) := by decide +kernel
theorem dX2_takeCode_1 : decode cX2_takeCode 1 = .ok (.aload_n 0, 1) := by decide +kernel
theorem dX2_takeCode_2 : decode cX2_takeCode 2 = .ok (.getfield 9, 3) := by decide +kernel
theorem dX2_takeCode_5 : decode cX2_takeCode 5 = .ok (.invokestatic 21, 3) := by decide +kernel
theorem dX2_takeCode_8 : decode cX2_takeCode 8 = .ok (.aload_n 0, 1) := by decide +kernel
theorem dX2_takeCode_9 : decode cX2_takeCode 9 = .ok (.iload_n 2, 1) := by decide +kernel
theorem dX2_takeCode_10 : decode cX2_takeCode 10 = .ok (.bipush 120, 2) := by decide +kernel
theorem dX2_takeCode_12 : decode cX2_takeCode 12 = .ok (.invokestatic 25, 3) := by decide +kernel
theorem dX2_takeCode_15 : decode cX2_takeCode 15 = .ok (.putfield 31, 3) := by decide +kernel
theorem dX2_takeCode_18 : decode cX2_takeCode 18 = .ok (.aload_n 0, 1) := by decide +kernel
theorem dX2_takeCode_19 : decode cX2_takeCode 19 = .ok (.iload_n 3, 1) := by decide +kernel
theorem dX2_takeCode_20 : decode cX2_takeCode 20 = .ok (.aload_n 0, 1) := by decide +kernel
theorem dX2_takeCode_21 : decode cX2_takeCode 21 = .ok (.getfield 31, 3) := by decide +kernel
theorem dX2_takeCode_24 : decode cX2_takeCode 24 = .ok (.invokestatic 25, 3) := by decide +kernel
theorem dX2_takeCode_27 : decode cX2_takeCode 27 = .ok (.putfield 35, 3) := by decide +kernel
theorem dX2_takeCode_30 : decode cX2_takeCode 30 = .ok (.aload_n 0, 1) := by decide +kernel
theorem dX2_takeCode_31 : decode cX2_takeCode 31 = .ok (.iconst 1, 1) := by decide +kernel
theorem dX2_takeCode_32 : decode cX2_takeCode 32 = .ok (.putfield 38, 3) := by decide +kernel
theorem dX2_takeCode_35 : decode cX2_takeCode 35 = .ok (.return_, 1) := by decide +kernel
theorem dX2_takeFrom_0 : decode cX2_takeFrom 0 = .ok (.aload_n 0, 1) := by decide +kernel
theorem dX2_takeFrom_1 : decode cX2_takeFrom 1 = .ok (.aload_n 1, 1) := by decide +kernel
theorem dX2_takeFrom_2 : decode cX2_takeFrom 2 = .ok (.getfield 9, 3) := by decide +kernel
theorem dX2_takeFrom_5 : decode cX2_takeFrom 5 = .ok (.aload_n 1, 1) := by decide +kernel
theorem dX2_takeFrom_6 : decode cX2_takeFrom 6 = .ok (.getfield 31, 3) := by decide +kernel
theorem dX2_takeFrom_9 : decode cX2_takeFrom 9 = .ok (.aload_n 1, 1) := by decide +kernel
theorem dX2_takeFrom_10 : decode cX2_takeFrom 10 = .ok (.getfield 35, 3) := by decide +kernel
theorem dX2_takeFrom_13 : decode cX2_takeFrom 13 = .ok (.invokevirtual 42, 3) := by decide +kernel
theorem dX2_takeFrom_16 : decode cX2_takeFrom 16 = .ok (.aload_n 0, 1) := by decide +kernel
theorem dX2_takeFrom_17 : decode cX2_takeFrom 17 = .ok (.aload_n 1, 1) := by decide +kernel
theorem dX2_takeFrom_18 : decode cX2_takeFrom 18 = .ok (.getfield 38, 3) := by decide +kernel
theorem dX2_takeFrom_21 : decode cX2_takeFrom 21 = .ok (.putfield 38, 3) := by decide +kernel
theorem dX2_takeFrom_24 : decode cX2_takeFrom 24 = .ok (.return_, 1) := by decide +kernel
theorem dX2_worthOfIce_0 : decode cX2_worthOfIce 0 = .ok (.aload_n 0, 1) := by decide +kernel
theorem dX2_worthOfIce_1 : decode cX2_worthOfIce 1 = .ok (.aload_n 0, 1) := by decide +kernel
theorem dX2_worthOfIce_2 : decode cX2_worthOfIce 2 = .ok (.getfield 35, 3) := by decide +kernel
theorem dX2_worthOfIce_5 : decode cX2_worthOfIce 5 = .ok (.aload_n 0, 1) := by decide +kernel
theorem dX2_worthOfIce_6 : decode cX2_worthOfIce 6 = .ok (.getfield 31, 3) := by decide +kernel
theorem dX2_worthOfIce_9 : decode cX2_worthOfIce 9 = .ok (.invokevirtual 46, 3) := by decide +kernel
theorem dX2_worthOfIce_12 : decode cX2_worthOfIce 12 = .ok (.ireturn, 1) := by decide +kernel
theorem dX2_worthOfMark_0 : decode cX2_worthOfMark 0 = .ok (.aload_n 0, 1) := by decide +kernel
theorem dX2_worthOfMark_1 : decode cX2_worthOfMark 1 = .ok (.iconst 0, 1) := by decide +kernel
theorem dX2_worthOfMark_2 : decode cX2_worthOfMark 2 = .ok (.aload_n 0, 1) := by decide +kernel
theorem dX2_worthOfMark_3 : decode cX2_worthOfMark 3 = .ok (.getfield 35, 3) := by decide +kernel
theorem dX2_worthOfMark_6 : decode cX2_worthOfMark 6 = .ok (.invokevirtual 46, 3) := by decide +kernel
theorem dX2_worthOfMark_9 : decode cX2_worthOfMark 9 = .ok (.ireturn, 1) := by decide +kernel
theorem dX2_worth_0 : decode cX2_worth 0 = .ok (.iconst 0, 1) := by decide +kernel
theorem dX2_worth_1 : decode cX2_worth 1 = .ok (.istore_n 3, 1) := by decide +kernel
theorem dX2_worth_2 : decode cX2_worth 2 = .ok (.iload_n 1, 1) := by decide +kernel
theorem dX2_worth_3 : decode cX2_worth 3 = .ok (.istore 4, 2) := by decide +kernel
theorem dX2_worth_5 : decode cX2_worth 5 = .ok (.iload 4, 2) := by decide +kernel
theorem dX2_worth_7 : decode cX2_worth 7 = .ok (.iload_n 2, 1) := by decide +kernel
theorem dX2_worth_8 : decode cX2_worth 8 = .ok (.if_icmp .ge 149, 3) := by decide +kernel
theorem dX2_worth_11 : decode cX2_worth 11 = .ok (.aload_n 0, 1) := by decide +kernel
theorem dX2_worth_12 : decode cX2_worth 12 = .ok (.getfield 9, 3) := by decide +kernel
theorem dX2_worth_15 : decode cX2_worth 15 = .ok (.iload 4, 2) := by decide +kernel
theorem dX2_worth_17 : decode cX2_worth 17 = .ok (.iaload, 1) := by decide +kernel
theorem dX2_worth_18 : decode cX2_worth 18 = .ok (.istore 5, 2) := by decide +kernel
theorem dX2_worth_20 : decode cX2_worth 20 = .ok (.iload 5, 2) := by decide +kernel
theorem dX2_worth_22 : decode cX2_worth 22 = .ok (.ifCond .ge 11, 3) := by decide +kernel
theorem dX2_worth_25 : decode cX2_worth 25 = .ok (.iload 5, 2) := by decide +kernel
theorem dX2_worth_27 : decode cX2_worth 27 = .ok (.sipush (-1000), 3) := by decide +kernel
theorem dX2_worth_30 : decode cX2_worth 30 = .ok (.if_icmp .gt 44, 3) := by decide +kernel
theorem dX2_worth_33 : decode cX2_worth 33 = .ok (.iload_n 3, 1) := by decide +kernel
theorem dX2_worth_34 : decode cX2_worth 34 = .ok (.aload_n 0, 1) := by decide +kernel
theorem dX2_worth_35 : decode cX2_worth 35 = .ok (.getfield 15, 3) := by decide +kernel
theorem dX2_worth_38 : decode cX2_worth 38 = .ok (.arraylength, 1) := by decide +kernel
theorem dX2_worth_39 : decode cX2_worth 39 = .ok (.if_icmp .ge 112, 3) := by decide +kernel
theorem dX2_worth_42 : decode cX2_worth 42 = .ok (.aload_n 0, 1) := by decide +kernel
theorem dX2_worth_43 : decode cX2_worth 43 = .ok (.getfield 15, 3) := by decide +kernel
theorem dX2_worth_46 : decode cX2_worth 46 = .ok (.iload_n 3, 1) := by decide +kernel
theorem dX2_worth_47 : decode cX2_worth 47 = .ok (.iinc 3 1, 3) := by decide +kernel
theorem dX2_worth_50 : decode cX2_worth 50 = .ok (.iload 5, 2) := by decide +kernel
theorem dX2_worth_52 : decode cX2_worth 52 = .ok (.ifCond .lt 8, 3) := by decide +kernel
theorem dX2_worth_55 : decode cX2_worth 55 = .ok (.iload 5, 2) := by decide +kernel
theorem dX2_worth_57 : decode cX2_worth 57 = .ok (.goto 13, 3) := by decide +kernel
theorem dX2_worth_60 : decode cX2_worth 60 = .ok (.aload_n 0, 1) := by decide +kernel
theorem dX2_worth_61 : decode cX2_worth 61 = .ok (.sipush (-1000), 3) := by decide +kernel
theorem dX2_worth_64 : decode cX2_worth 64 = .ok (.iload 5, 2) := by decide +kernel
theorem dX2_worth_66 : decode cX2_worth 66 = .ok (.isub, 1) := by decide +kernel
theorem dX2_worth_67 : decode cX2_worth 67 = .ok (.invokevirtual 49, 3) := by decide +kernel
theorem dX2_worth_70 : decode cX2_worth 70 = .ok (.iastore, 1) := by decide +kernel
theorem dX2_worth_71 : decode cX2_worth 71 = .ok (.goto 80, 3) := by decide +kernel
theorem dX2_worth_74 : decode cX2_worth 74 = .ok (.iload 5, 2) := by decide +kernel
theorem dX2_worth_76 : decode cX2_worth 76 = .ok (.bipush (-33), 2) := by decide +kernel
theorem dX2_worth_78 : decode cX2_worth 78 = .ok (.if_icmp .ne 37, 3) := by decide +kernel
theorem dX2_worth_81 : decode cX2_worth 81 = .ok (.iload_n 3, 1) := by decide +kernel
theorem dX2_worth_82 : decode cX2_worth 82 = .ok (.ifCond .le 69, 3) := by decide +kernel
theorem dX2_worth_85 : decode cX2_worth 85 = .ok (.aload_n 0, 1) := by decide +kernel
theorem dX2_worth_86 : decode cX2_worth 86 = .ok (.getfield 15, 3) := by decide +kernel
theorem dX2_worth_89 : decode cX2_worth 89 = .ok (.iload_n 3, 1) := by decide +kernel
theorem dX2_worth_90 : decode cX2_worth 90 = .ok (.iconst 1, 1) := by decide +kernel
theorem dX2_worth_91 : decode cX2_worth 91 = .ok (.isub, 1) := by decide +kernel
theorem dX2_worth_92 : decode cX2_worth 92 = .ok (.aload_n 0, 1) := by decide +kernel
theorem dX2_worth_93 : decode cX2_worth 93 = .ok (.getfield 15, 3) := by decide +kernel
theorem dX2_worth_96 : decode cX2_worth 96 = .ok (.iload_n 3, 1) := by decide +kernel
theorem dX2_worth_97 : decode cX2_worth 97 = .ok (.iconst 1, 1) := by decide +kernel
theorem dX2_worth_98 : decode cX2_worth 98 = .ok (.isub, 1) := by decide +kernel
theorem dX2_worth_99 : decode cX2_worth 99 = .ok (.iaload, 1) := by decide +kernel
theorem dX2_worth_100 : decode cX2_worth 100 = .ok (.ifCond .ne 7, 3) := by decide +kernel
theorem dX2_worth_103 : decode cX2_worth 103 = .ok (.iconst 1, 1) := by decide +kernel
theorem dX2_worth_104 : decode cX2_worth 104 = .ok (.goto 4, 3) := by decide +kernel
theorem dX2_worth_107 : decode cX2_worth 107 = .ok (.iconst 0, 1) := by decide +kernel
theorem dX2_worth_108 : decode cX2_worth 108 = .ok (.invokestatic 53, 3) := by decide +kernel
theorem dX2_worth_111 : decode cX2_worth 111 = .ok (.iastore, 1) := by decide +kernel
theorem dX2_worth_112 : decode cX2_worth 112 = .ok (.goto 39, 3) := by decide +kernel
theorem dX2_worth_115 : decode cX2_worth 115 = .ok (.iload_n 3, 1) := by decide +kernel
theorem dX2_worth_116 : decode cX2_worth 116 = .ok (.iconst 1, 1) := by decide +kernel
theorem dX2_worth_117 : decode cX2_worth 117 = .ok (.if_icmp .le 34, 3) := by decide +kernel
theorem dX2_worth_120 : decode cX2_worth 120 = .ok (.iinc 3 (-1), 3) := by decide +kernel
theorem dX2_worth_123 : decode cX2_worth 123 = .ok (.aload_n 0, 1) := by decide +kernel
theorem dX2_worth_124 : decode cX2_worth 124 = .ok (.getfield 15, 3) := by decide +kernel
theorem dX2_worth_127 : decode cX2_worth 127 = .ok (.iload_n 3, 1) := by decide +kernel
theorem dX2_worth_128 : decode cX2_worth 128 = .ok (.iconst 1, 1) := by decide +kernel
theorem dX2_worth_129 : decode cX2_worth 129 = .ok (.isub, 1) := by decide +kernel
theorem dX2_worth_130 : decode cX2_worth 130 = .ok (.iload 5, 2) := by decide +kernel
theorem dX2_worth_132 : decode cX2_worth 132 = .ok (.ineg, 1) := by decide +kernel
theorem dX2_worth_133 : decode cX2_worth 133 = .ok (.aload_n 0, 1) := by decide +kernel
theorem dX2_worth_134 : decode cX2_worth 134 = .ok (.getfield 15, 3) := by decide +kernel
theorem dX2_worth_137 : decode cX2_worth 137 = .ok (.iload_n 3, 1) := by decide +kernel
theorem dX2_worth_138 : decode cX2_worth 138 = .ok (.iconst 1, 1) := by decide +kernel
theorem dX2_worth_139 : decode cX2_worth 139 = .ok (.isub, 1) := by decide +kernel
theorem dX2_worth_140 : decode cX2_worth 140 = .ok (.iaload, 1) := by decide +kernel
theorem dX2_worth_141 : decode cX2_worth 141 = .ok (.aload_n 0, 1) := by decide +kernel
theorem dX2_worth_142 : decode cX2_worth 142 = .ok (.getfield 15, 3) := by decide +kernel
theorem dX2_worth_145 : decode cX2_worth 145 = .ok (.iload_n 3, 1) := by decide +kernel
theorem dX2_worth_146 : decode cX2_worth 146 = .ok (.iaload, 1) := by decide +kernel
theorem dX2_worth_147 : decode cX2_worth 147 = .ok (.invokestatic 57, 3) := by decide +kernel
theorem dX2_worth_150 : decode cX2_worth 150 = .ok (.iastore, 1) := by decide +kernel
theorem dX2_worth_151 : decode cX2_worth 151 = .ok (.iinc 4 1, 3) := by decide +kernel
theorem dX2_worth_154 : decode cX2_worth 154 = .ok (.goto (-149), 3) := by decide +kernel
theorem dX2_worth_157 : decode cX2_worth 157 = .ok (.iload_n 3, 1) := by decide +kernel
theorem dX2_worth_158 : decode cX2_worth 158 = .ok (.ifCond .le 12, 3) := by decide +kernel
theorem dX2_worth_161 : decode cX2_worth 161 = .ok (.aload_n 0, 1) := by decide +kernel
theorem dX2_worth_162 : decode cX2_worth 162 = .ok (.getfield 15, 3) := by decide +kernel
theorem dX2_worth_165 : decode cX2_worth 165 = .ok (.iconst 0, 1) := by decide +kernel
theorem dX2_worth_166 : decode cX2_worth 166 = .ok (.iaload, 1) := by decide +kernel
theorem dX2_worth_167 : decode cX2_worth 167 = .ok (.goto 4, 3) := by decide +kernel
theorem dX2_worth_170 : decode cX2_worth 170 = .ok (.iconst 0, 1) := by decide +kernel
theorem dX2_worth_171 : decode cX2_worth 171 = .ok (.ireturn, 1) := by decide +kernel
theorem dX3_addBytes_0 : decode cX3_addBytes 0 = .ok (.bipush 24, 2) := by decide +kernel
theorem dX3_addBytes_2 : decode cX3_addBytes 2 = .ok (.istore_n 2, 1) := by decide +kernel
theorem dX3_addBytes_3 : decode cX3_addBytes 3 = .ok (.iload_n 2, 1) := by decide +kernel
theorem dX3_addBytes_4 : decode cX3_addBytes 4 = .ok (.ifCond .lt 41, 3) := by decide +kernel
theorem dX3_addBytes_7 : decode cX3_addBytes 7 = .ok (.aload_n 0, 1) := by decide +kernel
theorem dX3_addBytes_8 : decode cX3_addBytes 8 = .ok (.getfield 18, 3) := by decide +kernel
theorem dX3_addBytes_11 : decode cX3_addBytes 11 = .ok (.bipush 120, 2) := by decide +kernel
theorem dX3_addBytes_13 : decode cX3_addBytes 13 = .ok (.if_icmp .ge 32, 3) := by decide +kernel
theorem dX3_addBytes_16 : decode cX3_addBytes 16 = .ok (.aload_n 0, 1) := by decide +kernel
theorem dX3_addBytes_17 : decode cX3_addBytes 17 = .ok (.getfield 9, 3) := by decide +kernel
theorem dX3_addBytes_20 : decode cX3_addBytes 20 = .ok (.aload_n 0, 1) := by decide +kernel
theorem dX3_addBytes_21 : decode cX3_addBytes 21 = .ok (.dup, 1) := by decide +kernel
theorem dX3_addBytes_22 : decode cX3_addBytes 22 = .ok (.getfield 18, 3) := by decide +kernel
theorem dX3_addBytes_25 : decode cX3_addBytes 25 = .ok (.dup_x1, 1) := by decide +kernel
theorem dX3_addBytes_26 : decode cX3_addBytes 26 = .ok (.iconst 1, 1) := by decide +kernel
theorem dX3_addBytes_27 : decode cX3_addBytes 27 = .ok (.iadd, 1) := by decide +kernel
theorem dX3_addBytes_28 : decode cX3_addBytes 28 = .ok (.putfield 18, 3) := by decide +kernel
theorem dX3_addBytes_31 : decode cX3_addBytes 31 = .ok (.iload_n 1, 1) := by decide +kernel
theorem dX3_addBytes_32 : decode cX3_addBytes 32 = .ok (.iload_n 2, 1) := by decide +kernel
theorem dX3_addBytes_33 : decode cX3_addBytes 33 = .ok (.ishr, 1) := by decide +kernel
theorem dX3_addBytes_34 : decode cX3_addBytes 34 = .ok (.sipush 255, 3) := by decide +kernel
theorem dX3_addBytes_37 : decode cX3_addBytes 37 = .ok (.iand, 1) := by decide +kernel
theorem dX3_addBytes_38 : decode cX3_addBytes 38 = .ok (.iastore, 1) := by decide +kernel
theorem dX3_addBytes_39 : decode cX3_addBytes 39 = .ok (.iinc 2 (-8), 3) := by decide +kernel
theorem dX3_addBytes_42 : decode cX3_addBytes 42 = .ok (.goto (-39), 3) := by decide +kernel
theorem dX3_addBytes_45 : decode cX3_addBytes 45 = .ok (.return_, 1) := by decide +kernel
theorem dX3_fail_0 : decode cX3_fail 0 = .ok (.aload_n 0, 1) := by decide +kernel
theorem dX3_fail_1 : decode cX3_fail 1 = .ok (.getfield 28, 3) := by decide +kernel
theorem dX3_fail_4 : decode cX3_fail 4 = .ok (.ifCond .ge 11, 3) := by decide +kernel
theorem dX3_fail_7 : decode cX3_fail 7 = .ok (.aload_n 0, 1) := by decide +kernel
theorem dX3_fail_8 : decode cX3_fail 8 = .ok (.aload_n 0, 1) := by decide +kernel
theorem dX3_fail_9 : decode cX3_fail 9 = .ok (.getfield 66, 3) := by decide +kernel
theorem dX3_fail_12 : decode cX3_fail 12 = .ok (.putfield 28, 3) := by decide +kernel
theorem dX3_fail_15 : decode cX3_fail 15 = .ok (.return_, 1) := by decide +kernel
theorem dX3_isDigit_0 : decode cX3_isDigit 0 = .ok (.aload_n 0, 1) := by decide +kernel
theorem dX3_isDigit_1 : decode cX3_isDigit 1 = .ok (.getfield 9, 3) := by decide +kernel
theorem dX3_isDigit_4 : decode cX3_isDigit 4 = .ok (.iload_n 1, 1) := by decide +kernel
theorem dX3_isDigit_5 : decode cX3_isDigit 5 = .ok (.iaload, 1) := by decide +kernel
theorem dX3_isDigit_6 : decode cX3_isDigit 6 = .ok (.bipush 48, 2) := by decide +kernel
theorem dX3_isDigit_8 : decode cX3_isDigit 8 = .ok (.if_icmp .lt 18, 3) := by decide +kernel
theorem dX3_isDigit_11 : decode cX3_isDigit 11 = .ok (.aload_n 0, 1) := by decide +kernel
theorem dX3_isDigit_12 : decode cX3_isDigit 12 = .ok (.getfield 9, 3) := by decide +kernel
theorem dX3_isDigit_15 : decode cX3_isDigit 15 = .ok (.iload_n 1, 1) := by decide +kernel
theorem dX3_isDigit_16 : decode cX3_isDigit 16 = .ok (.iaload, 1) := by decide +kernel
theorem dX3_isDigit_17 : decode cX3_isDigit 17 = .ok (.bipush 57, 2) := by decide +kernel
theorem dX3_isDigit_19 : decode cX3_isDigit 19 = .ok (.if_icmp .gt 7, 3) := by decide +kernel
theorem dX3_isDigit_22 : decode cX3_isDigit 22 = .ok (.iconst 1, 1) := by decide +kernel
theorem dX3_isDigit_23 : decode cX3_isDigit 23 = .ok (.goto 4, 3) := by decide +kernel
theorem dX3_isDigit_26 : decode cX3_isDigit 26 = .ok (.iconst 0, 1) := by decide +kernel
theorem dX3_isDigit_27 : decode cX3_isDigit 27 = .ok (.ireturn, 1) := by decide +kernel
theorem dX3_isLetter_0 : decode cX3_isLetter 0 = .ok (.aload_n 0, 1) := by decide +kernel
theorem dX3_isLetter_1 : decode cX3_isLetter 1 = .ok (.getfield 9, 3) := by decide +kernel
theorem dX3_isLetter_4 : decode cX3_isLetter 4 = .ok (.iload_n 1, 1) := by decide +kernel
theorem dX3_isLetter_5 : decode cX3_isLetter 5 = .ok (.iaload, 1) := by decide +kernel
theorem dX3_isLetter_6 : decode cX3_isLetter 6 = .ok (.bipush 97, 2) := by decide +kernel
theorem dX3_isLetter_8 : decode cX3_isLetter 8 = .ok (.if_icmp .lt 18, 3) := by decide +kernel
theorem dX3_isLetter_11 : decode cX3_isLetter 11 = .ok (.aload_n 0, 1) := by decide +kernel
theorem dX3_isLetter_12 : decode cX3_isLetter 12 = .ok (.getfield 9, 3) := by decide +kernel
theorem dX3_isLetter_15 : decode cX3_isLetter 15 = .ok (.iload_n 1, 1) := by decide +kernel
theorem dX3_isLetter_16 : decode cX3_isLetter 16 = .ok (.iaload, 1) := by decide +kernel
theorem dX3_isLetter_17 : decode cX3_isLetter 17 = .ok (.bipush 122, 2) := by decide +kernel
theorem dX3_isLetter_19 : decode cX3_isLetter 19 = .ok (.if_icmp .gt 7, 3) := by decide +kernel
theorem dX3_isLetter_22 : decode cX3_isLetter 22 = .ok (.iconst 1, 1) := by decide +kernel
theorem dX3_isLetter_23 : decode cX3_isLetter 23 = .ok (.goto 4, 3) := by decide +kernel
theorem dX3_isLetter_26 : decode cX3_isLetter 26 = .ok (.iconst 0, 1) := by decide +kernel
theorem dX3_isLetter_27 : decode cX3_isLetter 27 = .ok (.ireturn, 1) := by decide +kernel
theorem dX3_isSignOf_0 : decode cX3_isSignOf 0 = .ok (.aload_n 0, 1) := by decide +kernel
theorem dX3_isSignOf_1 : decode cX3_isSignOf 1 = .ok (.getfield 28, 3) := by decide +kernel
theorem dX3_isSignOf_4 : decode cX3_isSignOf 4 = .ok (.ifCond .ge 32, 3) := by decide +kernel
theorem dX3_isSignOf_7 : decode cX3_isSignOf 7 = .ok (.aload_n 0, 1) := by decide +kernel
theorem dX3_isSignOf_8 : decode cX3_isSignOf 8 = .ok (.getfield 31, 3) := by decide +kernel
theorem dX3_isSignOf_11 : decode cX3_isSignOf 11 = .ok (.iconst 3, 1) := by decide +kernel
theorem dX3_isSignOf_12 : decode cX3_isSignOf 12 = .ok (.if_icmp .ne 24, 3) := by decide +kernel
theorem dX3_isSignOf_15 : decode cX3_isSignOf 15 = .ok (.aload_n 1, 1) := by decide +kernel
theorem dX3_isSignOf_16 : decode cX3_isSignOf 16 = .ok (.aload_n 0, 1) := by decide +kernel
theorem dX3_isSignOf_17 : decode cX3_isSignOf 17 = .ok (.getfield 9, 3) := by decide +kernel
theorem dX3_isSignOf_20 : decode cX3_isSignOf 20 = .ok (.aload_n 0, 1) := by decide +kernel
theorem dX3_isSignOf_21 : decode cX3_isSignOf 21 = .ok (.getfield 66, 3) := by decide +kernel
theorem dX3_isSignOf_24 : decode cX3_isSignOf 24 = .ok (.iaload, 1) := by decide +kernel
theorem dX3_isSignOf_25 : decode cX3_isSignOf 25 = .ok (.i2c, 1) := by decide +kernel
theorem dX3_isSignOf_26 : decode cX3_isSignOf 26 = .ok (.invokevirtual 95, 3) := by decide +kernel
theorem dX3_isSignOf_29 : decode cX3_isSignOf 29 = .ok (.ifCond .lt 7, 3) := by decide +kernel
theorem dX3_isSignOf_32 : decode cX3_isSignOf 32 = .ok (.iconst 1, 1) := by decide +kernel
theorem dX3_isSignOf_33 : decode cX3_isSignOf 33 = .ok (.goto 4, 3) := by decide +kernel
theorem dX3_isSignOf_36 : decode cX3_isSignOf 36 = .ok (.iconst 0, 1) := by decide +kernel
theorem dX3_isSignOf_37 : decode cX3_isSignOf 37 = .ok (.ireturn, 1) := by decide +kernel
theorem dX3_number_0 : decode cX3_number 0 = .ok (.iconst 0, 1) := by decide +kernel
theorem dX3_number_1 : decode cX3_number 1 = .ok (.istore_n 1, 1) := by decide +kernel
theorem dX3_number_2 : decode cX3_number 2 = .ok (.aload_n 0, 1) := by decide +kernel
theorem dX3_number_3 : decode cX3_number 3 = .ok (.getfield 66, 3) := by decide +kernel
theorem dX3_number_6 : decode cX3_number 6 = .ok (.istore_n 2, 1) := by decide +kernel
theorem dX3_number_7 : decode cX3_number 7 = .ok (.iload_n 2, 1) := by decide +kernel
theorem dX3_number_8 : decode cX3_number 8 = .ok (.aload_n 0, 1) := by decide +kernel
theorem dX3_number_9 : decode cX3_number 9 = .ok (.getfield 34, 3) := by decide +kernel
theorem dX3_number_12 : decode cX3_number 12 = .ok (.if_icmp .ge 24, 3) := by decide +kernel
theorem dX3_number_15 : decode cX3_number 15 = .ok (.iload_n 1, 1) := by decide +kernel
theorem dX3_number_16 : decode cX3_number 16 = .ok (.bipush 10, 2) := by decide +kernel
theorem dX3_number_18 : decode cX3_number 18 = .ok (.imul, 1) := by decide +kernel
theorem dX3_number_19 : decode cX3_number 19 = .ok (.aload_n 0, 1) := by decide +kernel
theorem dX3_number_20 : decode cX3_number 20 = .ok (.getfield 9, 3) := by decide +kernel
theorem dX3_number_23 : decode cX3_number 23 = .ok (.iload_n 2, 1) := by decide +kernel
theorem dX3_number_24 : decode cX3_number 24 = .ok (.iaload, 1) := by decide +kernel
theorem dX3_number_25 : decode cX3_number 25 = .ok (.iadd, 1) := by decide +kernel
theorem dX3_number_26 : decode cX3_number 26 = .ok (.bipush 48, 2) := by decide +kernel
theorem dX3_number_28 : decode cX3_number 28 = .ok (.isub, 1) := by decide +kernel
theorem dX3_number_29 : decode cX3_number 29 = .ok (.istore_n 1, 1) := by decide +kernel
theorem dX3_number_30 : decode cX3_number 30 = .ok (.iinc 2 1, 3) := by decide +kernel
theorem dX3_number_33 : decode cX3_number 33 = .ok (.goto (-26), 3) := by decide +kernel
theorem dX3_number_36 : decode cX3_number 36 = .ok (.iload_n 1, 1) := by decide +kernel
theorem dX3_number_37 : decode cX3_number 37 = .ok (.ireturn, 1) := by decide +kernel
theorem dX3_putValue_0 : decode cX3_putValue 0 = .ok (.aload_n 0, 1) := by decide +kernel
theorem dX3_putValue_1 : decode cX3_putValue 1 = .ok (.iload_n 1, 1) := by decide +kernel
theorem dX3_putValue_2 : decode cX3_putValue 2 = .ok (.invokevirtual 111, 3) := by decide +kernel
theorem dX3_putValue_5 : decode cX3_putValue 5 = .ok (.aload_n 0, 1) := by decide +kernel
theorem dX3_putValue_6 : decode cX3_putValue 6 = .ok (.dup, 1) := by decide +kernel
theorem dX3_putValue_7 : decode cX3_putValue 7 = .ok (.getfield 25, 3) := by decide +kernel
theorem dX3_putValue_10 : decode cX3_putValue 10 = .ok (.iconst 1, 1) := by decide +kernel
theorem dX3_putValue_11 : decode cX3_putValue 11 = .ok (.iadd, 1) := by decide +kernel
theorem dX3_putValue_12 : decode cX3_putValue 12 = .ok (.putfield 25, 3) := by decide +kernel
theorem dX3_putValue_15 : decode cX3_putValue 15 = .ok (.aload_n 0, 1) := by decide +kernel
theorem dX3_putValue_16 : decode cX3_putValue 16 = .ok (.invokevirtual 43, 3) := by decide +kernel
theorem dX3_putValue_19 : decode cX3_putValue 19 = .ok (.return_, 1) := by decide +kernel
theorem dX3_put_0 : decode cX3_put 0 = .ok (.aload_n 0, 1) := by decide +kernel
theorem dX3_put_1 : decode cX3_put 1 = .ok (.getfield 22, 3) := by decide +kernel
theorem dX3_put_4 : decode cX3_put 4 = .ok (.bipush 120, 2) := by decide +kernel
theorem dX3_put_6 : decode cX3_put 6 = .ok (.if_icmp .ge 20, 3) := by decide +kernel
theorem dX3_put_9 : decode cX3_put 9 = .ok (.aload_n 0, 1) := by decide +kernel
theorem dX3_put_10 : decode cX3_put 10 = .ok (.getfield 15, 3) := by decide +kernel
theorem dX3_put_13 : decode cX3_put 13 = .ok (.aload_n 0, 1) := by decide +kernel
theorem dX3_put_14 : decode cX3_put 14 = .ok (.dup, 1) := by decide +kernel
theorem dX3_put_15 : decode cX3_put 15 = .ok (.getfield 22, 3) := by decide +kernel
theorem dX3_put_18 : decode cX3_put 18 = .ok (.dup_x1, 1) := by decide +kernel
theorem dX3_put_19 : decode cX3_put 19 = .ok (.iconst 1, 1) := by decide +kernel
theorem dX3_put_20 : decode cX3_put 20 = .ok (.iadd, 1) := by decide +kernel
theorem dX3_put_21 : decode cX3_put 21 = .ok (.putfield 22, 3) := by decide +kernel
theorem dX3_put_24 : decode cX3_put 24 = .ok (.iload_n 1, 1) := by decide +kernel
theorem dX3_put_25 : decode cX3_put 25 = .ok (.iastore, 1) := by decide +kernel
theorem dX3_put_26 : decode cX3_put 26 = .ok (.return_, 1) := by decide +kernel
theorem dX3_readLevel_0 : decode cX3_readLevel 0 = .ok (.iload_n 1, 1) := by decide +kernel
theorem dX3_readLevel_1 : decode cX3_readLevel 1 = .ok (.iconst 5, 1) := by decide +kernel
theorem dX3_readLevel_2 : decode cX3_readLevel 2 = .ok (.if_icmp .lt 10, 3) := by decide +kernel
theorem dX3_readLevel_5 : decode cX3_readLevel 5 = .ok (.aload_n 0, 1) := by decide +kernel
theorem dX3_readLevel_6 : decode cX3_readLevel 6 = .ok (.iload_n 2, 1) := by decide +kernel
theorem dX3_readLevel_7 : decode cX3_readLevel 7 = .ok (.iload_n 3, 1) := by decide +kernel
theorem dX3_readLevel_8 : decode cX3_readLevel 8 = .ok (.invokevirtual 99, 3) := by decide +kernel
theorem dX3_readLevel_11 : decode cX3_readLevel 11 = .ok (.return_, 1) := by decide +kernel
theorem dX3_readLevel_12 : decode cX3_readLevel 12 = .ok (.aload_n 0, 1) := by decide +kernel
theorem dX3_readLevel_13 : decode cX3_readLevel 13 = .ok (.iload_n 1, 1) := by decide +kernel
theorem dX3_readLevel_14 : decode cX3_readLevel 14 = .ok (.iconst 1, 1) := by decide +kernel
theorem dX3_readLevel_15 : decode cX3_readLevel 15 = .ok (.iadd, 1) := by decide +kernel
theorem dX3_readLevel_16 : decode cX3_readLevel 16 = .ok (.iload_n 2, 1) := by decide +kernel
theorem dX3_readLevel_17 : decode cX3_readLevel 17 = .ok (.iload_n 3, 1) := by decide +kernel
theorem dX3_readLevel_18 : decode cX3_readLevel 18 = .ok (.invokevirtual 52, 3) := by decide +kernel
theorem dX3_readLevel_21 : decode cX3_readLevel 21 = .ok (.iload_n 1, 1) := by decide +kernel
theorem dX3_readLevel_22 : decode cX3_readLevel 22 = .ok (.iconst 2, 1) := by decide +kernel
theorem dX3_readLevel_23 : decode cX3_readLevel 23 = .ok (.if_icmp .ne 7, 3) := by decide +kernel
theorem dX3_readLevel_26 : decode cX3_readLevel 26 = .ok (.iconst 1, 1) := by decide +kernel
theorem dX3_readLevel_27 : decode cX3_readLevel 27 = .ok (.goto 5, 3) := by decide +kernel
theorem dX3_readLevel_30 : decode cX3_readLevel 30 = .ok (.bipush 120, 2) := by decide +kernel
theorem dX3_readLevel_32 : decode cX3_readLevel 32 = .ok (.istore 4, 2) := by decide +kernel
theorem dX3_readLevel_34 : decode cX3_readLevel 34 = .ok (.iconst 0, 1) := by decide +kernel
theorem dX3_readLevel_35 : decode cX3_readLevel 35 = .ok (.istore 5, 2) := by decide +kernel
theorem dX3_readLevel_37 : decode cX3_readLevel 37 = .ok (.iload 5, 2) := by decide +kernel
theorem dX3_readLevel_39 : decode cX3_readLevel 39 = .ok (.iload 4, 2) := by decide +kernel
theorem dX3_readLevel_41 : decode cX3_readLevel 41 = .ok (.if_icmp .ge 51, 3) := by decide +kernel
theorem dX3_readLevel_44 : decode cX3_readLevel 44 = .ok (.aload_n 0, 1) := by decide +kernel
theorem dX3_readLevel_45 : decode cX3_readLevel 45 = .ok (.iload_n 1, 1) := by decide +kernel
theorem dX3_readLevel_46 : decode cX3_readLevel 46 = .ok (.invokestatic 103, 3) := by decide +kernel
theorem dX3_readLevel_49 : decode cX3_readLevel 49 = .ok (.invokevirtual 107, 3) := by decide +kernel
theorem dX3_readLevel_52 : decode cX3_readLevel 52 = .ok (.ifCond .eq 40, 3) := by decide +kernel
theorem dX3_readLevel_55 : decode cX3_readLevel 55 = .ok (.aload_n 0, 1) := by decide +kernel
theorem dX3_readLevel_56 : decode cX3_readLevel 56 = .ok (.getfield 9, 3) := by decide +kernel
theorem dX3_readLevel_59 : decode cX3_readLevel 59 = .ok (.aload_n 0, 1) := by decide +kernel
theorem dX3_readLevel_60 : decode cX3_readLevel 60 = .ok (.getfield 66, 3) := by decide +kernel
theorem dX3_readLevel_63 : decode cX3_readLevel 63 = .ok (.iaload, 1) := by decide +kernel
theorem dX3_readLevel_64 : decode cX3_readLevel 64 = .ok (.istore 6, 2) := by decide +kernel
theorem dX3_readLevel_66 : decode cX3_readLevel 66 = .ok (.aload_n 0, 1) := by decide +kernel
theorem dX3_readLevel_67 : decode cX3_readLevel 67 = .ok (.invokevirtual 43, 3) := by decide +kernel
theorem dX3_readLevel_70 : decode cX3_readLevel 70 = .ok (.aload_n 0, 1) := by decide +kernel
theorem dX3_readLevel_71 : decode cX3_readLevel 71 = .ok (.iload_n 1, 1) := by decide +kernel
theorem dX3_readLevel_72 : decode cX3_readLevel 72 = .ok (.iconst 1, 1) := by decide +kernel
theorem dX3_readLevel_73 : decode cX3_readLevel 73 = .ok (.iadd, 1) := by decide +kernel
theorem dX3_readLevel_74 : decode cX3_readLevel 74 = .ok (.iload_n 2, 1) := by decide +kernel
theorem dX3_readLevel_75 : decode cX3_readLevel 75 = .ok (.iload_n 3, 1) := by decide +kernel
theorem dX3_readLevel_76 : decode cX3_readLevel 76 = .ok (.invokevirtual 52, 3) := by decide +kernel
theorem dX3_readLevel_79 : decode cX3_readLevel 79 = .ok (.aload_n 0, 1) := by decide +kernel
theorem dX3_readLevel_80 : decode cX3_readLevel 80 = .ok (.iload 6, 2) := by decide +kernel
theorem dX3_readLevel_82 : decode cX3_readLevel 82 = .ok (.ineg, 1) := by decide +kernel
theorem dX3_readLevel_83 : decode cX3_readLevel 83 = .ok (.invokevirtual 111, 3) := by decide +kernel
theorem dX3_readLevel_86 : decode cX3_readLevel 86 = .ok (.iinc 5 1, 3) := by decide +kernel
theorem dX3_readLevel_89 : decode cX3_readLevel 89 = .ok (.goto (-52), 3) := by decide +kernel
theorem dX3_readLevel_92 : decode cX3_readLevel 92 = .ok (.return_, 1) := by decide +kernel
theorem dX3_readPart_0 : decode cX3_readPart 0 = .ok (.aload_n 0, 1) := by decide +kernel
theorem dX3_readPart_1 : decode cX3_readPart 1 = .ok (.getfield 28, 3) := by decide +kernel
theorem dX3_readPart_4 : decode cX3_readPart 4 = .ok (.ifCond .lt 4, 3) := by decide +kernel
theorem dX3_readPart_7 : decode cX3_readPart 7 = .ok (.return_, 1) := by decide +kernel
theorem dX3_readPart_8 : decode cX3_readPart 8 = .ok (.aload_n 0, 1) := by decide +kernel
theorem dX3_readPart_9 : decode cX3_readPart 9 = .ok (.invokevirtual 115, 3) := by decide +kernel
theorem dX3_readPart_12 : decode cX3_readPart 12 = .ok (.istore_n 3, 1) := by decide +kernel
theorem dX3_readPart_13 : decode cX3_readPart 13 = .ok (.aload_n 0, 1) := by decide +kernel
theorem dX3_readPart_14 : decode cX3_readPart 14 = .ok (.getfield 31, 3) := by decide +kernel
theorem dX3_readPart_17 : decode cX3_readPart 17 = .ok (.iconst 2, 1) := by decide +kernel
theorem dX3_readPart_18 : decode cX3_readPart 18 = .ok (.if_icmp .ne 14, 3) := by decide +kernel
theorem dX3_readPart_21 : decode cX3_readPart 21 = .ok (.aload_n 0, 1) := by decide +kernel
theorem dX3_readPart_22 : decode cX3_readPart 22 = .ok (.aload_n 0, 1) := by decide +kernel
theorem dX3_readPart_23 : decode cX3_readPart 23 = .ok (.invokevirtual 118, 3) := by decide +kernel
theorem dX3_readPart_26 : decode cX3_readPart 26 = .ok (.invokevirtual 121, 3) := by decide +kernel
theorem dX3_readPart_29 : decode cX3_readPart 29 = .ok (.goto 110, 3) := by decide +kernel
theorem dX3_readPart_32 : decode cX3_readPart 32 = .ok (.iload_n 3, 1) := by decide +kernel
theorem dX3_readPart_33 : decode cX3_readPart 33 = .ok (.ifCond .lt 15, 3) := by decide +kernel
theorem dX3_readPart_36 : decode cX3_readPart 36 = .ok (.aload_n 0, 1) := by decide +kernel
theorem dX3_readPart_37 : decode cX3_readPart 37 = .ok (.sipush (-1000), 3) := by decide +kernel
theorem dX3_readPart_40 : decode cX3_readPart 40 = .ok (.iload_n 3, 1) := by decide +kernel
theorem dX3_readPart_41 : decode cX3_readPart 41 = .ok (.isub, 1) := by decide +kernel
theorem dX3_readPart_42 : decode cX3_readPart 42 = .ok (.invokevirtual 121, 3) := by decide +kernel
theorem dX3_readPart_45 : decode cX3_readPart 45 = .ok (.goto 94, 3) := by decide +kernel
theorem dX3_readPart_48 : decode cX3_readPart 48 = .ok (.aload_n 0, 1) := by decide +kernel
theorem dX3_readPart_49 : decode cX3_readPart 49 = .ok (.ldc 126, 2) := by decide +kernel
theorem dX3_readPart_51 : decode cX3_readPart 51 = .ok (.invokevirtual 107, 3) := by decide +kernel
theorem dX3_readPart_54 : decode cX3_readPart 54 = .ok (.ifCond .eq 30, 3) := by decide +kernel
theorem dX3_readPart_57 : decode cX3_readPart 57 = .ok (.iload_n 2, 1) := by decide +kernel
theorem dX3_readPart_58 : decode cX3_readPart 58 = .ok (.bipush 8, 2) := by decide +kernel
theorem dX3_readPart_60 : decode cX3_readPart 60 = .ok (.if_icmp .ge 24, 3) := by decide +kernel
theorem dX3_readPart_63 : decode cX3_readPart 63 = .ok (.aload_n 0, 1) := by decide +kernel
theorem dX3_readPart_64 : decode cX3_readPart 64 = .ok (.invokevirtual 43, 3) := by decide +kernel
theorem dX3_readPart_67 : decode cX3_readPart 67 = .ok (.aload_n 0, 1) := by decide +kernel
theorem dX3_readPart_68 : decode cX3_readPart 68 = .ok (.iload_n 1, 1) := by decide +kernel
theorem dX3_readPart_69 : decode cX3_readPart 69 = .ok (.iload_n 2, 1) := by decide +kernel
theorem dX3_readPart_70 : decode cX3_readPart 70 = .ok (.iconst 1, 1) := by decide +kernel
theorem dX3_readPart_71 : decode cX3_readPart 71 = .ok (.iadd, 1) := by decide +kernel
theorem dX3_readPart_72 : decode cX3_readPart 72 = .ok (.invokevirtual 99, 3) := by decide +kernel
theorem dX3_readPart_75 : decode cX3_readPart 75 = .ok (.aload_n 0, 1) := by decide +kernel
theorem dX3_readPart_76 : decode cX3_readPart 76 = .ok (.bipush (-33), 2) := by decide +kernel
theorem dX3_readPart_78 : decode cX3_readPart 78 = .ok (.invokevirtual 111, 3) := by decide +kernel
theorem dX3_readPart_81 : decode cX3_readPart 81 = .ok (.goto 58, 3) := by decide +kernel
theorem dX3_readPart_84 : decode cX3_readPart 84 = .ok (.aload_n 0, 1) := by decide +kernel
theorem dX3_readPart_85 : decode cX3_readPart 85 = .ok (.ldc 128, 2) := by decide +kernel
theorem dX3_readPart_87 : decode cX3_readPart 87 = .ok (.invokevirtual 107, 3) := by decide +kernel
theorem dX3_readPart_90 : decode cX3_readPart 90 = .ok (.ifCond .eq 45, 3) := by decide +kernel
theorem dX3_readPart_93 : decode cX3_readPart 93 = .ok (.iload_n 1, 1) := by decide +kernel
theorem dX3_readPart_94 : decode cX3_readPart 94 = .ok (.bipush 8, 2) := by decide +kernel
theorem dX3_readPart_96 : decode cX3_readPart 96 = .ok (.if_icmp .ge 39, 3) := by decide +kernel
theorem dX3_readPart_99 : decode cX3_readPart 99 = .ok (.aload_n 0, 1) := by decide +kernel
theorem dX3_readPart_100 : decode cX3_readPart 100 = .ok (.invokevirtual 43, 3) := by decide +kernel
theorem dX3_readPart_103 : decode cX3_readPart 103 = .ok (.aload_n 0, 1) := by decide +kernel
theorem dX3_readPart_104 : decode cX3_readPart 104 = .ok (.iconst 0, 1) := by decide +kernel
theorem dX3_readPart_105 : decode cX3_readPart 105 = .ok (.iload_n 1, 1) := by decide +kernel
theorem dX3_readPart_106 : decode cX3_readPart 106 = .ok (.iconst 1, 1) := by decide +kernel
theorem dX3_readPart_107 : decode cX3_readPart 107 = .ok (.iadd, 1) := by decide +kernel
theorem dX3_readPart_108 : decode cX3_readPart 108 = .ok (.iload_n 2, 1) := by decide +kernel
theorem dX3_readPart_109 : decode cX3_readPart 109 = .ok (.invokevirtual 52, 3) := by decide +kernel
theorem dX3_readPart_112 : decode cX3_readPart 112 = .ok (.aload_n 0, 1) := by decide +kernel
theorem dX3_readPart_113 : decode cX3_readPart 113 = .ok (.ldc 130, 2) := by decide +kernel
theorem dX3_readPart_115 : decode cX3_readPart 115 = .ok (.invokevirtual 107, 3) := by decide +kernel
theorem dX3_readPart_118 : decode cX3_readPart 118 = .ok (.ifCond .eq 10, 3) := by decide +kernel
theorem dX3_readPart_121 : decode cX3_readPart 121 = .ok (.aload_n 0, 1) := by decide +kernel
theorem dX3_readPart_122 : decode cX3_readPart 122 = .ok (.invokevirtual 43, 3) := by decide +kernel
theorem dX3_readPart_125 : decode cX3_readPart 125 = .ok (.goto 14, 3) := by decide +kernel
theorem dX3_readPart_128 : decode cX3_readPart 128 = .ok (.aload_n 0, 1) := by decide +kernel
theorem dX3_readPart_129 : decode cX3_readPart 129 = .ok (.invokevirtual 63, 3) := by decide +kernel
theorem dX3_readPart_132 : decode cX3_readPart 132 = .ok (.goto 7, 3) := by decide +kernel
theorem dX3_readPart_135 : decode cX3_readPart 135 = .ok (.aload_n 0, 1) := by decide +kernel
theorem dX3_readPart_136 : decode cX3_readPart 136 = .ok (.invokevirtual 63, 3) := by decide +kernel
theorem dX3_readPart_139 : decode cX3_readPart 139 = .ok (.return_, 1) := by decide +kernel
theorem dX3_readTape_0 : decode cX3_readTape 0 = .ok (.aload_n 0, 1) := by decide +kernel
theorem dX3_readTape_1 : decode cX3_readTape 1 = .ok (.iconst 0, 1) := by decide +kernel
theorem dX3_readTape_2 : decode cX3_readTape 2 = .ok (.putfield 22, 3) := by decide +kernel
theorem dX3_readTape_5 : decode cX3_readTape 5 = .ok (.aload_n 0, 1) := by decide +kernel
theorem dX3_readTape_6 : decode cX3_readTape 6 = .ok (.iconst 0, 1) := by decide +kernel
theorem dX3_readTape_7 : decode cX3_readTape 7 = .ok (.putfield 25, 3) := by decide +kernel
theorem dX3_readTape_10 : decode cX3_readTape 10 = .ok (.aload_n 0, 1) := by decide +kernel
theorem dX3_readTape_11 : decode cX3_readTape 11 = .ok (.iconst (-1), 1) := by decide +kernel
theorem dX3_readTape_12 : decode cX3_readTape 12 = .ok (.putfield 28, 3) := by decide +kernel
theorem dX3_readTape_15 : decode cX3_readTape 15 = .ok (.aload_n 0, 1) := by decide +kernel
theorem dX3_readTape_16 : decode cX3_readTape 16 = .ok (.iconst 3, 1) := by decide +kernel
theorem dX3_readTape_17 : decode cX3_readTape 17 = .ok (.putfield 31, 3) := by decide +kernel
theorem dX3_readTape_20 : decode cX3_readTape 20 = .ok (.aload_n 0, 1) := by decide +kernel
theorem dX3_readTape_21 : decode cX3_readTape 21 = .ok (.iconst 0, 1) := by decide +kernel
theorem dX3_readTape_22 : decode cX3_readTape 22 = .ok (.putfield 34, 3) := by decide +kernel
theorem dX3_readTape_25 : decode cX3_readTape 25 = .ok (.aload_n 0, 1) := by decide +kernel
theorem dX3_readTape_26 : decode cX3_readTape 26 = .ok (.ldc 37, 2) := by decide +kernel
theorem dX3_readTape_28 : decode cX3_readTape 28 = .ok (.putfield 39, 3) := by decide +kernel
theorem dX3_readTape_31 : decode cX3_readTape 31 = .ok (.aload_n 0, 1) := by decide +kernel
theorem dX3_readTape_32 : decode cX3_readTape 32 = .ok (.invokevirtual 43, 3) := by decide +kernel
theorem dX3_readTape_35 : decode cX3_readTape 35 = .ok (.aload_n 0, 1) := by decide +kernel
theorem dX3_readTape_36 : decode cX3_readTape 36 = .ok (.ldc 46, 2) := by decide +kernel
theorem dX3_readTape_38 : decode cX3_readTape 38 = .ok (.invokevirtual 48, 3) := by decide +kernel
theorem dX3_readTape_41 : decode cX3_readTape 41 = .ok (.aload_n 0, 1) := by decide +kernel
theorem dX3_readTape_42 : decode cX3_readTape 42 = .ok (.iconst 0, 1) := by decide +kernel
theorem dX3_readTape_43 : decode cX3_readTape 43 = .ok (.iconst 0, 1) := by decide +kernel
theorem dX3_readTape_44 : decode cX3_readTape 44 = .ok (.iconst 0, 1) := by decide +kernel
theorem dX3_readTape_45 : decode cX3_readTape 45 = .ok (.invokevirtual 52, 3) := by decide +kernel
theorem dX3_readTape_48 : decode cX3_readTape 48 = .ok (.aload_n 0, 1) := by decide +kernel
theorem dX3_readTape_49 : decode cX3_readTape 49 = .ok (.aload_n 0, 1) := by decide +kernel
theorem dX3_readTape_50 : decode cX3_readTape 50 = .ok (.getfield 22, 3) := by decide +kernel
theorem dX3_readTape_53 : decode cX3_readTape 53 = .ok (.putfield 56, 3) := by decide +kernel
theorem dX3_readTape_56 : decode cX3_readTape 56 = .ok (.aload_n 0, 1) := by decide +kernel
theorem dX3_readTape_57 : decode cX3_readTape 57 = .ok (.ldc 59, 2) := by decide +kernel
theorem dX3_readTape_59 : decode cX3_readTape 59 = .ok (.putfield 39, 3) := by decide +kernel
theorem dX3_readTape_62 : decode cX3_readTape 62 = .ok (.aload_n 0, 1) := by decide +kernel
theorem dX3_readTape_63 : decode cX3_readTape 63 = .ok (.ldc 61, 2) := by decide +kernel
theorem dX3_readTape_65 : decode cX3_readTape 65 = .ok (.invokevirtual 48, 3) := by decide +kernel
theorem dX3_readTape_68 : decode cX3_readTape 68 = .ok (.aload_n 0, 1) := by decide +kernel
theorem dX3_readTape_69 : decode cX3_readTape 69 = .ok (.iconst 0, 1) := by decide +kernel
theorem dX3_readTape_70 : decode cX3_readTape 70 = .ok (.iconst 0, 1) := by decide +kernel
theorem dX3_readTape_71 : decode cX3_readTape 71 = .ok (.iconst 0, 1) := by decide +kernel
theorem dX3_readTape_72 : decode cX3_readTape 72 = .ok (.invokevirtual 52, 3) := by decide +kernel
theorem dX3_readTape_75 : decode cX3_readTape 75 = .ok (.aload_n 0, 1) := by decide +kernel
theorem dX3_readTape_76 : decode cX3_readTape 76 = .ok (.getfield 31, 3) := by decide +kernel
theorem dX3_readTape_79 : decode cX3_readTape 79 = .ok (.ifCond .eq 7, 3) := by decide +kernel
theorem dX3_readTape_82 : decode cX3_readTape 82 = .ok (.aload_n 0, 1) := by decide +kernel
theorem dX3_readTape_83 : decode cX3_readTape 83 = .ok (.invokevirtual 63, 3) := by decide +kernel
theorem dX3_readTape_86 : decode cX3_readTape 86 = .ok (.return_, 1) := by decide +kernel
theorem dX3_readWord_0 : decode cX3_readWord 0 = .ok (.aload_n 0, 1) := by decide +kernel
theorem dX3_readWord_1 : decode cX3_readWord 1 = .ok (.getfield 28, 3) := by decide +kernel
theorem dX3_readWord_4 : decode cX3_readWord 4 = .ok (.ifCond .ge 31, 3) := by decide +kernel
theorem dX3_readWord_7 : decode cX3_readWord 7 = .ok (.aload_n 0, 1) := by decide +kernel
theorem dX3_readWord_8 : decode cX3_readWord 8 = .ok (.getfield 31, 3) := by decide +kernel
theorem dX3_readWord_11 : decode cX3_readWord 11 = .ok (.iconst 1, 1) := by decide +kernel
theorem dX3_readWord_12 : decode cX3_readWord 12 = .ok (.if_icmp .ne 23, 3) := by decide +kernel
theorem dX3_readWord_15 : decode cX3_readWord 15 = .ok (.aload_n 0, 1) := by decide +kernel
theorem dX3_readWord_16 : decode cX3_readWord 16 = .ok (.getfield 34, 3) := by decide +kernel
theorem dX3_readWord_19 : decode cX3_readWord 19 = .ok (.aload_n 0, 1) := by decide +kernel
theorem dX3_readWord_20 : decode cX3_readWord 20 = .ok (.getfield 66, 3) := by decide +kernel
theorem dX3_readWord_23 : decode cX3_readWord 23 = .ok (.isub, 1) := by decide +kernel
theorem dX3_readWord_24 : decode cX3_readWord 24 = .ok (.aload_n 1, 1) := by decide +kernel
theorem dX3_readWord_25 : decode cX3_readWord 25 = .ok (.invokevirtual 76, 3) := by decide +kernel
theorem dX3_readWord_28 : decode cX3_readWord 28 = .ok (.if_icmp .ne 7, 3) := by decide +kernel
theorem dX3_readWord_31 : decode cX3_readWord 31 = .ok (.iconst 1, 1) := by decide +kernel
theorem dX3_readWord_32 : decode cX3_readWord 32 = .ok (.goto 4, 3) := by decide +kernel
theorem dX3_readWord_35 : decode cX3_readWord 35 = .ok (.iconst 0, 1) := by decide +kernel
theorem dX3_readWord_36 : decode cX3_readWord 36 = .ok (.istore_n 2, 1) := by decide +kernel
theorem dX3_readWord_37 : decode cX3_readWord 37 = .ok (.iconst 0, 1) := by decide +kernel
theorem dX3_readWord_38 : decode cX3_readWord 38 = .ok (.istore_n 3, 1) := by decide +kernel
theorem dX3_readWord_39 : decode cX3_readWord 39 = .ok (.iload_n 2, 1) := by decide +kernel
theorem dX3_readWord_40 : decode cX3_readWord 40 = .ok (.ifCond .eq 42, 3) := by decide +kernel
theorem dX3_readWord_43 : decode cX3_readWord 43 = .ok (.iload_n 3, 1) := by decide +kernel
theorem dX3_readWord_44 : decode cX3_readWord 44 = .ok (.aload_n 1, 1) := by decide +kernel
theorem dX3_readWord_45 : decode cX3_readWord 45 = .ok (.invokevirtual 76, 3) := by decide +kernel
theorem dX3_readWord_48 : decode cX3_readWord 48 = .ok (.if_icmp .ge 34, 3) := by decide +kernel
theorem dX3_readWord_51 : decode cX3_readWord 51 = .ok (.aload_n 0, 1) := by decide +kernel
theorem dX3_readWord_52 : decode cX3_readWord 52 = .ok (.getfield 9, 3) := by decide +kernel
theorem dX3_readWord_55 : decode cX3_readWord 55 = .ok (.aload_n 0, 1) := by decide +kernel
theorem dX3_readWord_56 : decode cX3_readWord 56 = .ok (.getfield 66, 3) := by decide +kernel
theorem dX3_readWord_59 : decode cX3_readWord 59 = .ok (.iload_n 3, 1) := by decide +kernel
theorem dX3_readWord_60 : decode cX3_readWord 60 = .ok (.iadd, 1) := by decide +kernel
theorem dX3_readWord_61 : decode cX3_readWord 61 = .ok (.iaload, 1) := by decide +kernel
theorem dX3_readWord_62 : decode cX3_readWord 62 = .ok (.aload_n 1, 1) := by decide +kernel
theorem dX3_readWord_63 : decode cX3_readWord 63 = .ok (.iload_n 3, 1) := by decide +kernel
theorem dX3_readWord_64 : decode cX3_readWord 64 = .ok (.invokevirtual 81, 3) := by decide +kernel
theorem dX3_readWord_67 : decode cX3_readWord 67 = .ok (.if_icmp .ne 7, 3) := by decide +kernel
theorem dX3_readWord_70 : decode cX3_readWord 70 = .ok (.iconst 1, 1) := by decide +kernel
theorem dX3_readWord_71 : decode cX3_readWord 71 = .ok (.goto 4, 3) := by decide +kernel
theorem dX3_readWord_74 : decode cX3_readWord 74 = .ok (.iconst 0, 1) := by decide +kernel
theorem dX3_readWord_75 : decode cX3_readWord 75 = .ok (.istore_n 2, 1) := by decide +kernel
theorem dX3_readWord_76 : decode cX3_readWord 76 = .ok (.iinc 3 1, 3) := by decide +kernel
theorem dX3_readWord_79 : decode cX3_readWord 79 = .ok (.goto (-40), 3) := by decide +kernel
theorem dX3_readWord_82 : decode cX3_readWord 82 = .ok (.iload_n 2, 1) := by decide +kernel
theorem dX3_readWord_83 : decode cX3_readWord 83 = .ok (.ifCond .eq 10, 3) := by decide +kernel
theorem dX3_readWord_86 : decode cX3_readWord 86 = .ok (.aload_n 0, 1) := by decide +kernel
theorem dX3_readWord_87 : decode cX3_readWord 87 = .ok (.invokevirtual 43, 3) := by decide +kernel
theorem dX3_readWord_90 : decode cX3_readWord 90 = .ok (.goto 7, 3) := by decide +kernel
theorem dX3_readWord_93 : decode cX3_readWord 93 = .ok (.aload_n 0, 1) := by decide +kernel
theorem dX3_readWord_94 : decode cX3_readWord 94 = .ok (.invokevirtual 63, 3) := by decide +kernel
theorem dX3_readWord_97 : decode cX3_readWord 97 = .ok (.return_, 1) := by decide +kernel
theorem dX3_signsOf_0 : decode cX3_signsOf 0 = .ok (.iload_n 0, 1) := by decide +kernel
theorem dX3_signsOf_1 : decode cX3_signsOf 1 = .ok (.tableswitch 43 0 3 #[31, 34, 37, 40], 31) := by decide +kernel
theorem dX3_signsOf_32 : decode cX3_signsOf 32 = .ok (.ldc 85, 2) := by decide +kernel
theorem dX3_signsOf_34 : decode cX3_signsOf 34 = .ok (.areturn, 1) := by decide +kernel
theorem dX3_signsOf_35 : decode cX3_signsOf 35 = .ok (.ldc 87, 2) := by decide +kernel
theorem dX3_signsOf_37 : decode cX3_signsOf 37 = .ok (.areturn, 1) := by decide +kernel
theorem dX3_signsOf_38 : decode cX3_signsOf 38 = .ok (.ldc 89, 2) := by decide +kernel
theorem dX3_signsOf_40 : decode cX3_signsOf 40 = .ok (.areturn, 1) := by decide +kernel
theorem dX3_signsOf_41 : decode cX3_signsOf 41 = .ok (.ldc 91, 2) := by decide +kernel
theorem dX3_signsOf_43 : decode cX3_signsOf 43 = .ok (.areturn, 1) := by decide +kernel
theorem dX3_signsOf_44 : decode cX3_signsOf 44 = .ok (.ldc 93, 2) := by decide +kernel
theorem dX3_signsOf_46 : decode cX3_signsOf 46 = .ok (.areturn, 1) := by decide +kernel
theorem dX3_slotOfName_0 : decode cX3_slotOfName 0 = .ok (.aload_n 0, 1) := by decide +kernel
theorem dX3_slotOfName_1 : decode cX3_slotOfName 1 = .ok (.getfield 31, 3) := by decide +kernel
theorem dX3_slotOfName_4 : decode cX3_slotOfName 4 = .ok (.iconst 1, 1) := by decide +kernel
theorem dX3_slotOfName_5 : decode cX3_slotOfName 5 = .ok (.if_icmp .ne 36, 3) := by decide +kernel
theorem dX3_slotOfName_8 : decode cX3_slotOfName 8 = .ok (.aload_n 0, 1) := by decide +kernel
theorem dX3_slotOfName_9 : decode cX3_slotOfName 9 = .ok (.getfield 34, 3) := by decide +kernel
theorem dX3_slotOfName_12 : decode cX3_slotOfName 12 = .ok (.aload_n 0, 1) := by decide +kernel
theorem dX3_slotOfName_13 : decode cX3_slotOfName 13 = .ok (.getfield 66, 3) := by decide +kernel
theorem dX3_slotOfName_16 : decode cX3_slotOfName 16 = .ok (.isub, 1) := by decide +kernel
theorem dX3_slotOfName_17 : decode cX3_slotOfName 17 = .ok (.iconst 1, 1) := by decide +kernel
theorem dX3_slotOfName_18 : decode cX3_slotOfName 18 = .ok (.if_icmp .ne 23, 3) := by decide +kernel
theorem dX3_slotOfName_21 : decode cX3_slotOfName 21 = .ok (.aload_n 0, 1) := by decide +kernel
theorem dX3_slotOfName_22 : decode cX3_slotOfName 22 = .ok (.getfield 39, 3) := by decide +kernel
theorem dX3_slotOfName_25 : decode cX3_slotOfName 25 = .ok (.aload_n 0, 1) := by decide +kernel
theorem dX3_slotOfName_26 : decode cX3_slotOfName 26 = .ok (.getfield 9, 3) := by decide +kernel
theorem dX3_slotOfName_29 : decode cX3_slotOfName 29 = .ok (.aload_n 0, 1) := by decide +kernel
theorem dX3_slotOfName_30 : decode cX3_slotOfName 30 = .ok (.getfield 66, 3) := by decide +kernel
theorem dX3_slotOfName_33 : decode cX3_slotOfName 33 = .ok (.iaload, 1) := by decide +kernel
theorem dX3_slotOfName_34 : decode cX3_slotOfName 34 = .ok (.i2c, 1) := by decide +kernel
theorem dX3_slotOfName_35 : decode cX3_slotOfName 35 = .ok (.invokevirtual 95, 3) := by decide +kernel
theorem dX3_slotOfName_38 : decode cX3_slotOfName 38 = .ok (.goto 4, 3) := by decide +kernel
theorem dX3_slotOfName_41 : decode cX3_slotOfName 41 = .ok (.iconst (-1), 1) := by decide +kernel
theorem dX3_slotOfName_42 : decode cX3_slotOfName 42 = .ok (.ireturn, 1) := by decide +kernel
theorem dX3_step_0 : decode cX3_step 0 = .ok (.aload_n 0, 1) := by decide +kernel
theorem dX3_step_1 : decode cX3_step 1 = .ok (.getfield 31, 3) := by decide +kernel
theorem dX3_step_4 : decode cX3_step 4 = .ok (.iconst 1, 1) := by decide +kernel
theorem dX3_step_5 : decode cX3_step 5 = .ok (.if_icmp .eq 11, 3) := by decide +kernel
theorem dX3_step_8 : decode cX3_step 8 = .ok (.aload_n 0, 1) := by decide +kernel
theorem dX3_step_9 : decode cX3_step 9 = .ok (.getfield 31, 3) := by decide +kernel
theorem dX3_step_12 : decode cX3_step 12 = .ok (.iconst 2, 1) := by decide +kernel
theorem dX3_step_13 : decode cX3_step 13 = .ok (.if_icmp .ne 7, 3) := by decide +kernel
theorem dX3_step_16 : decode cX3_step 16 = .ok (.iconst 1, 1) := by decide +kernel
theorem dX3_step_17 : decode cX3_step 17 = .ok (.goto 4, 3) := by decide +kernel
theorem dX3_step_20 : decode cX3_step 20 = .ok (.iconst 0, 1) := by decide +kernel
theorem dX3_step_21 : decode cX3_step 21 = .ok (.istore_n 1, 1) := by decide +kernel
theorem dX3_step_22 : decode cX3_step 22 = .ok (.aload_n 0, 1) := by decide +kernel
theorem dX3_step_23 : decode cX3_step 23 = .ok (.getfield 34, 3) := by decide +kernel
theorem dX3_step_26 : decode cX3_step 26 = .ok (.istore_n 2, 1) := by decide +kernel
theorem dX3_step_27 : decode cX3_step 27 = .ok (.aload_n 0, 1) := by decide +kernel
theorem dX3_step_28 : decode cX3_step 28 = .ok (.iload_n 2, 1) := by decide +kernel
theorem dX3_step_29 : decode cX3_step 29 = .ok (.putfield 66, 3) := by decide +kernel
theorem dX3_step_32 : decode cX3_step 32 = .ok (.aload_n 0, 1) := by decide +kernel
theorem dX3_step_33 : decode cX3_step 33 = .ok (.getfield 66, 3) := by decide +kernel
theorem dX3_step_36 : decode cX3_step 36 = .ok (.aload_n 0, 1) := by decide +kernel
theorem dX3_step_37 : decode cX3_step 37 = .ok (.getfield 18, 3) := by decide +kernel
theorem dX3_step_40 : decode cX3_step 40 = .ok (.if_icmp .ge 30, 3) := by decide +kernel
theorem dX3_step_43 : decode cX3_step 43 = .ok (.aload_n 0, 1) := by decide +kernel
theorem dX3_step_44 : decode cX3_step 44 = .ok (.getfield 9, 3) := by decide +kernel
theorem dX3_step_47 : decode cX3_step 47 = .ok (.aload_n 0, 1) := by decide +kernel
theorem dX3_step_48 : decode cX3_step 48 = .ok (.getfield 66, 3) := by decide +kernel
theorem dX3_step_51 : decode cX3_step 51 = .ok (.iaload, 1) := by decide +kernel
theorem dX3_step_52 : decode cX3_step 52 = .ok (.bipush 32, 2) := by decide +kernel
theorem dX3_step_54 : decode cX3_step 54 = .ok (.if_icmp .ne 16, 3) := by decide +kernel
theorem dX3_step_57 : decode cX3_step 57 = .ok (.aload_n 0, 1) := by decide +kernel
theorem dX3_step_58 : decode cX3_step 58 = .ok (.dup, 1) := by decide +kernel
theorem dX3_step_59 : decode cX3_step 59 = .ok (.getfield 66, 3) := by decide +kernel
theorem dX3_step_62 : decode cX3_step 62 = .ok (.iconst 1, 1) := by decide +kernel
theorem dX3_step_63 : decode cX3_step 63 = .ok (.iadd, 1) := by decide +kernel
theorem dX3_step_64 : decode cX3_step 64 = .ok (.putfield 66, 3) := by decide +kernel
theorem dX3_step_67 : decode cX3_step 67 = .ok (.goto (-35), 3) := by decide +kernel
theorem dX3_step_70 : decode cX3_step 70 = .ok (.aload_n 0, 1) := by decide +kernel
theorem dX3_step_71 : decode cX3_step 71 = .ok (.aload_n 0, 1) := by decide +kernel
theorem dX3_step_72 : decode cX3_step 72 = .ok (.getfield 66, 3) := by decide +kernel
theorem dX3_step_75 : decode cX3_step 75 = .ok (.putfield 34, 3) := by decide +kernel
theorem dX3_step_78 : decode cX3_step 78 = .ok (.aload_n 0, 1) := by decide +kernel
theorem dX3_step_79 : decode cX3_step 79 = .ok (.getfield 66, 3) := by decide +kernel
theorem dX3_step_82 : decode cX3_step 82 = .ok (.aload_n 0, 1) := by decide +kernel
theorem dX3_step_83 : decode cX3_step 83 = .ok (.getfield 18, 3) := by decide +kernel
theorem dX3_step_86 : decode cX3_step 86 = .ok (.if_icmp .lt 11, 3) := by decide +kernel
theorem dX3_step_89 : decode cX3_step 89 = .ok (.aload_n 0, 1) := by decide +kernel
theorem dX3_step_90 : decode cX3_step 90 = .ok (.iconst 0, 1) := by decide +kernel
theorem dX3_step_91 : decode cX3_step 91 = .ok (.putfield 31, 3) := by decide +kernel
theorem dX3_step_94 : decode cX3_step 94 = .ok (.goto 141, 3) := by decide +kernel
theorem dX3_step_97 : decode cX3_step 97 = .ok (.aload_n 0, 1) := by decide +kernel
theorem dX3_step_98 : decode cX3_step 98 = .ok (.aload_n 0, 1) := by decide +kernel
theorem dX3_step_99 : decode cX3_step 99 = .ok (.getfield 66, 3) := by decide +kernel
theorem dX3_step_102 : decode cX3_step 102 = .ok (.invokevirtual 69, 3) := by decide +kernel
theorem dX3_step_105 : decode cX3_step 105 = .ok (.ifCond .eq 43, 3) := by decide +kernel
theorem dX3_step_108 : decode cX3_step 108 = .ok (.aload_n 0, 1) := by decide +kernel
theorem dX3_step_109 : decode cX3_step 109 = .ok (.iconst 1, 1) := by decide +kernel
theorem dX3_step_110 : decode cX3_step 110 = .ok (.putfield 31, 3) := by decide +kernel
theorem dX3_step_113 : decode cX3_step 113 = .ok (.aload_n 0, 1) := by decide +kernel
theorem dX3_step_114 : decode cX3_step 114 = .ok (.getfield 34, 3) := by decide +kernel
theorem dX3_step_117 : decode cX3_step 117 = .ok (.aload_n 0, 1) := by decide +kernel
theorem dX3_step_118 : decode cX3_step 118 = .ok (.getfield 18, 3) := by decide +kernel
theorem dX3_step_121 : decode cX3_step 121 = .ok (.if_icmp .ge 114, 3) := by decide +kernel
theorem dX3_step_124 : decode cX3_step 124 = .ok (.aload_n 0, 1) := by decide +kernel
theorem dX3_step_125 : decode cX3_step 125 = .ok (.aload_n 0, 1) := by decide +kernel
theorem dX3_step_126 : decode cX3_step 126 = .ok (.getfield 34, 3) := by decide +kernel
theorem dX3_step_129 : decode cX3_step 129 = .ok (.invokevirtual 69, 3) := by decide +kernel
theorem dX3_step_132 : decode cX3_step 132 = .ok (.ifCond .eq 103, 3) := by decide +kernel
theorem dX3_step_135 : decode cX3_step 135 = .ok (.aload_n 0, 1) := by decide +kernel
theorem dX3_step_136 : decode cX3_step 136 = .ok (.dup, 1) := by decide +kernel
theorem dX3_step_137 : decode cX3_step 137 = .ok (.getfield 34, 3) := by decide +kernel
theorem dX3_step_140 : decode cX3_step 140 = .ok (.iconst 1, 1) := by decide +kernel
theorem dX3_step_141 : decode cX3_step 141 = .ok (.iadd, 1) := by decide +kernel
theorem dX3_step_142 : decode cX3_step 142 = .ok (.putfield 34, 3) := by decide +kernel
theorem dX3_step_145 : decode cX3_step 145 = .ok (.goto (-32), 3) := by decide +kernel
theorem dX3_step_148 : decode cX3_step 148 = .ok (.aload_n 0, 1) := by decide +kernel
theorem dX3_step_149 : decode cX3_step 149 = .ok (.aload_n 0, 1) := by decide +kernel
theorem dX3_step_150 : decode cX3_step 150 = .ok (.getfield 66, 3) := by decide +kernel
theorem dX3_step_153 : decode cX3_step 153 = .ok (.invokevirtual 73, 3) := by decide +kernel
theorem dX3_step_156 : decode cX3_step 156 = .ok (.ifCond .eq 64, 3) := by decide +kernel
theorem dX3_step_159 : decode cX3_step 159 = .ok (.aload_n 0, 1) := by decide +kernel
theorem dX3_step_160 : decode cX3_step 160 = .ok (.iconst 2, 1) := by decide +kernel
theorem dX3_step_161 : decode cX3_step 161 = .ok (.putfield 31, 3) := by decide +kernel
theorem dX3_step_164 : decode cX3_step 164 = .ok (.aload_n 0, 1) := by decide +kernel
theorem dX3_step_165 : decode cX3_step 165 = .ok (.getfield 34, 3) := by decide +kernel
theorem dX3_step_168 : decode cX3_step 168 = .ok (.aload_n 0, 1) := by decide +kernel
theorem dX3_step_169 : decode cX3_step 169 = .ok (.getfield 18, 3) := by decide +kernel
theorem dX3_step_172 : decode cX3_step 172 = .ok (.if_icmp .ge 27, 3) := by decide +kernel
theorem dX3_step_175 : decode cX3_step 175 = .ok (.aload_n 0, 1) := by decide +kernel
theorem dX3_step_176 : decode cX3_step 176 = .ok (.aload_n 0, 1) := by decide +kernel
theorem dX3_step_177 : decode cX3_step 177 = .ok (.getfield 34, 3) := by decide +kernel
theorem dX3_step_180 : decode cX3_step 180 = .ok (.invokevirtual 73, 3) := by decide +kernel
theorem dX3_step_183 : decode cX3_step 183 = .ok (.ifCond .eq 16, 3) := by decide +kernel
theorem dX3_step_186 : decode cX3_step 186 = .ok (.aload_n 0, 1) := by decide +kernel
theorem dX3_step_187 : decode cX3_step 187 = .ok (.dup, 1) := by decide +kernel
theorem dX3_step_188 : decode cX3_step 188 = .ok (.getfield 34, 3) := by decide +kernel
theorem dX3_step_191 : decode cX3_step 191 = .ok (.iconst 1, 1) := by decide +kernel
theorem dX3_step_192 : decode cX3_step 192 = .ok (.iadd, 1) := by decide +kernel
theorem dX3_step_193 : decode cX3_step 193 = .ok (.putfield 34, 3) := by decide +kernel
theorem dX3_step_196 : decode cX3_step 196 = .ok (.goto (-32), 3) := by decide +kernel
theorem dX3_step_199 : decode cX3_step 199 = .ok (.aload_n 0, 1) := by decide +kernel
theorem dX3_step_200 : decode cX3_step 200 = .ok (.getfield 34, 3) := by decide +kernel
theorem dX3_step_203 : decode cX3_step 203 = .ok (.aload_n 0, 1) := by decide +kernel
theorem dX3_step_204 : decode cX3_step 204 = .ok (.getfield 66, 3) := by decide +kernel
theorem dX3_step_207 : decode cX3_step 207 = .ok (.isub, 1) := by decide +kernel
theorem dX3_step_208 : decode cX3_step 208 = .ok (.iconst 5, 1) := by decide +kernel
theorem dX3_step_209 : decode cX3_step 209 = .ok (.if_icmp .le 26, 3) := by decide +kernel
theorem dX3_step_212 : decode cX3_step 212 = .ok (.aload_n 0, 1) := by decide +kernel
theorem dX3_step_213 : decode cX3_step 213 = .ok (.iconst 4, 1) := by decide +kernel
theorem dX3_step_214 : decode cX3_step 214 = .ok (.putfield 31, 3) := by decide +kernel
theorem dX3_step_217 : decode cX3_step 217 = .ok (.goto 18, 3) := by decide +kernel
theorem dX3_step_220 : decode cX3_step 220 = .ok (.aload_n 0, 1) := by decide +kernel
theorem dX3_step_221 : decode cX3_step 221 = .ok (.iconst 3, 1) := by decide +kernel
theorem dX3_step_222 : decode cX3_step 222 = .ok (.putfield 31, 3) := by decide +kernel
theorem dX3_step_225 : decode cX3_step 225 = .ok (.aload_n 0, 1) := by decide +kernel
theorem dX3_step_226 : decode cX3_step 226 = .ok (.dup, 1) := by decide +kernel
theorem dX3_step_227 : decode cX3_step 227 = .ok (.getfield 34, 3) := by decide +kernel
theorem dX3_step_230 : decode cX3_step 230 = .ok (.iconst 1, 1) := by decide +kernel
theorem dX3_step_231 : decode cX3_step 231 = .ok (.iadd, 1) := by decide +kernel
theorem dX3_step_232 : decode cX3_step 232 = .ok (.putfield 34, 3) := by decide +kernel
theorem dX3_step_235 : decode cX3_step 235 = .ok (.iload_n 1, 1) := by decide +kernel
theorem dX3_step_236 : decode cX3_step 236 = .ok (.ifCond .eq 32, 3) := by decide +kernel
theorem dX3_step_239 : decode cX3_step 239 = .ok (.aload_n 0, 1) := by decide +kernel
theorem dX3_step_240 : decode cX3_step 240 = .ok (.getfield 66, 3) := by decide +kernel
theorem dX3_step_243 : decode cX3_step 243 = .ok (.iload_n 2, 1) := by decide +kernel
theorem dX3_step_244 : decode cX3_step 244 = .ok (.if_icmp .ne 24, 3) := by decide +kernel
theorem dX3_step_247 : decode cX3_step 247 = .ok (.aload_n 0, 1) := by decide +kernel
theorem dX3_step_248 : decode cX3_step 248 = .ok (.getfield 31, 3) := by decide +kernel
theorem dX3_step_251 : decode cX3_step 251 = .ok (.iconst 1, 1) := by decide +kernel
theorem dX3_step_252 : decode cX3_step 252 = .ok (.if_icmp .eq 11, 3) := by decide +kernel
theorem dX3_step_255 : decode cX3_step 255 = .ok (.aload_n 0, 1) := by decide +kernel
theorem dX3_step_256 : decode cX3_step 256 = .ok (.getfield 31, 3) := by decide +kernel
theorem dX3_step_259 : decode cX3_step 259 = .ok (.iconst 2, 1) := by decide +kernel
theorem dX3_step_260 : decode cX3_step 260 = .ok (.if_icmp .ne 8, 3) := by decide +kernel
theorem dX3_step_263 : decode cX3_step 263 = .ok (.aload_n 0, 1) := by decide +kernel
theorem dX3_step_264 : decode cX3_step 264 = .ok (.iconst 4, 1) := by decide +kernel
theorem dX3_step_265 : decode cX3_step 265 = .ok (.putfield 31, 3) := by decide +kernel
theorem dX3_step_268 : decode cX3_step 268 = .ok (.return_, 1) := by decide +kernel
theorem dX4_cameOf_0 : decode cX4_cameOf 0 = .ok (.iconst 0, 1) := by decide +kernel
theorem dX4_cameOf_1 : decode cX4_cameOf 1 = .ok (.istore_n 2, 1) := by decide +kernel
theorem dX4_cameOf_2 : decode cX4_cameOf 2 = .ok (.iconst 0, 1) := by decide +kernel
theorem dX4_cameOf_3 : decode cX4_cameOf 3 = .ok (.istore_n 3, 1) := by decide +kernel
theorem dX4_cameOf_4 : decode cX4_cameOf 4 = .ok (.iload_n 3, 1) := by decide +kernel
theorem dX4_cameOf_5 : decode cX4_cameOf 5 = .ok (.aload_n 0, 1) := by decide +kernel
theorem dX4_cameOf_6 : decode cX4_cameOf 6 = .ok (.getfield 33, 3) := by decide +kernel
theorem dX4_cameOf_9 : decode cX4_cameOf 9 = .ok (.if_icmp .ge 28, 3) := by decide +kernel
theorem dX4_cameOf_12 : decode cX4_cameOf 12 = .ok (.aload_n 0, 1) := by decide +kernel
theorem dX4_cameOf_13 : decode cX4_cameOf 13 = .ok (.getfield 9, 3) := by decide +kernel
theorem dX4_cameOf_16 : decode cX4_cameOf 16 = .ok (.iload_n 3, 1) := by decide +kernel
theorem dX4_cameOf_17 : decode cX4_cameOf 17 = .ok (.iaload, 1) := by decide +kernel
theorem dX4_cameOf_18 : decode cX4_cameOf 18 = .ok (.iload_n 1, 1) := by decide +kernel
theorem dX4_cameOf_19 : decode cX4_cameOf 19 = .ok (.if_icmp .ne 12, 3) := by decide +kernel
theorem dX4_cameOf_22 : decode cX4_cameOf 22 = .ok (.iload_n 2, 1) := by decide +kernel
theorem dX4_cameOf_23 : decode cX4_cameOf 23 = .ok (.aload_n 0, 1) := by decide +kernel
theorem dX4_cameOf_24 : decode cX4_cameOf 24 = .ok (.getfield 15, 3) := by decide +kernel
theorem dX4_cameOf_27 : decode cX4_cameOf 27 = .ok (.iload_n 3, 1) := by decide +kernel
theorem dX4_cameOf_28 : decode cX4_cameOf 28 = .ok (.iaload, 1) := by decide +kernel
theorem dX4_cameOf_29 : decode cX4_cameOf 29 = .ok (.iadd, 1) := by decide +kernel
theorem dX4_cameOf_30 : decode cX4_cameOf 30 = .ok (.istore_n 2, 1) := by decide +kernel
theorem dX4_cameOf_31 : decode cX4_cameOf 31 = .ok (.iinc 3 1, 3) := by decide +kernel
theorem dX4_cameOf_34 : decode cX4_cameOf 34 = .ok (.goto (-30), 3) := by decide +kernel
theorem dX4_cameOf_37 : decode cX4_cameOf 37 = .ok (.iload_n 2, 1) := by decide +kernel
theorem dX4_cameOf_38 : decode cX4_cameOf 38 = .ok (.ireturn, 1) := by decide +kernel
theorem dX4_draw_0 : decode cX4_draw 0 = .ok (.iload_n 2, 1) := by decide +kernel
theorem dX4_draw_1 : decode cX4_draw 1 = .ok (.istore 4, 2) := by decide +kernel
theorem dX4_draw_3 : decode cX4_draw 3 = .ok (.iconst 0, 1) := by decide +kernel
theorem dX4_draw_4 : decode cX4_draw 4 = .ok (.istore 5, 2) := by decide +kernel
theorem dX4_draw_6 : decode cX4_draw 6 = .ok (.iload 5, 2) := by decide +kernel
theorem dX4_draw_8 : decode cX4_draw 8 = .ok (.aload_n 0, 1) := by decide +kernel
theorem dX4_draw_9 : decode cX4_draw 9 = .ok (.getfield 33, 3) := by decide +kernel
theorem dX4_draw_12 : decode cX4_draw 12 = .ok (.if_icmp .ge 91, 3) := by decide +kernel
theorem dX4_draw_15 : decode cX4_draw 15 = .ok (.iload 4, 2) := by decide +kernel
theorem dX4_draw_17 : decode cX4_draw 17 = .ok (.ifCond .le 86, 3) := by decide +kernel
theorem dX4_draw_20 : decode cX4_draw 20 = .ok (.aload_n 0, 1) := by decide +kernel
theorem dX4_draw_21 : decode cX4_draw 21 = .ok (.getfield 9, 3) := by decide +kernel
theorem dX4_draw_24 : decode cX4_draw 24 = .ok (.iload 5, 2) := by decide +kernel
theorem dX4_draw_26 : decode cX4_draw 26 = .ok (.iaload, 1) := by decide +kernel
theorem dX4_draw_27 : decode cX4_draw 27 = .ok (.iload_n 1, 1) := by decide +kernel
theorem dX4_draw_28 : decode cX4_draw 28 = .ok (.if_icmp .ne 18, 3) := by decide +kernel
theorem dX4_draw_31 : decode cX4_draw 31 = .ok (.iload 4, 2) := by decide +kernel
theorem dX4_draw_33 : decode cX4_draw 33 = .ok (.aload_n 0, 1) := by decide +kernel
theorem dX4_draw_34 : decode cX4_draw 34 = .ok (.getfield 21, 3) := by decide +kernel
theorem dX4_draw_37 : decode cX4_draw 37 = .ok (.iload 5, 2) := by decide +kernel
theorem dX4_draw_39 : decode cX4_draw 39 = .ok (.iaload, 1) := by decide +kernel
theorem dX4_draw_40 : decode cX4_draw 40 = .ok (.invokestatic 37, 3) := by decide +kernel
theorem dX4_draw_43 : decode cX4_draw 43 = .ok (.goto 4, 3) := by decide +kernel
theorem dX4_draw_46 : decode cX4_draw 46 = .ok (.iconst 0, 1) := by decide +kernel
theorem dX4_draw_47 : decode cX4_draw 47 = .ok (.istore 6, 2) := by decide +kernel
theorem dX4_draw_49 : decode cX4_draw 49 = .ok (.iload 6, 2) := by decide +kernel
theorem dX4_draw_51 : decode cX4_draw 51 = .ok (.ifCond .le 46, 3) := by decide +kernel
theorem dX4_draw_54 : decode cX4_draw 54 = .ok (.aload_n 0, 1) := by decide +kernel
theorem dX4_draw_55 : decode cX4_draw 55 = .ok (.getfield 21, 3) := by decide +kernel
theorem dX4_draw_58 : decode cX4_draw 58 = .ok (.iload 5, 2) := by decide +kernel
theorem dX4_draw_60 : decode cX4_draw 60 = .ok (.dup2, 1) := by decide +kernel
theorem dX4_draw_61 : decode cX4_draw 61 = .ok (.iaload, 1) := by decide +kernel
theorem dX4_draw_62 : decode cX4_draw 62 = .ok (.iload 6, 2) := by decide +kernel
theorem dX4_draw_64 : decode cX4_draw 64 = .ok (.isub, 1) := by decide +kernel
theorem dX4_draw_65 : decode cX4_draw 65 = .ok (.iastore, 1) := by decide +kernel
theorem dX4_draw_66 : decode cX4_draw 66 = .ok (.iload 4, 2) := by decide +kernel
theorem dX4_draw_68 : decode cX4_draw 68 = .ok (.iload 6, 2) := by decide +kernel
theorem dX4_draw_70 : decode cX4_draw 70 = .ok (.isub, 1) := by decide +kernel
theorem dX4_draw_71 : decode cX4_draw 71 = .ok (.istore 4, 2) := by decide +kernel
theorem dX4_draw_73 : decode cX4_draw 73 = .ok (.aload_n 0, 1) := by decide +kernel
theorem dX4_draw_74 : decode cX4_draw 74 = .ok (.getfield 24, 3) := by decide +kernel
theorem dX4_draw_77 : decode cX4_draw 77 = .ok (.iload 5, 2) := by decide +kernel
theorem dX4_draw_79 : decode cX4_draw 79 = .ok (.dup2, 1) := by decide +kernel
theorem dX4_draw_80 : decode cX4_draw 80 = .ok (.iaload, 1) := by decide +kernel
theorem dX4_draw_81 : decode cX4_draw 81 = .ok (.iconst 1, 1) := by decide +kernel
theorem dX4_draw_82 : decode cX4_draw 82 = .ok (.iload_n 3, 1) := by decide +kernel
theorem dX4_draw_83 : decode cX4_draw 83 = .ok (.ishl, 1) := by decide +kernel
theorem dX4_draw_84 : decode cX4_draw 84 = .ok (.ior, 1) := by decide +kernel
theorem dX4_draw_85 : decode cX4_draw 85 = .ok (.iastore, 1) := by decide +kernel
theorem dX4_draw_86 : decode cX4_draw 86 = .ok (.aload_n 0, 1) := by decide +kernel
theorem dX4_draw_87 : decode cX4_draw 87 = .ok (.getfield 27, 3) := by decide +kernel
theorem dX4_draw_90 : decode cX4_draw 90 = .ok (.iload_n 1, 1) := by decide +kernel
theorem dX4_draw_91 : decode cX4_draw 91 = .ok (.dup2, 1) := by decide +kernel
theorem dX4_draw_92 : decode cX4_draw 92 = .ok (.iaload, 1) := by decide +kernel
theorem dX4_draw_93 : decode cX4_draw 93 = .ok (.iload 6, 2) := by decide +kernel
theorem dX4_draw_95 : decode cX4_draw 95 = .ok (.iadd, 1) := by decide +kernel
theorem dX4_draw_96 : decode cX4_draw 96 = .ok (.iastore, 1) := by decide +kernel
theorem dX4_draw_97 : decode cX4_draw 97 = .ok (.iinc 5 1, 3) := by decide +kernel
theorem dX4_draw_100 : decode cX4_draw 100 = .ok (.goto (-94), 3) := by decide +kernel
theorem dX4_draw_103 : decode cX4_draw 103 = .ok (.return_, 1) := by decide +kernel
theorem dX4_has_0 : decode cX4_has 0 = .ok (.iload_n 1, 1) := by decide +kernel
theorem dX4_has_1 : decode cX4_has 1 = .ok (.ifCond .lt 15, 3) := by decide +kernel
theorem dX4_has_4 : decode cX4_has 4 = .ok (.iload_n 1, 1) := by decide +kernel
theorem dX4_has_5 : decode cX4_has 5 = .ok (.aload_n 0, 1) := by decide +kernel
theorem dX4_has_6 : decode cX4_has 6 = .ok (.getfield 33, 3) := by decide +kernel
theorem dX4_has_9 : decode cX4_has 9 = .ok (.if_icmp .ge 7, 3) := by decide +kernel
theorem dX4_has_12 : decode cX4_has 12 = .ok (.iconst 1, 1) := by decide +kernel
theorem dX4_has_13 : decode cX4_has 13 = .ok (.goto 4, 3) := by decide +kernel
theorem dX4_has_16 : decode cX4_has 16 = .ok (.iconst 0, 1) := by decide +kernel
theorem dX4_has_17 : decode cX4_has 17 = .ok (.ireturn, 1) := by decide +kernel
theorem dX4_leftOf_0 : decode cX4_leftOf 0 = .ok (.iconst 0, 1) := by decide +kernel
theorem dX4_leftOf_1 : decode cX4_leftOf 1 = .ok (.istore_n 2, 1) := by decide +kernel
theorem dX4_leftOf_2 : decode cX4_leftOf 2 = .ok (.iconst 0, 1) := by decide +kernel
theorem dX4_leftOf_3 : decode cX4_leftOf 3 = .ok (.istore_n 3, 1) := by decide +kernel
theorem dX4_leftOf_4 : decode cX4_leftOf 4 = .ok (.iload_n 3, 1) := by decide +kernel
theorem dX4_leftOf_5 : decode cX4_leftOf 5 = .ok (.aload_n 0, 1) := by decide +kernel
theorem dX4_leftOf_6 : decode cX4_leftOf 6 = .ok (.getfield 33, 3) := by decide +kernel
theorem dX4_leftOf_9 : decode cX4_leftOf 9 = .ok (.if_icmp .ge 28, 3) := by decide +kernel
theorem dX4_leftOf_12 : decode cX4_leftOf 12 = .ok (.aload_n 0, 1) := by decide +kernel
theorem dX4_leftOf_13 : decode cX4_leftOf 13 = .ok (.getfield 9, 3) := by decide +kernel
theorem dX4_leftOf_16 : decode cX4_leftOf 16 = .ok (.iload_n 3, 1) := by decide +kernel
theorem dX4_leftOf_17 : decode cX4_leftOf 17 = .ok (.iaload, 1) := by decide +kernel
theorem dX4_leftOf_18 : decode cX4_leftOf 18 = .ok (.iload_n 1, 1) := by decide +kernel
theorem dX4_leftOf_19 : decode cX4_leftOf 19 = .ok (.if_icmp .ne 12, 3) := by decide +kernel
theorem dX4_leftOf_22 : decode cX4_leftOf 22 = .ok (.iload_n 2, 1) := by decide +kernel
theorem dX4_leftOf_23 : decode cX4_leftOf 23 = .ok (.aload_n 0, 1) := by decide +kernel
theorem dX4_leftOf_24 : decode cX4_leftOf 24 = .ok (.getfield 21, 3) := by decide +kernel
theorem dX4_leftOf_27 : decode cX4_leftOf 27 = .ok (.iload_n 3, 1) := by decide +kernel
theorem dX4_leftOf_28 : decode cX4_leftOf 28 = .ok (.iaload, 1) := by decide +kernel
theorem dX4_leftOf_29 : decode cX4_leftOf 29 = .ok (.iadd, 1) := by decide +kernel
theorem dX4_leftOf_30 : decode cX4_leftOf 30 = .ok (.istore_n 2, 1) := by decide +kernel
theorem dX4_leftOf_31 : decode cX4_leftOf 31 = .ok (.iinc 3 1, 3) := by decide +kernel
theorem dX4_leftOf_34 : decode cX4_leftOf 34 = .ok (.goto (-30), 3) := by decide +kernel
theorem dX4_leftOf_37 : decode cX4_leftOf 37 = .ok (.iload_n 2, 1) := by decide +kernel
theorem dX4_leftOf_38 : decode cX4_leftOf 38 = .ok (.ireturn, 1) := by decide +kernel
theorem dX4_takeFrom_0 : decode cX4_takeFrom 0 = .ok (.aload_n 0, 1) := by decide +kernel
theorem dX4_takeFrom_1 : decode cX4_takeFrom 1 = .ok (.aload_n 1, 1) := by decide +kernel
theorem dX4_takeFrom_2 : decode cX4_takeFrom 2 = .ok (.getfield 33, 3) := by decide +kernel
theorem dX4_takeFrom_5 : decode cX4_takeFrom 5 = .ok (.putfield 33, 3) := by decide +kernel
theorem dX4_takeFrom_8 : decode cX4_takeFrom 8 = .ok (.aload_n 1, 1) := by decide +kernel
theorem dX4_takeFrom_9 : decode cX4_takeFrom 9 = .ok (.getfield 9, 3) := by decide +kernel
theorem dX4_takeFrom_12 : decode cX4_takeFrom 12 = .ok (.aload_n 0, 1) := by decide +kernel
theorem dX4_takeFrom_13 : decode cX4_takeFrom 13 = .ok (.getfield 9, 3) := by decide +kernel
theorem dX4_takeFrom_16 : decode cX4_takeFrom 16 = .ok (.invokestatic 43, 3) := by decide +kernel
theorem dX4_takeFrom_19 : decode cX4_takeFrom 19 = .ok (.aload_n 1, 1) := by decide +kernel
theorem dX4_takeFrom_20 : decode cX4_takeFrom 20 = .ok (.getfield 15, 3) := by decide +kernel
theorem dX4_takeFrom_23 : decode cX4_takeFrom 23 = .ok (.aload_n 0, 1) := by decide +kernel
theorem dX4_takeFrom_24 : decode cX4_takeFrom 24 = .ok (.getfield 15, 3) := by decide +kernel
theorem dX4_takeFrom_27 : decode cX4_takeFrom 27 = .ok (.invokestatic 43, 3) := by decide +kernel
theorem dX4_takeFrom_30 : decode cX4_takeFrom 30 = .ok (.aload_n 1, 1) := by decide +kernel
theorem dX4_takeFrom_31 : decode cX4_takeFrom 31 = .ok (.getfield 18, 3) := by decide +kernel
theorem dX4_takeFrom_34 : decode cX4_takeFrom 34 = .ok (.aload_n 0, 1) := by decide +kernel
theorem dX4_takeFrom_35 : decode cX4_takeFrom 35 = .ok (.getfield 18, 3) := by decide +kernel
theorem dX4_takeFrom_38 : decode cX4_takeFrom 38 = .ok (.invokestatic 43, 3) := by decide +kernel
theorem dX4_takeFrom_41 : decode cX4_takeFrom 41 = .ok (.aload_n 1, 1) := by decide +kernel
theorem dX4_takeFrom_42 : decode cX4_takeFrom 42 = .ok (.getfield 21, 3) := by decide +kernel
theorem dX4_takeFrom_45 : decode cX4_takeFrom 45 = .ok (.aload_n 0, 1) := by decide +kernel
theorem dX4_takeFrom_46 : decode cX4_takeFrom 46 = .ok (.getfield 21, 3) := by decide +kernel
theorem dX4_takeFrom_49 : decode cX4_takeFrom 49 = .ok (.invokestatic 43, 3) := by decide +kernel
theorem dX4_takeFrom_52 : decode cX4_takeFrom 52 = .ok (.aload_n 1, 1) := by decide +kernel
theorem dX4_takeFrom_53 : decode cX4_takeFrom 53 = .ok (.getfield 24, 3) := by decide +kernel
theorem dX4_takeFrom_56 : decode cX4_takeFrom 56 = .ok (.aload_n 0, 1) := by decide +kernel
theorem dX4_takeFrom_57 : decode cX4_takeFrom 57 = .ok (.getfield 24, 3) := by decide +kernel
theorem dX4_takeFrom_60 : decode cX4_takeFrom 60 = .ok (.invokestatic 43, 3) := by decide +kernel
theorem dX4_takeFrom_63 : decode cX4_takeFrom 63 = .ok (.aload_n 1, 1) := by decide +kernel
theorem dX4_takeFrom_64 : decode cX4_takeFrom 64 = .ok (.getfield 27, 3) := by decide +kernel
theorem dX4_takeFrom_67 : decode cX4_takeFrom 67 = .ok (.aload_n 0, 1) := by decide +kernel
theorem dX4_takeFrom_68 : decode cX4_takeFrom 68 = .ok (.getfield 27, 3) := by decide +kernel
theorem dX4_takeFrom_71 : decode cX4_takeFrom 71 = .ok (.invokestatic 43, 3) := by decide +kernel
theorem dX4_takeFrom_74 : decode cX4_takeFrom 74 = .ok (.aload_n 1, 1) := by decide +kernel
theorem dX4_takeFrom_75 : decode cX4_takeFrom 75 = .ok (.getfield 30, 3) := by decide +kernel
theorem dX4_takeFrom_78 : decode cX4_takeFrom 78 = .ok (.aload_n 0, 1) := by decide +kernel
theorem dX4_takeFrom_79 : decode cX4_takeFrom 79 = .ok (.getfield 30, 3) := by decide +kernel
theorem dX4_takeFrom_82 : decode cX4_takeFrom 82 = .ok (.invokestatic 43, 3) := by decide +kernel
theorem dX4_takeFrom_85 : decode cX4_takeFrom 85 = .ok (.return_, 1) := by decide +kernel
theorem dX4_throwLeft_0 : decode cX4_throwLeft 0 = .ok (.aload_n 0, 1) := by decide +kernel
theorem dX4_throwLeft_1 : decode cX4_throwLeft 1 = .ok (.getfield 30, 3) := by decide +kernel
theorem dX4_throwLeft_4 : decode cX4_throwLeft 4 = .ok (.aload_n 0, 1) := by decide +kernel
theorem dX4_throwLeft_5 : decode cX4_throwLeft 5 = .ok (.getfield 9, 3) := by decide +kernel
theorem dX4_throwLeft_8 : decode cX4_throwLeft 8 = .ok (.iload_n 1, 1) := by decide +kernel
theorem dX4_throwLeft_9 : decode cX4_throwLeft 9 = .ok (.iaload, 1) := by decide +kernel
theorem dX4_throwLeft_10 : decode cX4_throwLeft 10 = .ok (.dup2, 1) := by decide +kernel
theorem dX4_throwLeft_11 : decode cX4_throwLeft 11 = .ok (.iaload, 1) := by decide +kernel
theorem dX4_throwLeft_12 : decode cX4_throwLeft 12 = .ok (.aload_n 0, 1) := by decide +kernel
theorem dX4_throwLeft_13 : decode cX4_throwLeft 13 = .ok (.getfield 21, 3) := by decide +kernel
theorem dX4_throwLeft_16 : decode cX4_throwLeft 16 = .ok (.iload_n 1, 1) := by decide +kernel
theorem dX4_throwLeft_17 : decode cX4_throwLeft 17 = .ok (.iaload, 1) := by decide +kernel
theorem dX4_throwLeft_18 : decode cX4_throwLeft 18 = .ok (.iadd, 1) := by decide +kernel
theorem dX4_throwLeft_19 : decode cX4_throwLeft 19 = .ok (.iastore, 1) := by decide +kernel
theorem dX4_throwLeft_20 : decode cX4_throwLeft 20 = .ok (.aload_n 0, 1) := by decide +kernel
theorem dX4_throwLeft_21 : decode cX4_throwLeft 21 = .ok (.getfield 21, 3) := by decide +kernel
theorem dX4_throwLeft_24 : decode cX4_throwLeft 24 = .ok (.iload_n 1, 1) := by decide +kernel
theorem dX4_throwLeft_25 : decode cX4_throwLeft 25 = .ok (.iconst 0, 1) := by decide +kernel
theorem dX4_throwLeft_26 : decode cX4_throwLeft 26 = .ok (.iastore, 1) := by decide +kernel
theorem dX4_throwLeft_27 : decode cX4_throwLeft 27 = .ok (.return_, 1) := by decide +kernel
theorem dX5_gramsOf_0 : decode cX5_gramsOf 0 = .ok (.iconst 0, 1) := by decide +kernel
theorem dX5_gramsOf_1 : decode cX5_gramsOf 1 = .ok (.istore_n 2, 1) := by decide +kernel
theorem dX5_gramsOf_2 : decode cX5_gramsOf 2 = .ok (.iconst 0, 1) := by decide +kernel
theorem dX5_gramsOf_3 : decode cX5_gramsOf 3 = .ok (.istore_n 3, 1) := by decide +kernel
theorem dX5_gramsOf_4 : decode cX5_gramsOf 4 = .ok (.iload_n 3, 1) := by decide +kernel
theorem dX5_gramsOf_5 : decode cX5_gramsOf 5 = .ok (.bipush 14, 2) := by decide +kernel
theorem dX5_gramsOf_7 : decode cX5_gramsOf 7 = .ok (.if_icmp .ge 20, 3) := by decide +kernel
theorem dX5_gramsOf_10 : decode cX5_gramsOf 10 = .ok (.iload_n 2, 1) := by decide +kernel
theorem dX5_gramsOf_11 : decode cX5_gramsOf 11 = .ok (.aload_n 0, 1) := by decide +kernel
theorem dX5_gramsOf_12 : decode cX5_gramsOf 12 = .ok (.getfield 20, 3) := by decide +kernel
theorem dX5_gramsOf_15 : decode cX5_gramsOf 15 = .ok (.iload_n 1, 1) := by decide +kernel
theorem dX5_gramsOf_16 : decode cX5_gramsOf 16 = .ok (.aaload, 1) := by decide +kernel
theorem dX5_gramsOf_17 : decode cX5_gramsOf 17 = .ok (.iload_n 3, 1) := by decide +kernel
theorem dX5_gramsOf_18 : decode cX5_gramsOf 18 = .ok (.iaload, 1) := by decide +kernel
theorem dX5_gramsOf_19 : decode cX5_gramsOf 19 = .ok (.iadd, 1) := by decide +kernel
theorem dX5_gramsOf_20 : decode cX5_gramsOf 20 = .ok (.istore_n 2, 1) := by decide +kernel
theorem dX5_gramsOf_21 : decode cX5_gramsOf 21 = .ok (.iinc 3 1, 3) := by decide +kernel
theorem dX5_gramsOf_24 : decode cX5_gramsOf 24 = .ok (.goto (-20), 3) := by decide +kernel
theorem dX5_gramsOf_27 : decode cX5_gramsOf 27 = .ok (.iload_n 2, 1) := by decide +kernel
theorem dX5_gramsOf_28 : decode cX5_gramsOf 28 = .ok (.ireturn, 1) := by decide +kernel
theorem dX5_has_0 : decode cX5_has 0 = .ok (.iload_n 1, 1) := by decide +kernel
theorem dX5_has_1 : decode cX5_has 1 = .ok (.ifCond .lt 15, 3) := by decide +kernel
theorem dX5_has_4 : decode cX5_has 4 = .ok (.iload_n 1, 1) := by decide +kernel
theorem dX5_has_5 : decode cX5_has 5 = .ok (.aload_n 0, 1) := by decide +kernel
theorem dX5_has_6 : decode cX5_has 6 = .ok (.getfield 23, 3) := by decide +kernel
theorem dX5_has_9 : decode cX5_has 9 = .ok (.if_icmp .ge 7, 3) := by decide +kernel
theorem dX5_has_12 : decode cX5_has 12 = .ok (.iconst 1, 1) := by decide +kernel
theorem dX5_has_13 : decode cX5_has 13 = .ok (.goto 4, 3) := by decide +kernel
theorem dX5_has_16 : decode cX5_has 16 = .ok (.iconst 0, 1) := by decide +kernel
theorem dX5_has_17 : decode cX5_has 17 = .ok (.ireturn, 1) := by decide +kernel
theorem dX5_isKind_0 : decode cX5_isKind 0 = .ok (.iload_n 2, 1) := by decide +kernel
theorem dX5_isKind_1 : decode cX5_isKind 1 = .ok (.ifCond .eq 28, 3) := by decide +kernel
theorem dX5_isKind_4 : decode cX5_isKind 4 = .ok (.aload_n 0, 1) := by decide +kernel
theorem dX5_isKind_5 : decode cX5_isKind 5 = .ok (.getfield 9, 3) := by decide +kernel
theorem dX5_isKind_8 : decode cX5_isKind 8 = .ok (.iload_n 1, 1) := by decide +kernel
theorem dX5_isKind_9 : decode cX5_isKind 9 = .ok (.iaload, 1) := by decide +kernel
theorem dX5_isKind_10 : decode cX5_isKind 10 = .ok (.iload_n 2, 1) := by decide +kernel
theorem dX5_isKind_11 : decode cX5_isKind 11 = .ok (.if_icmp .eq 18, 3) := by decide +kernel
theorem dX5_isKind_14 : decode cX5_isKind 14 = .ok (.iload_n 2, 1) := by decide +kernel
theorem dX5_isKind_15 : decode cX5_isKind 15 = .ok (.iconst 2, 1) := by decide +kernel
theorem dX5_isKind_16 : decode cX5_isKind 16 = .ok (.if_icmp .ne 17, 3) := by decide +kernel
theorem dX5_isKind_19 : decode cX5_isKind 19 = .ok (.aload_n 0, 1) := by decide +kernel
theorem dX5_isKind_20 : decode cX5_isKind 20 = .ok (.getfield 9, 3) := by decide +kernel
theorem dX5_isKind_23 : decode cX5_isKind 23 = .ok (.iload_n 1, 1) := by decide +kernel
theorem dX5_isKind_24 : decode cX5_isKind 24 = .ok (.iaload, 1) := by decide +kernel
theorem dX5_isKind_25 : decode cX5_isKind 25 = .ok (.iconst 3, 1) := by decide +kernel
theorem dX5_isKind_26 : decode cX5_isKind 26 = .ok (.if_icmp .ne 7, 3) := by decide +kernel
theorem dX5_isKind_29 : decode cX5_isKind 29 = .ok (.iconst 1, 1) := by decide +kernel
theorem dX5_isKind_30 : decode cX5_isKind 30 = .ok (.goto 4, 3) := by decide +kernel
theorem dX5_isKind_33 : decode cX5_isKind 33 = .ok (.iconst 0, 1) := by decide +kernel
theorem dX5_isKind_34 : decode cX5_isKind 34 = .ok (.ireturn, 1) := by decide +kernel
theorem dX5_partsIn_0 : decode cX5_partsIn 0 = .ok (.iconst 0, 1) := by decide +kernel
theorem dX5_partsIn_1 : decode cX5_partsIn 1 = .ok (.istore_n 2, 1) := by decide +kernel
theorem dX5_partsIn_2 : decode cX5_partsIn 2 = .ok (.iconst 0, 1) := by decide +kernel
theorem dX5_partsIn_3 : decode cX5_partsIn 3 = .ok (.istore_n 3, 1) := by decide +kernel
theorem dX5_partsIn_4 : decode cX5_partsIn 4 = .ok (.iload_n 3, 1) := by decide +kernel
theorem dX5_partsIn_5 : decode cX5_partsIn 5 = .ok (.bipush 14, 2) := by decide +kernel
theorem dX5_partsIn_7 : decode cX5_partsIn 7 = .ok (.if_icmp .ge 23, 3) := by decide +kernel
theorem dX5_partsIn_10 : decode cX5_partsIn 10 = .ok (.aload_n 0, 1) := by decide +kernel
theorem dX5_partsIn_11 : decode cX5_partsIn 11 = .ok (.getfield 20, 3) := by decide +kernel
theorem dX5_partsIn_14 : decode cX5_partsIn 14 = .ok (.iload_n 1, 1) := by decide +kernel
theorem dX5_partsIn_15 : decode cX5_partsIn 15 = .ok (.aaload, 1) := by decide +kernel
theorem dX5_partsIn_16 : decode cX5_partsIn 16 = .ok (.iload_n 3, 1) := by decide +kernel
theorem dX5_partsIn_17 : decode cX5_partsIn 17 = .ok (.iaload, 1) := by decide +kernel
theorem dX5_partsIn_18 : decode cX5_partsIn 18 = .ok (.ifCond .le 6, 3) := by decide +kernel
theorem dX5_partsIn_21 : decode cX5_partsIn 21 = .ok (.iinc 2 1, 3) := by decide +kernel
theorem dX5_partsIn_24 : decode cX5_partsIn 24 = .ok (.iinc 3 1, 3) := by decide +kernel
theorem dX5_partsIn_27 : decode cX5_partsIn 27 = .ok (.goto (-23), 3) := by decide +kernel
theorem dX5_partsIn_30 : decode cX5_partsIn 30 = .ok (.iload_n 2, 1) := by decide +kernel
theorem dX5_partsIn_31 : decode cX5_partsIn 31 = .ok (.ireturn, 1) := by decide +kernel
theorem dX5_takeFrom_0 : decode cX5_takeFrom 0 = .ok (.aload_n 0, 1) := by decide +kernel
theorem dX5_takeFrom_1 : decode cX5_takeFrom 1 = .ok (.aload_n 1, 1) := by decide +kernel
theorem dX5_takeFrom_2 : decode cX5_takeFrom 2 = .ok (.getfield 23, 3) := by decide +kernel
theorem dX5_takeFrom_5 : decode cX5_takeFrom 5 = .ok (.putfield 23, 3) := by decide +kernel
theorem dX5_takeFrom_8 : decode cX5_takeFrom 8 = .ok (.aload_n 1, 1) := by decide +kernel
theorem dX5_takeFrom_9 : decode cX5_takeFrom 9 = .ok (.getfield 9, 3) := by decide +kernel
theorem dX5_takeFrom_12 : decode cX5_takeFrom 12 = .ok (.aload_n 0, 1) := by decide +kernel
theorem dX5_takeFrom_13 : decode cX5_takeFrom 13 = .ok (.getfield 9, 3) := by decide +kernel
theorem dX5_takeFrom_16 : decode cX5_takeFrom 16 = .ok (.invokestatic 27, 3) := by decide +kernel
theorem dX5_takeFrom_19 : decode cX5_takeFrom 19 = .ok (.aload_n 1, 1) := by decide +kernel
theorem dX5_takeFrom_20 : decode cX5_takeFrom 20 = .ok (.getfield 15, 3) := by decide +kernel
theorem dX5_takeFrom_23 : decode cX5_takeFrom 23 = .ok (.aload_n 0, 1) := by decide +kernel
theorem dX5_takeFrom_24 : decode cX5_takeFrom 24 = .ok (.getfield 15, 3) := by decide +kernel
theorem dX5_takeFrom_27 : decode cX5_takeFrom 27 = .ok (.invokestatic 27, 3) := by decide +kernel
theorem dX5_takeFrom_30 : decode cX5_takeFrom 30 = .ok (.aload_n 1, 1) := by decide +kernel
theorem dX5_takeFrom_31 : decode cX5_takeFrom 31 = .ok (.getfield 20, 3) := by decide +kernel
theorem dX5_takeFrom_34 : decode cX5_takeFrom 34 = .ok (.aload_n 0, 1) := by decide +kernel
theorem dX5_takeFrom_35 : decode cX5_takeFrom 35 = .ok (.getfield 20, 3) := by decide +kernel
theorem dX5_takeFrom_38 : decode cX5_takeFrom 38 = .ok (.invokestatic 31, 3) := by decide +kernel
theorem dX5_takeFrom_41 : decode cX5_takeFrom 41 = .ok (.return_, 1) := by decide +kernel
theorem dX6_gather_0 : decode cX6_gather 0 = .ok (.aload_n 0, 1) := by decide +kernel
theorem dX6_gather_1 : decode cX6_gather 1 = .ok (.getfield 18, 3) := by decide +kernel
theorem dX6_gather_4 : decode cX6_gather 4 = .ok (.getfield 22, 3) := by decide +kernel
theorem dX6_gather_7 : decode cX6_gather 7 = .ok (.astore_n 1, 1) := by decide +kernel
theorem dX6_gather_8 : decode cX6_gather 8 = .ok (.aload_n 0, 1) := by decide +kernel
theorem dX6_gather_9 : decode cX6_gather 9 = .ok (.getfield 18, 3) := by decide +kernel
theorem dX6_gather_12 : decode cX6_gather 12 = .ok (.getfield 28, 3) := by decide +kernel
theorem dX6_gather_15 : decode cX6_gather 15 = .ok (.astore_n 2, 1) := by decide +kernel
theorem dX6_gather_16 : decode cX6_gather 16 = .ok (.aload_n 0, 1) := by decide +kernel
theorem dX6_gather_17 : decode cX6_gather 17 = .ok (.iconst 0, 1) := by decide +kernel
theorem dX6_gather_18 : decode cX6_gather 18 = .ok (.putfield 32, 3) := by decide +kernel
theorem dX6_gather_21 : decode cX6_gather 21 = .ok (.iconst 0, 1) := by decide +kernel
theorem dX6_gather_22 : decode cX6_gather 22 = .ok (.istore_n 3, 1) := by decide +kernel
theorem dX6_gather_23 : decode cX6_gather 23 = .ok (.iload_n 3, 1) := by decide +kernel
theorem dX6_gather_24 : decode cX6_gather 24 = .ok (.aload_n 1, 1) := by decide +kernel
theorem dX6_gather_25 : decode cX6_gather 25 = .ok (.getfield 36, 3) := by decide +kernel
theorem dX6_gather_28 : decode cX6_gather 28 = .ok (.if_icmp .ge 44, 3) := by decide +kernel
theorem dX6_gather_31 : decode cX6_gather 31 = .ok (.aload_n 0, 1) := by decide +kernel
theorem dX6_gather_32 : decode cX6_gather 32 = .ok (.getfield 15, 3) := by decide +kernel
theorem dX6_gather_35 : decode cX6_gather 35 = .ok (.iload_n 3, 1) := by decide +kernel
theorem dX6_gather_36 : decode cX6_gather 36 = .ok (.aload_n 0, 1) := by decide +kernel
theorem dX6_gather_37 : decode cX6_gather 37 = .ok (.getfield 18, 3) := by decide +kernel
theorem dX6_gather_40 : decode cX6_gather 40 = .ok (.iload_n 3, 1) := by decide +kernel
theorem dX6_gather_41 : decode cX6_gather 41 = .ok (.invokevirtual 41, 3) := by decide +kernel
theorem dX6_gather_44 : decode cX6_gather 44 = .ok (.iastore, 1) := by decide +kernel
theorem dX6_gather_45 : decode cX6_gather 45 = .ok (.aload_n 1, 1) := by decide +kernel
theorem dX6_gather_46 : decode cX6_gather 46 = .ok (.iload_n 3, 1) := by decide +kernel
theorem dX6_gather_47 : decode cX6_gather 47 = .ok (.iconst 2, 1) := by decide +kernel
theorem dX6_gather_48 : decode cX6_gather 48 = .ok (.invokevirtual 45, 3) := by decide +kernel
theorem dX6_gather_51 : decode cX6_gather 51 = .ok (.ifCond .eq 15, 3) := by decide +kernel
theorem dX6_gather_54 : decode cX6_gather 54 = .ok (.aload_n 0, 1) := by decide +kernel
theorem dX6_gather_55 : decode cX6_gather 55 = .ok (.dup, 1) := by decide +kernel
theorem dX6_gather_56 : decode cX6_gather 56 = .ok (.getfield 32, 3) := by decide +kernel
theorem dX6_gather_59 : decode cX6_gather 59 = .ok (.iconst 1, 1) := by decide +kernel
theorem dX6_gather_60 : decode cX6_gather 60 = .ok (.iload_n 3, 1) := by decide +kernel
theorem dX6_gather_61 : decode cX6_gather 61 = .ok (.ishl, 1) := by decide +kernel
theorem dX6_gather_62 : decode cX6_gather 62 = .ok (.ior, 1) := by decide +kernel
theorem dX6_gather_63 : decode cX6_gather 63 = .ok (.putfield 32, 3) := by decide +kernel
theorem dX6_gather_66 : decode cX6_gather 66 = .ok (.iinc 3 1, 3) := by decide +kernel
theorem dX6_gather_69 : decode cX6_gather 69 = .ok (.goto (-46), 3) := by decide +kernel
theorem dX6_gather_72 : decode cX6_gather 72 = .ok (.iconst 0, 1) := by decide +kernel
theorem dX6_gather_73 : decode cX6_gather 73 = .ok (.istore_n 3, 1) := by decide +kernel
theorem dX6_gather_74 : decode cX6_gather 74 = .ok (.iload_n 3, 1) := by decide +kernel
theorem dX6_gather_75 : decode cX6_gather 75 = .ok (.aload_n 2, 1) := by decide +kernel
theorem dX6_gather_76 : decode cX6_gather 76 = .ok (.getfield 49, 3) := by decide +kernel
theorem dX6_gather_79 : decode cX6_gather 79 = .ok (.if_icmp .ge 73, 3) := by decide +kernel
theorem dX6_gather_82 : decode cX6_gather 82 = .ok (.aload_n 0, 1) := by decide +kernel
theorem dX6_gather_83 : decode cX6_gather 83 = .ok (.getfield 9, 3) := by decide +kernel
theorem dX6_gather_86 : decode cX6_gather 86 = .ok (.iload_n 3, 1) := by decide +kernel
theorem dX6_gather_87 : decode cX6_gather 87 = .ok (.iconst 0, 1) := by decide +kernel
theorem dX6_gather_88 : decode cX6_gather 88 = .ok (.iastore, 1) := by decide +kernel
theorem dX6_gather_89 : decode cX6_gather 89 = .ok (.iconst 0, 1) := by decide +kernel
theorem dX6_gather_90 : decode cX6_gather 90 = .ok (.istore 4, 2) := by decide +kernel
theorem dX6_gather_92 : decode cX6_gather 92 = .ok (.iload 4, 2) := by decide +kernel
theorem dX6_gather_94 : decode cX6_gather 94 = .ok (.aload_n 1, 1) := by decide +kernel
theorem dX6_gather_95 : decode cX6_gather 95 = .ok (.getfield 36, 3) := by decide +kernel
theorem dX6_gather_98 : decode cX6_gather 98 = .ok (.if_icmp .ge 48, 3) := by decide +kernel
theorem dX6_gather_101 : decode cX6_gather 101 = .ok (.aload_n 2, 1) := by decide +kernel
theorem dX6_gather_102 : decode cX6_gather 102 = .ok (.getfield 52, 3) := by decide +kernel
theorem dX6_gather_105 : decode cX6_gather 105 = .ok (.iload_n 3, 1) := by decide +kernel
theorem dX6_gather_106 : decode cX6_gather 106 = .ok (.aaload, 1) := by decide +kernel
theorem dX6_gather_107 : decode cX6_gather 107 = .ok (.iload 4, 2) := by decide +kernel
theorem dX6_gather_109 : decode cX6_gather 109 = .ok (.iaload, 1) := by decide +kernel
theorem dX6_gather_110 : decode cX6_gather 110 = .ok (.iconst 5, 1) := by decide +kernel
theorem dX6_gather_111 : decode cX6_gather 111 = .ok (.if_icmp .lt 29, 3) := by decide +kernel
theorem dX6_gather_114 : decode cX6_gather 114 = .ok (.aload_n 0, 1) := by decide +kernel
theorem dX6_gather_115 : decode cX6_gather 115 = .ok (.getfield 18, 3) := by decide +kernel
theorem dX6_gather_118 : decode cX6_gather 118 = .ok (.iload_n 3, 1) := by decide +kernel
theorem dX6_gather_119 : decode cX6_gather 119 = .ok (.iload 4, 2) := by decide +kernel
theorem dX6_gather_121 : decode cX6_gather 121 = .ok (.invokevirtual 56, 3) := by decide +kernel
theorem dX6_gather_124 : decode cX6_gather 124 = .ok (.ifCond .eq 16, 3) := by decide +kernel
theorem dX6_gather_127 : decode cX6_gather 127 = .ok (.aload_n 0, 1) := by decide +kernel
theorem dX6_gather_128 : decode cX6_gather 128 = .ok (.getfield 9, 3) := by decide +kernel
theorem dX6_gather_131 : decode cX6_gather 131 = .ok (.iload_n 3, 1) := by decide +kernel
theorem dX6_gather_132 : decode cX6_gather 132 = .ok (.dup2, 1) := by decide +kernel
theorem dX6_gather_133 : decode cX6_gather 133 = .ok (.iaload, 1) := by decide +kernel
theorem dX6_gather_134 : decode cX6_gather 134 = .ok (.iconst 1, 1) := by decide +kernel
theorem dX6_gather_135 : decode cX6_gather 135 = .ok (.iload 4, 2) := by decide +kernel
theorem dX6_gather_137 : decode cX6_gather 137 = .ok (.ishl, 1) := by decide +kernel
theorem dX6_gather_138 : decode cX6_gather 138 = .ok (.ior, 1) := by decide +kernel
theorem dX6_gather_139 : decode cX6_gather 139 = .ok (.iastore, 1) := by decide +kernel
theorem dX6_gather_140 : decode cX6_gather 140 = .ok (.iinc 4 1, 3) := by decide +kernel
theorem dX6_gather_143 : decode cX6_gather 143 = .ok (.goto (-51), 3) := by decide +kernel
theorem dX6_gather_146 : decode cX6_gather 146 = .ok (.iinc 3 1, 3) := by decide +kernel
theorem dX6_gather_149 : decode cX6_gather 149 = .ok (.goto (-75), 3) := by decide +kernel
theorem dX6_gather_152 : decode cX6_gather 152 = .ok (.return_, 1) := by decide +kernel
theorem dX6_keptBy_0 : decode cX6_keptBy 0 = .ok (.iconst 2, 1) := by decide +kernel
theorem dX6_keptBy_1 : decode cX6_keptBy 1 = .ok (.iload_n 1, 1) := by decide +kernel
theorem dX6_keptBy_2 : decode cX6_keptBy 2 = .ok (.invokestatic 59, 3) := by decide +kernel
theorem dX6_keptBy_5 : decode cX6_keptBy 5 = .ok (.invokestatic 64, 3) := by decide +kernel
theorem dX6_keptBy_8 : decode cX6_keptBy 8 = .ok (.istore_n 2, 1) := by decide +kernel
theorem dX6_keptBy_9 : decode cX6_keptBy 9 = .ok (.iconst 0, 1) := by decide +kernel
theorem dX6_keptBy_10 : decode cX6_keptBy 10 = .ok (.istore_n 3, 1) := by decide +kernel
theorem dX6_keptBy_11 : decode cX6_keptBy 11 = .ok (.iconst 0, 1) := by decide +kernel
theorem dX6_keptBy_12 : decode cX6_keptBy 12 = .ok (.istore 4, 2) := by decide +kernel
theorem dX6_keptBy_14 : decode cX6_keptBy 14 = .ok (.iload 4, 2) := by decide +kernel
theorem dX6_keptBy_16 : decode cX6_keptBy 16 = .ok (.aload_n 0, 1) := by decide +kernel
theorem dX6_keptBy_17 : decode cX6_keptBy 17 = .ok (.getfield 18, 3) := by decide +kernel
theorem dX6_keptBy_20 : decode cX6_keptBy 20 = .ok (.getfield 28, 3) := by decide +kernel
theorem dX6_keptBy_23 : decode cX6_keptBy 23 = .ok (.getfield 49, 3) := by decide +kernel
theorem dX6_keptBy_26 : decode cX6_keptBy 26 = .ok (.if_icmp .ge 28, 3) := by decide +kernel
theorem dX6_keptBy_29 : decode cX6_keptBy 29 = .ok (.aload_n 0, 1) := by decide +kernel
theorem dX6_keptBy_30 : decode cX6_keptBy 30 = .ok (.getfield 9, 3) := by decide +kernel
theorem dX6_keptBy_33 : decode cX6_keptBy 33 = .ok (.iload 4, 2) := by decide +kernel
theorem dX6_keptBy_35 : decode cX6_keptBy 35 = .ok (.iaload, 1) := by decide +kernel
theorem dX6_keptBy_36 : decode cX6_keptBy 36 = .ok (.iload_n 1, 1) := by decide +kernel
theorem dX6_keptBy_37 : decode cX6_keptBy 37 = .ok (.iand, 1) := by decide +kernel
theorem dX6_keptBy_38 : decode cX6_keptBy 38 = .ok (.invokestatic 59, 3) := by decide +kernel
theorem dX6_keptBy_41 : decode cX6_keptBy 41 = .ok (.iload_n 2, 1) := by decide +kernel
theorem dX6_keptBy_42 : decode cX6_keptBy 42 = .ok (.if_icmp .lt 6, 3) := by decide +kernel
theorem dX6_keptBy_45 : decode cX6_keptBy 45 = .ok (.iinc 3 1, 3) := by decide +kernel
theorem dX6_keptBy_48 : decode cX6_keptBy 48 = .ok (.iinc 4 1, 3) := by decide +kernel
theorem dX6_keptBy_51 : decode cX6_keptBy 51 = .ok (.goto (-37), 3) := by decide +kernel
theorem dX6_keptBy_54 : decode cX6_keptBy 54 = .ok (.iload_n 3, 1) := by decide +kernel
theorem dX6_keptBy_55 : decode cX6_keptBy 55 = .ok (.ireturn, 1) := by decide +kernel
theorem dX6_seekFrom_0 : decode cX6_seekFrom 0 = .ok (.iload_n 2, 1) := by decide +kernel
theorem dX6_seekFrom_1 : decode cX6_seekFrom 1 = .ok (.ifCond .gt 9, 3) := by decide +kernel
theorem dX6_seekFrom_4 : decode cX6_seekFrom 4 = .ok (.aload_n 0, 1) := by decide +kernel
theorem dX6_seekFrom_5 : decode cX6_seekFrom 5 = .ok (.iload_n 3, 1) := by decide +kernel
theorem dX6_seekFrom_6 : decode cX6_seekFrom 6 = .ok (.invokevirtual 94, 3) := by decide +kernel
theorem dX6_seekFrom_9 : decode cX6_seekFrom 9 = .ok (.return_, 1) := by decide +kernel
theorem dX6_seekFrom_10 : decode cX6_seekFrom 10 = .ok (.iload_n 1, 1) := by decide +kernel
theorem dX6_seekFrom_11 : decode cX6_seekFrom 11 = .ok (.istore 5, 2) := by decide +kernel
theorem dX6_seekFrom_13 : decode cX6_seekFrom 13 = .ok (.iload 5, 2) := by decide +kernel
theorem dX6_seekFrom_15 : decode cX6_seekFrom 15 = .ok (.aload_n 0, 1) := by decide +kernel
theorem dX6_seekFrom_16 : decode cX6_seekFrom 16 = .ok (.getfield 18, 3) := by decide +kernel
theorem dX6_seekFrom_19 : decode cX6_seekFrom 19 = .ok (.getfield 22, 3) := by decide +kernel
theorem dX6_seekFrom_22 : decode cX6_seekFrom 22 = .ok (.getfield 36, 3) := by decide +kernel
theorem dX6_seekFrom_25 : decode cX6_seekFrom 25 = .ok (.if_icmp .ge 91, 3) := by decide +kernel
theorem dX6_seekFrom_28 : decode cX6_seekFrom 28 = .ok (.aload_n 0, 1) := by decide +kernel
theorem dX6_seekFrom_29 : decode cX6_seekFrom 29 = .ok (.getfield 76, 3) := by decide +kernel
theorem dX6_seekFrom_32 : decode cX6_seekFrom 32 = .ok (.aload_n 0, 1) := by decide +kernel
theorem dX6_seekFrom_33 : decode cX6_seekFrom 33 = .ok (.getfield 73, 3) := by decide +kernel
theorem dX6_seekFrom_36 : decode cX6_seekFrom 36 = .ok (.if_icmp .gt 80, 3) := by decide +kernel
theorem dX6_seekFrom_39 : decode cX6_seekFrom 39 = .ok (.iconst 1, 1) := by decide +kernel
theorem dX6_seekFrom_40 : decode cX6_seekFrom 40 = .ok (.aload_n 0, 1) := by decide +kernel
theorem dX6_seekFrom_41 : decode cX6_seekFrom 41 = .ok (.getfield 18, 3) := by decide +kernel
theorem dX6_seekFrom_44 : decode cX6_seekFrom 44 = .ok (.getfield 22, 3) := by decide +kernel
theorem dX6_seekFrom_47 : decode cX6_seekFrom 47 = .ok (.getfield 98, 3) := by decide +kernel
theorem dX6_seekFrom_50 : decode cX6_seekFrom 50 = .ok (.iload 5, 2) := by decide +kernel
theorem dX6_seekFrom_52 : decode cX6_seekFrom 52 = .ok (.iaload, 1) := by decide +kernel
theorem dX6_seekFrom_53 : decode cX6_seekFrom 53 = .ok (.ishl, 1) := by decide +kernel
theorem dX6_seekFrom_54 : decode cX6_seekFrom 54 = .ok (.istore 6, 2) := by decide +kernel
theorem dX6_seekFrom_56 : decode cX6_seekFrom 56 = .ok (.iload 4, 2) := by decide +kernel
theorem dX6_seekFrom_58 : decode cX6_seekFrom 58 = .ok (.iload 6, 2) := by decide +kernel
theorem dX6_seekFrom_60 : decode cX6_seekFrom 60 = .ok (.iand, 1) := by decide +kernel
theorem dX6_seekFrom_61 : decode cX6_seekFrom 61 = .ok (.ifCond .eq 6, 3) := by decide +kernel
theorem dX6_seekFrom_64 : decode cX6_seekFrom 64 = .ok (.goto 46, 3) := by decide +kernel
theorem dX6_seekFrom_67 : decode cX6_seekFrom 67 = .ok (.aload_n 0, 1) := by decide +kernel
theorem dX6_seekFrom_68 : decode cX6_seekFrom 68 = .ok (.dup, 1) := by decide +kernel
theorem dX6_seekFrom_69 : decode cX6_seekFrom 69 = .ok (.getfield 76, 3) := by decide +kernel
theorem dX6_seekFrom_72 : decode cX6_seekFrom 72 = .ok (.iconst 1, 1) := by decide +kernel
theorem dX6_seekFrom_73 : decode cX6_seekFrom 73 = .ok (.iadd, 1) := by decide +kernel
theorem dX6_seekFrom_74 : decode cX6_seekFrom 74 = .ok (.putfield 76, 3) := by decide +kernel
theorem dX6_seekFrom_77 : decode cX6_seekFrom 77 = .ok (.aload_n 0, 1) := by decide +kernel
theorem dX6_seekFrom_78 : decode cX6_seekFrom 78 = .ok (.getfield 76, 3) := by decide +kernel
theorem dX6_seekFrom_81 : decode cX6_seekFrom 81 = .ok (.aload_n 0, 1) := by decide +kernel
theorem dX6_seekFrom_82 : decode cX6_seekFrom 82 = .ok (.getfield 73, 3) := by decide +kernel
theorem dX6_seekFrom_85 : decode cX6_seekFrom 85 = .ok (.if_icmp .gt 25, 3) := by decide +kernel
theorem dX6_seekFrom_88 : decode cX6_seekFrom 88 = .ok (.aload_n 0, 1) := by decide +kernel
theorem dX6_seekFrom_89 : decode cX6_seekFrom 89 = .ok (.iload 5, 2) := by decide +kernel
theorem dX6_seekFrom_91 : decode cX6_seekFrom 91 = .ok (.iconst 1, 1) := by decide +kernel
theorem dX6_seekFrom_92 : decode cX6_seekFrom 92 = .ok (.iadd, 1) := by decide +kernel
theorem dX6_seekFrom_93 : decode cX6_seekFrom 93 = .ok (.iload_n 2, 1) := by decide +kernel
theorem dX6_seekFrom_94 : decode cX6_seekFrom 94 = .ok (.iconst 1, 1) := by decide +kernel
theorem dX6_seekFrom_95 : decode cX6_seekFrom 95 = .ok (.isub, 1) := by decide +kernel
theorem dX6_seekFrom_96 : decode cX6_seekFrom 96 = .ok (.iload_n 3, 1) := by decide +kernel
theorem dX6_seekFrom_97 : decode cX6_seekFrom 97 = .ok (.iconst 1, 1) := by decide +kernel
theorem dX6_seekFrom_98 : decode cX6_seekFrom 98 = .ok (.iload 5, 2) := by decide +kernel
theorem dX6_seekFrom_100 : decode cX6_seekFrom 100 = .ok (.ishl, 1) := by decide +kernel
theorem dX6_seekFrom_101 : decode cX6_seekFrom 101 = .ok (.ior, 1) := by decide +kernel
theorem dX6_seekFrom_102 : decode cX6_seekFrom 102 = .ok (.iload 4, 2) := by decide +kernel
theorem dX6_seekFrom_104 : decode cX6_seekFrom 104 = .ok (.iload 6, 2) := by decide +kernel
theorem dX6_seekFrom_106 : decode cX6_seekFrom 106 = .ok (.ior, 1) := by decide +kernel
theorem dX6_seekFrom_107 : decode cX6_seekFrom 107 = .ok (.invokevirtual 88, 3) := by decide +kernel
theorem dX6_seekFrom_110 : decode cX6_seekFrom 110 = .ok (.iinc 5 1, 3) := by decide +kernel
theorem dX6_seekFrom_113 : decode cX6_seekFrom 113 = .ok (.goto (-100), 3) := by decide +kernel
theorem dX6_seekFrom_116 : decode cX6_seekFrom 116 = .ok (.return_, 1) := by decide +kernel
theorem dX6_seek_0 : decode cX6_seek 0 = .ok (.aload_n 0, 1) := by decide +kernel
theorem dX6_seek_1 : decode cX6_seek 1 = .ok (.invokevirtual 70, 3) := by decide +kernel
theorem dX6_seek_4 : decode cX6_seek 4 = .ok (.aload_n 0, 1) := by decide +kernel
theorem dX6_seek_5 : decode cX6_seek 5 = .ok (.iload_n 2, 1) := by decide +kernel
theorem dX6_seek_6 : decode cX6_seek 6 = .ok (.putfield 73, 3) := by decide +kernel
theorem dX6_seek_9 : decode cX6_seek 9 = .ok (.aload_n 0, 1) := by decide +kernel
theorem dX6_seek_10 : decode cX6_seek 10 = .ok (.iconst 0, 1) := by decide +kernel
theorem dX6_seek_11 : decode cX6_seek 11 = .ok (.putfield 76, 3) := by decide +kernel
theorem dX6_seek_14 : decode cX6_seek 14 = .ok (.aload_n 0, 1) := by decide +kernel
theorem dX6_seek_15 : decode cX6_seek 15 = .ok (.iconst (-1), 1) := by decide +kernel
theorem dX6_seek_16 : decode cX6_seek 16 = .ok (.putfield 79, 3) := by decide +kernel
theorem dX6_seek_19 : decode cX6_seek 19 = .ok (.aload_n 0, 1) := by decide +kernel
theorem dX6_seek_20 : decode cX6_seek 20 = .ok (.iconst 0, 1) := by decide +kernel
theorem dX6_seek_21 : decode cX6_seek 21 = .ok (.putfield 82, 3) := by decide +kernel
theorem dX6_seek_24 : decode cX6_seek 24 = .ok (.aload_n 0, 1) := by decide +kernel
theorem dX6_seek_25 : decode cX6_seek 25 = .ok (.iconst 0, 1) := by decide +kernel
theorem dX6_seek_26 : decode cX6_seek 26 = .ok (.putfield 85, 3) := by decide +kernel
theorem dX6_seek_29 : decode cX6_seek 29 = .ok (.aload_n 0, 1) := by decide +kernel
theorem dX6_seek_30 : decode cX6_seek 30 = .ok (.iconst 0, 1) := by decide +kernel
theorem dX6_seek_31 : decode cX6_seek 31 = .ok (.iload_n 1, 1) := by decide +kernel
theorem dX6_seek_32 : decode cX6_seek 32 = .ok (.iconst 0, 1) := by decide +kernel
theorem dX6_seek_33 : decode cX6_seek 33 = .ok (.iconst 0, 1) := by decide +kernel
theorem dX6_seek_34 : decode cX6_seek 34 = .ok (.invokevirtual 88, 3) := by decide +kernel
theorem dX6_seek_37 : decode cX6_seek 37 = .ok (.aload_n 0, 1) := by decide +kernel
theorem dX6_seek_38 : decode cX6_seek 38 = .ok (.getfield 76, 3) := by decide +kernel
theorem dX6_seek_41 : decode cX6_seek 41 = .ok (.aload_n 0, 1) := by decide +kernel
theorem dX6_seek_42 : decode cX6_seek 42 = .ok (.getfield 73, 3) := by decide +kernel
theorem dX6_seek_45 : decode cX6_seek 45 = .ok (.if_icmp .le 6, 3) := by decide +kernel
theorem dX6_seek_48 : decode cX6_seek 48 = .ok (.ldc 92, 2) := by decide +kernel
theorem dX6_seek_50 : decode cX6_seek 50 = .ok (.ireturn, 1) := by decide +kernel
theorem dX6_seek_51 : decode cX6_seek 51 = .ok (.aload_n 0, 1) := by decide +kernel
theorem dX6_seek_52 : decode cX6_seek 52 = .ok (.getfield 79, 3) := by decide +kernel
theorem dX6_seek_55 : decode cX6_seek 55 = .ok (.ifCond .ge 8, 3) := by decide +kernel
theorem dX6_seek_58 : decode cX6_seek 58 = .ok (.ldc 93, 2) := by decide +kernel
theorem dX6_seek_60 : decode cX6_seek 60 = .ok (.goto 4, 3) := by decide +kernel
theorem dX6_seek_63 : decode cX6_seek 63 = .ok (.iconst 0, 1) := by decide +kernel
theorem dX6_seek_64 : decode cX6_seek 64 = .ok (.ireturn, 1) := by decide +kernel
theorem dX6_weigh_0 : decode cX6_weigh 0 = .ok (.iload_n 1, 1) := by decide +kernel
theorem dX6_weigh_1 : decode cX6_weigh 1 = .ok (.aload_n 0, 1) := by decide +kernel
theorem dX6_weigh_2 : decode cX6_weigh 2 = .ok (.getfield 32, 3) := by decide +kernel
theorem dX6_weigh_5 : decode cX6_weigh 5 = .ok (.iand, 1) := by decide +kernel
theorem dX6_weigh_6 : decode cX6_weigh 6 = .ok (.ifCond .ne 4, 3) := by decide +kernel
theorem dX6_weigh_9 : decode cX6_weigh 9 = .ok (.return_, 1) := by decide +kernel
theorem dX6_weigh_10 : decode cX6_weigh 10 = .ok (.aload_n 0, 1) := by decide +kernel
theorem dX6_weigh_11 : decode cX6_weigh 11 = .ok (.iload_n 1, 1) := by decide +kernel
theorem dX6_weigh_12 : decode cX6_weigh 12 = .ok (.invokevirtual 101, 3) := by decide +kernel
theorem dX6_weigh_15 : decode cX6_weigh 15 = .ok (.istore_n 2, 1) := by decide +kernel
theorem dX6_weigh_16 : decode cX6_weigh 16 = .ok (.iconst 0, 1) := by decide +kernel
theorem dX6_weigh_17 : decode cX6_weigh 17 = .ok (.istore_n 3, 1) := by decide +kernel
theorem dX6_weigh_18 : decode cX6_weigh 18 = .ok (.iconst 0, 1) := by decide +kernel
theorem dX6_weigh_19 : decode cX6_weigh 19 = .ok (.istore 4, 2) := by decide +kernel
theorem dX6_weigh_21 : decode cX6_weigh 21 = .ok (.iload 4, 2) := by decide +kernel
theorem dX6_weigh_23 : decode cX6_weigh 23 = .ok (.aload_n 0, 1) := by decide +kernel
theorem dX6_weigh_24 : decode cX6_weigh 24 = .ok (.getfield 18, 3) := by decide +kernel
theorem dX6_weigh_27 : decode cX6_weigh 27 = .ok (.getfield 22, 3) := by decide +kernel
theorem dX6_weigh_30 : decode cX6_weigh 30 = .ok (.getfield 36, 3) := by decide +kernel
theorem dX6_weigh_33 : decode cX6_weigh 33 = .ok (.if_icmp .ge 28, 3) := by decide +kernel
theorem dX6_weigh_36 : decode cX6_weigh 36 = .ok (.iload_n 1, 1) := by decide +kernel
theorem dX6_weigh_37 : decode cX6_weigh 37 = .ok (.iload 4, 2) := by decide +kernel
theorem dX6_weigh_39 : decode cX6_weigh 39 = .ok (.invokestatic 104, 3) := by decide +kernel
theorem dX6_weigh_42 : decode cX6_weigh 42 = .ok (.ifCond .eq 13, 3) := by decide +kernel
theorem dX6_weigh_45 : decode cX6_weigh 45 = .ok (.iload_n 3, 1) := by decide +kernel
theorem dX6_weigh_46 : decode cX6_weigh 46 = .ok (.aload_n 0, 1) := by decide +kernel
theorem dX6_weigh_47 : decode cX6_weigh 47 = .ok (.getfield 15, 3) := by decide +kernel
theorem dX6_weigh_50 : decode cX6_weigh 50 = .ok (.iload 4, 2) := by decide +kernel
theorem dX6_weigh_52 : decode cX6_weigh 52 = .ok (.iaload, 1) := by decide +kernel
theorem dX6_weigh_53 : decode cX6_weigh 53 = .ok (.iadd, 1) := by decide +kernel
theorem dX6_weigh_54 : decode cX6_weigh 54 = .ok (.istore_n 3, 1) := by decide +kernel
theorem dX6_weigh_55 : decode cX6_weigh 55 = .ok (.iinc 4 1, 3) := by decide +kernel
theorem dX6_weigh_58 : decode cX6_weigh 58 = .ok (.goto (-37), 3) := by decide +kernel
theorem dX6_weigh_61 : decode cX6_weigh 61 = .ok (.iload_n 2, 1) := by decide +kernel
theorem dX6_weigh_62 : decode cX6_weigh 62 = .ok (.aload_n 0, 1) := by decide +kernel
theorem dX6_weigh_63 : decode cX6_weigh 63 = .ok (.getfield 79, 3) := by decide +kernel
theorem dX6_weigh_66 : decode cX6_weigh 66 = .ok (.if_icmp .gt 19, 3) := by decide +kernel
theorem dX6_weigh_69 : decode cX6_weigh 69 = .ok (.iload_n 2, 1) := by decide +kernel
theorem dX6_weigh_70 : decode cX6_weigh 70 = .ok (.aload_n 0, 1) := by decide +kernel
theorem dX6_weigh_71 : decode cX6_weigh 71 = .ok (.getfield 79, 3) := by decide +kernel
theorem dX6_weigh_74 : decode cX6_weigh 74 = .ok (.if_icmp .ne 26, 3) := by decide +kernel
theorem dX6_weigh_77 : decode cX6_weigh 77 = .ok (.iload_n 3, 1) := by decide +kernel
theorem dX6_weigh_78 : decode cX6_weigh 78 = .ok (.aload_n 0, 1) := by decide +kernel
theorem dX6_weigh_79 : decode cX6_weigh 79 = .ok (.getfield 82, 3) := by decide +kernel
theorem dX6_weigh_82 : decode cX6_weigh 82 = .ok (.if_icmp .ge 18, 3) := by decide +kernel
theorem dX6_weigh_85 : decode cX6_weigh 85 = .ok (.aload_n 0, 1) := by decide +kernel
theorem dX6_weigh_86 : decode cX6_weigh 86 = .ok (.iload_n 2, 1) := by decide +kernel
theorem dX6_weigh_87 : decode cX6_weigh 87 = .ok (.putfield 79, 3) := by decide +kernel
theorem dX6_weigh_90 : decode cX6_weigh 90 = .ok (.aload_n 0, 1) := by decide +kernel
theorem dX6_weigh_91 : decode cX6_weigh 91 = .ok (.iload_n 3, 1) := by decide +kernel
theorem dX6_weigh_92 : decode cX6_weigh 92 = .ok (.putfield 82, 3) := by decide +kernel
theorem dX6_weigh_95 : decode cX6_weigh 95 = .ok (.aload_n 0, 1) := by decide +kernel
theorem dX6_weigh_96 : decode cX6_weigh 96 = .ok (.iload_n 1, 1) := by decide +kernel
theorem dX6_weigh_97 : decode cX6_weigh 97 = .ok (.putfield 85, 3) := by decide +kernel
theorem dX6_weigh_100 : decode cX6_weigh 100 = .ok (.return_, 1) := by decide +kernel
theorem dX7_has_0 : decode cX7_has 0 = .ok (.iload_n 1, 1) := by decide +kernel
theorem dX7_has_1 : decode cX7_has 1 = .ok (.ifCond .lt 15, 3) := by decide +kernel
theorem dX7_has_4 : decode cX7_has 4 = .ok (.iload_n 1, 1) := by decide +kernel
theorem dX7_has_5 : decode cX7_has 5 = .ok (.aload_n 0, 1) := by decide +kernel
theorem dX7_has_6 : decode cX7_has 6 = .ok (.getfield 38, 3) := by decide +kernel
theorem dX7_has_9 : decode cX7_has 9 = .ok (.if_icmp .ge 7, 3) := by decide +kernel
theorem dX7_has_12 : decode cX7_has 12 = .ok (.iconst 1, 1) := by decide +kernel
theorem dX7_has_13 : decode cX7_has 13 = .ok (.goto 4, 3) := by decide +kernel
theorem dX7_has_16 : decode cX7_has 16 = .ok (.iconst 0, 1) := by decide +kernel
theorem dX7_has_17 : decode cX7_has 17 = .ok (.ireturn, 1) := by decide +kernel
theorem dX7_takeFrom_0 : decode cX7_takeFrom 0 = .ok (.aload_n 0, 1) := by decide +kernel
theorem dX7_takeFrom_1 : decode cX7_takeFrom 1 = .ok (.aload_n 1, 1) := by decide +kernel
theorem dX7_takeFrom_2 : decode cX7_takeFrom 2 = .ok (.getfield 38, 3) := by decide +kernel
theorem dX7_takeFrom_5 : decode cX7_takeFrom 5 = .ok (.putfield 38, 3) := by decide +kernel
theorem dX7_takeFrom_8 : decode cX7_takeFrom 8 = .ok (.aload_n 1, 1) := by decide +kernel
theorem dX7_takeFrom_9 : decode cX7_takeFrom 9 = .ok (.getfield 9, 3) := by decide +kernel
theorem dX7_takeFrom_12 : decode cX7_takeFrom 12 = .ok (.aload_n 0, 1) := by decide +kernel
theorem dX7_takeFrom_13 : decode cX7_takeFrom 13 = .ok (.getfield 9, 3) := by decide +kernel
theorem dX7_takeFrom_16 : decode cX7_takeFrom 16 = .ok (.invokestatic 42, 3) := by decide +kernel
theorem dX7_takeFrom_19 : decode cX7_takeFrom 19 = .ok (.aload_n 1, 1) := by decide +kernel
theorem dX7_takeFrom_20 : decode cX7_takeFrom 20 = .ok (.getfield 15, 3) := by decide +kernel
theorem dX7_takeFrom_23 : decode cX7_takeFrom 23 = .ok (.aload_n 0, 1) := by decide +kernel
theorem dX7_takeFrom_24 : decode cX7_takeFrom 24 = .ok (.getfield 15, 3) := by decide +kernel
theorem dX7_takeFrom_27 : decode cX7_takeFrom 27 = .ok (.invokestatic 42, 3) := by decide +kernel
theorem dX7_takeFrom_30 : decode cX7_takeFrom 30 = .ok (.aload_n 1, 1) := by decide +kernel
theorem dX7_takeFrom_31 : decode cX7_takeFrom 31 = .ok (.getfield 18, 3) := by decide +kernel
theorem dX7_takeFrom_34 : decode cX7_takeFrom 34 = .ok (.aload_n 0, 1) := by decide +kernel
theorem dX7_takeFrom_35 : decode cX7_takeFrom 35 = .ok (.getfield 18, 3) := by decide +kernel
theorem dX7_takeFrom_38 : decode cX7_takeFrom 38 = .ok (.invokestatic 42, 3) := by decide +kernel
theorem dX7_takeFrom_41 : decode cX7_takeFrom 41 = .ok (.aload_n 1, 1) := by decide +kernel
theorem dX7_takeFrom_42 : decode cX7_takeFrom 42 = .ok (.getfield 21, 3) := by decide +kernel
theorem dX7_takeFrom_45 : decode cX7_takeFrom 45 = .ok (.aload_n 0, 1) := by decide +kernel
theorem dX7_takeFrom_46 : decode cX7_takeFrom 46 = .ok (.getfield 21, 3) := by decide +kernel
theorem dX7_takeFrom_49 : decode cX7_takeFrom 49 = .ok (.invokestatic 42, 3) := by decide +kernel
theorem dX7_takeFrom_52 : decode cX7_takeFrom 52 = .ok (.aload_n 1, 1) := by decide +kernel
theorem dX7_takeFrom_53 : decode cX7_takeFrom 53 = .ok (.getfield 24, 3) := by decide +kernel
theorem dX7_takeFrom_56 : decode cX7_takeFrom 56 = .ok (.aload_n 0, 1) := by decide +kernel
theorem dX7_takeFrom_57 : decode cX7_takeFrom 57 = .ok (.getfield 24, 3) := by decide +kernel
theorem dX7_takeFrom_60 : decode cX7_takeFrom 60 = .ok (.invokestatic 42, 3) := by decide +kernel
theorem dX7_takeFrom_63 : decode cX7_takeFrom 63 = .ok (.aload_n 1, 1) := by decide +kernel
theorem dX7_takeFrom_64 : decode cX7_takeFrom 64 = .ok (.getfield 29, 3) := by decide +kernel
theorem dX7_takeFrom_67 : decode cX7_takeFrom 67 = .ok (.aload_n 0, 1) := by decide +kernel
theorem dX7_takeFrom_68 : decode cX7_takeFrom 68 = .ok (.getfield 29, 3) := by decide +kernel
theorem dX7_takeFrom_71 : decode cX7_takeFrom 71 = .ok (.invokestatic 46, 3) := by decide +kernel
theorem dX7_takeFrom_74 : decode cX7_takeFrom 74 = .ok (.return_, 1) := by decide +kernel
theorem dX8_change_0 : decode cX8_change 0 = .ok (.aload_n 0, 1) := by decide +kernel
theorem dX8_change_1 : decode cX8_change 1 = .ok (.getfield 16, 3) := by decide +kernel
theorem dX8_change_4 : decode cX8_change 4 = .ok (.iload_n 1, 1) := by decide +kernel
theorem dX8_change_5 : decode cX8_change 5 = .ok (.iaload, 1) := by decide +kernel
theorem dX8_change_6 : decode cX8_change 6 = .ok (.ifCond .ge 13, 3) := by decide +kernel
theorem dX8_change_9 : decode cX8_change 9 = .ok (.aload_n 0, 1) := by decide +kernel
theorem dX8_change_10 : decode cX8_change 10 = .ok (.dup, 1) := by decide +kernel
theorem dX8_change_11 : decode cX8_change 11 = .ok (.getfield 77, 3) := by decide +kernel
theorem dX8_change_14 : decode cX8_change 14 = .ok (.iconst 1, 1) := by decide +kernel
theorem dX8_change_15 : decode cX8_change 15 = .ok (.isub, 1) := by decide +kernel
theorem dX8_change_16 : decode cX8_change 16 = .ok (.putfield 77, 3) := by decide +kernel
theorem dX8_change_19 : decode cX8_change 19 = .ok (.aload_n 0, 1) := by decide +kernel
theorem dX8_change_20 : decode cX8_change 20 = .ok (.getfield 16, 3) := by decide +kernel
theorem dX8_change_23 : decode cX8_change 23 = .ok (.iload_n 1, 1) := by decide +kernel
theorem dX8_change_24 : decode cX8_change 24 = .ok (.dup2, 1) := by decide +kernel
theorem dX8_change_25 : decode cX8_change 25 = .ok (.iaload, 1) := by decide +kernel
theorem dX8_change_26 : decode cX8_change 26 = .ok (.iload_n 2, 1) := by decide +kernel
theorem dX8_change_27 : decode cX8_change 27 = .ok (.iadd, 1) := by decide +kernel
theorem dX8_change_28 : decode cX8_change 28 = .ok (.iastore, 1) := by decide +kernel
theorem dX8_change_29 : decode cX8_change 29 = .ok (.aload_n 0, 1) := by decide +kernel
theorem dX8_change_30 : decode cX8_change 30 = .ok (.getfield 16, 3) := by decide +kernel
theorem dX8_change_33 : decode cX8_change 33 = .ok (.iload_n 1, 1) := by decide +kernel
theorem dX8_change_34 : decode cX8_change 34 = .ok (.iaload, 1) := by decide +kernel
theorem dX8_change_35 : decode cX8_change 35 = .ok (.ifCond .ge 13, 3) := by decide +kernel
theorem dX8_change_38 : decode cX8_change 38 = .ok (.aload_n 0, 1) := by decide +kernel
theorem dX8_change_39 : decode cX8_change 39 = .ok (.dup, 1) := by decide +kernel
theorem dX8_change_40 : decode cX8_change 40 = .ok (.getfield 77, 3) := by decide +kernel
theorem dX8_change_43 : decode cX8_change 43 = .ok (.iconst 1, 1) := by decide +kernel
theorem dX8_change_44 : decode cX8_change 44 = .ok (.iadd, 1) := by decide +kernel
theorem dX8_change_45 : decode cX8_change 45 = .ok (.putfield 77, 3) := by decide +kernel
theorem dX8_change_48 : decode cX8_change 48 = .ok (.return_, 1) := by decide +kernel
theorem dX8_comesOf_0 : decode cX8_comesOf 0 = .ok (.aload_n 0, 1) := by decide +kernel
theorem dX8_comesOf_1 : decode cX8_comesOf 1 = .ok (.getfield 38, 3) := by decide +kernel
theorem dX8_comesOf_4 : decode cX8_comesOf 4 = .ok (.iload_n 1, 1) := by decide +kernel
theorem dX8_comesOf_5 : decode cX8_comesOf 5 = .ok (.iaload, 1) := by decide +kernel
theorem dX8_comesOf_6 : decode cX8_comesOf 6 = .ok (.ifCond .lt 17, 3) := by decide +kernel
theorem dX8_comesOf_9 : decode cX8_comesOf 9 = .ok (.aload_n 0, 1) := by decide +kernel
theorem dX8_comesOf_10 : decode cX8_comesOf 10 = .ok (.getfield 26, 3) := by decide +kernel
theorem dX8_comesOf_13 : decode cX8_comesOf 13 = .ok (.aload_n 0, 1) := by decide +kernel
theorem dX8_comesOf_14 : decode cX8_comesOf 14 = .ok (.getfield 38, 3) := by decide +kernel
theorem dX8_comesOf_17 : decode cX8_comesOf 17 = .ok (.iload_n 1, 1) := by decide +kernel
theorem dX8_comesOf_18 : decode cX8_comesOf 18 = .ok (.iaload, 1) := by decide +kernel
theorem dX8_comesOf_19 : decode cX8_comesOf 19 = .ok (.iaload, 1) := by decide +kernel
theorem dX8_comesOf_20 : decode cX8_comesOf 20 = .ok (.goto 5, 3) := by decide +kernel
theorem dX8_comesOf_23 : decode cX8_comesOf 23 = .ok (.ldc 147, 2) := by decide +kernel
theorem dX8_comesOf_25 : decode cX8_comesOf 25 = .ok (.ireturn, 1) := by decide +kernel
theorem dX8_gatherNeeds_0 : decode cX8_gatherNeeds 0 = .ok (.aload_n 0, 1) := by decide +kernel
theorem dX8_gatherNeeds_1 : decode cX8_gatherNeeds 1 = .ok (.iconst 0, 1) := by decide +kernel
theorem dX8_gatherNeeds_2 : decode cX8_gatherNeeds 2 = .ok (.putfield 77, 3) := by decide +kernel
theorem dX8_gatherNeeds_5 : decode cX8_gatherNeeds 5 = .ok (.iconst 0, 1) := by decide +kernel
theorem dX8_gatherNeeds_6 : decode cX8_gatherNeeds 6 = .ok (.istore_n 1, 1) := by decide +kernel
theorem dX8_gatherNeeds_7 : decode cX8_gatherNeeds 7 = .ok (.iload_n 1, 1) := by decide +kernel
theorem dX8_gatherNeeds_8 : decode cX8_gatherNeeds 8 = .ok (.aload_n 0, 1) := by decide +kernel
theorem dX8_gatherNeeds_9 : decode cX8_gatherNeeds 9 = .ok (.getfield 44, 3) := by decide +kernel
theorem dX8_gatherNeeds_12 : decode cX8_gatherNeeds 12 = .ok (.getfield 80, 3) := by decide +kernel
theorem dX8_gatherNeeds_15 : decode cX8_gatherNeeds 15 = .ok (.getfield 86, 3) := by decide +kernel
theorem dX8_gatherNeeds_18 : decode cX8_gatherNeeds 18 = .ok (.if_icmp .ge 26, 3) := by decide +kernel
theorem dX8_gatherNeeds_21 : decode cX8_gatherNeeds 21 = .ok (.aload_n 0, 1) := by decide +kernel
theorem dX8_gatherNeeds_22 : decode cX8_gatherNeeds 22 = .ok (.getfield 16, 3) := by decide +kernel
theorem dX8_gatherNeeds_25 : decode cX8_gatherNeeds 25 = .ok (.iload_n 1, 1) := by decide +kernel
theorem dX8_gatherNeeds_26 : decode cX8_gatherNeeds 26 = .ok (.aload_n 0, 1) := by decide +kernel
theorem dX8_gatherNeeds_27 : decode cX8_gatherNeeds 27 = .ok (.getfield 44, 3) := by decide +kernel
theorem dX8_gatherNeeds_30 : decode cX8_gatherNeeds 30 = .ok (.getfield 91, 3) := by decide +kernel
theorem dX8_gatherNeeds_33 : decode cX8_gatherNeeds 33 = .ok (.iload_n 1, 1) := by decide +kernel
theorem dX8_gatherNeeds_34 : decode cX8_gatherNeeds 34 = .ok (.invokevirtual 95, 3) := by decide +kernel
theorem dX8_gatherNeeds_37 : decode cX8_gatherNeeds 37 = .ok (.iastore, 1) := by decide +kernel
theorem dX8_gatherNeeds_38 : decode cX8_gatherNeeds 38 = .ok (.iinc 1 1, 3) := by decide +kernel
theorem dX8_gatherNeeds_41 : decode cX8_gatherNeeds 41 = .ok (.goto (-34), 3) := by decide +kernel
theorem dX8_gatherNeeds_44 : decode cX8_gatherNeeds 44 = .ok (.iconst 0, 1) := by decide +kernel
theorem dX8_gatherNeeds_45 : decode cX8_gatherNeeds 45 = .ok (.istore_n 1, 1) := by decide +kernel
theorem dX8_gatherNeeds_46 : decode cX8_gatherNeeds 46 = .ok (.iload_n 1, 1) := by decide +kernel
theorem dX8_gatherNeeds_47 : decode cX8_gatherNeeds 47 = .ok (.aload_n 0, 1) := by decide +kernel
theorem dX8_gatherNeeds_48 : decode cX8_gatherNeeds 48 = .ok (.getfield 44, 3) := by decide +kernel
theorem dX8_gatherNeeds_51 : decode cX8_gatherNeeds 51 = .ok (.getfield 101, 3) := by decide +kernel
theorem dX8_gatherNeeds_54 : decode cX8_gatherNeeds 54 = .ok (.getfield 105, 3) := by decide +kernel
theorem dX8_gatherNeeds_57 : decode cX8_gatherNeeds 57 = .ok (.if_icmp .ge 75, 3) := by decide +kernel
theorem dX8_gatherNeeds_60 : decode cX8_gatherNeeds 60 = .ok (.aload_n 0, 1) := by decide +kernel
theorem dX8_gatherNeeds_61 : decode cX8_gatherNeeds 61 = .ok (.getfield 44, 3) := by decide +kernel
theorem dX8_gatherNeeds_64 : decode cX8_gatherNeeds 64 = .ok (.iload_n 1, 1) := by decide +kernel
theorem dX8_gatherNeeds_65 : decode cX8_gatherNeeds 65 = .ok (.invokevirtual 108, 3) := by decide +kernel
theorem dX8_gatherNeeds_68 : decode cX8_gatherNeeds 68 = .ok (.istore_n 2, 1) := by decide +kernel
theorem dX8_gatherNeeds_69 : decode cX8_gatherNeeds 69 = .ok (.iconst 0, 1) := by decide +kernel
theorem dX8_gatherNeeds_70 : decode cX8_gatherNeeds 70 = .ok (.istore_n 3, 1) := by decide +kernel
theorem dX8_gatherNeeds_71 : decode cX8_gatherNeeds 71 = .ok (.iload_n 3, 1) := by decide +kernel
theorem dX8_gatherNeeds_72 : decode cX8_gatherNeeds 72 = .ok (.aload_n 0, 1) := by decide +kernel
theorem dX8_gatherNeeds_73 : decode cX8_gatherNeeds 73 = .ok (.getfield 44, 3) := by decide +kernel
theorem dX8_gatherNeeds_76 : decode cX8_gatherNeeds 76 = .ok (.getfield 80, 3) := by decide +kernel
theorem dX8_gatherNeeds_79 : decode cX8_gatherNeeds 79 = .ok (.getfield 86, 3) := by decide +kernel
theorem dX8_gatherNeeds_82 : decode cX8_gatherNeeds 82 = .ok (.if_icmp .ge 44, 3) := by decide +kernel
theorem dX8_gatherNeeds_85 : decode cX8_gatherNeeds 85 = .ok (.aload_n 0, 1) := by decide +kernel
theorem dX8_gatherNeeds_86 : decode cX8_gatherNeeds 86 = .ok (.getfield 11, 3) := by decide +kernel
theorem dX8_gatherNeeds_89 : decode cX8_gatherNeeds 89 = .ok (.iload_n 1, 1) := by decide +kernel
theorem dX8_gatherNeeds_90 : decode cX8_gatherNeeds 90 = .ok (.aaload, 1) := by decide +kernel
theorem dX8_gatherNeeds_91 : decode cX8_gatherNeeds 91 = .ok (.iload_n 3, 1) := by decide +kernel
theorem dX8_gatherNeeds_92 : decode cX8_gatherNeeds 92 = .ok (.aload_n 0, 1) := by decide +kernel
theorem dX8_gatherNeeds_93 : decode cX8_gatherNeeds 93 = .ok (.getfield 44, 3) := by decide +kernel
theorem dX8_gatherNeeds_96 : decode cX8_gatherNeeds 96 = .ok (.iload_n 1, 1) := by decide +kernel
theorem dX8_gatherNeeds_97 : decode cX8_gatherNeeds 97 = .ok (.iload_n 2, 1) := by decide +kernel
theorem dX8_gatherNeeds_98 : decode cX8_gatherNeeds 98 = .ok (.iload_n 3, 1) := by decide +kernel
theorem dX8_gatherNeeds_99 : decode cX8_gatherNeeds 99 = .ok (.invokevirtual 111, 3) := by decide +kernel
theorem dX8_gatherNeeds_102 : decode cX8_gatherNeeds 102 = .ok (.iastore, 1) := by decide +kernel
theorem dX8_gatherNeeds_103 : decode cX8_gatherNeeds 103 = .ok (.aload_n 0, 1) := by decide +kernel
theorem dX8_gatherNeeds_104 : decode cX8_gatherNeeds 104 = .ok (.getfield 16, 3) := by decide +kernel
theorem dX8_gatherNeeds_107 : decode cX8_gatherNeeds 107 = .ok (.iload_n 3, 1) := by decide +kernel
theorem dX8_gatherNeeds_108 : decode cX8_gatherNeeds 108 = .ok (.dup2, 1) := by decide +kernel
theorem dX8_gatherNeeds_109 : decode cX8_gatherNeeds 109 = .ok (.iaload, 1) := by decide +kernel
theorem dX8_gatherNeeds_110 : decode cX8_gatherNeeds 110 = .ok (.aload_n 0, 1) := by decide +kernel
theorem dX8_gatherNeeds_111 : decode cX8_gatherNeeds 111 = .ok (.getfield 11, 3) := by decide +kernel
theorem dX8_gatherNeeds_114 : decode cX8_gatherNeeds 114 = .ok (.iload_n 1, 1) := by decide +kernel
theorem dX8_gatherNeeds_115 : decode cX8_gatherNeeds 115 = .ok (.aaload, 1) := by decide +kernel
theorem dX8_gatherNeeds_116 : decode cX8_gatherNeeds 116 = .ok (.iload_n 3, 1) := by decide +kernel
theorem dX8_gatherNeeds_117 : decode cX8_gatherNeeds 117 = .ok (.iaload, 1) := by decide +kernel
theorem dX8_gatherNeeds_118 : decode cX8_gatherNeeds 118 = .ok (.isub, 1) := by decide +kernel
theorem dX8_gatherNeeds_119 : decode cX8_gatherNeeds 119 = .ok (.iastore, 1) := by decide +kernel
theorem dX8_gatherNeeds_120 : decode cX8_gatherNeeds 120 = .ok (.iinc 3 1, 3) := by decide +kernel
theorem dX8_gatherNeeds_123 : decode cX8_gatherNeeds 123 = .ok (.goto (-52), 3) := by decide +kernel
theorem dX8_gatherNeeds_126 : decode cX8_gatherNeeds 126 = .ok (.iinc 1 1, 3) := by decide +kernel
theorem dX8_gatherNeeds_129 : decode cX8_gatherNeeds 129 = .ok (.goto (-83), 3) := by decide +kernel
theorem dX8_gatherNeeds_132 : decode cX8_gatherNeeds 132 = .ok (.iconst 0, 1) := by decide +kernel
theorem dX8_gatherNeeds_133 : decode cX8_gatherNeeds 133 = .ok (.istore_n 1, 1) := by decide +kernel
theorem dX8_gatherNeeds_134 : decode cX8_gatherNeeds 134 = .ok (.iload_n 1, 1) := by decide +kernel
theorem dX8_gatherNeeds_135 : decode cX8_gatherNeeds 135 = .ok (.aload_n 0, 1) := by decide +kernel
theorem dX8_gatherNeeds_136 : decode cX8_gatherNeeds 136 = .ok (.getfield 44, 3) := by decide +kernel
theorem dX8_gatherNeeds_139 : decode cX8_gatherNeeds 139 = .ok (.getfield 80, 3) := by decide +kernel
theorem dX8_gatherNeeds_142 : decode cX8_gatherNeeds 142 = .ok (.getfield 86, 3) := by decide +kernel
theorem dX8_gatherNeeds_145 : decode cX8_gatherNeeds 145 = .ok (.if_icmp .ge 28, 3) := by decide +kernel
theorem dX8_gatherNeeds_148 : decode cX8_gatherNeeds 148 = .ok (.aload_n 0, 1) := by decide +kernel
theorem dX8_gatherNeeds_149 : decode cX8_gatherNeeds 149 = .ok (.getfield 16, 3) := by decide +kernel
theorem dX8_gatherNeeds_152 : decode cX8_gatherNeeds 152 = .ok (.iload_n 1, 1) := by decide +kernel
theorem dX8_gatherNeeds_153 : decode cX8_gatherNeeds 153 = .ok (.iaload, 1) := by decide +kernel
theorem dX8_gatherNeeds_154 : decode cX8_gatherNeeds 154 = .ok (.ifCond .ge 13, 3) := by decide +kernel
theorem dX8_gatherNeeds_157 : decode cX8_gatherNeeds 157 = .ok (.aload_n 0, 1) := by decide +kernel
theorem dX8_gatherNeeds_158 : decode cX8_gatherNeeds 158 = .ok (.dup, 1) := by decide +kernel
theorem dX8_gatherNeeds_159 : decode cX8_gatherNeeds 159 = .ok (.getfield 77, 3) := by decide +kernel
theorem dX8_gatherNeeds_162 : decode cX8_gatherNeeds 162 = .ok (.iconst 1, 1) := by decide +kernel
theorem dX8_gatherNeeds_163 : decode cX8_gatherNeeds 163 = .ok (.iadd, 1) := by decide +kernel
theorem dX8_gatherNeeds_164 : decode cX8_gatherNeeds 164 = .ok (.putfield 77, 3) := by decide +kernel
theorem dX8_gatherNeeds_167 : decode cX8_gatherNeeds 167 = .ok (.iinc 1 1, 3) := by decide +kernel
theorem dX8_gatherNeeds_170 : decode cX8_gatherNeeds 170 = .ok (.goto (-36), 3) := by decide +kernel
theorem dX8_gatherNeeds_173 : decode cX8_gatherNeeds 173 = .ok (.return_, 1) := by decide +kernel
theorem dX8_gatherSwapsOf_0 : decode cX8_gatherSwapsOf 0 = .ok (.aload_n 0, 1) := by decide +kernel
theorem dX8_gatherSwapsOf_1 : decode cX8_gatherSwapsOf 1 = .ok (.getfield 44, 3) := by decide +kernel
theorem dX8_gatherSwapsOf_4 : decode cX8_gatherSwapsOf 4 = .ok (.getfield 80, 3) := by decide +kernel
theorem dX8_gatherSwapsOf_7 : decode cX8_gatherSwapsOf 7 = .ok (.astore_n 3, 1) := by decide +kernel
theorem dX8_gatherSwapsOf_8 : decode cX8_gatherSwapsOf 8 = .ok (.iconst 0, 1) := by decide +kernel
theorem dX8_gatherSwapsOf_9 : decode cX8_gatherSwapsOf 9 = .ok (.istore 4, 2) := by decide +kernel
theorem dX8_gatherSwapsOf_11 : decode cX8_gatherSwapsOf 11 = .ok (.iload 4, 2) := by decide +kernel
theorem dX8_gatherSwapsOf_13 : decode cX8_gatherSwapsOf 13 = .ok (.aload_n 3, 1) := by decide +kernel
theorem dX8_gatherSwapsOf_14 : decode cX8_gatherSwapsOf 14 = .ok (.getfield 86, 3) := by decide +kernel
theorem dX8_gatherSwapsOf_17 : decode cX8_gatherSwapsOf 17 = .ok (.if_icmp .ge 154, 3) := by decide +kernel
theorem dX8_gatherSwapsOf_20 : decode cX8_gatherSwapsOf 20 = .ok (.aload_n 0, 1) := by decide +kernel
theorem dX8_gatherSwapsOf_21 : decode cX8_gatherSwapsOf 21 = .ok (.getfield 115, 3) := by decide +kernel
theorem dX8_gatherSwapsOf_24 : decode cX8_gatherSwapsOf 24 = .ok (.sipush 588, 3) := by decide +kernel
theorem dX8_gatherSwapsOf_27 : decode cX8_gatherSwapsOf 27 = .ok (.if_icmp .ge 144, 3) := by decide +kernel
theorem dX8_gatherSwapsOf_30 : decode cX8_gatherSwapsOf 30 = .ok (.aload_n 0, 1) := by decide +kernel
theorem dX8_gatherSwapsOf_31 : decode cX8_gatherSwapsOf 31 = .ok (.getfield 11, 3) := by decide +kernel
theorem dX8_gatherSwapsOf_34 : decode cX8_gatherSwapsOf 34 = .ok (.iload_n 1, 1) := by decide +kernel
theorem dX8_gatherSwapsOf_35 : decode cX8_gatherSwapsOf 35 = .ok (.aaload, 1) := by decide +kernel
theorem dX8_gatherSwapsOf_36 : decode cX8_gatherSwapsOf 36 = .ok (.iload 4, 2) := by decide +kernel
theorem dX8_gatherSwapsOf_38 : decode cX8_gatherSwapsOf 38 = .ok (.iaload, 1) := by decide +kernel
theorem dX8_gatherSwapsOf_39 : decode cX8_gatherSwapsOf 39 = .ok (.ifCond .gt 126, 3) := by decide +kernel
theorem dX8_gatherSwapsOf_42 : decode cX8_gatherSwapsOf 42 = .ok (.aload_n 3, 1) := by decide +kernel
theorem dX8_gatherSwapsOf_43 : decode cX8_gatherSwapsOf 43 = .ok (.getfield 122, 3) := by decide +kernel
theorem dX8_gatherSwapsOf_46 : decode cX8_gatherSwapsOf 46 = .ok (.iload 4, 2) := by decide +kernel
theorem dX8_gatherSwapsOf_48 : decode cX8_gatherSwapsOf 48 = .ok (.iaload, 1) := by decide +kernel
theorem dX8_gatherSwapsOf_49 : decode cX8_gatherSwapsOf 49 = .ok (.aload_n 3, 1) := by decide +kernel
theorem dX8_gatherSwapsOf_50 : decode cX8_gatherSwapsOf 50 = .ok (.getfield 122, 3) := by decide +kernel
theorem dX8_gatherSwapsOf_53 : decode cX8_gatherSwapsOf 53 = .ok (.iload_n 2, 1) := by decide +kernel
theorem dX8_gatherSwapsOf_54 : decode cX8_gatherSwapsOf 54 = .ok (.iaload, 1) := by decide +kernel
theorem dX8_gatherSwapsOf_55 : decode cX8_gatherSwapsOf 55 = .ok (.if_icmp .eq 6, 3) := by decide +kernel
theorem dX8_gatherSwapsOf_58 : decode cX8_gatherSwapsOf 58 = .ok (.goto 107, 3) := by decide +kernel
theorem dX8_gatherSwapsOf_61 : decode cX8_gatherSwapsOf 61 = .ok (.aload_n 3, 1) := by decide +kernel
theorem dX8_gatherSwapsOf_62 : decode cX8_gatherSwapsOf 62 = .ok (.getfield 125, 3) := by decide +kernel
theorem dX8_gatherSwapsOf_65 : decode cX8_gatherSwapsOf 65 = .ok (.iload 4, 2) := by decide +kernel
theorem dX8_gatherSwapsOf_67 : decode cX8_gatherSwapsOf 67 = .ok (.iaload, 1) := by decide +kernel
theorem dX8_gatherSwapsOf_68 : decode cX8_gatherSwapsOf 68 = .ok (.aload_n 0, 1) := by decide +kernel
theorem dX8_gatherSwapsOf_69 : decode cX8_gatherSwapsOf 69 = .ok (.getfield 44, 3) := by decide +kernel
theorem dX8_gatherSwapsOf_72 : decode cX8_gatherSwapsOf 72 = .ok (.getfield 101, 3) := by decide +kernel
theorem dX8_gatherSwapsOf_75 : decode cX8_gatherSwapsOf 75 = .ok (.getfield 128, 3) := by decide +kernel
theorem dX8_gatherSwapsOf_78 : decode cX8_gatherSwapsOf 78 = .ok (.iload_n 1, 1) := by decide +kernel
theorem dX8_gatherSwapsOf_79 : decode cX8_gatherSwapsOf 79 = .ok (.iaload, 1) := by decide +kernel
theorem dX8_gatherSwapsOf_80 : decode cX8_gatherSwapsOf 80 = .ok (.iand, 1) := by decide +kernel
theorem dX8_gatherSwapsOf_81 : decode cX8_gatherSwapsOf 81 = .ok (.ifCond .eq 6, 3) := by decide +kernel
theorem dX8_gatherSwapsOf_84 : decode cX8_gatherSwapsOf 84 = .ok (.goto 81, 3) := by decide +kernel
theorem dX8_gatherSwapsOf_87 : decode cX8_gatherSwapsOf 87 = .ok (.aload_n 0, 1) := by decide +kernel
theorem dX8_gatherSwapsOf_88 : decode cX8_gatherSwapsOf 88 = .ok (.getfield 23, 3) := by decide +kernel
theorem dX8_gatherSwapsOf_91 : decode cX8_gatherSwapsOf 91 = .ok (.aload_n 0, 1) := by decide +kernel
theorem dX8_gatherSwapsOf_92 : decode cX8_gatherSwapsOf 92 = .ok (.getfield 115, 3) := by decide +kernel
theorem dX8_gatherSwapsOf_95 : decode cX8_gatherSwapsOf 95 = .ok (.iload_n 2, 1) := by decide +kernel
theorem dX8_gatherSwapsOf_96 : decode cX8_gatherSwapsOf 96 = .ok (.iastore, 1) := by decide +kernel
theorem dX8_gatherSwapsOf_97 : decode cX8_gatherSwapsOf 97 = .ok (.aload_n 0, 1) := by decide +kernel
theorem dX8_gatherSwapsOf_98 : decode cX8_gatherSwapsOf 98 = .ok (.getfield 26, 3) := by decide +kernel
theorem dX8_gatherSwapsOf_101 : decode cX8_gatherSwapsOf 101 = .ok (.aload_n 0, 1) := by decide +kernel
theorem dX8_gatherSwapsOf_102 : decode cX8_gatherSwapsOf 102 = .ok (.getfield 115, 3) := by decide +kernel
theorem dX8_gatherSwapsOf_105 : decode cX8_gatherSwapsOf 105 = .ok (.iload 4, 2) := by decide +kernel
theorem dX8_gatherSwapsOf_107 : decode cX8_gatherSwapsOf 107 = .ok (.iastore, 1) := by decide +kernel
theorem dX8_gatherSwapsOf_108 : decode cX8_gatherSwapsOf 108 = .ok (.aload_n 0, 1) := by decide +kernel
theorem dX8_gatherSwapsOf_109 : decode cX8_gatherSwapsOf 109 = .ok (.getfield 29, 3) := by decide +kernel
theorem dX8_gatherSwapsOf_112 : decode cX8_gatherSwapsOf 112 = .ok (.aload_n 0, 1) := by decide +kernel
theorem dX8_gatherSwapsOf_113 : decode cX8_gatherSwapsOf 113 = .ok (.getfield 115, 3) := by decide +kernel
theorem dX8_gatherSwapsOf_116 : decode cX8_gatherSwapsOf 116 = .ok (.aload_n 0, 1) := by decide +kernel
theorem dX8_gatherSwapsOf_117 : decode cX8_gatherSwapsOf 117 = .ok (.getfield 11, 3) := by decide +kernel
theorem dX8_gatherSwapsOf_120 : decode cX8_gatherSwapsOf 120 = .ok (.iload_n 1, 1) := by decide +kernel
theorem dX8_gatherSwapsOf_121 : decode cX8_gatherSwapsOf 121 = .ok (.aaload, 1) := by decide +kernel
theorem dX8_gatherSwapsOf_122 : decode cX8_gatherSwapsOf 122 = .ok (.iload_n 2, 1) := by decide +kernel
theorem dX8_gatherSwapsOf_123 : decode cX8_gatherSwapsOf 123 = .ok (.iaload, 1) := by decide +kernel
theorem dX8_gatherSwapsOf_124 : decode cX8_gatherSwapsOf 124 = .ok (.iastore, 1) := by decide +kernel
theorem dX8_gatherSwapsOf_125 : decode cX8_gatherSwapsOf 125 = .ok (.aload_n 0, 1) := by decide +kernel
theorem dX8_gatherSwapsOf_126 : decode cX8_gatherSwapsOf 126 = .ok (.getfield 32, 3) := by decide +kernel
theorem dX8_gatherSwapsOf_129 : decode cX8_gatherSwapsOf 129 = .ok (.aload_n 0, 1) := by decide +kernel
theorem dX8_gatherSwapsOf_130 : decode cX8_gatherSwapsOf 130 = .ok (.getfield 115, 3) := by decide +kernel
theorem dX8_gatherSwapsOf_133 : decode cX8_gatherSwapsOf 133 = .ok (.aload_n 0, 1) := by decide +kernel
theorem dX8_gatherSwapsOf_134 : decode cX8_gatherSwapsOf 134 = .ok (.getfield 11, 3) := by decide +kernel
theorem dX8_gatherSwapsOf_137 : decode cX8_gatherSwapsOf 137 = .ok (.iload_n 1, 1) := by decide +kernel
theorem dX8_gatherSwapsOf_138 : decode cX8_gatherSwapsOf 138 = .ok (.aaload, 1) := by decide +kernel
theorem dX8_gatherSwapsOf_139 : decode cX8_gatherSwapsOf 139 = .ok (.iload_n 2, 1) := by decide +kernel
theorem dX8_gatherSwapsOf_140 : decode cX8_gatherSwapsOf 140 = .ok (.iaload, 1) := by decide +kernel
theorem dX8_gatherSwapsOf_141 : decode cX8_gatherSwapsOf 141 = .ok (.aload_n 3, 1) := by decide +kernel
theorem dX8_gatherSwapsOf_142 : decode cX8_gatherSwapsOf 142 = .ok (.getfield 131, 3) := by decide +kernel
theorem dX8_gatherSwapsOf_145 : decode cX8_gatherSwapsOf 145 = .ok (.iload_n 2, 1) := by decide +kernel
theorem dX8_gatherSwapsOf_146 : decode cX8_gatherSwapsOf 146 = .ok (.aaload, 1) := by decide +kernel
theorem dX8_gatherSwapsOf_147 : decode cX8_gatherSwapsOf 147 = .ok (.iload 4, 2) := by decide +kernel
theorem dX8_gatherSwapsOf_149 : decode cX8_gatherSwapsOf 149 = .ok (.iaload, 1) := by decide +kernel
theorem dX8_gatherSwapsOf_150 : decode cX8_gatherSwapsOf 150 = .ok (.imul, 1) := by decide +kernel
theorem dX8_gatherSwapsOf_151 : decode cX8_gatherSwapsOf 151 = .ok (.bipush 100, 2) := by decide +kernel
theorem dX8_gatherSwapsOf_153 : decode cX8_gatherSwapsOf 153 = .ok (.idiv, 1) := by decide +kernel
theorem dX8_gatherSwapsOf_154 : decode cX8_gatherSwapsOf 154 = .ok (.iastore, 1) := by decide +kernel
theorem dX8_gatherSwapsOf_155 : decode cX8_gatherSwapsOf 155 = .ok (.aload_n 0, 1) := by decide +kernel
theorem dX8_gatherSwapsOf_156 : decode cX8_gatherSwapsOf 156 = .ok (.dup, 1) := by decide +kernel
theorem dX8_gatherSwapsOf_157 : decode cX8_gatherSwapsOf 157 = .ok (.getfield 115, 3) := by decide +kernel
theorem dX8_gatherSwapsOf_160 : decode cX8_gatherSwapsOf 160 = .ok (.iconst 1, 1) := by decide +kernel
theorem dX8_gatherSwapsOf_161 : decode cX8_gatherSwapsOf 161 = .ok (.iadd, 1) := by decide +kernel
theorem dX8_gatherSwapsOf_162 : decode cX8_gatherSwapsOf 162 = .ok (.putfield 115, 3) := by decide +kernel
theorem dX8_gatherSwapsOf_165 : decode cX8_gatherSwapsOf 165 = .ok (.iinc 4 1, 3) := by decide +kernel
theorem dX8_gatherSwapsOf_168 : decode cX8_gatherSwapsOf 168 = .ok (.goto (-157), 3) := by decide +kernel
theorem dX8_gatherSwapsOf_171 : decode cX8_gatherSwapsOf 171 = .ok (.return_, 1) := by decide +kernel
theorem dX8_gatherSwaps_0 : decode cX8_gatherSwaps 0 = .ok (.aload_n 0, 1) := by decide +kernel
theorem dX8_gatherSwaps_1 : decode cX8_gatherSwaps 1 = .ok (.iconst 0, 1) := by decide +kernel
theorem dX8_gatherSwaps_2 : decode cX8_gatherSwaps 2 = .ok (.putfield 115, 3) := by decide +kernel
theorem dX8_gatherSwaps_5 : decode cX8_gatherSwaps 5 = .ok (.aload_n 0, 1) := by decide +kernel
theorem dX8_gatherSwaps_6 : decode cX8_gatherSwaps 6 = .ok (.getfield 20, 3) := by decide +kernel
theorem dX8_gatherSwaps_9 : decode cX8_gatherSwaps 9 = .ok (.iconst 0, 1) := by decide +kernel
theorem dX8_gatherSwaps_10 : decode cX8_gatherSwaps 10 = .ok (.iconst 0, 1) := by decide +kernel
theorem dX8_gatherSwaps_11 : decode cX8_gatherSwaps 11 = .ok (.iastore, 1) := by decide +kernel
theorem dX8_gatherSwaps_12 : decode cX8_gatherSwaps 12 = .ok (.iconst 0, 1) := by decide +kernel
theorem dX8_gatherSwaps_13 : decode cX8_gatherSwaps 13 = .ok (.istore_n 1, 1) := by decide +kernel
theorem dX8_gatherSwaps_14 : decode cX8_gatherSwaps 14 = .ok (.iload_n 1, 1) := by decide +kernel
theorem dX8_gatherSwaps_15 : decode cX8_gatherSwaps 15 = .ok (.aload_n 0, 1) := by decide +kernel
theorem dX8_gatherSwaps_16 : decode cX8_gatherSwaps 16 = .ok (.getfield 44, 3) := by decide +kernel
theorem dX8_gatherSwaps_19 : decode cX8_gatherSwaps 19 = .ok (.getfield 101, 3) := by decide +kernel
theorem dX8_gatherSwaps_22 : decode cX8_gatherSwaps 22 = .ok (.getfield 105, 3) := by decide +kernel
theorem dX8_gatherSwaps_25 : decode cX8_gatherSwaps 25 = .ok (.if_icmp .ge 60, 3) := by decide +kernel
theorem dX8_gatherSwaps_28 : decode cX8_gatherSwaps 28 = .ok (.iconst 0, 1) := by decide +kernel
theorem dX8_gatherSwaps_29 : decode cX8_gatherSwaps 29 = .ok (.istore_n 2, 1) := by decide +kernel
theorem dX8_gatherSwaps_30 : decode cX8_gatherSwaps 30 = .ok (.iload_n 2, 1) := by decide +kernel
theorem dX8_gatherSwaps_31 : decode cX8_gatherSwaps 31 = .ok (.aload_n 0, 1) := by decide +kernel
theorem dX8_gatherSwaps_32 : decode cX8_gatherSwaps 32 = .ok (.getfield 44, 3) := by decide +kernel
theorem dX8_gatherSwaps_35 : decode cX8_gatherSwaps 35 = .ok (.getfield 80, 3) := by decide +kernel
theorem dX8_gatherSwaps_38 : decode cX8_gatherSwaps 38 = .ok (.getfield 86, 3) := by decide +kernel
theorem dX8_gatherSwaps_41 : decode cX8_gatherSwaps 41 = .ok (.if_icmp .ge 26, 3) := by decide +kernel
theorem dX8_gatherSwaps_44 : decode cX8_gatherSwaps 44 = .ok (.aload_n 0, 1) := by decide +kernel
theorem dX8_gatherSwaps_45 : decode cX8_gatherSwaps 45 = .ok (.getfield 11, 3) := by decide +kernel
theorem dX8_gatherSwaps_48 : decode cX8_gatherSwaps 48 = .ok (.iload_n 1, 1) := by decide +kernel
theorem dX8_gatherSwaps_49 : decode cX8_gatherSwaps 49 = .ok (.aaload, 1) := by decide +kernel
theorem dX8_gatherSwaps_50 : decode cX8_gatherSwaps 50 = .ok (.iload_n 2, 1) := by decide +kernel
theorem dX8_gatherSwaps_51 : decode cX8_gatherSwaps 51 = .ok (.iaload, 1) := by decide +kernel
theorem dX8_gatherSwaps_52 : decode cX8_gatherSwaps 52 = .ok (.ifCond .le 9, 3) := by decide +kernel
theorem dX8_gatherSwaps_55 : decode cX8_gatherSwaps 55 = .ok (.aload_n 0, 1) := by decide +kernel
theorem dX8_gatherSwaps_56 : decode cX8_gatherSwaps 56 = .ok (.iload_n 1, 1) := by decide +kernel
theorem dX8_gatherSwaps_57 : decode cX8_gatherSwaps 57 = .ok (.iload_n 2, 1) := by decide +kernel
theorem dX8_gatherSwaps_58 : decode cX8_gatherSwaps 58 = .ok (.invokevirtual 118, 3) := by decide +kernel
theorem dX8_gatherSwaps_61 : decode cX8_gatherSwaps 61 = .ok (.iinc 2 1, 3) := by decide +kernel
theorem dX8_gatherSwaps_64 : decode cX8_gatherSwaps 64 = .ok (.goto (-34), 3) := by decide +kernel
theorem dX8_gatherSwaps_67 : decode cX8_gatherSwaps 67 = .ok (.aload_n 0, 1) := by decide +kernel
theorem dX8_gatherSwaps_68 : decode cX8_gatherSwaps 68 = .ok (.getfield 20, 3) := by decide +kernel
theorem dX8_gatherSwaps_71 : decode cX8_gatherSwaps 71 = .ok (.iload_n 1, 1) := by decide +kernel
theorem dX8_gatherSwaps_72 : decode cX8_gatherSwaps 72 = .ok (.iconst 1, 1) := by decide +kernel
theorem dX8_gatherSwaps_73 : decode cX8_gatherSwaps 73 = .ok (.iadd, 1) := by decide +kernel
theorem dX8_gatherSwaps_74 : decode cX8_gatherSwaps 74 = .ok (.aload_n 0, 1) := by decide +kernel
theorem dX8_gatherSwaps_75 : decode cX8_gatherSwaps 75 = .ok (.getfield 115, 3) := by decide +kernel
theorem dX8_gatherSwaps_78 : decode cX8_gatherSwaps 78 = .ok (.iastore, 1) := by decide +kernel
theorem dX8_gatherSwaps_79 : decode cX8_gatherSwaps 79 = .ok (.iinc 1 1, 3) := by decide +kernel
theorem dX8_gatherSwaps_82 : decode cX8_gatherSwaps 82 = .ok (.goto (-68), 3) := by decide +kernel
theorem dX8_gatherSwaps_85 : decode cX8_gatherSwaps 85 = .ok (.return_, 1) := by decide +kernel
theorem dX8_goesOf_0 : decode cX8_goesOf 0 = .ok (.aload_n 0, 1) := by decide +kernel
theorem dX8_goesOf_1 : decode cX8_goesOf 1 = .ok (.getfield 38, 3) := by decide +kernel
theorem dX8_goesOf_4 : decode cX8_goesOf 4 = .ok (.iload_n 1, 1) := by decide +kernel
theorem dX8_goesOf_5 : decode cX8_goesOf 5 = .ok (.iaload, 1) := by decide +kernel
theorem dX8_goesOf_6 : decode cX8_goesOf 6 = .ok (.ifCond .lt 17, 3) := by decide +kernel
theorem dX8_goesOf_9 : decode cX8_goesOf 9 = .ok (.aload_n 0, 1) := by decide +kernel
theorem dX8_goesOf_10 : decode cX8_goesOf 10 = .ok (.getfield 23, 3) := by decide +kernel
theorem dX8_goesOf_13 : decode cX8_goesOf 13 = .ok (.aload_n 0, 1) := by decide +kernel
theorem dX8_goesOf_14 : decode cX8_goesOf 14 = .ok (.getfield 38, 3) := by decide +kernel
theorem dX8_goesOf_17 : decode cX8_goesOf 17 = .ok (.iload_n 1, 1) := by decide +kernel
theorem dX8_goesOf_18 : decode cX8_goesOf 18 = .ok (.iaload, 1) := by decide +kernel
theorem dX8_goesOf_19 : decode cX8_goesOf 19 = .ok (.iaload, 1) := by decide +kernel
theorem dX8_goesOf_20 : decode cX8_goesOf 20 = .ok (.goto 5, 3) := by decide +kernel
theorem dX8_goesOf_23 : decode cX8_goesOf 23 = .ok (.ldc 147, 2) := by decide +kernel
theorem dX8_goesOf_25 : decode cX8_goesOf 25 = .ok (.ireturn, 1) := by decide +kernel
theorem dX8_isSwapped_0 : decode cX8_isSwapped 0 = .ok (.aload_n 0, 1) := by decide +kernel
theorem dX8_isSwapped_1 : decode cX8_isSwapped 1 = .ok (.getfield 38, 3) := by decide +kernel
theorem dX8_isSwapped_4 : decode cX8_isSwapped 4 = .ok (.iload_n 1, 1) := by decide +kernel
theorem dX8_isSwapped_5 : decode cX8_isSwapped 5 = .ok (.iaload, 1) := by decide +kernel
theorem dX8_isSwapped_6 : decode cX8_isSwapped 6 = .ok (.ifCond .lt 7, 3) := by decide +kernel
theorem dX8_isSwapped_9 : decode cX8_isSwapped 9 = .ok (.iconst 1, 1) := by decide +kernel
theorem dX8_isSwapped_10 : decode cX8_isSwapped 10 = .ok (.goto 4, 3) := by decide +kernel
theorem dX8_isSwapped_13 : decode cX8_isSwapped 13 = .ok (.iconst 0, 1) := by decide +kernel
theorem dX8_isSwapped_14 : decode cX8_isSwapped 14 = .ok (.ireturn, 1) := by decide +kernel
theorem dX8_listRows_0 : decode cX8_listRows 0 = .ok (.aload_n 0, 1) := by decide +kernel
theorem dX8_listRows_1 : decode cX8_listRows 1 = .ok (.iconst 0, 1) := by decide +kernel
