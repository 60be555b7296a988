theorem dX8_listRows_2 : decode cX8_listRows 2 = .ok (.putfield 148, 3) := by decide +kernel
theorem dX8_listRows_5 : decode cX8_listRows 5 = .ok (.iconst 0, 1) := by decide +kernel
theorem dX8_listRows_6 : decode cX8_listRows 6 = .ok (.istore_n 1, 1) := by decide +kernel
theorem dX8_listRows_7 : decode cX8_listRows 7 = .ok (.iload_n 1, 1) := by decide +kernel
theorem dX8_listRows_8 : decode cX8_listRows 8 = .ok (.aload_n 0, 1) := by decide +kernel
theorem dX8_listRows_9 : decode cX8_listRows 9 = .ok (.getfield 44, 3) := by decide +kernel
theorem dX8_listRows_12 : decode cX8_listRows 12 = .ok (.getfield 101, 3) := by decide +kernel
theorem dX8_listRows_15 : decode cX8_listRows 15 = .ok (.getfield 105, 3) := by decide +kernel
theorem dX8_listRows_18 : decode cX8_listRows 18 = .ok (.if_icmp .ge 90, 3) := by decide +kernel
theorem dX8_listRows_21 : decode cX8_listRows 21 = .ok (.aload_n 0, 1) := by decide +kernel
theorem dX8_listRows_22 : decode cX8_listRows 22 = .ok (.getfield 148, 3) := by decide +kernel
theorem dX8_listRows_25 : decode cX8_listRows 25 = .ok (.iconst 3, 1) := by decide +kernel
theorem dX8_listRows_26 : decode cX8_listRows 26 = .ok (.iadd, 1) := by decide +kernel
theorem dX8_listRows_27 : decode cX8_listRows 27 = .ok (.bipush 36, 2) := by decide +kernel
theorem dX8_listRows_29 : decode cX8_listRows 29 = .ok (.if_icmp .gt 79, 3) := by decide +kernel
theorem dX8_listRows_32 : decode cX8_listRows 32 = .ok (.aload_n 0, 1) := by decide +kernel
theorem dX8_listRows_33 : decode cX8_listRows 33 = .ok (.iload_n 1, 1) := by decide +kernel
theorem dX8_listRows_34 : decode cX8_listRows 34 = .ok (.invokevirtual 151, 3) := by decide +kernel
theorem dX8_listRows_37 : decode cX8_listRows 37 = .ok (.ifCond .ne 6, 3) := by decide +kernel
theorem dX8_listRows_40 : decode cX8_listRows 40 = .ok (.goto 62, 3) := by decide +kernel
theorem dX8_listRows_43 : decode cX8_listRows 43 = .ok (.aload_n 0, 1) := by decide +kernel
theorem dX8_listRows_44 : decode cX8_listRows 44 = .ok (.getfield 41, 3) := by decide +kernel
theorem dX8_listRows_47 : decode cX8_listRows 47 = .ok (.aload_n 0, 1) := by decide +kernel
theorem dX8_listRows_48 : decode cX8_listRows 48 = .ok (.dup, 1) := by decide +kernel
theorem dX8_listRows_49 : decode cX8_listRows 49 = .ok (.getfield 148, 3) := by decide +kernel
theorem dX8_listRows_52 : decode cX8_listRows 52 = .ok (.dup_x1, 1) := by decide +kernel
theorem dX8_listRows_53 : decode cX8_listRows 53 = .ok (.iconst 1, 1) := by decide +kernel
theorem dX8_listRows_54 : decode cX8_listRows 54 = .ok (.iadd, 1) := by decide +kernel
theorem dX8_listRows_55 : decode cX8_listRows 55 = .ok (.putfield 148, 3) := by decide +kernel
theorem dX8_listRows_58 : decode cX8_listRows 58 = .ok (.iload_n 1, 1) := by decide +kernel
theorem dX8_listRows_59 : decode cX8_listRows 59 = .ok (.iastore, 1) := by decide +kernel
theorem dX8_listRows_60 : decode cX8_listRows 60 = .ok (.aload_n 0, 1) := by decide +kernel
theorem dX8_listRows_61 : decode cX8_listRows 61 = .ok (.getfield 41, 3) := by decide +kernel
theorem dX8_listRows_64 : decode cX8_listRows 64 = .ok (.aload_n 0, 1) := by decide +kernel
theorem dX8_listRows_65 : decode cX8_listRows 65 = .ok (.dup, 1) := by decide +kernel
theorem dX8_listRows_66 : decode cX8_listRows 66 = .ok (.getfield 148, 3) := by decide +kernel
theorem dX8_listRows_69 : decode cX8_listRows 69 = .ok (.dup_x1, 1) := by decide +kernel
theorem dX8_listRows_70 : decode cX8_listRows 70 = .ok (.iconst 1, 1) := by decide +kernel
theorem dX8_listRows_71 : decode cX8_listRows 71 = .ok (.iadd, 1) := by decide +kernel
theorem dX8_listRows_72 : decode cX8_listRows 72 = .ok (.putfield 148, 3) := by decide +kernel
theorem dX8_listRows_75 : decode cX8_listRows 75 = .ok (.aload_n 0, 1) := by decide +kernel
theorem dX8_listRows_76 : decode cX8_listRows 76 = .ok (.iload_n 1, 1) := by decide +kernel
theorem dX8_listRows_77 : decode cX8_listRows 77 = .ok (.invokevirtual 155, 3) := by decide +kernel
theorem dX8_listRows_80 : decode cX8_listRows 80 = .ok (.iastore, 1) := by decide +kernel
theorem dX8_listRows_81 : decode cX8_listRows 81 = .ok (.aload_n 0, 1) := by decide +kernel
theorem dX8_listRows_82 : decode cX8_listRows 82 = .ok (.getfield 41, 3) := by decide +kernel
theorem dX8_listRows_85 : decode cX8_listRows 85 = .ok (.aload_n 0, 1) := by decide +kernel
theorem dX8_listRows_86 : decode cX8_listRows 86 = .ok (.dup, 1) := by decide +kernel
theorem dX8_listRows_87 : decode cX8_listRows 87 = .ok (.getfield 148, 3) := by decide +kernel
theorem dX8_listRows_90 : decode cX8_listRows 90 = .ok (.dup_x1, 1) := by decide +kernel
theorem dX8_listRows_91 : decode cX8_listRows 91 = .ok (.iconst 1, 1) := by decide +kernel
theorem dX8_listRows_92 : decode cX8_listRows 92 = .ok (.iadd, 1) := by decide +kernel
theorem dX8_listRows_93 : decode cX8_listRows 93 = .ok (.putfield 148, 3) := by decide +kernel
theorem dX8_listRows_96 : decode cX8_listRows 96 = .ok (.aload_n 0, 1) := by decide +kernel
theorem dX8_listRows_97 : decode cX8_listRows 97 = .ok (.iload_n 1, 1) := by decide +kernel
theorem dX8_listRows_98 : decode cX8_listRows 98 = .ok (.invokevirtual 158, 3) := by decide +kernel
theorem dX8_listRows_101 : decode cX8_listRows 101 = .ok (.iastore, 1) := by decide +kernel
theorem dX8_listRows_102 : decode cX8_listRows 102 = .ok (.iinc 1 1, 3) := by decide +kernel
theorem dX8_listRows_105 : decode cX8_listRows 105 = .ok (.goto (-98), 3) := by decide +kernel
theorem dX8_listRows_108 : decode cX8_listRows 108 = .ok (.aload_n 0, 1) := by decide +kernel
theorem dX8_listRows_109 : decode cX8_listRows 109 = .ok (.getfield 41, 3) := by decide +kernel
theorem dX8_listRows_112 : decode cX8_listRows 112 = .ok (.areturn, 1) := by decide +kernel
theorem dX8_move_0 : decode cX8_move 0 = .ok (.aload_n 0, 1) := by decide +kernel
theorem dX8_move_1 : decode cX8_move 1 = .ok (.iload_n 1, 1) := by decide +kernel
theorem dX8_move_2 : decode cX8_move 2 = .ok (.iload_n 3, 1) := by decide +kernel
theorem dX8_move_3 : decode cX8_move 3 = .ok (.invokevirtual 140, 3) := by decide +kernel
theorem dX8_move_6 : decode cX8_move 6 = .ok (.aload_n 0, 1) := by decide +kernel
theorem dX8_move_7 : decode cX8_move 7 = .ok (.iload_n 2, 1) := by decide +kernel
theorem dX8_move_8 : decode cX8_move 8 = .ok (.iload_n 3, 1) := by decide +kernel
theorem dX8_move_9 : decode cX8_move 9 = .ok (.ineg, 1) := by decide +kernel
theorem dX8_move_10 : decode cX8_move 10 = .ok (.invokevirtual 140, 3) := by decide +kernel
theorem dX8_move_13 : decode cX8_move 13 = .ok (.return_, 1) := by decide +kernel
theorem dX8_packAll_0 : decode cX8_packAll 0 = .ok (.iconst 0, 1) := by decide +kernel
theorem dX8_packAll_1 : decode cX8_packAll 1 = .ok (.istore_n 1, 1) := by decide +kernel
theorem dX8_packAll_2 : decode cX8_packAll 2 = .ok (.aload_n 0, 1) := by decide +kernel
theorem dX8_packAll_3 : decode cX8_packAll 3 = .ok (.getfield 44, 3) := by decide +kernel
theorem dX8_packAll_6 : decode cX8_packAll 6 = .ok (.invokevirtual 161, 3) := by decide +kernel
theorem dX8_packAll_9 : decode cX8_packAll 9 = .ok (.iconst 0, 1) := by decide +kernel
theorem dX8_packAll_10 : decode cX8_packAll 10 = .ok (.istore_n 2, 1) := by decide +kernel
theorem dX8_packAll_11 : decode cX8_packAll 11 = .ok (.iload_n 2, 1) := by decide +kernel
theorem dX8_packAll_12 : decode cX8_packAll 12 = .ok (.aload_n 0, 1) := by decide +kernel
theorem dX8_packAll_13 : decode cX8_packAll 13 = .ok (.getfield 44, 3) := by decide +kernel
theorem dX8_packAll_16 : decode cX8_packAll 16 = .ok (.getfield 101, 3) := by decide +kernel
theorem dX8_packAll_19 : decode cX8_packAll 19 = .ok (.getfield 105, 3) := by decide +kernel
theorem dX8_packAll_22 : decode cX8_packAll 22 = .ok (.if_icmp .ge 58, 3) := by decide +kernel
theorem dX8_packAll_25 : decode cX8_packAll 25 = .ok (.iconst 0, 1) := by decide +kernel
theorem dX8_packAll_26 : decode cX8_packAll 26 = .ok (.istore_n 3, 1) := by decide +kernel
theorem dX8_packAll_27 : decode cX8_packAll 27 = .ok (.iload_n 3, 1) := by decide +kernel
theorem dX8_packAll_28 : decode cX8_packAll 28 = .ok (.aload_n 0, 1) := by decide +kernel
theorem dX8_packAll_29 : decode cX8_packAll 29 = .ok (.getfield 44, 3) := by decide +kernel
theorem dX8_packAll_32 : decode cX8_packAll 32 = .ok (.getfield 80, 3) := by decide +kernel
theorem dX8_packAll_35 : decode cX8_packAll 35 = .ok (.getfield 86, 3) := by decide +kernel
theorem dX8_packAll_38 : decode cX8_packAll 38 = .ok (.if_icmp .ge 36, 3) := by decide +kernel
theorem dX8_packAll_41 : decode cX8_packAll 41 = .ok (.aload_n 0, 1) := by decide +kernel
theorem dX8_packAll_42 : decode cX8_packAll 42 = .ok (.iload_n 2, 1) := by decide +kernel
theorem dX8_packAll_43 : decode cX8_packAll 43 = .ok (.iload_n 3, 1) := by decide +kernel
theorem dX8_packAll_44 : decode cX8_packAll 44 = .ok (.invokevirtual 164, 3) := by decide +kernel
theorem dX8_packAll_47 : decode cX8_packAll 47 = .ok (.istore 4, 2) := by decide +kernel
theorem dX8_packAll_49 : decode cX8_packAll 49 = .ok (.aload_n 0, 1) := by decide +kernel
theorem dX8_packAll_50 : decode cX8_packAll 50 = .ok (.getfield 44, 3) := by decide +kernel
theorem dX8_packAll_53 : decode cX8_packAll 53 = .ok (.getfield 91, 3) := by decide +kernel
theorem dX8_packAll_56 : decode cX8_packAll 56 = .ok (.iload_n 3, 1) := by decide +kernel
theorem dX8_packAll_57 : decode cX8_packAll 57 = .ok (.iload 4, 2) := by decide +kernel
theorem dX8_packAll_59 : decode cX8_packAll 59 = .ok (.iload_n 2, 1) := by decide +kernel
theorem dX8_packAll_60 : decode cX8_packAll 60 = .ok (.invokevirtual 168, 3) := by decide +kernel
theorem dX8_packAll_63 : decode cX8_packAll 63 = .ok (.iload_n 1, 1) := by decide +kernel
theorem dX8_packAll_64 : decode cX8_packAll 64 = .ok (.iload 4, 2) := by decide +kernel
theorem dX8_packAll_66 : decode cX8_packAll 66 = .ok (.iadd, 1) := by decide +kernel
theorem dX8_packAll_67 : decode cX8_packAll 67 = .ok (.istore_n 1, 1) := by decide +kernel
theorem dX8_packAll_68 : decode cX8_packAll 68 = .ok (.iinc 3 1, 3) := by decide +kernel
theorem dX8_packAll_71 : decode cX8_packAll 71 = .ok (.goto (-44), 3) := by decide +kernel
theorem dX8_packAll_74 : decode cX8_packAll 74 = .ok (.iinc 2 1, 3) := by decide +kernel
theorem dX8_packAll_77 : decode cX8_packAll 77 = .ok (.goto (-66), 3) := by decide +kernel
theorem dX8_packAll_80 : decode cX8_packAll 80 = .ok (.iload_n 1, 1) := by decide +kernel
theorem dX8_packAll_81 : decode cX8_packAll 81 = .ok (.ireturn, 1) := by decide +kernel
theorem dX8_plannedNeed_0 : decode cX8_plannedNeed 0 = .ok (.iload_n 2, 1) := by decide +kernel
theorem dX8_plannedNeed_1 : decode cX8_plannedNeed 1 = .ok (.aload_n 0, 1) := by decide +kernel
theorem dX8_plannedNeed_2 : decode cX8_plannedNeed 2 = .ok (.iload_n 1, 1) := by decide +kernel
theorem dX8_plannedNeed_3 : decode cX8_plannedNeed 3 = .ok (.invokevirtual 155, 3) := by decide +kernel
theorem dX8_plannedNeed_6 : decode cX8_plannedNeed 6 = .ok (.if_icmp .ne 5, 3) := by decide +kernel
theorem dX8_plannedNeed_9 : decode cX8_plannedNeed 9 = .ok (.iconst 0, 1) := by decide +kernel
theorem dX8_plannedNeed_10 : decode cX8_plannedNeed 10 = .ok (.ireturn, 1) := by decide +kernel
theorem dX8_plannedNeed_11 : decode cX8_plannedNeed 11 = .ok (.iload_n 2, 1) := by decide +kernel
theorem dX8_plannedNeed_12 : decode cX8_plannedNeed 12 = .ok (.aload_n 0, 1) := by decide +kernel
theorem dX8_plannedNeed_13 : decode cX8_plannedNeed 13 = .ok (.iload_n 1, 1) := by decide +kernel
theorem dX8_plannedNeed_14 : decode cX8_plannedNeed 14 = .ok (.invokevirtual 158, 3) := by decide +kernel
theorem dX8_plannedNeed_17 : decode cX8_plannedNeed 17 = .ok (.if_icmp .ne 17, 3) := by decide +kernel
theorem dX8_plannedNeed_20 : decode cX8_plannedNeed 20 = .ok (.aload_n 0, 1) := by decide +kernel
theorem dX8_plannedNeed_21 : decode cX8_plannedNeed 21 = .ok (.getfield 29, 3) := by decide +kernel
theorem dX8_plannedNeed_24 : decode cX8_plannedNeed 24 = .ok (.aload_n 0, 1) := by decide +kernel
theorem dX8_plannedNeed_25 : decode cX8_plannedNeed 25 = .ok (.getfield 38, 3) := by decide +kernel
theorem dX8_plannedNeed_28 : decode cX8_plannedNeed 28 = .ok (.iload_n 1, 1) := by decide +kernel
theorem dX8_plannedNeed_29 : decode cX8_plannedNeed 29 = .ok (.iaload, 1) := by decide +kernel
theorem dX8_plannedNeed_30 : decode cX8_plannedNeed 30 = .ok (.iaload, 1) := by decide +kernel
theorem dX8_plannedNeed_31 : decode cX8_plannedNeed 31 = .ok (.goto 11, 3) := by decide +kernel
theorem dX8_plannedNeed_34 : decode cX8_plannedNeed 34 = .ok (.aload_n 0, 1) := by decide +kernel
theorem dX8_plannedNeed_35 : decode cX8_plannedNeed 35 = .ok (.getfield 11, 3) := by decide +kernel
theorem dX8_plannedNeed_38 : decode cX8_plannedNeed 38 = .ok (.iload_n 1, 1) := by decide +kernel
theorem dX8_plannedNeed_39 : decode cX8_plannedNeed 39 = .ok (.aaload, 1) := by decide +kernel
theorem dX8_plannedNeed_40 : decode cX8_plannedNeed 40 = .ok (.iload_n 2, 1) := by decide +kernel
theorem dX8_plannedNeed_41 : decode cX8_plannedNeed 41 = .ok (.iaload, 1) := by decide +kernel
theorem dX8_plannedNeed_42 : decode cX8_plannedNeed 42 = .ok (.ireturn, 1) := by decide +kernel
theorem dX8_seekFrom_0 : decode cX8_seekFrom 0 = .ok (.aload_n 0, 1) := by decide +kernel
theorem dX8_seekFrom_1 : decode cX8_seekFrom 1 = .ok (.getfield 61, 3) := by decide +kernel
theorem dX8_seekFrom_4 : decode cX8_seekFrom 4 = .ok (.ifCond .eq 28, 3) := by decide +kernel
theorem dX8_seekFrom_7 : decode cX8_seekFrom 7 = .ok (.iload_n 2, 1) := by decide +kernel
theorem dX8_seekFrom_8 : decode cX8_seekFrom 8 = .ok (.aload_n 0, 1) := by decide +kernel
theorem dX8_seekFrom_9 : decode cX8_seekFrom 9 = .ok (.getfield 65, 3) := by decide +kernel
theorem dX8_seekFrom_12 : decode cX8_seekFrom 12 = .ok (.if_icmp .gt 19, 3) := by decide +kernel
theorem dX8_seekFrom_15 : decode cX8_seekFrom 15 = .ok (.iload_n 2, 1) := by decide +kernel
theorem dX8_seekFrom_16 : decode cX8_seekFrom 16 = .ok (.aload_n 0, 1) := by decide +kernel
theorem dX8_seekFrom_17 : decode cX8_seekFrom 17 = .ok (.getfield 65, 3) := by decide +kernel
theorem dX8_seekFrom_20 : decode cX8_seekFrom 20 = .ok (.if_icmp .ne 12, 3) := by decide +kernel
theorem dX8_seekFrom_23 : decode cX8_seekFrom 23 = .ok (.iload_n 3, 1) := by decide +kernel
theorem dX8_seekFrom_24 : decode cX8_seekFrom 24 = .ok (.aload_n 0, 1) := by decide +kernel
theorem dX8_seekFrom_25 : decode cX8_seekFrom 25 = .ok (.getfield 68, 3) := by decide +kernel
theorem dX8_seekFrom_28 : decode cX8_seekFrom 28 = .ok (.if_icmp .lt 4, 3) := by decide +kernel
theorem dX8_seekFrom_31 : decode cX8_seekFrom 31 = .ok (.return_, 1) := by decide +kernel
theorem dX8_seekFrom_32 : decode cX8_seekFrom 32 = .ok (.iload_n 1, 1) := by decide +kernel
theorem dX8_seekFrom_33 : decode cX8_seekFrom 33 = .ok (.aload_n 0, 1) := by decide +kernel
theorem dX8_seekFrom_34 : decode cX8_seekFrom 34 = .ok (.getfield 44, 3) := by decide +kernel
theorem dX8_seekFrom_37 : decode cX8_seekFrom 37 = .ok (.getfield 101, 3) := by decide +kernel
theorem dX8_seekFrom_40 : decode cX8_seekFrom 40 = .ok (.getfield 105, 3) := by decide +kernel
theorem dX8_seekFrom_43 : decode cX8_seekFrom 43 = .ok (.if_icmp .lt 17, 3) := by decide +kernel
theorem dX8_seekFrom_46 : decode cX8_seekFrom 46 = .ok (.aload_n 0, 1) := by decide +kernel
theorem dX8_seekFrom_47 : decode cX8_seekFrom 47 = .ok (.getfield 77, 3) := by decide +kernel
theorem dX8_seekFrom_50 : decode cX8_seekFrom 50 = .ok (.ifCond .ne 9, 3) := by decide +kernel
theorem dX8_seekFrom_53 : decode cX8_seekFrom 53 = .ok (.aload_n 0, 1) := by decide +kernel
theorem dX8_seekFrom_54 : decode cX8_seekFrom 54 = .ok (.iload_n 2, 1) := by decide +kernel
theorem dX8_seekFrom_55 : decode cX8_seekFrom 55 = .ok (.iload_n 3, 1) := by decide +kernel
theorem dX8_seekFrom_56 : decode cX8_seekFrom 56 = .ok (.invokevirtual 134, 3) := by decide +kernel
theorem dX8_seekFrom_59 : decode cX8_seekFrom 59 = .ok (.return_, 1) := by decide +kernel
theorem dX8_seekFrom_60 : decode cX8_seekFrom 60 = .ok (.aload_n 0, 1) := by decide +kernel
theorem dX8_seekFrom_61 : decode cX8_seekFrom 61 = .ok (.getfield 35, 3) := by decide +kernel
theorem dX8_seekFrom_64 : decode cX8_seekFrom 64 = .ok (.iload_n 1, 1) := by decide +kernel
theorem dX8_seekFrom_65 : decode cX8_seekFrom 65 = .ok (.iconst (-1), 1) := by decide +kernel
theorem dX8_seekFrom_66 : decode cX8_seekFrom 66 = .ok (.iastore, 1) := by decide +kernel
theorem dX8_seekFrom_67 : decode cX8_seekFrom 67 = .ok (.aload_n 0, 1) := by decide +kernel
theorem dX8_seekFrom_68 : decode cX8_seekFrom 68 = .ok (.iload_n 1, 1) := by decide +kernel
theorem dX8_seekFrom_69 : decode cX8_seekFrom 69 = .ok (.iconst 1, 1) := by decide +kernel
theorem dX8_seekFrom_70 : decode cX8_seekFrom 70 = .ok (.iadd, 1) := by decide +kernel
theorem dX8_seekFrom_71 : decode cX8_seekFrom 71 = .ok (.iload_n 2, 1) := by decide +kernel
theorem dX8_seekFrom_72 : decode cX8_seekFrom 72 = .ok (.iload_n 3, 1) := by decide +kernel
theorem dX8_seekFrom_73 : decode cX8_seekFrom 73 = .ok (.invokevirtual 71, 3) := by decide +kernel
theorem dX8_seekFrom_76 : decode cX8_seekFrom 76 = .ok (.aload_n 0, 1) := by decide +kernel
theorem dX8_seekFrom_77 : decode cX8_seekFrom 77 = .ok (.getfield 20, 3) := by decide +kernel
theorem dX8_seekFrom_80 : decode cX8_seekFrom 80 = .ok (.iload_n 1, 1) := by decide +kernel
theorem dX8_seekFrom_81 : decode cX8_seekFrom 81 = .ok (.iaload, 1) := by decide +kernel
theorem dX8_seekFrom_82 : decode cX8_seekFrom 82 = .ok (.istore 4, 2) := by decide +kernel
theorem dX8_seekFrom_84 : decode cX8_seekFrom 84 = .ok (.iload 4, 2) := by decide +kernel
theorem dX8_seekFrom_86 : decode cX8_seekFrom 86 = .ok (.aload_n 0, 1) := by decide +kernel
theorem dX8_seekFrom_87 : decode cX8_seekFrom 87 = .ok (.getfield 20, 3) := by decide +kernel
theorem dX8_seekFrom_90 : decode cX8_seekFrom 90 = .ok (.iload_n 1, 1) := by decide +kernel
theorem dX8_seekFrom_91 : decode cX8_seekFrom 91 = .ok (.iconst 1, 1) := by decide +kernel
theorem dX8_seekFrom_92 : decode cX8_seekFrom 92 = .ok (.iadd, 1) := by decide +kernel
theorem dX8_seekFrom_93 : decode cX8_seekFrom 93 = .ok (.iaload, 1) := by decide +kernel
theorem dX8_seekFrom_94 : decode cX8_seekFrom 94 = .ok (.if_icmp .ge 119, 3) := by decide +kernel
theorem dX8_seekFrom_97 : decode cX8_seekFrom 97 = .ok (.aload_n 0, 1) := by decide +kernel
theorem dX8_seekFrom_98 : decode cX8_seekFrom 98 = .ok (.getfield 58, 3) := by decide +kernel
theorem dX8_seekFrom_101 : decode cX8_seekFrom 101 = .ok (.aload_n 0, 1) := by decide +kernel
theorem dX8_seekFrom_102 : decode cX8_seekFrom 102 = .ok (.getfield 54, 3) := by decide +kernel
theorem dX8_seekFrom_105 : decode cX8_seekFrom 105 = .ok (.if_icmp .gt 108, 3) := by decide +kernel
theorem dX8_seekFrom_108 : decode cX8_seekFrom 108 = .ok (.aload_n 0, 1) := by decide +kernel
theorem dX8_seekFrom_109 : decode cX8_seekFrom 109 = .ok (.dup, 1) := by decide +kernel
theorem dX8_seekFrom_110 : decode cX8_seekFrom 110 = .ok (.getfield 58, 3) := by decide +kernel
theorem dX8_seekFrom_113 : decode cX8_seekFrom 113 = .ok (.iconst 1, 1) := by decide +kernel
theorem dX8_seekFrom_114 : decode cX8_seekFrom 114 = .ok (.iadd, 1) := by decide +kernel
theorem dX8_seekFrom_115 : decode cX8_seekFrom 115 = .ok (.putfield 58, 3) := by decide +kernel
theorem dX8_seekFrom_118 : decode cX8_seekFrom 118 = .ok (.aload_n 0, 1) := by decide +kernel
theorem dX8_seekFrom_119 : decode cX8_seekFrom 119 = .ok (.getfield 58, 3) := by decide +kernel
theorem dX8_seekFrom_122 : decode cX8_seekFrom 122 = .ok (.aload_n 0, 1) := by decide +kernel
theorem dX8_seekFrom_123 : decode cX8_seekFrom 123 = .ok (.getfield 54, 3) := by decide +kernel
theorem dX8_seekFrom_126 : decode cX8_seekFrom 126 = .ok (.if_icmp .le 4, 3) := by decide +kernel
theorem dX8_seekFrom_129 : decode cX8_seekFrom 129 = .ok (.return_, 1) := by decide +kernel
theorem dX8_seekFrom_130 : decode cX8_seekFrom 130 = .ok (.aload_n 0, 1) := by decide +kernel
theorem dX8_seekFrom_131 : decode cX8_seekFrom 131 = .ok (.getfield 35, 3) := by decide +kernel
theorem dX8_seekFrom_134 : decode cX8_seekFrom 134 = .ok (.iload_n 1, 1) := by decide +kernel
theorem dX8_seekFrom_135 : decode cX8_seekFrom 135 = .ok (.iload 4, 2) := by decide +kernel
theorem dX8_seekFrom_137 : decode cX8_seekFrom 137 = .ok (.iastore, 1) := by decide +kernel
theorem dX8_seekFrom_138 : decode cX8_seekFrom 138 = .ok (.aload_n 0, 1) := by decide +kernel
theorem dX8_seekFrom_139 : decode cX8_seekFrom 139 = .ok (.aload_n 0, 1) := by decide +kernel
theorem dX8_seekFrom_140 : decode cX8_seekFrom 140 = .ok (.getfield 23, 3) := by decide +kernel
theorem dX8_seekFrom_143 : decode cX8_seekFrom 143 = .ok (.iload 4, 2) := by decide +kernel
theorem dX8_seekFrom_145 : decode cX8_seekFrom 145 = .ok (.iaload, 1) := by decide +kernel
theorem dX8_seekFrom_146 : decode cX8_seekFrom 146 = .ok (.aload_n 0, 1) := by decide +kernel
theorem dX8_seekFrom_147 : decode cX8_seekFrom 147 = .ok (.getfield 26, 3) := by decide +kernel
theorem dX8_seekFrom_150 : decode cX8_seekFrom 150 = .ok (.iload 4, 2) := by decide +kernel
theorem dX8_seekFrom_152 : decode cX8_seekFrom 152 = .ok (.iaload, 1) := by decide +kernel
theorem dX8_seekFrom_153 : decode cX8_seekFrom 153 = .ok (.aload_n 0, 1) := by decide +kernel
theorem dX8_seekFrom_154 : decode cX8_seekFrom 154 = .ok (.getfield 29, 3) := by decide +kernel
theorem dX8_seekFrom_157 : decode cX8_seekFrom 157 = .ok (.iload 4, 2) := by decide +kernel
theorem dX8_seekFrom_159 : decode cX8_seekFrom 159 = .ok (.iaload, 1) := by decide +kernel
theorem dX8_seekFrom_160 : decode cX8_seekFrom 160 = .ok (.invokevirtual 137, 3) := by decide +kernel
theorem dX8_seekFrom_163 : decode cX8_seekFrom 163 = .ok (.aload_n 0, 1) := by decide +kernel
theorem dX8_seekFrom_164 : decode cX8_seekFrom 164 = .ok (.iload_n 1, 1) := by decide +kernel
theorem dX8_seekFrom_165 : decode cX8_seekFrom 165 = .ok (.iconst 1, 1) := by decide +kernel
theorem dX8_seekFrom_166 : decode cX8_seekFrom 166 = .ok (.iadd, 1) := by decide +kernel
theorem dX8_seekFrom_167 : decode cX8_seekFrom 167 = .ok (.iload_n 2, 1) := by decide +kernel
theorem dX8_seekFrom_168 : decode cX8_seekFrom 168 = .ok (.aload_n 0, 1) := by decide +kernel
theorem dX8_seekFrom_169 : decode cX8_seekFrom 169 = .ok (.getfield 32, 3) := by decide +kernel
theorem dX8_seekFrom_172 : decode cX8_seekFrom 172 = .ok (.iload 4, 2) := by decide +kernel
theorem dX8_seekFrom_174 : decode cX8_seekFrom 174 = .ok (.iaload, 1) := by decide +kernel
theorem dX8_seekFrom_175 : decode cX8_seekFrom 175 = .ok (.iadd, 1) := by decide +kernel
theorem dX8_seekFrom_176 : decode cX8_seekFrom 176 = .ok (.iload_n 3, 1) := by decide +kernel
theorem dX8_seekFrom_177 : decode cX8_seekFrom 177 = .ok (.iconst 1, 1) := by decide +kernel
theorem dX8_seekFrom_178 : decode cX8_seekFrom 178 = .ok (.iadd, 1) := by decide +kernel
theorem dX8_seekFrom_179 : decode cX8_seekFrom 179 = .ok (.invokevirtual 71, 3) := by decide +kernel
theorem dX8_seekFrom_182 : decode cX8_seekFrom 182 = .ok (.aload_n 0, 1) := by decide +kernel
theorem dX8_seekFrom_183 : decode cX8_seekFrom 183 = .ok (.aload_n 0, 1) := by decide +kernel
theorem dX8_seekFrom_184 : decode cX8_seekFrom 184 = .ok (.getfield 26, 3) := by decide +kernel
theorem dX8_seekFrom_187 : decode cX8_seekFrom 187 = .ok (.iload 4, 2) := by decide +kernel
theorem dX8_seekFrom_189 : decode cX8_seekFrom 189 = .ok (.iaload, 1) := by decide +kernel
theorem dX8_seekFrom_190 : decode cX8_seekFrom 190 = .ok (.aload_n 0, 1) := by decide +kernel
theorem dX8_seekFrom_191 : decode cX8_seekFrom 191 = .ok (.getfield 23, 3) := by decide +kernel
theorem dX8_seekFrom_194 : decode cX8_seekFrom 194 = .ok (.iload 4, 2) := by decide +kernel
theorem dX8_seekFrom_196 : decode cX8_seekFrom 196 = .ok (.iaload, 1) := by decide +kernel
theorem dX8_seekFrom_197 : decode cX8_seekFrom 197 = .ok (.aload_n 0, 1) := by decide +kernel
theorem dX8_seekFrom_198 : decode cX8_seekFrom 198 = .ok (.getfield 29, 3) := by decide +kernel
theorem dX8_seekFrom_201 : decode cX8_seekFrom 201 = .ok (.iload 4, 2) := by decide +kernel
theorem dX8_seekFrom_203 : decode cX8_seekFrom 203 = .ok (.iaload, 1) := by decide +kernel
theorem dX8_seekFrom_204 : decode cX8_seekFrom 204 = .ok (.invokevirtual 137, 3) := by decide +kernel
theorem dX8_seekFrom_207 : decode cX8_seekFrom 207 = .ok (.iinc 4 1, 3) := by decide +kernel
theorem dX8_seekFrom_210 : decode cX8_seekFrom 210 = .ok (.goto (-126), 3) := by decide +kernel
theorem dX8_seekFrom_213 : decode cX8_seekFrom 213 = .ok (.return_, 1) := by decide +kernel
theorem dX8_seek_0 : decode cX8_seek 0 = .ok (.aload_n 0, 1) := by decide +kernel
theorem dX8_seek_1 : decode cX8_seek 1 = .ok (.invokevirtual 48, 3) := by decide +kernel
theorem dX8_seek_4 : decode cX8_seek 4 = .ok (.aload_n 0, 1) := by decide +kernel
theorem dX8_seek_5 : decode cX8_seek 5 = .ok (.invokevirtual 51, 3) := by decide +kernel
theorem dX8_seek_8 : decode cX8_seek 8 = .ok (.aload_n 0, 1) := by decide +kernel
theorem dX8_seek_9 : decode cX8_seek 9 = .ok (.iload_n 1, 1) := by decide +kernel
theorem dX8_seek_10 : decode cX8_seek 10 = .ok (.putfield 54, 3) := by decide +kernel
theorem dX8_seek_13 : decode cX8_seek 13 = .ok (.aload_n 0, 1) := by decide +kernel
theorem dX8_seek_14 : decode cX8_seek 14 = .ok (.iconst 0, 1) := by decide +kernel
theorem dX8_seek_15 : decode cX8_seek 15 = .ok (.putfield 58, 3) := by decide +kernel
theorem dX8_seek_18 : decode cX8_seek 18 = .ok (.aload_n 0, 1) := by decide +kernel
theorem dX8_seek_19 : decode cX8_seek 19 = .ok (.iconst 0, 1) := by decide +kernel
theorem dX8_seek_20 : decode cX8_seek 20 = .ok (.putfield 61, 3) := by decide +kernel
theorem dX8_seek_23 : decode cX8_seek 23 = .ok (.aload_n 0, 1) := by decide +kernel
theorem dX8_seek_24 : decode cX8_seek 24 = .ok (.iconst 0, 1) := by decide +kernel
theorem dX8_seek_25 : decode cX8_seek 25 = .ok (.putfield 65, 3) := by decide +kernel
theorem dX8_seek_28 : decode cX8_seek 28 = .ok (.aload_n 0, 1) := by decide +kernel
theorem dX8_seek_29 : decode cX8_seek 29 = .ok (.iconst 0, 1) := by decide +kernel
theorem dX8_seek_30 : decode cX8_seek 30 = .ok (.putfield 68, 3) := by decide +kernel
theorem dX8_seek_33 : decode cX8_seek 33 = .ok (.aload_n 0, 1) := by decide +kernel
theorem dX8_seek_34 : decode cX8_seek 34 = .ok (.iconst 0, 1) := by decide +kernel
theorem dX8_seek_35 : decode cX8_seek 35 = .ok (.iconst 0, 1) := by decide +kernel
theorem dX8_seek_36 : decode cX8_seek 36 = .ok (.iconst 0, 1) := by decide +kernel
theorem dX8_seek_37 : decode cX8_seek 37 = .ok (.invokevirtual 71, 3) := by decide +kernel
theorem dX8_seek_40 : decode cX8_seek 40 = .ok (.aload_n 0, 1) := by decide +kernel
theorem dX8_seek_41 : decode cX8_seek 41 = .ok (.getfield 58, 3) := by decide +kernel
theorem dX8_seek_44 : decode cX8_seek 44 = .ok (.aload_n 0, 1) := by decide +kernel
theorem dX8_seek_45 : decode cX8_seek 45 = .ok (.getfield 54, 3) := by decide +kernel
theorem dX8_seek_48 : decode cX8_seek 48 = .ok (.if_icmp .le 6, 3) := by decide +kernel
theorem dX8_seek_51 : decode cX8_seek 51 = .ok (.ldc 75, 2) := by decide +kernel
theorem dX8_seek_53 : decode cX8_seek 53 = .ok (.ireturn, 1) := by decide +kernel
theorem dX8_seek_54 : decode cX8_seek 54 = .ok (.aload_n 0, 1) := by decide +kernel
theorem dX8_seek_55 : decode cX8_seek 55 = .ok (.getfield 61, 3) := by decide +kernel
theorem dX8_seek_58 : decode cX8_seek 58 = .ok (.ifCond .eq 7, 3) := by decide +kernel
theorem dX8_seek_61 : decode cX8_seek 61 = .ok (.iconst 0, 1) := by decide +kernel
theorem dX8_seek_62 : decode cX8_seek 62 = .ok (.goto 5, 3) := by decide +kernel
theorem dX8_seek_65 : decode cX8_seek 65 = .ok (.ldc 76, 2) := by decide +kernel
theorem dX8_seek_67 : decode cX8_seek 67 = .ok (.ireturn, 1) := by decide +kernel
theorem dX8_takeRow_0 : decode cX8_takeRow 0 = .ok (.aload_n 0, 1) := by decide +kernel
theorem dX8_takeRow_1 : decode cX8_takeRow 1 = .ok (.iconst 1, 1) := by decide +kernel
theorem dX8_takeRow_2 : decode cX8_takeRow 2 = .ok (.putfield 61, 3) := by decide +kernel
theorem dX8_takeRow_5 : decode cX8_takeRow 5 = .ok (.aload_n 0, 1) := by decide +kernel
theorem dX8_takeRow_6 : decode cX8_takeRow 6 = .ok (.iload_n 1, 1) := by decide +kernel
theorem dX8_takeRow_7 : decode cX8_takeRow 7 = .ok (.putfield 65, 3) := by decide +kernel
theorem dX8_takeRow_10 : decode cX8_takeRow 10 = .ok (.aload_n 0, 1) := by decide +kernel
theorem dX8_takeRow_11 : decode cX8_takeRow 11 = .ok (.iload_n 2, 1) := by decide +kernel
theorem dX8_takeRow_12 : decode cX8_takeRow 12 = .ok (.putfield 68, 3) := by decide +kernel
theorem dX8_takeRow_15 : decode cX8_takeRow 15 = .ok (.aload_n 0, 1) := by decide +kernel
theorem dX8_takeRow_16 : decode cX8_takeRow 16 = .ok (.getfield 35, 3) := by decide +kernel
theorem dX8_takeRow_19 : decode cX8_takeRow 19 = .ok (.aload_n 0, 1) := by decide +kernel
theorem dX8_takeRow_20 : decode cX8_takeRow 20 = .ok (.getfield 38, 3) := by decide +kernel
theorem dX8_takeRow_23 : decode cX8_takeRow 23 = .ok (.invokestatic 143, 3) := by decide +kernel
theorem dX8_takeRow_26 : decode cX8_takeRow 26 = .ok (.return_, 1) := by decide +kernel
theorem dX9_hasPlaces_0 : decode cX9_hasPlaces 0 = .ok (.iload_n 2, 1) := by decide +kernel
theorem dX9_hasPlaces_1 : decode cX9_hasPlaces 1 = .ok (.ifCond .lt 33, 3) := by decide +kernel
theorem dX9_hasPlaces_4 : decode cX9_hasPlaces 4 = .ok (.iload_n 3, 1) := by decide +kernel
theorem dX9_hasPlaces_5 : decode cX9_hasPlaces 5 = .ok (.ifCond .lt 29, 3) := by decide +kernel
theorem dX9_hasPlaces_8 : decode cX9_hasPlaces 8 = .ok (.iload_n 2, 1) := by decide +kernel
theorem dX9_hasPlaces_9 : decode cX9_hasPlaces 9 = .ok (.aload_n 0, 1) := by decide +kernel
theorem dX9_hasPlaces_10 : decode cX9_hasPlaces 10 = .ok (.getfield 16, 3) := by decide +kernel
theorem dX9_hasPlaces_13 : decode cX9_hasPlaces 13 = .ok (.iload_n 1, 1) := by decide +kernel
theorem dX9_hasPlaces_14 : decode cX9_hasPlaces 14 = .ok (.iaload, 1) := by decide +kernel
theorem dX9_hasPlaces_15 : decode cX9_hasPlaces 15 = .ok (.if_icmp .gt 19, 3) := by decide +kernel
theorem dX9_hasPlaces_18 : decode cX9_hasPlaces 18 = .ok (.iload_n 3, 1) := by decide +kernel
theorem dX9_hasPlaces_19 : decode cX9_hasPlaces 19 = .ok (.aload_n 0, 1) := by decide +kernel
theorem dX9_hasPlaces_20 : decode cX9_hasPlaces 20 = .ok (.getfield 16, 3) := by decide +kernel
theorem dX9_hasPlaces_23 : decode cX9_hasPlaces 23 = .ok (.iload_n 1, 1) := by decide +kernel
theorem dX9_hasPlaces_24 : decode cX9_hasPlaces 24 = .ok (.iaload, 1) := by decide +kernel
theorem dX9_hasPlaces_25 : decode cX9_hasPlaces 25 = .ok (.iload_n 2, 1) := by decide +kernel
theorem dX9_hasPlaces_26 : decode cX9_hasPlaces 26 = .ok (.isub, 1) := by decide +kernel
theorem dX9_hasPlaces_27 : decode cX9_hasPlaces 27 = .ok (.if_icmp .gt 7, 3) := by decide +kernel
theorem dX9_hasPlaces_30 : decode cX9_hasPlaces 30 = .ok (.iconst 1, 1) := by decide +kernel
theorem dX9_hasPlaces_31 : decode cX9_hasPlaces 31 = .ok (.goto 4, 3) := by decide +kernel
theorem dX9_hasPlaces_34 : decode cX9_hasPlaces 34 = .ok (.iconst 0, 1) := by decide +kernel
theorem dX9_hasPlaces_35 : decode cX9_hasPlaces 35 = .ok (.ireturn, 1) := by decide +kernel
theorem dX9_isMissing_0 : decode cX9_isMissing 0 = .ok (.aload_n 0, 1) := by decide +kernel
theorem dX9_isMissing_1 : decode cX9_isMissing 1 = .ok (.getfield 16, 3) := by decide +kernel
theorem dX9_isMissing_4 : decode cX9_isMissing 4 = .ok (.iload_n 1, 1) := by decide +kernel
theorem dX9_isMissing_5 : decode cX9_isMissing 5 = .ok (.iaload, 1) := by decide +kernel
theorem dX9_isMissing_6 : decode cX9_isMissing 6 = .ok (.ifCond .ge 7, 3) := by decide +kernel
theorem dX9_isMissing_9 : decode cX9_isMissing 9 = .ok (.iconst 1, 1) := by decide +kernel
theorem dX9_isMissing_10 : decode cX9_isMissing 10 = .ok (.goto 4, 3) := by decide +kernel
theorem dX9_isMissing_13 : decode cX9_isMissing 13 = .ok (.iconst 0, 1) := by decide +kernel
theorem dX9_isMissing_14 : decode cX9_isMissing 14 = .ok (.ireturn, 1) := by decide +kernel
theorem dX9_isNumber_0 : decode cX9_isNumber 0 = .ok (.iload_n 1, 1) := by decide +kernel
theorem dX9_isNumber_1 : decode cX9_isNumber 1 = .ok (.ifCond .lt 16, 3) := by decide +kernel
theorem dX9_isNumber_4 : decode cX9_isNumber 4 = .ok (.iload_n 1, 1) := by decide +kernel
theorem dX9_isNumber_5 : decode cX9_isNumber 5 = .ok (.aload_n 0, 1) := by decide +kernel
theorem dX9_isNumber_6 : decode cX9_isNumber 6 = .ok (.getfield 16, 3) := by decide +kernel
theorem dX9_isNumber_9 : decode cX9_isNumber 9 = .ok (.arraylength, 1) := by decide +kernel
theorem dX9_isNumber_10 : decode cX9_isNumber 10 = .ok (.if_icmp .ge 7, 3) := by decide +kernel
theorem dX9_isNumber_13 : decode cX9_isNumber 13 = .ok (.iconst 1, 1) := by decide +kernel
theorem dX9_isNumber_14 : decode cX9_isNumber 14 = .ok (.goto 4, 3) := by decide +kernel
theorem dX9_isNumber_17 : decode cX9_isNumber 17 = .ok (.iconst 0, 1) := by decide +kernel
theorem dX9_isNumber_18 : decode cX9_isNumber 18 = .ok (.ireturn, 1) := by decide +kernel
