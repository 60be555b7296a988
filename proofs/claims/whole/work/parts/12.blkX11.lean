theorem bX11_part_0_0 {g : GG} {d n0 nf : Nat} {post : Option Value → LX → Prop} {n : Nat} {X : LX} (hn : 146 ≤ n) (hX : Sh n X) {v1 : Int32} {v2 : Int32} {v3 : Int32} (k : Ev g mX11_part d n0 nf post n 26 [some (.ref 0), some (.int v1), some (.int v2), some (.int v3), some (.int (v2 / 100)), some (.int ((v2 / 10) - (v2 / 10) / 10 * 10)), some (.int (v2 - v2 / 10 * 10)), none, none] [.int 255, .int 0, .int v1] X) : Ev g mX11_part d n0 nf post n 0 [some (.ref 0), some (.int v1), some (.int v2), some (.int v3), none, none, none, none, none] [] X := by
  refine ev_iload_n dX11_part_0 rfl ?_
  refine ev_bipush (v := 100) dX11_part_1 kb_100 ?_
  refine ev_idiv dX11_part_3 (by decide) ?_
  refine ev_istore dX11_part_4 (by decide) ?_
  refine ev_iload_n dX11_part_6 rfl ?_
  refine ev_bipush (v := 10) dX11_part_7 kb_10 ?_
  refine ev_idiv dX11_part_9 (by decide) ?_
  refine ev_bipush (v := 10) dX11_part_10 kb_10 ?_
  refine ev_irem dX11_part_12 (by decide) ?_
  refine ev_istore dX11_part_13 (by decide) ?_
  refine ev_iload_n dX11_part_15 rfl ?_
  refine ev_bipush (v := 10) dX11_part_16 kb_10 ?_
  refine ev_irem dX11_part_18 (by decide) ?_
  refine ev_istore dX11_part_19 (by decide) ?_
  refine ev_iload_n dX11_part_21 rfl ?_
  refine ev_iconst (v := 0) dX11_part_22 ki_0 ?_
  refine ev_sipush (v := 255) dX11_part_23 ks_255 ?_
  exact k
theorem bX11_part_29_0 {g : GG} {d n0 nf : Nat} {post : Option Value → LX → Prop} {n : Nat} {X : LX} (hn : 146 ≤ n) (hX : Sh n X) {v1 : Int32} {v2 : Int32} {v3 : Int32} {v4 : Int32} {v5 : Int32} {v6 : Int32} {s0 : Int32} (c0 : ¬ s0 = 0) (k : Ev g mX11_part d n0 nf post n 36 [some (.ref 0), some (.int v1), some (.int v2), some (.int v3), some (.int v4), some (.int v5), some (.int v6), none, none] [.int 20, .int 1, .int v3] X) : Ev g mX11_part d n0 nf post n 29 [some (.ref 0), some (.int v1), some (.int v2), some (.int v3), some (.int v4), some (.int v5), some (.int v6), none, none] [.int s0] X := by
  refine ev_ifF (tgt := 42) dX11_part_29 (by decide) c0 ?_
  refine ev_iload_n dX11_part_32 rfl ?_
  refine ev_iconst (v := 1) dX11_part_33 ki_1 ?_
  refine ev_bipush (v := 20) dX11_part_34 kb_20 ?_
  exact k
theorem bX11_part_29_1 {g : GG} {d n0 nf : Nat} {post : Option Value → LX → Prop} {n : Nat} {X : LX} (hn : 146 ≤ nf) (hX : Sh nf X) {v1 : Int32} {v2 : Int32} {v3 : Int32} {v4 : Int32} {v5 : Int32} {v6 : Int32} {s0 : Int32} (c0 : s0 = 0) (hp : post (some (.int (-1000000001))) X) : Ev g mX11_part d n0 nf post nf 29 [some (.ref 0), some (.int v1), some (.int v2), some (.int v3), some (.int v4), some (.int v5), some (.int v6), none, none] [.int s0] X := by
  refine ev_ifT (tgt := 42) dX11_part_29 (by decide) c0 ?_
  refine ev_ldc (v := (-1000000001)) dX11_part_42 kw_11_61 ?_
  exact ev_iret dX11_part_44 rfl rfl hp
theorem bX11_part_39_0 {g : GG} {d n0 nf : Nat} {post : Option Value → LX → Prop} {n : Nat} {X : LX} (hn : 146 ≤ nf) (hX : Sh nf X) {v1 : Int32} {v2 : Int32} {v3 : Int32} {v4 : Int32} {v5 : Int32} {v6 : Int32} {s0 : Int32} (c0 : s0 = 0) (hp : post (some (.int (-1000000001))) X) : Ev g mX11_part d n0 nf post nf 39 [some (.ref 0), some (.int v1), some (.int v2), some (.int v3), some (.int v4), some (.int v5), some (.int v6), none, none] [.int s0] X := by
  refine ev_ifF (tgt := 45) dX11_part_39 (by decide) c0 ?_
  refine ev_ldc (v := (-1000000001)) dX11_part_42 kw_11_61 ?_
  exact ev_iret dX11_part_44 rfl rfl hp
theorem bX11_part_39_1 {g : GG} {d n0 nf : Nat} {post : Option Value → LX → Prop} {n : Nat} {X : LX} (hn : 146 ≤ n) (hX : Sh n X) {v1 : Int32} {v2 : Int32} {v3 : Int32} {v4 : Int32} {v5 : Int32} {v6 : Int32} {s0 : Int32} (c0 : ¬ s0 = 0) (c1 : ¬ v2 < 0) (k : Ev g mX11_part d n0 nf post n 55 [some (.ref 0), some (.int v1), some (.int v2), some (.int v3), some (.int v4), some (.int v5), some (.int v6), none, none] [.int 999, .int 1, .int v4] X) : Ev g mX11_part d n0 nf post n 39 [some (.ref 0), some (.int v1), some (.int v2), some (.int v3), some (.int v4), some (.int v5), some (.int v6), none, none] [.int s0] X := by
  refine ev_ifT (tgt := 45) dX11_part_39 (by decide) c0 ?_
  refine ev_iload_n dX11_part_45 rfl ?_
  refine ev_ifF (tgt := 74) dX11_part_46 (by decide) c1 ?_
  refine ev_iload dX11_part_49 rfl ?_
  refine ev_iconst (v := 1) dX11_part_51 ki_1 ?_
  refine ev_sipush (v := 999) dX11_part_52 ks_999 ?_
  exact k
theorem bX11_part_39_2 {g : GG} {d n0 nf : Nat} {post : Option Value → LX → Prop} {n : Nat} {X : LX} (hn : 146 ≤ nf) (hX : Sh nf X) {v1 : Int32} {v2 : Int32} {v3 : Int32} {v4 : Int32} {v5 : Int32} {v6 : Int32} {s0 : Int32} (c0 : ¬ s0 = 0) (c1 : v2 < 0) (hp : post (some (.int (-1000000001))) X) : Ev g mX11_part d n0 nf post nf 39 [some (.ref 0), some (.int v1), some (.int v2), some (.int v3), some (.int v4), some (.int v5), some (.int v6), none, none] [.int s0] X := by
  refine ev_ifT (tgt := 45) dX11_part_39 (by decide) c0 ?_
  refine ev_iload_n dX11_part_45 rfl ?_
  refine ev_ifT (tgt := 74) dX11_part_46 (by decide) c1 ?_
  refine ev_ldc (v := (-1000000001)) dX11_part_74 kw_11_61 ?_
  exact ev_iret dX11_part_76 rfl rfl hp
theorem bX11_part_58_0 {g : GG} {d n0 nf : Nat} {post : Option Value → LX → Prop} {n : Nat} {X : LX} (hn : 146 ≤ nf) (hX : Sh nf X) {v1 : Int32} {v2 : Int32} {v3 : Int32} {v4 : Int32} {v5 : Int32} {v6 : Int32} {s0 : Int32} (c0 : ¬ s0 = 0) (c1 : ¬ 4 ≤ v5) (c2 : ¬ v6 < 6) (hp : post (some (.int (-1000000001))) X) : Ev g mX11_part d n0 nf post nf 58 [some (.ref 0), some (.int v1), some (.int v2), some (.int v3), some (.int v4), some (.int v5), some (.int v6), none, none] [.int s0] X := by
  refine ev_ifF (tgt := 74) dX11_part_58 (by decide) c0 ?_
  refine ev_iload dX11_part_61 rfl ?_
  refine ev_iconst (v := 4) dX11_part_63 ki_4 ?_
  refine ev_icmpF (tgt := 74) dX11_part_64 (by decide) c1 ?_
  refine ev_iload dX11_part_67 rfl ?_
  refine ev_bipush (v := 6) dX11_part_69 kb_6 ?_
  refine ev_icmpF (tgt := 77) dX11_part_71 (by decide) c2 ?_
  refine ev_ldc (v := (-1000000001)) dX11_part_74 kw_11_61 ?_
  exact ev_iret dX11_part_76 rfl rfl hp
theorem bX11_part_58_1 {g : GG} {d n0 nf : Nat} {post : Option Value → LX → Prop} {n : Nat} {X : LX} (hn : 146 ≤ nf) (hX : Sh nf X) {v1 : Int32} {v2 : Int32} {v3 : Int32} {v4 : Int32} {v5 : Int32} {v6 : Int32} {s0 : Int32} (c0 : ¬ s0 = 0) (c1 : ¬ 4 ≤ v5) (c2 : v6 < 6) (c3 : ¬ X 2 0 < 14) (hp : post (some (.int (-1000000003))) X) : Ev g mX11_part d n0 nf post nf 58 [some (.ref 0), some (.int v1), some (.int v2), some (.int v3), some (.int v4), some (.int v5), some (.int v6), none, none] [.int s0] X := by
  refine ev_ifF (tgt := 74) dX11_part_58 (by decide) c0 ?_
  refine ev_iload dX11_part_61 rfl ?_
  refine ev_iconst (v := 4) dX11_part_63 ki_4 ?_
  refine ev_icmpF (tgt := 74) dX11_part_64 (by decide) c1 ?_
  refine ev_iload dX11_part_67 rfl ?_
  refine ev_bipush (v := 6) dX11_part_69 kb_6 ?_
  refine ev_icmpT (tgt := 77) dX11_part_71 (by decide) c2 ?_
  refine ev_aload_n dX11_part_77 rfl ?_
  refine ev_getS (q := 1) dX11_part_78 fo_11_10 (by omega) lo_0 rfl (sh_0_0 hX (by omega)) (by decide) ?_
  refine ev_getS (q := 2) dX11_part_81 fo_11_62 (by omega) lo_1 rfl (sh_1_0 hX (by omega)) (by decide) ?_
  refine ev_astore dX11_part_84 (by decide) ?_
  refine ev_aload dX11_part_86 rfl ?_
  refine ev_getI dX11_part_88 fo_11_66 (by omega) lo_2 rfl ?_
  refine ev_bipush (v := 14) dX11_part_91 kb_14 ?_
  refine ev_icmpF (tgt := 99) dX11_part_93 (by decide) c3 ?_
  refine ev_ldc (v := (-1000000003)) dX11_part_96 kw_11_72 ?_
  exact ev_iret dX11_part_98 rfl rfl hp
theorem bX11_part_58_2 {g : GG} {d n0 nf : Nat} {post : Option Value → LX → Prop} {n : Nat} {X : LX} (hn : 146 ≤ nf) (hX : Sh nf X) {v1 : Int32} {v2 : Int32} {v3 : Int32} {v4 : Int32} {v5 : Int32} {v6 : Int32} {s0 : Int32} {j1 : Nat} {j2 : Nat} {j3 : Nat} {j4 : Nat} {j5 : Nat} (c0 : ¬ s0 = 0) (c1 : ¬ 4 ≤ v5) (c2 : v6 < 6) (c3 : X 2 0 < 14) (hj1 : X 2 0 = nI j1) (b0 : j1 < 14) (hj2 : X 2 0 = nI j2) (b1 : j2 < 14) (hj3 : X 2 0 = nI j3) (b2 : j3 < 14) (hj4 : X 2 0 = nI j4) (b3 : j4 < 14) (hj5 : X 2 0 = nI j5) (b4 : j5 < 14) (hp : post (some (.int (X 2 0))) (lx_up (lx_up (lx_up (lx_up (lx_up (lx_up X 2 0 ((X 2 0) + 1)) 3 j1 v1) 5 j2 v4) 6 j3 v5) 4 j4 v6) 7 j5 v3)) : Ev g mX11_part d n0 nf post nf 58 [some (.ref 0), some (.int v1), some (.int v2), some (.int v3), some (.int v4), some (.int v5), some (.int v6), none, none] [.int s0] X := by
  refine ev_ifF (tgt := 74) dX11_part_58 (by decide) c0 ?_
  refine ev_iload dX11_part_61 rfl ?_
  refine ev_iconst (v := 4) dX11_part_63 ki_4 ?_
  refine ev_icmpF (tgt := 74) dX11_part_64 (by decide) c1 ?_
  refine ev_iload dX11_part_67 rfl ?_
  refine ev_bipush (v := 6) dX11_part_69 kb_6 ?_
  refine ev_icmpT (tgt := 77) dX11_part_71 (by decide) c2 ?_
  refine ev_aload_n dX11_part_77 rfl ?_
  refine ev_getS (q := 1) dX11_part_78 fo_11_10 (by omega) lo_0 rfl (sh_0_0 hX (by omega)) (by decide) ?_
  refine ev_getS (q := 2) dX11_part_81 fo_11_62 (by omega) lo_1 rfl (sh_1_0 hX (by omega)) (by decide) ?_
  refine ev_astore dX11_part_84 (by decide) ?_
  refine ev_aload dX11_part_86 rfl ?_
  refine ev_getI dX11_part_88 fo_11_66 (by omega) lo_2 rfl ?_
  refine ev_bipush (v := 14) dX11_part_91 kb_14 ?_
  refine ev_icmpT (tgt := 99) dX11_part_93 (by decide) c3 ?_
  refine ev_aload dX11_part_99 rfl ?_
  refine ev_dup dX11_part_101 rfl ?_
  refine ev_getI dX11_part_102 fo_11_66 (by omega) lo_2 rfl ?_
  refine ev_dup_x1 dX11_part_105 rfl rfl ?_
  refine ev_iconst (v := 1) dX11_part_106 ki_1 ?_
  refine ev_iadd dX11_part_107 ?_
  refine ev_putI dX11_part_108 fo_11_66 (by omega) lo_2 rfl rfl rfl ?_
  have hX1 : Sh _ (lx_up X 2 0 ((X 2 0) + 1)) := Sh.upF hX (by rw [lo_2]; decide) (by decide)
  refine ev_istore dX11_part_111 (by decide) ?_
  refine ev_aload dX11_part_113 rfl ?_
  refine ev_getS (q := 3) dX11_part_115 fo_11_73 (by omega) lo_2 rfl (sh_2_1 hX1 (by omega)) (by decide) ?_
  refine ev_iload dX11_part_118 rfl ?_
  refine ev_iload_n dX11_part_120 rfl ?_
  refine ev_iast dX11_part_121 (by omega) ly_3 hj1 b0 ?_
  have hX2 : Sh _ (lx_up (lx_up X 2 0 ((X 2 0) + 1)) 3 j1 v1) := Sh.upA hX1 (by rw [ly_3]; exact (by decide : 0 < 2))
  refine ev_aload dX11_part_122 rfl ?_
  refine ev_getS (q := 5) dX11_part_124 fo_11_76 (by omega) lo_2 rfl (sh_2_3 hX2 (by omega)) (by decide) ?_
  refine ev_iload dX11_part_127 rfl ?_
  refine ev_iload dX11_part_129 rfl ?_
  refine ev_iast dX11_part_131 (by omega) ly_5 hj2 b1 ?_
  have hX3 : Sh _ (lx_up (lx_up (lx_up X 2 0 ((X 2 0) + 1)) 3 j1 v1) 5 j2 v4) := Sh.upA hX2 (by rw [ly_5]; exact (by decide : 0 < 2))
  refine ev_aload dX11_part_132 rfl ?_
  refine ev_getS (q := 6) dX11_part_134 fo_11_79 (by omega) lo_2 rfl (sh_2_4 hX3 (by omega)) (by decide) ?_
  refine ev_iload dX11_part_137 rfl ?_
  refine ev_iload dX11_part_139 rfl ?_
  refine ev_iast dX11_part_141 (by omega) ly_6 hj3 b2 ?_
  have hX4 : Sh _ (lx_up (lx_up (lx_up (lx_up X 2 0 ((X 2 0) + 1)) 3 j1 v1) 5 j2 v4) 6 j3 v5) := Sh.upA hX3 (by rw [ly_6]; exact (by decide : 0 < 2))
  refine ev_aload dX11_part_142 rfl ?_
  refine ev_getS (q := 4) dX11_part_144 fo_11_82 (by omega) lo_2 rfl (sh_2_2 hX4 (by omega)) (by decide) ?_
  refine ev_iload dX11_part_147 rfl ?_
  refine ev_iload dX11_part_149 rfl ?_
  refine ev_iast dX11_part_151 (by omega) ly_4 hj4 b3 ?_
  have hX5 : Sh _ (lx_up (lx_up (lx_up (lx_up (lx_up X 2 0 ((X 2 0) + 1)) 3 j1 v1) 5 j2 v4) 6 j3 v5) 4 j4 v6) := Sh.upA hX4 (by rw [ly_4]; exact (by decide : 0 < 2))
  refine ev_aload dX11_part_152 rfl ?_
  refine ev_getS (q := 7) dX11_part_154 fo_11_85 (by omega) lo_2 rfl (sh_2_5 hX5 (by omega)) (by decide) ?_
  refine ev_iload dX11_part_157 rfl ?_
  refine ev_iload_n dX11_part_159 rfl ?_
  refine ev_iast dX11_part_160 (by omega) ly_7 hj5 b4 ?_
  have hX6 : Sh _ (lx_up (lx_up (lx_up (lx_up (lx_up (lx_up X 2 0 ((X 2 0) + 1)) 3 j1 v1) 5 j2 v4) 6 j3 v5) 4 j4 v6) 7 j5 v3) := Sh.upA hX5 (by rw [ly_7]; exact (by decide : 0 < 2))
  refine ev_iload dX11_part_161 rfl ?_
  exact ev_iret dX11_part_163 rfl rfl hp
theorem bX11_part_58_3 {g : GG} {d n0 nf : Nat} {post : Option Value → LX → Prop} {n : Nat} {X : LX} (hn : 146 ≤ nf) (hX : Sh nf X) {v1 : Int32} {v2 : Int32} {v3 : Int32} {v4 : Int32} {v5 : Int32} {v6 : Int32} {s0 : Int32} (c0 : ¬ s0 = 0) (c1 : 4 ≤ v5) (hp : post (some (.int (-1000000001))) X) : Ev g mX11_part d n0 nf post nf 58 [some (.ref 0), some (.int v1), some (.int v2), some (.int v3), some (.int v4), some (.int v5), some (.int v6), none, none] [.int s0] X := by
  refine ev_ifF (tgt := 74) dX11_part_58 (by decide) c0 ?_
  refine ev_iload dX11_part_61 rfl ?_
  refine ev_iconst (v := 4) dX11_part_63 ki_4 ?_
  refine ev_icmpT (tgt := 74) dX11_part_64 (by decide) c1 ?_
  refine ev_ldc (v := (-1000000001)) dX11_part_74 kw_11_61 ?_
  exact ev_iret dX11_part_76 rfl rfl hp
theorem bX11_part_58_4 {g : GG} {d n0 nf : Nat} {post : Option Value → LX → Prop} {n : Nat} {X : LX} (hn : 146 ≤ nf) (hX : Sh nf X) {v1 : Int32} {v2 : Int32} {v3 : Int32} {v4 : Int32} {v5 : Int32} {v6 : Int32} {s0 : Int32} (c0 : s0 = 0) (hp : post (some (.int (-1000000001))) X) : Ev g mX11_part d n0 nf post nf 58 [some (.ref 0), some (.int v1), some (.int v2), some (.int v3), some (.int v4), some (.int v5), some (.int v6), none, none] [.int s0] X := by
  refine ev_ifT (tgt := 74) dX11_part_58 (by decide) c0 ?_
  refine ev_ldc (v := (-1000000001)) dX11_part_74 kw_11_61 ?_
  exact ev_iret dX11_part_76 rfl rfl hp
theorem bX11_unlike_0_0 {g : GG} {d n0 nf : Nat} {post : Option Value → LX → Prop} {n : Nat} {X : LX} (hn : 146 ≤ n) (hX : Sh n X) {v1 : Int32} {v2 : Int32} {v3 : Int32} (k : Ev g mX11_unlike d n0 nf post n 12 [some (.ref 0), some (.int v1), some (.int v2), some (.int v3), some (.ref 2), none] [.int v1, .ref 2] X) : Ev g mX11_unlike d n0 nf post n 0 [some (.ref 0), some (.int v1), some (.int v2), some (.int v3), none, none] [] X := by
  refine ev_aload_n dX11_unlike_0 rfl ?_
  refine ev_getS (q := 1) dX11_unlike_1 fo_11_10 (by omega) lo_0 rfl (sh_0_0 hX (by omega)) (by decide) ?_
  refine ev_getS (q := 2) dX11_unlike_4 fo_11_62 (by omega) lo_1 rfl (sh_1_0 hX (by omega)) (by decide) ?_
  refine ev_astore dX11_unlike_7 (by decide) ?_
  refine ev_aload dX11_unlike_9 rfl ?_
  refine ev_iload_n dX11_unlike_11 rfl ?_
  exact k
theorem bX11_unlike_15_0 {g : GG} {d n0 nf : Nat} {post : Option Value → LX → Prop} {n : Nat} {X : LX} (hn : 146 ≤ n) (hX : Sh n X) {v1 : Int32} {v2 : Int32} {v3 : Int32} {s0 : Int32} (c0 : ¬ s0 = 0) (k : Ev g mX11_unlike d n0 nf post n 21 [some (.ref 0), some (.int v1), some (.int v2), some (.int v3), some (.ref 2), none] [.int v2, .ref 2] X) : Ev g mX11_unlike d n0 nf post n 15 [some (.ref 0), some (.int v1), some (.int v2), some (.int v3), some (.ref 2), none] [.int s0] X := by
  refine ev_ifF (tgt := 42) dX11_unlike_15 (by decide) c0 ?_
  refine ev_aload dX11_unlike_18 rfl ?_
  refine ev_iload_n dX11_unlike_20 rfl ?_
  exact k
theorem bX11_unlike_15_1 {g : GG} {d n0 nf : Nat} {post : Option Value → LX → Prop} {n : Nat} {X : LX} (hn : 146 ≤ nf) (hX : Sh nf X) {v1 : Int32} {v2 : Int32} {v3 : Int32} {s0 : Int32} (c0 : s0 = 0) (hp : post (some (.int (-1000000001))) X) : Ev g mX11_unlike d n0 nf post nf 15 [some (.ref 0), some (.int v1), some (.int v2), some (.int v3), some (.ref 2), none] [.int s0] X := by
  refine ev_ifT (tgt := 42) dX11_unlike_15 (by decide) c0 ?_
  refine ev_ldc (v := (-1000000001)) dX11_unlike_42 kw_11_61 ?_
  exact ev_iret dX11_unlike_44 rfl rfl hp
theorem bX11_unlike_24_0 {g : GG} {d n0 nf : Nat} {post : Option Value → LX → Prop} {n : Nat} {X : LX} (hn : 146 ≤ n) (hX : Sh n X) {v1 : Int32} {v2 : Int32} {v3 : Int32} {s0 : Int32} (c0 : ¬ s0 = 0) (c1 : ¬ v1 = v2) (k : Ev g mX11_unlike d n0 nf post n 36 [some (.ref 0), some (.int v1), some (.int v2), some (.int v3), some (.ref 2), none] [.int 99, .int 1, .int v3] X) : Ev g mX11_unlike d n0 nf post n 24 [some (.ref 0), some (.int v1), some (.int v2), some (.int v3), some (.ref 2), none] [.int s0] X := by
  refine ev_ifF (tgt := 42) dX11_unlike_24 (by decide) c0 ?_
  refine ev_iload_n dX11_unlike_27 rfl ?_
  refine ev_iload_n dX11_unlike_28 rfl ?_
  refine ev_icmpF (tgt := 42) dX11_unlike_29 (by decide) c1 ?_
  refine ev_iload_n dX11_unlike_32 rfl ?_
  refine ev_iconst (v := 1) dX11_unlike_33 ki_1 ?_
  refine ev_bipush (v := 99) dX11_unlike_34 kb_99 ?_
  exact k
theorem bX11_unlike_24_1 {g : GG} {d n0 nf : Nat} {post : Option Value → LX → Prop} {n : Nat} {X : LX} (hn : 146 ≤ nf) (hX : Sh nf X) {v1 : Int32} {v2 : Int32} {v3 : Int32} {s0 : Int32} (c0 : ¬ s0 = 0) (c1 : v1 = v2) (hp : post (some (.int (-1000000001))) X) : Ev g mX11_unlike d n0 nf post nf 24 [some (.ref 0), some (.int v1), some (.int v2), some (.int v3), some (.ref 2), none] [.int s0] X := by
  refine ev_ifF (tgt := 42) dX11_unlike_24 (by decide) c0 ?_
  refine ev_iload_n dX11_unlike_27 rfl ?_
  refine ev_iload_n dX11_unlike_28 rfl ?_
  refine ev_icmpT (tgt := 42) dX11_unlike_29 (by decide) c1 ?_
  refine ev_ldc (v := (-1000000001)) dX11_unlike_42 kw_11_61 ?_
  exact ev_iret dX11_unlike_44 rfl rfl hp
theorem bX11_unlike_24_2 {g : GG} {d n0 nf : Nat} {post : Option Value → LX → Prop} {n : Nat} {X : LX} (hn : 146 ≤ nf) (hX : Sh nf X) {v1 : Int32} {v2 : Int32} {v3 : Int32} {s0 : Int32} (c0 : s0 = 0) (hp : post (some (.int (-1000000001))) X) : Ev g mX11_unlike d n0 nf post nf 24 [some (.ref 0), some (.int v1), some (.int v2), some (.int v3), some (.ref 2), none] [.int s0] X := by
  refine ev_ifT (tgt := 42) dX11_unlike_24 (by decide) c0 ?_
  refine ev_ldc (v := (-1000000001)) dX11_unlike_42 kw_11_61 ?_
  exact ev_iret dX11_unlike_44 rfl rfl hp
theorem bX11_unlike_39_0 {g : GG} {d n0 nf : Nat} {post : Option Value → LX → Prop} {n : Nat} {X : LX} (hn : 146 ≤ nf) (hX : Sh nf X) {v1 : Nat} {v2 : Nat} {v3 : Int32} {s0 : Int32} (c0 : s0 = 0) (hp : post (some (.int (-1000000001))) X) : Ev g mX11_unlike d n0 nf post nf 39 [some (.ref 0), some (.int (nI v1)), some (.int (nI v2)), some (.int v3), some (.ref 2), none] [.int s0] X := by
  refine ev_ifF (tgt := 45) dX11_unlike_39 (by decide) c0 ?_
  refine ev_ldc (v := (-1000000001)) dX11_unlike_42 kw_11_61 ?_
  exact ev_iret dX11_unlike_44 rfl rfl hp
theorem bX11_unlike_39_1 {g : GG} {d n0 nf : Nat} {post : Option Value → LX → Prop} {n : Nat} {X : LX} (hn : 146 ≤ nf) (hX : Sh nf X) {v1 : Nat} {v2 : Nat} {v3 : Int32} {s0 : Int32} (c0 : ¬ s0 = 0) (b0 : v1 < 14) (b1 : v2 < 14) (b2 : v1 < 14) (b3 : v2 < 14) (b4 : v2 < 14) (b5 : v1 < 14) (hp : post (some (.int (X (8 + 1 + v1) v2))) (lx_up (lx_up X (8 + 1 + v1) v2 v3) (8 + 1 + v2) v1 v3)) : Ev g mX11_unlike d n0 nf post nf 39 [some (.ref 0), some (.int (nI v1)), some (.int (nI v2)), some (.int v3), some (.ref 2), none] [.int s0] X := by
  refine ev_ifT (tgt := 45) dX11_unlike_39 (by decide) c0 ?_
  refine ev_aload dX11_unlike_45 rfl ?_
  refine ev_getS (q := 8) dX11_unlike_47 fo_11_92 (by omega) lo_2 rfl (sh_2_6 hX (by omega)) (by decide) ?_
  refine ev_iload_n dX11_unlike_50 rfl ?_
  refine ev_aald (q := 8 + 1 + v1) dX11_unlike_51 (by omega) (Or.inl ly_8) rfl b0 (hX.2 8 v1 (by omega) (Or.inl (by rw [ly_8])) (by rw [ly_8]; exact b0)) (by first | omega | (have := LY_l ly_8; have := LY_lt (show (LY 8).1 < 99 by rw [ly_8]; exact (by decide : 2 < 99)); omega)) ?_
  refine ev_iload_n dX11_unlike_52 rfl ?_
  refine ev_iald dX11_unlike_53 (by have := b0; omega) (lyr_8 _ b0) rfl b1 ?_
  refine ev_istore dX11_unlike_54 (by decide) ?_
  refine ev_aload dX11_unlike_56 rfl ?_
  refine ev_getS (q := 8) dX11_unlike_58 fo_11_92 (by omega) lo_2 rfl (sh_2_6 hX (by omega)) (by decide) ?_
  refine ev_iload_n dX11_unlike_61 rfl ?_
  refine ev_aald (q := 8 + 1 + v1) dX11_unlike_62 (by omega) (Or.inl ly_8) rfl b2 (hX.2 8 v1 (by omega) (Or.inl (by rw [ly_8])) (by rw [ly_8]; exact b2)) (by first | omega | (have := LY_l ly_8; have := LY_lt (show (LY 8).1 < 99 by rw [ly_8]; exact (by decide : 2 < 99)); omega)) ?_
  refine ev_iload_n dX11_unlike_63 rfl ?_
  refine ev_iload_n dX11_unlike_64 rfl ?_
  refine ev_iast dX11_unlike_65 (by have := b2; omega) (lyr_8 _ b2) rfl b3 ?_
  have hX1 : Sh _ (lx_up X (8 + 1 + v1) v2 v3) := Sh.upA hX (by rw [(lyr_8 _ b2)]; exact (by decide : 0 < 2))
  refine ev_aload dX11_unlike_66 rfl ?_
  refine ev_getS (q := 8) dX11_unlike_68 fo_11_92 (by omega) lo_2 rfl (sh_2_6 hX1 (by omega)) (by decide) ?_
  refine ev_iload_n dX11_unlike_71 rfl ?_
  refine ev_aald (q := 8 + 1 + v2) dX11_unlike_72 (by omega) (Or.inl ly_8) rfl b4 (hX1.2 8 v2 (by omega) (Or.inl (by rw [ly_8])) (by rw [ly_8]; exact b4)) (by first | omega | (have := LY_l ly_8; have := LY_lt (show (LY 8).1 < 99 by rw [ly_8]; exact (by decide : 2 < 99)); omega)) ?_
  refine ev_iload_n dX11_unlike_73 rfl ?_
  refine ev_iload_n dX11_unlike_74 rfl ?_
  refine ev_iast dX11_unlike_75 (by have := b4; omega) (lyr_8 _ b4) rfl b5 ?_
  have hX2 : Sh _ (lx_up (lx_up X (8 + 1 + v1) v2 v3) (8 + 1 + v2) v1 v3) := Sh.upA hX1 (by rw [(lyr_8 _ b4)]; exact (by decide : 0 < 2))
  refine ev_iload dX11_unlike_76 rfl ?_
  exact ev_iret dX11_unlike_78 rfl rfl hp
theorem bX11_meal_0_0 {g : GG} {d n0 nf : Nat} {post : Option Value → LX → Prop} {n : Nat} {X : LX} (hn : 146 ≤ n) (hX : Sh n X) {v1 : Int32} {v2 : Int32} (k : Ev g mX11_meal d n0 nf post n 3 [some (.ref 0), some (.int v1), some (.int v2), none, none] [.int 3, .int 0, .int v1] X) : Ev g mX11_meal d n0 nf post n 0 [some (.ref 0), some (.int v1), some (.int v2), none, none] [] X := by
  refine ev_iload_n dX11_meal_0 rfl ?_
  refine ev_iconst (v := 0) dX11_meal_1 ki_0 ?_
  refine ev_iconst (v := 3) dX11_meal_2 ki_3 ?_
  exact k
theorem bX11_meal_6_0 {g : GG} {d n0 nf : Nat} {post : Option Value → LX → Prop} {n : Nat} {X : LX} (hn : 146 ≤ n) (hX : Sh n X) {v1 : Int32} {v2 : Int32} {s0 : Int32} (c0 : ¬ s0 = 0) (k : Ev g mX11_meal d n0 nf post n 13 [some (.ref 0), some (.int v1), some (.int v2), none, none] [.int 15, .int 0, .int v2] X) : Ev g mX11_meal d n0 nf post n 6 [some (.ref 0), some (.int v1), some (.int v2), none, none] [.int s0] X := by
  refine ev_ifF (tgt := 19) dX11_meal_6 (by decide) c0 ?_
  refine ev_iload_n dX11_meal_9 rfl ?_
  refine ev_iconst (v := 0) dX11_meal_10 ki_0 ?_
  refine ev_bipush (v := 15) dX11_meal_11 kb_15 ?_
  exact k
theorem bX11_meal_6_1 {g : GG} {d n0 nf : Nat} {post : Option Value → LX → Prop} {n : Nat} {X : LX} (hn : 146 ≤ nf) (hX : Sh nf X) {v1 : Int32} {v2 : Int32} {s0 : Int32} (c0 : s0 = 0) (hp : post (some (.int (-1000000001))) X) : Ev g mX11_meal d n0 nf post nf 6 [some (.ref 0), some (.int v1), some (.int v2), none, none] [.int s0] X := by
  refine ev_ifT (tgt := 19) dX11_meal_6 (by decide) c0 ?_
  refine ev_ldc (v := (-1000000001)) dX11_meal_19 kw_11_61 ?_
  exact ev_iret dX11_meal_21 rfl rfl hp
theorem bX11_meal_16_0 {g : GG} {d n0 nf : Nat} {post : Option Value → LX → Prop} {n : Nat} {X : LX} (hn : 146 ≤ nf) (hX : Sh nf X) {v1 : Int32} {v2 : Int32} {s0 : Int32} (c0 : s0 = 0) (hp : post (some (.int (-1000000001))) X) : Ev g mX11_meal d n0 nf post nf 16 [some (.ref 0), some (.int v1), some (.int v2), none, none] [.int s0] X := by
  refine ev_ifF (tgt := 22) dX11_meal_16 (by decide) c0 ?_
  refine ev_ldc (v := (-1000000001)) dX11_meal_19 kw_11_61 ?_
  exact ev_iret dX11_meal_21 rfl rfl hp
theorem bX11_meal_16_1 {g : GG} {d n0 nf : Nat} {post : Option Value → LX → Prop} {n : Nat} {X : LX} (hn : 146 ≤ nf) (hX : Sh nf X) {v1 : Int32} {v2 : Int32} {s0 : Int32} (c0 : ¬ s0 = 0) (c1 : ¬ X 23 0 < 10) (hp : post (some (.int (-1000000003))) X) : Ev g mX11_meal d n0 nf post nf 16 [some (.ref 0), some (.int v1), some (.int v2), none, none] [.int s0] X := by
  refine ev_ifT (tgt := 22) dX11_meal_16 (by decide) c0 ?_
  refine ev_aload_n dX11_meal_22 rfl ?_
  refine ev_getS (q := 1) dX11_meal_23 fo_11_10 (by omega) lo_0 rfl (sh_0_0 hX (by omega)) (by decide) ?_
  refine ev_getS (q := 23) dX11_meal_26 fo_11_96 (by omega) lo_1 rfl (sh_1_1 hX (by omega)) (by decide) ?_
  refine ev_astore_n dX11_meal_29 (by decide) ?_
  refine ev_aload_n dX11_meal_30 rfl ?_
  refine ev_getI dX11_meal_31 fo_11_100 (by omega) lo_23 rfl ?_
  refine ev_bipush (v := 10) dX11_meal_34 kb_10 ?_
  refine ev_icmpF (tgt := 42) dX11_meal_36 (by decide) c1 ?_
  refine ev_ldc (v := (-1000000003)) dX11_meal_39 kw_11_72 ?_
  exact ev_iret dX11_meal_41 rfl rfl hp
theorem bX11_meal_16_2 {g : GG} {d n0 nf : Nat} {post : Option Value → LX → Prop} {n : Nat} {X : LX} (hn : 146 ≤ nf) (hX : Sh nf X) {v1 : Int32} {v2 : Int32} {s0 : Int32} {j1 : Nat} {j2 : Nat} (c0 : ¬ s0 = 0) (c1 : X 23 0 < 10) (hj1 : X 23 0 = nI j1) (b0 : j1 < 10) (hj2 : X 23 0 = nI j2) (b1 : j2 < 10) (hp : post (some (.int (X 23 0))) (lx_up (lx_up (lx_up X 23 0 ((X 23 0) + 1)) 24 j1 v1) 25 j2 v2)) : Ev g mX11_meal d n0 nf post nf 16 [some (.ref 0), some (.int v1), some (.int v2), none, none] [.int s0] X := by
  refine ev_ifT (tgt := 22) dX11_meal_16 (by decide) c0 ?_
  refine ev_aload_n dX11_meal_22 rfl ?_
  refine ev_getS (q := 1) dX11_meal_23 fo_11_10 (by omega) lo_0 rfl (sh_0_0 hX (by omega)) (by decide) ?_
  refine ev_getS (q := 23) dX11_meal_26 fo_11_96 (by omega) lo_1 rfl (sh_1_1 hX (by omega)) (by decide) ?_
  refine ev_astore_n dX11_meal_29 (by decide) ?_
  refine ev_aload_n dX11_meal_30 rfl ?_
  refine ev_getI dX11_meal_31 fo_11_100 (by omega) lo_23 rfl ?_
  refine ev_bipush (v := 10) dX11_meal_34 kb_10 ?_
  refine ev_icmpT (tgt := 42) dX11_meal_36 (by decide) c1 ?_
  refine ev_aload_n dX11_meal_42 rfl ?_
  refine ev_dup dX11_meal_43 rfl ?_
  refine ev_getI dX11_meal_44 fo_11_100 (by omega) lo_23 rfl ?_
  refine ev_dup_x1 dX11_meal_47 rfl rfl ?_
  refine ev_iconst (v := 1) dX11_meal_48 ki_1 ?_
  refine ev_iadd dX11_meal_49 ?_
  refine ev_putI dX11_meal_50 fo_11_100 (by omega) lo_23 rfl rfl rfl ?_
  have hX1 : Sh _ (lx_up X 23 0 ((X 23 0) + 1)) := Sh.upF hX (by rw [lo_23]; decide) (by decide)
  refine ev_istore dX11_meal_53 (by decide) ?_
  refine ev_aload_n dX11_meal_55 rfl ?_
  refine ev_getS (q := 24) dX11_meal_56 fo_11_103 (by omega) lo_23 rfl (sh_23_1 hX1 (by omega)) (by decide) ?_
  refine ev_iload dX11_meal_59 rfl ?_
  refine ev_iload_n dX11_meal_61 rfl ?_
  refine ev_iast dX11_meal_62 (by omega) ly_24 hj1 b0 ?_
  have hX2 : Sh _ (lx_up (lx_up X 23 0 ((X 23 0) + 1)) 24 j1 v1) := Sh.upA hX1 (by rw [ly_24]; exact (by decide : 0 < 2))
  refine ev_aload_n dX11_meal_63 rfl ?_
  refine ev_getS (q := 25) dX11_meal_64 fo_11_106 (by omega) lo_23 rfl (sh_23_2 hX2 (by omega)) (by decide) ?_
  refine ev_iload dX11_meal_67 rfl ?_
  refine ev_iload_n dX11_meal_69 rfl ?_
  refine ev_iast dX11_meal_70 (by omega) ly_25 hj2 b1 ?_
  have hX3 : Sh _ (lx_up (lx_up (lx_up X 23 0 ((X 23 0) + 1)) 24 j1 v1) 25 j2 v2) := Sh.upA hX2 (by rw [ly_25]; exact (by decide : 0 < 2))
  refine ev_iload dX11_meal_71 rfl ?_
  exact ev_iret dX11_meal_73 rfl rfl hp
theorem bX11_isOf_0_0 {g : GG} {d n0 nf : Nat} {post : Option Value → LX → Prop} {n : Nat} {X : LX} (hn : 146 ≤ n) (hX : Sh n X) {v1 : Int32} {v2 : Int32} (k : Ev g mX11_isOf d n0 nf post n 8 [some (.ref 0), some (.int v1), some (.int v2)] [.int v1, .ref 23] X) : Ev g mX11_isOf d n0 nf post n 0 [some (.ref 0), some (.int v1), some (.int v2)] [] X := by
  refine ev_aload_n dX11_isOf_0 rfl ?_
  refine ev_getS (q := 1) dX11_isOf_1 fo_11_10 (by omega) lo_0 rfl (sh_0_0 hX (by omega)) (by decide) ?_
  refine ev_getS (q := 23) dX11_isOf_4 fo_11_96 (by omega) lo_1 rfl (sh_1_1 hX (by omega)) (by decide) ?_
  refine ev_iload_n dX11_isOf_7 rfl ?_
  exact k
theorem bX11_isOf_11_0 {g : GG} {d n0 nf : Nat} {post : Option Value → LX → Prop} {n : Nat} {X : LX} (hn : 146 ≤ n) (hX : Sh n X) {v1 : Int32} {v2 : Int32} {s0 : Int32} (c0 : ¬ s0 = 0) (k : Ev g mX11_isOf d n0 nf post n 17 [some (.ref 0), some (.int v1), some (.int v2)] [.int 3, .int 0, .int v2] X) : Ev g mX11_isOf d n0 nf post n 11 [some (.ref 0), some (.int v1), some (.int v2)] [.int s0] X := by
  refine ev_ifF (tgt := 23) dX11_isOf_11 (by decide) c0 ?_
  refine ev_iload_n dX11_isOf_14 rfl ?_
  refine ev_iconst (v := 0) dX11_isOf_15 ki_0 ?_
  refine ev_iconst (v := 3) dX11_isOf_16 ki_3 ?_
  exact k
theorem bX11_isOf_11_1 {g : GG} {d n0 nf : Nat} {post : Option Value → LX → Prop} {n : Nat} {X : LX} (hn : 146 ≤ nf) (hX : Sh nf X) {v1 : Int32} {v2 : Int32} {s0 : Int32} (c0 : s0 = 0) (hp : post (some (.int (-1000000001))) X) : Ev g mX11_isOf d n0 nf post nf 11 [some (.ref 0), some (.int v1), some (.int v2)] [.int s0] X := by
  refine ev_ifT (tgt := 23) dX11_isOf_11 (by decide) c0 ?_
  refine ev_ldc (v := (-1000000001)) dX11_isOf_23 kw_11_61 ?_
  exact ev_iret dX11_isOf_25 rfl rfl hp
theorem bX11_isOf_20_0 {g : GG} {d n0 nf : Nat} {post : Option Value → LX → Prop} {n : Nat} {X : LX} (hn : 146 ≤ nf) (hX : Sh nf X) {v1 : Int32} {v2 : Int32} {s0 : Int32} (c0 : s0 = 0) (hp : post (some (.int (-1000000001))) X) : Ev g mX11_isOf d n0 nf post nf 20 [some (.ref 0), some (.int v1), some (.int v2)] [.int s0] X := by
  refine ev_ifF (tgt := 26) dX11_isOf_20 (by decide) c0 ?_
  refine ev_ldc (v := (-1000000001)) dX11_isOf_23 kw_11_61 ?_
  exact ev_iret dX11_isOf_25 rfl rfl hp
theorem bX11_isOf_20_1 {g : GG} {d n0 nf : Nat} {post : Option Value → LX → Prop} {n : Nat} {X : LX} (hn : 146 ≤ n) (hX : Sh n X) {v1 : Int32} {v2 : Int32} {s0 : Int32} (c0 : ¬ s0 = 0) (k : Ev g mX11_isOf d n0 nf post n 35 [some (.ref 0), some (.int v1), some (.int v2)] [.int v2, .int v1, .ref 23] X) : Ev g mX11_isOf d n0 nf post n 20 [some (.ref 0), some (.int v1), some (.int v2)] [.int s0] X := by
  refine ev_ifT (tgt := 26) dX11_isOf_20 (by decide) c0 ?_
  refine ev_aload_n dX11_isOf_26 rfl ?_
  refine ev_getS (q := 1) dX11_isOf_27 fo_11_10 (by omega) lo_0 rfl (sh_0_0 hX (by omega)) (by decide) ?_
  refine ev_getS (q := 23) dX11_isOf_30 fo_11_96 (by omega) lo_1 rfl (sh_1_1 hX (by omega)) (by decide) ?_
  refine ev_iload_n dX11_isOf_33 rfl ?_
  refine ev_iload_n dX11_isOf_34 rfl ?_
  exact k
theorem bX11_isOf_38_0 {g : GG} {d n0 nf : Nat} {post : Option Value → LX → Prop} {n : Nat} {X : LX} (hn : 146 ≤ n) (hX : Sh n X) {v1 : Int32} {v2 : Int32} {s0 : Int32} (k : Ev g mX11_isOf d n0 nf post n 38 [some (.ref 0), some (.int v1), some (.int v2)] [.int s0] X) : Ev g mX11_isOf d n0 nf post n 38 [some (.ref 0), some (.int v1), some (.int v2)] [.int s0] X := by
  exact k
theorem bX11_isOf_41_0 {g : GG} {d n0 nf : Nat} {post : Option Value → LX → Prop} {n : Nat} {X : LX} (hn : 146 ≤ nf) (hX : Sh nf X) {v1 : Int32} {v2 : Int32} {s0 : Int32} (hp : post (some (.int s0)) X) : Ev g mX11_isOf d n0 nf post nf 41 [some (.ref 0), some (.int v1), some (.int v2)] [.int s0] X := by
  exact ev_iret dX11_isOf_41 rfl rfl hp
theorem bX11_with_0_0 {g : GG} {d n0 nf : Nat} {post : Option Value → LX → Prop} {n : Nat} {X : LX} (hn : 146 ≤ n) (hX : Sh n X) {v1 : Int32} {v2 : Int32} {v3 : Int32} (k : Ev g mX11_with d n0 nf post n 12 [some (.ref 0), some (.int v1), some (.int v2), some (.int v3), some (.ref 23)] [.int v1, .ref 23] X) : Ev g mX11_with d n0 nf post n 0 [some (.ref 0), some (.int v1), some (.int v2), some (.int v3), none] [] X := by
  refine ev_aload_n dX11_with_0 rfl ?_
  refine ev_getS (q := 1) dX11_with_1 fo_11_10 (by omega) lo_0 rfl (sh_0_0 hX (by omega)) (by decide) ?_
  refine ev_getS (q := 23) dX11_with_4 fo_11_96 (by omega) lo_1 rfl (sh_1_1 hX (by omega)) (by decide) ?_
  refine ev_astore dX11_with_7 (by decide) ?_
  refine ev_aload dX11_with_9 rfl ?_
  refine ev_iload_n dX11_with_11 rfl ?_
  exact k
theorem bX11_with_15_0 {g : GG} {d n0 nf : Nat} {post : Option Value → LX → Prop} {n : Nat} {X : LX} (hn : 146 ≤ n) (hX : Sh n X) {v1 : Int32} {v2 : Int32} {v3 : Int32} {s0 : Int32} (c0 : ¬ s0 = 0) (k : Ev g mX11_with d n0 nf post n 26 [some (.ref 0), some (.int v1), some (.int v2), some (.int v3), some (.ref 23)] [.int v2, .ref 2] X) : Ev g mX11_with d n0 nf post n 15 [some (.ref 0), some (.int v1), some (.int v2), some (.int v3), some (.ref 23)] [.int s0] X := by
  refine ev_ifF (tgt := 43) dX11_with_15 (by decide) c0 ?_
  refine ev_aload_n dX11_with_18 rfl ?_
  refine ev_getS (q := 1) dX11_with_19 fo_11_10 (by omega) lo_0 rfl (sh_0_0 hX (by omega)) (by decide) ?_
  refine ev_getS (q := 2) dX11_with_22 fo_11_62 (by omega) lo_1 rfl (sh_1_0 hX (by omega)) (by decide) ?_
  refine ev_iload_n dX11_with_25 rfl ?_
  exact k
theorem bX11_with_15_1 {g : GG} {d n0 nf : Nat} {post : Option Value → LX → Prop} {n : Nat} {X : LX} (hn : 146 ≤ nf) (hX : Sh nf X) {v1 : Int32} {v2 : Int32} {v3 : Int32} {s0 : Int32} (c0 : s0 = 0) (hp : post (some (.int (-1000000001))) X) : Ev g mX11_with d n0 nf post nf 15 [some (.ref 0), some (.int v1), some (.int v2), some (.int v3), some (.ref 23)] [.int s0] X := by
  refine ev_ifT (tgt := 43) dX11_with_15 (by decide) c0 ?_
  refine ev_ldc (v := (-1000000001)) dX11_with_43 kw_11_61 ?_
  exact ev_iret dX11_with_45 rfl rfl hp
theorem bX11_with_29_0 {g : GG} {d n0 nf : Nat} {post : Option Value → LX → Prop} {n : Nat} {X : LX} (hn : 146 ≤ n) (hX : Sh n X) {v1 : Int32} {v2 : Int32} {v3 : Int32} {s0 : Int32} (c0 : ¬ s0 = 0) (k : Ev g mX11_with d n0 nf post n 37 [some (.ref 0), some (.int v1), some (.int v2), some (.int v3), some (.ref 23)] [.int 999, .int 1, .int v3] X) : Ev g mX11_with d n0 nf post n 29 [some (.ref 0), some (.int v1), some (.int v2), some (.int v3), some (.ref 23)] [.int s0] X := by
  refine ev_ifF (tgt := 43) dX11_with_29 (by decide) c0 ?_
  refine ev_iload_n dX11_with_32 rfl ?_
  refine ev_iconst (v := 1) dX11_with_33 ki_1 ?_
  refine ev_sipush (v := 999) dX11_with_34 ks_999 ?_
  exact k
theorem bX11_with_29_1 {g : GG} {d n0 nf : Nat} {post : Option Value → LX → Prop} {n : Nat} {X : LX} (hn : 146 ≤ nf) (hX : Sh nf X) {v1 : Int32} {v2 : Int32} {v3 : Int32} {s0 : Int32} (c0 : s0 = 0) (hp : post (some (.int (-1000000001))) X) : Ev g mX11_with d n0 nf post nf 29 [some (.ref 0), some (.int v1), some (.int v2), some (.int v3), some (.ref 23)] [.int s0] X := by
  refine ev_ifT (tgt := 43) dX11_with_29 (by decide) c0 ?_
  refine ev_ldc (v := (-1000000001)) dX11_with_43 kw_11_61 ?_
  exact ev_iret dX11_with_45 rfl rfl hp
theorem bX11_with_40_0 {g : GG} {d n0 nf : Nat} {post : Option Value → LX → Prop} {n : Nat} {X : LX} (hn : 146 ≤ nf) (hX : Sh nf X) {v1 : Int32} {v2 : Int32} {v3 : Int32} {s0 : Int32} (c0 : s0 = 0) (hp : post (some (.int (-1000000001))) X) : Ev g mX11_with d n0 nf post nf 40 [some (.ref 0), some (.int v1), some (.int v2), some (.int v3), some (.ref 23)] [.int s0] X := by
  refine ev_ifF (tgt := 46) dX11_with_40 (by decide) c0 ?_
  refine ev_ldc (v := (-1000000001)) dX11_with_43 kw_11_61 ?_
  exact ev_iret dX11_with_45 rfl rfl hp
theorem bX11_with_40_1 {g : GG} {d n0 nf : Nat} {post : Option Value → LX → Prop} {n : Nat} {X : LX} (hn : 146 ≤ n) (hX : Sh n X) {v1 : Int32} {v2 : Int32} {v3 : Int32} {s0 : Int32} (c0 : ¬ s0 = 0) (k : Ev g mX11_with d n0 nf post n 54 [some (.ref 0), some (.int v1), some (.int v2), some (.int v3), some (.ref 23)] [.int v1, .int (X 1 6)] X) : Ev g mX11_with d n0 nf post n 40 [some (.ref 0), some (.int v1), some (.int v2), some (.int v3), some (.ref 23)] [.int s0] X := by
  refine ev_ifT (tgt := 46) dX11_with_40 (by decide) c0 ?_
  refine ev_aload_n dX11_with_46 rfl ?_
  refine ev_getS (q := 1) dX11_with_47 fo_11_10 (by omega) lo_0 rfl (sh_0_0 hX (by omega)) (by decide) ?_
  refine ev_getI dX11_with_50 fo_11_118 (by omega) lo_1 rfl ?_
  refine ev_iload_n dX11_with_53 rfl ?_
  exact k
theorem bX11_with_57_0 {g : GG} {d n0 nf : Nat} {post : Option Value → LX → Prop} {n : Nat} {X : LX} (hn : 146 ≤ nf) (hX : Sh nf X) {v1 : Nat} {v2 : Nat} {v3 : Int32} {s0 : Int32} (c0 : ¬ s0 = 0) (hp : post (some (.int (-1000000002))) X) : Ev g mX11_with d n0 nf post nf 57 [some (.ref 0), some (.int (nI v1)), some (.int (nI v2)), some (.int v3), some (.ref 23)] [.int s0] X := by
  refine ev_ifF (tgt := 63) dX11_with_57 (by decide) c0 ?_
  refine ev_ldc (v := (-1000000002)) dX11_with_60 kw_11_124 ?_
  exact ev_iret dX11_with_62 rfl rfl hp
theorem bX11_with_57_1 {g : GG} {d n0 nf : Nat} {post : Option Value → LX → Prop} {n : Nat} {X : LX} (hn : 146 ≤ n) (hX : Sh n X) {v1 : Nat} {v2 : Nat} {v3 : Int32} {s0 : Int32} (c0 : s0 = 0) (b0 : v1 < 10) (b1 : v2 < 14) (c1 : X (26 + 1 + v1) v2 = 0) (k : Ev g mX11_with d n0 nf post n 78 [some (.ref 0), some (.int (nI v1)), some (.int (nI v2)), some (.int v3), some (.ref 23)] [.int (nI v1), .ref 23] X) : Ev g mX11_with d n0 nf post n 57 [some (.ref 0), some (.int (nI v1)), some (.int (nI v2)), some (.int v3), some (.ref 23)] [.int s0] X := by
  refine ev_ifT (tgt := 63) dX11_with_57 (by decide) c0 ?_
  refine ev_aload dX11_with_63 rfl ?_
  refine ev_getS (q := 26) dX11_with_65 fo_11_125 (by omega) lo_23 rfl (sh_23_3 hX (by omega)) (by decide) ?_
  refine ev_iload_n dX11_with_68 rfl ?_
  refine ev_aald (q := 26 + 1 + v1) dX11_with_69 (by omega) (Or.inl ly_26) rfl b0 (hX.2 26 v1 (by omega) (Or.inl (by rw [ly_26])) (by rw [ly_26]; exact b0)) (by first | omega | (have := LY_l ly_26; have := LY_lt (show (LY 26).1 < 99 by rw [ly_26]; exact (by decide : 2 < 99)); omega)) ?_
  refine ev_iload_n dX11_with_70 rfl ?_
  refine ev_iald dX11_with_71 (by have := b0; omega) (lyr_26 _ b0) rfl b1 ?_
  refine ev_ifF (tgt := 88) dX11_with_72 (by decide) c1 ?_
  refine ev_aload dX11_with_75 rfl ?_
  refine ev_iload_n dX11_with_77 rfl ?_
  exact k
theorem bX11_with_57_2 {g : GG} {d n0 nf : Nat} {post : Option Value → LX → Prop} {n : Nat} {X : LX} (hn : 146 ≤ n) (hX : Sh n X) {v1 : Nat} {v2 : Nat} {v3 : Int32} {s0 : Int32} (c0 : s0 = 0) (b0 : v1 < 10) (b1 : v2 < 14) (c1 : ¬ X (26 + 1 + v1) v2 = 0) (b2 : v1 < 10) (b3 : v2 < 14) (k : Ev g mX11_with d n0 nf post n 101 [some (.ref 0), some (.int (nI v1)), some (.int (nI v2)), some (.int v3), some (.ref 23)] [.int (nI v1), .ref 23] (lx_up X (26 + 1 + v1) v2 v3)) : Ev g mX11_with d n0 nf post n 57 [some (.ref 0), some (.int (nI v1)), some (.int (nI v2)), some (.int v3), some (.ref 23)] [.int s0] X := by
  refine ev_ifT (tgt := 63) dX11_with_57 (by decide) c0 ?_
  refine ev_aload dX11_with_63 rfl ?_
  refine ev_getS (q := 26) dX11_with_65 fo_11_125 (by omega) lo_23 rfl (sh_23_3 hX (by omega)) (by decide) ?_
  refine ev_iload_n dX11_with_68 rfl ?_
  refine ev_aald (q := 26 + 1 + v1) dX11_with_69 (by omega) (Or.inl ly_26) rfl b0 (hX.2 26 v1 (by omega) (Or.inl (by rw [ly_26])) (by rw [ly_26]; exact b0)) (by first | omega | (have := LY_l ly_26; have := LY_lt (show (LY 26).1 < 99 by rw [ly_26]; exact (by decide : 2 < 99)); omega)) ?_
  refine ev_iload_n dX11_with_70 rfl ?_
  refine ev_iald dX11_with_71 (by have := b0; omega) (lyr_26 _ b0) rfl b1 ?_
  refine ev_ifT (tgt := 88) dX11_with_72 (by decide) c1 ?_
  refine ev_aload dX11_with_88 rfl ?_
  refine ev_getS (q := 26) dX11_with_90 fo_11_125 (by omega) lo_23 rfl (sh_23_3 hX (by omega)) (by decide) ?_
  refine ev_iload_n dX11_with_93 rfl ?_
  refine ev_aald (q := 26 + 1 + v1) dX11_with_94 (by omega) (Or.inl ly_26) rfl b2 (hX.2 26 v1 (by omega) (Or.inl (by rw [ly_26])) (by rw [ly_26]; exact b2)) (by first | omega | (have := LY_l ly_26; have := LY_lt (show (LY 26).1 < 99 by rw [ly_26]; exact (by decide : 2 < 99)); omega)) ?_
  refine ev_iload_n dX11_with_95 rfl ?_
  refine ev_iload_n dX11_with_96 rfl ?_
  refine ev_iast dX11_with_97 (by have := b2; omega) (lyr_26 _ b2) rfl b3 ?_
  have hX1 : Sh _ (lx_up X (26 + 1 + v1) v2 v3) := Sh.upA hX (by rw [(lyr_26 _ b2)]; exact (by decide : 0 < 2))
  refine ev_aload dX11_with_98 rfl ?_
  refine ev_iload_n dX11_with_100 rfl ?_
  exact k
theorem bX11_with_81_0 {g : GG} {d n0 nf : Nat} {post : Option Value → LX → Prop} {n : Nat} {X : LX} (hn : 146 ≤ nf) (hX : Sh nf X) {v1 : Nat} {v2 : Nat} {v3 : Int32} {s0 : Int32} (c0 : ¬ s0 < 5) (hp : post (some (.int (-1000000003))) X) : Ev g mX11_with d n0 nf post nf 81 [some (.ref 0), some (.int (nI v1)), some (.int (nI v2)), some (.int v3), some (.ref 23)] [.int s0] X := by
  refine ev_iconst (v := 5) dX11_with_81 ki_5 ?_
  refine ev_icmpF (tgt := 88) dX11_with_82 (by decide) c0 ?_
  refine ev_ldc (v := (-1000000003)) dX11_with_85 kw_11_72 ?_
  exact ev_iret dX11_with_87 rfl rfl hp
theorem bX11_with_81_1 {g : GG} {d n0 nf : Nat} {post : Option Value → LX → Prop} {n : Nat} {X : LX} (hn : 146 ≤ n) (hX : Sh n X) {v1 : Nat} {v2 : Nat} {v3 : Int32} {s0 : Int32} (c0 : s0 < 5) (b0 : v1 < 10) (b1 : v2 < 14) (k : Ev g mX11_with d n0 nf post n 101 [some (.ref 0), some (.int (nI v1)), some (.int (nI v2)), some (.int v3), some (.ref 23)] [.int (nI v1), .ref 23] (lx_up X (26 + 1 + v1) v2 v3)) : Ev g mX11_with d n0 nf post n 81 [some (.ref 0), some (.int (nI v1)), some (.int (nI v2)), some (.int v3), some (.ref 23)] [.int s0] X := by
  refine ev_iconst (v := 5) dX11_with_81 ki_5 ?_
  refine ev_icmpT (tgt := 88) dX11_with_82 (by decide) c0 ?_
  refine ev_aload dX11_with_88 rfl ?_
  refine ev_getS (q := 26) dX11_with_90 fo_11_125 (by omega) lo_23 rfl (sh_23_3 hX (by omega)) (by decide) ?_
  refine ev_iload_n dX11_with_93 rfl ?_
  refine ev_aald (q := 26 + 1 + v1) dX11_with_94 (by omega) (Or.inl ly_26) rfl b0 (hX.2 26 v1 (by omega) (Or.inl (by rw [ly_26])) (by rw [ly_26]; exact b0)) (by first | omega | (have := LY_l ly_26; have := LY_lt (show (LY 26).1 < 99 by rw [ly_26]; exact (by decide : 2 < 99)); omega)) ?_
  refine ev_iload_n dX11_with_95 rfl ?_
  refine ev_iload_n dX11_with_96 rfl ?_
  refine ev_iast dX11_with_97 (by have := b0; omega) (lyr_26 _ b0) rfl b1 ?_
  have hX1 : Sh _ (lx_up X (26 + 1 + v1) v2 v3) := Sh.upA hX (by rw [(lyr_26 _ b0)]; exact (by decide : 0 < 2))
  refine ev_aload dX11_with_98 rfl ?_
  refine ev_iload_n dX11_with_100 rfl ?_
  exact k
theorem bX11_with_104_0 {g : GG} {d n0 nf : Nat} {post : Option Value → LX → Prop} {n : Nat} {X : LX} (hn : 146 ≤ nf) (hX : Sh nf X) {v1 : Int32} {v2 : Int32} {v3 : Int32} {s0 : Int32} (hp : post (some (.int s0)) X) : Ev g mX11_with d n0 nf post nf 104 [some (.ref 0), some (.int v1), some (.int v2), some (.int v3), some (.ref 23)] [.int s0] X := by
  exact ev_iret dX11_with_104 rfl rfl hp
theorem bX11_about_0_0 {g : GG} {d n0 nf : Nat} {post : Option Value → LX → Prop} {n : Nat} {X : LX} (hn : 146 ≤ n) (hX : Sh n X) {v1 : Int32} {v2 : Int32} (k : Ev g mX11_about d n0 nf post n 8 [some (.ref 0), some (.int v1), some (.int v2)] [.int v1, .ref 23] X) : Ev g mX11_about d n0 nf post n 0 [some (.ref 0), some (.int v1), some (.int v2)] [] X := by
  refine ev_aload_n dX11_about_0 rfl ?_
  refine ev_getS (q := 1) dX11_about_1 fo_11_10 (by omega) lo_0 rfl (sh_0_0 hX (by omega)) (by decide) ?_
  refine ev_getS (q := 23) dX11_about_4 fo_11_96 (by omega) lo_1 rfl (sh_1_1 hX (by omega)) (by decide) ?_
  refine ev_iload_n dX11_about_7 rfl ?_
  exact k
theorem bX11_about_11_0 {g : GG} {d n0 nf : Nat} {post : Option Value → LX → Prop} {n : Nat} {X : LX} (hn : 146 ≤ nf) (hX : Sh nf X) {v1 : Nat} {v2 : Int32} {s0 : Int32} (c0 : s0 = 0) (hp : post (some (.int (-1000000001))) X) : Ev g mX11_about d n0 nf post nf 11 [some (.ref 0), some (.int (nI v1)), some (.int v2)] [.int s0] X := by
  refine ev_ifF (tgt := 17) dX11_about_11 (by decide) c0 ?_
  refine ev_ldc (v := (-1000000001)) dX11_about_14 kw_11_61 ?_
  exact ev_iret dX11_about_16 rfl rfl hp
theorem bX11_about_11_1 {g : GG} {d n0 nf : Nat} {post : Option Value → LX → Prop} {n : Nat} {X : LX} (hn : 146 ≤ nf) (hX : Sh nf X) {v1 : Nat} {v2 : Int32} {s0 : Int32} (c0 : ¬ s0 = 0) (c1 : v2.toInt < 0 ∨ 6 < v2.toInt) (hp : post (some (.int (-1000000001))) X) : Ev g mX11_about d n0 nf post nf 11 [some (.ref 0), some (.int (nI v1)), some (.int v2)] [.int s0] X := by
  refine ev_ifT (tgt := 17) dX11_about_11 (by decide) c0 ?_
  refine ev_iload_n dX11_about_17 rfl ?_
  refine ev_tabO (tgt := 140) dX11_about_18 c1 (by decide) ?_
  refine ev_ldc (v := (-1000000001)) dX11_about_140 kw_11_61 ?_
  exact ev_iret dX11_about_142 rfl rfl hp
theorem bX11_about_11_2 {g : GG} {d n0 nf : Nat} {post : Option Value → LX → Prop} {n : Nat} {X : LX} (hn : 146 ≤ nf) (hX : Sh nf X) {v1 : Nat} {v2 : Int32} {s0 : Int32} (c0 : ¬ s0 = 0) (c1 : v2 = 0) (b0 : v1 < 10) (hp : post (some (.int (X 24 v1))) X) : Ev g mX11_about d n0 nf post nf 11 [some (.ref 0), some (.int (nI v1)), some (.int v2)] [.int s0] X := by
  refine ev_ifT (tgt := 17) dX11_about_11 (by decide) c0 ?_
  refine ev_iload_n dX11_about_17 rfl ?_
  refine ev_tabI (tgt := 60) (off := 42) dX11_about_18 (by rw [c1]; decide) (by rw [c1]; decide) (by rw [c1]; rfl) (by decide) ?_
  refine ev_aload_n dX11_about_60 rfl ?_
  refine ev_getS (q := 1) dX11_about_61 fo_11_10 (by omega) lo_0 rfl (sh_0_0 hX (by omega)) (by decide) ?_
  refine ev_getS (q := 23) dX11_about_64 fo_11_96 (by omega) lo_1 rfl (sh_1_1 hX (by omega)) (by decide) ?_
  refine ev_getS (q := 24) dX11_about_67 fo_11_103 (by omega) lo_23 rfl (sh_23_1 hX (by omega)) (by decide) ?_
  refine ev_iload_n dX11_about_70 rfl ?_
  refine ev_iald dX11_about_71 (by omega) ly_24 rfl b0 ?_
  exact ev_iret dX11_about_72 rfl rfl hp
theorem bX11_about_11_3 {g : GG} {d n0 nf : Nat} {post : Option Value → LX → Prop} {n : Nat} {X : LX} (hn : 146 ≤ nf) (hX : Sh nf X) {v1 : Nat} {v2 : Int32} {s0 : Int32} (c0 : ¬ s0 = 0) (c1 : v2 = 1) (b0 : v1 < 10) (hp : post (some (.int (X 25 v1))) X) : Ev g mX11_about d n0 nf post nf 11 [some (.ref 0), some (.int (nI v1)), some (.int v2)] [.int s0] X := by
  refine ev_ifT (tgt := 17) dX11_about_11 (by decide) c0 ?_
  refine ev_iload_n dX11_about_17 rfl ?_
  refine ev_tabI (tgt := 73) (off := 55) dX11_about_18 (by rw [c1]; decide) (by rw [c1]; decide) (by rw [c1]; rfl) (by decide) ?_
  refine ev_aload_n dX11_about_73 rfl ?_
  refine ev_getS (q := 1) dX11_about_74 fo_11_10 (by omega) lo_0 rfl (sh_0_0 hX (by omega)) (by decide) ?_
  refine ev_getS (q := 23) dX11_about_77 fo_11_96 (by omega) lo_1 rfl (sh_1_1 hX (by omega)) (by decide) ?_
  refine ev_getS (q := 25) dX11_about_80 fo_11_106 (by omega) lo_23 rfl (sh_23_2 hX (by omega)) (by decide) ?_
  refine ev_iload_n dX11_about_83 rfl ?_
  refine ev_iald dX11_about_84 (by omega) ly_25 rfl b0 ?_
  exact ev_iret dX11_about_85 rfl rfl hp
theorem bX11_about_11_4 {g : GG} {d n0 nf : Nat} {post : Option Value → LX → Prop} {n : Nat} {X : LX} (hn : 146 ≤ n) (hX : Sh n X) {v1 : Nat} {v2 : Int32} {s0 : Int32} (c0 : ¬ s0 = 0) (c1 : v2 = 2) (k : Ev g mX11_about d n0 nf post n 91 [some (.ref 0), some (.int (nI v1)), some (.int v2)] [.int (nI v1), .ref 1] X) : Ev g mX11_about d n0 nf post n 11 [some (.ref 0), some (.int (nI v1)), some (.int v2)] [.int s0] X := by
  refine ev_ifT (tgt := 17) dX11_about_11 (by decide) c0 ?_
  refine ev_iload_n dX11_about_17 rfl ?_
  refine ev_tabI (tgt := 86) (off := 68) dX11_about_18 (by rw [c1]; decide) (by rw [c1]; decide) (by rw [c1]; rfl) (by decide) ?_
  refine ev_aload_n dX11_about_86 rfl ?_
  refine ev_getS (q := 1) dX11_about_87 fo_11_10 (by omega) lo_0 rfl (sh_0_0 hX (by omega)) (by decide) ?_
  refine ev_iload_n dX11_about_90 rfl ?_
  exact k
theorem bX11_about_11_5 {g : GG} {d n0 nf : Nat} {post : Option Value → LX → Prop} {n : Nat} {X : LX} (hn : 146 ≤ n) (hX : Sh n X) {v1 : Nat} {v2 : Int32} {s0 : Int32} (c0 : ¬ s0 = 0) (c1 : v2 = 3) (k : Ev g mX11_about d n0 nf post n 100 [some (.ref 0), some (.int (nI v1)), some (.int v2)] [.int (nI v1), .ref 1] X) : Ev g mX11_about d n0 nf post n 11 [some (.ref 0), some (.int (nI v1)), some (.int v2)] [.int s0] X := by
  refine ev_ifT (tgt := 17) dX11_about_11 (by decide) c0 ?_
  refine ev_iload_n dX11_about_17 rfl ?_
  refine ev_tabI (tgt := 95) (off := 77) dX11_about_18 (by rw [c1]; decide) (by rw [c1]; decide) (by rw [c1]; rfl) (by decide) ?_
  refine ev_aload_n dX11_about_95 rfl ?_
  refine ev_getS (q := 1) dX11_about_96 fo_11_10 (by omega) lo_0 rfl (sh_0_0 hX (by omega)) (by decide) ?_
  refine ev_iload_n dX11_about_99 rfl ?_
  exact k
theorem bX11_about_11_6 {g : GG} {d n0 nf : Nat} {post : Option Value → LX → Prop} {n : Nat} {X : LX} (hn : 146 ≤ n) (hX : Sh n X) {v1 : Nat} {v2 : Int32} {s0 : Int32} (c0 : ¬ s0 = 0) (c1 : v2 = 4) (k : Ev g mX11_about d n0 nf post n 112 [some (.ref 0), some (.int (nI v1)), some (.int v2)] [.int (nI v1), .ref 23] X) : Ev g mX11_about d n0 nf post n 11 [some (.ref 0), some (.int (nI v1)), some (.int v2)] [.int s0] X := by
  refine ev_ifT (tgt := 17) dX11_about_11 (by decide) c0 ?_
  refine ev_iload_n dX11_about_17 rfl ?_
  refine ev_tabI (tgt := 104) (off := 86) dX11_about_18 (by rw [c1]; decide) (by rw [c1]; decide) (by rw [c1]; rfl) (by decide) ?_
  refine ev_aload_n dX11_about_104 rfl ?_
  refine ev_getS (q := 1) dX11_about_105 fo_11_10 (by omega) lo_0 rfl (sh_0_0 hX (by omega)) (by decide) ?_
  refine ev_getS (q := 23) dX11_about_108 fo_11_96 (by omega) lo_1 rfl (sh_1_1 hX (by omega)) (by decide) ?_
  refine ev_iload_n dX11_about_111 rfl ?_
  exact k
theorem bX11_about_11_7 {g : GG} {d n0 nf : Nat} {post : Option Value → LX → Prop} {n : Nat} {X : LX} (hn : 146 ≤ n) (hX : Sh n X) {v1 : Nat} {v2 : Int32} {s0 : Int32} (c0 : ¬ s0 = 0) (c1 : v2 = 5) (k : Ev g mX11_about d n0 nf post n 124 [some (.ref 0), some (.int (nI v1)), some (.int v2)] [.int (nI v1), .ref 23] X) : Ev g mX11_about d n0 nf post n 11 [some (.ref 0), some (.int (nI v1)), some (.int v2)] [.int s0] X := by
  refine ev_ifT (tgt := 17) dX11_about_11 (by decide) c0 ?_
  refine ev_iload_n dX11_about_17 rfl ?_
  refine ev_tabI (tgt := 116) (off := 98) dX11_about_18 (by rw [c1]; decide) (by rw [c1]; decide) (by rw [c1]; rfl) (by decide) ?_
  refine ev_aload_n dX11_about_116 rfl ?_
  refine ev_getS (q := 1) dX11_about_117 fo_11_10 (by omega) lo_0 rfl (sh_0_0 hX (by omega)) (by decide) ?_
  refine ev_getS (q := 23) dX11_about_120 fo_11_96 (by omega) lo_1 rfl (sh_1_1 hX (by omega)) (by decide) ?_
  refine ev_iload_n dX11_about_123 rfl ?_
  exact k
theorem bX11_about_11_8 {g : GG} {d n0 nf : Nat} {post : Option Value → LX → Prop} {n : Nat} {X : LX} (hn : 146 ≤ n) (hX : Sh n X) {v1 : Nat} {v2 : Int32} {s0 : Int32} (c0 : ¬ s0 = 0) (c1 : v2 = 6) (k : Ev g mX11_about d n0 nf post n 133 [some (.ref 0), some (.int (nI v1)), some (.int v2)] [.int (nI v1), .ref 1] X) : Ev g mX11_about d n0 nf post n 11 [some (.ref 0), some (.int (nI v1)), some (.int v2)] [.int s0] X := by
  refine ev_ifT (tgt := 17) dX11_about_11 (by decide) c0 ?_
  refine ev_iload_n dX11_about_17 rfl ?_
  refine ev_tabI (tgt := 128) (off := 110) dX11_about_18 (by rw [c1]; decide) (by rw [c1]; decide) (by rw [c1]; rfl) (by decide) ?_
  refine ev_aload_n dX11_about_128 rfl ?_
  refine ev_getS (q := 1) dX11_about_129 fo_11_10 (by omega) lo_0 rfl (sh_0_0 hX (by omega)) (by decide) ?_
  refine ev_iload_n dX11_about_132 rfl ?_
  exact k
theorem bX11_about_94_0 {g : GG} {d n0 nf : Nat} {post : Option Value → LX → Prop} {n : Nat} {X : LX} (hn : 146 ≤ nf) (hX : Sh nf X) {v1 : Int32} {v2 : Int32} {s0 : Int32} (hp : post (some (.int s0)) X) : Ev g mX11_about d n0 nf post nf 94 [some (.ref 0), some (.int v1), some (.int v2)] [.int s0] X := by
  exact ev_iret dX11_about_94 rfl rfl hp
theorem bX11_about_103_0 {g : GG} {d n0 nf : Nat} {post : Option Value → LX → Prop} {n : Nat} {X : LX} (hn : 146 ≤ nf) (hX : Sh nf X) {v1 : Int32} {v2 : Int32} {s0 : Int32} (hp : post (some (.int s0)) X) : Ev g mX11_about d n0 nf post nf 103 [some (.ref 0), some (.int v1), some (.int v2)] [.int s0] X := by
  exact ev_iret dX11_about_103 rfl rfl hp
theorem bX11_about_115_0 {g : GG} {d n0 nf : Nat} {post : Option Value → LX → Prop} {n : Nat} {X : LX} (hn : 146 ≤ nf) (hX : Sh nf X) {v1 : Int32} {v2 : Int32} {s0 : Int32} (hp : post (some (.int s0)) X) : Ev g mX11_about d n0 nf post nf 115 [some (.ref 0), some (.int v1), some (.int v2)] [.int s0] X := by
  exact ev_iret dX11_about_115 rfl rfl hp
theorem bX11_about_127_0 {g : GG} {d n0 nf : Nat} {post : Option Value → LX → Prop} {n : Nat} {X : LX} (hn : 146 ≤ nf) (hX : Sh nf X) {v1 : Int32} {v2 : Int32} {s0 : Int32} (hp : post (some (.int s0)) X) : Ev g mX11_about d n0 nf post nf 127 [some (.ref 0), some (.int v1), some (.int v2)] [.int s0] X := by
  exact ev_iret dX11_about_127 rfl rfl hp
theorem bX11_about_136_0 {g : GG} {d n0 nf : Nat} {post : Option Value → LX → Prop} {n : Nat} {X : LX} (hn : 146 ≤ n) (hX : Sh n X) {v1 : Int32} {v2 : Int32} {s0 : Int32} (k : Ev g mX11_about d n0 nf post n 136 [some (.ref 0), some (.int v1), some (.int v2)] [.int s0] X) : Ev g mX11_about d n0 nf post n 136 [some (.ref 0), some (.int v1), some (.int v2)] [.int s0] X := by
  exact k
theorem bX11_about_139_0 {g : GG} {d n0 nf : Nat} {post : Option Value → LX → Prop} {n : Nat} {X : LX} (hn : 146 ≤ nf) (hX : Sh nf X) {v1 : Int32} {v2 : Int32} {s0 : Int32} (hp : post (some (.int s0)) X) : Ev g mX11_about d n0 nf post nf 139 [some (.ref 0), some (.int v1), some (.int v2)] [.int s0] X := by
  exact ev_iret dX11_about_139 rfl rfl hp
theorem bX11_family_0_0 {g : GG} {d n0 nf : Nat} {post : Option Value → LX → Prop} {n : Nat} {X : LX} (hn : 146 ≤ n) (hX : Sh n X) {v1 : Int32} {v2 : Int32} (k : Ev g mX11_family d n0 nf post n 27 [some (.ref 0), some (.int v1), some (.int v2), some (.int (v2 - v2 / 10 * 10)), some (.int ((v2 / 10) - (v2 / 10) / 1000 * 1000)), some (.int (v2 / 10000)), none, none] [.int 255, .int 0, .int v1] X) : Ev g mX11_family d n0 nf post n 0 [some (.ref 0), some (.int v1), some (.int v2), none, none, none, none, none] [] X := by
  refine ev_iload_n dX11_family_0 rfl ?_
  refine ev_bipush (v := 10) dX11_family_1 kb_10 ?_
  refine ev_irem dX11_family_3 (by decide) ?_
  refine ev_istore_n dX11_family_4 (by decide) ?_
  refine ev_iload_n dX11_family_5 rfl ?_
  refine ev_bipush (v := 10) dX11_family_6 kb_10 ?_
  refine ev_idiv dX11_family_8 (by decide) ?_
  refine ev_sipush (v := 1000) dX11_family_9 ks_1000 ?_
  refine ev_irem dX11_family_12 (by decide) ?_
  refine ev_istore dX11_family_13 (by decide) ?_
  refine ev_iload_n dX11_family_15 rfl ?_
  refine ev_sipush (v := 10000) dX11_family_16 ks_10000 ?_
  refine ev_idiv dX11_family_19 (by decide) ?_
  refine ev_istore dX11_family_20 (by decide) ?_
  refine ev_iload_n dX11_family_22 rfl ?_
  refine ev_iconst (v := 0) dX11_family_23 ki_0 ?_
  refine ev_sipush (v := 255) dX11_family_24 ks_255 ?_
  exact k
theorem bX11_family_30_0 {g : GG} {d n0 nf : Nat} {post : Option Value → LX → Prop} {n : Nat} {X : LX} (hn : 146 ≤ n) (hX : Sh n X) {v1 : Int32} {v2 : Int32} {v3 : Int32} {v4 : Int32} {v5 : Int32} {s0 : Int32} (c0 : ¬ s0 = 0) (c1 : ¬ v2 < 0) (k : Ev g mX11_family d n0 nf post n 41 [some (.ref 0), some (.int v1), some (.int v2), some (.int v3), some (.int v4), some (.int v5), none, none] [.int 6, .int 1, .int v3] X) : Ev g mX11_family d n0 nf post n 30 [some (.ref 0), some (.int v1), some (.int v2), some (.int v3), some (.int v4), some (.int v5), none, none] [.int s0] X := by
  refine ev_ifF (tgt := 53) dX11_family_30 (by decide) c0 ?_
  refine ev_iload_n dX11_family_33 rfl ?_
  refine ev_ifF (tgt := 53) dX11_family_34 (by decide) c1 ?_
  refine ev_iload_n dX11_family_37 rfl ?_
  refine ev_iconst (v := 1) dX11_family_38 ki_1 ?_
  refine ev_bipush (v := 6) dX11_family_39 kb_6 ?_
  exact k
theorem bX11_family_30_1 {g : GG} {d n0 nf : Nat} {post : Option Value → LX → Prop} {n : Nat} {X : LX} (hn : 146 ≤ nf) (hX : Sh nf X) {v1 : Int32} {v2 : Int32} {v3 : Int32} {v4 : Int32} {v5 : Int32} {s0 : Int32} (c0 : ¬ s0 = 0) (c1 : v2 < 0) (hp : post (some (.int (-1000000001))) X) : Ev g mX11_family d n0 nf post nf 30 [some (.ref 0), some (.int v1), some (.int v2), some (.int v3), some (.int v4), some (.int v5), none, none] [.int s0] X := by
  refine ev_ifF (tgt := 53) dX11_family_30 (by decide) c0 ?_
  refine ev_iload_n dX11_family_33 rfl ?_
  refine ev_ifT (tgt := 53) dX11_family_34 (by decide) c1 ?_
  refine ev_ldc (v := (-1000000001)) dX11_family_53 kw_11_61 ?_
  exact ev_iret dX11_family_55 rfl rfl hp
theorem bX11_family_30_2 {g : GG} {d n0 nf : Nat} {post : Option Value → LX → Prop} {n : Nat} {X : LX} (hn : 146 ≤ nf) (hX : Sh nf X) {v1 : Int32} {v2 : Int32} {v3 : Int32} {v4 : Int32} {v5 : Int32} {s0 : Int32} (c0 : s0 = 0) (hp : post (some (.int (-1000000001))) X) : Ev g mX11_family d n0 nf post nf 30 [some (.ref 0), some (.int v1), some (.int v2), some (.int v3), some (.int v4), some (.int v5), none, none] [.int s0] X := by
  refine ev_ifT (tgt := 53) dX11_family_30 (by decide) c0 ?_
  refine ev_ldc (v := (-1000000001)) dX11_family_53 kw_11_61 ?_
  exact ev_iret dX11_family_55 rfl rfl hp
theorem bX11_family_44_0 {g : GG} {d n0 nf : Nat} {post : Option Value → LX → Prop} {n : Nat} {X : LX} (hn : 146 ≤ nf) (hX : Sh nf X) {v1 : Int32} {v2 : Int32} {v3 : Int32} {v4 : Int32} {v5 : Int32} {s0 : Int32} (c0 : ¬ s0 = 0) (c1 : ¬ v5 ≤ 1) (hp : post (some (.int (-1000000001))) X) : Ev g mX11_family d n0 nf post nf 44 [some (.ref 0), some (.int v1), some (.int v2), some (.int v3), some (.int v4), some (.int v5), none, none] [.int s0] X := by
  refine ev_ifF (tgt := 53) dX11_family_44 (by decide) c0 ?_
  refine ev_iload dX11_family_47 rfl ?_
  refine ev_iconst (v := 1) dX11_family_49 ki_1 ?_
  refine ev_icmpF (tgt := 56) dX11_family_50 (by decide) c1 ?_
  refine ev_ldc (v := (-1000000001)) dX11_family_53 kw_11_61 ?_
  exact ev_iret dX11_family_55 rfl rfl hp
theorem bX11_family_44_1 {g : GG} {d n0 nf : Nat} {post : Option Value → LX → Prop} {n : Nat} {X : LX} (hn : 146 ≤ nf) (hX : Sh nf X) {v1 : Int32} {v2 : Int32} {v3 : Int32} {v4 : Int32} {v5 : Int32} {s0 : Int32} (c0 : ¬ s0 = 0) (c1 : v5 ≤ 1) (c2 : ¬ X 37 0 < 12) (hp : post (some (.int (-1000000003))) X) : Ev g mX11_family d n0 nf post nf 44 [some (.ref 0), some (.int v1), some (.int v2), some (.int v3), some (.int v4), some (.int v5), none, none] [.int s0] X := by
  refine ev_ifF (tgt := 53) dX11_family_44 (by decide) c0 ?_
  refine ev_iload dX11_family_47 rfl ?_
  refine ev_iconst (v := 1) dX11_family_49 ki_1 ?_
  refine ev_icmpT (tgt := 56) dX11_family_50 (by decide) c1 ?_
  refine ev_aload_n dX11_family_56 rfl ?_
  refine ev_getS (q := 1) dX11_family_57 fo_11_10 (by omega) lo_0 rfl (sh_0_0 hX (by omega)) (by decide) ?_
  refine ev_getS (q := 37) dX11_family_60 fo_11_144 (by omega) lo_1 rfl (sh_1_2 hX (by omega)) (by decide) ?_
  refine ev_astore dX11_family_63 (by decide) ?_
  refine ev_aload dX11_family_65 rfl ?_
  refine ev_getI dX11_family_67 fo_11_148 (by omega) lo_37 rfl ?_
  refine ev_bipush (v := 12) dX11_family_70 kb_12 ?_
  refine ev_icmpF (tgt := 78) dX11_family_72 (by decide) c2 ?_
  refine ev_ldc (v := (-1000000003)) dX11_family_75 kw_11_72 ?_
  exact ev_iret dX11_family_77 rfl rfl hp
theorem bX11_family_44_2 {g : GG} {d n0 nf : Nat} {post : Option Value → LX → Prop} {n : Nat} {X : LX} (hn : 146 ≤ nf) (hX : Sh nf X) {v1 : Int32} {v2 : Int32} {v3 : Int32} {v4 : Int32} {v5 : Int32} {s0 : Int32} {j1 : Nat} {j2 : Nat} {j3 : Nat} {j4 : Nat} (c0 : ¬ s0 = 0) (c1 : v5 ≤ 1) (c2 : X 37 0 < 12) (hj1 : X 37 0 = nI j1) (b0 : j1 < 12) (hj2 : X 37 0 = nI j2) (b1 : j2 < 12) (hj3 : X 37 0 = nI j3) (b2 : j3 < 12) (hj4 : X 37 0 = nI j4) (b3 : j4 < 12) (hp : post (some (.int (X 37 0))) (lx_up (lx_up (lx_up (lx_up (lx_up X 37 0 ((X 37 0) + 1)) 38 j1 v1) 39 j2 v3) 41 j3 v4) 40 j4 v5)) : Ev g mX11_family d n0 nf post nf 44 [some (.ref 0), some (.int v1), some (.int v2), some (.int v3), some (.int v4), some (.int v5), none, none] [.int s0] X := by
  refine ev_ifF (tgt := 53) dX11_family_44 (by decide) c0 ?_
  refine ev_iload dX11_family_47 rfl ?_
  refine ev_iconst (v := 1) dX11_family_49 ki_1 ?_
  refine ev_icmpT (tgt := 56) dX11_family_50 (by decide) c1 ?_
  refine ev_aload_n dX11_family_56 rfl ?_
  refine ev_getS (q := 1) dX11_family_57 fo_11_10 (by omega) lo_0 rfl (sh_0_0 hX (by omega)) (by decide) ?_
  refine ev_getS (q := 37) dX11_family_60 fo_11_144 (by omega) lo_1 rfl (sh_1_2 hX (by omega)) (by decide) ?_
  refine ev_astore dX11_family_63 (by decide) ?_
  refine ev_aload dX11_family_65 rfl ?_
  refine ev_getI dX11_family_67 fo_11_148 (by omega) lo_37 rfl ?_
  refine ev_bipush (v := 12) dX11_family_70 kb_12 ?_
  refine ev_icmpT (tgt := 78) dX11_family_72 (by decide) c2 ?_
  refine ev_aload dX11_family_78 rfl ?_
  refine ev_dup dX11_family_80 rfl ?_
  refine ev_getI dX11_family_81 fo_11_148 (by omega) lo_37 rfl ?_
  refine ev_dup_x1 dX11_family_84 rfl rfl ?_
  refine ev_iconst (v := 1) dX11_family_85 ki_1 ?_
  refine ev_iadd dX11_family_86 ?_
  refine ev_putI dX11_family_87 fo_11_148 (by omega) lo_37 rfl rfl rfl ?_
  have hX1 : Sh _ (lx_up X 37 0 ((X 37 0) + 1)) := Sh.upF hX (by rw [lo_37]; decide) (by decide)
  refine ev_istore dX11_family_90 (by decide) ?_
  refine ev_aload dX11_family_92 rfl ?_
  refine ev_getS (q := 38) dX11_family_94 fo_11_151 (by omega) lo_37 rfl (sh_37_1 hX1 (by omega)) (by decide) ?_
  refine ev_iload dX11_family_97 rfl ?_
  refine ev_iload_n dX11_family_99 rfl ?_
  refine ev_iast dX11_family_100 (by omega) ly_38 hj1 b0 ?_
  have hX2 : Sh _ (lx_up (lx_up X 37 0 ((X 37 0) + 1)) 38 j1 v1) := Sh.upA hX1 (by rw [ly_38]; exact (by decide : 0 < 2))
  refine ev_aload dX11_family_101 rfl ?_
  refine ev_getS (q := 39) dX11_family_103 fo_11_154 (by omega) lo_37 rfl (sh_37_2 hX2 (by omega)) (by decide) ?_
  refine ev_iload dX11_family_106 rfl ?_
  refine ev_iload_n dX11_family_108 rfl ?_
  refine ev_iast dX11_family_109 (by omega) ly_39 hj2 b1 ?_
  have hX3 : Sh _ (lx_up (lx_up (lx_up X 37 0 ((X 37 0) + 1)) 38 j1 v1) 39 j2 v3) := Sh.upA hX2 (by rw [ly_39]; exact (by decide : 0 < 2))
  refine ev_aload dX11_family_110 rfl ?_
  refine ev_getS (q := 41) dX11_family_112 fo_11_157 (by omega) lo_37 rfl (sh_37_4 hX3 (by omega)) (by decide) ?_
  refine ev_iload dX11_family_115 rfl ?_
  refine ev_iload dX11_family_117 rfl ?_
  refine ev_iast dX11_family_119 (by omega) ly_41 hj3 b2 ?_
  have hX4 : Sh _ (lx_up (lx_up (lx_up (lx_up X 37 0 ((X 37 0) + 1)) 38 j1 v1) 39 j2 v3) 41 j3 v4) := Sh.upA hX3 (by rw [ly_41]; exact (by decide : 0 < 2))
  refine ev_aload dX11_family_120 rfl ?_
  refine ev_getS (q := 40) dX11_family_122 fo_11_160 (by omega) lo_37 rfl (sh_37_3 hX4 (by omega)) (by decide) ?_
  refine ev_iload dX11_family_125 rfl ?_
  refine ev_iload dX11_family_127 rfl ?_
  refine ev_iast dX11_family_129 (by omega) ly_40 hj4 b3 ?_
  have hX5 : Sh _ (lx_up (lx_up (lx_up (lx_up (lx_up X 37 0 ((X 37 0) + 1)) 38 j1 v1) 39 j2 v3) 41 j3 v4) 40 j4 v5) := Sh.upA hX4 (by rw [ly_40]; exact (by decide : 0 < 2))
  refine ev_iload dX11_family_130 rfl ?_
  exact ev_iret dX11_family_132 rfl rfl hp
theorem bX11_family_44_3 {g : GG} {d n0 nf : Nat} {post : Option Value → LX → Prop} {n : Nat} {X : LX} (hn : 146 ≤ nf) (hX : Sh nf X) {v1 : Int32} {v2 : Int32} {v3 : Int32} {v4 : Int32} {v5 : Int32} {s0 : Int32} (c0 : s0 = 0) (hp : post (some (.int (-1000000001))) X) : Ev g mX11_family d n0 nf post nf 44 [some (.ref 0), some (.int v1), some (.int v2), some (.int v3), some (.int v4), some (.int v5), none, none] [.int s0] X := by
  refine ev_ifT (tgt := 53) dX11_family_44 (by decide) c0 ?_
  refine ev_ldc (v := (-1000000001)) dX11_family_53 kw_11_61 ?_
  exact ev_iret dX11_family_55 rfl rfl hp
theorem bX11_likes_0_0 {g : GG} {d n0 nf : Nat} {post : Option Value → LX → Prop} {n : Nat} {X : LX} (hn : 146 ≤ n) (hX : Sh n X) {v1 : Int32} {v2 : Int32} {v3 : Int32} (k : Ev g mX11_likes d n0 nf post n 8 [some (.ref 0), some (.int v1), some (.int v2), some (.int v3), none] [.int v1, .ref 37] X) : Ev g mX11_likes d n0 nf post n 0 [some (.ref 0), some (.int v1), some (.int v2), some (.int v3), none] [] X := by
  refine ev_aload_n dX11_likes_0 rfl ?_
  refine ev_getS (q := 1) dX11_likes_1 fo_11_10 (by omega) lo_0 rfl (sh_0_0 hX (by omega)) (by decide) ?_
  refine ev_getS (q := 37) dX11_likes_4 fo_11_144 (by omega) lo_1 rfl (sh_1_2 hX (by omega)) (by decide) ?_
  refine ev_iload_n dX11_likes_7 rfl ?_
  exact k
theorem bX11_likes_11_0 {g : GG} {d n0 nf : Nat} {post : Option Value → LX → Prop} {n : Nat} {X : LX} (hn : 146 ≤ n) (hX : Sh n X) {v1 : Int32} {v2 : Int32} {v3 : Int32} {s0 : Int32} (c0 : ¬ s0 = 0) (k : Ev g mX11_likes d n0 nf post n 22 [some (.ref 0), some (.int v1), some (.int v2), some (.int v3), none] [.int v2, .ref 23] X) : Ev g mX11_likes d n0 nf post n 11 [some (.ref 0), some (.int v1), some (.int v2), some (.int v3), none] [.int s0] X := by
  refine ev_ifF (tgt := 35) dX11_likes_11 (by decide) c0 ?_
  refine ev_aload_n dX11_likes_14 rfl ?_
  refine ev_getS (q := 1) dX11_likes_15 fo_11_10 (by omega) lo_0 rfl (sh_0_0 hX (by omega)) (by decide) ?_
  refine ev_getS (q := 23) dX11_likes_18 fo_11_96 (by omega) lo_1 rfl (sh_1_1 hX (by omega)) (by decide) ?_
  refine ev_iload_n dX11_likes_21 rfl ?_
  exact k
theorem bX11_likes_11_1 {g : GG} {d n0 nf : Nat} {post : Option Value → LX → Prop} {n : Nat} {X : LX} (hn : 146 ≤ nf) (hX : Sh nf X) {v1 : Int32} {v2 : Int32} {v3 : Int32} {s0 : Int32} (c0 : s0 = 0) (hp : post (some (.int (-1000000001))) X) : Ev g mX11_likes d n0 nf post nf 11 [some (.ref 0), some (.int v1), some (.int v2), some (.int v3), none] [.int s0] X := by
  refine ev_ifT (tgt := 35) dX11_likes_11 (by decide) c0 ?_
  refine ev_ldc (v := (-1000000001)) dX11_likes_35 kw_11_61 ?_
  exact ev_iret dX11_likes_37 rfl rfl hp
theorem bX11_likes_25_0 {g : GG} {d n0 nf : Nat} {post : Option Value → LX → Prop} {n : Nat} {X : LX} (hn : 146 ≤ n) (hX : Sh n X) {v1 : Int32} {v2 : Int32} {v3 : Int32} {s0 : Int32} (c0 : ¬ s0 = 0) (k : Ev g mX11_likes d n0 nf post n 29 [some (.ref 0), some (.int v1), some (.int v2), some (.int v3), none] [.int v3] X) : Ev g mX11_likes d n0 nf post n 25 [some (.ref 0), some (.int v1), some (.int v2), some (.int v3), none] [.int s0] X := by
  refine ev_ifF (tgt := 35) dX11_likes_25 (by decide) c0 ?_
  refine ev_iload_n dX11_likes_28 rfl ?_
  exact k
theorem bX11_likes_25_1 {g : GG} {d n0 nf : Nat} {post : Option Value → LX → Prop} {n : Nat} {X : LX} (hn : 146 ≤ nf) (hX : Sh nf X) {v1 : Int32} {v2 : Int32} {v3 : Int32} {s0 : Int32} (c0 : s0 = 0) (hp : post (some (.int (-1000000001))) X) : Ev g mX11_likes d n0 nf post nf 25 [some (.ref 0), some (.int v1), some (.int v2), some (.int v3), none] [.int s0] X := by
  refine ev_ifT (tgt := 35) dX11_likes_25 (by decide) c0 ?_
  refine ev_ldc (v := (-1000000001)) dX11_likes_35 kw_11_61 ?_
  exact ev_iret dX11_likes_37 rfl rfl hp
theorem bX11_likes_32_0 {g : GG} {d n0 nf : Nat} {post : Option Value → LX → Prop} {n : Nat} {X : LX} (hn : 146 ≤ nf) (hX : Sh nf X) {v1 : Nat} {v2 : Nat} {v3 : Int32} {s0 : Int32} (c0 : s0 = 0) (hp : post (some (.int (-1000000001))) X) : Ev g mX11_likes d n0 nf post nf 32 [some (.ref 0), some (.int (nI v1)), some (.int (nI v2)), some (.int v3), none] [.int s0] X := by
  refine ev_ifF (tgt := 38) dX11_likes_32 (by decide) c0 ?_
  refine ev_ldc (v := (-1000000001)) dX11_likes_35 kw_11_61 ?_
  exact ev_iret dX11_likes_37 rfl rfl hp
theorem bX11_likes_32_1 {g : GG} {d n0 nf : Nat} {post : Option Value → LX → Prop} {n : Nat} {X : LX} (hn : 146 ≤ nf) (hX : Sh nf X) {v1 : Nat} {v2 : Nat} {v3 : Int32} {s0 : Int32} (c0 : ¬ s0 = 0) (b0 : v1 < 12) (b1 : v2 < 10) (b2 : v1 < 12) (b3 : v2 < 10) (hp : post (some (.int (X (43 + 1 + v1) v2))) (lx_up X (43 + 1 + v1) v2 v3)) : Ev g mX11_likes d n0 nf post nf 32 [some (.ref 0), some (.int (nI v1)), some (.int (nI v2)), some (.int v3), none] [.int s0] X := by
  refine ev_ifT (tgt := 38) dX11_likes_32 (by decide) c0 ?_
  refine ev_aload_n dX11_likes_38 rfl ?_
  refine ev_getS (q := 1) dX11_likes_39 fo_11_10 (by omega) lo_0 rfl (sh_0_0 hX (by omega)) (by decide) ?_
  refine ev_getS (q := 37) dX11_likes_42 fo_11_144 (by omega) lo_1 rfl (sh_1_2 hX (by omega)) (by decide) ?_
  refine ev_getS (q := 43) dX11_likes_45 fo_11_167 (by omega) lo_37 rfl (sh_37_6 hX (by omega)) (by decide) ?_
  refine ev_iload_n dX11_likes_48 rfl ?_
  refine ev_aald (q := 43 + 1 + v1) dX11_likes_49 (by omega) (Or.inl ly_43) rfl b0 (hX.2 43 v1 (by omega) (Or.inl (by rw [ly_43])) (by rw [ly_43]; exact b0)) (by first | omega | (have := LY_l ly_43; have := LY_lt (show (LY 43).1 < 99 by rw [ly_43]; exact (by decide : 2 < 99)); omega)) ?_
  refine ev_iload_n dX11_likes_50 rfl ?_
  refine ev_iald dX11_likes_51 (by have := b0; omega) (lyr_43 _ b0) rfl b1 ?_
  refine ev_istore dX11_likes_52 (by decide) ?_
  refine ev_aload_n dX11_likes_54 rfl ?_
  refine ev_getS (q := 1) dX11_likes_55 fo_11_10 (by omega) lo_0 rfl (sh_0_0 hX (by omega)) (by decide) ?_
  refine ev_getS (q := 37) dX11_likes_58 fo_11_144 (by omega) lo_1 rfl (sh_1_2 hX (by omega)) (by decide) ?_
  refine ev_getS (q := 43) dX11_likes_61 fo_11_167 (by omega) lo_37 rfl (sh_37_6 hX (by omega)) (by decide) ?_
  refine ev_iload_n dX11_likes_64 rfl ?_
  refine ev_aald (q := 43 + 1 + v1) dX11_likes_65 (by omega) (Or.inl ly_43) rfl b2 (hX.2 43 v1 (by omega) (Or.inl (by rw [ly_43])) (by rw [ly_43]; exact b2)) (by first | omega | (have := LY_l ly_43; have := LY_lt (show (LY 43).1 < 99 by rw [ly_43]; exact (by decide : 2 < 99)); omega)) ?_
  refine ev_iload_n dX11_likes_66 rfl ?_
  refine ev_iload_n dX11_likes_67 rfl ?_
  refine ev_iast dX11_likes_68 (by have := b2; omega) (lyr_43 _ b2) rfl b3 ?_
  have hX1 : Sh _ (lx_up X (43 + 1 + v1) v2 v3) := Sh.upA hX (by rw [(lyr_43 _ b2)]; exact (by decide : 0 < 2))
  refine ev_iload dX11_likes_69 rfl ?_
  exact ev_iret dX11_likes_71 rfl rfl hp
theorem bX11_lay_0_0 {g : GG} {d n0 nf : Nat} {post : Option Value → LX → Prop} {n : Nat} {X : LX} (hn : 146 ≤ n) (hX : Sh n X) {v1 : Int32} {v2 : Int32} (k : Ev g mX11_lay d n0 nf post n 8 [some (.ref 0), some (.int v1), some (.int v2), none, none, none, none] [.int v1, .ref 37] X) : Ev g mX11_lay d n0 nf post n 0 [some (.ref 0), some (.int v1), some (.int v2), none, none, none, none] [] X := by
  refine ev_aload_n dX11_lay_0 rfl ?_
  refine ev_getS (q := 1) dX11_lay_1 fo_11_10 (by omega) lo_0 rfl (sh_0_0 hX (by omega)) (by decide) ?_
  refine ev_getS (q := 37) dX11_lay_4 fo_11_144 (by omega) lo_1 rfl (sh_1_2 hX (by omega)) (by decide) ?_
  refine ev_iload_n dX11_lay_7 rfl ?_
  exact k
theorem bX11_lay_11_0 {g : GG} {d n0 nf : Nat} {post : Option Value → LX → Prop} {n : Nat} {X : LX} (hn : 146 ≤ n) (hX : Sh n X) {v1 : Int32} {v2 : Int32} {s0 : Int32} (c0 : ¬ s0 = 0) (k : Ev g mX11_lay d n0 nf post n 19 [some (.ref 0), some (.int v1), some (.int v2), none, none, none, none] [.int v2, .ref 127] X) : Ev g mX11_lay d n0 nf post n 11 [some (.ref 0), some (.int v1), some (.int v2), none, none, none, none] [.int s0] X := by
  refine ev_ifF (tgt := 25) dX11_lay_11 (by decide) c0 ?_
  refine ev_aload_n dX11_lay_14 rfl ?_
  refine ev_getS (q := 127) dX11_lay_15 fo_11_49 (by omega) lo_0 rfl (sh_0_5 hX (by omega)) (by decide) ?_
  refine ev_iload_n dX11_lay_18 rfl ?_
  exact k
theorem bX11_lay_11_1 {g : GG} {d n0 nf : Nat} {post : Option Value → LX → Prop} {n : Nat} {X : LX} (hn : 146 ≤ nf) (hX : Sh nf X) {v1 : Int32} {v2 : Int32} {s0 : Int32} (c0 : s0 = 0) (hp : post (some (.int (-1000000001))) X) : Ev g mX11_lay d n0 nf post nf 11 [some (.ref 0), some (.int v1), some (.int v2), none, none, none, none] [.int s0] X := by
  refine ev_ifT (tgt := 25) dX11_lay_11 (by decide) c0 ?_
  refine ev_ldc (v := (-1000000001)) dX11_lay_25 kw_11_61 ?_
  exact ev_iret dX11_lay_27 rfl rfl hp
theorem bX11_lay_22_0 {g : GG} {d n0 nf : Nat} {post : Option Value → LX → Prop} {n : Nat} {X : LX} (hn : 146 ≤ nf) (hX : Sh nf X) {v1 : Int32} {v2 : Int32} {s0 : Int32} (c0 : s0 = 0) (hp : post (some (.int (-1000000001))) X) : Ev g mX11_lay d n0 nf post nf 22 [some (.ref 0), some (.int v1), some (.int v2), none, none, none, none] [.int s0] X := by
  refine ev_ifF (tgt := 28) dX11_lay_22 (by decide) c0 ?_
  refine ev_ldc (v := (-1000000001)) dX11_lay_25 kw_11_61 ?_
  exact ev_iret dX11_lay_27 rfl rfl hp
theorem bX11_lay_22_1 {g : GG} {d n0 nf : Nat} {post : Option Value → LX → Prop} {n : Nat} {X : LX} (hn : 146 ≤ n) (hX : Sh n X) {v1 : Int32} {v2 : Int32} {s0 : Int32} (c0 : ¬ s0 = 0) (k : Ev g mX11_lay d n0 nf post n 33 [some (.ref 0), some (.int v1), some (.int v2), none, none, none, none] [.int v2, .ref 127] X) : Ev g mX11_lay d n0 nf post n 22 [some (.ref 0), some (.int v1), some (.int v2), none, none, none, none] [.int s0] X := by
  refine ev_ifT (tgt := 28) dX11_lay_22 (by decide) c0 ?_
  refine ev_aload_n dX11_lay_28 rfl ?_
  refine ev_getS (q := 127) dX11_lay_29 fo_11_49 (by omega) lo_0 rfl (sh_0_5 hX (by omega)) (by decide) ?_
  refine ev_iload_n dX11_lay_32 rfl ?_
  exact k
theorem bX11_lay_36_0 {g : GG} {d n0 nf : Nat} {post : Option Value → LX → Prop} {n : Nat} {X : LX} (hn : 146 ≤ nf) (hX : Sh nf X) {v1 : Int32} {v2 : Nat} {s0 : Int32} (c0 : ¬ s0 = 0) (hp : post (some (.int (-1000000011))) X) : Ev g mX11_lay d n0 nf post nf 36 [some (.ref 0), some (.int v1), some (.int (nI v2)), none, none, none, none] [.int s0] X := by
  refine ev_ifF (tgt := 42) dX11_lay_36 (by decide) c0 ?_
  refine ev_ldc (v := (-1000000011)) dX11_lay_39 kw_11_176 ?_
  exact ev_iret dX11_lay_41 rfl rfl hp
theorem bX11_lay_36_1 {g : GG} {d n0 nf : Nat} {post : Option Value → LX → Prop} {n : Nat} {X : LX} (hn : 146 ≤ n) (hX : Sh n X) {v1 : Int32} {v2 : Nat} {s0 : Int32} (c0 : s0 = 0) (b0 : v2 < 2) (k : Ev g mX11_lay d n0 nf post n 61 [some (.ref 0), some (.int v1), some (.int (nI v2)), none, none, none, none] [.int (X 131 v2), .int (X 23 0)] X) : Ev g mX11_lay d n0 nf post n 36 [some (.ref 0), some (.int v1), some (.int (nI v2)), none, none, none, none] [.int s0] X := by
  refine ev_ifT (tgt := 42) dX11_lay_36 (by decide) c0 ?_
  refine ev_aload_n dX11_lay_42 rfl ?_
  refine ev_getS (q := 1) dX11_lay_43 fo_11_10 (by omega) lo_0 rfl (sh_0_0 hX (by omega)) (by decide) ?_
  refine ev_getS (q := 23) dX11_lay_46 fo_11_96 (by omega) lo_1 rfl (sh_1_1 hX (by omega)) (by decide) ?_
  refine ev_getI dX11_lay_49 fo_11_100 (by omega) lo_23 rfl ?_
  refine ev_aload_n dX11_lay_52 rfl ?_
  refine ev_getS (q := 127) dX11_lay_53 fo_11_49 (by omega) lo_0 rfl (sh_0_5 hX (by omega)) (by decide) ?_
  refine ev_getS (q := 131) dX11_lay_56 fo_11_177 (by omega) lo_127 rfl (sh_127_1 hX (by omega)) (by decide) ?_
  refine ev_iload_n dX11_lay_59 rfl ?_
  refine ev_iald dX11_lay_60 (by omega) ly_131 rfl b0 ?_
  exact k
theorem bX11_lay_64_0 {g : GG} {d n0 nf : Nat} {post : Option Value → LX → Prop} {n : Nat} {X : LX} (hn : 146 ≤ n) (hX : Sh n X) {v1 : Int32} {v2 : Int32} {s0 : Int32} (k : Ev g mX11_lay d n0 nf post n 71 [some (.ref 0), some (.int v1), some (.int v2), some (.int s0), some (.int 0), some (.int 0), none] [] X) : Ev g mX11_lay d n0 nf post n 64 [some (.ref 0), some (.int v1), some (.int v2), none, none, none, none] [.int s0] X := by
  refine ev_istore_n dX11_lay_64 (by decide) ?_
  refine ev_iconst (v := 0) dX11_lay_65 ki_0 ?_
  refine ev_istore dX11_lay_66 (by decide) ?_
  refine ev_iconst (v := 0) dX11_lay_68 ki_0 ?_
  refine ev_istore dX11_lay_69 (by decide) ?_
  exact k
theorem bX11_lay_71_0 {g : GG} {d n0 nf : Nat} {post : Option Value → LX → Prop} {n : Nat} {X : LX} (hn : 146 ≤ n) (hX : Sh n X) {v1 : Int32} {v2 : Nat} {v3 : Int32} {v4 : Int32} {v5 : Nat} (c0 : ¬ v3 ≤ nI v5) (b0 : v2 < 2) (b1 : v5 < 16) (k : Ev g mX11_lay d n0 nf post n 93 [some (.ref 0), some (.int v1), some (.int (nI v2)), some (.int v3), some (.int v4), some (.int (nI v5)), some (.int (X (128 + 1 + v2) v5))] [.int (X (128 + 1 + v2) v5)] X) : Ev g mX11_lay d n0 nf post n 71 [some (.ref 0), some (.int v1), some (.int (nI v2)), some (.int v3), some (.int v4), some (.int (nI v5)), none] [] X := by
  refine ev_iload dX11_lay_71 rfl ?_
  refine ev_iload_n dX11_lay_73 rfl ?_
  refine ev_icmpF (tgt := 125) dX11_lay_74 (by decide) c0 ?_
  refine ev_aload_n dX11_lay_77 rfl ?_
  refine ev_getS (q := 127) dX11_lay_78 fo_11_49 (by omega) lo_0 rfl (sh_0_5 hX (by omega)) (by decide) ?_
  refine ev_getS (q := 128) dX11_lay_81 fo_11_186 (by omega) lo_127 rfl (sh_127_0 hX (by omega)) (by decide) ?_
  refine ev_iload_n dX11_lay_84 rfl ?_
  refine ev_aald (q := 128 + 1 + v2) dX11_lay_85 (by omega) (Or.inr ly_128) rfl b0 (hX.2 128 v2 (by omega) (Or.inr (by rw [ly_128])) (by rw [ly_128]; exact b0)) (by first | omega | (have := LY_l ly_128; have := LY_lt (show (LY 128).1 < 99 by rw [ly_128]; exact (by decide : 3 < 99)); omega)) ?_
  refine ev_iload dX11_lay_86 rfl ?_
  refine ev_sald dX11_lay_88 (by have := b0; omega) (lyr_128 _ b0) rfl b1 ?_
  refine ev_istore dX11_lay_89 (by decide) ?_
  refine ev_iload dX11_lay_91 rfl ?_
  exact k
theorem bX11_lay_71_1 {g : GG} {d n0 nf : Nat} {post : Option Value → LX → Prop} {n : Nat} {X : LX} (hn : 146 ≤ nf) (hX : Sh nf X) {v1 : Int32} {v2 : Nat} {v3 : Int32} {v4 : Int32} {v5 : Nat} (c0 : v3 ≤ nI v5) (hp : post (some (.int v4)) X) : Ev g mX11_lay d n0 nf post nf 71 [some (.ref 0), some (.int v1), some (.int (nI v2)), some (.int v3), some (.int v4), some (.int (nI v5)), none] [] X := by
  refine ev_iload dX11_lay_71 rfl ?_
  refine ev_iload_n dX11_lay_73 rfl ?_
  refine ev_icmpT (tgt := 125) dX11_lay_74 (by decide) c0 ?_
  refine ev_iload dX11_lay_125 rfl ?_
  exact ev_iret dX11_lay_127 rfl rfl hp
theorem bX11_lay_96_0 {g : GG} {d n0 nf : Nat} {post : Option Value → LX → Prop} {n : Nat} {X : LX} (hn : 146 ≤ n) (hX : Sh n X) {v1 : Nat} {v2 : Int32} {v3 : Int32} {v4 : Int32} {v5 : Nat} {v6 : Int32} {s0 : Int32} (c0 : ¬ s0 = 0) (b0 : v1 < 12) (b1 : v5 < 10) (k : Ev g mX11_lay d n0 nf post n 71 [some (.ref 0), some (.int (nI v1)), some (.int v2), some (.int v3), some (.int (v4 + 1)), some (.int ((nI v5) + 1)), some (.int v6)] [] (lx_up X (43 + 1 + v1) v5 v6)) : Ev g mX11_lay d n0 nf post n 96 [some (.ref 0), some (.int (nI v1)), some (.int v2), some (.int v3), some (.int v4), some (.int (nI v5)), some (.int v6)] [.int s0] X := by
  refine ev_ifF (tgt := 119) dX11_lay_96 (by decide) c0 ?_
  refine ev_aload_n dX11_lay_99 rfl ?_
  refine ev_getS (q := 1) dX11_lay_100 fo_11_10 (by omega) lo_0 rfl (sh_0_0 hX (by omega)) (by decide) ?_
  refine ev_getS (q := 37) dX11_lay_103 fo_11_144 (by omega) lo_1 rfl (sh_1_2 hX (by omega)) (by decide) ?_
  refine ev_getS (q := 43) dX11_lay_106 fo_11_167 (by omega) lo_37 rfl (sh_37_6 hX (by omega)) (by decide) ?_
  refine ev_iload_n dX11_lay_109 rfl ?_
  refine ev_aald (q := 43 + 1 + v1) dX11_lay_110 (by omega) (Or.inl ly_43) rfl b0 (hX.2 43 v1 (by omega) (Or.inl (by rw [ly_43])) (by rw [ly_43]; exact b0)) (by first | omega | (have := LY_l ly_43; have := LY_lt (show (LY 43).1 < 99 by rw [ly_43]; exact (by decide : 2 < 99)); omega)) ?_
  refine ev_iload dX11_lay_111 rfl ?_
  refine ev_iload dX11_lay_113 rfl ?_
  refine ev_iast dX11_lay_115 (by have := b0; omega) (lyr_43 _ b0) rfl b1 ?_
  have hX1 : Sh _ (lx_up X (43 + 1 + v1) v5 v6) := Sh.upA hX (by rw [(lyr_43 _ b0)]; exact (by decide : 0 < 2))
  refine ev_iinc (v := v4 + 1) dX11_lay_116 rfl (by rw [show Int32.ofInt 1 = 1 from ki_1]) (by decide) ?_
  refine ev_iinc (v := (nI v5) + 1) dX11_lay_119 rfl (by rw [show Int32.ofInt 1 = 1 from ki_1]) (by decide) ?_
  refine ev_goto (tgt := 71) dX11_lay_122 (by decide) ?_
  exact k
theorem bX11_lay_96_1 {g : GG} {d n0 nf : Nat} {post : Option Value → LX → Prop} {n : Nat} {X : LX} (hn : 146 ≤ n) (hX : Sh n X) {v1 : Nat} {v2 : Int32} {v3 : Int32} {v4 : Int32} {v5 : Nat} {v6 : Int32} {s0 : Int32} (c0 : s0 = 0) (k : Ev g mX11_lay d n0 nf post n 71 [some (.ref 0), some (.int (nI v1)), some (.int v2), some (.int v3), some (.int v4), some (.int ((nI v5) + 1)), some (.int v6)] [] X) : Ev g mX11_lay d n0 nf post n 96 [some (.ref 0), some (.int (nI v1)), some (.int v2), some (.int v3), some (.int v4), some (.int (nI v5)), some (.int v6)] [.int s0] X := by
  refine ev_ifT (tgt := 119) dX11_lay_96 (by decide) c0 ?_
  refine ev_iinc (v := (nI v5) + 1) dX11_lay_119 rfl (by rw [show Int32.ofInt 1 = 1 from ki_1]) (by decide) ?_
  refine ev_goto (tgt := 71) dX11_lay_122 (by decide) ?_
  exact k
theorem bX11_may_0_0 {g : GG} {d n0 nf : Nat} {post : Option Value → LX → Prop} {n : Nat} {X : LX} (hn : 146 ≤ n) (hX : Sh n X) {v1 : Int32} {v2 : Int32} (k : Ev g mX11_may d n0 nf post n 8 [some (.ref 0), some (.int v1), some (.int v2)] [.int v1, .ref 37] X) : Ev g mX11_may d n0 nf post n 0 [some (.ref 0), some (.int v1), some (.int v2)] [] X := by
  refine ev_aload_n dX11_may_0 rfl ?_
  refine ev_getS (q := 1) dX11_may_1 fo_11_10 (by omega) lo_0 rfl (sh_0_0 hX (by omega)) (by decide) ?_
  refine ev_getS (q := 37) dX11_may_4 fo_11_144 (by omega) lo_1 rfl (sh_1_2 hX (by omega)) (by decide) ?_
  refine ev_iload_n dX11_may_7 rfl ?_
  exact k
theorem bX11_may_11_0 {g : GG} {d n0 nf : Nat} {post : Option Value → LX → Prop} {n : Nat} {X : LX} (hn : 146 ≤ n) (hX : Sh n X) {v1 : Int32} {v2 : Int32} {s0 : Int32} (c0 : ¬ s0 = 0) (k : Ev g mX11_may d n0 nf post n 22 [some (.ref 0), some (.int v1), some (.int v2)] [.int v2, .ref 23] X) : Ev g mX11_may d n0 nf post n 11 [some (.ref 0), some (.int v1), some (.int v2)] [.int s0] X := by
  refine ev_ifF (tgt := 28) dX11_may_11 (by decide) c0 ?_
  refine ev_aload_n dX11_may_14 rfl ?_
  refine ev_getS (q := 1) dX11_may_15 fo_11_10 (by omega) lo_0 rfl (sh_0_0 hX (by omega)) (by decide) ?_
  refine ev_getS (q := 23) dX11_may_18 fo_11_96 (by omega) lo_1 rfl (sh_1_1 hX (by omega)) (by decide) ?_
  refine ev_iload_n dX11_may_21 rfl ?_
  exact k
theorem bX11_may_11_1 {g : GG} {d n0 nf : Nat} {post : Option Value → LX → Prop} {n : Nat} {X : LX} (hn : 146 ≤ nf) (hX : Sh nf X) {v1 : Int32} {v2 : Int32} {s0 : Int32} (c0 : s0 = 0) (hp : post (some (.int (-1000000001))) X) : Ev g mX11_may d n0 nf post nf 11 [some (.ref 0), some (.int v1), some (.int v2)] [.int s0] X := by
  refine ev_ifT (tgt := 28) dX11_may_11 (by decide) c0 ?_
  refine ev_ldc (v := (-1000000001)) dX11_may_28 kw_11_61 ?_
  exact ev_iret dX11_may_30 rfl rfl hp
theorem bX11_may_25_0 {g : GG} {d n0 nf : Nat} {post : Option Value → LX → Prop} {n : Nat} {X : LX} (hn : 146 ≤ nf) (hX : Sh nf X) {v1 : Int32} {v2 : Int32} {s0 : Int32} (c0 : s0 = 0) (hp : post (some (.int (-1000000001))) X) : Ev g mX11_may d n0 nf post nf 25 [some (.ref 0), some (.int v1), some (.int v2)] [.int s0] X := by
  refine ev_ifF (tgt := 31) dX11_may_25 (by decide) c0 ?_
  refine ev_ldc (v := (-1000000001)) dX11_may_28 kw_11_61 ?_
  exact ev_iret dX11_may_30 rfl rfl hp
theorem bX11_may_25_1 {g : GG} {d n0 nf : Nat} {post : Option Value → LX → Prop} {n : Nat} {X : LX} (hn : 146 ≤ n) (hX : Sh n X) {v1 : Int32} {v2 : Int32} {s0 : Int32} (c0 : ¬ s0 = 0) (k : Ev g mX11_may d n0 nf post n 37 [some (.ref 0), some (.int v1), some (.int v2)] [.int v2, .int v1, .ref 1] X) : Ev g mX11_may d n0 nf post n 25 [some (.ref 0), some (.int v1), some (.int v2)] [.int s0] X := by
  refine ev_ifT (tgt := 31) dX11_may_25 (by decide) c0 ?_
  refine ev_aload_n dX11_may_31 rfl ?_
  refine ev_getS (q := 1) dX11_may_32 fo_11_10 (by omega) lo_0 rfl (sh_0_0 hX (by omega)) (by decide) ?_
  refine ev_iload_n dX11_may_35 rfl ?_
  refine ev_iload_n dX11_may_36 rfl ?_
  exact k
theorem bX11_may_40_0 {g : GG} {d n0 nf : Nat} {post : Option Value → LX → Prop} {n : Nat} {X : LX} (hn : 146 ≤ n) (hX : Sh n X) {v1 : Int32} {v2 : Int32} {s0 : Int32} (k : Ev g mX11_may d n0 nf post n 40 [some (.ref 0), some (.int v1), some (.int v2)] [.int s0] X) : Ev g mX11_may d n0 nf post n 40 [some (.ref 0), some (.int v1), some (.int v2)] [.int s0] X := by
  exact k
theorem bX11_may_43_0 {g : GG} {d n0 nf : Nat} {post : Option Value → LX → Prop} {n : Nat} {X : LX} (hn : 146 ≤ nf) (hX : Sh nf X) {v1 : Int32} {v2 : Int32} {s0 : Int32} (hp : post (some (.int s0)) X) : Ev g mX11_may d n0 nf post nf 43 [some (.ref 0), some (.int v1), some (.int v2)] [.int s0] X := by
  exact ev_iret dX11_may_43 rfl rfl hp
theorem bX11_choose_0_0 {g : GG} {d n0 nf : Nat} {post : Option Value → LX → Prop} {n : Nat} {X : LX} (hn : 146 ≤ n) (hX : Sh n X) {v1 : Int32} {v2 : Int32} (k : Ev g mX11_choose d n0 nf post n 8 [some (.ref 0), some (.int v1), some (.int v2), none] [.int v1, .ref 37] X) : Ev g mX11_choose d n0 nf post n 0 [some (.ref 0), some (.int v1), some (.int v2), none] [] X := by
  refine ev_aload_n dX11_choose_0 rfl ?_
  refine ev_getS (q := 1) dX11_choose_1 fo_11_10 (by omega) lo_0 rfl (sh_0_0 hX (by omega)) (by decide) ?_
  refine ev_getS (q := 37) dX11_choose_4 fo_11_144 (by omega) lo_1 rfl (sh_1_2 hX (by omega)) (by decide) ?_
  refine ev_iload_n dX11_choose_7 rfl ?_
  exact k
theorem bX11_choose_11_0 {g : GG} {d n0 nf : Nat} {post : Option Value → LX → Prop} {n : Nat} {X : LX} (hn : 146 ≤ nf) (hX : Sh nf X) {v1 : Nat} {v2 : Int32} {s0 : Int32} (c0 : s0 = 0) (hp : post (some (.int (-1000000001))) X) : Ev g mX11_choose d n0 nf post nf 11 [some (.ref 0), some (.int (nI v1)), some (.int v2), none] [.int s0] X := by
  refine ev_ifF (tgt := 17) dX11_choose_11 (by decide) c0 ?_
  refine ev_ldc (v := (-1000000001)) dX11_choose_14 kw_11_61 ?_
  exact ev_iret dX11_choose_16 rfl rfl hp
theorem bX11_choose_11_1 {g : GG} {d n0 nf : Nat} {post : Option Value → LX → Prop} {n : Nat} {X : LX} (hn : 146 ≤ n) (hX : Sh n X) {v1 : Nat} {v2 : Int32} {s0 : Int32} (c0 : ¬ s0 = 0) (c1 : ¬ v2 = (-1)) (k : Ev g mX11_choose d n0 nf post n 28 [some (.ref 0), some (.int (nI v1)), some (.int v2), none] [.int v2, .int (nI v1), .ref 1] X) : Ev g mX11_choose d n0 nf post n 11 [some (.ref 0), some (.int (nI v1)), some (.int v2), none] [.int s0] X := by
  refine ev_ifT (tgt := 17) dX11_choose_11 (by decide) c0 ?_
  refine ev_iload_n dX11_choose_17 rfl ?_
  refine ev_iconst (v := (-1)) dX11_choose_18 ki_m1 ?_
  refine ev_icmpF (tgt := 37) dX11_choose_19 (by decide) c1 ?_
  refine ev_aload_n dX11_choose_22 rfl ?_
  refine ev_getS (q := 1) dX11_choose_23 fo_11_10 (by omega) lo_0 rfl (sh_0_0 hX (by omega)) (by decide) ?_
  refine ev_iload_n dX11_choose_26 rfl ?_
  refine ev_iload_n dX11_choose_27 rfl ?_
  exact k
theorem bX11_choose_11_2 {g : GG} {d n0 nf : Nat} {post : Option Value → LX → Prop} {n : Nat} {X : LX} (hn : 146 ≤ nf) (hX : Sh nf X) {v1 : Nat} {v2 : Int32} {s0 : Int32} (c0 : ¬ s0 = 0) (c1 : v2 = (-1)) (c2 : ¬ X 1 8 = 0) (hp : post (some (.int (-1000000002))) X) : Ev g mX11_choose d n0 nf post nf 11 [some (.ref 0), some (.int (nI v1)), some (.int v2), none] [.int s0] X := by
  refine ev_ifT (tgt := 17) dX11_choose_11 (by decide) c0 ?_
  refine ev_iload_n dX11_choose_17 rfl ?_
  refine ev_iconst (v := (-1)) dX11_choose_18 ki_m1 ?_
  refine ev_icmpT (tgt := 37) dX11_choose_19 (by decide) c1 ?_
  refine ev_aload_n dX11_choose_37 rfl ?_
  refine ev_getS (q := 1) dX11_choose_38 fo_11_10 (by omega) lo_0 rfl (sh_0_0 hX (by omega)) (by decide) ?_
  refine ev_getI dX11_choose_41 fo_11_196 (by omega) lo_1 rfl ?_
  refine ev_ifF (tgt := 50) dX11_choose_44 (by decide) c2 ?_
  refine ev_ldc (v := (-1000000002)) dX11_choose_47 kw_11_124 ?_
  exact ev_iret dX11_choose_49 rfl rfl hp
theorem bX11_choose_11_3 {g : GG} {d n0 nf : Nat} {post : Option Value → LX → Prop} {n : Nat} {X : LX} (hn : 146 ≤ nf) (hX : Sh nf X) {v1 : Nat} {v2 : Int32} {s0 : Int32} (c0 : ¬ s0 = 0) (c1 : v2 = (-1)) (c2 : X 1 8 = 0) (b0 : v1 < 12) (b1 : v1 < 12) (hp : post (some (.int (X 42 v1))) (lx_up X 42 v1 v2)) : Ev g mX11_choose d n0 nf post nf 11 [some (.ref 0), some (.int (nI v1)), some (.int v2), none] [.int s0] X := by
  refine ev_ifT (tgt := 17) dX11_choose_11 (by decide) c0 ?_
  refine ev_iload_n dX11_choose_17 rfl ?_
  refine ev_iconst (v := (-1)) dX11_choose_18 ki_m1 ?_
  refine ev_icmpT (tgt := 37) dX11_choose_19 (by decide) c1 ?_
  refine ev_aload_n dX11_choose_37 rfl ?_
  refine ev_getS (q := 1) dX11_choose_38 fo_11_10 (by omega) lo_0 rfl (sh_0_0 hX (by omega)) (by decide) ?_
  refine ev_getI dX11_choose_41 fo_11_196 (by omega) lo_1 rfl ?_
  refine ev_ifT (tgt := 50) dX11_choose_44 (by decide) c2 ?_
  refine ev_aload_n dX11_choose_50 rfl ?_
  refine ev_getS (q := 1) dX11_choose_51 fo_11_10 (by omega) lo_0 rfl (sh_0_0 hX (by omega)) (by decide) ?_
  refine ev_getS (q := 37) dX11_choose_54 fo_11_144 (by omega) lo_1 rfl (sh_1_2 hX (by omega)) (by decide) ?_
  refine ev_getS (q := 42) dX11_choose_57 fo_11_200 (by omega) lo_37 rfl (sh_37_5 hX (by omega)) (by decide) ?_
  refine ev_iload_n dX11_choose_60 rfl ?_
  refine ev_iald dX11_choose_61 (by omega) ly_42 rfl b0 ?_
  refine ev_istore_n dX11_choose_62 (by decide) ?_
  refine ev_aload_n dX11_choose_63 rfl ?_
  refine ev_getS (q := 1) dX11_choose_64 fo_11_10 (by omega) lo_0 rfl (sh_0_0 hX (by omega)) (by decide) ?_
  refine ev_getS (q := 37) dX11_choose_67 fo_11_144 (by omega) lo_1 rfl (sh_1_2 hX (by omega)) (by decide) ?_
  refine ev_getS (q := 42) dX11_choose_70 fo_11_200 (by omega) lo_37 rfl (sh_37_5 hX (by omega)) (by decide) ?_
  refine ev_iload_n dX11_choose_73 rfl ?_
  refine ev_iload_n dX11_choose_74 rfl ?_
  refine ev_iast dX11_choose_75 (by omega) ly_42 rfl b1 ?_
  have hX1 : Sh _ (lx_up X 42 v1 v2) := Sh.upA hX (by rw [ly_42]; exact (by decide : 0 < 2))
  refine ev_iload_n dX11_choose_76 rfl ?_
  exact ev_iret dX11_choose_77 rfl rfl hp
theorem bX11_choose_31_0 {g : GG} {d n0 nf : Nat} {post : Option Value → LX → Prop} {n : Nat} {X : LX} (hn : 146 ≤ nf) (hX : Sh nf X) {v1 : Nat} {v2 : Int32} {s0 : Int32} (c0 : s0 = 0) (hp : post (some (.int (-1000000001))) X) : Ev g mX11_choose d n0 nf post nf 31 [some (.ref 0), some (.int (nI v1)), some (.int v2), none] [.int s0] X := by
  refine ev_ifF (tgt := 37) dX11_choose_31 (by decide) c0 ?_
  refine ev_ldc (v := (-1000000001)) dX11_choose_34 kw_11_61 ?_
  exact ev_iret dX11_choose_36 rfl rfl hp
theorem bX11_choose_31_1 {g : GG} {d n0 nf : Nat} {post : Option Value → LX → Prop} {n : Nat} {X : LX} (hn : 146 ≤ nf) (hX : Sh nf X) {v1 : Nat} {v2 : Int32} {s0 : Int32} (c0 : ¬ s0 = 0) (c1 : ¬ X 1 8 = 0) (hp : post (some (.int (-1000000002))) X) : Ev g mX11_choose d n0 nf post nf 31 [some (.ref 0), some (.int (nI v1)), some (.int v2), none] [.int s0] X := by
  refine ev_ifT (tgt := 37) dX11_choose_31 (by decide) c0 ?_
  refine ev_aload_n dX11_choose_37 rfl ?_
  refine ev_getS (q := 1) dX11_choose_38 fo_11_10 (by omega) lo_0 rfl (sh_0_0 hX (by omega)) (by decide) ?_
  refine ev_getI dX11_choose_41 fo_11_196 (by omega) lo_1 rfl ?_
  refine ev_ifF (tgt := 50) dX11_choose_44 (by decide) c1 ?_
  refine ev_ldc (v := (-1000000002)) dX11_choose_47 kw_11_124 ?_
  exact ev_iret dX11_choose_49 rfl rfl hp
theorem bX11_choose_31_2 {g : GG} {d n0 nf : Nat} {post : Option Value → LX → Prop} {n : Nat} {X : LX} (hn : 146 ≤ nf) (hX : Sh nf X) {v1 : Nat} {v2 : Int32} {s0 : Int32} (c0 : ¬ s0 = 0) (c1 : X 1 8 = 0) (b0 : v1 < 12) (b1 : v1 < 12) (hp : post (some (.int (X 42 v1))) (lx_up X 42 v1 v2)) : Ev g mX11_choose d n0 nf post nf 31 [some (.ref 0), some (.int (nI v1)), some (.int v2), none] [.int s0] X := by
  refine ev_ifT (tgt := 37) dX11_choose_31 (by decide) c0 ?_
  refine ev_aload_n dX11_choose_37 rfl ?_
  refine ev_getS (q := 1) dX11_choose_38 fo_11_10 (by omega) lo_0 rfl (sh_0_0 hX (by omega)) (by decide) ?_
  refine ev_getI dX11_choose_41 fo_11_196 (by omega) lo_1 rfl ?_
  refine ev_ifT (tgt := 50) dX11_choose_44 (by decide) c1 ?_
  refine ev_aload_n dX11_choose_50 rfl ?_
  refine ev_getS (q := 1) dX11_choose_51 fo_11_10 (by omega) lo_0 rfl (sh_0_0 hX (by omega)) (by decide) ?_
  refine ev_getS (q := 37) dX11_choose_54 fo_11_144 (by omega) lo_1 rfl (sh_1_2 hX (by omega)) (by decide) ?_
  refine ev_getS (q := 42) dX11_choose_57 fo_11_200 (by omega) lo_37 rfl (sh_37_5 hX (by omega)) (by decide) ?_
  refine ev_iload_n dX11_choose_60 rfl ?_
  refine ev_iald dX11_choose_61 (by omega) ly_42 rfl b0 ?_
  refine ev_istore_n dX11_choose_62 (by decide) ?_
  refine ev_aload_n dX11_choose_63 rfl ?_
  refine ev_getS (q := 1) dX11_choose_64 fo_11_10 (by omega) lo_0 rfl (sh_0_0 hX (by omega)) (by decide) ?_
  refine ev_getS (q := 37) dX11_choose_67 fo_11_144 (by omega) lo_1 rfl (sh_1_2 hX (by omega)) (by decide) ?_
  refine ev_getS (q := 42) dX11_choose_70 fo_11_200 (by omega) lo_37 rfl (sh_37_5 hX (by omega)) (by decide) ?_
  refine ev_iload_n dX11_choose_73 rfl ?_
  refine ev_iload_n dX11_choose_74 rfl ?_
  refine ev_iast dX11_choose_75 (by omega) ly_42 rfl b1 ?_
  have hX1 : Sh _ (lx_up X 42 v1 v2) := Sh.upA hX (by rw [ly_42]; exact (by decide : 0 < 2))
  refine ev_iload_n dX11_choose_76 rfl ?_
  exact ev_iret dX11_choose_77 rfl rfl hp
theorem bX11_box_0_0 {g : GG} {d n0 nf : Nat} {post : Option Value → LX → Prop} {n : Nat} {X : LX} (hn : 146 ≤ n) (hX : Sh n X) {v1 : Int32} {v2 : Int32} (k : Ev g mX11_box d n0 nf post n 8 [some (.ref 0), some (.int v1), some (.int v2)] [.int v1, .ref 37] X) : Ev g mX11_box d n0 nf post n 0 [some (.ref 0), some (.int v1), some (.int v2)] [] X := by
  refine ev_aload_n dX11_box_0 rfl ?_
  refine ev_getS (q := 1) dX11_box_1 fo_11_10 (by omega) lo_0 rfl (sh_0_0 hX (by omega)) (by decide) ?_
  refine ev_getS (q := 37) dX11_box_4 fo_11_144 (by omega) lo_1 rfl (sh_1_2 hX (by omega)) (by decide) ?_
  refine ev_iload_n dX11_box_7 rfl ?_
  exact k
theorem bX11_box_11_0 {g : GG} {d n0 nf : Nat} {post : Option Value → LX → Prop} {n : Nat} {X : LX} (hn : 146 ≤ n) (hX : Sh n X) {v1 : Int32} {v2 : Int32} {s0 : Int32} (c0 : ¬ s0 = 0) (k : Ev g mX11_box d n0 nf post n 23 [some (.ref 0), some (.int v1), some (.int v2)] [.int (X 1 5), .int 0, .int v2] X) : Ev g mX11_box d n0 nf post n 11 [some (.ref 0), some (.int v1), some (.int v2)] [.int s0] X := by
  refine ev_ifF (tgt := 29) dX11_box_11 (by decide) c0 ?_
  refine ev_iload_n dX11_box_14 rfl ?_
  refine ev_iconst (v := 0) dX11_box_15 ki_0 ?_
  refine ev_aload_n dX11_box_16 rfl ?_
  refine ev_getS (q := 1) dX11_box_17 fo_11_10 (by omega) lo_0 rfl (sh_0_0 hX (by omega)) (by decide) ?_
  refine ev_getI dX11_box_20 fo_11_203 (by omega) lo_1 rfl ?_
  exact k
theorem bX11_box_11_1 {g : GG} {d n0 nf : Nat} {post : Option Value → LX → Prop} {n : Nat} {X : LX} (hn : 146 ≤ nf) (hX : Sh nf X) {v1 : Int32} {v2 : Int32} {s0 : Int32} (c0 : s0 = 0) (hp : post (some (.int (-1000000001))) X) : Ev g mX11_box d n0 nf post nf 11 [some (.ref 0), some (.int v1), some (.int v2)] [.int s0] X := by
  refine ev_ifT (tgt := 29) dX11_box_11 (by decide) c0 ?_
  refine ev_ldc (v := (-1000000001)) dX11_box_29 kw_11_61 ?_
  exact ev_iret dX11_box_31 rfl rfl hp
theorem bX11_box_26_0 {g : GG} {d n0 nf : Nat} {post : Option Value → LX → Prop} {n : Nat} {X : LX} (hn : 146 ≤ nf) (hX : Sh nf X) {v1 : Nat} {v2 : Nat} {s0 : Int32} (c0 : s0 = 0) (hp : post (some (.int (-1000000001))) X) : Ev g mX11_box d n0 nf post nf 26 [some (.ref 0), some (.int (nI v1)), some (.int (nI v2))] [.int s0] X := by
  refine ev_ifF (tgt := 32) dX11_box_26 (by decide) c0 ?_
  refine ev_ldc (v := (-1000000001)) dX11_box_29 kw_11_61 ?_
  exact ev_iret dX11_box_31 rfl rfl hp
theorem bX11_box_26_1 {g : GG} {d n0 nf : Nat} {post : Option Value → LX → Prop} {n : Nat} {X : LX} (hn : 146 ≤ n) (hX : Sh n X) {v1 : Nat} {v2 : Nat} {s0 : Int32} (c0 : ¬ s0 = 0) (c1 : nI v2 = X 1 5) (k : Ev g mX11_box d n0 nf post n 48 [some (.ref 0), some (.int (nI v1)), some (.int (nI v2))] [.int (nI v1), .ref 1] X) : Ev g mX11_box d n0 nf post n 26 [some (.ref 0), some (.int (nI v1)), some (.int (nI v2))] [.int s0] X := by
  refine ev_ifT (tgt := 32) dX11_box_26 (by decide) c0 ?_
  refine ev_iload_n dX11_box_32 rfl ?_
  refine ev_aload_n dX11_box_33 rfl ?_
  refine ev_getS (q := 1) dX11_box_34 fo_11_10 (by omega) lo_0 rfl (sh_0_0 hX (by omega)) (by decide) ?_
  refine ev_getI dX11_box_37 fo_11_203 (by omega) lo_1 rfl ?_
  refine ev_icmpF (tgt := 54) dX11_box_40 (by decide) c1 ?_
  refine ev_aload_n dX11_box_43 rfl ?_
  refine ev_getS (q := 1) dX11_box_44 fo_11_10 (by omega) lo_0 rfl (sh_0_0 hX (by omega)) (by decide) ?_
  refine ev_iload_n dX11_box_47 rfl ?_
  exact k
theorem bX11_box_26_2 {g : GG} {d n0 nf : Nat} {post : Option Value → LX → Prop} {n : Nat} {X : LX} (hn : 146 ≤ nf) (hX : Sh nf X) {v1 : Nat} {v2 : Nat} {s0 : Int32} (c0 : ¬ s0 = 0) (c1 : ¬ nI v2 = X 1 5) (b0 : v1 < 12) (b1 : v2 < 100) (hp : post (some (.int (X (56 + 1 + v1) v2))) X) : Ev g mX11_box d n0 nf post nf 26 [some (.ref 0), some (.int (nI v1)), some (.int (nI v2))] [.int s0] X := by
  refine ev_ifT (tgt := 32) dX11_box_26 (by decide) c0 ?_
  refine ev_iload_n dX11_box_32 rfl ?_
  refine ev_aload_n dX11_box_33 rfl ?_
  refine ev_getS (q := 1) dX11_box_34 fo_11_10 (by omega) lo_0 rfl (sh_0_0 hX (by omega)) (by decide) ?_
  refine ev_getI dX11_box_37 fo_11_203 (by omega) lo_1 rfl ?_
  refine ev_icmpT (tgt := 54) dX11_box_40 (by decide) c1 ?_
  refine ev_aload_n dX11_box_54 rfl ?_
  refine ev_getS (q := 1) dX11_box_55 fo_11_10 (by omega) lo_0 rfl (sh_0_0 hX (by omega)) (by decide) ?_
  refine ev_getS (q := 37) dX11_box_58 fo_11_144 (by omega) lo_1 rfl (sh_1_2 hX (by omega)) (by decide) ?_
  refine ev_getS (q := 56) dX11_box_61 fo_11_209 (by omega) lo_37 rfl (sh_37_7 hX (by omega)) (by decide) ?_
  refine ev_iload_n dX11_box_64 rfl ?_
  refine ev_aald (q := 56 + 1 + v1) dX11_box_65 (by omega) (Or.inl ly_56) rfl b0 (hX.2 56 v1 (by omega) (Or.inl (by rw [ly_56])) (by rw [ly_56]; exact b0)) (by first | omega | (have := LY_l ly_56; have := LY_lt (show (LY 56).1 < 99 by rw [ly_56]; exact (by decide : 2 < 99)); omega)) ?_
  refine ev_iload_n dX11_box_66 rfl ?_
  refine ev_iald dX11_box_67 (by have := b0; omega) (lyr_56 _ b0) rfl b1 ?_
  exact ev_iret dX11_box_68 rfl rfl hp
theorem bX11_box_51_0 {g : GG} {d n0 nf : Nat} {post : Option Value → LX → Prop} {n : Nat} {X : LX} (hn : 146 ≤ nf) (hX : Sh nf X) {v1 : Int32} {v2 : Int32} {s0 : Int32} (hp : post (some (.int s0)) X) : Ev g mX11_box d n0 nf post nf 51 [some (.ref 0), some (.int v1), some (.int v2)] [.int s0] X := by
  refine ev_goto (tgt := 68) dX11_box_51 (by decide) ?_
  exact ev_iret dX11_box_68 rfl rfl hp
theorem bX11_ice_0_0 {g : GG} {d n0 nf : Nat} {post : Option Value → LX → Prop} {n : Nat} {X : LX} (hn : 146 ≤ n) (hX : Sh n X) {v1 : Int32} (k : Ev g mX11_ice d n0 nf post n 8 [some (.ref 0), some (.int v1)] [.int v1, .ref 37] X) : Ev g mX11_ice d n0 nf post n 0 [some (.ref 0), some (.int v1)] [] X := by
  refine ev_aload_n dX11_ice_0 rfl ?_
  refine ev_getS (q := 1) dX11_ice_1 fo_11_10 (by omega) lo_0 rfl (sh_0_0 hX (by omega)) (by decide) ?_
  refine ev_getS (q := 37) dX11_ice_4 fo_11_144 (by omega) lo_1 rfl (sh_1_2 hX (by omega)) (by decide) ?_
  refine ev_iload_n dX11_ice_7 rfl ?_
  exact k
theorem bX11_ice_11_0 {g : GG} {d n0 nf : Nat} {post : Option Value → LX → Prop} {n : Nat} {X : LX} (hn : 146 ≤ nf) (hX : Sh nf X) {v1 : Int32} {s0 : Int32} (c0 : s0 = 0) (hp : post (some (.int (-1000000001))) X) : Ev g mX11_ice d n0 nf post nf 11 [some (.ref 0), some (.int v1)] [.int s0] X := by
  refine ev_ifF (tgt := 17) dX11_ice_11 (by decide) c0 ?_
  refine ev_ldc (v := (-1000000001)) dX11_ice_14 kw_11_61 ?_
  exact ev_iret dX11_ice_16 rfl rfl hp
theorem bX11_ice_11_1 {g : GG} {d n0 nf : Nat} {post : Option Value → LX → Prop} {n : Nat} {X : LX} (hn : 146 ≤ n) (hX : Sh n X) {v1 : Int32} {s0 : Int32} (c0 : ¬ s0 = 0) (k : Ev g mX11_ice d n0 nf post n 22 [some (.ref 0), some (.int v1)] [.int v1, .ref 1] X) : Ev g mX11_ice d n0 nf post n 11 [some (.ref 0), some (.int v1)] [.int s0] X := by
  refine ev_ifT (tgt := 17) dX11_ice_11 (by decide) c0 ?_
  refine ev_aload_n dX11_ice_17 rfl ?_
  refine ev_getS (q := 1) dX11_ice_18 fo_11_10 (by omega) lo_0 rfl (sh_0_0 hX (by omega)) (by decide) ?_
  refine ev_iload_n dX11_ice_21 rfl ?_
  exact k
theorem bX11_ice_25_0 {g : GG} {d n0 nf : Nat} {post : Option Value → LX → Prop} {n : Nat} {X : LX} (hn : 146 ≤ nf) (hX : Sh nf X) {v1 : Int32} {s0 : Int32} (hp : post (some (.int s0)) X) : Ev g mX11_ice d n0 nf post nf 25 [some (.ref 0), some (.int v1)] [.int s0] X := by
  exact ev_iret dX11_ice_25 rfl rfl hp
theorem bX11_feed_0_0 {g : GG} {d n0 nf : Nat} {post : Option Value → LX → Prop} {n : Nat} {X : LX} (hn : 146 ≤ nf) (hX : Sh nf X) {v1 : Int32} {v2 : Int32} {v3 : Int32} (c0 : ¬ (X 81 1) + 12 ≤ 120) (hp : post (some (.int (-1000000003))) X) : Ev g mX11_feed d n0 nf post nf 0 [some (.ref 0), some (.int v1), some (.int v2), some (.int v3)] [] X := by
  refine ev_aload_n dX11_feed_0 rfl ?_
  refine ev_getS (q := 81) dX11_feed_1 fo_11_19 (by omega) lo_0 rfl (sh_0_1 hX (by omega)) (by decide) ?_
  refine ev_getI dX11_feed_4 fo_11_215 (by omega) lo_81 rfl ?_
  refine ev_bipush (v := 12) dX11_feed_7 kb_12 ?_
  refine ev_iadd dX11_feed_9 ?_
  refine ev_bipush (v := 120) dX11_feed_10 kb_120 ?_
  refine ev_icmpF (tgt := 18) dX11_feed_12 (by decide) c0 ?_
  refine ev_ldc (v := (-1000000003)) dX11_feed_15 kw_11_72 ?_
  exact ev_iret dX11_feed_17 rfl rfl hp
theorem bX11_feed_0_1 {g : GG} {d n0 nf : Nat} {post : Option Value → LX → Prop} {n : Nat} {X : LX} (hn : 146 ≤ n) (hX : Sh n X) {v1 : Int32} {v2 : Int32} {v3 : Int32} (c0 : (X 81 1) + 12 ≤ 120) (k : Ev g mX11_feed d n0 nf post n 23 [some (.ref 0), some (.int v1), some (.int v2), some (.int v3)] [.int v1, .ref 81] X) : Ev g mX11_feed d n0 nf post n 0 [some (.ref 0), some (.int v1), some (.int v2), some (.int v3)] [] X := by
  refine ev_aload_n dX11_feed_0 rfl ?_
  refine ev_getS (q := 81) dX11_feed_1 fo_11_19 (by omega) lo_0 rfl (sh_0_1 hX (by omega)) (by decide) ?_
  refine ev_getI dX11_feed_4 fo_11_215 (by omega) lo_81 rfl ?_
  refine ev_bipush (v := 12) dX11_feed_7 kb_12 ?_
  refine ev_iadd dX11_feed_9 ?_
  refine ev_bipush (v := 120) dX11_feed_10 kb_120 ?_
  refine ev_icmpT (tgt := 18) dX11_feed_12 (by decide) c0 ?_
  refine ev_aload_n dX11_feed_18 rfl ?_
  refine ev_getS (q := 81) dX11_feed_19 fo_11_19 (by omega) lo_0 rfl (sh_0_1 hX (by omega)) (by decide) ?_
  refine ev_iload_n dX11_feed_22 rfl ?_
  exact k
theorem bX11_feed_26_0 {g : GG} {d n0 nf : Nat} {post : Option Value → LX → Prop} {n : Nat} {X : LX} (hn : 146 ≤ n) (hX : Sh n X) {v1 : Int32} {v2 : Int32} {v3 : Int32} (k : Ev g mX11_feed d n0 nf post n 31 [some (.ref 0), some (.int v1), some (.int v2), some (.int v3)] [.int v2, .ref 81] X) : Ev g mX11_feed d n0 nf post n 26 [some (.ref 0), some (.int v1), some (.int v2), some (.int v3)] [] X := by
  refine ev_aload_n dX11_feed_26 rfl ?_
  refine ev_getS (q := 81) dX11_feed_27 fo_11_19 (by omega) lo_0 rfl (sh_0_1 hX (by omega)) (by decide) ?_
  refine ev_iload_n dX11_feed_30 rfl ?_
  exact k
theorem bX11_feed_34_0 {g : GG} {d n0 nf : Nat} {post : Option Value → LX → Prop} {n : Nat} {X : LX} (hn : 146 ≤ n) (hX : Sh n X) {v1 : Int32} {v2 : Int32} {v3 : Int32} (k : Ev g mX11_feed d n0 nf post n 39 [some (.ref 0), some (.int v1), some (.int v2), some (.int v3)] [.int v3, .ref 81] X) : Ev g mX11_feed d n0 nf post n 34 [some (.ref 0), some (.int v1), some (.int v2), some (.int v3)] [] X := by
  refine ev_aload_n dX11_feed_34 rfl ?_
  refine ev_getS (q := 81) dX11_feed_35 fo_11_19 (by omega) lo_0 rfl (sh_0_1 hX (by omega)) (by decide) ?_
  refine ev_iload_n dX11_feed_38 rfl ?_
  exact k
theorem bX11_feed_42_0 {g : GG} {d n0 nf : Nat} {post : Option Value → LX → Prop} {n : Nat} {X : LX} (hn : 146 ≤ nf) (hX : Sh nf X) {v1 : Int32} {v2 : Int32} {v3 : Int32} (hp : post (some (.int (X 81 1))) X) : Ev g mX11_feed d n0 nf post nf 42 [some (.ref 0), some (.int v1), some (.int v2), some (.int v3)] [] X := by
  refine ev_aload_n dX11_feed_42 rfl ?_
  refine ev_getS (q := 81) dX11_feed_43 fo_11_19 (by omega) lo_0 rfl (sh_0_1 hX (by omega)) (by decide) ?_
  refine ev_getI dX11_feed_46 fo_11_215 (by omega) lo_81 rfl ?_
  exact ev_iret dX11_feed_49 rfl rfl hp
theorem bX11_trim_0_0 {g : GG} {d n0 nf : Nat} {post : Option Value → LX → Prop} {n : Nat} {X : LX} (hn : 146 ≤ n) (hX : Sh n X) {v1 : Int32} (k : Ev g mX11_trim d n0 nf post n 9 [some (.ref 0), some (.int v1)] [.int (X 81 1), .int 0, .int v1] X) : Ev g mX11_trim d n0 nf post n 0 [some (.ref 0), some (.int v1)] [] X := by
  refine ev_iload_n dX11_trim_0 rfl ?_
  refine ev_iconst (v := 0) dX11_trim_1 ki_0 ?_
  refine ev_aload_n dX11_trim_2 rfl ?_
  refine ev_getS (q := 81) dX11_trim_3 fo_11_19 (by omega) lo_0 rfl (sh_0_1 hX (by omega)) (by decide) ?_
  refine ev_getI dX11_trim_6 fo_11_215 (by omega) lo_81 rfl ?_
  exact k
theorem bX11_trim_12_0 {g : GG} {d n0 nf : Nat} {post : Option Value → LX → Prop} {n : Nat} {X : LX} (hn : 146 ≤ nf) (hX : Sh nf X) {v1 : Int32} {s0 : Int32} (c0 : s0 = 0) (hp : post (some (.int (-1000000001))) X) : Ev g mX11_trim d n0 nf post nf 12 [some (.ref 0), some (.int v1)] [.int s0] X := by
  refine ev_ifF (tgt := 18) dX11_trim_12 (by decide) c0 ?_
  refine ev_ldc (v := (-1000000001)) dX11_trim_15 kw_11_61 ?_
  exact ev_iret dX11_trim_17 rfl rfl hp
theorem bX11_trim_12_1 {g : GG} {d n0 nf : Nat} {post : Option Value → LX → Prop} {n : Nat} {X : LX} (hn : 146 ≤ nf) (hX : Sh nf X) {v1 : Int32} {s0 : Int32} (c0 : ¬ s0 = 0) (hp : post (some (.int v1)) (lx_up X 81 1 v1)) : Ev g mX11_trim d n0 nf post nf 12 [some (.ref 0), some (.int v1)] [.int s0] X := by
  refine ev_ifT (tgt := 18) dX11_trim_12 (by decide) c0 ?_
  refine ev_aload_n dX11_trim_18 rfl ?_
  refine ev_getS (q := 81) dX11_trim_19 fo_11_19 (by omega) lo_0 rfl (sh_0_1 hX (by omega)) (by decide) ?_
  refine ev_iload_n dX11_trim_22 rfl ?_
  refine ev_putI dX11_trim_23 fo_11_215 (by omega) lo_81 rfl rfl rfl ?_
  have hX1 : Sh _ (lx_up X 81 1 v1) := Sh.upF hX (by rw [lo_81]; decide) (by decide)
  refine ev_iload_n dX11_trim_26 rfl ?_
  exact ev_iret dX11_trim_27 rfl rfl hp
theorem bX11_law_0_0 {g : GG} {d n0 nf : Nat} {post : Option Value → LX → Prop} {n : Nat} {X : LX} (hn : 146 ≤ n) (hX : Sh n X)  (k : Ev g mX11_law d n0 nf post n 4 [some (.ref 0)] [.ref 81] X) : Ev g mX11_law d n0 nf post n 0 [some (.ref 0)] [] X := by
  refine ev_aload_n dX11_law_0 rfl ?_
  refine ev_getS (q := 81) dX11_law_1 fo_11_19 (by omega) lo_0 rfl (sh_0_1 hX (by omega)) (by decide) ?_
  exact k
theorem bX11_law_7_0 {g : GG} {d n0 nf : Nat} {post : Option Value → LX → Prop} {n : Nat} {X : LX} (hn : 146 ≤ nf) (hX : Sh nf X)  (c0 : ¬ X 81 6 < 0) (hp : post (some (.int ((-100) - (X 81 6)))) (lx_up X 81 1 0)) : Ev g mX11_law d n0 nf post nf 7 [some (.ref 0)] [] X := by
  refine ev_aload_n dX11_law_7 rfl ?_
  refine ev_getS (q := 81) dX11_law_8 fo_11_19 (by omega) lo_0 rfl (sh_0_1 hX (by omega)) (by decide) ?_
  refine ev_iconst (v := 0) dX11_law_11 ki_0 ?_
  refine ev_putI dX11_law_12 fo_11_215 (by omega) lo_81 rfl rfl rfl ?_
  have hX1 : Sh _ (lx_up X 81 1 0) := Sh.upF hX (by rw [lo_81]; decide) (by decide)
  refine ev_aload_n dX11_law_15 rfl ?_
  refine ev_getS (q := 81) dX11_law_16 fo_11_19 (by omega) lo_0 rfl (sh_0_1 hX1 (by omega)) (by decide) ?_
  refine ev_getI dX11_law_19 fo_11_225 (by omega) lo_81 rfl ?_
  refine ev_ifF (tgt := 36) dX11_law_22 (by decide) c0 ?_
  refine ev_bipush (v := (-100)) dX11_law_25 kb_m100 ?_
  refine ev_aload_n dX11_law_27 rfl ?_
  refine ev_getS (q := 81) dX11_law_28 fo_11_19 (by omega) lo_0 rfl (sh_0_1 hX1 (by omega)) (by decide) ?_
  refine ev_getI dX11_law_31 fo_11_225 (by omega) lo_81 rfl ?_
  refine ev_isub dX11_law_34 ?_
  exact ev_iret dX11_law_35 rfl rfl hp
theorem bX11_law_7_1 {g : GG} {d n0 nf : Nat} {post : Option Value → LX → Prop} {n : Nat} {X : LX} (hn : 146 ≤ n) (hX : Sh n X)  (c0 : X 81 6 < 0) (k : Ev g mX11_law d n0 nf post n 64 [some (.ref 0)] [.int (X 81 4), .int (X 81 3), .ref 83, .ref 77] (lx_up X 81 1 0)) : Ev g mX11_law d n0 nf post n 7 [some (.ref 0)] [] X := by
  refine ev_aload_n dX11_law_7 rfl ?_
  refine ev_getS (q := 81) dX11_law_8 fo_11_19 (by omega) lo_0 rfl (sh_0_1 hX (by omega)) (by decide) ?_
  refine ev_iconst (v := 0) dX11_law_11 ki_0 ?_
  refine ev_putI dX11_law_12 fo_11_215 (by omega) lo_81 rfl rfl rfl ?_
  have hX1 : Sh _ (lx_up X 81 1 0) := Sh.upF hX (by rw [lo_81]; decide) (by decide)
  refine ev_aload_n dX11_law_15 rfl ?_
  refine ev_getS (q := 81) dX11_law_16 fo_11_19 (by omega) lo_0 rfl (sh_0_1 hX1 (by omega)) (by decide) ?_
  refine ev_getI dX11_law_19 fo_11_225 (by omega) lo_81 rfl ?_
  refine ev_ifT (tgt := 36) dX11_law_22 (by decide) c0 ?_
  refine ev_aload_n dX11_law_36 rfl ?_
  refine ev_getS (q := 1) dX11_law_37 fo_11_10 (by omega) lo_0 rfl (sh_0_0 hX1 (by omega)) (by decide) ?_
  refine ev_getS (q := 77) dX11_law_40 fo_11_228 (by omega) lo_1 rfl (sh_1_4 hX1 (by omega)) (by decide) ?_
  refine ev_aload_n dX11_law_43 rfl ?_
  refine ev_getS (q := 81) dX11_law_44 fo_11_19 (by omega) lo_0 rfl (sh_0_1 hX1 (by omega)) (by decide) ?_
  refine ev_getS (q := 83) dX11_law_47 fo_11_232 (by omega) lo_81 rfl (sh_81_2 hX1 (by omega)) (by decide) ?_
  refine ev_aload_n dX11_law_50 rfl ?_
  refine ev_getS (q := 81) dX11_law_51 fo_11_19 (by omega) lo_0 rfl (sh_0_1 hX1 (by omega)) (by decide) ?_
  refine ev_getI dX11_law_54 fo_11_235 (by omega) lo_81 rfl ?_
  refine ev_aload_n dX11_law_57 rfl ?_
  refine ev_getS (q := 81) dX11_law_58 fo_11_19 (by omega) lo_0 rfl (sh_0_1 hX1 (by omega)) (by decide) ?_
  refine ev_getI dX11_law_61 fo_11_236 (by omega) lo_81 rfl ?_
  exact k
theorem bX11_law_67_0 {g : GG} {d n0 nf : Nat} {post : Option Value → LX → Prop} {n : Nat} {X : LX} (hn : 146 ≤ nf) (hX : Sh nf X)  (hp : post (some (.int (X 81 5))) X) : Ev g mX11_law d n0 nf post nf 67 [some (.ref 0)] [] X := by
  refine ev_aload_n dX11_law_67 rfl ?_
  refine ev_getS (q := 81) dX11_law_68 fo_11_19 (by omega) lo_0 rfl (sh_0_1 hX (by omega)) (by decide) ?_
  refine ev_getI dX11_law_71 fo_11_245 (by omega) lo_81 rfl ?_
  exact ev_iret dX11_law_74 rfl rfl hp
theorem bX11_heat_0_0 {g : GG} {d n0 nf : Nat} {post : Option Value → LX → Prop} {n : Nat} {X : LX} (hn : 146 ≤ n) (hX : Sh n X) {v1 : Int32} (k : Ev g mX11_heat d n0 nf post n 4 [some (.ref 0), some (.int v1), none] [.int 60, .int 0, .int v1] X) : Ev g mX11_heat d n0 nf post n 0 [some (.ref 0), some (.int v1), none] [] X := by
  refine ev_iload_n dX11_heat_0 rfl ?_
  refine ev_iconst (v := 0) dX11_heat_1 ki_0 ?_
  refine ev_bipush (v := 60) dX11_heat_2 kb_60 ?_
  exact k
theorem bX11_heat_7_0 {g : GG} {d n0 nf : Nat} {post : Option Value → LX → Prop} {n : Nat} {X : LX} (hn : 146 ≤ nf) (hX : Sh nf X) {v1 : Int32} {s0 : Int32} (c0 : s0 = 0) (hp : post (some (.int (-1000000001))) X) : Ev g mX11_heat d n0 nf post nf 7 [some (.ref 0), some (.int v1), none] [.int s0] X := by
  refine ev_ifF (tgt := 13) dX11_heat_7 (by decide) c0 ?_
  refine ev_ldc (v := (-1000000001)) dX11_heat_10 kw_11_61 ?_
  exact ev_iret dX11_heat_12 rfl rfl hp
theorem bX11_heat_7_1 {g : GG} {d n0 nf : Nat} {post : Option Value → LX → Prop} {n : Nat} {X : LX} (hn : 146 ≤ nf) (hX : Sh nf X) {v1 : Int32} {s0 : Int32} (c0 : ¬ s0 = 0) (hp : post (some (.int (X 1 7))) (lx_up X 1 7 v1)) : Ev g mX11_heat d n0 nf post nf 7 [some (.ref 0), some (.int v1), none] [.int s0] X := by
  refine ev_ifT (tgt := 13) dX11_heat_7 (by decide) c0 ?_
  refine ev_aload_n dX11_heat_13 rfl ?_
  refine ev_getS (q := 1) dX11_heat_14 fo_11_10 (by omega) lo_0 rfl (sh_0_0 hX (by omega)) (by decide) ?_
  refine ev_getI dX11_heat_17 fo_11_248 (by omega) lo_1 rfl ?_
  refine ev_istore_n dX11_heat_20 (by decide) ?_
  refine ev_aload_n dX11_heat_21 rfl ?_
  refine ev_getS (q := 1) dX11_heat_22 fo_11_10 (by omega) lo_0 rfl (sh_0_0 hX (by omega)) (by decide) ?_
  refine ev_iload_n dX11_heat_25 rfl ?_
  refine ev_putI dX11_heat_26 fo_11_248 (by omega) lo_1 rfl rfl rfl ?_
  have hX1 : Sh _ (lx_up X 1 7 v1) := Sh.upF hX (by rw [lo_1]; decide) (by decide)
  refine ev_iload_n dX11_heat_29 rfl ?_
  exact ev_iret dX11_heat_30 rfl rfl hp
theorem bX11_menu_0_0 {g : GG} {d n0 nf : Nat} {post : Option Value → LX → Prop} {n : Nat} {X : LX} (hn : 146 ≤ n) (hX : Sh n X) {v1 : Int32} (k : Ev g mX11_menu d n0 nf post n 11 [some (.ref 0), some (.int v1)] [.int (X 23 0), .int v1] X) : Ev g mX11_menu d n0 nf post n 0 [some (.ref 0), some (.int v1)] [] X := by
  refine ev_iload_n dX11_menu_0 rfl ?_
  refine ev_aload_n dX11_menu_1 rfl ?_
  refine ev_getS (q := 1) dX11_menu_2 fo_11_10 (by omega) lo_0 rfl (sh_0_0 hX (by omega)) (by decide) ?_
  refine ev_getS (q := 23) dX11_menu_5 fo_11_96 (by omega) lo_1 rfl (sh_1_1 hX (by omega)) (by decide) ?_
  refine ev_getI dX11_menu_8 fo_11_100 (by omega) lo_23 rfl ?_
  exact k
theorem bX11_menu_14_0 {g : GG} {d n0 nf : Nat} {post : Option Value → LX → Prop} {n : Nat} {X : LX} (hn : 146 ≤ nf) (hX : Sh nf X) {v1 : Int32} {s0 : Int32} (c0 : s0 = 0) (hp : post (some (.int (-1000000001))) X) : Ev g mX11_menu d n0 nf post nf 14 [some (.ref 0), some (.int v1)] [.int s0] X := by
  refine ev_ifF (tgt := 20) dX11_menu_14 (by decide) c0 ?_
  refine ev_ldc (v := (-1000000001)) dX11_menu_17 kw_11_61 ?_
  exact ev_iret dX11_menu_19 rfl rfl hp
theorem bX11_menu_14_1 {g : GG} {d n0 nf : Nat} {post : Option Value → LX → Prop} {n : Nat} {X : LX} (hn : 146 ≤ nf) (hX : Sh nf X) {v1 : Int32} {s0 : Int32} (c0 : ¬ s0 = 0) (c1 : ¬ X 1 8 = 0) (hp : post (some (.int (-1000000002))) X) : Ev g mX11_menu d n0 nf post nf 14 [some (.ref 0), some (.int v1)] [.int s0] X := by
  refine ev_ifT (tgt := 20) dX11_menu_14 (by decide) c0 ?_
  refine ev_aload_n dX11_menu_20 rfl ?_
  refine ev_getS (q := 1) dX11_menu_21 fo_11_10 (by omega) lo_0 rfl (sh_0_0 hX (by omega)) (by decide) ?_
  refine ev_getI dX11_menu_24 fo_11_196 (by omega) lo_1 rfl ?_
  refine ev_ifF (tgt := 33) dX11_menu_27 (by decide) c1 ?_
  refine ev_ldc (v := (-1000000002)) dX11_menu_30 kw_11_124 ?_
  exact ev_iret dX11_menu_32 rfl rfl hp
theorem bX11_menu_14_2 {g : GG} {d n0 nf : Nat} {post : Option Value → LX → Prop} {n : Nat} {X : LX} (hn : 146 ≤ n) (hX : Sh n X) {v1 : Int32} {s0 : Int32} (c0 : ¬ s0 = 0) (c1 : X 1 8 = 0) (k : Ev g mX11_menu d n0 nf post n 52 [some (.ref 0), some (.int v1)] [.int 0, .ref 42] (lx_up X 1 6 v1)) : Ev g mX11_menu d n0 nf post n 14 [some (.ref 0), some (.int v1)] [.int s0] X := by
  refine ev_ifT (tgt := 20) dX11_menu_14 (by decide) c0 ?_
  refine ev_aload_n dX11_menu_20 rfl ?_
  refine ev_getS (q := 1) dX11_menu_21 fo_11_10 (by omega) lo_0 rfl (sh_0_0 hX (by omega)) (by decide) ?_
  refine ev_getI dX11_menu_24 fo_11_196 (by omega) lo_1 rfl ?_
  refine ev_ifT (tgt := 33) dX11_menu_27 (by decide) c1 ?_
  refine ev_aload_n dX11_menu_33 rfl ?_
  refine ev_getS (q := 1) dX11_menu_34 fo_11_10 (by omega) lo_0 rfl (sh_0_0 hX (by omega)) (by decide) ?_
  refine ev_iload_n dX11_menu_37 rfl ?_
  refine ev_putI dX11_menu_38 fo_11_118 (by omega) lo_1 rfl rfl rfl ?_
  have hX1 : Sh _ (lx_up X 1 6 v1) := Sh.upF hX (by rw [lo_1]; decide) (by decide)
  refine ev_aload_n dX11_menu_41 rfl ?_
  refine ev_getS (q := 1) dX11_menu_42 fo_11_10 (by omega) lo_0 rfl (sh_0_0 hX1 (by omega)) (by decide) ?_
  refine ev_getS (q := 37) dX11_menu_45 fo_11_144 (by omega) lo_1 rfl (sh_1_2 hX1 (by omega)) (by decide) ?_
  refine ev_getS (q := 42) dX11_menu_48 fo_11_200 (by omega) lo_37 rfl (sh_37_5 hX1 (by omega)) (by decide) ?_
  refine ev_iconst (v := 0) dX11_menu_51 ki_0 ?_
  exact k
theorem bX11_menu_55_0 {g : GG} {d n0 nf : Nat} {post : Option Value → LX → Prop} {n : Nat} {X : LX} (hn : 146 ≤ n) (hX : Sh n X) {v1 : Int32} (k : Ev g mX11_menu d n0 nf post n 56 [some (.ref 0), some (.int v1)] [.int v1] X) : Ev g mX11_menu d n0 nf post n 55 [some (.ref 0), some (.int v1)] [] X := by
  refine ev_iload_n dX11_menu_55 rfl ?_
  exact k
theorem bX11_menu_59_0 {g : GG} {d n0 nf : Nat} {post : Option Value → LX → Prop} {n : Nat} {X : LX} (hn : 146 ≤ nf) (hX : Sh nf X) {v1 : Int32} {s0 : Int32} (hp : post (some (.int s0)) X) : Ev g mX11_menu d n0 nf post nf 59 [some (.ref 0), some (.int v1)] [.int s0] X := by
  exact ev_iret dX11_menu_59 rfl rfl hp
theorem bX11_best_0_0 {g : GG} {d n0 nf : Nat} {post : Option Value → LX → Prop} {n : Nat} {X : LX} (hn : 146 ≤ n) (hX : Sh n X) {v1 : Int32} {v2 : Int32} (k : Ev g mX11_best d n0 nf post n 3 [some (.ref 0), some (.int v1), some (.int v2), none] [.int 4, .int 1, .int v1] X) : Ev g mX11_best d n0 nf post n 0 [some (.ref 0), some (.int v1), some (.int v2), none] [] X := by
  refine ev_iload_n dX11_best_0 rfl ?_
  refine ev_iconst (v := 1) dX11_best_1 ki_1 ?_
  refine ev_iconst (v := 4) dX11_best_2 ki_4 ?_
  exact k
theorem bX11_best_6_0 {g : GG} {d n0 nf : Nat} {post : Option Value → LX → Prop} {n : Nat} {X : LX} (hn : 146 ≤ n) (hX : Sh n X) {v1 : Int32} {v2 : Int32} {s0 : Int32} (c0 : ¬ s0 = 0) (k : Ev g mX11_best d n0 nf post n 14 [some (.ref 0), some (.int v1), some (.int v2), none] [.int 2000, .int 1, .int v2] X) : Ev g mX11_best d n0 nf post n 6 [some (.ref 0), some (.int v1), some (.int v2), none] [.int s0] X := by
  refine ev_ifF (tgt := 20) dX11_best_6 (by decide) c0 ?_
  refine ev_iload_n dX11_best_9 rfl ?_
  refine ev_iconst (v := 1) dX11_best_10 ki_1 ?_
  refine ev_sipush (v := 2000) dX11_best_11 ks_2000 ?_
  exact k
theorem bX11_best_6_1 {g : GG} {d n0 nf : Nat} {post : Option Value → LX → Prop} {n : Nat} {X : LX} (hn : 146 ≤ nf) (hX : Sh nf X) {v1 : Int32} {v2 : Int32} {s0 : Int32} (c0 : s0 = 0) (hp : post (some (.int (-1000000001))) X) : Ev g mX11_best d n0 nf post nf 6 [some (.ref 0), some (.int v1), some (.int v2), none] [.int s0] X := by
  refine ev_ifT (tgt := 20) dX11_best_6 (by decide) c0 ?_
  refine ev_ldc (v := (-1000000001)) dX11_best_20 kw_11_61 ?_
  exact ev_iret dX11_best_22 rfl rfl hp
theorem bX11_best_17_0 {g : GG} {d n0 nf : Nat} {post : Option Value → LX → Prop} {n : Nat} {X : LX} (hn : 146 ≤ nf) (hX : Sh nf X) {v1 : Int32} {v2 : Int32} {s0 : Int32} (c0 : s0 = 0) (hp : post (some (.int (-1000000001))) X) : Ev g mX11_best d n0 nf post nf 17 [some (.ref 0), some (.int v1), some (.int v2), none] [.int s0] X := by
  refine ev_ifF (tgt := 23) dX11_best_17 (by decide) c0 ?_
  refine ev_ldc (v := (-1000000001)) dX11_best_20 kw_11_61 ?_
  exact ev_iret dX11_best_22 rfl rfl hp
theorem bX11_best_17_1 {g : GG} {d n0 nf : Nat} {post : Option Value → LX → Prop} {n : Nat} {X : LX} (hn : 146 ≤ n) (hX : Sh n X) {v1 : Int32} {v2 : Int32} {s0 : Int32} (c0 : ¬ s0 = 0) (k : Ev g mX11_best d n0 nf post n 29 [some (.ref 0), some (.int v1), some (.int v2), none] [.int v2, .int v1, .ref 84] X) : Ev g mX11_best d n0 nf post n 17 [some (.ref 0), some (.int v1), some (.int v2), none] [.int s0] X := by
  refine ev_ifT (tgt := 23) dX11_best_17 (by decide) c0 ?_
  refine ev_aload_n dX11_best_23 rfl ?_
  refine ev_getS (q := 84) dX11_best_24 fo_11_28 (by omega) lo_0 rfl (sh_0_2 hX (by omega)) (by decide) ?_
  refine ev_iload_n dX11_best_27 rfl ?_
  refine ev_iload_n dX11_best_28 rfl ?_
  exact k
theorem bX11_best_32_0 {g : GG} {d n0 nf : Nat} {post : Option Value → LX → Prop} {n : Nat} {X : LX} (hn : 146 ≤ nf) (hX : Sh nf X) {v1 : Int32} {v2 : Int32} {s0 : Int32} (c0 : s0 = 0) (hp : post (some (.int (X 84 8))) X) : Ev g mX11_best d n0 nf post nf 32 [some (.ref 0), some (.int v1), some (.int v2), none] [.int s0] X := by
  refine ev_istore_n dX11_best_32 (by decide) ?_
  refine ev_iload_n dX11_best_33 rfl ?_
  refine ev_ifF (tgt := 47) dX11_best_34 (by decide) c0 ?_
  refine ev_aload_n dX11_best_37 rfl ?_
  refine ev_getS (q := 84) dX11_best_38 fo_11_28 (by omega) lo_0 rfl (sh_0_2 hX (by omega)) (by decide) ?_
  refine ev_getI dX11_best_41 fo_11_268 (by omega) lo_84 rfl ?_
  refine ev_goto (tgt := 48) dX11_best_44 (by decide) ?_
  exact ev_iret dX11_best_48 rfl rfl hp
theorem bX11_best_32_1 {g : GG} {d n0 nf : Nat} {post : Option Value → LX → Prop} {n : Nat} {X : LX} (hn : 146 ≤ nf) (hX : Sh nf X) {v1 : Int32} {v2 : Int32} {s0 : Int32} (c0 : ¬ s0 = 0) (hp : post (some (.int s0)) X) : Ev g mX11_best d n0 nf post nf 32 [some (.ref 0), some (.int v1), some (.int v2), none] [.int s0] X := by
  refine ev_istore_n dX11_best_32 (by decide) ?_
  refine ev_iload_n dX11_best_33 rfl ?_
  refine ev_ifT (tgt := 47) dX11_best_34 (by decide) c0 ?_
  refine ev_iload_n dX11_best_47 rfl ?_
  exact ev_iret dX11_best_48 rfl rfl hp
theorem bX11_kept_0_0 {g : GG} {d n0 nf : Nat} {post : Option Value → LX → Prop} {n : Nat} {X : LX} (hn : 146 ≤ n) (hX : Sh n X) {v1 : Int32} (k : Ev g mX11_kept d n0 nf post n 11 [some (.ref 0), some (.int v1)] [.int (X 23 0), .int v1] X) : Ev g mX11_kept d n0 nf post n 0 [some (.ref 0), some (.int v1)] [] X := by
  refine ev_iload_n dX11_kept_0 rfl ?_
  refine ev_aload_n dX11_kept_1 rfl ?_
  refine ev_getS (q := 1) dX11_kept_2 fo_11_10 (by omega) lo_0 rfl (sh_0_0 hX (by omega)) (by decide) ?_
  refine ev_getS (q := 23) dX11_kept_5 fo_11_96 (by omega) lo_1 rfl (sh_1_1 hX (by omega)) (by decide) ?_
  refine ev_getI dX11_kept_8 fo_11_100 (by omega) lo_23 rfl ?_
  exact k
theorem bX11_kept_14_0 {g : GG} {d n0 nf : Nat} {post : Option Value → LX → Prop} {n : Nat} {X : LX} (hn : 146 ≤ n) (hX : Sh n X) {v1 : Int32} {s0 : Int32} (c0 : ¬ s0 = 0) (k : Ev g mX11_kept d n0 nf post n 18 [some (.ref 0), some (.int v1)] [.int v1] X) : Ev g mX11_kept d n0 nf post n 14 [some (.ref 0), some (.int v1)] [.int s0] X := by
  refine ev_ifF (tgt := 29) dX11_kept_14 (by decide) c0 ?_
  refine ev_iload_n dX11_kept_17 rfl ?_
  exact k
theorem bX11_kept_14_1 {g : GG} {d n0 nf : Nat} {post : Option Value → LX → Prop} {n : Nat} {X : LX} (hn : 146 ≤ nf) (hX : Sh nf X) {v1 : Int32} {s0 : Int32} (c0 : s0 = 0) (hp : post (some (.int (-1000000001))) X) : Ev g mX11_kept d n0 nf post nf 14 [some (.ref 0), some (.int v1)] [.int s0] X := by
  refine ev_ifT (tgt := 29) dX11_kept_14 (by decide) c0 ?_
  refine ev_ldc (v := (-1000000001)) dX11_kept_29 kw_11_61 ?_
  exact ev_iret dX11_kept_31 rfl rfl hp
theorem bX11_kept_21_0 {g : GG} {d n0 nf : Nat} {post : Option Value → LX → Prop} {n : Nat} {X : LX} (hn : 146 ≤ n) (hX : Sh n X) {v1 : Int32} {s0 : Int32} (k : Ev g mX11_kept d n0 nf post n 23 [some (.ref 0), some (.int v1)] [.int 4, .int 1, .int s0] X) : Ev g mX11_kept d n0 nf post n 21 [some (.ref 0), some (.int v1)] [.int s0] X := by
  refine ev_iconst (v := 1) dX11_kept_21 ki_1 ?_
  refine ev_iconst (v := 4) dX11_kept_22 ki_4 ?_
  exact k
theorem bX11_kept_26_0 {g : GG} {d n0 nf : Nat} {post : Option Value → LX → Prop} {n : Nat} {X : LX} (hn : 146 ≤ nf) (hX : Sh nf X) {v1 : Int32} {s0 : Int32} (c0 : s0 = 0) (hp : post (some (.int (-1000000001))) X) : Ev g mX11_kept d n0 nf post nf 26 [some (.ref 0), some (.int v1)] [.int s0] X := by
  refine ev_ifF (tgt := 32) dX11_kept_26 (by decide) c0 ?_
  refine ev_ldc (v := (-1000000001)) dX11_kept_29 kw_11_61 ?_
  exact ev_iret dX11_kept_31 rfl rfl hp
theorem bX11_kept_26_1 {g : GG} {d n0 nf : Nat} {post : Option Value → LX → Prop} {n : Nat} {X : LX} (hn : 146 ≤ n) (hX : Sh n X) {v1 : Int32} {s0 : Int32} (c0 : ¬ s0 = 0) (k : Ev g mX11_kept d n0 nf post n 36 [some (.ref 0), some (.int v1)] [.ref 84] X) : Ev g mX11_kept d n0 nf post n 26 [some (.ref 0), some (.int v1)] [.int s0] X := by
  refine ev_ifT (tgt := 32) dX11_kept_26 (by decide) c0 ?_
  refine ev_aload_n dX11_kept_32 rfl ?_
  refine ev_getS (q := 84) dX11_kept_33 fo_11_28 (by omega) lo_0 rfl (sh_0_2 hX (by omega)) (by decide) ?_
  exact k
theorem bX11_kept_39_0 {g : GG} {d n0 nf : Nat} {post : Option Value → LX → Prop} {n : Nat} {X : LX} (hn : 146 ≤ n) (hX : Sh n X) {v1 : Int32} (k : Ev g mX11_kept d n0 nf post n 44 [some (.ref 0), some (.int v1)] [.int v1, .ref 84] X) : Ev g mX11_kept d n0 nf post n 39 [some (.ref 0), some (.int v1)] [] X := by
  refine ev_aload_n dX11_kept_39 rfl ?_
  refine ev_getS (q := 84) dX11_kept_40 fo_11_28 (by omega) lo_0 rfl (sh_0_2 hX (by omega)) (by decide) ?_
  refine ev_iload_n dX11_kept_43 rfl ?_
  exact k
theorem bX11_kept_47_0 {g : GG} {d n0 nf : Nat} {post : Option Value → LX → Prop} {n : Nat} {X : LX} (hn : 146 ≤ nf) (hX : Sh nf X) {v1 : Int32} {s0 : Int32} (hp : post (some (.int s0)) X) : Ev g mX11_kept d n0 nf post nf 47 [some (.ref 0), some (.int v1)] [.int s0] X := by
  exact ev_iret dX11_kept_47 rfl rfl hp
theorem bX11_lot_0_0 {g : GG} {d n0 nf : Nat} {post : Option Value → LX → Prop} {n : Nat} {X : LX} (hn : 146 ≤ n) (hX : Sh n X) {v1 : Int32} {v2 : Int32} (k : Ev g mX11_lot d n0 nf post n 8 [some (.ref 0), some (.int v1), some (.int v2), none, none] [.int v1, .ref 2] X) : Ev g mX11_lot d n0 nf post n 0 [some (.ref 0), some (.int v1), some (.int v2), none, none] [] X := by
  refine ev_aload_n dX11_lot_0 rfl ?_
  refine ev_getS (q := 1) dX11_lot_1 fo_11_10 (by omega) lo_0 rfl (sh_0_0 hX (by omega)) (by decide) ?_
  refine ev_getS (q := 2) dX11_lot_4 fo_11_62 (by omega) lo_1 rfl (sh_1_0 hX (by omega)) (by decide) ?_
  refine ev_iload_n dX11_lot_7 rfl ?_
  exact k
theorem bX11_lot_11_0 {g : GG} {d n0 nf : Nat} {post : Option Value → LX → Prop} {n : Nat} {X : LX} (hn : 146 ≤ n) (hX : Sh n X) {v1 : Int32} {v2 : Int32} {s0 : Int32} (c0 : ¬ s0 = 0) (k : Ev g mX11_lot d n0 nf post n 19 [some (.ref 0), some (.int v1), some (.int v2), none, none] [.int 99999, .int 1, .int v2] X) : Ev g mX11_lot d n0 nf post n 11 [some (.ref 0), some (.int v1), some (.int v2), none, none] [.int s0] X := by
  refine ev_ifF (tgt := 25) dX11_lot_11 (by decide) c0 ?_
  refine ev_iload_n dX11_lot_14 rfl ?_
  refine ev_iconst (v := 1) dX11_lot_15 ki_1 ?_
  refine ev_ldcw (v := 99999) dX11_lot_16 kw_11_277 ?_
  exact k
theorem bX11_lot_11_1 {g : GG} {d n0 nf : Nat} {post : Option Value → LX → Prop} {n : Nat} {X : LX} (hn : 146 ≤ nf) (hX : Sh nf X) {v1 : Int32} {v2 : Int32} {s0 : Int32} (c0 : s0 = 0) (hp : post (some (.int (-1000000001))) X) : Ev g mX11_lot d n0 nf post nf 11 [some (.ref 0), some (.int v1), some (.int v2), none, none] [.int s0] X := by
  refine ev_ifT (tgt := 25) dX11_lot_11 (by decide) c0 ?_
  refine ev_ldc (v := (-1000000001)) dX11_lot_25 kw_11_61 ?_
  exact ev_iret dX11_lot_27 rfl rfl hp
theorem bX11_lot_22_0 {g : GG} {d n0 nf : Nat} {post : Option Value → LX → Prop} {n : Nat} {X : LX} (hn : 146 ≤ nf) (hX : Sh nf X) {v1 : Int32} {v2 : Int32} {s0 : Int32} (c0 : s0 = 0) (hp : post (some (.int (-1000000001))) X) : Ev g mX11_lot d n0 nf post nf 22 [some (.ref 0), some (.int v1), some (.int v2), none, none] [.int s0] X := by
  refine ev_ifF (tgt := 28) dX11_lot_22 (by decide) c0 ?_
  refine ev_ldc (v := (-1000000001)) dX11_lot_25 kw_11_61 ?_
  exact ev_iret dX11_lot_27 rfl rfl hp
theorem bX11_lot_22_1 {g : GG} {d n0 nf : Nat} {post : Option Value → LX → Prop} {n : Nat} {X : LX} (hn : 146 ≤ nf) (hX : Sh nf X) {v1 : Int32} {v2 : Int32} {s0 : Int32} (c0 : ¬ s0 = 0) (c1 : ¬ X 69 0 < 40) (hp : post (some (.int (-1000000003))) X) : Ev g mX11_lot d n0 nf post nf 22 [some (.ref 0), some (.int v1), some (.int v2), none, none] [.int s0] X := by
  refine ev_ifT (tgt := 28) dX11_lot_22 (by decide) c0 ?_
  refine ev_aload_n dX11_lot_28 rfl ?_
  refine ev_getS (q := 1) dX11_lot_29 fo_11_10 (by omega) lo_0 rfl (sh_0_0 hX (by omega)) (by decide) ?_
  refine ev_getS (q := 69) dX11_lot_32 fo_11_278 (by omega) lo_1 rfl (sh_1_3 hX (by omega)) (by decide) ?_
  refine ev_astore_n dX11_lot_35 (by decide) ?_
  refine ev_aload_n dX11_lot_36 rfl ?_
  refine ev_getI dX11_lot_37 fo_11_282 (by omega) lo_69 rfl ?_
  refine ev_bipush (v := 40) dX11_lot_40 kb_40 ?_
  refine ev_icmpF (tgt := 48) dX11_lot_42 (by decide) c1 ?_
  refine ev_ldc (v := (-1000000003)) dX11_lot_45 kw_11_72 ?_
  exact ev_iret dX11_lot_47 rfl rfl hp
theorem bX11_lot_22_2 {g : GG} {d n0 nf : Nat} {post : Option Value → LX → Prop} {n : Nat} {X : LX} (hn : 146 ≤ nf) (hX : Sh nf X) {v1 : Int32} {v2 : Int32} {s0 : Int32} {j1 : Nat} {j2 : Nat} {j3 : Nat} {j4 : Nat} (c0 : ¬ s0 = 0) (c1 : X 69 0 < 40) (hj1 : X 69 0 = nI j1) (b0 : j1 < 40) (hj2 : X 69 0 = nI j2) (b1 : j2 < 40) (hj3 : X 69 0 = nI j3) (b2 : j3 < 40) (hj4 : X 69 0 = nI j4) (b3 : j4 < 40) (hp : post (some (.int (X 69 0))) (lx_up (lx_up (lx_up (lx_up (lx_up X 69 0 ((X 69 0) + 1)) 70 j1 v1) 71 j2 v2) 72 j3 (X 1 5)) 73 j4 v2)) : Ev g mX11_lot d n0 nf post nf 22 [some (.ref 0), some (.int v1), some (.int v2), none, none] [.int s0] X := by
  refine ev_ifT (tgt := 28) dX11_lot_22 (by decide) c0 ?_
  refine ev_aload_n dX11_lot_28 rfl ?_
  refine ev_getS (q := 1) dX11_lot_29 fo_11_10 (by omega) lo_0 rfl (sh_0_0 hX (by omega)) (by decide) ?_
  refine ev_getS (q := 69) dX11_lot_32 fo_11_278 (by omega) lo_1 rfl (sh_1_3 hX (by omega)) (by decide) ?_
  refine ev_astore_n dX11_lot_35 (by decide) ?_
  refine ev_aload_n dX11_lot_36 rfl ?_
  refine ev_getI dX11_lot_37 fo_11_282 (by omega) lo_69 rfl ?_
  refine ev_bipush (v := 40) dX11_lot_40 kb_40 ?_
  refine ev_icmpT (tgt := 48) dX11_lot_42 (by decide) c1 ?_
  refine ev_aload_n dX11_lot_48 rfl ?_
  refine ev_dup dX11_lot_49 rfl ?_
  refine ev_getI dX11_lot_50 fo_11_282 (by omega) lo_69 rfl ?_
  refine ev_dup_x1 dX11_lot_53 rfl rfl ?_
  refine ev_iconst (v := 1) dX11_lot_54 ki_1 ?_
  refine ev_iadd dX11_lot_55 ?_
  refine ev_putI dX11_lot_56 fo_11_282 (by omega) lo_69 rfl rfl rfl ?_
  have hX1 : Sh _ (lx_up X 69 0 ((X 69 0) + 1)) := Sh.upF hX (by rw [lo_69]; decide) (by decide)
  refine ev_istore dX11_lot_59 (by decide) ?_
  refine ev_aload_n dX11_lot_61 rfl ?_
  refine ev_getS (q := 70) dX11_lot_62 fo_11_285 (by omega) lo_69 rfl (sh_69_1 hX1 (by omega)) (by decide) ?_
  refine ev_iload dX11_lot_65 rfl ?_
  refine ev_iload_n dX11_lot_67 rfl ?_
  refine ev_iast dX11_lot_68 (by omega) ly_70 hj1 b0 ?_
  have hX2 : Sh _ (lx_up (lx_up X 69 0 ((X 69 0) + 1)) 70 j1 v1) := Sh.upA hX1 (by rw [ly_70]; exact (by decide : 0 < 2))
  refine ev_aload_n dX11_lot_69 rfl ?_
  refine ev_getS (q := 71) dX11_lot_70 fo_11_288 (by omega) lo_69 rfl (sh_69_2 hX2 (by omega)) (by decide) ?_
  refine ev_iload dX11_lot_73 rfl ?_
  refine ev_iload_n dX11_lot_75 rfl ?_
  refine ev_iast dX11_lot_76 (by omega) ly_71 hj2 b1 ?_
  have hX3 : Sh _ (lx_up (lx_up (lx_up X 69 0 ((X 69 0) + 1)) 70 j1 v1) 71 j2 v2) := Sh.upA hX2 (by rw [ly_71]; exact (by decide : 0 < 2))
  refine ev_aload_n dX11_lot_77 rfl ?_
  refine ev_getS (q := 72) dX11_lot_78 fo_11_290 (by omega) lo_69 rfl (sh_69_3 hX3 (by omega)) (by decide) ?_
  refine ev_iload dX11_lot_81 rfl ?_
  refine ev_aload_n dX11_lot_83 rfl ?_
  refine ev_getS (q := 1) dX11_lot_84 fo_11_10 (by omega) lo_0 rfl (sh_0_0 hX3 (by omega)) (by decide) ?_
  refine ev_getI dX11_lot_87 fo_11_203 (by omega) lo_1 rfl ?_
  refine ev_iast dX11_lot_90 (by omega) ly_72 hj3 b2 ?_
  have hX4 : Sh _ (lx_up (lx_up (lx_up (lx_up X 69 0 ((X 69 0) + 1)) 70 j1 v1) 71 j2 v2) 72 j3 (X 1 5)) := Sh.upA hX3 (by rw [ly_72]; exact (by decide : 0 < 2))
  refine ev_aload_n dX11_lot_91 rfl ?_
  refine ev_getS (q := 73) dX11_lot_92 fo_11_293 (by omega) lo_69 rfl (sh_69_4 hX4 (by omega)) (by decide) ?_
  refine ev_iload dX11_lot_95 rfl ?_
  refine ev_iload_n dX11_lot_97 rfl ?_
  refine ev_iast dX11_lot_98 (by omega) ly_73 hj4 b3 ?_
  have hX5 : Sh _ (lx_up (lx_up (lx_up (lx_up (lx_up X 69 0 ((X 69 0) + 1)) 70 j1 v1) 71 j2 v2) 72 j3 (X 1 5)) 73 j4 v2) := Sh.upA hX4 (by rw [ly_73]; exact (by decide : 0 < 2))
  refine ev_iload dX11_lot_99 rfl ?_
  exact ev_iret dX11_lot_101 rfl rfl hp
theorem bX11_told_0_0 {g : GG} {d n0 nf : Nat} {post : Option Value → LX → Prop} {n : Nat} {X : LX} (hn : 146 ≤ n) (hX : Sh n X) {v1 : Int32} {v2 : Int32} (k : Ev g mX11_told d n0 nf post n 8 [some (.ref 0), some (.int v1), some (.int v2)] [.int v1, .ref 69] X) : Ev g mX11_told d n0 nf post n 0 [some (.ref 0), some (.int v1), some (.int v2)] [] X := by
  refine ev_aload_n dX11_told_0 rfl ?_
  refine ev_getS (q := 1) dX11_told_1 fo_11_10 (by omega) lo_0 rfl (sh_0_0 hX (by omega)) (by decide) ?_
  refine ev_getS (q := 69) dX11_told_4 fo_11_278 (by omega) lo_1 rfl (sh_1_3 hX (by omega)) (by decide) ?_
  refine ev_iload_n dX11_told_7 rfl ?_
  exact k
theorem bX11_told_11_0 {g : GG} {d n0 nf : Nat} {post : Option Value → LX → Prop} {n : Nat} {X : LX} (hn : 146 ≤ nf) (hX : Sh nf X) {v1 : Nat} {v2 : Int32} {s0 : Int32} (c0 : s0 = 0) (hp : post (some (.int (-1000000001))) X) : Ev g mX11_told d n0 nf post nf 11 [some (.ref 0), some (.int (nI v1)), some (.int v2)] [.int s0] X := by
  refine ev_ifF (tgt := 17) dX11_told_11 (by decide) c0 ?_
  refine ev_ldc (v := (-1000000001)) dX11_told_14 kw_11_61 ?_
  exact ev_iret dX11_told_16 rfl rfl hp
theorem bX11_told_11_1 {g : GG} {d n0 nf : Nat} {post : Option Value → LX → Prop} {n : Nat} {X : LX} (hn : 146 ≤ nf) (hX : Sh nf X) {v1 : Nat} {v2 : Int32} {s0 : Int32} (c0 : ¬ s0 = 0) (c1 : v2.toInt < 0 ∨ 3 < v2.toInt) (hp : post (some (.int (-1000000001))) X) : Ev g mX11_told d n0 nf post nf 11 [some (.ref 0), some (.int (nI v1)), some (.int v2)] [.int s0] X := by
  refine ev_ifT (tgt := 17) dX11_told_11 (by decide) c0 ?_
  refine ev_iload_n dX11_told_17 rfl ?_
  refine ev_tabO (tgt := 100) dX11_told_18 c1 (by decide) ?_
  refine ev_ldc (v := (-1000000001)) dX11_told_100 kw_11_61 ?_
  exact ev_iret dX11_told_102 rfl rfl hp
theorem bX11_told_11_2 {g : GG} {d n0 nf : Nat} {post : Option Value → LX → Prop} {n : Nat} {X : LX} (hn : 146 ≤ nf) (hX : Sh nf X) {v1 : Nat} {v2 : Int32} {s0 : Int32} (c0 : ¬ s0 = 0) (c1 : v2 = 0) (b0 : v1 < 40) (hp : post (some (.int (X 70 v1))) X) : Ev g mX11_told d n0 nf post nf 11 [some (.ref 0), some (.int (nI v1)), some (.int v2)] [.int s0] X := by
  refine ev_ifT (tgt := 17) dX11_told_11 (by decide) c0 ?_
  refine ev_iload_n dX11_told_17 rfl ?_
  refine ev_tabI (tgt := 48) (off := 30) dX11_told_18 (by rw [c1]; decide) (by rw [c1]; decide) (by rw [c1]; rfl) (by decide) ?_
  refine ev_aload_n dX11_told_48 rfl ?_
  refine ev_getS (q := 1) dX11_told_49 fo_11_10 (by omega) lo_0 rfl (sh_0_0 hX (by omega)) (by decide) ?_
  refine ev_getS (q := 69) dX11_told_52 fo_11_278 (by omega) lo_1 rfl (sh_1_3 hX (by omega)) (by decide) ?_
  refine ev_getS (q := 70) dX11_told_55 fo_11_285 (by omega) lo_69 rfl (sh_69_1 hX (by omega)) (by decide) ?_
  refine ev_iload_n dX11_told_58 rfl ?_
  refine ev_iald dX11_told_59 (by omega) ly_70 rfl b0 ?_
  exact ev_iret dX11_told_60 rfl rfl hp
theorem bX11_told_11_3 {g : GG} {d n0 nf : Nat} {post : Option Value → LX → Prop} {n : Nat} {X : LX} (hn : 146 ≤ nf) (hX : Sh nf X) {v1 : Nat} {v2 : Int32} {s0 : Int32} (c0 : ¬ s0 = 0) (c1 : v2 = 1) (b0 : v1 < 40) (hp : post (some (.int (X 71 v1))) X) : Ev g mX11_told d n0 nf post nf 11 [some (.ref 0), some (.int (nI v1)), some (.int v2)] [.int s0] X := by
  refine ev_ifT (tgt := 17) dX11_told_11 (by decide) c0 ?_
  refine ev_iload_n dX11_told_17 rfl ?_
  refine ev_tabI (tgt := 61) (off := 43) dX11_told_18 (by rw [c1]; decide) (by rw [c1]; decide) (by rw [c1]; rfl) (by decide) ?_
  refine ev_aload_n dX11_told_61 rfl ?_
  refine ev_getS (q := 1) dX11_told_62 fo_11_10 (by omega) lo_0 rfl (sh_0_0 hX (by omega)) (by decide) ?_
  refine ev_getS (q := 69) dX11_told_65 fo_11_278 (by omega) lo_1 rfl (sh_1_3 hX (by omega)) (by decide) ?_
  refine ev_getS (q := 71) dX11_told_68 fo_11_288 (by omega) lo_69 rfl (sh_69_2 hX (by omega)) (by decide) ?_
  refine ev_iload_n dX11_told_71 rfl ?_
  refine ev_iald dX11_told_72 (by omega) ly_71 rfl b0 ?_
  exact ev_iret dX11_told_73 rfl rfl hp
theorem bX11_told_11_4 {g : GG} {d n0 nf : Nat} {post : Option Value → LX → Prop} {n : Nat} {X : LX} (hn : 146 ≤ nf) (hX : Sh nf X) {v1 : Nat} {v2 : Int32} {s0 : Int32} (c0 : ¬ s0 = 0) (c1 : v2 = 2) (b0 : v1 < 40) (hp : post (some (.int (X 72 v1))) X) : Ev g mX11_told d n0 nf post nf 11 [some (.ref 0), some (.int (nI v1)), some (.int v2)] [.int s0] X := by
  refine ev_ifT (tgt := 17) dX11_told_11 (by decide) c0 ?_
  refine ev_iload_n dX11_told_17 rfl ?_
  refine ev_tabI (tgt := 74) (off := 56) dX11_told_18 (by rw [c1]; decide) (by rw [c1]; decide) (by rw [c1]; rfl) (by decide) ?_
  refine ev_aload_n dX11_told_74 rfl ?_
  refine ev_getS (q := 1) dX11_told_75 fo_11_10 (by omega) lo_0 rfl (sh_0_0 hX (by omega)) (by decide) ?_
  refine ev_getS (q := 69) dX11_told_78 fo_11_278 (by omega) lo_1 rfl (sh_1_3 hX (by omega)) (by decide) ?_
  refine ev_getS (q := 72) dX11_told_81 fo_11_290 (by omega) lo_69 rfl (sh_69_3 hX (by omega)) (by decide) ?_
  refine ev_iload_n dX11_told_84 rfl ?_
  refine ev_iald dX11_told_85 (by omega) ly_72 rfl b0 ?_
  exact ev_iret dX11_told_86 rfl rfl hp
theorem bX11_told_11_5 {g : GG} {d n0 nf : Nat} {post : Option Value → LX → Prop} {n : Nat} {X : LX} (hn : 146 ≤ nf) (hX : Sh nf X) {v1 : Nat} {v2 : Int32} {s0 : Int32} (c0 : ¬ s0 = 0) (c1 : v2 = 3) (b0 : v1 < 40) (hp : post (some (.int (X 73 v1))) X) : Ev g mX11_told d n0 nf post nf 11 [some (.ref 0), some (.int (nI v1)), some (.int v2)] [.int s0] X := by
  refine ev_ifT (tgt := 17) dX11_told_11 (by decide) c0 ?_
  refine ev_iload_n dX11_told_17 rfl ?_
  refine ev_tabI (tgt := 87) (off := 69) dX11_told_18 (by rw [c1]; decide) (by rw [c1]; decide) (by rw [c1]; rfl) (by decide) ?_
  refine ev_aload_n dX11_told_87 rfl ?_
  refine ev_getS (q := 1) dX11_told_88 fo_11_10 (by omega) lo_0 rfl (sh_0_0 hX (by omega)) (by decide) ?_
  refine ev_getS (q := 69) dX11_told_91 fo_11_278 (by omega) lo_1 rfl (sh_1_3 hX (by omega)) (by decide) ?_
  refine ev_getS (q := 73) dX11_told_94 fo_11_293 (by omega) lo_69 rfl (sh_69_4 hX (by omega)) (by decide) ?_
  refine ev_iload_n dX11_told_97 rfl ?_
  refine ev_iald dX11_told_98 (by omega) ly_73 rfl b0 ?_
  exact ev_iret dX11_told_99 rfl rfl hp
theorem bX11_stock_0_0 {g : GG} {d n0 nf : Nat} {post : Option Value → LX → Prop} {n : Nat} {X : LX} (hn : 146 ≤ n) (hX : Sh n X) {v1 : Int32} {v2 : Int32} (k : Ev g mX11_stock d n0 nf post n 8 [some (.ref 0), some (.int v1), some (.int v2)] [.int v1, .ref 2] X) : Ev g mX11_stock d n0 nf post n 0 [some (.ref 0), some (.int v1), some (.int v2)] [] X := by
  refine ev_aload_n dX11_stock_0 rfl ?_
  refine ev_getS (q := 1) dX11_stock_1 fo_11_10 (by omega) lo_0 rfl (sh_0_0 hX (by omega)) (by decide) ?_
  refine ev_getS (q := 2) dX11_stock_4 fo_11_62 (by omega) lo_1 rfl (sh_1_0 hX (by omega)) (by decide) ?_
  refine ev_iload_n dX11_stock_7 rfl ?_
  exact k
theorem bX11_stock_11_0 {g : GG} {d n0 nf : Nat} {post : Option Value → LX → Prop} {n : Nat} {X : LX} (hn : 146 ≤ nf) (hX : Sh nf X) {v1 : Nat} {v2 : Int32} {s0 : Int32} (c0 : s0 = 0) (hp : post (some (.int (-1000000001))) X) : Ev g mX11_stock d n0 nf post nf 11 [some (.ref 0), some (.int (nI v1)), some (.int v2)] [.int s0] X := by
  refine ev_ifF (tgt := 17) dX11_stock_11 (by decide) c0 ?_
  refine ev_ldc (v := (-1000000001)) dX11_stock_14 kw_11_61 ?_
  exact ev_iret dX11_stock_16 rfl rfl hp
theorem bX11_stock_11_1 {g : GG} {d n0 nf : Nat} {post : Option Value → LX → Prop} {n : Nat} {X : LX} (hn : 146 ≤ nf) (hX : Sh nf X) {v1 : Nat} {v2 : Int32} {s0 : Int32} (c0 : ¬ s0 = 0) (c1 : v2.toInt < 0 ∨ 4 < v2.toInt) (hp : post (some (.int (-1000000001))) X) : Ev g mX11_stock d n0 nf post nf 11 [some (.ref 0), some (.int (nI v1)), some (.int v2)] [.int s0] X := by
  refine ev_ifT (tgt := 17) dX11_stock_11 (by decide) c0 ?_
  refine ev_iload_n dX11_stock_17 rfl ?_
  refine ev_tabO (tgt := 111) dX11_stock_18 c1 (by decide) ?_
  refine ev_ldc (v := (-1000000001)) dX11_stock_111 kw_11_61 ?_
  exact ev_iret dX11_stock_113 rfl rfl hp
theorem bX11_stock_11_2 {g : GG} {d n0 nf : Nat} {post : Option Value → LX → Prop} {n : Nat} {X : LX} (hn : 146 ≤ n) (hX : Sh n X) {v1 : Nat} {v2 : Int32} {s0 : Int32} (c0 : ¬ s0 = 0) (c1 : v2 = 0) (k : Ev g mX11_stock d n0 nf post n 60 [some (.ref 0), some (.int (nI v1)), some (.int v2)] [.int (nI v1), .ref 69] X) : Ev g mX11_stock d n0 nf post n 11 [some (.ref 0), some (.int (nI v1)), some (.int v2)] [.int s0] X := by
  refine ev_ifT (tgt := 17) dX11_stock_11 (by decide) c0 ?_
  refine ev_iload_n dX11_stock_17 rfl ?_
  refine ev_tabI (tgt := 52) (off := 34) dX11_stock_18 (by rw [c1]; decide) (by rw [c1]; decide) (by rw [c1]; rfl) (by decide) ?_
  refine ev_aload_n dX11_stock_52 rfl ?_
  refine ev_getS (q := 1) dX11_stock_53 fo_11_10 (by omega) lo_0 rfl (sh_0_0 hX (by omega)) (by decide) ?_
  refine ev_getS (q := 69) dX11_stock_56 fo_11_278 (by omega) lo_1 rfl (sh_1_3 hX (by omega)) (by decide) ?_
  refine ev_iload_n dX11_stock_59 rfl ?_
  exact k
theorem bX11_stock_11_3 {g : GG} {d n0 nf : Nat} {post : Option Value → LX → Prop} {n : Nat} {X : LX} (hn : 146 ≤ n) (hX : Sh n X) {v1 : Nat} {v2 : Int32} {s0 : Int32} (c0 : ¬ s0 = 0) (c1 : v2 = 1) (k : Ev g mX11_stock d n0 nf post n 69 [some (.ref 0), some (.int (nI v1)), some (.int v2)] [.int (nI v1), .ref 1] X) : Ev g mX11_stock d n0 nf post n 11 [some (.ref 0), some (.int (nI v1)), some (.int v2)] [.int s0] X := by
  refine ev_ifT (tgt := 17) dX11_stock_11 (by decide) c0 ?_
  refine ev_iload_n dX11_stock_17 rfl ?_
  refine ev_tabI (tgt := 64) (off := 46) dX11_stock_18 (by rw [c1]; decide) (by rw [c1]; decide) (by rw [c1]; rfl) (by decide) ?_
  refine ev_aload_n dX11_stock_64 rfl ?_
  refine ev_getS (q := 1) dX11_stock_65 fo_11_10 (by omega) lo_0 rfl (sh_0_0 hX (by omega)) (by decide) ?_
  refine ev_iload_n dX11_stock_68 rfl ?_
  exact k
theorem bX11_stock_11_4 {g : GG} {d n0 nf : Nat} {post : Option Value → LX → Prop} {n : Nat} {X : LX} (hn : 146 ≤ n) (hX : Sh n X) {v1 : Nat} {v2 : Int32} {s0 : Int32} (c0 : ¬ s0 = 0) (c1 : v2 = 2) (k : Ev g mX11_stock d n0 nf post n 81 [some (.ref 0), some (.int (nI v1)), some (.int v2)] [.int (nI v1), .ref 69] X) : Ev g mX11_stock d n0 nf post n 11 [some (.ref 0), some (.int (nI v1)), some (.int v2)] [.int s0] X := by
  refine ev_ifT (tgt := 17) dX11_stock_11 (by decide) c0 ?_
  refine ev_iload_n dX11_stock_17 rfl ?_
  refine ev_tabI (tgt := 73) (off := 55) dX11_stock_18 (by rw [c1]; decide) (by rw [c1]; decide) (by rw [c1]; rfl) (by decide) ?_
  refine ev_aload_n dX11_stock_73 rfl ?_
  refine ev_getS (q := 1) dX11_stock_74 fo_11_10 (by omega) lo_0 rfl (sh_0_0 hX (by omega)) (by decide) ?_
  refine ev_getS (q := 69) dX11_stock_77 fo_11_278 (by omega) lo_1 rfl (sh_1_3 hX (by omega)) (by decide) ?_
  refine ev_iload_n dX11_stock_80 rfl ?_
  exact k
theorem bX11_stock_11_5 {g : GG} {d n0 nf : Nat} {post : Option Value → LX → Prop} {n : Nat} {X : LX} (hn : 146 ≤ nf) (hX : Sh nf X) {v1 : Nat} {v2 : Int32} {s0 : Int32} (c0 : ¬ s0 = 0) (c1 : v2 = 3) (b0 : v1 < 14) (hp : post (some (.int (X 75 v1))) X) : Ev g mX11_stock d n0 nf post nf 11 [some (.ref 0), some (.int (nI v1)), some (.int v2)] [.int s0] X := by
  refine ev_ifT (tgt := 17) dX11_stock_11 (by decide) c0 ?_
  refine ev_iload_n dX11_stock_17 rfl ?_
  refine ev_tabI (tgt := 85) (off := 67) dX11_stock_18 (by rw [c1]; decide) (by rw [c1]; decide) (by rw [c1]; rfl) (by decide) ?_
  refine ev_aload_n dX11_stock_85 rfl ?_
  refine ev_getS (q := 1) dX11_stock_86 fo_11_10 (by omega) lo_0 rfl (sh_0_0 hX (by omega)) (by decide) ?_
  refine ev_getS (q := 69) dX11_stock_89 fo_11_278 (by omega) lo_1 rfl (sh_1_3 hX (by omega)) (by decide) ?_
  refine ev_getS (q := 75) dX11_stock_92 fo_11_306 (by omega) lo_69 rfl (sh_69_6 hX (by omega)) (by decide) ?_
  refine ev_iload_n dX11_stock_95 rfl ?_
  refine ev_iald dX11_stock_96 (by omega) ly_75 rfl b0 ?_
  exact ev_iret dX11_stock_97 rfl rfl hp
theorem bX11_stock_11_6 {g : GG} {d n0 nf : Nat} {post : Option Value → LX → Prop} {n : Nat} {X : LX} (hn : 146 ≤ nf) (hX : Sh nf X) {v1 : Nat} {v2 : Int32} {s0 : Int32} (c0 : ¬ s0 = 0) (c1 : v2 = 4) (b0 : v1 < 14) (hp : post (some (.int (X 76 v1))) X) : Ev g mX11_stock d n0 nf post nf 11 [some (.ref 0), some (.int (nI v1)), some (.int v2)] [.int s0] X := by
  refine ev_ifT (tgt := 17) dX11_stock_11 (by decide) c0 ?_
  refine ev_iload_n dX11_stock_17 rfl ?_
  refine ev_tabI (tgt := 98) (off := 80) dX11_stock_18 (by rw [c1]; decide) (by rw [c1]; decide) (by rw [c1]; rfl) (by decide) ?_
  refine ev_aload_n dX11_stock_98 rfl ?_
  refine ev_getS (q := 1) dX11_stock_99 fo_11_10 (by omega) lo_0 rfl (sh_0_0 hX (by omega)) (by decide) ?_
  refine ev_getS (q := 69) dX11_stock_102 fo_11_278 (by omega) lo_1 rfl (sh_1_3 hX (by omega)) (by decide) ?_
  refine ev_getS (q := 76) dX11_stock_105 fo_11_308 (by omega) lo_69 rfl (sh_69_7 hX (by omega)) (by decide) ?_
  refine ev_iload_n dX11_stock_108 rfl ?_
  refine ev_iald dX11_stock_109 (by omega) ly_76 rfl b0 ?_
  exact ev_iret dX11_stock_110 rfl rfl hp
theorem bX11_stock_63_0 {g : GG} {d n0 nf : Nat} {post : Option Value → LX → Prop} {n : Nat} {X : LX} (hn : 146 ≤ nf) (hX : Sh nf X) {v1 : Int32} {v2 : Int32} {s0 : Int32} (hp : post (some (.int s0)) X) : Ev g mX11_stock d n0 nf post nf 63 [some (.ref 0), some (.int v1), some (.int v2)] [.int s0] X := by
  exact ev_iret dX11_stock_63 rfl rfl hp
theorem bX11_stock_72_0 {g : GG} {d n0 nf : Nat} {post : Option Value → LX → Prop} {n : Nat} {X : LX} (hn : 146 ≤ nf) (hX : Sh nf X) {v1 : Int32} {v2 : Int32} {s0 : Int32} (hp : post (some (.int s0)) X) : Ev g mX11_stock d n0 nf post nf 72 [some (.ref 0), some (.int v1), some (.int v2)] [.int s0] X := by
  exact ev_iret dX11_stock_72 rfl rfl hp
theorem bX11_stock_84_0 {g : GG} {d n0 nf : Nat} {post : Option Value → LX → Prop} {n : Nat} {X : LX} (hn : 146 ≤ nf) (hX : Sh nf X) {v1 : Int32} {v2 : Int32} {s0 : Int32} (hp : post (some (.int s0)) X) : Ev g mX11_stock d n0 nf post nf 84 [some (.ref 0), some (.int v1), some (.int v2)] [.int s0] X := by
  exact ev_iret dX11_stock_84 rfl rfl hp
theorem bX11_plan_0_0 {g : GG} {d n0 nf : Nat} {post : Option Value → LX → Prop} {n : Nat} {X : LX} (hn : 146 ≤ n) (hX : Sh n X) {v1 : Int32} (k : Ev g mX11_plan d n0 nf post n 5 [some (.ref 0), some (.int v1), none] [.int 5000, .int 1, .int v1] X) : Ev g mX11_plan d n0 nf post n 0 [some (.ref 0), some (.int v1), none] [] X := by
  refine ev_iload_n dX11_plan_0 rfl ?_
  refine ev_iconst (v := 1) dX11_plan_1 ki_1 ?_
  refine ev_sipush (v := 5000) dX11_plan_2 ks_5000 ?_
  exact k
theorem bX11_plan_8_0 {g : GG} {d n0 nf : Nat} {post : Option Value → LX → Prop} {n : Nat} {X : LX} (hn : 146 ≤ nf) (hX : Sh nf X) {v1 : Int32} {s0 : Int32} (c0 : s0 = 0) (hp : post (some (.int (-1000000001))) X) : Ev g mX11_plan d n0 nf post nf 8 [some (.ref 0), some (.int v1), none] [.int s0] X := by
  refine ev_ifF (tgt := 14) dX11_plan_8 (by decide) c0 ?_
  refine ev_ldc (v := (-1000000001)) dX11_plan_11 kw_11_61 ?_
  exact ev_iret dX11_plan_13 rfl rfl hp
theorem bX11_plan_8_1 {g : GG} {d n0 nf : Nat} {post : Option Value → LX → Prop} {n : Nat} {X : LX} (hn : 146 ≤ n) (hX : Sh n X) {v1 : Int32} {s0 : Int32} (c0 : ¬ s0 = 0) (k : Ev g mX11_plan d n0 nf post n 19 [some (.ref 0), some (.int v1), none] [.int v1, .ref 87] X) : Ev g mX11_plan d n0 nf post n 8 [some (.ref 0), some (.int v1), none] [.int s0] X := by
  refine ev_ifT (tgt := 14) dX11_plan_8 (by decide) c0 ?_
  refine ev_aload_n dX11_plan_14 rfl ?_
  refine ev_getS (q := 87) dX11_plan_15 fo_11_35 (by omega) lo_0 rfl (sh_0_3 hX (by omega)) (by decide) ?_
  refine ev_iload_n dX11_plan_18 rfl ?_
  exact k
theorem bX11_plan_22_0 {g : GG} {d n0 nf : Nat} {post : Option Value → LX → Prop} {n : Nat} {X : LX} (hn : 146 ≤ nf) (hX : Sh nf X) {v1 : Int32} {s0 : Int32} (c0 : s0 = 0) (hp : post (some (.int (X 87 16))) X) : Ev g mX11_plan d n0 nf post nf 22 [some (.ref 0), some (.int v1), none] [.int s0] X := by
  refine ev_istore_n dX11_plan_22 (by decide) ?_
  refine ev_iload_n dX11_plan_23 rfl ?_
  refine ev_ifF (tgt := 37) dX11_plan_24 (by decide) c0 ?_
  refine ev_aload_n dX11_plan_27 rfl ?_
  refine ev_getS (q := 87) dX11_plan_28 fo_11_35 (by omega) lo_0 rfl (sh_0_3 hX (by omega)) (by decide) ?_
  refine ev_getI dX11_plan_31 fo_11_313 (by omega) lo_87 rfl ?_
  refine ev_goto (tgt := 38) dX11_plan_34 (by decide) ?_
  exact ev_iret dX11_plan_38 rfl rfl hp
theorem bX11_plan_22_1 {g : GG} {d n0 nf : Nat} {post : Option Value → LX → Prop} {n : Nat} {X : LX} (hn : 146 ≤ nf) (hX : Sh nf X) {v1 : Int32} {s0 : Int32} (c0 : ¬ s0 = 0) (hp : post (some (.int s0)) X) : Ev g mX11_plan d n0 nf post nf 22 [some (.ref 0), some (.int v1), none] [.int s0] X := by
  refine ev_istore_n dX11_plan_22 (by decide) ?_
  refine ev_iload_n dX11_plan_23 rfl ?_
  refine ev_ifT (tgt := 37) dX11_plan_24 (by decide) c0 ?_
  refine ev_iload_n dX11_plan_37 rfl ?_
  exact ev_iret dX11_plan_38 rfl rfl hp
theorem bX11_swap_0_0 {g : GG} {d n0 nf : Nat} {post : Option Value → LX → Prop} {n : Nat} {X : LX} (hn : 146 ≤ n) (hX : Sh n X) {v1 : Int32} {v2 : Int32} (k : Ev g mX11_swap d n0 nf post n 5 [some (.ref 0), some (.int v1), some (.int v2), none] [.int 5000, .int 1, .int v1] X) : Ev g mX11_swap d n0 nf post n 0 [some (.ref 0), some (.int v1), some (.int v2), none] [] X := by
  refine ev_iload_n dX11_swap_0 rfl ?_
  refine ev_iconst (v := 1) dX11_swap_1 ki_1 ?_
  refine ev_sipush (v := 5000) dX11_swap_2 ks_5000 ?_
  exact k
theorem bX11_swap_8_0 {g : GG} {d n0 nf : Nat} {post : Option Value → LX → Prop} {n : Nat} {X : LX} (hn : 146 ≤ n) (hX : Sh n X) {v1 : Int32} {v2 : Int32} {s0 : Int32} (c0 : ¬ s0 = 0) (k : Ev g mX11_swap d n0 nf post n 19 [some (.ref 0), some (.int v1), some (.int v2), none] [.int v2, .ref 37] X) : Ev g mX11_swap d n0 nf post n 8 [some (.ref 0), some (.int v1), some (.int v2), none] [.int s0] X := by
  refine ev_ifF (tgt := 25) dX11_swap_8 (by decide) c0 ?_
  refine ev_aload_n dX11_swap_11 rfl ?_
  refine ev_getS (q := 1) dX11_swap_12 fo_11_10 (by omega) lo_0 rfl (sh_0_0 hX (by omega)) (by decide) ?_
  refine ev_getS (q := 37) dX11_swap_15 fo_11_144 (by omega) lo_1 rfl (sh_1_2 hX (by omega)) (by decide) ?_
  refine ev_iload_n dX11_swap_18 rfl ?_
  exact k
theorem bX11_swap_8_1 {g : GG} {d n0 nf : Nat} {post : Option Value → LX → Prop} {n : Nat} {X : LX} (hn : 146 ≤ nf) (hX : Sh nf X) {v1 : Int32} {v2 : Int32} {s0 : Int32} (c0 : s0 = 0) (hp : post (some (.int (-1000000001))) X) : Ev g mX11_swap d n0 nf post nf 8 [some (.ref 0), some (.int v1), some (.int v2), none] [.int s0] X := by
  refine ev_ifT (tgt := 25) dX11_swap_8 (by decide) c0 ?_
  refine ev_ldc (v := (-1000000001)) dX11_swap_25 kw_11_61 ?_
  exact ev_iret dX11_swap_27 rfl rfl hp
theorem bX11_swap_22_0 {g : GG} {d n0 nf : Nat} {post : Option Value → LX → Prop} {n : Nat} {X : LX} (hn : 146 ≤ nf) (hX : Sh nf X) {v1 : Int32} {v2 : Int32} {s0 : Int32} (c0 : s0 = 0) (hp : post (some (.int (-1000000001))) X) : Ev g mX11_swap d n0 nf post nf 22 [some (.ref 0), some (.int v1), some (.int v2), none] [.int s0] X := by
  refine ev_ifF (tgt := 28) dX11_swap_22 (by decide) c0 ?_
  refine ev_ldc (v := (-1000000001)) dX11_swap_25 kw_11_61 ?_
  exact ev_iret dX11_swap_27 rfl rfl hp
theorem bX11_swap_22_1 {g : GG} {d n0 nf : Nat} {post : Option Value → LX → Prop} {n : Nat} {X : LX} (hn : 146 ≤ n) (hX : Sh n X) {v1 : Int32} {v2 : Int32} {s0 : Int32} (c0 : ¬ s0 = 0) (k : Ev g mX11_swap d n0 nf post n 33 [some (.ref 0), some (.int v1), some (.int v2), none] [.int v1, .ref 87] X) : Ev g mX11_swap d n0 nf post n 22 [some (.ref 0), some (.int v1), some (.int v2), none] [.int s0] X := by
  refine ev_ifT (tgt := 28) dX11_swap_22 (by decide) c0 ?_
  refine ev_aload_n dX11_swap_28 rfl ?_
  refine ev_getS (q := 87) dX11_swap_29 fo_11_35 (by omega) lo_0 rfl (sh_0_3 hX (by omega)) (by decide) ?_
  refine ev_iload_n dX11_swap_32 rfl ?_
  exact k
theorem bX11_swap_36_0 {g : GG} {d n0 nf : Nat} {post : Option Value → LX → Prop} {n : Nat} {X : LX} (hn : 146 ≤ nf) (hX : Sh nf X) {v1 : Int32} {v2 : Int32} {s0 : Int32} (c0 : ¬ s0 = 0) (hp : post (some (.int s0)) X) : Ev g mX11_swap d n0 nf post nf 36 [some (.ref 0), some (.int v1), some (.int v2), none] [.int s0] X := by
  refine ev_istore_n dX11_swap_36 (by decide) ?_
  refine ev_iload_n dX11_swap_37 rfl ?_
  refine ev_ifF (tgt := 43) dX11_swap_38 (by decide) c0 ?_
  refine ev_iload_n dX11_swap_41 rfl ?_
  exact ev_iret dX11_swap_42 rfl rfl hp
theorem bX11_swap_36_1 {g : GG} {d n0 nf : Nat} {post : Option Value → LX → Prop} {n : Nat} {X : LX} (hn : 146 ≤ n) (hX : Sh n X) {v1 : Int32} {v2 : Int32} {s0 : Int32} (c0 : s0 = 0) (k : Ev g mX11_swap d n0 nf post n 48 [some (.ref 0), some (.int v1), some (.int v2), some (.int s0)] [.int v2, .ref 87] X) : Ev g mX11_swap d n0 nf post n 36 [some (.ref 0), some (.int v1), some (.int v2), none] [.int s0] X := by
  refine ev_istore_n dX11_swap_36 (by decide) ?_
  refine ev_iload_n dX11_swap_37 rfl ?_
  refine ev_ifT (tgt := 43) dX11_swap_38 (by decide) c0 ?_
  refine ev_aload_n dX11_swap_43 rfl ?_
  refine ev_getS (q := 87) dX11_swap_44 fo_11_35 (by omega) lo_0 rfl (sh_0_3 hX (by omega)) (by decide) ?_
  refine ev_iload_n dX11_swap_47 rfl ?_
  exact k
theorem bX11_swap_51_0 {g : GG} {d n0 nf : Nat} {post : Option Value → LX → Prop} {n : Nat} {X : LX} (hn : 146 ≤ nf) (hX : Sh nf X) {v1 : Int32} {v2 : Int32} {v3 : Int32} {s0 : Int32} (c0 : s0 = 0) (hp : post (some (.int (-1000000005))) X) : Ev g mX11_swap d n0 nf post nf 51 [some (.ref 0), some (.int v1), some (.int v2), some (.int v3)] [.int s0] X := by
  refine ev_ifF (tgt := 58) dX11_swap_51 (by decide) c0 ?_
  refine ev_ldcw (v := (-1000000005)) dX11_swap_54 kw_11_319 ?_
  exact ev_iret dX11_swap_57 rfl rfl hp
theorem bX11_swap_51_1 {g : GG} {d n0 nf : Nat} {post : Option Value → LX → Prop} {n : Nat} {X : LX} (hn : 146 ≤ n) (hX : Sh n X) {v1 : Int32} {v2 : Int32} {v3 : Int32} {s0 : Int32} (c0 : ¬ s0 = 0) (k : Ev g mX11_swap d n0 nf post n 65 [some (.ref 0), some (.int v1), some (.int v2), some (.int v3)] [.int v2, .ref 87, .int 100] X) : Ev g mX11_swap d n0 nf post n 51 [some (.ref 0), some (.int v1), some (.int v2), some (.int v3)] [.int s0] X := by
  refine ev_ifT (tgt := 58) dX11_swap_51 (by decide) c0 ?_
  refine ev_bipush (v := 100) dX11_swap_58 kb_100 ?_
  refine ev_aload_n dX11_swap_60 rfl ?_
  refine ev_getS (q := 87) dX11_swap_61 fo_11_35 (by omega) lo_0 rfl (sh_0_3 hX (by omega)) (by decide) ?_
  refine ev_iload_n dX11_swap_64 rfl ?_
  exact k
theorem bX11_swap_68_0 {g : GG} {d n0 nf : Nat} {post : Option Value → LX → Prop} {n : Nat} {X : LX} (hn : 146 ≤ n) (hX : Sh n X) {v1 : Int32} {v2 : Int32} {v3 : Int32} {s0 : Int32} {s1 : Int32} (k : Ev g mX11_swap d n0 nf post n 74 [some (.ref 0), some (.int v1), some (.int v2), some (.int v3)] [.int v2, .ref 87, .int (s0 * s1)] X) : Ev g mX11_swap d n0 nf post n 68 [some (.ref 0), some (.int v1), some (.int v2), some (.int v3)] [.int s1, .int s0] X := by
  refine ev_imul dX11_swap_68 ?_
  refine ev_aload_n dX11_swap_69 rfl ?_
  refine ev_getS (q := 87) dX11_swap_70 fo_11_35 (by omega) lo_0 rfl (sh_0_3 hX (by omega)) (by decide) ?_
  refine ev_iload_n dX11_swap_73 rfl ?_
  exact k
theorem bX11_swap_77_0 {g : GG} {d n0 nf : Nat} {post : Option Value → LX → Prop} {n : Nat} {X : LX} (hn : 146 ≤ nf) (hX : Sh nf X) {v1 : Int32} {v2 : Int32} {v3 : Int32} {s0 : Int32} {s1 : Int32} (hp : post (some (.int (s0 + s1))) X) : Ev g mX11_swap d n0 nf post nf 77 [some (.ref 0), some (.int v1), some (.int v2), some (.int v3)] [.int s1, .int s0] X := by
  refine ev_iadd dX11_swap_77 ?_
  exact ev_iret dX11_swap_78 rfl rfl hp
theorem bX11_pack_0_0 {g : GG} {d n0 nf : Nat} {post : Option Value → LX → Prop} {n : Nat} {X : LX} (hn : 146 ≤ n) (hX : Sh n X) {v1 : Int32} (k : Ev g mX11_pack d n0 nf post n 5 [some (.ref 0), some (.int v1), none] [.int 5000, .int 1, .int v1] X) : Ev g mX11_pack d n0 nf post n 0 [some (.ref 0), some (.int v1), none] [] X := by
  refine ev_iload_n dX11_pack_0 rfl ?_
  refine ev_iconst (v := 1) dX11_pack_1 ki_1 ?_
  refine ev_sipush (v := 5000) dX11_pack_2 ks_5000 ?_
  exact k
theorem bX11_pack_8_0 {g : GG} {d n0 nf : Nat} {post : Option Value → LX → Prop} {n : Nat} {X : LX} (hn : 146 ≤ nf) (hX : Sh nf X) {v1 : Int32} {s0 : Int32} (c0 : s0 = 0) (hp : post (some (.int (-1000000001))) X) : Ev g mX11_pack d n0 nf post nf 8 [some (.ref 0), some (.int v1), none] [.int s0] X := by
  refine ev_ifF (tgt := 14) dX11_pack_8 (by decide) c0 ?_
  refine ev_ldc (v := (-1000000001)) dX11_pack_11 kw_11_61 ?_
  exact ev_iret dX11_pack_13 rfl rfl hp
theorem bX11_pack_8_1 {g : GG} {d n0 nf : Nat} {post : Option Value → LX → Prop} {n : Nat} {X : LX} (hn : 146 ≤ nf) (hX : Sh nf X) {v1 : Int32} {s0 : Int32} (c0 : ¬ s0 = 0) (c1 : ¬ X 1 8 = 0) (hp : post (some (.int (-1000000002))) X) : Ev g mX11_pack d n0 nf post nf 8 [some (.ref 0), some (.int v1), none] [.int s0] X := by
  refine ev_ifT (tgt := 14) dX11_pack_8 (by decide) c0 ?_
  refine ev_aload_n dX11_pack_14 rfl ?_
  refine ev_getS (q := 1) dX11_pack_15 fo_11_10 (by omega) lo_0 rfl (sh_0_0 hX (by omega)) (by decide) ?_
  refine ev_getI dX11_pack_18 fo_11_196 (by omega) lo_1 rfl ?_
  refine ev_ifF (tgt := 27) dX11_pack_21 (by decide) c1 ?_
  refine ev_ldc (v := (-1000000002)) dX11_pack_24 kw_11_124 ?_
  exact ev_iret dX11_pack_26 rfl rfl hp
theorem bX11_pack_8_2 {g : GG} {d n0 nf : Nat} {post : Option Value → LX → Prop} {n : Nat} {X : LX} (hn : 146 ≤ n) (hX : Sh n X) {v1 : Int32} {s0 : Int32} (c0 : ¬ s0 = 0) (c1 : X 1 8 = 0) (k : Ev g mX11_pack d n0 nf post n 32 [some (.ref 0), some (.int v1), none] [.int v1, .ref 87] X) : Ev g mX11_pack d n0 nf post n 8 [some (.ref 0), some (.int v1), none] [.int s0] X := by
  refine ev_ifT (tgt := 14) dX11_pack_8 (by decide) c0 ?_
  refine ev_aload_n dX11_pack_14 rfl ?_
  refine ev_getS (q := 1) dX11_pack_15 fo_11_10 (by omega) lo_0 rfl (sh_0_0 hX (by omega)) (by decide) ?_
  refine ev_getI dX11_pack_18 fo_11_196 (by omega) lo_1 rfl ?_
  refine ev_ifT (tgt := 27) dX11_pack_21 (by decide) c1 ?_
  refine ev_aload_n dX11_pack_27 rfl ?_
  refine ev_getS (q := 87) dX11_pack_28 fo_11_35 (by omega) lo_0 rfl (sh_0_3 hX (by omega)) (by decide) ?_
  refine ev_iload_n dX11_pack_31 rfl ?_
  exact k
theorem bX11_pack_35_0 {g : GG} {d n0 nf : Nat} {post : Option Value → LX → Prop} {n : Nat} {X : LX} (hn : 146 ≤ n) (hX : Sh n X) {v1 : Int32} {s0 : Int32} (c0 : s0 = 0) (k : Ev g mX11_pack d n0 nf post n 44 [some (.ref 0), some (.int v1), some (.int s0)] [.ref 87] X) : Ev g mX11_pack d n0 nf post n 35 [some (.ref 0), some (.int v1), none] [.int s0] X := by
  refine ev_istore_n dX11_pack_35 (by decide) ?_
  refine ev_iload_n dX11_pack_36 rfl ?_
  refine ev_ifF (tgt := 50) dX11_pack_37 (by decide) c0 ?_
  refine ev_aload_n dX11_pack_40 rfl ?_
  refine ev_getS (q := 87) dX11_pack_41 fo_11_35 (by omega) lo_0 rfl (sh_0_3 hX (by omega)) (by decide) ?_
  exact k
theorem bX11_pack_35_1 {g : GG} {d n0 nf : Nat} {post : Option Value → LX → Prop} {n : Nat} {X : LX} (hn : 146 ≤ nf) (hX : Sh nf X) {v1 : Int32} {s0 : Int32} (c0 : ¬ s0 = 0) (hp : post (some (.int s0)) X) : Ev g mX11_pack d n0 nf post nf 35 [some (.ref 0), some (.int v1), none] [.int s0] X := by
  refine ev_istore_n dX11_pack_35 (by decide) ?_
  refine ev_iload_n dX11_pack_36 rfl ?_
  refine ev_ifT (tgt := 50) dX11_pack_37 (by decide) c0 ?_
  refine ev_iload_n dX11_pack_50 rfl ?_
  exact ev_iret dX11_pack_51 rfl rfl hp
theorem bX11_pack_47_0 {g : GG} {d n0 nf : Nat} {post : Option Value → LX → Prop} {n : Nat} {X : LX} (hn : 146 ≤ nf) (hX : Sh nf X) {v1 : Int32} {v2 : Int32} {s0 : Int32} (hp : post (some (.int s0)) X) : Ev g mX11_pack d n0 nf post nf 47 [some (.ref 0), some (.int v1), some (.int v2)] [.int s0] X := by
  refine ev_goto (tgt := 51) dX11_pack_47 (by decide) ?_
  exact ev_iret dX11_pack_51 rfl rfl hp
theorem bX11_recall_0_0 {g : GG} {d n0 nf : Nat} {post : Option Value → LX → Prop} {n : Nat} {X : LX} (hn : 146 ≤ n) (hX : Sh n X) {v1 : Int32} (k : Ev g mX11_recall d n0 nf post n 8 [some (.ref 0), some (.int v1)] [.int v1, .ref 69] X) : Ev g mX11_recall d n0 nf post n 0 [some (.ref 0), some (.int v1)] [] X := by
  refine ev_aload_n dX11_recall_0 rfl ?_
  refine ev_getS (q := 1) dX11_recall_1 fo_11_10 (by omega) lo_0 rfl (sh_0_0 hX (by omega)) (by decide) ?_
  refine ev_getS (q := 69) dX11_recall_4 fo_11_278 (by omega) lo_1 rfl (sh_1_3 hX (by omega)) (by decide) ?_
  refine ev_iload_n dX11_recall_7 rfl ?_
  exact k
theorem bX11_recall_11_0 {g : GG} {d n0 nf : Nat} {post : Option Value → LX → Prop} {n : Nat} {X : LX} (hn : 146 ≤ nf) (hX : Sh nf X) {v1 : Int32} {s0 : Int32} (c0 : s0 = 0) (hp : post (some (.int (-1000000001))) X) : Ev g mX11_recall d n0 nf post nf 11 [some (.ref 0), some (.int v1)] [.int s0] X := by
  refine ev_ifF (tgt := 17) dX11_recall_11 (by decide) c0 ?_
  refine ev_ldc (v := (-1000000001)) dX11_recall_14 kw_11_61 ?_
  exact ev_iret dX11_recall_16 rfl rfl hp
theorem bX11_recall_11_1 {g : GG} {d n0 nf : Nat} {post : Option Value → LX → Prop} {n : Nat} {X : LX} (hn : 146 ≤ n) (hX : Sh n X) {v1 : Int32} {s0 : Int32} (c0 : ¬ s0 = 0) (k : Ev g mX11_recall d n0 nf post n 25 [some (.ref 0), some (.int v1)] [.int v1, .ref 69] X) : Ev g mX11_recall d n0 nf post n 11 [some (.ref 0), some (.int v1)] [.int s0] X := by
  refine ev_ifT (tgt := 17) dX11_recall_11 (by decide) c0 ?_
  refine ev_aload_n dX11_recall_17 rfl ?_
  refine ev_getS (q := 1) dX11_recall_18 fo_11_10 (by omega) lo_0 rfl (sh_0_0 hX (by omega)) (by decide) ?_
  refine ev_getS (q := 69) dX11_recall_21 fo_11_278 (by omega) lo_1 rfl (sh_1_3 hX (by omega)) (by decide) ?_
  refine ev_iload_n dX11_recall_24 rfl ?_
  exact k
theorem bX11_recall_28_0 {g : GG} {d n0 nf : Nat} {post : Option Value → LX → Prop} {n : Nat} {X : LX} (hn : 146 ≤ nf) (hX : Sh nf X) {v1 : Nat} (b0 : v1 < 40) (hp : post (some (.int (X 74 v1))) X) : Ev g mX11_recall d n0 nf post nf 28 [some (.ref 0), some (.int (nI v1))] [] X := by
  refine ev_aload_n dX11_recall_28 rfl ?_
  refine ev_getS (q := 1) dX11_recall_29 fo_11_10 (by omega) lo_0 rfl (sh_0_0 hX (by omega)) (by decide) ?_
  refine ev_getS (q := 69) dX11_recall_32 fo_11_278 (by omega) lo_1 rfl (sh_1_3 hX (by omega)) (by decide) ?_
  refine ev_getS (q := 74) dX11_recall_35 fo_11_333 (by omega) lo_69 rfl (sh_69_5 hX (by omega)) (by decide) ?_
  refine ev_iload_n dX11_recall_38 rfl ?_
  refine ev_iald dX11_recall_39 (by omega) ly_74 rfl b0 ?_
  exact ev_iret dX11_recall_40 rfl rfl hp
theorem bX11_end_0_0 {g : GG} {d n0 nf : Nat} {post : Option Value → LX → Prop} {n : Nat} {X : LX} (hn : 146 ≤ nf) (hX : Sh nf X)  (c0 : ¬ X 1 5 < 99) (hp : post (some (.int (-1000000002))) X) : Ev g mX11_end d n0 nf post nf 0 [some (.ref 0)] [] X := by
  refine ev_aload_n dX11_end_0 rfl ?_
  refine ev_getS (q := 1) dX11_end_1 fo_11_10 (by omega) lo_0 rfl (sh_0_0 hX (by omega)) (by decide) ?_
  refine ev_getI dX11_end_4 fo_11_203 (by omega) lo_1 rfl ?_
  refine ev_bipush (v := 99) dX11_end_7 kb_99 ?_
  refine ev_icmpF (tgt := 15) dX11_end_9 (by decide) c0 ?_
  refine ev_ldc (v := (-1000000002)) dX11_end_12 kw_11_124 ?_
  exact ev_iret dX11_end_14 rfl rfl hp
theorem bX11_end_0_1 {g : GG} {d n0 nf : Nat} {post : Option Value → LX → Prop} {n : Nat} {X : LX} (hn : 146 ≤ n) (hX : Sh n X)  (c0 : X 1 5 < 99) (k : Ev g mX11_end d n0 nf post n 19 [some (.ref 0)] [.ref 1] X) : Ev g mX11_end d n0 nf post n 0 [some (.ref 0)] [] X := by
  refine ev_aload_n dX11_end_0 rfl ?_
  refine ev_getS (q := 1) dX11_end_1 fo_11_10 (by omega) lo_0 rfl (sh_0_0 hX (by omega)) (by decide) ?_
  refine ev_getI dX11_end_4 fo_11_203 (by omega) lo_1 rfl ?_
  refine ev_bipush (v := 99) dX11_end_7 kb_99 ?_
  refine ev_icmpT (tgt := 15) dX11_end_9 (by decide) c0 ?_
  refine ev_aload_n dX11_end_15 rfl ?_
  refine ev_getS (q := 1) dX11_end_16 fo_11_10 (by omega) lo_0 rfl (sh_0_0 hX (by omega)) (by decide) ?_
  exact k
theorem bX11_end_22_0 {g : GG} {d n0 nf : Nat} {post : Option Value → LX → Prop} {n : Nat} {X : LX} (hn : 146 ≤ nf) (hX : Sh nf X)  (hp : post (some (.int (X 1 5))) X) : Ev g mX11_end d n0 nf post nf 22 [some (.ref 0)] [] X := by
  refine ev_aload_n dX11_end_22 rfl ?_
  refine ev_getS (q := 1) dX11_end_23 fo_11_10 (by omega) lo_0 rfl (sh_0_0 hX (by omega)) (by decide) ?_
  refine ev_getI dX11_end_26 fo_11_203 (by omega) lo_1 rfl ?_
  exact ev_iret dX11_end_29 rfl rfl hp
theorem bX11_shifts_0_0 {g : GG} {d n0 nf : Nat} {post : Option Value → LX → Prop} {n : Nat} {X : LX} (hn : 146 ≤ n) (hX : Sh n X) {v1 : Int32} (k : Ev g mX11_shifts d n0 nf post n 3 [some (.ref 0), some (.int v1)] [.int 1, .int 0, .int v1] X) : Ev g mX11_shifts d n0 nf post n 0 [some (.ref 0), some (.int v1)] [] X := by
  refine ev_iload_n dX11_shifts_0 rfl ?_
  refine ev_iconst (v := 0) dX11_shifts_1 ki_0 ?_
  refine ev_iconst (v := 1) dX11_shifts_2 ki_1 ?_
  exact k
theorem bX11_shifts_6_0 {g : GG} {d n0 nf : Nat} {post : Option Value → LX → Prop} {n : Nat} {X : LX} (hn : 146 ≤ nf) (hX : Sh nf X) {v1 : Int32} {s0 : Int32} (c0 : s0 = 0) (hp : post (some (.int (-1000000001))) X) : Ev g mX11_shifts d n0 nf post nf 6 [some (.ref 0), some (.int v1)] [.int s0] X := by
  refine ev_ifF (tgt := 12) dX11_shifts_6 (by decide) c0 ?_
  refine ev_ldc (v := (-1000000001)) dX11_shifts_9 kw_11_61 ?_
  exact ev_iret dX11_shifts_11 rfl rfl hp
theorem bX11_shifts_6_1 {g : GG} {d n0 nf : Nat} {post : Option Value → LX → Prop} {n : Nat} {X : LX} (hn : 146 ≤ n) (hX : Sh n X) {v1 : Int32} {s0 : Int32} (c0 : ¬ s0 = 0) (k : Ev g mX11_shifts d n0 nf post n 16 [some (.ref 0), some (.int v1)] [.ref 110] X) : Ev g mX11_shifts d n0 nf post n 6 [some (.ref 0), some (.int v1)] [.int s0] X := by
  refine ev_ifT (tgt := 12) dX11_shifts_6 (by decide) c0 ?_
  refine ev_aload_n dX11_shifts_12 rfl ?_
  refine ev_getS (q := 110) dX11_shifts_13 fo_11_42 (by omega) lo_0 rfl (sh_0_4 hX (by omega)) (by decide) ?_
  exact k
theorem bX11_shifts_19_0 {g : GG} {d n0 nf : Nat} {post : Option Value → LX → Prop} {n : Nat} {X : LX} (hn : 146 ≤ nf) (hX : Sh nf X) {v1 : Int32} (c0 : v1 = 0) (hp : post (some (.int (X 110 3))) X) : Ev g mX11_shifts d n0 nf post nf 19 [some (.ref 0), some (.int v1)] [] X := by
  refine ev_iload_n dX11_shifts_19 rfl ?_
  refine ev_ifF (tgt := 33) dX11_shifts_20 (by decide) c0 ?_
  refine ev_aload_n dX11_shifts_23 rfl ?_
  refine ev_getS (q := 110) dX11_shifts_24 fo_11_42 (by omega) lo_0 rfl (sh_0_4 hX (by omega)) (by decide) ?_
  refine ev_getI dX11_shifts_27 fo_11_341 (by omega) lo_110 rfl ?_
  refine ev_goto (tgt := 40) dX11_shifts_30 (by decide) ?_
  exact ev_iret dX11_shifts_40 rfl rfl hp
theorem bX11_shifts_19_1 {g : GG} {d n0 nf : Nat} {post : Option Value → LX → Prop} {n : Nat} {X : LX} (hn : 146 ≤ nf) (hX : Sh nf X) {v1 : Int32} (c0 : ¬ v1 = 0) (hp : post (some (.int (X 110 4))) X) : Ev g mX11_shifts d n0 nf post nf 19 [some (.ref 0), some (.int v1)] [] X := by
  refine ev_iload_n dX11_shifts_19 rfl ?_
  refine ev_ifT (tgt := 33) dX11_shifts_20 (by decide) c0 ?_
  refine ev_aload_n dX11_shifts_33 rfl ?_
  refine ev_getS (q := 110) dX11_shifts_34 fo_11_42 (by omega) lo_0 rfl (sh_0_4 hX (by omega)) (by decide) ?_
  refine ev_getI dX11_shifts_37 fo_11_344 (by omega) lo_110 rfl ?_
  exact ev_iret dX11_shifts_40 rfl rfl hp
theorem bX11_picks_0_0 {g : GG} {d n0 nf : Nat} {post : Option Value → LX → Prop} {n : Nat} {X : LX} (hn : 146 ≤ n) (hX : Sh n X) {v1 : Int32} {v2 : Int32} {v3 : Int32} (k : Ev g mX11_picks d n0 nf post n 3 [some (.ref 0), some (.int v1), some (.int v2), some (.int v3)] [.int 3, .int 0, .int v1] X) : Ev g mX11_picks d n0 nf post n 0 [some (.ref 0), some (.int v1), some (.int v2), some (.int v3)] [] X := by
  refine ev_iload_n dX11_picks_0 rfl ?_
  refine ev_iconst (v := 0) dX11_picks_1 ki_0 ?_
  refine ev_iconst (v := 3) dX11_picks_2 ki_3 ?_
  exact k
theorem bX11_picks_6_0 {g : GG} {d n0 nf : Nat} {post : Option Value → LX → Prop} {n : Nat} {X : LX} (hn : 146 ≤ n) (hX : Sh n X) {v1 : Int32} {v2 : Int32} {v3 : Int32} {s0 : Int32} (c0 : ¬ s0 = 0) (k : Ev g mX11_picks d n0 nf post n 12 [some (.ref 0), some (.int v1), some (.int v2), some (.int v3)] [.int 1, .int 0, .int v2] X) : Ev g mX11_picks d n0 nf post n 6 [some (.ref 0), some (.int v1), some (.int v2), some (.int v3)] [.int s0] X := by
  refine ev_ifF (tgt := 18) dX11_picks_6 (by decide) c0 ?_
  refine ev_iload_n dX11_picks_9 rfl ?_
  refine ev_iconst (v := 0) dX11_picks_10 ki_0 ?_
  refine ev_iconst (v := 1) dX11_picks_11 ki_1 ?_
  exact k
theorem bX11_picks_6_1 {g : GG} {d n0 nf : Nat} {post : Option Value → LX → Prop} {n : Nat} {X : LX} (hn : 146 ≤ nf) (hX : Sh nf X) {v1 : Int32} {v2 : Int32} {v3 : Int32} {s0 : Int32} (c0 : s0 = 0) (hp : post (some (.int (-1000000001))) X) : Ev g mX11_picks d n0 nf post nf 6 [some (.ref 0), some (.int v1), some (.int v2), some (.int v3)] [.int s0] X := by
  refine ev_ifT (tgt := 18) dX11_picks_6 (by decide) c0 ?_
  refine ev_ldc (v := (-1000000001)) dX11_picks_18 kw_11_61 ?_
  exact ev_iret dX11_picks_20 rfl rfl hp
theorem bX11_picks_15_0 {g : GG} {d n0 nf : Nat} {post : Option Value → LX → Prop} {n : Nat} {X : LX} (hn : 146 ≤ nf) (hX : Sh nf X) {v1 : Int32} {v2 : Int32} {v3 : Int32} {s0 : Int32} (c0 : s0 = 0) (hp : post (some (.int (-1000000001))) X) : Ev g mX11_picks d n0 nf post nf 15 [some (.ref 0), some (.int v1), some (.int v2), some (.int v3)] [.int s0] X := by
  refine ev_ifF (tgt := 21) dX11_picks_15 (by decide) c0 ?_
  refine ev_ldc (v := (-1000000001)) dX11_picks_18 kw_11_61 ?_
  exact ev_iret dX11_picks_20 rfl rfl hp
theorem bX11_picks_15_1 {g : GG} {d n0 nf : Nat} {post : Option Value → LX → Prop} {n : Nat} {X : LX} (hn : 146 ≤ n) (hX : Sh n X) {v1 : Int32} {v2 : Int32} {v3 : Int32} {s0 : Int32} (c0 : ¬ s0 = 0) (k : Ev g mX11_picks d n0 nf post n 32 [some (.ref 0), some (.int v1), some (.int v2), some (.int v3)] [.int (X 37 0), .int v3] X) : Ev g mX11_picks d n0 nf post n 15 [some (.ref 0), some (.int v1), some (.int v2), some (.int v3)] [.int s0] X := by
  refine ev_ifT (tgt := 21) dX11_picks_15 (by decide) c0 ?_
  refine ev_iload_n dX11_picks_21 rfl ?_
  refine ev_aload_n dX11_picks_22 rfl ?_
  refine ev_getS (q := 1) dX11_picks_23 fo_11_10 (by omega) lo_0 rfl (sh_0_0 hX (by omega)) (by decide) ?_
  refine ev_getS (q := 37) dX11_picks_26 fo_11_144 (by omega) lo_1 rfl (sh_1_2 hX (by omega)) (by decide) ?_
  refine ev_getI dX11_picks_29 fo_11_148 (by omega) lo_37 rfl ?_
  exact k
theorem bX11_picks_35_0 {g : GG} {d n0 nf : Nat} {post : Option Value → LX → Prop} {n : Nat} {X : LX} (hn : 146 ≤ nf) (hX : Sh nf X) {v1 : Int32} {v2 : Int32} {v3 : Int32} {s0 : Int32} (c0 : s0 = 0) (hp : post (some (.int (-1000000001))) X) : Ev g mX11_picks d n0 nf post nf 35 [some (.ref 0), some (.int v1), some (.int v2), some (.int v3)] [.int s0] X := by
  refine ev_ifF (tgt := 41) dX11_picks_35 (by decide) c0 ?_
  refine ev_ldc (v := (-1000000001)) dX11_picks_38 kw_11_61 ?_
  exact ev_iret dX11_picks_40 rfl rfl hp
theorem bX11_picks_35_1 {g : GG} {d n0 nf : Nat} {post : Option Value → LX → Prop} {n : Nat} {X : LX} (hn : 146 ≤ n) (hX : Sh n X) {v1 : Int32} {v2 : Int32} {v3 : Int32} {s0 : Int32} (c0 : ¬ s0 = 0) (k : Ev g mX11_picks d n0 nf post n 48 [some (.ref 0), some (.int v1), some (.int v2), some (.int v3)] [.int v3, .int v2, .int v1, .ref 110] X) : Ev g mX11_picks d n0 nf post n 35 [some (.ref 0), some (.int v1), some (.int v2), some (.int v3)] [.int s0] X := by
  refine ev_ifT (tgt := 41) dX11_picks_35 (by decide) c0 ?_
  refine ev_aload_n dX11_picks_41 rfl ?_
  refine ev_getS (q := 110) dX11_picks_42 fo_11_42 (by omega) lo_0 rfl (sh_0_4 hX (by omega)) (by decide) ?_
  refine ev_iload_n dX11_picks_45 rfl ?_
  refine ev_iload_n dX11_picks_46 rfl ?_
  refine ev_iload_n dX11_picks_47 rfl ?_
  exact k
theorem bX11_picks_51_0 {g : GG} {d n0 nf : Nat} {post : Option Value → LX → Prop} {n : Nat} {X : LX} (hn : 146 ≤ nf) (hX : Sh nf X) {v1 : Int32} {v2 : Int32} {v3 : Int32} {s0 : Int32} (hp : post (some (.int s0)) X) : Ev g mX11_picks d n0 nf post nf 51 [some (.ref 0), some (.int v1), some (.int v2), some (.int v3)] [.int s0] X := by
  exact ev_iret dX11_picks_51 rfl rfl hp
theorem bX11_tell_0_0 {g : GG} {d n0 nf : Nat} {post : Option Value → LX → Prop} {n : Nat} {X : LX} (hn : 146 ≤ nf) (hX : Sh nf X) {v1 : Int32} (c0 : ¬ X 0 7 < 36) (hp : post (some (.int (-1000000003))) X) : Ev g mX11_tell d n0 nf post nf 0 [some (.ref 0), some (.int v1)] [] X := by
  refine ev_aload_n dX11_tell_0 rfl ?_
  refine ev_getI dX11_tell_1 fo_11_351 (by omega) lo_0 rfl ?_
  refine ev_bipush (v := 36) dX11_tell_4 kb_36 ?_
  refine ev_icmpF (tgt := 12) dX11_tell_6 (by decide) c0 ?_
  refine ev_ldc (v := (-1000000003)) dX11_tell_9 kw_11_72 ?_
  exact ev_iret dX11_tell_11 rfl rfl hp
theorem bX11_tell_0_1 {g : GG} {d n0 nf : Nat} {post : Option Value → LX → Prop} {n : Nat} {X : LX} (hn : 146 ≤ nf) (hX : Sh nf X) {v1 : Int32} {j1 : Nat} (c0 : X 0 7 < 36) (hj1 : X 0 7 = nI j1) (b0 : j1 < 36) (hp : post (some (.int ((X 0 7) + 1))) (lx_up (lx_up X 0 7 ((X 0 7) + 1)) 132 j1 v1)) : Ev g mX11_tell d n0 nf post nf 0 [some (.ref 0), some (.int v1)] [] X := by
  refine ev_aload_n dX11_tell_0 rfl ?_
  refine ev_getI dX11_tell_1 fo_11_351 (by omega) lo_0 rfl ?_
  refine ev_bipush (v := 36) dX11_tell_4 kb_36 ?_
  refine ev_icmpT (tgt := 12) dX11_tell_6 (by decide) c0 ?_
  refine ev_aload_n dX11_tell_12 rfl ?_
  refine ev_getS (q := 132) dX11_tell_13 fo_11_53 (by omega) lo_0 rfl (sh_0_6 hX (by omega)) (by decide) ?_
  refine ev_aload_n dX11_tell_16 rfl ?_
  refine ev_dup dX11_tell_17 rfl ?_
  refine ev_getI dX11_tell_18 fo_11_351 (by omega) lo_0 rfl ?_
  refine ev_dup_x1 dX11_tell_21 rfl rfl ?_
  refine ev_iconst (v := 1) dX11_tell_22 ki_1 ?_
  refine ev_iadd dX11_tell_23 ?_
  refine ev_putI dX11_tell_24 fo_11_351 (by omega) lo_0 rfl rfl rfl ?_
  have hX1 : Sh _ (lx_up X 0 7 ((X 0 7) + 1)) := Sh.upF hX (by rw [lo_0]; decide) (by decide)
  refine ev_iload_n dX11_tell_27 rfl ?_
  refine ev_iast dX11_tell_28 (by omega) ly_132 hj1 b0 ?_
  have hX2 : Sh _ (lx_up (lx_up X 0 7 ((X 0 7) + 1)) 132 j1 v1) := Sh.upA hX1 (by rw [ly_132]; exact (by decide : 0 < 2))
  refine ev_aload_n dX11_tell_29 rfl ?_
  refine ev_getI dX11_tell_30 fo_11_351 (by omega) lo_0 rfl ?_
  exact ev_iret dX11_tell_33 rfl rfl hp
theorem bX11_check_0_0 {g : GG} {d n0 nf : Nat} {post : Option Value → LX → Prop} {n : Nat} {X : LX} (hn : 146 ≤ n) (hX : Sh n X)  (k : Ev g mX11_check d n0 nf post n 17 [some (.ref 0), some (.int (X 0 7)), none, none, none, none] [.int 5000, .ref 87] (lx_up X 0 7 0)) : Ev g mX11_check d n0 nf post n 0 [some (.ref 0), none, none, none, none, none] [] X := by
  refine ev_aload_n dX11_check_0 rfl ?_
  refine ev_getI dX11_check_1 fo_11_351 (by omega) lo_0 rfl ?_
  refine ev_istore_n dX11_check_4 (by decide) ?_
  refine ev_aload_n dX11_check_5 rfl ?_
  refine ev_iconst (v := 0) dX11_check_6 ki_0 ?_
  refine ev_putI dX11_check_7 fo_11_351 (by omega) lo_0 rfl rfl rfl ?_
  have hX1 : Sh _ (lx_up X 0 7 0) := Sh.upF hX (by rw [lo_0]; decide) (by decide)
  refine ev_aload_n dX11_check_10 rfl ?_
  refine ev_getS (q := 87) dX11_check_11 fo_11_35 (by omega) lo_0 rfl (sh_0_3 hX1 (by omega)) (by decide) ?_
  refine ev_sipush (v := 5000) dX11_check_14 ks_5000 ?_
  exact k
theorem bX11_check_20_0 {g : GG} {d n0 nf : Nat} {post : Option Value → LX → Prop} {n : Nat} {X : LX} (hn : 146 ≤ nf) (hX : Sh nf X) {v1 : Int32} {s0 : Int32} (c0 : ¬ s0 = 0) (hp : post (some (.int s0)) X) : Ev g mX11_check d n0 nf post nf 20 [some (.ref 0), some (.int v1), none, none, none, none] [.int s0] X := by
  refine ev_istore_n dX11_check_20 (by decide) ?_
  refine ev_iload_n dX11_check_21 rfl ?_
  refine ev_ifF (tgt := 27) dX11_check_22 (by decide) c0 ?_
  refine ev_iload_n dX11_check_25 rfl ?_
  exact ev_iret dX11_check_26 rfl rfl hp
theorem bX11_check_20_1 {g : GG} {d n0 nf : Nat} {post : Option Value → LX → Prop} {n : Nat} {X : LX} (hn : 146 ≤ n) (hX : Sh n X) {v1 : Int32} {s0 : Int32} (c0 : s0 = 0) (k : Ev g mX11_check d n0 nf post n 31 [some (.ref 0), some (.int v1), some (.int s0), none, none, none] [.ref 87] X) : Ev g mX11_check d n0 nf post n 20 [some (.ref 0), some (.int v1), none, none, none, none] [.int s0] X := by
  refine ev_istore_n dX11_check_20 (by decide) ?_
  refine ev_iload_n dX11_check_21 rfl ?_
  refine ev_ifT (tgt := 27) dX11_check_22 (by decide) c0 ?_
  refine ev_aload_n dX11_check_27 rfl ?_
  refine ev_getS (q := 87) dX11_check_28 fo_11_35 (by omega) lo_0 rfl (sh_0_3 hX (by omega)) (by decide) ?_
  exact k
theorem bX11_check_34_0 {g : GG} {d n0 nf : Nat} {post : Option Value → LX → Prop} {n : Nat} {X : LX} (hn : 146 ≤ n) (hX : Sh n X) {v1 : Int32} {v2 : Int32} (k : Ev g mX11_check d n0 nf post n 47 [some (.ref 0), some (.int v1), some (.int v2), some (.ref 109), some (.int (X 87 18)), some (.int 0)] [] X) : Ev g mX11_check d n0 nf post n 34 [some (.ref 0), some (.int v1), some (.int v2), none, none, none] [.ref 109] X := by
  refine ev_astore_n dX11_check_34 (by decide) ?_
  refine ev_aload_n dX11_check_35 rfl ?_
  refine ev_getS (q := 87) dX11_check_36 fo_11_35 (by omega) lo_0 rfl (sh_0_3 hX (by omega)) (by decide) ?_
  refine ev_getI dX11_check_39 fo_11_358 (by omega) lo_87 rfl ?_
  refine ev_istore dX11_check_42 (by decide) ?_
  refine ev_iconst (v := 0) dX11_check_44 ki_0 ?_
  refine ev_istore dX11_check_45 (by decide) ?_
  exact k
theorem bX11_check_47_0 {g : GG} {d n0 nf : Nat} {post : Option Value → LX → Prop} {n : Nat} {X : LX} (hn : 146 ≤ n) (hX : Sh n X) {v1 : Int32} {v2 : Int32} {v4 : Int32} {v5 : Nat} (c0 : ¬ v1 ≤ nI v5) (c1 : ¬ v4 ≤ nI v5) (b0 : v5 < 36) (b1 : v5 < 36) (c2 : X 132 v5 = X 109 v5) (k : Ev g mX11_check d n0 nf post n 47 [some (.ref 0), some (.int v1), some (.int v2), some (.ref 109), some (.int v4), some (.int ((nI v5) + 1))] [] X) : Ev g mX11_check d n0 nf post n 47 [some (.ref 0), some (.int v1), some (.int v2), some (.ref 109), some (.int v4), some (.int (nI v5))] [] X := by
  refine ev_iload dX11_check_47 rfl ?_
  refine ev_iload_n dX11_check_49 rfl ?_
  refine ev_icmpF (tgt := 80) dX11_check_50 (by decide) c0 ?_
  refine ev_iload dX11_check_53 rfl ?_
  refine ev_iload dX11_check_55 rfl ?_
  refine ev_icmpF (tgt := 80) dX11_check_57 (by decide) c1 ?_
  refine ev_aload_n dX11_check_60 rfl ?_
  refine ev_getS (q := 132) dX11_check_61 fo_11_53 (by omega) lo_0 rfl (sh_0_6 hX (by omega)) (by decide) ?_
  refine ev_iload dX11_check_64 rfl ?_
  refine ev_iald dX11_check_66 (by omega) ly_132 rfl b0 ?_
  refine ev_aload_n dX11_check_67 rfl ?_
  refine ev_iload dX11_check_68 rfl ?_
  refine ev_iald dX11_check_70 (by omega) ly_109 rfl b1 ?_
  refine ev_icmpF (tgt := 80) dX11_check_71 (by decide) c2 ?_
  refine ev_iinc (v := (nI v5) + 1) dX11_check_74 rfl (by rw [show Int32.ofInt 1 = 1 from ki_1]) (by decide) ?_
  refine ev_goto (tgt := 47) dX11_check_77 (by decide) ?_
  exact k
theorem bX11_check_47_1 {g : GG} {d n0 nf : Nat} {post : Option Value → LX → Prop} {n : Nat} {X : LX} (hn : 146 ≤ nf) (hX : Sh nf X) {v1 : Int32} {v2 : Int32} {v4 : Int32} {v5 : Nat} (c0 : ¬ v1 ≤ nI v5) (c1 : ¬ v4 ≤ nI v5) (b0 : v5 < 36) (b1 : v5 < 36) (c2 : ¬ X 132 v5 = X 109 v5) (c3 : nI v5 = v1) (c4 : nI v5 = v4) (hp : post (some (.int 0)) X) : Ev g mX11_check d n0 nf post nf 47 [some (.ref 0), some (.int v1), some (.int v2), some (.ref 109), some (.int v4), some (.int (nI v5))] [] X := by
  refine ev_iload dX11_check_47 rfl ?_
  refine ev_iload_n dX11_check_49 rfl ?_
  refine ev_icmpF (tgt := 80) dX11_check_50 (by decide) c0 ?_
  refine ev_iload dX11_check_53 rfl ?_
  refine ev_iload dX11_check_55 rfl ?_
  refine ev_icmpF (tgt := 80) dX11_check_57 (by decide) c1 ?_
  refine ev_aload_n dX11_check_60 rfl ?_
  refine ev_getS (q := 132) dX11_check_61 fo_11_53 (by omega) lo_0 rfl (sh_0_6 hX (by omega)) (by decide) ?_
  refine ev_iload dX11_check_64 rfl ?_
  refine ev_iald dX11_check_66 (by omega) ly_132 rfl b0 ?_
  refine ev_aload_n dX11_check_67 rfl ?_
  refine ev_iload dX11_check_68 rfl ?_
  refine ev_iald dX11_check_70 (by omega) ly_109 rfl b1 ?_
  refine ev_icmpT (tgt := 80) dX11_check_71 (by decide) c2 ?_
  refine ev_iload dX11_check_80 rfl ?_
  refine ev_iload_n dX11_check_82 rfl ?_
  refine ev_icmpF (tgt := 97) dX11_check_83 (by decide) c3 ?_
  refine ev_iload dX11_check_86 rfl ?_
  refine ev_iload dX11_check_88 rfl ?_
  refine ev_icmpF (tgt := 97) dX11_check_90 (by decide) c4 ?_
  refine ev_iconst (v := 0) dX11_check_93 ki_0 ?_
  refine ev_goto (tgt := 101) dX11_check_94 (by decide) ?_
  exact ev_iret dX11_check_101 rfl rfl hp
theorem bX11_check_47_2 {g : GG} {d n0 nf : Nat} {post : Option Value → LX → Prop} {n : Nat} {X : LX} (hn : 146 ≤ nf) (hX : Sh nf X) {v1 : Int32} {v2 : Int32} {v4 : Int32} {v5 : Nat} (c0 : ¬ v1 ≤ nI v5) (c1 : ¬ v4 ≤ nI v5) (b0 : v5 < 36) (b1 : v5 < 36) (c2 : ¬ X 132 v5 = X 109 v5) (c3 : nI v5 = v1) (c4 : ¬ nI v5 = v4) (hp : post (some (.int (1 + (nI v5)))) X) : Ev g mX11_check d n0 nf post nf 47 [some (.ref 0), some (.int v1), some (.int v2), some (.ref 109), some (.int v4), some (.int (nI v5))] [] X := by
  refine ev_iload dX11_check_47 rfl ?_
  refine ev_iload_n dX11_check_49 rfl ?_
  refine ev_icmpF (tgt := 80) dX11_check_50 (by decide) c0 ?_
  refine ev_iload dX11_check_53 rfl ?_
  refine ev_iload dX11_check_55 rfl ?_
  refine ev_icmpF (tgt := 80) dX11_check_57 (by decide) c1 ?_
  refine ev_aload_n dX11_check_60 rfl ?_
  refine ev_getS (q := 132) dX11_check_61 fo_11_53 (by omega) lo_0 rfl (sh_0_6 hX (by omega)) (by decide) ?_
  refine ev_iload dX11_check_64 rfl ?_
  refine ev_iald dX11_check_66 (by omega) ly_132 rfl b0 ?_
  refine ev_aload_n dX11_check_67 rfl ?_
  refine ev_iload dX11_check_68 rfl ?_
  refine ev_iald dX11_check_70 (by omega) ly_109 rfl b1 ?_
  refine ev_icmpT (tgt := 80) dX11_check_71 (by decide) c2 ?_
  refine ev_iload dX11_check_80 rfl ?_
  refine ev_iload_n dX11_check_82 rfl ?_
  refine ev_icmpF (tgt := 97) dX11_check_83 (by decide) c3 ?_
  refine ev_iload dX11_check_86 rfl ?_
  refine ev_iload dX11_check_88 rfl ?_
  refine ev_icmpT (tgt := 97) dX11_check_90 (by decide) c4 ?_
  refine ev_iconst (v := 1) dX11_check_97 ki_1 ?_
  refine ev_iload dX11_check_98 rfl ?_
  refine ev_iadd dX11_check_100 ?_
  exact ev_iret dX11_check_101 rfl rfl hp
theorem bX11_check_47_3 {g : GG} {d n0 nf : Nat} {post : Option Value → LX → Prop} {n : Nat} {X : LX} (hn : 146 ≤ nf) (hX : Sh nf X) {v1 : Int32} {v2 : Int32} {v4 : Int32} {v5 : Nat} (c0 : ¬ v1 ≤ nI v5) (c1 : ¬ v4 ≤ nI v5) (b0 : v5 < 36) (b1 : v5 < 36) (c2 : ¬ X 132 v5 = X 109 v5) (c3 : ¬ nI v5 = v1) (hp : post (some (.int (1 + (nI v5)))) X) : Ev g mX11_check d n0 nf post nf 47 [some (.ref 0), some (.int v1), some (.int v2), some (.ref 109), some (.int v4), some (.int (nI v5))] [] X := by
  refine ev_iload dX11_check_47 rfl ?_
  refine ev_iload_n dX11_check_49 rfl ?_
  refine ev_icmpF (tgt := 80) dX11_check_50 (by decide) c0 ?_
  refine ev_iload dX11_check_53 rfl ?_
  refine ev_iload dX11_check_55 rfl ?_
  refine ev_icmpF (tgt := 80) dX11_check_57 (by decide) c1 ?_
  refine ev_aload_n dX11_check_60 rfl ?_
  refine ev_getS (q := 132) dX11_check_61 fo_11_53 (by omega) lo_0 rfl (sh_0_6 hX (by omega)) (by decide) ?_
  refine ev_iload dX11_check_64 rfl ?_
  refine ev_iald dX11_check_66 (by omega) ly_132 rfl b0 ?_
  refine ev_aload_n dX11_check_67 rfl ?_
  refine ev_iload dX11_check_68 rfl ?_
  refine ev_iald dX11_check_70 (by omega) ly_109 rfl b1 ?_
  refine ev_icmpT (tgt := 80) dX11_check_71 (by decide) c2 ?_
  refine ev_iload dX11_check_80 rfl ?_
  refine ev_iload_n dX11_check_82 rfl ?_
  refine ev_icmpT (tgt := 97) dX11_check_83 (by decide) c3 ?_
  refine ev_iconst (v := 1) dX11_check_97 ki_1 ?_
  refine ev_iload dX11_check_98 rfl ?_
  refine ev_iadd dX11_check_100 ?_
  exact ev_iret dX11_check_101 rfl rfl hp
theorem bX11_check_47_4 {g : GG} {d n0 nf : Nat} {post : Option Value → LX → Prop} {n : Nat} {X : LX} (hn : 146 ≤ nf) (hX : Sh nf X) {v1 : Int32} {v2 : Int32} {v4 : Int32} {v5 : Nat} (c0 : ¬ v1 ≤ nI v5) (c1 : v4 ≤ nI v5) (c2 : nI v5 = v1) (c3 : nI v5 = v4) (hp : post (some (.int 0)) X) : Ev g mX11_check d n0 nf post nf 47 [some (.ref 0), some (.int v1), some (.int v2), some (.ref 109), some (.int v4), some (.int (nI v5))] [] X := by
  refine ev_iload dX11_check_47 rfl ?_
  refine ev_iload_n dX11_check_49 rfl ?_
  refine ev_icmpF (tgt := 80) dX11_check_50 (by decide) c0 ?_
  refine ev_iload dX11_check_53 rfl ?_
  refine ev_iload dX11_check_55 rfl ?_
  refine ev_icmpT (tgt := 80) dX11_check_57 (by decide) c1 ?_
  refine ev_iload dX11_check_80 rfl ?_
  refine ev_iload_n dX11_check_82 rfl ?_
  refine ev_icmpF (tgt := 97) dX11_check_83 (by decide) c2 ?_
  refine ev_iload dX11_check_86 rfl ?_
  refine ev_iload dX11_check_88 rfl ?_
  refine ev_icmpF (tgt := 97) dX11_check_90 (by decide) c3 ?_
  refine ev_iconst (v := 0) dX11_check_93 ki_0 ?_
  refine ev_goto (tgt := 101) dX11_check_94 (by decide) ?_
  exact ev_iret dX11_check_101 rfl rfl hp
theorem bX11_check_47_5 {g : GG} {d n0 nf : Nat} {post : Option Value → LX → Prop} {n : Nat} {X : LX} (hn : 146 ≤ nf) (hX : Sh nf X) {v1 : Int32} {v2 : Int32} {v4 : Int32} {v5 : Nat} (c0 : ¬ v1 ≤ nI v5) (c1 : v4 ≤ nI v5) (c2 : nI v5 = v1) (c3 : ¬ nI v5 = v4) (hp : post (some (.int (1 + (nI v5)))) X) : Ev g mX11_check d n0 nf post nf 47 [some (.ref 0), some (.int v1), some (.int v2), some (.ref 109), some (.int v4), some (.int (nI v5))] [] X := by
  refine ev_iload dX11_check_47 rfl ?_
  refine ev_iload_n dX11_check_49 rfl ?_
  refine ev_icmpF (tgt := 80) dX11_check_50 (by decide) c0 ?_
  refine ev_iload dX11_check_53 rfl ?_
  refine ev_iload dX11_check_55 rfl ?_
  refine ev_icmpT (tgt := 80) dX11_check_57 (by decide) c1 ?_
  refine ev_iload dX11_check_80 rfl ?_
  refine ev_iload_n dX11_check_82 rfl ?_
  refine ev_icmpF (tgt := 97) dX11_check_83 (by decide) c2 ?_
  refine ev_iload dX11_check_86 rfl ?_
  refine ev_iload dX11_check_88 rfl ?_
  refine ev_icmpT (tgt := 97) dX11_check_90 (by decide) c3 ?_
  refine ev_iconst (v := 1) dX11_check_97 ki_1 ?_
  refine ev_iload dX11_check_98 rfl ?_
  refine ev_iadd dX11_check_100 ?_
  exact ev_iret dX11_check_101 rfl rfl hp
theorem bX11_check_47_6 {g : GG} {d n0 nf : Nat} {post : Option Value → LX → Prop} {n : Nat} {X : LX} (hn : 146 ≤ nf) (hX : Sh nf X) {v1 : Int32} {v2 : Int32} {v4 : Int32} {v5 : Nat} (c0 : ¬ v1 ≤ nI v5) (c1 : v4 ≤ nI v5) (c2 : ¬ nI v5 = v1) (hp : post (some (.int (1 + (nI v5)))) X) : Ev g mX11_check d n0 nf post nf 47 [some (.ref 0), some (.int v1), some (.int v2), some (.ref 109), some (.int v4), some (.int (nI v5))] [] X := by
  refine ev_iload dX11_check_47 rfl ?_
  refine ev_iload_n dX11_check_49 rfl ?_
  refine ev_icmpF (tgt := 80) dX11_check_50 (by decide) c0 ?_
  refine ev_iload dX11_check_53 rfl ?_
  refine ev_iload dX11_check_55 rfl ?_
  refine ev_icmpT (tgt := 80) dX11_check_57 (by decide) c1 ?_
  refine ev_iload dX11_check_80 rfl ?_
  refine ev_iload_n dX11_check_82 rfl ?_
  refine ev_icmpT (tgt := 97) dX11_check_83 (by decide) c2 ?_
  refine ev_iconst (v := 1) dX11_check_97 ki_1 ?_
  refine ev_iload dX11_check_98 rfl ?_
  refine ev_iadd dX11_check_100 ?_
  exact ev_iret dX11_check_101 rfl rfl hp
theorem bX11_check_47_7 {g : GG} {d n0 nf : Nat} {post : Option Value → LX → Prop} {n : Nat} {X : LX} (hn : 146 ≤ nf) (hX : Sh nf X) {v1 : Int32} {v2 : Int32} {v4 : Int32} {v5 : Nat} (c0 : v1 ≤ nI v5) (c1 : nI v5 = v1) (c2 : nI v5 = v4) (hp : post (some (.int 0)) X) : Ev g mX11_check d n0 nf post nf 47 [some (.ref 0), some (.int v1), some (.int v2), some (.ref 109), some (.int v4), some (.int (nI v5))] [] X := by
  refine ev_iload dX11_check_47 rfl ?_
  refine ev_iload_n dX11_check_49 rfl ?_
  refine ev_icmpT (tgt := 80) dX11_check_50 (by decide) c0 ?_
  refine ev_iload dX11_check_80 rfl ?_
  refine ev_iload_n dX11_check_82 rfl ?_
  refine ev_icmpF (tgt := 97) dX11_check_83 (by decide) c1 ?_
  refine ev_iload dX11_check_86 rfl ?_
  refine ev_iload dX11_check_88 rfl ?_
  refine ev_icmpF (tgt := 97) dX11_check_90 (by decide) c2 ?_
  refine ev_iconst (v := 0) dX11_check_93 ki_0 ?_
  refine ev_goto (tgt := 101) dX11_check_94 (by decide) ?_
  exact ev_iret dX11_check_101 rfl rfl hp
theorem bX11_check_47_8 {g : GG} {d n0 nf : Nat} {post : Option Value → LX → Prop} {n : Nat} {X : LX} (hn : 146 ≤ nf) (hX : Sh nf X) {v1 : Int32} {v2 : Int32} {v4 : Int32} {v5 : Nat} (c0 : v1 ≤ nI v5) (c1 : nI v5 = v1) (c2 : ¬ nI v5 = v4) (hp : post (some (.int (1 + (nI v5)))) X) : Ev g mX11_check d n0 nf post nf 47 [some (.ref 0), some (.int v1), some (.int v2), some (.ref 109), some (.int v4), some (.int (nI v5))] [] X := by
  refine ev_iload dX11_check_47 rfl ?_
  refine ev_iload_n dX11_check_49 rfl ?_
  refine ev_icmpT (tgt := 80) dX11_check_50 (by decide) c0 ?_
  refine ev_iload dX11_check_80 rfl ?_
  refine ev_iload_n dX11_check_82 rfl ?_
  refine ev_icmpF (tgt := 97) dX11_check_83 (by decide) c1 ?_
  refine ev_iload dX11_check_86 rfl ?_
  refine ev_iload dX11_check_88 rfl ?_
  refine ev_icmpT (tgt := 97) dX11_check_90 (by decide) c2 ?_
  refine ev_iconst (v := 1) dX11_check_97 ki_1 ?_
  refine ev_iload dX11_check_98 rfl ?_
  refine ev_iadd dX11_check_100 ?_
  exact ev_iret dX11_check_101 rfl rfl hp
theorem bX11_check_47_9 {g : GG} {d n0 nf : Nat} {post : Option Value → LX → Prop} {n : Nat} {X : LX} (hn : 146 ≤ nf) (hX : Sh nf X) {v1 : Int32} {v2 : Int32} {v4 : Int32} {v5 : Nat} (c0 : v1 ≤ nI v5) (c1 : ¬ nI v5 = v1) (hp : post (some (.int (1 + (nI v5)))) X) : Ev g mX11_check d n0 nf post nf 47 [some (.ref 0), some (.int v1), some (.int v2), some (.ref 109), some (.int v4), some (.int (nI v5))] [] X := by
  refine ev_iload dX11_check_47 rfl ?_
  refine ev_iload_n dX11_check_49 rfl ?_
  refine ev_icmpT (tgt := 80) dX11_check_50 (by decide) c0 ?_
  refine ev_iload dX11_check_80 rfl ?_
  refine ev_iload_n dX11_check_82 rfl ?_
  refine ev_icmpT (tgt := 97) dX11_check_83 (by decide) c1 ?_
  refine ev_iconst (v := 1) dX11_check_97 ki_1 ?_
  refine ev_iload dX11_check_98 rfl ?_
  refine ev_iadd dX11_check_100 ?_
  exact ev_iret dX11_check_101 rfl rfl hp
theorem bX11_back_0_0 {g : GG} {d n0 nf : Nat} {post : Option Value → LX → Prop} {n : Nat} {X : LX} (hn : 146 ≤ n) (hX : Sh n X)  (c0 : X 0 8 = rE 146) (c1 : X 0 8 = rE 146) (k : Ev g mX11_back d n0 nf post n 18 [some (.ref 0)] [.ref 146, .ref 1] X) : Ev g mX11_back d n0 nf post n 0 [some (.ref 0)] [] X := by
  refine ev_aload_n dX11_back_0 rfl ?_
  refine ev_getS (q := 146) dX11_back_1 fo_11_361 (by omega) lo_0 rfl c0 (by decide) ?_
  refine ev_ifnonnull (tgt := 10) dX11_back_4 (by decide) ?_
  refine ev_aload_n dX11_back_10 rfl ?_
  refine ev_getS (q := 1) dX11_back_11 fo_11_10 (by omega) lo_0 rfl (sh_0_0 hX (by omega)) (by decide) ?_
  refine ev_aload_n dX11_back_14 rfl ?_
  refine ev_getS (q := 146) dX11_back_15 fo_11_361 (by omega) lo_0 rfl c1 (by decide) ?_
  exact k
theorem bX11_back_0_1 {g : GG} {d n0 nf : Nat} {post : Option Value → LX → Prop} {n : Nat} {X : LX} (hn : 146 ≤ n) (hX : Sh n X)  (c0 : X 0 8 = rE 146) (c1 : X 0 8 = 0) (k : Ev g mX11_back d n0 nf post n 18 [some (.ref 0)] [.null, .ref 1] X) : Ev g mX11_back d n0 nf post n 0 [some (.ref 0)] [] X := by
  refine ev_aload_n dX11_back_0 rfl ?_
  refine ev_getS (q := 146) dX11_back_1 fo_11_361 (by omega) lo_0 rfl c0 (by decide) ?_
  refine ev_ifnonnull (tgt := 10) dX11_back_4 (by decide) ?_
  refine ev_aload_n dX11_back_10 rfl ?_
  refine ev_getS (q := 1) dX11_back_11 fo_11_10 (by omega) lo_0 rfl (sh_0_0 hX (by omega)) (by decide) ?_
  refine ev_aload_n dX11_back_14 rfl ?_
  refine ev_getN dX11_back_15 fo_11_361 (by omega) lo_0 rfl c1 ?_
  exact k
theorem bX11_back_0_2 {g : GG} {d n0 nf : Nat} {post : Option Value → LX → Prop} {n : Nat} {X : LX} (hn : 146 ≤ nf) (hX : Sh nf X)  (c0 : X 0 8 = 0) (hp : post (some (.int (-1000000002))) X) : Ev g mX11_back d n0 nf post nf 0 [some (.ref 0)] [] X := by
  refine ev_aload_n dX11_back_0 rfl ?_
  refine ev_getN dX11_back_1 fo_11_361 (by omega) lo_0 rfl c0 ?_
  refine ev_ifnonnullN dX11_back_4 ?_
  refine ev_ldc (v := (-1000000002)) dX11_back_7 kw_11_124 ?_
  exact ev_iret dX11_back_9 rfl rfl hp
theorem bX11_back_21_0 {g : GG} {d n0 nf : Nat} {post : Option Value → LX → Prop} {n : Nat} {X : LX} (hn : 146 ≤ nf) (hX : Sh nf X)  (hp : post (some (.int (X 1 5))) X) : Ev g mX11_back d n0 nf post nf 21 [some (.ref 0)] [] X := by
  refine ev_aload_n dX11_back_21 rfl ?_
  refine ev_getS (q := 1) dX11_back_22 fo_11_10 (by omega) lo_0 rfl (sh_0_0 hX (by omega)) (by decide) ?_
  refine ev_getI dX11_back_25 fo_11_203 (by omega) lo_1 rfl ?_
  exact ev_iret dX11_back_28 rfl rfl hp
theorem bX11_sheet_0_0 {g : GG} {d n0 nf : Nat} {post : Option Value → LX → Prop} {n : Nat} {X : LX} (hn : 146 ≤ n) (hX : Sh n X) {v1 : Int32} {v2 : Int32} (k : Ev g mX11_sheet d n0 nf post n 5 [some (.ref 0), some (.int v1), some (.int v2)] [.int v1, .ref 127] X) : Ev g mX11_sheet d n0 nf post n 0 [some (.ref 0), some (.int v1), some (.int v2)] [] X := by
  refine ev_aload_n dX11_sheet_0 rfl ?_
  refine ev_getS (q := 127) dX11_sheet_1 fo_11_49 (by omega) lo_0 rfl (sh_0_5 hX (by omega)) (by decide) ?_
  refine ev_iload_n dX11_sheet_4 rfl ?_
  exact k
theorem bX11_sheet_8_0 {g : GG} {d n0 nf : Nat} {post : Option Value → LX → Prop} {n : Nat} {X : LX} (hn : 146 ≤ nf) (hX : Sh nf X) {v1 : Nat} {v2 : Int32} {s0 : Int32} (c0 : ¬ s0 = 0) (c1 : ¬ v2 ≤ 16) (hp : post (some (.int (-1000000001))) X) : Ev g mX11_sheet d n0 nf post nf 8 [some (.ref 0), some (.int (nI v1)), some (.int v2)] [.int s0] X := by
  refine ev_ifF (tgt := 17) dX11_sheet_8 (by decide) c0 ?_
  refine ev_iload_n dX11_sheet_11 rfl ?_
  refine ev_bipush (v := 16) dX11_sheet_12 kb_16 ?_
  refine ev_icmpF (tgt := 20) dX11_sheet_14 (by decide) c1 ?_
  refine ev_ldc (v := (-1000000001)) dX11_sheet_17 kw_11_61 ?_
  exact ev_iret dX11_sheet_19 rfl rfl hp
theorem bX11_sheet_8_1 {g : GG} {d n0 nf : Nat} {post : Option Value → LX → Prop} {n : Nat} {X : LX} (hn : 146 ≤ nf) (hX : Sh nf X) {v1 : Nat} {v2 : Int32} {s0 : Int32} (c0 : ¬ s0 = 0) (c1 : v2 ≤ 16) (c2 : ¬ 0 ≤ v2) (hp : post (some (.int (-1000000014))) X) : Ev g mX11_sheet d n0 nf post nf 8 [some (.ref 0), some (.int (nI v1)), some (.int v2)] [.int s0] X := by
  refine ev_ifF (tgt := 17) dX11_sheet_8 (by decide) c0 ?_
  refine ev_iload_n dX11_sheet_11 rfl ?_
  refine ev_bipush (v := 16) dX11_sheet_12 kb_16 ?_
  refine ev_icmpT (tgt := 20) dX11_sheet_14 (by decide) c1 ?_
  refine ev_iload_n dX11_sheet_20 rfl ?_
  refine ev_ifF (tgt := 28) dX11_sheet_21 (by decide) c2 ?_
  refine ev_ldcw (v := (-1000000014)) dX11_sheet_24 kw_11_367 ?_
  exact ev_iret dX11_sheet_27 rfl rfl hp
theorem bX11_sheet_8_2 {g : GG} {d n0 nf : Nat} {post : Option Value → LX → Prop} {n : Nat} {X : LX} (hn : 146 ≤ n) (hX : Sh n X) {v1 : Nat} {v2 : Int32} {s0 : Int32} (c0 : ¬ s0 = 0) (c1 : v2 ≤ 16) (c2 : 0 ≤ v2) (b0 : v1 < 2) (k : Ev g mX11_sheet d n0 nf post n 38 [some (.ref 0), some (.int (nI v1)), some (.int v2)] [.int 0, .ref (128 + 1 + v1)] X) : Ev g mX11_sheet d n0 nf post n 8 [some (.ref 0), some (.int (nI v1)), some (.int v2)] [.int s0] X := by
  refine ev_ifF (tgt := 17) dX11_sheet_8 (by decide) c0 ?_
  refine ev_iload_n dX11_sheet_11 rfl ?_
  refine ev_bipush (v := 16) dX11_sheet_12 kb_16 ?_
  refine ev_icmpT (tgt := 20) dX11_sheet_14 (by decide) c1 ?_
  refine ev_iload_n dX11_sheet_20 rfl ?_
  refine ev_ifT (tgt := 28) dX11_sheet_21 (by decide) c2 ?_
  refine ev_aload_n dX11_sheet_28 rfl ?_
  refine ev_getS (q := 127) dX11_sheet_29 fo_11_49 (by omega) lo_0 rfl (sh_0_5 hX (by omega)) (by decide) ?_
  refine ev_getS (q := 128) dX11_sheet_32 fo_11_186 (by omega) lo_127 rfl (sh_127_0 hX (by omega)) (by decide) ?_
  refine ev_iload_n dX11_sheet_35 rfl ?_
  refine ev_aald (q := 128 + 1 + v1) dX11_sheet_36 (by omega) (Or.inr ly_128) rfl b0 (hX.2 128 v1 (by omega) (Or.inr (by rw [ly_128])) (by rw [ly_128]; exact b0)) (by first | omega | (have := LY_l ly_128; have := LY_lt (show (LY 128).1 < 99 by rw [ly_128]; exact (by decide : 3 < 99)); omega)) ?_
  refine ev_iconst (v := 0) dX11_sheet_37 ki_0 ?_
  exact k
theorem bX11_sheet_8_3 {g : GG} {d n0 nf : Nat} {post : Option Value → LX → Prop} {n : Nat} {X : LX} (hn : 146 ≤ nf) (hX : Sh nf X) {v1 : Nat} {v2 : Int32} {s0 : Int32} (c0 : s0 = 0) (hp : post (some (.int (-1000000001))) X) : Ev g mX11_sheet d n0 nf post nf 8 [some (.ref 0), some (.int (nI v1)), some (.int v2)] [.int s0] X := by
  refine ev_ifT (tgt := 17) dX11_sheet_8 (by decide) c0 ?_
  refine ev_ldc (v := (-1000000001)) dX11_sheet_17 kw_11_61 ?_
  exact ev_iret dX11_sheet_19 rfl rfl hp
theorem bX11_sheet_41_0 {g : GG} {d n0 nf : Nat} {post : Option Value → LX → Prop} {n : Nat} {X : LX} (hn : 146 ≤ nf) (hX : Sh nf X) {v1 : Nat} {v2 : Int32} (b0 : v1 < 2) (hp : post (some (.int v2)) (lx_up X 131 v1 v2)) : Ev g mX11_sheet d n0 nf post nf 41 [some (.ref 0), some (.int (nI v1)), some (.int v2)] [] X := by
  refine ev_aload_n dX11_sheet_41 rfl ?_
  refine ev_getS (q := 127) dX11_sheet_42 fo_11_49 (by omega) lo_0 rfl (sh_0_5 hX (by omega)) (by decide) ?_
  refine ev_getS (q := 131) dX11_sheet_45 fo_11_177 (by omega) lo_127 rfl (sh_127_1 hX (by omega)) (by decide) ?_
  refine ev_iload_n dX11_sheet_48 rfl ?_
  refine ev_iload_n dX11_sheet_49 rfl ?_
  refine ev_iast dX11_sheet_50 (by omega) ly_131 rfl b0 ?_
  have hX1 : Sh _ (lx_up X 131 v1 v2) := Sh.upA hX (by rw [ly_131]; exact (by decide : 0 < 2))
  refine ev_iload_n dX11_sheet_51 rfl ?_
  exact ev_iret dX11_sheet_52 rfl rfl hp
theorem bX11_mark_0_0 {g : GG} {d n0 nf : Nat} {post : Option Value → LX → Prop} {n : Nat} {X : LX} (hn : 146 ≤ n) (hX : Sh n X) {v1 : Int32} {v2 : Int32} {v3 : Int32} (k : Ev g mX11_mark d n0 nf post n 5 [some (.ref 0), some (.int v1), some (.int v2), some (.int v3), none] [.int v1, .ref 127] X) : Ev g mX11_mark d n0 nf post n 0 [some (.ref 0), some (.int v1), some (.int v2), some (.int v3), none] [] X := by
  refine ev_aload_n dX11_mark_0 rfl ?_
  refine ev_getS (q := 127) dX11_mark_1 fo_11_49 (by omega) lo_0 rfl (sh_0_5 hX (by omega)) (by decide) ?_
  refine ev_iload_n dX11_mark_4 rfl ?_
  exact k
theorem bX11_mark_8_0 {g : GG} {d n0 nf : Nat} {post : Option Value → LX → Prop} {n : Nat} {X : LX} (hn : 146 ≤ nf) (hX : Sh nf X) {v1 : Int32} {v2 : Int32} {v3 : Int32} {s0 : Int32} (c0 : s0 = 0) (hp : post (some (.int (-1000000001))) X) : Ev g mX11_mark d n0 nf post nf 8 [some (.ref 0), some (.int v1), some (.int v2), some (.int v3), none] [.int s0] X := by
  refine ev_ifF (tgt := 14) dX11_mark_8 (by decide) c0 ?_
  refine ev_ldc (v := (-1000000001)) dX11_mark_11 kw_11_61 ?_
  exact ev_iret dX11_mark_13 rfl rfl hp
theorem bX11_mark_8_1 {g : GG} {d n0 nf : Nat} {post : Option Value → LX → Prop} {n : Nat} {X : LX} (hn : 146 ≤ n) (hX : Sh n X) {v1 : Int32} {v2 : Int32} {v3 : Int32} {s0 : Int32} (c0 : ¬ s0 = 0) (k : Ev g mX11_mark d n0 nf post n 19 [some (.ref 0), some (.int v1), some (.int v2), some (.int v3), none] [.int v1, .ref 127] X) : Ev g mX11_mark d n0 nf post n 8 [some (.ref 0), some (.int v1), some (.int v2), some (.int v3), none] [.int s0] X := by
  refine ev_ifT (tgt := 14) dX11_mark_8 (by decide) c0 ?_
  refine ev_aload_n dX11_mark_14 rfl ?_
  refine ev_getS (q := 127) dX11_mark_15 fo_11_49 (by omega) lo_0 rfl (sh_0_5 hX (by omega)) (by decide) ?_
  refine ev_iload_n dX11_mark_18 rfl ?_
  exact k
theorem bX11_mark_22_0 {g : GG} {d n0 nf : Nat} {post : Option Value → LX → Prop} {n : Nat} {X : LX} (hn : 146 ≤ nf) (hX : Sh nf X) {v1 : Int32} {v2 : Int32} {v3 : Int32} {s0 : Int32} (c0 : ¬ s0 = 0) (hp : post (some (.int (-1000000011))) X) : Ev g mX11_mark d n0 nf post nf 22 [some (.ref 0), some (.int v1), some (.int v2), some (.int v3), none] [.int s0] X := by
  refine ev_ifF (tgt := 28) dX11_mark_22 (by decide) c0 ?_
  refine ev_ldc (v := (-1000000011)) dX11_mark_25 kw_11_176 ?_
  exact ev_iret dX11_mark_27 rfl rfl hp
theorem bX11_mark_22_1 {g : GG} {d n0 nf : Nat} {post : Option Value → LX → Prop} {n : Nat} {X : LX} (hn : 146 ≤ n) (hX : Sh n X) {v1 : Int32} {v2 : Int32} {v3 : Int32} {s0 : Int32} (c0 : s0 = 0) (k : Ev g mX11_mark d n0 nf post n 35 [some (.ref 0), some (.int v1), some (.int v2), some (.int v3), none] [.int 1, .int v2, .int v1, .ref 127] X) : Ev g mX11_mark d n0 nf post n 22 [some (.ref 0), some (.int v1), some (.int v2), some (.int v3), none] [.int s0] X := by
  refine ev_ifT (tgt := 28) dX11_mark_22 (by decide) c0 ?_
  refine ev_aload_n dX11_mark_28 rfl ?_
  refine ev_getS (q := 127) dX11_mark_29 fo_11_49 (by omega) lo_0 rfl (sh_0_5 hX (by omega)) (by decide) ?_
  refine ev_iload_n dX11_mark_32 rfl ?_
  refine ev_iload_n dX11_mark_33 rfl ?_
  refine ev_iconst (v := 1) dX11_mark_34 ki_1 ?_
  exact k
theorem bX11_mark_38_0 {g : GG} {d n0 nf : Nat} {post : Option Value → LX → Prop} {n : Nat} {X : LX} (hn : 146 ≤ nf) (hX : Sh nf X) {v1 : Nat} {v2 : Nat} {v3 : Int32} {s0 : Int32} (c0 : s0 = 0) (hp : post (some (.int (-1000000013))) X) : Ev g mX11_mark d n0 nf post nf 38 [some (.ref 0), some (.int (nI v1)), some (.int (nI v2)), some (.int v3), none] [.int s0] X := by
  refine ev_ifF (tgt := 45) dX11_mark_38 (by decide) c0 ?_
  refine ev_ldcw (v := (-1000000013)) dX11_mark_41 kw_11_374 ?_
  exact ev_iret dX11_mark_44 rfl rfl hp
theorem bX11_mark_38_1 {g : GG} {d n0 nf : Nat} {post : Option Value → LX → Prop} {n : Nat} {X : LX} (hn : 146 ≤ nf) (hX : Sh nf X) {v1 : Nat} {v2 : Nat} {v3 : Int32} {s0 : Int32} (c0 : ¬ s0 = 0) (b0 : v1 < 2) (b1 : v2 < 16) (b2 : v1 < 2) (b3 : v2 < 16) (hp : post (some (.int (X (128 + 1 + v1) v2))) (lx_up X (128 + 1 + v1) v2 v3.toInt16.toInt32.toInt16.toInt32)) : Ev g mX11_mark d n0 nf post nf 38 [some (.ref 0), some (.int (nI v1)), some (.int (nI v2)), some (.int v3), none] [.int s0] X := by
  refine ev_ifT (tgt := 45) dX11_mark_38 (by decide) c0 ?_
  refine ev_aload_n dX11_mark_45 rfl ?_
  refine ev_getS (q := 127) dX11_mark_46 fo_11_49 (by omega) lo_0 rfl (sh_0_5 hX (by omega)) (by decide) ?_
  refine ev_getS (q := 128) dX11_mark_49 fo_11_186 (by omega) lo_127 rfl (sh_127_0 hX (by omega)) (by decide) ?_
  refine ev_iload_n dX11_mark_52 rfl ?_
  refine ev_aald (q := 128 + 1 + v1) dX11_mark_53 (by omega) (Or.inr ly_128) rfl b0 (hX.2 128 v1 (by omega) (Or.inr (by rw [ly_128])) (by rw [ly_128]; exact b0)) (by first | omega | (have := LY_l ly_128; have := LY_lt (show (LY 128).1 < 99 by rw [ly_128]; exact (by decide : 3 < 99)); omega)) ?_
  refine ev_iload_n dX11_mark_54 rfl ?_
  refine ev_sald dX11_mark_55 (by have := b0; omega) (lyr_128 _ b0) rfl b1 ?_
  refine ev_istore dX11_mark_56 (by decide) ?_
  refine ev_aload_n dX11_mark_58 rfl ?_
  refine ev_getS (q := 127) dX11_mark_59 fo_11_49 (by omega) lo_0 rfl (sh_0_5 hX (by omega)) (by decide) ?_
  refine ev_getS (q := 128) dX11_mark_62 fo_11_186 (by omega) lo_127 rfl (sh_127_0 hX (by omega)) (by decide) ?_
  refine ev_iload_n dX11_mark_65 rfl ?_
  refine ev_aald (q := 128 + 1 + v1) dX11_mark_66 (by omega) (Or.inr ly_128) rfl b2 (hX.2 128 v1 (by omega) (Or.inr (by rw [ly_128])) (by rw [ly_128]; exact b2)) (by first | omega | (have := LY_l ly_128; have := LY_lt (show (LY 128).1 < 99 by rw [ly_128]; exact (by decide : 3 < 99)); omega)) ?_
  refine ev_iload_n dX11_mark_67 rfl ?_
  refine ev_iload_n dX11_mark_68 rfl ?_
  refine ev_i2s dX11_mark_69 ?_
  refine ev_sast dX11_mark_70 (by have := b2; omega) (lyr_128 _ b2) rfl b3 ?_
  have hX1 : Sh _ (lx_up X (128 + 1 + v1) v2 v3.toInt16.toInt32.toInt16.toInt32) := Sh.upA hX (by rw [(lyr_128 _ b2)]; exact (by decide : 1 < 2))
  refine ev_iload dX11_mark_71 rfl ?_
  exact ev_iret dX11_mark_73 rfl rfl hp
theorem bX11_copy_0_0 {g : GG} {d n0 nf : Nat} {post : Option Value → LX → Prop} {n : Nat} {X : LX} (hn : 146 ≤ n) (hX : Sh n X) {v1 : Int32} {v2 : Int32} {v3 : Int32} {v4 : Int32} {v5 : Int32} (k : Ev g mX11_copy d n0 nf post n 5 [some (.ref 0), some (.int v1), some (.int v2), some (.int v3), some (.int v4), some (.int v5)] [.int v1, .ref 127] X) : Ev g mX11_copy d n0 nf post n 0 [some (.ref 0), some (.int v1), some (.int v2), some (.int v3), some (.int v4), some (.int v5)] [] X := by
  refine ev_aload_n dX11_copy_0 rfl ?_
  refine ev_getS (q := 127) dX11_copy_1 fo_11_49 (by omega) lo_0 rfl (sh_0_5 hX (by omega)) (by decide) ?_
  refine ev_iload_n dX11_copy_4 rfl ?_
  exact k
theorem bX11_copy_8_0 {g : GG} {d n0 nf : Nat} {post : Option Value → LX → Prop} {n : Nat} {X : LX} (hn : 146 ≤ n) (hX : Sh n X) {v1 : Int32} {v2 : Int32} {v3 : Int32} {v4 : Int32} {v5 : Int32} {s0 : Int32} (c0 : ¬ s0 = 0) (k : Ev g mX11_copy d n0 nf post n 16 [some (.ref 0), some (.int v1), some (.int v2), some (.int v3), some (.int v4), some (.int v5)] [.int v3, .ref 127] X) : Ev g mX11_copy d n0 nf post n 8 [some (.ref 0), some (.int v1), some (.int v2), some (.int v3), some (.int v4), some (.int v5)] [.int s0] X := by
  refine ev_ifF (tgt := 22) dX11_copy_8 (by decide) c0 ?_
  refine ev_aload_n dX11_copy_11 rfl ?_
  refine ev_getS (q := 127) dX11_copy_12 fo_11_49 (by omega) lo_0 rfl (sh_0_5 hX (by omega)) (by decide) ?_
  refine ev_iload_n dX11_copy_15 rfl ?_
  exact k
theorem bX11_copy_8_1 {g : GG} {d n0 nf : Nat} {post : Option Value → LX → Prop} {n : Nat} {X : LX} (hn : 146 ≤ nf) (hX : Sh nf X) {v1 : Int32} {v2 : Int32} {v3 : Int32} {v4 : Int32} {v5 : Int32} {s0 : Int32} (c0 : s0 = 0) (hp : post (some (.int (-1000000001))) X) : Ev g mX11_copy d n0 nf post nf 8 [some (.ref 0), some (.int v1), some (.int v2), some (.int v3), some (.int v4), some (.int v5)] [.int s0] X := by
  refine ev_ifT (tgt := 22) dX11_copy_8 (by decide) c0 ?_
  refine ev_ldc (v := (-1000000001)) dX11_copy_22 kw_11_61 ?_
  exact ev_iret dX11_copy_24 rfl rfl hp
theorem bX11_copy_19_0 {g : GG} {d n0 nf : Nat} {post : Option Value → LX → Prop} {n : Nat} {X : LX} (hn : 146 ≤ nf) (hX : Sh nf X) {v1 : Int32} {v2 : Int32} {v3 : Int32} {v4 : Int32} {v5 : Int32} {s0 : Int32} (c0 : s0 = 0) (hp : post (some (.int (-1000000001))) X) : Ev g mX11_copy d n0 nf post nf 19 [some (.ref 0), some (.int v1), some (.int v2), some (.int v3), some (.int v4), some (.int v5)] [.int s0] X := by
  refine ev_ifF (tgt := 25) dX11_copy_19 (by decide) c0 ?_
  refine ev_ldc (v := (-1000000001)) dX11_copy_22 kw_11_61 ?_
  exact ev_iret dX11_copy_24 rfl rfl hp
theorem bX11_copy_19_1 {g : GG} {d n0 nf : Nat} {post : Option Value → LX → Prop} {n : Nat} {X : LX} (hn : 146 ≤ n) (hX : Sh n X) {v1 : Int32} {v2 : Int32} {v3 : Int32} {v4 : Int32} {v5 : Int32} {s0 : Int32} (c0 : ¬ s0 = 0) (k : Ev g mX11_copy d n0 nf post n 30 [some (.ref 0), some (.int v1), some (.int v2), some (.int v3), some (.int v4), some (.int v5)] [.int v1, .ref 127] X) : Ev g mX11_copy d n0 nf post n 19 [some (.ref 0), some (.int v1), some (.int v2), some (.int v3), some (.int v4), some (.int v5)] [.int s0] X := by
  refine ev_ifT (tgt := 25) dX11_copy_19 (by decide) c0 ?_
  refine ev_aload_n dX11_copy_25 rfl ?_
  refine ev_getS (q := 127) dX11_copy_26 fo_11_49 (by omega) lo_0 rfl (sh_0_5 hX (by omega)) (by decide) ?_
  refine ev_iload_n dX11_copy_29 rfl ?_
  exact k
theorem bX11_copy_33_0 {g : GG} {d n0 nf : Nat} {post : Option Value → LX → Prop} {n : Nat} {X : LX} (hn : 146 ≤ n) (hX : Sh n X) {v1 : Int32} {v2 : Int32} {v3 : Int32} {v4 : Int32} {v5 : Int32} {s0 : Int32} (c0 : s0 = 0) (k : Ev g mX11_copy d n0 nf post n 41 [some (.ref 0), some (.int v1), some (.int v2), some (.int v3), some (.int v4), some (.int v5)] [.int v3, .ref 127] X) : Ev g mX11_copy d n0 nf post n 33 [some (.ref 0), some (.int v1), some (.int v2), some (.int v3), some (.int v4), some (.int v5)] [.int s0] X := by
  refine ev_ifF (tgt := 47) dX11_copy_33 (by decide) c0 ?_
  refine ev_aload_n dX11_copy_36 rfl ?_
  refine ev_getS (q := 127) dX11_copy_37 fo_11_49 (by omega) lo_0 rfl (sh_0_5 hX (by omega)) (by decide) ?_
  refine ev_iload_n dX11_copy_40 rfl ?_
  exact k
theorem bX11_copy_33_1 {g : GG} {d n0 nf : Nat} {post : Option Value → LX → Prop} {n : Nat} {X : LX} (hn : 146 ≤ nf) (hX : Sh nf X) {v1 : Int32} {v2 : Int32} {v3 : Int32} {v4 : Int32} {v5 : Int32} {s0 : Int32} (c0 : ¬ s0 = 0) (hp : post (some (.int (-1000000011))) X) : Ev g mX11_copy d n0 nf post nf 33 [some (.ref 0), some (.int v1), some (.int v2), some (.int v3), some (.int v4), some (.int v5)] [.int s0] X := by
  refine ev_ifT (tgt := 47) dX11_copy_33 (by decide) c0 ?_
  refine ev_ldc (v := (-1000000011)) dX11_copy_47 kw_11_176 ?_
  exact ev_iret dX11_copy_49 rfl rfl hp
theorem bX11_copy_44_0 {g : GG} {d n0 nf : Nat} {post : Option Value → LX → Prop} {n : Nat} {X : LX} (hn : 146 ≤ nf) (hX : Sh nf X) {v1 : Int32} {v2 : Int32} {v3 : Int32} {v4 : Int32} {v5 : Int32} {s0 : Int32} (c0 : ¬ s0 = 0) (hp : post (some (.int (-1000000011))) X) : Ev g mX11_copy d n0 nf post nf 44 [some (.ref 0), some (.int v1), some (.int v2), some (.int v3), some (.int v4), some (.int v5)] [.int s0] X := by
  refine ev_ifF (tgt := 50) dX11_copy_44 (by decide) c0 ?_
  refine ev_ldc (v := (-1000000011)) dX11_copy_47 kw_11_176 ?_
  exact ev_iret dX11_copy_49 rfl rfl hp
theorem bX11_copy_44_1 {g : GG} {d n0 nf : Nat} {post : Option Value → LX → Prop} {n : Nat} {X : LX} (hn : 146 ≤ n) (hX : Sh n X) {v1 : Int32} {v2 : Int32} {v3 : Int32} {v4 : Int32} {v5 : Int32} {s0 : Int32} (c0 : s0 = 0) (k : Ev g mX11_copy d n0 nf post n 58 [some (.ref 0), some (.int v1), some (.int v2), some (.int v3), some (.int v4), some (.int v5)] [.int v5, .int v2, .int v1, .ref 127] X) : Ev g mX11_copy d n0 nf post n 44 [some (.ref 0), some (.int v1), some (.int v2), some (.int v3), some (.int v4), some (.int v5)] [.int s0] X := by
  refine ev_ifT (tgt := 50) dX11_copy_44 (by decide) c0 ?_
  refine ev_aload_n dX11_copy_50 rfl ?_
  refine ev_getS (q := 127) dX11_copy_51 fo_11_49 (by omega) lo_0 rfl (sh_0_5 hX (by omega)) (by decide) ?_
  refine ev_iload_n dX11_copy_54 rfl ?_
  refine ev_iload_n dX11_copy_55 rfl ?_
  refine ev_iload dX11_copy_56 rfl ?_
  exact k
theorem bX11_copy_61_0 {g : GG} {d n0 nf : Nat} {post : Option Value → LX → Prop} {n : Nat} {X : LX} (hn : 146 ≤ n) (hX : Sh n X) {v1 : Int32} {v2 : Int32} {v3 : Int32} {v4 : Int32} {v5 : Int32} {s0 : Int32} (c0 : ¬ s0 = 0) (k : Ev g mX11_copy d n0 nf post n 73 [some (.ref 0), some (.int v1), some (.int v2), some (.int v3), some (.int v4), some (.int v5)] [.int v5, .int v4, .int v3, .ref 127] X) : Ev g mX11_copy d n0 nf post n 61 [some (.ref 0), some (.int v1), some (.int v2), some (.int v3), some (.int v4), some (.int v5)] [.int s0] X := by
  refine ev_ifF (tgt := 79) dX11_copy_61 (by decide) c0 ?_
  refine ev_aload_n dX11_copy_64 rfl ?_
  refine ev_getS (q := 127) dX11_copy_65 fo_11_49 (by omega) lo_0 rfl (sh_0_5 hX (by omega)) (by decide) ?_
  refine ev_iload_n dX11_copy_68 rfl ?_
  refine ev_iload dX11_copy_69 rfl ?_
  refine ev_iload dX11_copy_71 rfl ?_
  exact k
theorem bX11_copy_61_1 {g : GG} {d n0 nf : Nat} {post : Option Value → LX → Prop} {n : Nat} {X : LX} (hn : 146 ≤ nf) (hX : Sh nf X) {v1 : Int32} {v2 : Int32} {v3 : Int32} {v4 : Int32} {v5 : Int32} {s0 : Int32} (c0 : s0 = 0) (hp : post (some (.int (-1000000013))) X) : Ev g mX11_copy d n0 nf post nf 61 [some (.ref 0), some (.int v1), some (.int v2), some (.int v3), some (.int v4), some (.int v5)] [.int s0] X := by
  refine ev_ifT (tgt := 79) dX11_copy_61 (by decide) c0 ?_
  refine ev_ldcw (v := (-1000000013)) dX11_copy_79 kw_11_374 ?_
  exact ev_iret dX11_copy_82 rfl rfl hp
theorem bX11_copy_76_0 {g : GG} {d n0 nf : Nat} {post : Option Value → LX → Prop} {n : Nat} {X : LX} (hn : 146 ≤ nf) (hX : Sh nf X) {v1 : Nat} {v2 : Int32} {v3 : Nat} {v4 : Int32} {v5 : Int32} {s0 : Int32} (c0 : s0 = 0) (hp : post (some (.int (-1000000013))) X) : Ev g mX11_copy d n0 nf post nf 76 [some (.ref 0), some (.int (nI v1)), some (.int v2), some (.int (nI v3)), some (.int v4), some (.int v5)] [.int s0] X := by
  refine ev_ifF (tgt := 83) dX11_copy_76 (by decide) c0 ?_
  refine ev_ldcw (v := (-1000000013)) dX11_copy_79 kw_11_374 ?_
  exact ev_iret dX11_copy_82 rfl rfl hp
theorem bX11_copy_76_1 {g : GG} {d n0 nf : Nat} {post : Option Value → LX → Prop} {n : Nat} {X : LX} (hn : 146 ≤ n) (hX : Sh n X) {v1 : Nat} {v2 : Int32} {v3 : Nat} {v4 : Int32} {v5 : Int32} {s0 : Int32} (c0 : ¬ s0 = 0) (b0 : v1 < 2) (b1 : v3 < 2) (k : Ev g mX11_copy d n0 nf post n 106 [some (.ref 0), some (.int (nI v1)), some (.int v2), some (.int (nI v3)), some (.int v4), some (.int v5)] [.int v5, .int v4, .ref (128 + 1 + v3), .int v2, .ref (128 + 1 + v1)] X) : Ev g mX11_copy d n0 nf post n 76 [some (.ref 0), some (.int (nI v1)), some (.int v2), some (.int (nI v3)), some (.int v4), some (.int v5)] [.int s0] X := by
  refine ev_ifT (tgt := 83) dX11_copy_76 (by decide) c0 ?_
  refine ev_aload_n dX11_copy_83 rfl ?_
  refine ev_getS (q := 127) dX11_copy_84 fo_11_49 (by omega) lo_0 rfl (sh_0_5 hX (by omega)) (by decide) ?_
  refine ev_getS (q := 128) dX11_copy_87 fo_11_186 (by omega) lo_127 rfl (sh_127_0 hX (by omega)) (by decide) ?_
  refine ev_iload_n dX11_copy_90 rfl ?_
  refine ev_aald (q := 128 + 1 + v1) dX11_copy_91 (by omega) (Or.inr ly_128) rfl b0 (hX.2 128 v1 (by omega) (Or.inr (by rw [ly_128])) (by rw [ly_128]; exact b0)) (by first | omega | (have := LY_l ly_128; have := LY_lt (show (LY 128).1 < 99 by rw [ly_128]; exact (by decide : 3 < 99)); omega)) ?_
  refine ev_iload_n dX11_copy_92 rfl ?_
  refine ev_aload_n dX11_copy_93 rfl ?_
  refine ev_getS (q := 127) dX11_copy_94 fo_11_49 (by omega) lo_0 rfl (sh_0_5 hX (by omega)) (by decide) ?_
  refine ev_getS (q := 128) dX11_copy_97 fo_11_186 (by omega) lo_127 rfl (sh_127_0 hX (by omega)) (by decide) ?_
  refine ev_iload_n dX11_copy_100 rfl ?_
  refine ev_aald (q := 128 + 1 + v3) dX11_copy_101 (by omega) (Or.inr ly_128) rfl b1 (hX.2 128 v3 (by omega) (Or.inr (by rw [ly_128])) (by rw [ly_128]; exact b1)) (by first | omega | (have := LY_l ly_128; have := LY_lt (show (LY 128).1 < 99 by rw [ly_128]; exact (by decide : 3 < 99)); omega)) ?_
  refine ev_iload dX11_copy_102 rfl ?_
  refine ev_iload dX11_copy_104 rfl ?_
  exact k
theorem bX11_copy_109_0 {g : GG} {d n0 nf : Nat} {post : Option Value → LX → Prop} {n : Nat} {X : LX} (hn : 146 ≤ nf) (hX : Sh nf X) {v1 : Int32} {v2 : Int32} {v3 : Int32} {v4 : Int32} {v5 : Int32} (hp : post (some (.int v5)) X) : Ev g mX11_copy d n0 nf post nf 109 [some (.ref 0), some (.int v1), some (.int v2), some (.int v3), some (.int v4), some (.int v5)] [] X := by
  refine ev_iload dX11_copy_109 rfl ?_
  exact ev_iret dX11_copy_111 rfl rfl hp
theorem bX11_count_0_0 {g : GG} {d n0 nf : Nat} {post : Option Value → LX → Prop} {n : Nat} {X : LX} (hn : 146 ≤ nf) (hX : Sh nf X) {v1 : Int32} (c0 : v1.toInt < 0 ∨ 8 < v1.toInt) (hp : post (some (.int (-1000000001))) X) : Ev g mX11_count d n0 nf post nf 0 [some (.ref 0), some (.int v1)] [] X := by
  refine ev_iload_n dX11_count_0 rfl ?_
  refine ev_tabO (tgt := 139) dX11_count_1 c0 (by decide) ?_
  refine ev_ldc (v := (-1000000001)) dX11_count_139 kw_11_61 ?_
  exact ev_iret dX11_count_141 rfl rfl hp
theorem bX11_count_0_1 {g : GG} {d n0 nf : Nat} {post : Option Value → LX → Prop} {n : Nat} {X : LX} (hn : 146 ≤ nf) (hX : Sh nf X) {v1 : Int32} (c0 : v1 = 0) (hp : post (some (.int (X 2 0))) X) : Ev g mX11_count d n0 nf post nf 0 [some (.ref 0), some (.int v1)] [] X := by
  refine ev_iload_n dX11_count_0 rfl ?_
  refine ev_tabI (tgt := 52) (off := 51) dX11_count_1 (by rw [c0]; decide) (by rw [c0]; decide) (by rw [c0]; rfl) (by decide) ?_
  refine ev_aload_n dX11_count_52 rfl ?_
  refine ev_getS (q := 1) dX11_count_53 fo_11_10 (by omega) lo_0 rfl (sh_0_0 hX (by omega)) (by decide) ?_
  refine ev_getS (q := 2) dX11_count_56 fo_11_62 (by omega) lo_1 rfl (sh_1_0 hX (by omega)) (by decide) ?_
  refine ev_getI dX11_count_59 fo_11_66 (by omega) lo_2 rfl ?_
  exact ev_iret dX11_count_62 rfl rfl hp
theorem bX11_count_0_2 {g : GG} {d n0 nf : Nat} {post : Option Value → LX → Prop} {n : Nat} {X : LX} (hn : 146 ≤ nf) (hX : Sh nf X) {v1 : Int32} (c0 : v1 = 1) (hp : post (some (.int (X 23 0))) X) : Ev g mX11_count d n0 nf post nf 0 [some (.ref 0), some (.int v1)] [] X := by
  refine ev_iload_n dX11_count_0 rfl ?_
  refine ev_tabI (tgt := 63) (off := 62) dX11_count_1 (by rw [c0]; decide) (by rw [c0]; decide) (by rw [c0]; rfl) (by decide) ?_
  refine ev_aload_n dX11_count_63 rfl ?_
  refine ev_getS (q := 1) dX11_count_64 fo_11_10 (by omega) lo_0 rfl (sh_0_0 hX (by omega)) (by decide) ?_
  refine ev_getS (q := 23) dX11_count_67 fo_11_96 (by omega) lo_1 rfl (sh_1_1 hX (by omega)) (by decide) ?_
  refine ev_getI dX11_count_70 fo_11_100 (by omega) lo_23 rfl ?_
  exact ev_iret dX11_count_73 rfl rfl hp
theorem bX11_count_0_3 {g : GG} {d n0 nf : Nat} {post : Option Value → LX → Prop} {n : Nat} {X : LX} (hn : 146 ≤ nf) (hX : Sh nf X) {v1 : Int32} (c0 : v1 = 2) (hp : post (some (.int (X 37 0))) X) : Ev g mX11_count d n0 nf post nf 0 [some (.ref 0), some (.int v1)] [] X := by
  refine ev_iload_n dX11_count_0 rfl ?_
  refine ev_tabI (tgt := 74) (off := 73) dX11_count_1 (by rw [c0]; decide) (by rw [c0]; decide) (by rw [c0]; rfl) (by decide) ?_
  refine ev_aload_n dX11_count_74 rfl ?_
  refine ev_getS (q := 1) dX11_count_75 fo_11_10 (by omega) lo_0 rfl (sh_0_0 hX (by omega)) (by decide) ?_
  refine ev_getS (q := 37) dX11_count_78 fo_11_144 (by omega) lo_1 rfl (sh_1_2 hX (by omega)) (by decide) ?_
  refine ev_getI dX11_count_81 fo_11_148 (by omega) lo_37 rfl ?_
  exact ev_iret dX11_count_84 rfl rfl hp
theorem bX11_count_0_4 {g : GG} {d n0 nf : Nat} {post : Option Value → LX → Prop} {n : Nat} {X : LX} (hn : 146 ≤ nf) (hX : Sh nf X) {v1 : Int32} (c0 : v1 = 3) (hp : post (some (.int (X 69 0))) X) : Ev g mX11_count d n0 nf post nf 0 [some (.ref 0), some (.int v1)] [] X := by
  refine ev_iload_n dX11_count_0 rfl ?_
  refine ev_tabI (tgt := 85) (off := 84) dX11_count_1 (by rw [c0]; decide) (by rw [c0]; decide) (by rw [c0]; rfl) (by decide) ?_
  refine ev_aload_n dX11_count_85 rfl ?_
  refine ev_getS (q := 1) dX11_count_86 fo_11_10 (by omega) lo_0 rfl (sh_0_0 hX (by omega)) (by decide) ?_
  refine ev_getS (q := 69) dX11_count_89 fo_11_278 (by omega) lo_1 rfl (sh_1_3 hX (by omega)) (by decide) ?_
  refine ev_getI dX11_count_92 fo_11_282 (by omega) lo_69 rfl ?_
  exact ev_iret dX11_count_95 rfl rfl hp
theorem bX11_count_0_5 {g : GG} {d n0 nf : Nat} {post : Option Value → LX → Prop} {n : Nat} {X : LX} (hn : 146 ≤ n) (hX : Sh n X) {v1 : Int32} (c0 : v1 = 4) (k : Ev g mX11_count d n0 nf post n 103 [some (.ref 0), some (.int v1)] [.int (X 1 6)] X) : Ev g mX11_count d n0 nf post n 0 [some (.ref 0), some (.int v1)] [] X := by
  refine ev_iload_n dX11_count_0 rfl ?_
  refine ev_tabI (tgt := 96) (off := 95) dX11_count_1 (by rw [c0]; decide) (by rw [c0]; decide) (by rw [c0]; rfl) (by decide) ?_
  refine ev_aload_n dX11_count_96 rfl ?_
  refine ev_getS (q := 1) dX11_count_97 fo_11_10 (by omega) lo_0 rfl (sh_0_0 hX (by omega)) (by decide) ?_
  refine ev_getI dX11_count_100 fo_11_118 (by omega) lo_1 rfl ?_
  exact k
theorem bX11_count_0_6 {g : GG} {d n0 nf : Nat} {post : Option Value → LX → Prop} {n : Nat} {X : LX} (hn : 146 ≤ n) (hX : Sh n X) {v1 : Int32} (c0 : v1 = 5) (k : Ev g mX11_count d n0 nf post n 114 [some (.ref 0), some (.int v1)] [.int (X 1 8)] X) : Ev g mX11_count d n0 nf post n 0 [some (.ref 0), some (.int v1)] [] X := by
  refine ev_iload_n dX11_count_0 rfl ?_
  refine ev_tabI (tgt := 107) (off := 106) dX11_count_1 (by rw [c0]; decide) (by rw [c0]; decide) (by rw [c0]; rfl) (by decide) ?_
  refine ev_aload_n dX11_count_107 rfl ?_
  refine ev_getS (q := 1) dX11_count_108 fo_11_10 (by omega) lo_0 rfl (sh_0_0 hX (by omega)) (by decide) ?_
  refine ev_getI dX11_count_111 fo_11_196 (by omega) lo_1 rfl ?_
  exact k
theorem bX11_count_0_7 {g : GG} {d n0 nf : Nat} {post : Option Value → LX → Prop} {n : Nat} {X : LX} (hn : 146 ≤ nf) (hX : Sh nf X) {v1 : Int32} (c0 : v1 = 6) (hp : post (some (.int (X 1 5))) X) : Ev g mX11_count d n0 nf post nf 0 [some (.ref 0), some (.int v1)] [] X := by
  refine ev_iload_n dX11_count_0 rfl ?_
  refine ev_tabI (tgt := 118) (off := 117) dX11_count_1 (by rw [c0]; decide) (by rw [c0]; decide) (by rw [c0]; rfl) (by decide) ?_
  refine ev_aload_n dX11_count_118 rfl ?_
  refine ev_getS (q := 1) dX11_count_119 fo_11_10 (by omega) lo_0 rfl (sh_0_0 hX (by omega)) (by decide) ?_
  refine ev_getI dX11_count_122 fo_11_203 (by omega) lo_1 rfl ?_
  exact ev_iret dX11_count_125 rfl rfl hp
theorem bX11_count_0_8 {g : GG} {d n0 nf : Nat} {post : Option Value → LX → Prop} {n : Nat} {X : LX} (hn : 146 ≤ nf) (hX : Sh nf X) {v1 : Int32} (c0 : v1 = 7) (hp : post (some (.int (X 0 7))) X) : Ev g mX11_count d n0 nf post nf 0 [some (.ref 0), some (.int v1)] [] X := by
  refine ev_iload_n dX11_count_0 rfl ?_
  refine ev_tabI (tgt := 126) (off := 125) dX11_count_1 (by rw [c0]; decide) (by rw [c0]; decide) (by rw [c0]; rfl) (by decide) ?_
  refine ev_aload_n dX11_count_126 rfl ?_
  refine ev_getI dX11_count_127 fo_11_351 (by omega) lo_0 rfl ?_
  exact ev_iret dX11_count_130 rfl rfl hp
theorem bX11_count_0_9 {g : GG} {d n0 nf : Nat} {post : Option Value → LX → Prop} {n : Nat} {X : LX} (hn : 146 ≤ nf) (hX : Sh nf X) {v1 : Int32} (c0 : v1 = 8) (hp : post (some (.int (X 81 1))) X) : Ev g mX11_count d n0 nf post nf 0 [some (.ref 0), some (.int v1)] [] X := by
  refine ev_iload_n dX11_count_0 rfl ?_
  refine ev_tabI (tgt := 131) (off := 130) dX11_count_1 (by rw [c0]; decide) (by rw [c0]; decide) (by rw [c0]; rfl) (by decide) ?_
  refine ev_aload_n dX11_count_131 rfl ?_
  refine ev_getS (q := 81) dX11_count_132 fo_11_19 (by omega) lo_0 rfl (sh_0_1 hX (by omega)) (by decide) ?_
  refine ev_getI dX11_count_135 fo_11_215 (by omega) lo_81 rfl ?_
  exact ev_iret dX11_count_138 rfl rfl hp
theorem bX11_count_106_0 {g : GG} {d n0 nf : Nat} {post : Option Value → LX → Prop} {n : Nat} {X : LX} (hn : 146 ≤ nf) (hX : Sh nf X) {v1 : Int32} {s0 : Int32} (hp : post (some (.int s0)) X) : Ev g mX11_count d n0 nf post nf 106 [some (.ref 0), some (.int v1)] [.int s0] X := by
  exact ev_iret dX11_count_106 rfl rfl hp
theorem bX11_count_117_0 {g : GG} {d n0 nf : Nat} {post : Option Value → LX → Prop} {n : Nat} {X : LX} (hn : 146 ≤ nf) (hX : Sh nf X) {v1 : Int32} {s0 : Int32} (hp : post (some (.int s0)) X) : Ev g mX11_count d n0 nf post nf 117 [some (.ref 0), some (.int v1)] [.int s0] X := by
  exact ev_iret dX11_count_117 rfl rfl hp
theorem bX11_isIn_0_0 {g : GG} {d n0 nf : Nat} {post : Option Value → LX → Prop} {n : Nat} {X : LX} (hn : 146 ≤ nf) (hX : Sh nf X) {v0 : Int32} {v1 : Int32} {v2 : Int32} (c0 : ¬ v0 < v1) (c1 : ¬ v2 < v0) (hp : post (some (.int 1)) X) : Ev g mX11_isIn d n0 nf post nf 0 [some (.int v0), some (.int v1), some (.int v2)] [] X := by
  refine ev_iload_n dX11_isIn_0 rfl ?_
  refine ev_iload_n dX11_isIn_1 rfl ?_
  refine ev_icmpF (tgt := 14) dX11_isIn_2 (by decide) c0 ?_
  refine ev_iload_n dX11_isIn_5 rfl ?_
  refine ev_iload_n dX11_isIn_6 rfl ?_
  refine ev_icmpF (tgt := 14) dX11_isIn_7 (by decide) c1 ?_
  refine ev_iconst (v := 1) dX11_isIn_10 ki_1 ?_
  refine ev_goto (tgt := 15) dX11_isIn_11 (by decide) ?_
  exact ev_iret dX11_isIn_15 rfl (by decide) hp
theorem bX11_isIn_0_1 {g : GG} {d n0 nf : Nat} {post : Option Value → LX → Prop} {n : Nat} {X : LX} (hn : 146 ≤ nf) (hX : Sh nf X) {v0 : Int32} {v1 : Int32} {v2 : Int32} (c0 : ¬ v0 < v1) (c1 : v2 < v0) (hp : post (some (.int 0)) X) : Ev g mX11_isIn d n0 nf post nf 0 [some (.int v0), some (.int v1), some (.int v2)] [] X := by
  refine ev_iload_n dX11_isIn_0 rfl ?_
  refine ev_iload_n dX11_isIn_1 rfl ?_
  refine ev_icmpF (tgt := 14) dX11_isIn_2 (by decide) c0 ?_
  refine ev_iload_n dX11_isIn_5 rfl ?_
  refine ev_iload_n dX11_isIn_6 rfl ?_
  refine ev_icmpT (tgt := 14) dX11_isIn_7 (by decide) c1 ?_
  refine ev_iconst (v := 0) dX11_isIn_14 ki_0 ?_
  exact ev_iret dX11_isIn_15 rfl (by decide) hp
theorem bX11_isIn_0_2 {g : GG} {d n0 nf : Nat} {post : Option Value → LX → Prop} {n : Nat} {X : LX} (hn : 146 ≤ nf) (hX : Sh nf X) {v0 : Int32} {v1 : Int32} {v2 : Int32} (c0 : v0 < v1) (hp : post (some (.int 0)) X) : Ev g mX11_isIn d n0 nf post nf 0 [some (.int v0), some (.int v1), some (.int v2)] [] X := by
  refine ev_iload_n dX11_isIn_0 rfl ?_
  refine ev_iload_n dX11_isIn_1 rfl ?_
  refine ev_icmpT (tgt := 14) dX11_isIn_2 (by decide) c0 ?_
  refine ev_iconst (v := 0) dX11_isIn_14 ki_0 ?_
  exact ev_iret dX11_isIn_15 rfl (by decide) hp
theorem bX11_isLikes_0_0 {g : GG} {d n0 nf : Nat} {post : Option Value → LX → Prop} {n : Nat} {X : LX} (hn : 146 ≤ n) (hX : Sh n X) {v0 : Int32} (k : Ev g mX11_isLikes d n0 nf post n 4 [some (.int v0)] [.int 9, .int 0, .int v0] X) : Ev g mX11_isLikes d n0 nf post n 0 [some (.int v0)] [] X := by
  refine ev_iload_n dX11_isLikes_0 rfl ?_
  refine ev_iconst (v := 0) dX11_isLikes_1 ki_0 ?_
  refine ev_bipush (v := 9) dX11_isLikes_2 kb_9 ?_
  exact k
theorem bX11_isLikes_7_0 {g : GG} {d n0 nf : Nat} {post : Option Value → LX → Prop} {n : Nat} {X : LX} (hn : 146 ≤ nf) (hX : Sh nf X) {v0 : Int32} {s0 : Int32} (hz : s0 = 0 ∨ s0 = 1) (hp : post (some (.int s0)) X) : Ev g mX11_isLikes d n0 nf post nf 7 [some (.int v0)] [.int s0] X := by
  exact ev_iret dX11_isLikes_7 rfl (nz_bool hz) hp
theorem bX11_hasBit_0_0 {g : GG} {d n0 nf : Nat} {post : Option Value → LX → Prop} {n : Nat} {X : LX} (hn : 146 ≤ nf) (hX : Sh nf X) {v0 : Int32} {v1 : Int32} (c0 : ¬ (v0 >>> (v1 &&& 31)) &&& 1 = 0) (hp : post (some (.int 1)) X) : Ev g mX11_hasBit d n0 nf post nf 0 [some (.int v0), some (.int v1)] [] X := by
  refine ev_iload_n dX11_hasBit_0 rfl ?_
  refine ev_iload_n dX11_hasBit_1 rfl ?_
  refine ev_ishr dX11_hasBit_2 ?_
  refine ev_iconst (v := 1) dX11_hasBit_3 ki_1 ?_
  refine ev_iand dX11_hasBit_4 ?_
  refine ev_ifF (tgt := 12) dX11_hasBit_5 (by decide) c0 ?_
  refine ev_iconst (v := 1) dX11_hasBit_8 ki_1 ?_
  refine ev_goto (tgt := 13) dX11_hasBit_9 (by decide) ?_
  exact ev_iret dX11_hasBit_13 rfl (by decide) hp
theorem bX11_hasBit_0_1 {g : GG} {d n0 nf : Nat} {post : Option Value → LX → Prop} {n : Nat} {X : LX} (hn : 146 ≤ nf) (hX : Sh nf X) {v0 : Int32} {v1 : Int32} (c0 : (v0 >>> (v1 &&& 31)) &&& 1 = 0) (hp : post (some (.int 0)) X) : Ev g mX11_hasBit d n0 nf post nf 0 [some (.int v0), some (.int v1)] [] X := by
  refine ev_iload_n dX11_hasBit_0 rfl ?_
  refine ev_iload_n dX11_hasBit_1 rfl ?_
  refine ev_ishr dX11_hasBit_2 ?_
  refine ev_iconst (v := 1) dX11_hasBit_3 ki_1 ?_
  refine ev_iand dX11_hasBit_4 ?_
  refine ev_ifT (tgt := 12) dX11_hasBit_5 (by decide) c0 ?_
  refine ev_iconst (v := 0) dX11_hasBit_12 ki_0 ?_
  exact ev_iret dX11_hasBit_13 rfl (by decide) hp
theorem bX11_isBitsBelow_0_0 {g : GG} {d n0 nf : Nat} {post : Option Value → LX → Prop} {n : Nat} {X : LX} (hn : 146 ≤ nf) (hX : Sh nf X) {v0 : Int32} {v1 : Int32} (c0 : ¬ v0 < 0) (c1 : v0 >>> (v1 &&& 31) = 0) (hp : post (some (.int 1)) X) : Ev g mX11_isBitsBelow d n0 nf post nf 0 [some (.int v0), some (.int v1)] [] X := by
  refine ev_iload_n dX11_isBitsBelow_0 rfl ?_
  refine ev_ifF (tgt := 14) dX11_isBitsBelow_1 (by decide) c0 ?_
  refine ev_iload_n dX11_isBitsBelow_4 rfl ?_
  refine ev_iload_n dX11_isBitsBelow_5 rfl ?_
  refine ev_ishr dX11_isBitsBelow_6 ?_
  refine ev_ifF (tgt := 14) dX11_isBitsBelow_7 (by decide) c1 ?_
  refine ev_iconst (v := 1) dX11_isBitsBelow_10 ki_1 ?_
  refine ev_goto (tgt := 15) dX11_isBitsBelow_11 (by decide) ?_
  exact ev_iret dX11_isBitsBelow_15 rfl (by decide) hp
theorem bX11_isBitsBelow_0_1 {g : GG} {d n0 nf : Nat} {post : Option Value → LX → Prop} {n : Nat} {X : LX} (hn : 146 ≤ nf) (hX : Sh nf X) {v0 : Int32} {v1 : Int32} (c0 : ¬ v0 < 0) (c1 : ¬ v0 >>> (v1 &&& 31) = 0) (hp : post (some (.int 0)) X) : Ev g mX11_isBitsBelow d n0 nf post nf 0 [some (.int v0), some (.int v1)] [] X := by
  refine ev_iload_n dX11_isBitsBelow_0 rfl ?_
  refine ev_ifF (tgt := 14) dX11_isBitsBelow_1 (by decide) c0 ?_
  refine ev_iload_n dX11_isBitsBelow_4 rfl ?_
  refine ev_iload_n dX11_isBitsBelow_5 rfl ?_
  refine ev_ishr dX11_isBitsBelow_6 ?_
  refine ev_ifT (tgt := 14) dX11_isBitsBelow_7 (by decide) c1 ?_
  refine ev_iconst (v := 0) dX11_isBitsBelow_14 ki_0 ?_
  exact ev_iret dX11_isBitsBelow_15 rfl (by decide) hp
theorem bX11_isBitsBelow_0_2 {g : GG} {d n0 nf : Nat} {post : Option Value → LX → Prop} {n : Nat} {X : LX} (hn : 146 ≤ nf) (hX : Sh nf X) {v0 : Int32} {v1 : Int32} (c0 : v0 < 0) (hp : post (some (.int 0)) X) : Ev g mX11_isBitsBelow d n0 nf post nf 0 [some (.int v0), some (.int v1)] [] X := by
  refine ev_iload_n dX11_isBitsBelow_0 rfl ?_
  refine ev_ifT (tgt := 14) dX11_isBitsBelow_1 (by decide) c0 ?_
  refine ev_iconst (v := 0) dX11_isBitsBelow_14 ki_0 ?_
  exact ev_iret dX11_isBitsBelow_15 rfl (by decide) hp
theorem bX11_truth_0_0 {g : GG} {d n0 nf : Nat} {post : Option Value → LX → Prop} {n : Nat} {X : LX} (hn : 146 ≤ nf) (hX : Sh nf X) {v0 : Int32} (c0 : ¬ v0 = 0) (hp : post (some (.int 1)) X) : Ev g mX11_truth d n0 nf post nf 0 [some (.int v0)] [] X := by
  refine ev_iload_n dX11_truth_0 rfl ?_
  refine ev_ifF (tgt := 8) dX11_truth_1 (by decide) c0 ?_
  refine ev_iconst (v := 1) dX11_truth_4 ki_1 ?_
  refine ev_goto (tgt := 9) dX11_truth_5 (by decide) ?_
  exact ev_iret dX11_truth_9 rfl rfl hp
theorem bX11_truth_0_1 {g : GG} {d n0 nf : Nat} {post : Option Value → LX → Prop} {n : Nat} {X : LX} (hn : 146 ≤ nf) (hX : Sh nf X) {v0 : Int32} (c0 : v0 = 0) (hp : post (some (.int 0)) X) : Ev g mX11_truth d n0 nf post nf 0 [some (.int v0)] [] X := by
  refine ev_iload_n dX11_truth_0 rfl ?_
  refine ev_ifT (tgt := 8) dX11_truth_1 (by decide) c0 ?_
  refine ev_iconst (v := 0) dX11_truth_8 ki_0 ?_
  exact ev_iret dX11_truth_9 rfl rfl hp
theorem bX11_copyRow_0_0 {g : GG} {d n0 nf : Nat} {post : Option Value → LX → Prop} {n : Nat} {X : LX} (hn : 146 ≤ n) (hX : Sh n X) {r0 lr0 : Nat} {r1 lr1 : Nat} (hrr0 : r0 < n) (hlr0 : LY r0 = (0, lr0)) (hrr1 : r1 < n) (hlr1 : LY r1 = (0, lr1)) (k : Ev g mX11_copyRow d n0 nf post n 8 [some (.ref r0), some (.ref r1)] [.int (nI lr1), .int (nI lr0), .int 0, .ref r1, .int 0, .ref r0] X) : Ev g mX11_copyRow d n0 nf post n 0 [some (.ref r0), some (.ref r1)] [] X := by
  refine ev_aload_n dX11_copyRow_0 rfl ?_
  refine ev_iconst (v := 0) dX11_copyRow_1 ki_0 ?_
  refine ev_aload_n dX11_copyRow_2 rfl ?_
  refine ev_iconst (v := 0) dX11_copyRow_3 ki_0 ?_
  refine ev_aload_n dX11_copyRow_4 rfl ?_
  refine ev_alen dX11_copyRow_5 hrr0 hlr0 (by decide) ?_
  refine ev_aload_n dX11_copyRow_6 rfl ?_
  refine ev_alen dX11_copyRow_7 hrr1 hlr1 (by decide) ?_
  exact k
theorem bX11_copyRow_11_0 {g : GG} {d n0 nf : Nat} {post : Option Value → LX → Prop} {n : Nat} {X : LX} (hn : 146 ≤ n) (hX : Sh n X) {r0 lr0 : Nat} {r1 lr1 : Nat} {q0 lq0 : Nat} {s1 : Int32} {q2 lq2 : Nat} {s3 : Int32} {s4 : Int32} (hrr0 : r0 < n) (hlr0 : LY r0 = (0, lr0)) (hrr1 : r1 < n) (hlr1 : LY r1 = (0, lr1)) (hrq0 : q0 < n) (hlq0 : LY q0 = (0, lq0)) (hrq2 : q2 < n) (hlq2 : LY q2 = (0, lq2)) (k : Ev g mX11_copyRow d n0 nf post n 11 [some (.ref r0), some (.ref r1)] [.int s4, .int s3, .ref q2, .int s1, .ref q0] X) : Ev g mX11_copyRow d n0 nf post n 11 [some (.ref r0), some (.ref r1)] [.int s4, .int s3, .ref q2, .int s1, .ref q0] X := by
  exact k
theorem bX11_copyRow_14_0 {g : GG} {d n0 nf : Nat} {post : Option Value → LX → Prop} {n : Nat} {X : LX} (hn : 146 ≤ nf) (hX : Sh nf X) {r0 lr0 : Nat} {r1 lr1 : Nat} (hrr0 : r0 < nf) (hlr0 : LY r0 = (0, lr0)) (hrr1 : r1 < nf) (hlr1 : LY r1 = (0, lr1)) (hp : post none X) : Ev g mX11_copyRow d n0 nf post nf 14 [some (.ref r0), some (.ref r1)] [] X := by
  exact ev_ret dX11_copyRow_14 rfl hp
theorem bX11_copyRows_0_0 {g : GG} {d n0 nf : Nat} {post : Option Value → LX → Prop} {n : Nat} {X : LX} (hn : 146 ≤ n) (hX : Sh n X) {r0 lr0 : Nat} {r1 lr1 : Nat} (hrr0 : r0 < n) (hlr0 : LY r0 = (2, lr0)) (hrr1 : r1 < n) (hlr1 : LY r1 = (2, lr1)) (k : Ev g mX11_copyRows d n0 nf post n 2 [some (.ref r0), some (.ref r1), some (.int 0)] [] X) : Ev g mX11_copyRows d n0 nf post n 0 [some (.ref r0), some (.ref r1), none] [] X := by
  refine ev_iconst (v := 0) dX11_copyRows_0 ki_0 ?_
  refine ev_istore_n dX11_copyRows_1 (by decide) ?_
  exact k
theorem bX11_copyRows_2_0 {g : GG} {d n0 nf : Nat} {post : Option Value → LX → Prop} {n : Nat} {X : LX} (hn : 146 ≤ n) (hX : Sh n X) {r0 lr0 : Nat} {r1 lr1 : Nat} {v2 : Nat} (hrr0 : r0 < n) (hlr0 : LY r0 = (2, lr0)) (hrr1 : r1 < n) (hlr1 : LY r1 = (2, lr1)) (c0 : ¬ nI lr0 ≤ nI v2) (c1 : ¬ nI lr1 ≤ nI v2) (b0 : v2 < lr0) (b1 : v2 < lr1) (k : Ev g mX11_copyRows d n0 nf post n 20 [some (.ref r0), some (.ref r1), some (.int (nI v2))] [.ref (r1 + 1 + v2), .ref (r0 + 1 + v2)] X) : Ev g mX11_copyRows d n0 nf post n 2 [some (.ref r0), some (.ref r1), some (.int (nI v2))] [] X := by
  refine ev_iload_n dX11_copyRows_2 rfl ?_
  refine ev_aload_n dX11_copyRows_3 rfl ?_
  refine ev_alen dX11_copyRows_4 hrr0 hlr0 (by decide) ?_
  refine ev_icmpF (tgt := 29) dX11_copyRows_5 (by decide) c0 ?_
  refine ev_iload_n dX11_copyRows_8 rfl ?_
  refine ev_aload_n dX11_copyRows_9 rfl ?_
  refine ev_alen dX11_copyRows_10 hrr1 hlr1 (by decide) ?_
  refine ev_icmpF (tgt := 29) dX11_copyRows_11 (by decide) c1 ?_
  refine ev_aload_n dX11_copyRows_14 rfl ?_
  refine ev_iload_n dX11_copyRows_15 rfl ?_
  refine ev_aald (q := r0 + 1 + v2) dX11_copyRows_16 hrr0 (Or.inl hlr0) rfl b0 (hX.2 r0 v2 hrr0 (Or.inl (by rw [hlr0])) (by rw [hlr0]; exact b0)) (by first | omega | (have := LY_l hlr0; have := LY_lt (show (LY r0).1 < 99 by rw [hlr0]; exact (by decide : 2 < 99)); omega)) ?_
  refine ev_aload_n dX11_copyRows_17 rfl ?_
  refine ev_iload_n dX11_copyRows_18 rfl ?_
  refine ev_aald (q := r1 + 1 + v2) dX11_copyRows_19 hrr1 (Or.inl hlr1) rfl b1 (hX.2 r1 v2 hrr1 (Or.inl (by rw [hlr1])) (by rw [hlr1]; exact b1)) (by first | omega | (have := LY_l hlr1; have := LY_lt (show (LY r1).1 < 99 by rw [hlr1]; exact (by decide : 2 < 99)); omega)) ?_
  exact k
theorem bX11_copyRows_2_1 {g : GG} {d n0 nf : Nat} {post : Option Value → LX → Prop} {n : Nat} {X : LX} (hn : 146 ≤ nf) (hX : Sh nf X) {r0 lr0 : Nat} {r1 lr1 : Nat} {v2 : Nat} (hrr0 : r0 < nf) (hlr0 : LY r0 = (2, lr0)) (hrr1 : r1 < nf) (hlr1 : LY r1 = (2, lr1)) (c0 : ¬ nI lr0 ≤ nI v2) (c1 : nI lr1 ≤ nI v2) (hp : post none X) : Ev g mX11_copyRows d n0 nf post nf 2 [some (.ref r0), some (.ref r1), some (.int (nI v2))] [] X := by
  refine ev_iload_n dX11_copyRows_2 rfl ?_
  refine ev_aload_n dX11_copyRows_3 rfl ?_
  refine ev_alen dX11_copyRows_4 hrr0 hlr0 (by decide) ?_
  refine ev_icmpF (tgt := 29) dX11_copyRows_5 (by decide) c0 ?_
  refine ev_iload_n dX11_copyRows_8 rfl ?_
  refine ev_aload_n dX11_copyRows_9 rfl ?_
  refine ev_alen dX11_copyRows_10 hrr1 hlr1 (by decide) ?_
  refine ev_icmpT (tgt := 29) dX11_copyRows_11 (by decide) c1 ?_
  exact ev_ret dX11_copyRows_29 rfl hp
theorem bX11_copyRows_2_2 {g : GG} {d n0 nf : Nat} {post : Option Value → LX → Prop} {n : Nat} {X : LX} (hn : 146 ≤ nf) (hX : Sh nf X) {r0 lr0 : Nat} {r1 lr1 : Nat} {v2 : Nat} (hrr0 : r0 < nf) (hlr0 : LY r0 = (2, lr0)) (hrr1 : r1 < nf) (hlr1 : LY r1 = (2, lr1)) (c0 : nI lr0 ≤ nI v2) (hp : post none X) : Ev g mX11_copyRows d n0 nf post nf 2 [some (.ref r0), some (.ref r1), some (.int (nI v2))] [] X := by
  refine ev_iload_n dX11_copyRows_2 rfl ?_
  refine ev_aload_n dX11_copyRows_3 rfl ?_
  refine ev_alen dX11_copyRows_4 hrr0 hlr0 (by decide) ?_
  refine ev_icmpT (tgt := 29) dX11_copyRows_5 (by decide) c0 ?_
  exact ev_ret dX11_copyRows_29 rfl hp
theorem bX11_copyRows_23_0 {g : GG} {d n0 nf : Nat} {post : Option Value → LX → Prop} {n : Nat} {X : LX} (hn : 146 ≤ n) (hX : Sh n X) {r0 lr0 : Nat} {r1 lr1 : Nat} {v2 : Int32} (hrr0 : r0 < n) (hlr0 : LY r0 = (2, lr0)) (hrr1 : r1 < n) (hlr1 : LY r1 = (2, lr1)) (k : Ev g mX11_copyRows d n0 nf post n 2 [some (.ref r0), some (.ref r1), some (.int (v2 + 1))] [] X) : Ev g mX11_copyRows d n0 nf post n 23 [some (.ref r0), some (.ref r1), some (.int v2)] [] X := by
  refine ev_iinc (v := v2 + 1) dX11_copyRows_23 rfl (by rw [show Int32.ofInt 1 = 1 from ki_1]) (by decide) ?_
  refine ev_goto (tgt := 2) dX11_copyRows_26 (by decide) ?_
  exact k
