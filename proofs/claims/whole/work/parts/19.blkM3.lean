theorem bX12_lot_0_0 {g : GG} {d n0 nf : Nat} {post : Option Value → LX → Prop} {n : Nat} {X : LX} (hn : 146 ≤ n) (hX : Sh n X) {v1 : Int32} {v2 : Int32} (k : Ev g mX12_lot d n0 nf post n 2 [some (.ref 133), some (.int v1), some (.int v2), none] [.int v1, .ref 133] X) : Ev g mX12_lot d n0 nf post n 0 [some (.ref 133), some (.int v1), some (.int v2), none] [] X := by
  refine ev_aload_n dX12_lot_0 rfl ?_
  refine ev_iload_n dX12_lot_1 rfl ?_
  exact k
theorem bX12_lot_5_0 {g : GG} {d n0 nf : Nat} {post : Option Value → LX → Prop} {n : Nat} {X : LX} (hn : 146 ≤ n) (hX : Sh n X) {v1 : Int32} {v2 : Int32} {s0 : Int32} (c0 : ¬ s0 = 0) (k : Ev g mX12_lot d n0 nf post n 12 [some (.ref 133), some (.int v1), some (.int v2), none] [.int 99999, .int 1, .int v2] X) : Ev g mX12_lot d n0 nf post n 5 [some (.ref 133), some (.int v1), some (.int v2), none] [.int s0] X := by
  refine ev_ifF (tgt := 18) dX12_lot_5 (by decide) c0 ?_
  refine ev_iload_n dX12_lot_8 rfl ?_
  refine ev_iconst (v := 1) dX12_lot_9 ki_1 ?_
  refine ev_ldc (v := 99999) dX12_lot_10 kw_12_56 ?_
  exact k
theorem bX12_lot_5_1 {g : GG} {d n0 nf : Nat} {post : Option Value → LX → Prop} {n : Nat} {X : LX} (hn : 146 ≤ nf) (hX : Sh nf X) {v1 : Int32} {v2 : Int32} {s0 : Int32} (c0 : s0 = 0) (hp : post (some (.int (-1000000001))) X) : Ev g mX12_lot d n0 nf post nf 5 [some (.ref 133), some (.int v1), some (.int v2), none] [.int s0] X := by
  refine ev_ifT (tgt := 18) dX12_lot_5 (by decide) c0 ?_
  refine ev_ldc (v := (-1000000001)) dX12_lot_18 kw_12_57 ?_
  exact ev_iret dX12_lot_20 rfl rfl hp
theorem bX12_lot_15_0 {g : GG} {d n0 nf : Nat} {post : Option Value → LX → Prop} {n : Nat} {X : LX} (hn : 146 ≤ nf) (hX : Sh nf X) {v1 : Int32} {v2 : Int32} {s0 : Int32} (c0 : s0 = 0) (hp : post (some (.int (-1000000001))) X) : Ev g mX12_lot d n0 nf post nf 15 [some (.ref 133), some (.int v1), some (.int v2), none] [.int s0] X := by
  refine ev_ifF (tgt := 21) dX12_lot_15 (by decide) c0 ?_
  refine ev_ldc (v := (-1000000001)) dX12_lot_18 kw_12_57 ?_
  exact ev_iret dX12_lot_20 rfl rfl hp
theorem bX12_lot_15_1 {g : GG} {d n0 nf : Nat} {post : Option Value → LX → Prop} {n : Nat} {X : LX} (hn : 146 ≤ nf) (hX : Sh nf X) {v1 : Int32} {v2 : Int32} {s0 : Int32} (c0 : ¬ s0 = 0) (c1 : X 134 7 = 40) (hp : post (some (.int (-1000000003))) X) : Ev g mX12_lot d n0 nf post nf 15 [some (.ref 133), some (.int v1), some (.int v2), none] [.int s0] X := by
  refine ev_ifT (tgt := 21) dX12_lot_15 (by decide) c0 ?_
  refine ev_aload_n dX12_lot_21 rfl ?_
  refine ev_getS (q := 134) dX12_lot_22 fo_12_9 (by omega) lo_133 rfl (sh_133_0 hX (by omega)) (by decide) ?_
  refine ev_bipush (v := 7) dX12_lot_25 kb_7 ?_
  refine ev_iald dX12_lot_27 (by omega) ly_134 nIl_7 (by decide) ?_
  refine ev_istore_n dX12_lot_28 (by decide) ?_
  refine ev_iload_n dX12_lot_29 rfl ?_
  refine ev_bipush (v := 40) dX12_lot_30 kb_40 ?_
  refine ev_icmpF (tgt := 38) dX12_lot_32 (by decide) c1 ?_
  refine ev_ldc (v := (-1000000003)) dX12_lot_35 kw_12_58 ?_
  exact ev_iret dX12_lot_37 rfl rfl hp
theorem bX12_lot_15_2 {g : GG} {d n0 nf : Nat} {post : Option Value → LX → Prop} {n : Nat} {X : LX} (hn : 146 ≤ n) (hX : Sh n X) {v1 : Int32} {v2 : Int32} {s0 : Int32} (c0 : ¬ s0 = 0) (c1 : ¬ X 134 7 = 40) (k : Ev g mX12_lot d n0 nf post n 44 [some (.ref 133), some (.int v1), some (.int v2), some (.int (X 134 7))] [.int 0, .int (X 134 7), .ref 134] X) : Ev g mX12_lot d n0 nf post n 15 [some (.ref 133), some (.int v1), some (.int v2), none] [.int s0] X := by
  refine ev_ifT (tgt := 21) dX12_lot_15 (by decide) c0 ?_
  refine ev_aload_n dX12_lot_21 rfl ?_
  refine ev_getS (q := 134) dX12_lot_22 fo_12_9 (by omega) lo_133 rfl (sh_133_0 hX (by omega)) (by decide) ?_
  refine ev_bipush (v := 7) dX12_lot_25 kb_7 ?_
  refine ev_iald dX12_lot_27 (by omega) ly_134 nIl_7 (by decide) ?_
  refine ev_istore_n dX12_lot_28 (by decide) ?_
  refine ev_iload_n dX12_lot_29 rfl ?_
  refine ev_bipush (v := 40) dX12_lot_30 kb_40 ?_
  refine ev_icmpT (tgt := 38) dX12_lot_32 (by decide) c1 ?_
  refine ev_aload_n dX12_lot_38 rfl ?_
  refine ev_getS (q := 134) dX12_lot_39 fo_12_9 (by omega) lo_133 rfl (sh_133_0 hX (by omega)) (by decide) ?_
  refine ev_iload_n dX12_lot_42 rfl ?_
  refine ev_iconst (v := 0) dX12_lot_43 ki_0 ?_
  exact k
theorem bX12_lot_47_0 {g : GG} {d n0 nf : Nat} {post : Option Value → LX → Prop} {n : Nat} {X : LX} (hn : 146 ≤ n) (hX : Sh n X) {v1 : Int32} {v2 : Int32} {v3 : Int32} {s1 : Nat} (b0 : s1 < 2156) (k : Ev g mX12_lot d n0 nf post n 55 [some (.ref 133), some (.int v1), some (.int v2), some (.int v3)] [.int 1, .int v3, .ref 134] (lx_up X 134 s1 v1)) : Ev g mX12_lot d n0 nf post n 47 [some (.ref 133), some (.int v1), some (.int v2), some (.int v3)] [.int (nI s1), .ref 134] X := by
  refine ev_iload_n dX12_lot_47 rfl ?_
  refine ev_iast dX12_lot_48 (by omega) ly_134 rfl b0 ?_
  have hX1 : Sh _ (lx_up X 134 s1 v1) := Sh.upA hX (by rw [ly_134]; exact (by decide : 0 < 2))
  refine ev_aload_n dX12_lot_49 rfl ?_
  refine ev_getS (q := 134) dX12_lot_50 fo_12_9 (by omega) lo_133 rfl (sh_133_0 hX1 (by omega)) (by decide) ?_
  refine ev_iload_n dX12_lot_53 rfl ?_
  refine ev_iconst (v := 1) dX12_lot_54 ki_1 ?_
  exact k
theorem bX12_lot_58_0 {g : GG} {d n0 nf : Nat} {post : Option Value → LX → Prop} {n : Nat} {X : LX} (hn : 146 ≤ n) (hX : Sh n X) {v1 : Int32} {v2 : Int32} {v3 : Int32} {s1 : Nat} (b0 : s1 < 2156) (k : Ev g mX12_lot d n0 nf post n 66 [some (.ref 133), some (.int v1), some (.int v2), some (.int v3)] [.int 2, .int v3, .ref 134] (lx_up X 134 s1 v2)) : Ev g mX12_lot d n0 nf post n 58 [some (.ref 133), some (.int v1), some (.int v2), some (.int v3)] [.int (nI s1), .ref 134] X := by
  refine ev_iload_n dX12_lot_58 rfl ?_
  refine ev_iast dX12_lot_59 (by omega) ly_134 rfl b0 ?_
  have hX1 : Sh _ (lx_up X 134 s1 v2) := Sh.upA hX (by rw [ly_134]; exact (by decide : 0 < 2))
  refine ev_aload_n dX12_lot_60 rfl ?_
  refine ev_getS (q := 134) dX12_lot_61 fo_12_9 (by omega) lo_133 rfl (sh_133_0 hX1 (by omega)) (by decide) ?_
  refine ev_iload_n dX12_lot_64 rfl ?_
  refine ev_iconst (v := 2) dX12_lot_65 ki_2 ?_
  exact k
theorem bX12_lot_69_0 {g : GG} {d n0 nf : Nat} {post : Option Value → LX → Prop} {n : Nat} {X : LX} (hn : 146 ≤ n) (hX : Sh n X) {v1 : Int32} {v2 : Int32} {v3 : Int32} {s1 : Nat} (b0 : s1 < 2156) (k : Ev g mX12_lot d n0 nf post n 82 [some (.ref 133), some (.int v1), some (.int v2), some (.int v3)] [.int 3, .int v3, .ref 134] (lx_up X 134 s1 (X 134 0))) : Ev g mX12_lot d n0 nf post n 69 [some (.ref 133), some (.int v1), some (.int v2), some (.int v3)] [.int (nI s1), .ref 134] X := by
  refine ev_aload_n dX12_lot_69 rfl ?_
  refine ev_getS (q := 134) dX12_lot_70 fo_12_9 (by omega) lo_133 rfl (sh_133_0 hX (by omega)) (by decide) ?_
  refine ev_iconst (v := 0) dX12_lot_73 ki_0 ?_
  refine ev_iald dX12_lot_74 (by omega) ly_134 nIl_0 (by decide) ?_
  refine ev_iast dX12_lot_75 (by omega) ly_134 rfl b0 ?_
  have hX1 : Sh _ (lx_up X 134 s1 (X 134 0)) := Sh.upA hX (by rw [ly_134]; exact (by decide : 0 < 2))
  refine ev_aload_n dX12_lot_76 rfl ?_
  refine ev_getS (q := 134) dX12_lot_77 fo_12_9 (by omega) lo_133 rfl (sh_133_0 hX1 (by omega)) (by decide) ?_
  refine ev_iload_n dX12_lot_80 rfl ?_
  refine ev_iconst (v := 3) dX12_lot_81 ki_3 ?_
  exact k
theorem bX12_lot_85_0 {g : GG} {d n0 nf : Nat} {post : Option Value → LX → Prop} {n : Nat} {X : LX} (hn : 146 ≤ n) (hX : Sh n X) {v1 : Int32} {v2 : Int32} {v3 : Int32} {s1 : Nat} (b0 : s1 < 2156) (k : Ev g mX12_lot d n0 nf post n 93 [some (.ref 133), some (.int v1), some (.int v2), some (.int v3)] [.int 4, .int v3, .ref 134] (lx_up X 134 s1 v2)) : Ev g mX12_lot d n0 nf post n 85 [some (.ref 133), some (.int v1), some (.int v2), some (.int v3)] [.int (nI s1), .ref 134] X := by
  refine ev_iload_n dX12_lot_85 rfl ?_
  refine ev_iast dX12_lot_86 (by omega) ly_134 rfl b0 ?_
  have hX1 : Sh _ (lx_up X 134 s1 v2) := Sh.upA hX (by rw [ly_134]; exact (by decide : 0 < 2))
  refine ev_aload_n dX12_lot_87 rfl ?_
  refine ev_getS (q := 134) dX12_lot_88 fo_12_9 (by omega) lo_133 rfl (sh_133_0 hX1 (by omega)) (by decide) ?_
  refine ev_iload_n dX12_lot_91 rfl ?_
  refine ev_iconst (v := 4) dX12_lot_92 ki_4 ?_
  exact k
theorem bX12_lot_96_0 {g : GG} {d n0 nf : Nat} {post : Option Value → LX → Prop} {n : Nat} {X : LX} (hn : 146 ≤ n) (hX : Sh n X) {v1 : Int32} {v2 : Int32} {v3 : Int32} {s1 : Nat} (b0 : s1 < 2156) (k : Ev g mX12_lot d n0 nf post n 104 [some (.ref 133), some (.int v1), some (.int v2), some (.int v3)] [.int 5, .int v1, .ref 134] (lx_up X 134 s1 0)) : Ev g mX12_lot d n0 nf post n 96 [some (.ref 133), some (.int v1), some (.int v2), some (.int v3)] [.int (nI s1), .ref 134] X := by
  refine ev_iconst (v := 0) dX12_lot_96 ki_0 ?_
  refine ev_iast dX12_lot_97 (by omega) ly_134 rfl b0 ?_
  have hX1 : Sh _ (lx_up X 134 s1 0) := Sh.upA hX (by rw [ly_134]; exact (by decide : 0 < 2))
  refine ev_aload_n dX12_lot_98 rfl ?_
  refine ev_getS (q := 134) dX12_lot_99 fo_12_9 (by omega) lo_133 rfl (sh_133_0 hX1 (by omega)) (by decide) ?_
  refine ev_iload_n dX12_lot_102 rfl ?_
  refine ev_iconst (v := 5) dX12_lot_103 ki_5 ?_
  exact k
theorem bX12_lot_107_0 {g : GG} {d n0 nf : Nat} {post : Option Value → LX → Prop} {n : Nat} {X : LX} (hn : 146 ≤ nf) (hX : Sh nf X) {v1 : Int32} {v2 : Int32} {v3 : Int32} {s1 : Nat} (b0 : s1 < 2156) (b1 : s1 < 2156) (hp : post (some (.int v3)) (lx_up (lx_up X 134 s1 ((X 134 s1) + v2)) 134 7 (((lx_up X 134 s1 ((X 134 s1) + v2)) 134 7) + 1))) : Ev g mX12_lot d n0 nf post nf 107 [some (.ref 133), some (.int v1), some (.int v2), some (.int v3)] [.int (nI s1), .ref 134] X := by
  refine ev_dup2 dX12_lot_107 rfl rfl ?_
  refine ev_iald dX12_lot_108 (by omega) ly_134 rfl b0 ?_
  refine ev_iload_n dX12_lot_109 rfl ?_
  refine ev_iadd dX12_lot_110 ?_
  refine ev_iast dX12_lot_111 (by omega) ly_134 rfl b1 ?_
  have hX1 : Sh _ (lx_up X 134 s1 ((X 134 s1) + v2)) := Sh.upA hX (by rw [ly_134]; exact (by decide : 0 < 2))
  refine ev_aload_n dX12_lot_112 rfl ?_
  refine ev_getS (q := 134) dX12_lot_113 fo_12_9 (by omega) lo_133 rfl (sh_133_0 hX1 (by omega)) (by decide) ?_
  refine ev_bipush (v := 7) dX12_lot_116 kb_7 ?_
  refine ev_dup2 dX12_lot_118 rfl rfl ?_
  refine ev_iald dX12_lot_119 (by omega) ly_134 nIl_7 (by decide) ?_
  refine ev_iconst (v := 1) dX12_lot_120 ki_1 ?_
  refine ev_iadd dX12_lot_121 ?_
  refine ev_iast dX12_lot_122 (by omega) ly_134 nIl_7 (by decide) ?_
  have hX2 : Sh _ (lx_up (lx_up X 134 s1 ((X 134 s1) + v2)) 134 7 (((lx_up X 134 s1 ((X 134 s1) + v2)) 134 7) + 1)) := Sh.upA hX1 (by rw [ly_134]; exact (by decide : 0 < 2))
  refine ev_iload_n dX12_lot_123 rfl ?_
  exact ev_iret dX12_lot_124 rfl rfl hp
theorem bX12_told_0_0 {g : GG} {d n0 nf : Nat} {post : Option Value → LX → Prop} {n : Nat} {X : LX} (hn : 146 ≤ n) (hX : Sh n X) {v1 : Int32} {v2 : Int32} (k : Ev g mX12_told d n0 nf post n 11 [some (.ref 133), some (.int v1), some (.int v2)] [.int ((X 134 7) - 1), .int 0, .int v1] X) : Ev g mX12_told d n0 nf post n 0 [some (.ref 133), some (.int v1), some (.int v2)] [] X := by
  refine ev_iload_n dX12_told_0 rfl ?_
  refine ev_iconst (v := 0) dX12_told_1 ki_0 ?_
  refine ev_aload_n dX12_told_2 rfl ?_
  refine ev_getS (q := 134) dX12_told_3 fo_12_9 (by omega) lo_133 rfl (sh_133_0 hX (by omega)) (by decide) ?_
  refine ev_bipush (v := 7) dX12_told_6 kb_7 ?_
  refine ev_iald dX12_told_8 (by omega) ly_134 nIl_7 (by decide) ?_
  refine ev_iconst (v := 1) dX12_told_9 ki_1 ?_
  refine ev_isub dX12_told_10 ?_
  exact k
theorem bX12_told_14_0 {g : GG} {d n0 nf : Nat} {post : Option Value → LX → Prop} {n : Nat} {X : LX} (hn : 146 ≤ n) (hX : Sh n X) {v1 : Int32} {v2 : Int32} {s0 : Int32} (c0 : ¬ s0 = 0) (k : Ev g mX12_told d n0 nf post n 20 [some (.ref 133), some (.int v1), some (.int v2)] [.int 3, .int 0, .int v2] X) : Ev g mX12_told d n0 nf post n 14 [some (.ref 133), some (.int v1), some (.int v2)] [.int s0] X := by
  refine ev_ifF (tgt := 26) dX12_told_14 (by decide) c0 ?_
  refine ev_iload_n dX12_told_17 rfl ?_
  refine ev_iconst (v := 0) dX12_told_18 ki_0 ?_
  refine ev_iconst (v := 3) dX12_told_19 ki_3 ?_
  exact k
theorem bX12_told_14_1 {g : GG} {d n0 nf : Nat} {post : Option Value → LX → Prop} {n : Nat} {X : LX} (hn : 146 ≤ nf) (hX : Sh nf X) {v1 : Int32} {v2 : Int32} {s0 : Int32} (c0 : s0 = 0) (hp : post (some (.int (-1000000001))) X) : Ev g mX12_told d n0 nf post nf 14 [some (.ref 133), some (.int v1), some (.int v2)] [.int s0] X := by
  refine ev_ifT (tgt := 26) dX12_told_14 (by decide) c0 ?_
  refine ev_ldc (v := (-1000000001)) dX12_told_26 kw_12_57 ?_
  refine ev_goto (tgt := 41) dX12_told_28 (by decide) ?_
  exact ev_iret dX12_told_41 rfl rfl hp
theorem bX12_told_23_0 {g : GG} {d n0 nf : Nat} {post : Option Value → LX → Prop} {n : Nat} {X : LX} (hn : 146 ≤ nf) (hX : Sh nf X) {v1 : Int32} {v2 : Int32} {s0 : Int32} (c0 : s0 = 0) (hp : post (some (.int (-1000000001))) X) : Ev g mX12_told d n0 nf post nf 23 [some (.ref 133), some (.int v1), some (.int v2)] [.int s0] X := by
  refine ev_ifF (tgt := 31) dX12_told_23 (by decide) c0 ?_
  refine ev_ldc (v := (-1000000001)) dX12_told_26 kw_12_57 ?_
  refine ev_goto (tgt := 41) dX12_told_28 (by decide) ?_
  exact ev_iret dX12_told_41 rfl rfl hp
theorem bX12_told_23_1 {g : GG} {d n0 nf : Nat} {post : Option Value → LX → Prop} {n : Nat} {X : LX} (hn : 146 ≤ n) (hX : Sh n X) {v1 : Int32} {v2 : Int32} {s0 : Int32} (c0 : ¬ s0 = 0) (k : Ev g mX12_told d n0 nf post n 37 [some (.ref 133), some (.int v1), some (.int v2)] [.int v2, .int v1, .ref 134] X) : Ev g mX12_told d n0 nf post n 23 [some (.ref 133), some (.int v1), some (.int v2)] [.int s0] X := by
  refine ev_ifT (tgt := 31) dX12_told_23 (by decide) c0 ?_
  refine ev_aload_n dX12_told_31 rfl ?_
  refine ev_getS (q := 134) dX12_told_32 fo_12_9 (by omega) lo_133 rfl (sh_133_0 hX (by omega)) (by decide) ?_
  refine ev_iload_n dX12_told_35 rfl ?_
  refine ev_iload_n dX12_told_36 rfl ?_
  exact k
theorem bX12_told_40_0 {g : GG} {d n0 nf : Nat} {post : Option Value → LX → Prop} {n : Nat} {X : LX} (hn : 146 ≤ nf) (hX : Sh nf X) {v1 : Int32} {v2 : Int32} {s1 : Nat} (b0 : s1 < 2156) (hp : post (some (.int (X 134 s1))) X) : Ev g mX12_told d n0 nf post nf 40 [some (.ref 133), some (.int v1), some (.int v2)] [.int (nI s1), .ref 134] X := by
  refine ev_iald dX12_told_40 (by omega) ly_134 rfl b0 ?_
  exact ev_iret dX12_told_41 rfl rfl hp
theorem bX12_stockOf_0_0 {g : GG} {d n0 nf : Nat} {post : Option Value → LX → Prop} {n : Nat} {X : LX} (hn : 146 ≤ n) (hX : Sh n X) {v1 : Int32} (k : Ev g mX12_stockOf d n0 nf post n 4 [some (.ref 133), some (.int v1), some (.int 0), some (.int 0)] [] X) : Ev g mX12_stockOf d n0 nf post n 0 [some (.ref 133), some (.int v1), none, none] [] X := by
  refine ev_iconst (v := 0) dX12_stockOf_0 ki_0 ?_
  refine ev_istore_n dX12_stockOf_1 (by decide) ?_
  refine ev_iconst (v := 0) dX12_stockOf_2 ki_0 ?_
  refine ev_istore_n dX12_stockOf_3 (by decide) ?_
  exact k
theorem bX12_stockOf_4_0 {g : GG} {d n0 nf : Nat} {post : Option Value → LX → Prop} {n : Nat} {X : LX} (hn : 146 ≤ n) (hX : Sh n X) {v1 : Int32} {v2 : Int32} {v3 : Int32} (c0 : ¬ X 134 7 ≤ v3) (k : Ev g mX12_stockOf d n0 nf post n 22 [some (.ref 133), some (.int v1), some (.int v2), some (.int v3)] [.int 0, .int v3, .ref 134, .int v2] X) : Ev g mX12_stockOf d n0 nf post n 4 [some (.ref 133), some (.int v1), some (.int v2), some (.int v3)] [] X := by
  refine ev_iload_n dX12_stockOf_4 rfl ?_
  refine ev_aload_n dX12_stockOf_5 rfl ?_
  refine ev_getS (q := 134) dX12_stockOf_6 fo_12_9 (by omega) lo_133 rfl (sh_133_0 hX (by omega)) (by decide) ?_
  refine ev_bipush (v := 7) dX12_stockOf_9 kb_7 ?_
  refine ev_iald dX12_stockOf_11 (by omega) ly_134 nIl_7 (by decide) ?_
  refine ev_icmpF (tgt := 52) dX12_stockOf_12 (by decide) c0 ?_
  refine ev_iload_n dX12_stockOf_15 rfl ?_
  refine ev_aload_n dX12_stockOf_16 rfl ?_
  refine ev_getS (q := 134) dX12_stockOf_17 fo_12_9 (by omega) lo_133 rfl (sh_133_0 hX (by omega)) (by decide) ?_
  refine ev_iload_n dX12_stockOf_20 rfl ?_
  refine ev_iconst (v := 0) dX12_stockOf_21 ki_0 ?_
  exact k
theorem bX12_stockOf_4_1 {g : GG} {d n0 nf : Nat} {post : Option Value → LX → Prop} {n : Nat} {X : LX} (hn : 146 ≤ nf) (hX : Sh nf X) {v1 : Int32} {v2 : Int32} {v3 : Int32} (c0 : X 134 7 ≤ v3) (hp : post (some (.int v2)) X) : Ev g mX12_stockOf d n0 nf post nf 4 [some (.ref 133), some (.int v1), some (.int v2), some (.int v3)] [] X := by
  refine ev_iload_n dX12_stockOf_4 rfl ?_
  refine ev_aload_n dX12_stockOf_5 rfl ?_
  refine ev_getS (q := 134) dX12_stockOf_6 fo_12_9 (by omega) lo_133 rfl (sh_133_0 hX (by omega)) (by decide) ?_
  refine ev_bipush (v := 7) dX12_stockOf_9 kb_7 ?_
  refine ev_iald dX12_stockOf_11 (by omega) ly_134 nIl_7 (by decide) ?_
  refine ev_icmpT (tgt := 52) dX12_stockOf_12 (by decide) c0 ?_
  refine ev_iload_n dX12_stockOf_52 rfl ?_
  exact ev_iret dX12_stockOf_53 rfl rfl hp
theorem bX12_stockOf_25_0 {g : GG} {d n0 nf : Nat} {post : Option Value → LX → Prop} {n : Nat} {X : LX} (hn : 146 ≤ n) (hX : Sh n X) {v1 : Int32} {v2 : Int32} {v3 : Int32} {s0 : Int32} {s2 : Nat} (b0 : s2 < 2156) (c0 : X 134 s2 = v1) (k : Ev g mX12_stockOf d n0 nf post n 36 [some (.ref 133), some (.int v1), some (.int v2), some (.int v3)] [.int 3, .int v3, .ref 134, .int s0] X) : Ev g mX12_stockOf d n0 nf post n 25 [some (.ref 133), some (.int v1), some (.int v2), some (.int v3)] [.int (nI s2), .ref 134, .int s0] X := by
  refine ev_iald dX12_stockOf_25 (by omega) ly_134 rfl b0 ?_
  refine ev_iload_n dX12_stockOf_26 rfl ?_
  refine ev_icmpF (tgt := 43) dX12_stockOf_27 (by decide) c0 ?_
  refine ev_aload_n dX12_stockOf_30 rfl ?_
  refine ev_getS (q := 134) dX12_stockOf_31 fo_12_9 (by omega) lo_133 rfl (sh_133_0 hX (by omega)) (by decide) ?_
  refine ev_iload_n dX12_stockOf_34 rfl ?_
  refine ev_iconst (v := 3) dX12_stockOf_35 ki_3 ?_
  exact k
theorem bX12_stockOf_25_1 {g : GG} {d n0 nf : Nat} {post : Option Value → LX → Prop} {n : Nat} {X : LX} (hn : 146 ≤ n) (hX : Sh n X) {v1 : Int32} {v2 : Int32} {v3 : Int32} {s0 : Int32} {s2 : Nat} (b0 : s2 < 2156) (c0 : ¬ X 134 s2 = v1) (k : Ev g mX12_stockOf d n0 nf post n 4 [some (.ref 133), some (.int v1), some (.int (s0 + 0)), some (.int (v3 + 1))] [] X) : Ev g mX12_stockOf d n0 nf post n 25 [some (.ref 133), some (.int v1), some (.int v2), some (.int v3)] [.int (nI s2), .ref 134, .int s0] X := by
  refine ev_iald dX12_stockOf_25 (by omega) ly_134 rfl b0 ?_
  refine ev_iload_n dX12_stockOf_26 rfl ?_
  refine ev_icmpT (tgt := 43) dX12_stockOf_27 (by decide) c0 ?_
  refine ev_iconst (v := 0) dX12_stockOf_43 ki_0 ?_
  refine ev_iadd dX12_stockOf_44 ?_
  refine ev_istore_n dX12_stockOf_45 (by decide) ?_
  refine ev_iinc (v := v3 + 1) dX12_stockOf_46 rfl (by rw [show Int32.ofInt 1 = 1 from ki_1]) (by decide) ?_
  refine ev_goto (tgt := 4) dX12_stockOf_49 (by decide) ?_
  exact k
theorem bX12_stockOf_39_0 {g : GG} {d n0 nf : Nat} {post : Option Value → LX → Prop} {n : Nat} {X : LX} (hn : 146 ≤ n) (hX : Sh n X) {v1 : Int32} {v2 : Int32} {v3 : Int32} {s0 : Int32} {s2 : Nat} (b0 : s2 < 2156) (k : Ev g mX12_stockOf d n0 nf post n 4 [some (.ref 133), some (.int v1), some (.int (s0 + (X 134 s2))), some (.int (v3 + 1))] [] X) : Ev g mX12_stockOf d n0 nf post n 39 [some (.ref 133), some (.int v1), some (.int v2), some (.int v3)] [.int (nI s2), .ref 134, .int s0] X := by
  refine ev_iald dX12_stockOf_39 (by omega) ly_134 rfl b0 ?_
  refine ev_goto (tgt := 44) dX12_stockOf_40 (by decide) ?_
  refine ev_iadd dX12_stockOf_44 ?_
  refine ev_istore_n dX12_stockOf_45 (by decide) ?_
  refine ev_iinc (v := v3 + 1) dX12_stockOf_46 rfl (by rw [show Int32.ofInt 1 = 1 from ki_1]) (by decide) ?_
  refine ev_goto (tgt := 4) dX12_stockOf_49 (by decide) ?_
  exact k
theorem bX12_needOf_0_0 {g : GG} {d n0 nf : Nat} {post : Option Value → LX → Prop} {n : Nat} {X : LX} (hn : 146 ≤ n) (hX : Sh n X) {v1 : Int32} (k : Ev g mX12_needOf d n0 nf post n 4 [some (.ref 133), some (.int v1), some (.int 0), some (.int 0)] [] X) : Ev g mX12_needOf d n0 nf post n 0 [some (.ref 133), some (.int v1), none, none] [] X := by
  refine ev_iconst (v := 0) dX12_needOf_0 ki_0 ?_
  refine ev_istore_n dX12_needOf_1 (by decide) ?_
  refine ev_iconst (v := 0) dX12_needOf_2 ki_0 ?_
  refine ev_istore_n dX12_needOf_3 (by decide) ?_
  exact k
theorem bX12_needOf_4_0 {g : GG} {d n0 nf : Nat} {post : Option Value → LX → Prop} {n : Nat} {X : LX} (hn : 146 ≤ n) (hX : Sh n X) {v1 : Int32} {v2 : Int32} {v3 : Int32} {j1 : Nat} (c0 : ¬ X 134 6 ≤ v3) (hj1 : (14 * v3) + v1 = nI j1) (b0 : j1 < 168) (k : Ev g mX12_needOf d n0 nf post n 4 [some (.ref 133), some (.int v1), some (.int (v2 + (X 140 j1))), some (.int (v3 + 1))] [] X) : Ev g mX12_needOf d n0 nf post n 4 [some (.ref 133), some (.int v1), some (.int v2), some (.int v3)] [] X := by
  refine ev_iload_n dX12_needOf_4 rfl ?_
  refine ev_aload_n dX12_needOf_5 rfl ?_
  refine ev_getS (q := 134) dX12_needOf_6 fo_12_9 (by omega) lo_133 rfl (sh_133_0 hX (by omega)) (by decide) ?_
  refine ev_bipush (v := 6) dX12_needOf_9 kb_6 ?_
  refine ev_iald dX12_needOf_11 (by omega) ly_134 nIl_6 (by decide) ?_
  refine ev_icmpF (tgt := 35) dX12_needOf_12 (by decide) c0 ?_
  refine ev_iload_n dX12_needOf_15 rfl ?_
  refine ev_aload_n dX12_needOf_16 rfl ?_
  refine ev_getS (q := 140) dX12_needOf_17 fo_12_28 (by omega) lo_133 rfl (sh_133_9 hX (by omega)) (by decide) ?_
  refine ev_bipush (v := 14) dX12_needOf_20 kb_14 ?_
  refine ev_iload_n dX12_needOf_22 rfl ?_
  refine ev_imul dX12_needOf_23 ?_
  refine ev_iload_n dX12_needOf_24 rfl ?_
  refine ev_iadd dX12_needOf_25 ?_
  refine ev_iald dX12_needOf_26 (by omega) ly_140 hj1 b0 ?_
  refine ev_iadd dX12_needOf_27 ?_
  refine ev_istore_n dX12_needOf_28 (by decide) ?_
  refine ev_iinc (v := v3 + 1) dX12_needOf_29 rfl (by rw [show Int32.ofInt 1 = 1 from ki_1]) (by decide) ?_
  refine ev_goto (tgt := 4) dX12_needOf_32 (by decide) ?_
  exact k
theorem bX12_needOf_4_1 {g : GG} {d n0 nf : Nat} {post : Option Value → LX → Prop} {n : Nat} {X : LX} (hn : 146 ≤ nf) (hX : Sh nf X) {v1 : Int32} {v2 : Int32} {v3 : Int32} (c0 : X 134 6 ≤ v3) (hp : post (some (.int v2)) X) : Ev g mX12_needOf d n0 nf post nf 4 [some (.ref 133), some (.int v1), some (.int v2), some (.int v3)] [] X := by
  refine ev_iload_n dX12_needOf_4 rfl ?_
  refine ev_aload_n dX12_needOf_5 rfl ?_
  refine ev_getS (q := 134) dX12_needOf_6 fo_12_9 (by omega) lo_133 rfl (sh_133_0 hX (by omega)) (by decide) ?_
  refine ev_bipush (v := 6) dX12_needOf_9 kb_6 ?_
  refine ev_iald dX12_needOf_11 (by omega) ly_134 nIl_6 (by decide) ?_
  refine ev_icmpT (tgt := 35) dX12_needOf_12 (by decide) c0 ?_
  refine ev_iload_n dX12_needOf_35 rfl ?_
  exact ev_iret dX12_needOf_36 rfl rfl hp
theorem bX12_stock_0_0 {g : GG} {d n0 nf : Nat} {post : Option Value → LX → Prop} {n : Nat} {X : LX} (hn : 146 ≤ n) (hX : Sh n X) {v1 : Int32} {v2 : Int32} (k : Ev g mX12_stock d n0 nf post n 2 [some (.ref 133), some (.int v1), some (.int v2)] [.int v1, .ref 133] X) : Ev g mX12_stock d n0 nf post n 0 [some (.ref 133), some (.int v1), some (.int v2)] [] X := by
  refine ev_aload_n dX12_stock_0 rfl ?_
  refine ev_iload_n dX12_stock_1 rfl ?_
  exact k
theorem bX12_stock_5_0 {g : GG} {d n0 nf : Nat} {post : Option Value → LX → Prop} {n : Nat} {X : LX} (hn : 146 ≤ n) (hX : Sh n X) {v1 : Int32} {v2 : Int32} {s0 : Int32} (c0 : ¬ s0 = 0) (k : Ev g mX12_stock d n0 nf post n 11 [some (.ref 133), some (.int v1), some (.int v2)] [.int 4, .int 0, .int v2] X) : Ev g mX12_stock d n0 nf post n 5 [some (.ref 133), some (.int v1), some (.int v2)] [.int s0] X := by
  refine ev_ifF (tgt := 17) dX12_stock_5 (by decide) c0 ?_
  refine ev_iload_n dX12_stock_8 rfl ?_
  refine ev_iconst (v := 0) dX12_stock_9 ki_0 ?_
  refine ev_iconst (v := 4) dX12_stock_10 ki_4 ?_
  exact k
theorem bX12_stock_5_1 {g : GG} {d n0 nf : Nat} {post : Option Value → LX → Prop} {n : Nat} {X : LX} (hn : 146 ≤ nf) (hX : Sh nf X) {v1 : Int32} {v2 : Int32} {s0 : Int32} (c0 : s0 = 0) (hp : post (some (.int (-1000000001))) X) : Ev g mX12_stock d n0 nf post nf 5 [some (.ref 133), some (.int v1), some (.int v2)] [.int s0] X := by
  refine ev_ifT (tgt := 17) dX12_stock_5 (by decide) c0 ?_
  refine ev_ldc (v := (-1000000001)) dX12_stock_17 kw_12_57 ?_
  exact ev_iret dX12_stock_19 rfl rfl hp
theorem bX12_stock_14_0 {g : GG} {d n0 nf : Nat} {post : Option Value → LX → Prop} {n : Nat} {X : LX} (hn : 146 ≤ nf) (hX : Sh nf X) {v1 : Int32} {v2 : Int32} {s0 : Int32} (c0 : s0 = 0) (hp : post (some (.int (-1000000001))) X) : Ev g mX12_stock d n0 nf post nf 14 [some (.ref 133), some (.int v1), some (.int v2)] [.int s0] X := by
  refine ev_ifF (tgt := 20) dX12_stock_14 (by decide) c0 ?_
  refine ev_ldc (v := (-1000000001)) dX12_stock_17 kw_12_57 ?_
  exact ev_iret dX12_stock_19 rfl rfl hp
theorem bX12_stock_14_1 {g : GG} {d n0 nf : Nat} {post : Option Value → LX → Prop} {n : Nat} {X : LX} (hn : 146 ≤ n) (hX : Sh n X) {v1 : Int32} {v2 : Int32} {s0 : Int32} (c0 : ¬ s0 = 0) (c1 : v2 = 1) (k : Ev g mX12_stock d n0 nf post n 26 [some (.ref 133), some (.int v1), some (.int v2)] [.ref 133] X) : Ev g mX12_stock d n0 nf post n 14 [some (.ref 133), some (.int v1), some (.int v2)] [.int s0] X := by
  refine ev_ifT (tgt := 20) dX12_stock_14 (by decide) c0 ?_
  refine ev_iload_n dX12_stock_20 rfl ?_
  refine ev_iconst (v := 1) dX12_stock_21 ki_1 ?_
  refine ev_icmpF (tgt := 35) dX12_stock_22 (by decide) c1 ?_
  refine ev_aload_n dX12_stock_25 rfl ?_
  exact k
theorem bX12_stock_14_2 {g : GG} {d n0 nf : Nat} {post : Option Value → LX → Prop} {n : Nat} {X : LX} (hn : 146 ≤ n) (hX : Sh n X) {v1 : Int32} {v2 : Int32} {s0 : Int32} (c0 : ¬ s0 = 0) (c1 : ¬ v2 = 1) (c2 : v2 = 0) (k : Ev g mX12_stock d n0 nf post n 41 [some (.ref 133), some (.int v1), some (.int v2)] [.int v1, .ref 133] X) : Ev g mX12_stock d n0 nf post n 14 [some (.ref 133), some (.int v1), some (.int v2)] [.int s0] X := by
  refine ev_ifT (tgt := 20) dX12_stock_14 (by decide) c0 ?_
  refine ev_iload_n dX12_stock_20 rfl ?_
  refine ev_iconst (v := 1) dX12_stock_21 ki_1 ?_
  refine ev_icmpT (tgt := 35) dX12_stock_22 (by decide) c1 ?_
  refine ev_iload_n dX12_stock_35 rfl ?_
  refine ev_ifF (tgt := 47) dX12_stock_36 (by decide) c2 ?_
  refine ev_aload_n dX12_stock_39 rfl ?_
  refine ev_iload_n dX12_stock_40 rfl ?_
  exact k
theorem bX12_stock_14_3 {g : GG} {d n0 nf : Nat} {post : Option Value → LX → Prop} {n : Nat} {X : LX} (hn : 146 ≤ n) (hX : Sh n X) {v1 : Int32} {v2 : Int32} {s0 : Int32} (c0 : ¬ s0 = 0) (c1 : ¬ v2 = 1) (c2 : ¬ v2 = 0) (k : Ev g mX12_stock d n0 nf post n 57 [some (.ref 133), some (.int v1), some (.int v2)] [.int ((5 + v2) - 2), .int v1, .ref 134] X) : Ev g mX12_stock d n0 nf post n 14 [some (.ref 133), some (.int v1), some (.int v2)] [.int s0] X := by
  refine ev_ifT (tgt := 20) dX12_stock_14 (by decide) c0 ?_
  refine ev_iload_n dX12_stock_20 rfl ?_
  refine ev_iconst (v := 1) dX12_stock_21 ki_1 ?_
  refine ev_icmpT (tgt := 35) dX12_stock_22 (by decide) c1 ?_
  refine ev_iload_n dX12_stock_35 rfl ?_
  refine ev_ifT (tgt := 47) dX12_stock_36 (by decide) c2 ?_
  refine ev_aload_n dX12_stock_47 rfl ?_
  refine ev_getS (q := 134) dX12_stock_48 fo_12_9 (by omega) lo_133 rfl (sh_133_0 hX (by omega)) (by decide) ?_
  refine ev_iload_n dX12_stock_51 rfl ?_
  refine ev_iconst (v := 5) dX12_stock_52 ki_5 ?_
  refine ev_iload_n dX12_stock_53 rfl ?_
  refine ev_iadd dX12_stock_54 ?_
  refine ev_iconst (v := 2) dX12_stock_55 ki_2 ?_
  refine ev_isub dX12_stock_56 ?_
  exact k
theorem bX12_stock_29_0 {g : GG} {d n0 nf : Nat} {post : Option Value → LX → Prop} {n : Nat} {X : LX} (hn : 146 ≤ n) (hX : Sh n X) {v1 : Int32} {v2 : Int32} (k : Ev g mX12_stock d n0 nf post n 31 [some (.ref 133), some (.int v1), some (.int v2)] [.int v1, .ref 133] X) : Ev g mX12_stock d n0 nf post n 29 [some (.ref 133), some (.int v1), some (.int v2)] [] X := by
  refine ev_aload_n dX12_stock_29 rfl ?_
  refine ev_iload_n dX12_stock_30 rfl ?_
  exact k
theorem bX12_stock_34_0 {g : GG} {d n0 nf : Nat} {post : Option Value → LX → Prop} {n : Nat} {X : LX} (hn : 146 ≤ nf) (hX : Sh nf X) {v1 : Int32} {v2 : Int32} {s0 : Int32} (hp : post (some (.int s0)) X) : Ev g mX12_stock d n0 nf post nf 34 [some (.ref 133), some (.int v1), some (.int v2)] [.int s0] X := by
  exact ev_iret dX12_stock_34 rfl rfl hp
theorem bX12_stock_44_0 {g : GG} {d n0 nf : Nat} {post : Option Value → LX → Prop} {n : Nat} {X : LX} (hn : 146 ≤ nf) (hX : Sh nf X) {v1 : Int32} {v2 : Int32} {s0 : Int32} (hp : post (some (.int s0)) X) : Ev g mX12_stock d n0 nf post nf 44 [some (.ref 133), some (.int v1), some (.int v2)] [.int s0] X := by
  refine ev_goto (tgt := 61) dX12_stock_44 (by decide) ?_
  exact ev_iret dX12_stock_61 rfl rfl hp
theorem bX12_stock_60_0 {g : GG} {d n0 nf : Nat} {post : Option Value → LX → Prop} {n : Nat} {X : LX} (hn : 146 ≤ nf) (hX : Sh nf X) {v1 : Int32} {v2 : Int32} {s1 : Nat} (b0 : s1 < 2156) (hp : post (some (.int (X 134 s1))) X) : Ev g mX12_stock d n0 nf post nf 60 [some (.ref 133), some (.int v1), some (.int v2)] [.int (nI s1), .ref 134] X := by
  refine ev_iald dX12_stock_60 (by omega) ly_134 rfl b0 ?_
  exact ev_iret dX12_stock_61 rfl rfl hp
theorem bX12_moves_0_0 {g : GG} {d n0 nf : Nat} {post : Option Value → LX → Prop} {n : Nat} {X : LX} (hn : 146 ≤ nf) (hX : Sh nf X) {v1 : Int32} {v2 : Int32} {v3 : Int32} {j1 : Nat} {j2 : Nat} {j3 : Nat} (hj1 : (14 * v1) + v2 = nI j1) (b0 : j1 < 168) (hj2 : (14 * v1) + v3 = nI j2) (b1 : j2 < 168) (hj3 : (14 * v1) + v2 = nI j3) (b2 : j3 < 168) (hp : post none (lx_up (lx_up X 140 j2 (X 140 j1)) 140 j3 0)) : Ev g mX12_moves d n0 nf post nf 0 [some (.ref 133), some (.int v1), some (.int v2), some (.int v3)] [] X := by
  refine ev_aload_n dX12_moves_0 rfl ?_
  refine ev_getS (q := 140) dX12_moves_1 fo_12_28 (by omega) lo_133 rfl (sh_133_9 hX (by omega)) (by decide) ?_
  refine ev_bipush (v := 14) dX12_moves_4 kb_14 ?_
  refine ev_iload_n dX12_moves_6 rfl ?_
  refine ev_imul dX12_moves_7 ?_
  refine ev_iload_n dX12_moves_8 rfl ?_
  refine ev_iadd dX12_moves_9 ?_
  refine ev_aload_n dX12_moves_10 rfl ?_
  refine ev_getS (q := 140) dX12_moves_11 fo_12_28 (by omega) lo_133 rfl (sh_133_9 hX (by omega)) (by decide) ?_
  refine ev_bipush (v := 14) dX12_moves_14 kb_14 ?_
  refine ev_iload_n dX12_moves_16 rfl ?_
  refine ev_imul dX12_moves_17 ?_
  refine ev_iload_n dX12_moves_18 rfl ?_
  refine ev_iadd dX12_moves_19 ?_
  refine ev_iald dX12_moves_20 (by omega) ly_140 hj1 b0 ?_
  refine ev_iast dX12_moves_21 (by omega) ly_140 hj2 b1 ?_
  have hX1 : Sh _ (lx_up X 140 j2 (X 140 j1)) := Sh.upA hX (by rw [ly_140]; exact (by decide : 0 < 2))
  refine ev_aload_n dX12_moves_22 rfl ?_
  refine ev_getS (q := 140) dX12_moves_23 fo_12_28 (by omega) lo_133 rfl (sh_133_9 hX1 (by omega)) (by decide) ?_
  refine ev_bipush (v := 14) dX12_moves_26 kb_14 ?_
  refine ev_iload_n dX12_moves_28 rfl ?_
  refine ev_imul dX12_moves_29 ?_
  refine ev_iload_n dX12_moves_30 rfl ?_
  refine ev_iadd dX12_moves_31 ?_
  refine ev_iconst (v := 0) dX12_moves_32 ki_0 ?_
  refine ev_iast dX12_moves_33 (by omega) ly_140 hj3 b2 ?_
  have hX2 : Sh _ (lx_up (lx_up X 140 j2 (X 140 j1)) 140 j3 0) := Sh.upA hX1 (by rw [ly_140]; exact (by decide : 0 < 2))
  exact ev_ret dX12_moves_34 rfl hp
theorem bX12_maySwap_0_0 {g : GG} {d n0 nf : Nat} {post : Option Value → LX → Prop} {n : Nat} {X : LX} (hn : 146 ≤ n) (hX : Sh n X) {v1 : Int32} {v2 : Int32} {v3 : Int32} {j1 : Nat} {j2 : Nat} (hj1 : (14 * v1) + v2 = nI j1) (b0 : j1 < 168) (c0 : ¬ X 140 j1 ≤ 0) (hj2 : (14 * v1) + v3 = nI j2) (b1 : j2 < 168) (c1 : X 140 j2 = 0) (k : Ev g mX12_maySwap d n0 nf post n 41 [some (.ref 133), some (.int v1), some (.int v2), some (.int v3), some (.int 1), none] [.int 3, .int v2, .ref 134] X) : Ev g mX12_maySwap d n0 nf post n 0 [some (.ref 133), some (.int v1), some (.int v2), some (.int v3), none, none] [] X := by
  refine ev_aload_n dX12_maySwap_0 rfl ?_
  refine ev_getS (q := 140) dX12_maySwap_1 fo_12_28 (by omega) lo_133 rfl (sh_133_9 hX (by omega)) (by decide) ?_
  refine ev_bipush (v := 14) dX12_maySwap_4 kb_14 ?_
  refine ev_iload_n dX12_maySwap_6 rfl ?_
  refine ev_imul dX12_maySwap_7 ?_
  refine ev_iload_n dX12_maySwap_8 rfl ?_
  refine ev_iadd dX12_maySwap_9 ?_
  refine ev_iald dX12_maySwap_10 (by omega) ly_140 hj1 b0 ?_
  refine ev_ifF (tgt := 32) dX12_maySwap_11 (by decide) c0 ?_
  refine ev_aload_n dX12_maySwap_14 rfl ?_
  refine ev_getS (q := 140) dX12_maySwap_15 fo_12_28 (by omega) lo_133 rfl (sh_133_9 hX (by omega)) (by decide) ?_
  refine ev_bipush (v := 14) dX12_maySwap_18 kb_14 ?_
  refine ev_iload_n dX12_maySwap_20 rfl ?_
  refine ev_imul dX12_maySwap_21 ?_
  refine ev_iload_n dX12_maySwap_22 rfl ?_
  refine ev_iadd dX12_maySwap_23 ?_
  refine ev_iald dX12_maySwap_24 (by omega) ly_140 hj2 b1 ?_
  refine ev_ifF (tgt := 32) dX12_maySwap_25 (by decide) c1 ?_
  refine ev_iconst (v := 1) dX12_maySwap_28 ki_1 ?_
  refine ev_goto (tgt := 33) dX12_maySwap_29 (by decide) ?_
  refine ev_istore dX12_maySwap_33 (by decide) ?_
  refine ev_aload_n dX12_maySwap_35 rfl ?_
  refine ev_getS (q := 134) dX12_maySwap_36 fo_12_9 (by omega) lo_133 rfl (sh_133_0 hX (by omega)) (by decide) ?_
  refine ev_iload_n dX12_maySwap_39 rfl ?_
  refine ev_iconst (v := 3) dX12_maySwap_40 ki_3 ?_
  exact k
theorem bX12_maySwap_0_1 {g : GG} {d n0 nf : Nat} {post : Option Value → LX → Prop} {n : Nat} {X : LX} (hn : 146 ≤ n) (hX : Sh n X) {v1 : Int32} {v2 : Int32} {v3 : Int32} {j1 : Nat} {j2 : Nat} (hj1 : (14 * v1) + v2 = nI j1) (b0 : j1 < 168) (c0 : ¬ X 140 j1 ≤ 0) (hj2 : (14 * v1) + v3 = nI j2) (b1 : j2 < 168) (c1 : ¬ X 140 j2 = 0) (k : Ev g mX12_maySwap d n0 nf post n 41 [some (.ref 133), some (.int v1), some (.int v2), some (.int v3), some (.int 0), none] [.int 3, .int v2, .ref 134] X) : Ev g mX12_maySwap d n0 nf post n 0 [some (.ref 133), some (.int v1), some (.int v2), some (.int v3), none, none] [] X := by
  refine ev_aload_n dX12_maySwap_0 rfl ?_
  refine ev_getS (q := 140) dX12_maySwap_1 fo_12_28 (by omega) lo_133 rfl (sh_133_9 hX (by omega)) (by decide) ?_
  refine ev_bipush (v := 14) dX12_maySwap_4 kb_14 ?_
  refine ev_iload_n dX12_maySwap_6 rfl ?_
  refine ev_imul dX12_maySwap_7 ?_
  refine ev_iload_n dX12_maySwap_8 rfl ?_
  refine ev_iadd dX12_maySwap_9 ?_
  refine ev_iald dX12_maySwap_10 (by omega) ly_140 hj1 b0 ?_
  refine ev_ifF (tgt := 32) dX12_maySwap_11 (by decide) c0 ?_
  refine ev_aload_n dX12_maySwap_14 rfl ?_
  refine ev_getS (q := 140) dX12_maySwap_15 fo_12_28 (by omega) lo_133 rfl (sh_133_9 hX (by omega)) (by decide) ?_
  refine ev_bipush (v := 14) dX12_maySwap_18 kb_14 ?_
  refine ev_iload_n dX12_maySwap_20 rfl ?_
  refine ev_imul dX12_maySwap_21 ?_
  refine ev_iload_n dX12_maySwap_22 rfl ?_
  refine ev_iadd dX12_maySwap_23 ?_
  refine ev_iald dX12_maySwap_24 (by omega) ly_140 hj2 b1 ?_
  refine ev_ifT (tgt := 32) dX12_maySwap_25 (by decide) c1 ?_
  refine ev_iconst (v := 0) dX12_maySwap_32 ki_0 ?_
  refine ev_istore dX12_maySwap_33 (by decide) ?_
  refine ev_aload_n dX12_maySwap_35 rfl ?_
  refine ev_getS (q := 134) dX12_maySwap_36 fo_12_9 (by omega) lo_133 rfl (sh_133_0 hX (by omega)) (by decide) ?_
  refine ev_iload_n dX12_maySwap_39 rfl ?_
  refine ev_iconst (v := 3) dX12_maySwap_40 ki_3 ?_
  exact k
theorem bX12_maySwap_0_2 {g : GG} {d n0 nf : Nat} {post : Option Value → LX → Prop} {n : Nat} {X : LX} (hn : 146 ≤ n) (hX : Sh n X) {v1 : Int32} {v2 : Int32} {v3 : Int32} {j1 : Nat} (hj1 : (14 * v1) + v2 = nI j1) (b0 : j1 < 168) (c0 : X 140 j1 ≤ 0) (k : Ev g mX12_maySwap d n0 nf post n 41 [some (.ref 133), some (.int v1), some (.int v2), some (.int v3), some (.int 0), none] [.int 3, .int v2, .ref 134] X) : Ev g mX12_maySwap d n0 nf post n 0 [some (.ref 133), some (.int v1), some (.int v2), some (.int v3), none, none] [] X := by
  refine ev_aload_n dX12_maySwap_0 rfl ?_
  refine ev_getS (q := 140) dX12_maySwap_1 fo_12_28 (by omega) lo_133 rfl (sh_133_9 hX (by omega)) (by decide) ?_
  refine ev_bipush (v := 14) dX12_maySwap_4 kb_14 ?_
  refine ev_iload_n dX12_maySwap_6 rfl ?_
  refine ev_imul dX12_maySwap_7 ?_
  refine ev_iload_n dX12_maySwap_8 rfl ?_
  refine ev_iadd dX12_maySwap_9 ?_
  refine ev_iald dX12_maySwap_10 (by omega) ly_140 hj1 b0 ?_
  refine ev_ifT (tgt := 32) dX12_maySwap_11 (by decide) c0 ?_
  refine ev_iconst (v := 0) dX12_maySwap_32 ki_0 ?_
  refine ev_istore dX12_maySwap_33 (by decide) ?_
  refine ev_aload_n dX12_maySwap_35 rfl ?_
  refine ev_getS (q := 134) dX12_maySwap_36 fo_12_9 (by omega) lo_133 rfl (sh_133_0 hX (by omega)) (by decide) ?_
  refine ev_iload_n dX12_maySwap_39 rfl ?_
  refine ev_iconst (v := 3) dX12_maySwap_40 ki_3 ?_
  exact k
theorem bX12_maySwap_44_0 {g : GG} {d n0 nf : Nat} {post : Option Value → LX → Prop} {n : Nat} {X : LX} (hn : 146 ≤ n) (hX : Sh n X) {v1 : Int32} {v2 : Int32} {v3 : Int32} {v4 : Int32} {s1 : Nat} (b0 : s1 < 2156) (k : Ev g mX12_maySwap d n0 nf post n 51 [some (.ref 133), some (.int v1), some (.int v2), some (.int v3), some (.int v4), none] [.int 3, .int v3, .ref 134, .int (X 134 s1)] X) : Ev g mX12_maySwap d n0 nf post n 44 [some (.ref 133), some (.int v1), some (.int v2), some (.int v3), some (.int v4), none] [.int (nI s1), .ref 134] X := by
  refine ev_iald dX12_maySwap_44 (by omega) ly_134 rfl b0 ?_
  refine ev_aload_n dX12_maySwap_45 rfl ?_
  refine ev_getS (q := 134) dX12_maySwap_46 fo_12_9 (by omega) lo_133 rfl (sh_133_0 hX (by omega)) (by decide) ?_
  refine ev_iload_n dX12_maySwap_49 rfl ?_
  refine ev_iconst (v := 3) dX12_maySwap_50 ki_3 ?_
  exact k
theorem bX12_maySwap_54_0 {g : GG} {d n0 nf : Nat} {post : Option Value → LX → Prop} {n : Nat} {X : LX} (hn : 146 ≤ n) (hX : Sh n X) {v1 : Int32} {v2 : Int32} {v3 : Int32} {v4 : Int32} {s0 : Int32} {s2 : Nat} (b0 : s2 < 2156) (c0 : s0 = X 134 s2) (c1 : ¬ v4 = 0) (k : Ev g mX12_maySwap d n0 nf post n 81 [some (.ref 133), some (.int v1), some (.int v2), some (.int v3), some (.int v4), some (.int 1)] [.int 0, .int v3, .ref 134] X) : Ev g mX12_maySwap d n0 nf post n 54 [some (.ref 133), some (.int v1), some (.int v2), some (.int v3), some (.int v4), none] [.int (nI s2), .ref 134, .int s0] X := by
  refine ev_iald dX12_maySwap_54 (by omega) ly_134 rfl b0 ?_
  refine ev_icmpF (tgt := 62) dX12_maySwap_55 (by decide) c0 ?_
  refine ev_iconst (v := 1) dX12_maySwap_58 ki_1 ?_
  refine ev_goto (tgt := 63) dX12_maySwap_59 (by decide) ?_
  refine ev_istore dX12_maySwap_63 (by decide) ?_
  refine ev_iload dX12_maySwap_65 rfl ?_
  refine ev_ifF (tgt := 103) dX12_maySwap_67 (by decide) c1 ?_
  refine ev_iload dX12_maySwap_70 rfl ?_
  refine ev_ifF (tgt := 103) dX12_maySwap_72 (by decide) (by show ¬ (1 : Int32) = 0; decide) ?_
  refine ev_aload_n dX12_maySwap_75 rfl ?_
  refine ev_getS (q := 134) dX12_maySwap_76 fo_12_9 (by omega) lo_133 rfl (sh_133_0 hX (by omega)) (by decide) ?_
  refine ev_iload_n dX12_maySwap_79 rfl ?_
  refine ev_iconst (v := 0) dX12_maySwap_80 ki_0 ?_
  exact k
theorem bX12_maySwap_54_1 {g : GG} {d n0 nf : Nat} {post : Option Value → LX → Prop} {n : Nat} {X : LX} (hn : 146 ≤ nf) (hX : Sh nf X) {v1 : Int32} {v2 : Int32} {v3 : Int32} {v4 : Int32} {s0 : Int32} {s2 : Nat} (b0 : s2 < 2156) (c0 : s0 = X 134 s2) (c1 : v4 = 0) (hp : post (some (.int 0)) X) : Ev g mX12_maySwap d n0 nf post nf 54 [some (.ref 133), some (.int v1), some (.int v2), some (.int v3), some (.int v4), none] [.int (nI s2), .ref 134, .int s0] X := by
  refine ev_iald dX12_maySwap_54 (by omega) ly_134 rfl b0 ?_
  refine ev_icmpF (tgt := 62) dX12_maySwap_55 (by decide) c0 ?_
  refine ev_iconst (v := 1) dX12_maySwap_58 ki_1 ?_
  refine ev_goto (tgt := 63) dX12_maySwap_59 (by decide) ?_
  refine ev_istore dX12_maySwap_63 (by decide) ?_
  refine ev_iload dX12_maySwap_65 rfl ?_
  refine ev_ifT (tgt := 103) dX12_maySwap_67 (by decide) c1 ?_
  refine ev_iconst (v := 0) dX12_maySwap_103 ki_0 ?_
  exact ev_iret dX12_maySwap_104 rfl (by decide) hp
theorem bX12_maySwap_54_2 {g : GG} {d n0 nf : Nat} {post : Option Value → LX → Prop} {n : Nat} {X : LX} (hn : 146 ≤ nf) (hX : Sh nf X) {v1 : Int32} {v2 : Int32} {v3 : Int32} {v4 : Int32} {s0 : Int32} {s2 : Nat} (b0 : s2 < 2156) (c0 : ¬ s0 = X 134 s2) (c1 : ¬ v4 = 0) (hp : post (some (.int 0)) X) : Ev g mX12_maySwap d n0 nf post nf 54 [some (.ref 133), some (.int v1), some (.int v2), some (.int v3), some (.int v4), none] [.int (nI s2), .ref 134, .int s0] X := by
  refine ev_iald dX12_maySwap_54 (by omega) ly_134 rfl b0 ?_
  refine ev_icmpT (tgt := 62) dX12_maySwap_55 (by decide) c0 ?_
  refine ev_iconst (v := 0) dX12_maySwap_62 ki_0 ?_
  refine ev_istore dX12_maySwap_63 (by decide) ?_
  refine ev_iload dX12_maySwap_65 rfl ?_
  refine ev_ifF (tgt := 103) dX12_maySwap_67 (by decide) c1 ?_
  refine ev_iload dX12_maySwap_70 rfl ?_
  refine ev_ifT (tgt := 103) dX12_maySwap_72 (by decide) (by show (0 : Int32) = 0; decide) ?_
  refine ev_iconst (v := 0) dX12_maySwap_103 ki_0 ?_
  exact ev_iret dX12_maySwap_104 rfl (by decide) hp
theorem bX12_maySwap_54_3 {g : GG} {d n0 nf : Nat} {post : Option Value → LX → Prop} {n : Nat} {X : LX} (hn : 146 ≤ nf) (hX : Sh nf X) {v1 : Int32} {v2 : Int32} {v3 : Int32} {v4 : Int32} {s0 : Int32} {s2 : Nat} (b0 : s2 < 2156) (c0 : ¬ s0 = X 134 s2) (c1 : v4 = 0) (hp : post (some (.int 0)) X) : Ev g mX12_maySwap d n0 nf post nf 54 [some (.ref 133), some (.int v1), some (.int v2), some (.int v3), some (.int v4), none] [.int (nI s2), .ref 134, .int s0] X := by
  refine ev_iald dX12_maySwap_54 (by omega) ly_134 rfl b0 ?_
  refine ev_icmpT (tgt := 62) dX12_maySwap_55 (by decide) c0 ?_
  refine ev_iconst (v := 0) dX12_maySwap_62 ki_0 ?_
  refine ev_istore dX12_maySwap_63 (by decide) ?_
  refine ev_iload dX12_maySwap_65 rfl ?_
  refine ev_ifT (tgt := 103) dX12_maySwap_67 (by decide) c1 ?_
  refine ev_iconst (v := 0) dX12_maySwap_103 ki_0 ?_
  exact ev_iret dX12_maySwap_104 rfl (by decide) hp
theorem bX12_maySwap_84_0 {g : GG} {d n0 nf : Nat} {post : Option Value → LX → Prop} {n : Nat} {X : LX} (hn : 146 ≤ n) (hX : Sh n X) {v1 : Int32} {v2 : Int32} {v3 : Int32} {v4 : Int32} {v5 : Int32} {s1 : Nat} (b0 : s1 < 2156) (k : Ev g mX12_maySwap d n0 nf post n 91 [some (.ref 133), some (.int v1), some (.int v2), some (.int v3), some (.int v4), some (.int v5)] [.int 0, .int v1, .ref 134, .int (X 134 s1)] X) : Ev g mX12_maySwap d n0 nf post n 84 [some (.ref 133), some (.int v1), some (.int v2), some (.int v3), some (.int v4), some (.int v5)] [.int (nI s1), .ref 134] X := by
  refine ev_iald dX12_maySwap_84 (by omega) ly_134 rfl b0 ?_
  refine ev_aload_n dX12_maySwap_85 rfl ?_
  refine ev_getS (q := 134) dX12_maySwap_86 fo_12_9 (by omega) lo_133 rfl (sh_133_0 hX (by omega)) (by decide) ?_
  refine ev_iload_n dX12_maySwap_89 rfl ?_
  refine ev_iconst (v := 0) dX12_maySwap_90 ki_0 ?_
  exact k
theorem bX12_maySwap_94_0 {g : GG} {d n0 nf : Nat} {post : Option Value → LX → Prop} {n : Nat} {X : LX} (hn : 146 ≤ nf) (hX : Sh nf X) {v1 : Int32} {v2 : Int32} {v3 : Int32} {v4 : Int32} {v5 : Int32} {s0 : Int32} {s2 : Nat} (b0 : s2 < 2156) (c0 : s0 &&& (X 134 s2) = 0) (hp : post (some (.int 1)) X) : Ev g mX12_maySwap d n0 nf post nf 94 [some (.ref 133), some (.int v1), some (.int v2), some (.int v3), some (.int v4), some (.int v5)] [.int (nI s2), .ref 134, .int s0] X := by
  refine ev_iald dX12_maySwap_94 (by omega) ly_134 rfl b0 ?_
  refine ev_iand dX12_maySwap_95 ?_
  refine ev_ifF (tgt := 103) dX12_maySwap_96 (by decide) c0 ?_
  refine ev_iconst (v := 1) dX12_maySwap_99 ki_1 ?_
  refine ev_goto (tgt := 104) dX12_maySwap_100 (by decide) ?_
  exact ev_iret dX12_maySwap_104 rfl (by decide) hp
theorem bX12_maySwap_94_1 {g : GG} {d n0 nf : Nat} {post : Option Value → LX → Prop} {n : Nat} {X : LX} (hn : 146 ≤ nf) (hX : Sh nf X) {v1 : Int32} {v2 : Int32} {v3 : Int32} {v4 : Int32} {v5 : Int32} {s0 : Int32} {s2 : Nat} (b0 : s2 < 2156) (c0 : ¬ s0 &&& (X 134 s2) = 0) (hp : post (some (.int 0)) X) : Ev g mX12_maySwap d n0 nf post nf 94 [some (.ref 133), some (.int v1), some (.int v2), some (.int v3), some (.int v4), some (.int v5)] [.int (nI s2), .ref 134, .int s0] X := by
  refine ev_iald dX12_maySwap_94 (by omega) ly_134 rfl b0 ?_
  refine ev_iand dX12_maySwap_95 ?_
  refine ev_ifT (tgt := 103) dX12_maySwap_96 (by decide) c0 ?_
  refine ev_iconst (v := 0) dX12_maySwap_103 ki_0 ?_
  exact ev_iret dX12_maySwap_104 rfl (by decide) hp
theorem bX12_isEnough_0_0 {g : GG} {d n0 nf : Nat} {post : Option Value → LX → Prop} {n : Nat} {X : LX} (hn : 146 ≤ n) (hX : Sh n X)  (k : Ev g mX12_isEnough d n0 nf post n 4 [some (.ref 133), some (.int 1), some (.int 0)] [] X) : Ev g mX12_isEnough d n0 nf post n 0 [some (.ref 133), none, none] [] X := by
  refine ev_iconst (v := 1) dX12_isEnough_0 ki_1 ?_
  refine ev_istore_n dX12_isEnough_1 (by decide) ?_
  refine ev_iconst (v := 0) dX12_isEnough_2 ki_0 ?_
  refine ev_istore_n dX12_isEnough_3 (by decide) ?_
  exact k
theorem bX12_isEnough_4_0 {g : GG} {d n0 nf : Nat} {post : Option Value → LX → Prop} {n : Nat} {X : LX} (hn : 146 ≤ n) (hX : Sh n X) {v1 : Int32} {v2 : Int32} (c0 : ¬ X 134 4 ≤ v2) (c1 : ¬ v1 = 0) (k : Ev g mX12_isEnough d n0 nf post n 20 [some (.ref 133), some (.int v1), some (.int v2)] [.int v2, .ref 133] X) : Ev g mX12_isEnough d n0 nf post n 4 [some (.ref 133), some (.int v1), some (.int v2)] [] X := by
  refine ev_iload_n dX12_isEnough_4 rfl ?_
  refine ev_aload_n dX12_isEnough_5 rfl ?_
  refine ev_getS (q := 134) dX12_isEnough_6 fo_12_9 (by omega) lo_133 rfl (sh_133_0 hX (by omega)) (by decide) ?_
  refine ev_iconst (v := 4) dX12_isEnough_9 ki_4 ?_
  refine ev_iald dX12_isEnough_10 (by omega) ly_134 nIl_4 (by decide) ?_
  refine ev_icmpF (tgt := 43) dX12_isEnough_11 (by decide) c0 ?_
  refine ev_iload_n dX12_isEnough_14 rfl ?_
  refine ev_ifF (tgt := 35) dX12_isEnough_15 (by decide) c1 ?_
  refine ev_aload_n dX12_isEnough_18 rfl ?_
  refine ev_iload_n dX12_isEnough_19 rfl ?_
  exact k
theorem bX12_isEnough_4_1 {g : GG} {d n0 nf : Nat} {post : Option Value → LX → Prop} {n : Nat} {X : LX} (hn : 146 ≤ n) (hX : Sh n X) {v1 : Int32} {v2 : Int32} (c0 : ¬ X 134 4 ≤ v2) (c1 : v1 = 0) (k : Ev g mX12_isEnough d n0 nf post n 4 [some (.ref 133), some (.int 0), some (.int (v2 + 1))] [] X) : Ev g mX12_isEnough d n0 nf post n 4 [some (.ref 133), some (.int v1), some (.int v2)] [] X := by
  refine ev_iload_n dX12_isEnough_4 rfl ?_
  refine ev_aload_n dX12_isEnough_5 rfl ?_
  refine ev_getS (q := 134) dX12_isEnough_6 fo_12_9 (by omega) lo_133 rfl (sh_133_0 hX (by omega)) (by decide) ?_
  refine ev_iconst (v := 4) dX12_isEnough_9 ki_4 ?_
  refine ev_iald dX12_isEnough_10 (by omega) ly_134 nIl_4 (by decide) ?_
  refine ev_icmpF (tgt := 43) dX12_isEnough_11 (by decide) c0 ?_
  refine ev_iload_n dX12_isEnough_14 rfl ?_
  refine ev_ifT (tgt := 35) dX12_isEnough_15 (by decide) c1 ?_
  refine ev_iconst (v := 0) dX12_isEnough_35 ki_0 ?_
  refine ev_istore_n dX12_isEnough_36 (by decide) ?_
  refine ev_iinc (v := v2 + 1) dX12_isEnough_37 rfl (by rw [show Int32.ofInt 1 = 1 from ki_1]) (by decide) ?_
  refine ev_goto (tgt := 4) dX12_isEnough_40 (by decide) ?_
  exact k
theorem bX12_isEnough_4_2 {g : GG} {d n0 nf : Nat} {post : Option Value → LX → Prop} {n : Nat} {X : LX} (hn : 146 ≤ nf) (hX : Sh nf X) {v1 : Int32} {v2 : Int32} (c0 : X 134 4 ≤ v2) (hz : v1 = 0 ∨ v1 = 1) (hp : post (some (.int v1)) X) : Ev g mX12_isEnough d n0 nf post nf 4 [some (.ref 133), some (.int v1), some (.int v2)] [] X := by
  refine ev_iload_n dX12_isEnough_4 rfl ?_
  refine ev_aload_n dX12_isEnough_5 rfl ?_
  refine ev_getS (q := 134) dX12_isEnough_6 fo_12_9 (by omega) lo_133 rfl (sh_133_0 hX (by omega)) (by decide) ?_
  refine ev_iconst (v := 4) dX12_isEnough_9 ki_4 ?_
  refine ev_iald dX12_isEnough_10 (by omega) ly_134 nIl_4 (by decide) ?_
  refine ev_icmpT (tgt := 43) dX12_isEnough_11 (by decide) c0 ?_
  refine ev_iload_n dX12_isEnough_43 rfl ?_
  exact ev_iret dX12_isEnough_44 rfl (nz_bool hz) hp
theorem bX12_isEnough_23_0 {g : GG} {d n0 nf : Nat} {post : Option Value → LX → Prop} {n : Nat} {X : LX} (hn : 146 ≤ n) (hX : Sh n X) {v1 : Int32} {v2 : Int32} {s0 : Int32} (k : Ev g mX12_isEnough d n0 nf post n 25 [some (.ref 133), some (.int v1), some (.int v2)] [.int v2, .ref 133, .int s0] X) : Ev g mX12_isEnough d n0 nf post n 23 [some (.ref 133), some (.int v1), some (.int v2)] [.int s0] X := by
  refine ev_aload_n dX12_isEnough_23 rfl ?_
  refine ev_iload_n dX12_isEnough_24 rfl ?_
  exact k
theorem bX12_isEnough_28_0 {g : GG} {d n0 nf : Nat} {post : Option Value → LX → Prop} {n : Nat} {X : LX} (hn : 146 ≤ n) (hX : Sh n X) {v1 : Int32} {v2 : Int32} {s0 : Int32} {s1 : Int32} (c0 : ¬ s1 < s0) (k : Ev g mX12_isEnough d n0 nf post n 4 [some (.ref 133), some (.int 1), some (.int (v2 + 1))] [] X) : Ev g mX12_isEnough d n0 nf post n 28 [some (.ref 133), some (.int v1), some (.int v2)] [.int s1, .int s0] X := by
  refine ev_icmpF (tgt := 35) dX12_isEnough_28 (by decide) c0 ?_
  refine ev_iconst (v := 1) dX12_isEnough_31 ki_1 ?_
  refine ev_goto (tgt := 36) dX12_isEnough_32 (by decide) ?_
  refine ev_istore_n dX12_isEnough_36 (by decide) ?_
  refine ev_iinc (v := v2 + 1) dX12_isEnough_37 rfl (by rw [show Int32.ofInt 1 = 1 from ki_1]) (by decide) ?_
  refine ev_goto (tgt := 4) dX12_isEnough_40 (by decide) ?_
  exact k
theorem bX12_isEnough_28_1 {g : GG} {d n0 nf : Nat} {post : Option Value → LX → Prop} {n : Nat} {X : LX} (hn : 146 ≤ n) (hX : Sh n X) {v1 : Int32} {v2 : Int32} {s0 : Int32} {s1 : Int32} (c0 : s1 < s0) (k : Ev g mX12_isEnough d n0 nf post n 4 [some (.ref 133), some (.int 0), some (.int (v2 + 1))] [] X) : Ev g mX12_isEnough d n0 nf post n 28 [some (.ref 133), some (.int v1), some (.int v2)] [.int s1, .int s0] X := by
  refine ev_icmpT (tgt := 35) dX12_isEnough_28 (by decide) c0 ?_
  refine ev_iconst (v := 0) dX12_isEnough_35 ki_0 ?_
  refine ev_istore_n dX12_isEnough_36 (by decide) ?_
  refine ev_iinc (v := v2 + 1) dX12_isEnough_37 rfl (by rw [show Int32.ofInt 1 = 1 from ki_1]) (by decide) ?_
  refine ev_goto (tgt := 4) dX12_isEnough_40 (by decide) ?_
  exact k
theorem bX12_planFrom_0_0 {g : GG} {d n0 nf : Nat} {post : Option Value → LX → Prop} {n : Nat} {X : LX} (hn : 146 ≤ nf) (hX : Sh nf X) {v1 : Int32} {v2 : Int32} {v3 : Int32} (c0 : ¬ X 133 28 < 0) (c1 : ¬ X 133 28 < v2) (c2 : v2 = X 133 28) (c3 : ¬ v3 < X 133 29) (hp : post none X) : Ev g mX12_planFrom d n0 nf post nf 0 [some (.ref 133), some (.int v1), some (.int v2), some (.int v3), none, none] [] X := by
  refine ev_aload_n dX12_planFrom_0 rfl ?_
  refine ev_getI dX12_planFrom_1 fo_12_273 (by omega) lo_133 rfl ?_
  refine ev_ifF (tgt := 32) dX12_planFrom_4 (by decide) c0 ?_
  refine ev_iload_n dX12_planFrom_7 rfl ?_
  refine ev_aload_n dX12_planFrom_8 rfl ?_
  refine ev_getI dX12_planFrom_9 fo_12_273 (by omega) lo_133 rfl ?_
  refine ev_icmpF (tgt := 31) dX12_planFrom_12 (by decide) c1 ?_
  refine ev_iload_n dX12_planFrom_15 rfl ?_
  refine ev_aload_n dX12_planFrom_16 rfl ?_
  refine ev_getI dX12_planFrom_17 fo_12_273 (by omega) lo_133 rfl ?_
  refine ev_icmpF (tgt := 32) dX12_planFrom_20 (by decide) c2 ?_
  refine ev_iload_n dX12_planFrom_23 rfl ?_
  refine ev_aload_n dX12_planFrom_24 rfl ?_
  refine ev_getI dX12_planFrom_25 fo_12_276 (by omega) lo_133 rfl ?_
  refine ev_icmpF (tgt := 32) dX12_planFrom_28 (by decide) c3 ?_
  exact ev_ret dX12_planFrom_31 rfl hp
theorem bX12_planFrom_0_1 {g : GG} {d n0 nf : Nat} {post : Option Value → LX → Prop} {n : Nat} {X : LX} (hn : 146 ≤ n) (hX : Sh n X) {v1 : Int32} {v2 : Int32} {v3 : Int32} (c0 : ¬ X 133 28 < 0) (c1 : ¬ X 133 28 < v2) (c2 : v2 = X 133 28) (c3 : v3 < X 133 29) (c4 : v1 = X 134 6) (k : Ev g mX12_planFrom d n0 nf post n 44 [some (.ref 133), some (.int v1), some (.int v2), some (.int v3), none, none] [.ref 133] X) : Ev g mX12_planFrom d n0 nf post n 0 [some (.ref 133), some (.int v1), some (.int v2), some (.int v3), none, none] [] X := by
  refine ev_aload_n dX12_planFrom_0 rfl ?_
  refine ev_getI dX12_planFrom_1 fo_12_273 (by omega) lo_133 rfl ?_
  refine ev_ifF (tgt := 32) dX12_planFrom_4 (by decide) c0 ?_
  refine ev_iload_n dX12_planFrom_7 rfl ?_
  refine ev_aload_n dX12_planFrom_8 rfl ?_
  refine ev_getI dX12_planFrom_9 fo_12_273 (by omega) lo_133 rfl ?_
  refine ev_icmpF (tgt := 31) dX12_planFrom_12 (by decide) c1 ?_
  refine ev_iload_n dX12_planFrom_15 rfl ?_
  refine ev_aload_n dX12_planFrom_16 rfl ?_
  refine ev_getI dX12_planFrom_17 fo_12_273 (by omega) lo_133 rfl ?_
  refine ev_icmpF (tgt := 32) dX12_planFrom_20 (by decide) c2 ?_
  refine ev_iload_n dX12_planFrom_23 rfl ?_
  refine ev_aload_n dX12_planFrom_24 rfl ?_
  refine ev_getI dX12_planFrom_25 fo_12_276 (by omega) lo_133 rfl ?_
  refine ev_icmpT (tgt := 32) dX12_planFrom_28 (by decide) c3 ?_
  refine ev_iload_n dX12_planFrom_32 rfl ?_
  refine ev_aload_n dX12_planFrom_33 rfl ?_
  refine ev_getS (q := 134) dX12_planFrom_34 fo_12_9 (by omega) lo_133 rfl (sh_133_0 hX (by omega)) (by decide) ?_
  refine ev_bipush (v := 6) dX12_planFrom_37 kb_6 ?_
  refine ev_iald dX12_planFrom_39 (by omega) ly_134 nIl_6 (by decide) ?_
  refine ev_icmpF (tgt := 91) dX12_planFrom_40 (by decide) c4 ?_
  refine ev_aload_n dX12_planFrom_43 rfl ?_
  exact k
theorem bX12_planFrom_0_2 {g : GG} {d n0 nf : Nat} {post : Option Value → LX → Prop} {n : Nat} {X : LX} (hn : 146 ≤ n) (hX : Sh n X) {v1 : Int32} {v2 : Int32} {v3 : Int32} (c0 : ¬ X 133 28 < 0) (c1 : ¬ X 133 28 < v2) (c2 : v2 = X 133 28) (c3 : v3 < X 133 29) (c4 : ¬ v1 = X 134 6) (k : Ev g mX12_planFrom d n0 nf post n 97 [some (.ref 133), some (.int v1), some (.int v2), some (.int v3), none, none] [.int v3, .int v2, .int (v1 + 1), .ref 133] X) : Ev g mX12_planFrom d n0 nf post n 0 [some (.ref 133), some (.int v1), some (.int v2), some (.int v3), none, none] [] X := by
  refine ev_aload_n dX12_planFrom_0 rfl ?_
  refine ev_getI dX12_planFrom_1 fo_12_273 (by omega) lo_133 rfl ?_
  refine ev_ifF (tgt := 32) dX12_planFrom_4 (by decide) c0 ?_
  refine ev_iload_n dX12_planFrom_7 rfl ?_
  refine ev_aload_n dX12_planFrom_8 rfl ?_
  refine ev_getI dX12_planFrom_9 fo_12_273 (by omega) lo_133 rfl ?_
  refine ev_icmpF (tgt := 31) dX12_planFrom_12 (by decide) c1 ?_
  refine ev_iload_n dX12_planFrom_15 rfl ?_
  refine ev_aload_n dX12_planFrom_16 rfl ?_
  refine ev_getI dX12_planFrom_17 fo_12_273 (by omega) lo_133 rfl ?_
  refine ev_icmpF (tgt := 32) dX12_planFrom_20 (by decide) c2 ?_
  refine ev_iload_n dX12_planFrom_23 rfl ?_
  refine ev_aload_n dX12_planFrom_24 rfl ?_
  refine ev_getI dX12_planFrom_25 fo_12_276 (by omega) lo_133 rfl ?_
  refine ev_icmpT (tgt := 32) dX12_planFrom_28 (by decide) c3 ?_
  refine ev_iload_n dX12_planFrom_32 rfl ?_
  refine ev_aload_n dX12_planFrom_33 rfl ?_
  refine ev_getS (q := 134) dX12_planFrom_34 fo_12_9 (by omega) lo_133 rfl (sh_133_0 hX (by omega)) (by decide) ?_
  refine ev_bipush (v := 6) dX12_planFrom_37 kb_6 ?_
  refine ev_iald dX12_planFrom_39 (by omega) ly_134 nIl_6 (by decide) ?_
  refine ev_icmpT (tgt := 91) dX12_planFrom_40 (by decide) c4 ?_
  refine ev_aload_n dX12_planFrom_91 rfl ?_
  refine ev_iload_n dX12_planFrom_92 rfl ?_
  refine ev_iconst (v := 1) dX12_planFrom_93 ki_1 ?_
  refine ev_iadd dX12_planFrom_94 ?_
  refine ev_iload_n dX12_planFrom_95 rfl ?_
  refine ev_iload_n dX12_planFrom_96 rfl ?_
  exact k
theorem bX12_planFrom_0_3 {g : GG} {d n0 nf : Nat} {post : Option Value → LX → Prop} {n : Nat} {X : LX} (hn : 146 ≤ n) (hX : Sh n X) {v1 : Int32} {v2 : Int32} {v3 : Int32} (c0 : ¬ X 133 28 < 0) (c1 : ¬ X 133 28 < v2) (c2 : ¬ v2 = X 133 28) (c3 : v1 = X 134 6) (k : Ev g mX12_planFrom d n0 nf post n 44 [some (.ref 133), some (.int v1), some (.int v2), some (.int v3), none, none] [.ref 133] X) : Ev g mX12_planFrom d n0 nf post n 0 [some (.ref 133), some (.int v1), some (.int v2), some (.int v3), none, none] [] X := by
  refine ev_aload_n dX12_planFrom_0 rfl ?_
  refine ev_getI dX12_planFrom_1 fo_12_273 (by omega) lo_133 rfl ?_
  refine ev_ifF (tgt := 32) dX12_planFrom_4 (by decide) c0 ?_
  refine ev_iload_n dX12_planFrom_7 rfl ?_
  refine ev_aload_n dX12_planFrom_8 rfl ?_
  refine ev_getI dX12_planFrom_9 fo_12_273 (by omega) lo_133 rfl ?_
  refine ev_icmpF (tgt := 31) dX12_planFrom_12 (by decide) c1 ?_
  refine ev_iload_n dX12_planFrom_15 rfl ?_
  refine ev_aload_n dX12_planFrom_16 rfl ?_
  refine ev_getI dX12_planFrom_17 fo_12_273 (by omega) lo_133 rfl ?_
  refine ev_icmpT (tgt := 32) dX12_planFrom_20 (by decide) c2 ?_
  refine ev_iload_n dX12_planFrom_32 rfl ?_
  refine ev_aload_n dX12_planFrom_33 rfl ?_
  refine ev_getS (q := 134) dX12_planFrom_34 fo_12_9 (by omega) lo_133 rfl (sh_133_0 hX (by omega)) (by decide) ?_
  refine ev_bipush (v := 6) dX12_planFrom_37 kb_6 ?_
  refine ev_iald dX12_planFrom_39 (by omega) ly_134 nIl_6 (by decide) ?_
  refine ev_icmpF (tgt := 91) dX12_planFrom_40 (by decide) c3 ?_
  refine ev_aload_n dX12_planFrom_43 rfl ?_
  exact k
theorem bX12_planFrom_0_4 {g : GG} {d n0 nf : Nat} {post : Option Value → LX → Prop} {n : Nat} {X : LX} (hn : 146 ≤ n) (hX : Sh n X) {v1 : Int32} {v2 : Int32} {v3 : Int32} (c0 : ¬ X 133 28 < 0) (c1 : ¬ X 133 28 < v2) (c2 : ¬ v2 = X 133 28) (c3 : ¬ v1 = X 134 6) (k : Ev g mX12_planFrom d n0 nf post n 97 [some (.ref 133), some (.int v1), some (.int v2), some (.int v3), none, none] [.int v3, .int v2, .int (v1 + 1), .ref 133] X) : Ev g mX12_planFrom d n0 nf post n 0 [some (.ref 133), some (.int v1), some (.int v2), some (.int v3), none, none] [] X := by
  refine ev_aload_n dX12_planFrom_0 rfl ?_
  refine ev_getI dX12_planFrom_1 fo_12_273 (by omega) lo_133 rfl ?_
  refine ev_ifF (tgt := 32) dX12_planFrom_4 (by decide) c0 ?_
  refine ev_iload_n dX12_planFrom_7 rfl ?_
  refine ev_aload_n dX12_planFrom_8 rfl ?_
  refine ev_getI dX12_planFrom_9 fo_12_273 (by omega) lo_133 rfl ?_
  refine ev_icmpF (tgt := 31) dX12_planFrom_12 (by decide) c1 ?_
  refine ev_iload_n dX12_planFrom_15 rfl ?_
  refine ev_aload_n dX12_planFrom_16 rfl ?_
  refine ev_getI dX12_planFrom_17 fo_12_273 (by omega) lo_133 rfl ?_
  refine ev_icmpT (tgt := 32) dX12_planFrom_20 (by decide) c2 ?_
  refine ev_iload_n dX12_planFrom_32 rfl ?_
  refine ev_aload_n dX12_planFrom_33 rfl ?_
  refine ev_getS (q := 134) dX12_planFrom_34 fo_12_9 (by omega) lo_133 rfl (sh_133_0 hX (by omega)) (by decide) ?_
  refine ev_bipush (v := 6) dX12_planFrom_37 kb_6 ?_
  refine ev_iald dX12_planFrom_39 (by omega) ly_134 nIl_6 (by decide) ?_
  refine ev_icmpT (tgt := 91) dX12_planFrom_40 (by decide) c3 ?_
  refine ev_aload_n dX12_planFrom_91 rfl ?_
  refine ev_iload_n dX12_planFrom_92 rfl ?_
  refine ev_iconst (v := 1) dX12_planFrom_93 ki_1 ?_
  refine ev_iadd dX12_planFrom_94 ?_
  refine ev_iload_n dX12_planFrom_95 rfl ?_
  refine ev_iload_n dX12_planFrom_96 rfl ?_
  exact k
theorem bX12_planFrom_0_5 {g : GG} {d n0 nf : Nat} {post : Option Value → LX → Prop} {n : Nat} {X : LX} (hn : 146 ≤ nf) (hX : Sh nf X) {v1 : Int32} {v2 : Int32} {v3 : Int32} (c0 : ¬ X 133 28 < 0) (c1 : X 133 28 < v2) (hp : post none X) : Ev g mX12_planFrom d n0 nf post nf 0 [some (.ref 133), some (.int v1), some (.int v2), some (.int v3), none, none] [] X := by
  refine ev_aload_n dX12_planFrom_0 rfl ?_
  refine ev_getI dX12_planFrom_1 fo_12_273 (by omega) lo_133 rfl ?_
  refine ev_ifF (tgt := 32) dX12_planFrom_4 (by decide) c0 ?_
  refine ev_iload_n dX12_planFrom_7 rfl ?_
  refine ev_aload_n dX12_planFrom_8 rfl ?_
  refine ev_getI dX12_planFrom_9 fo_12_273 (by omega) lo_133 rfl ?_
  refine ev_icmpT (tgt := 31) dX12_planFrom_12 (by decide) c1 ?_
  exact ev_ret dX12_planFrom_31 rfl hp
theorem bX12_planFrom_0_6 {g : GG} {d n0 nf : Nat} {post : Option Value → LX → Prop} {n : Nat} {X : LX} (hn : 146 ≤ n) (hX : Sh n X) {v1 : Int32} {v2 : Int32} {v3 : Int32} (c0 : X 133 28 < 0) (c1 : v1 = X 134 6) (k : Ev g mX12_planFrom d n0 nf post n 44 [some (.ref 133), some (.int v1), some (.int v2), some (.int v3), none, none] [.ref 133] X) : Ev g mX12_planFrom d n0 nf post n 0 [some (.ref 133), some (.int v1), some (.int v2), some (.int v3), none, none] [] X := by
  refine ev_aload_n dX12_planFrom_0 rfl ?_
  refine ev_getI dX12_planFrom_1 fo_12_273 (by omega) lo_133 rfl ?_
  refine ev_ifT (tgt := 32) dX12_planFrom_4 (by decide) c0 ?_
  refine ev_iload_n dX12_planFrom_32 rfl ?_
  refine ev_aload_n dX12_planFrom_33 rfl ?_
  refine ev_getS (q := 134) dX12_planFrom_34 fo_12_9 (by omega) lo_133 rfl (sh_133_0 hX (by omega)) (by decide) ?_
  refine ev_bipush (v := 6) dX12_planFrom_37 kb_6 ?_
  refine ev_iald dX12_planFrom_39 (by omega) ly_134 nIl_6 (by decide) ?_
  refine ev_icmpF (tgt := 91) dX12_planFrom_40 (by decide) c1 ?_
  refine ev_aload_n dX12_planFrom_43 rfl ?_
  exact k
theorem bX12_planFrom_0_7 {g : GG} {d n0 nf : Nat} {post : Option Value → LX → Prop} {n : Nat} {X : LX} (hn : 146 ≤ n) (hX : Sh n X) {v1 : Int32} {v2 : Int32} {v3 : Int32} (c0 : X 133 28 < 0) (c1 : ¬ v1 = X 134 6) (k : Ev g mX12_planFrom d n0 nf post n 97 [some (.ref 133), some (.int v1), some (.int v2), some (.int v3), none, none] [.int v3, .int v2, .int (v1 + 1), .ref 133] X) : Ev g mX12_planFrom d n0 nf post n 0 [some (.ref 133), some (.int v1), some (.int v2), some (.int v3), none, none] [] X := by
  refine ev_aload_n dX12_planFrom_0 rfl ?_
  refine ev_getI dX12_planFrom_1 fo_12_273 (by omega) lo_133 rfl ?_
  refine ev_ifT (tgt := 32) dX12_planFrom_4 (by decide) c0 ?_
  refine ev_iload_n dX12_planFrom_32 rfl ?_
  refine ev_aload_n dX12_planFrom_33 rfl ?_
  refine ev_getS (q := 134) dX12_planFrom_34 fo_12_9 (by omega) lo_133 rfl (sh_133_0 hX (by omega)) (by decide) ?_
  refine ev_bipush (v := 6) dX12_planFrom_37 kb_6 ?_
  refine ev_iald dX12_planFrom_39 (by omega) ly_134 nIl_6 (by decide) ?_
  refine ev_icmpT (tgt := 91) dX12_planFrom_40 (by decide) c1 ?_
  refine ev_aload_n dX12_planFrom_91 rfl ?_
  refine ev_iload_n dX12_planFrom_92 rfl ?_
  refine ev_iconst (v := 1) dX12_planFrom_93 ki_1 ?_
  refine ev_iadd dX12_planFrom_94 ?_
  refine ev_iload_n dX12_planFrom_95 rfl ?_
  refine ev_iload_n dX12_planFrom_96 rfl ?_
  exact k
theorem bX12_planFrom_47_0 {g : GG} {d n0 nf : Nat} {post : Option Value → LX → Prop} {n : Nat} {X : LX} (hn : 146 ≤ n) (hX : Sh n X) {v1 : Int32} {v2 : Int32} {v3 : Int32} {s0 : Int32} (c0 : ¬ s0 = 0) (k : Ev g mX12_planFrom d n0 nf post n 63 [some (.ref 133), some (.int v1), some (.int v2), some (.int v3), some (.int 0), none] [] (lx_up (lx_up X 133 28 v2) 133 29 v3)) : Ev g mX12_planFrom d n0 nf post n 47 [some (.ref 133), some (.int v1), some (.int v2), some (.int v3), none, none] [.int s0] X := by
  refine ev_ifF (tgt := 90) dX12_planFrom_47 (by decide) c0 ?_
  refine ev_aload_n dX12_planFrom_50 rfl ?_
  refine ev_iload_n dX12_planFrom_51 rfl ?_
  refine ev_putI dX12_planFrom_52 fo_12_273 (by omega) lo_133 rfl rfl rfl ?_
  have hX1 : Sh _ (lx_up X 133 28 v2) := Sh.upF hX (by rw [lo_133]; decide) (by decide)
  refine ev_aload_n dX12_planFrom_55 rfl ?_
  refine ev_iload_n dX12_planFrom_56 rfl ?_
  refine ev_putI dX12_planFrom_57 fo_12_276 (by omega) lo_133 rfl rfl rfl ?_
  have hX2 : Sh _ (lx_up (lx_up X 133 28 v2) 133 29 v3) := Sh.upF hX1 (by rw [lo_133]; decide) (by decide)
  refine ev_iconst (v := 0) dX12_planFrom_60 ki_0 ?_
  refine ev_istore dX12_planFrom_61 (by decide) ?_
  exact k
theorem bX12_planFrom_47_1 {g : GG} {d n0 nf : Nat} {post : Option Value → LX → Prop} {n : Nat} {X : LX} (hn : 146 ≤ nf) (hX : Sh nf X) {v1 : Int32} {v2 : Int32} {v3 : Int32} {s0 : Int32} (c0 : s0 = 0) (hp : post none X) : Ev g mX12_planFrom d n0 nf post nf 47 [some (.ref 133), some (.int v1), some (.int v2), some (.int v3), none, none] [.int s0] X := by
  refine ev_ifT (tgt := 90) dX12_planFrom_47 (by decide) c0 ?_
  exact ev_ret dX12_planFrom_90 rfl hp
theorem bX12_planFrom_63_0 {g : GG} {d n0 nf : Nat} {post : Option Value → LX → Prop} {n : Nat} {X : LX} (hn : 146 ≤ n) (hX : Sh n X) {v1 : Int32} {v2 : Int32} {v3 : Int32} {v4 : Nat} (c0 : ¬ 12 ≤ nI v4) (b0 : v4 < 12) (b1 : v4 < 12) (k : Ev g mX12_planFrom d n0 nf post n 63 [some (.ref 133), some (.int v1), some (.int v2), some (.int v3), some (.int ((nI v4) + 1)), none] [] (lx_up X 144 v4 (X 143 v4))) : Ev g mX12_planFrom d n0 nf post n 63 [some (.ref 133), some (.int v1), some (.int v2), some (.int v3), some (.int (nI v4)), none] [] X := by
  refine ev_iload dX12_planFrom_63 rfl ?_
  refine ev_bipush (v := 12) dX12_planFrom_65 kb_12 ?_
  refine ev_icmpF (tgt := 90) dX12_planFrom_67 (by decide) c0 ?_
  refine ev_aload_n dX12_planFrom_70 rfl ?_
  refine ev_getS (q := 144) dX12_planFrom_71 fo_12_46 (by omega) lo_133 rfl (sh_133_27 hX (by omega)) (by decide) ?_
  refine ev_iload dX12_planFrom_74 rfl ?_
  refine ev_aload_n dX12_planFrom_76 rfl ?_
  refine ev_getS (q := 143) dX12_planFrom_77 fo_12_43 (by omega) lo_133 rfl (sh_133_26 hX (by omega)) (by decide) ?_
  refine ev_iload dX12_planFrom_80 rfl ?_
  refine ev_iald dX12_planFrom_82 (by omega) ly_143 rfl b0 ?_
  refine ev_iast dX12_planFrom_83 (by omega) ly_144 rfl b1 ?_
  have hX1 : Sh _ (lx_up X 144 v4 (X 143 v4)) := Sh.upA hX (by rw [ly_144]; exact (by decide : 0 < 2))
  refine ev_iinc (v := (nI v4) + 1) dX12_planFrom_84 rfl (by rw [show Int32.ofInt 1 = 1 from ki_1]) (by decide) ?_
  refine ev_goto (tgt := 63) dX12_planFrom_87 (by decide) ?_
  exact k
theorem bX12_planFrom_63_1 {g : GG} {d n0 nf : Nat} {post : Option Value → LX → Prop} {n : Nat} {X : LX} (hn : 146 ≤ nf) (hX : Sh nf X) {v1 : Int32} {v2 : Int32} {v3 : Int32} {v4 : Nat} (c0 : 12 ≤ nI v4) (hp : post none X) : Ev g mX12_planFrom d n0 nf post nf 63 [some (.ref 133), some (.int v1), some (.int v2), some (.int v3), some (.int (nI v4)), none] [] X := by
  refine ev_iload dX12_planFrom_63 rfl ?_
  refine ev_bipush (v := 12) dX12_planFrom_65 kb_12 ?_
  refine ev_icmpT (tgt := 90) dX12_planFrom_67 (by decide) c0 ?_
  exact ev_ret dX12_planFrom_90 rfl hp
theorem bX12_planFrom_100_0 {g : GG} {d n0 nf : Nat} {post : Option Value → LX → Prop} {n : Nat} {X : LX} (hn : 146 ≤ n) (hX : Sh n X) {v1 : Int32} {v2 : Int32} {v3 : Int32} (k : Ev g mX12_planFrom d n0 nf post n 103 [some (.ref 133), some (.int v1), some (.int v2), some (.int v3), some (.int 0), none] [] X) : Ev g mX12_planFrom d n0 nf post n 100 [some (.ref 133), some (.int v1), some (.int v2), some (.int v3), none, none] [] X := by
  refine ev_iconst (v := 0) dX12_planFrom_100 ki_0 ?_
  refine ev_istore dX12_planFrom_101 (by decide) ?_
  exact k
theorem bX12_planFrom_103_0 {g : GG} {d n0 nf : Nat} {post : Option Value → LX → Prop} {n : Nat} {X : LX} (hn : 146 ≤ n) (hX : Sh n X) {v1 : Int32} {v2 : Int32} {v3 : Int32} {v4 : Int32} (c0 : ¬ X 134 4 ≤ v4) (k : Ev g mX12_planFrom d n0 nf post n 117 [some (.ref 133), some (.int v1), some (.int v2), some (.int v3), some (.int v4), some (.int 0)] [] X) : Ev g mX12_planFrom d n0 nf post n 103 [some (.ref 133), some (.int v1), some (.int v2), some (.int v3), some (.int v4), none] [] X := by
  refine ev_iload dX12_planFrom_103 rfl ?_
  refine ev_aload_n dX12_planFrom_105 rfl ?_
  refine ev_getS (q := 134) dX12_planFrom_106 fo_12_9 (by omega) lo_133 rfl (sh_133_0 hX (by omega)) (by decide) ?_
  refine ev_iconst (v := 4) dX12_planFrom_109 ki_4 ?_
  refine ev_iald dX12_planFrom_110 (by omega) ly_134 nIl_4 (by decide) ?_
  refine ev_icmpF (tgt := 170) dX12_planFrom_111 (by decide) c0 ?_
  refine ev_iconst (v := 0) dX12_planFrom_114 ki_0 ?_
  refine ev_istore dX12_planFrom_115 (by decide) ?_
  exact k
theorem bX12_planFrom_103_1 {g : GG} {d n0 nf : Nat} {post : Option Value → LX → Prop} {n : Nat} {X : LX} (hn : 146 ≤ nf) (hX : Sh nf X) {v1 : Int32} {v2 : Int32} {v3 : Int32} {v4 : Int32} (c0 : X 134 4 ≤ v4) (hp : post none X) : Ev g mX12_planFrom d n0 nf post nf 103 [some (.ref 133), some (.int v1), some (.int v2), some (.int v3), some (.int v4), none] [] X := by
  refine ev_iload dX12_planFrom_103 rfl ?_
  refine ev_aload_n dX12_planFrom_105 rfl ?_
  refine ev_getS (q := 134) dX12_planFrom_106 fo_12_9 (by omega) lo_133 rfl (sh_133_0 hX (by omega)) (by decide) ?_
  refine ev_iconst (v := 4) dX12_planFrom_109 ki_4 ?_
  refine ev_iald dX12_planFrom_110 (by omega) ly_134 nIl_4 (by decide) ?_
  refine ev_icmpT (tgt := 170) dX12_planFrom_111 (by decide) c0 ?_
  exact ev_ret dX12_planFrom_170 rfl hp
theorem bX12_planFrom_117_0 {g : GG} {d n0 nf : Nat} {post : Option Value → LX → Prop} {n : Nat} {X : LX} (hn : 146 ≤ n) (hX : Sh n X) {v1 : Int32} {v2 : Int32} {v3 : Int32} {v4 : Int32} {v5 : Int32} (c0 : ¬ X 134 4 ≤ v5) (c1 : X 133 22 = 0) (k : Ev g mX12_planFrom d n0 nf post n 141 [some (.ref 133), some (.int v1), some (.int v2), some (.int v3), some (.int v4), some (.int v5)] [.int v5, .int v4, .int v1, .ref 133] X) : Ev g mX12_planFrom d n0 nf post n 117 [some (.ref 133), some (.int v1), some (.int v2), some (.int v3), some (.int v4), some (.int v5)] [] X := by
  refine ev_iload dX12_planFrom_117 rfl ?_
  refine ev_aload_n dX12_planFrom_119 rfl ?_
  refine ev_getS (q := 134) dX12_planFrom_120 fo_12_9 (by omega) lo_133 rfl (sh_133_0 hX (by omega)) (by decide) ?_
  refine ev_iconst (v := 4) dX12_planFrom_123 ki_4 ?_
  refine ev_iald dX12_planFrom_124 (by omega) ly_134 nIl_4 (by decide) ?_
  refine ev_icmpF (tgt := 164) dX12_planFrom_125 (by decide) c0 ?_
  refine ev_aload_n dX12_planFrom_128 rfl ?_
  refine ev_getI dX12_planFrom_129 fo_12_250 (by omega) lo_133 rfl ?_
  refine ev_ifF (tgt := 164) dX12_planFrom_132 (by decide) c1 ?_
  refine ev_aload_n dX12_planFrom_135 rfl ?_
  refine ev_iload_n dX12_planFrom_136 rfl ?_
  refine ev_iload dX12_planFrom_137 rfl ?_
  refine ev_iload dX12_planFrom_139 rfl ?_
  exact k
theorem bX12_planFrom_117_1 {g : GG} {d n0 nf : Nat} {post : Option Value → LX → Prop} {n : Nat} {X : LX} (hn : 146 ≤ n) (hX : Sh n X) {v1 : Int32} {v2 : Int32} {v3 : Int32} {v4 : Int32} {v5 : Int32} (c0 : ¬ X 134 4 ≤ v5) (c1 : ¬ X 133 22 = 0) (k : Ev g mX12_planFrom d n0 nf post n 103 [some (.ref 133), some (.int v1), some (.int v2), some (.int v3), some (.int (v4 + 1)), some (.int v5)] [] X) : Ev g mX12_planFrom d n0 nf post n 117 [some (.ref 133), some (.int v1), some (.int v2), some (.int v3), some (.int v4), some (.int v5)] [] X := by
  refine ev_iload dX12_planFrom_117 rfl ?_
  refine ev_aload_n dX12_planFrom_119 rfl ?_
  refine ev_getS (q := 134) dX12_planFrom_120 fo_12_9 (by omega) lo_133 rfl (sh_133_0 hX (by omega)) (by decide) ?_
  refine ev_iconst (v := 4) dX12_planFrom_123 ki_4 ?_
  refine ev_iald dX12_planFrom_124 (by omega) ly_134 nIl_4 (by decide) ?_
  refine ev_icmpF (tgt := 164) dX12_planFrom_125 (by decide) c0 ?_
  refine ev_aload_n dX12_planFrom_128 rfl ?_
  refine ev_getI dX12_planFrom_129 fo_12_250 (by omega) lo_133 rfl ?_
  refine ev_ifT (tgt := 164) dX12_planFrom_132 (by decide) c1 ?_
  refine ev_iinc (v := v4 + 1) dX12_planFrom_164 rfl (by rw [show Int32.ofInt 1 = 1 from ki_1]) (by decide) ?_
  refine ev_goto (tgt := 103) dX12_planFrom_167 (by decide) ?_
  exact k
theorem bX12_planFrom_117_2 {g : GG} {d n0 nf : Nat} {post : Option Value → LX → Prop} {n : Nat} {X : LX} (hn : 146 ≤ n) (hX : Sh n X) {v1 : Int32} {v2 : Int32} {v3 : Int32} {v4 : Int32} {v5 : Int32} (c0 : X 134 4 ≤ v5) (k : Ev g mX12_planFrom d n0 nf post n 103 [some (.ref 133), some (.int v1), some (.int v2), some (.int v3), some (.int (v4 + 1)), some (.int v5)] [] X) : Ev g mX12_planFrom d n0 nf post n 117 [some (.ref 133), some (.int v1), some (.int v2), some (.int v3), some (.int v4), some (.int v5)] [] X := by
  refine ev_iload dX12_planFrom_117 rfl ?_
  refine ev_aload_n dX12_planFrom_119 rfl ?_
  refine ev_getS (q := 134) dX12_planFrom_120 fo_12_9 (by omega) lo_133 rfl (sh_133_0 hX (by omega)) (by decide) ?_
  refine ev_iconst (v := 4) dX12_planFrom_123 ki_4 ?_
  refine ev_iald dX12_planFrom_124 (by omega) ly_134 nIl_4 (by decide) ?_
  refine ev_icmpT (tgt := 164) dX12_planFrom_125 (by decide) c0 ?_
  refine ev_iinc (v := v4 + 1) dX12_planFrom_164 rfl (by rw [show Int32.ofInt 1 = 1 from ki_1]) (by decide) ?_
  refine ev_goto (tgt := 103) dX12_planFrom_167 (by decide) ?_
  exact k
theorem bX12_planFrom_144_0 {g : GG} {d n0 nf : Nat} {post : Option Value → LX → Prop} {n : Nat} {X : LX} (hn : 146 ≤ n) (hX : Sh n X) {v1 : Int32} {v2 : Int32} {v3 : Int32} {v4 : Int32} {v5 : Int32} {s0 : Int32} (c0 : ¬ s0 = 0) (k : Ev g mX12_planFrom d n0 nf post n 155 [some (.ref 133), some (.int v1), some (.int v2), some (.int v3), some (.int v4), some (.int v5)] [.int v3, .int v2, .int v5, .int v4, .int v1, .ref 133] X) : Ev g mX12_planFrom d n0 nf post n 144 [some (.ref 133), some (.int v1), some (.int v2), some (.int v3), some (.int v4), some (.int v5)] [.int s0] X := by
  refine ev_ifF (tgt := 158) dX12_planFrom_144 (by decide) c0 ?_
  refine ev_aload_n dX12_planFrom_147 rfl ?_
  refine ev_iload_n dX12_planFrom_148 rfl ?_
  refine ev_iload dX12_planFrom_149 rfl ?_
  refine ev_iload dX12_planFrom_151 rfl ?_
  refine ev_iload_n dX12_planFrom_153 rfl ?_
  refine ev_iload_n dX12_planFrom_154 rfl ?_
  exact k
theorem bX12_planFrom_144_1 {g : GG} {d n0 nf : Nat} {post : Option Value → LX → Prop} {n : Nat} {X : LX} (hn : 146 ≤ n) (hX : Sh n X) {v1 : Int32} {v2 : Int32} {v3 : Int32} {v4 : Int32} {v5 : Int32} {s0 : Int32} (c0 : s0 = 0) (k : Ev g mX12_planFrom d n0 nf post n 117 [some (.ref 133), some (.int v1), some (.int v2), some (.int v3), some (.int v4), some (.int (v5 + 1))] [] X) : Ev g mX12_planFrom d n0 nf post n 144 [some (.ref 133), some (.int v1), some (.int v2), some (.int v3), some (.int v4), some (.int v5)] [.int s0] X := by
  refine ev_ifT (tgt := 158) dX12_planFrom_144 (by decide) c0 ?_
  refine ev_iinc (v := v5 + 1) dX12_planFrom_158 rfl (by rw [show Int32.ofInt 1 = 1 from ki_1]) (by decide) ?_
  refine ev_goto (tgt := 117) dX12_planFrom_161 (by decide) ?_
  exact k
theorem bX12_planFrom_158_0 {g : GG} {d n0 nf : Nat} {post : Option Value → LX → Prop} {n : Nat} {X : LX} (hn : 146 ≤ n) (hX : Sh n X) {v1 : Int32} {v2 : Int32} {v3 : Int32} {v4 : Int32} {v5 : Int32} (k : Ev g mX12_planFrom d n0 nf post n 117 [some (.ref 133), some (.int v1), some (.int v2), some (.int v3), some (.int v4), some (.int (v5 + 1))] [] X) : Ev g mX12_planFrom d n0 nf post n 158 [some (.ref 133), some (.int v1), some (.int v2), some (.int v3), some (.int v4), some (.int v5)] [] X := by
  refine ev_iinc (v := v5 + 1) dX12_planFrom_158 rfl (by rw [show Int32.ofInt 1 = 1 from ki_1]) (by decide) ?_
  refine ev_goto (tgt := 117) dX12_planFrom_161 (by decide) ?_
  exact k
theorem bX12_trySwap_0_0 {g : GG} {d n0 nf : Nat} {post : Option Value → LX → Prop} {n : Nat} {X : LX} (hn : 146 ≤ nf) (hX : Sh nf X) {v1 : Int32} {v2 : Int32} {v3 : Int32} {v4 : Int32} {v5 : Int32} (c0 : X 133 21 = 0) (hp : post none (lx_up X 133 22 1)) : Ev g mX12_trySwap d n0 nf post nf 0 [some (.ref 133), some (.int v1), some (.int v2), some (.int v3), some (.int v4), some (.int v5), none] [] X := by
  refine ev_aload_n dX12_trySwap_0 rfl ?_
  refine ev_getI dX12_trySwap_1 fo_12_253 (by omega) lo_133 rfl ?_
  refine ev_ifF (tgt := 13) dX12_trySwap_4 (by decide) c0 ?_
  refine ev_aload_n dX12_trySwap_7 rfl ?_
  refine ev_iconst (v := 1) dX12_trySwap_8 ki_1 ?_
  refine ev_putZ dX12_trySwap_9 fo_12_250 (by omega) lo_133 rfl rfl rfl (by decide) ?_
  have hX1 : Sh _ (lx_up X 133 22 1) := Sh.upF hX (by rw [lo_133]; decide) (by decide)
  exact ev_ret dX12_trySwap_12 rfl hp
theorem bX12_trySwap_0_1 {g : GG} {d n0 nf : Nat} {post : Option Value → LX → Prop} {n : Nat} {X : LX} (hn : 146 ≤ n) (hX : Sh n X) {v1 : Int32} {v2 : Int32} {v3 : Int32} {v4 : Int32} {v5 : Int32} {j1 : Nat} {j2 : Nat} (c0 : ¬ X 133 21 = 0) (hj1 : (14 * v1) + v2 = nI j1) (b0 : j1 < 168) (hj2 : (122 + (14 * v2)) + v3 = nI j2) (b1 : j2 < 2156) (k : Ev g mX12_trySwap d n0 nf post n 58 [some (.ref 133), some (.int v1), some (.int v2), some (.int v3), some (.int v4), some (.int v5), some (.int (((X 140 j1) * (X 134 j2)) / 100))] [.int v3, .int v2, .int v1, .ref 133] (lx_up X 133 21 ((X 133 21) - 1))) : Ev g mX12_trySwap d n0 nf post n 0 [some (.ref 133), some (.int v1), some (.int v2), some (.int v3), some (.int v4), some (.int v5), none] [] X := by
  refine ev_aload_n dX12_trySwap_0 rfl ?_
  refine ev_getI dX12_trySwap_1 fo_12_253 (by omega) lo_133 rfl ?_
  refine ev_ifT (tgt := 13) dX12_trySwap_4 (by decide) c0 ?_
  refine ev_aload_n dX12_trySwap_13 rfl ?_
  refine ev_dup dX12_trySwap_14 rfl ?_
  refine ev_getI dX12_trySwap_15 fo_12_253 (by omega) lo_133 rfl ?_
  refine ev_iconst (v := 1) dX12_trySwap_18 ki_1 ?_
  refine ev_isub dX12_trySwap_19 ?_
  refine ev_putI dX12_trySwap_20 fo_12_253 (by omega) lo_133 rfl rfl rfl ?_
  have hX1 : Sh _ (lx_up X 133 21 ((X 133 21) - 1)) := Sh.upF hX (by rw [lo_133]; decide) (by decide)
  refine ev_aload_n dX12_trySwap_23 rfl ?_
  refine ev_getS (q := 140) dX12_trySwap_24 fo_12_28 (by omega) lo_133 rfl (sh_133_9 hX1 (by omega)) (by decide) ?_
  refine ev_bipush (v := 14) dX12_trySwap_27 kb_14 ?_
  refine ev_iload_n dX12_trySwap_29 rfl ?_
  refine ev_imul dX12_trySwap_30 ?_
  refine ev_iload_n dX12_trySwap_31 rfl ?_
  refine ev_iadd dX12_trySwap_32 ?_
  refine ev_iald dX12_trySwap_33 (by omega) ly_140 hj1 b0 ?_
  refine ev_aload_n dX12_trySwap_34 rfl ?_
  refine ev_getS (q := 134) dX12_trySwap_35 fo_12_9 (by omega) lo_133 rfl (sh_133_0 hX1 (by omega)) (by decide) ?_
  refine ev_bipush (v := 122) dX12_trySwap_38 kb_122 ?_
  refine ev_bipush (v := 14) dX12_trySwap_40 kb_14 ?_
  refine ev_iload_n dX12_trySwap_42 rfl ?_
  refine ev_imul dX12_trySwap_43 ?_
  refine ev_iadd dX12_trySwap_44 ?_
  refine ev_iload_n dX12_trySwap_45 rfl ?_
  refine ev_iadd dX12_trySwap_46 ?_
  refine ev_iald dX12_trySwap_47 (by omega) ly_134 hj2 b1 ?_
  refine ev_imul dX12_trySwap_48 ?_
  refine ev_bipush (v := 100) dX12_trySwap_49 kb_100 ?_
  refine ev_idiv dX12_trySwap_51 (by decide) ?_
  refine ev_istore dX12_trySwap_52 (by decide) ?_
  refine ev_aload_n dX12_trySwap_54 rfl ?_
  refine ev_iload_n dX12_trySwap_55 rfl ?_
  refine ev_iload_n dX12_trySwap_56 rfl ?_
  refine ev_iload_n dX12_trySwap_57 rfl ?_
  exact k
theorem bX12_trySwap_61_0 {g : GG} {d n0 nf : Nat} {post : Option Value → LX → Prop} {n : Nat} {X : LX} (hn : 146 ≤ n) (hX : Sh n X) {v1 : Nat} {v2 : Int32} {v3 : Int32} {v4 : Int32} {v5 : Int32} {v6 : Int32} (b0 : v1 < 12) (k : Ev g mX12_trySwap d n0 nf post n 86 [some (.ref 133), some (.int (nI v1)), some (.int v2), some (.int v3), some (.int v4), some (.int v5), some (.int v6)] [.int (v5 + 1), .int (v4 + v6), .int ((nI v1) + 1), .ref 133] (lx_up X 143 v1 ((100 * v2) + v3))) : Ev g mX12_trySwap d n0 nf post n 61 [some (.ref 133), some (.int (nI v1)), some (.int v2), some (.int v3), some (.int v4), some (.int v5), some (.int v6)] [] X := by
  refine ev_aload_n dX12_trySwap_61 rfl ?_
  refine ev_getS (q := 143) dX12_trySwap_62 fo_12_43 (by omega) lo_133 rfl (sh_133_26 hX (by omega)) (by decide) ?_
  refine ev_iload_n dX12_trySwap_65 rfl ?_
  refine ev_bipush (v := 100) dX12_trySwap_66 kb_100 ?_
  refine ev_iload_n dX12_trySwap_68 rfl ?_
  refine ev_imul dX12_trySwap_69 ?_
  refine ev_iload_n dX12_trySwap_70 rfl ?_
  refine ev_iadd dX12_trySwap_71 ?_
  refine ev_iast dX12_trySwap_72 (by omega) ly_143 rfl b0 ?_
  have hX1 : Sh _ (lx_up X 143 v1 ((100 * v2) + v3)) := Sh.upA hX (by rw [ly_143]; exact (by decide : 0 < 2))
  refine ev_aload_n dX12_trySwap_73 rfl ?_
  refine ev_iload_n dX12_trySwap_74 rfl ?_
  refine ev_iconst (v := 1) dX12_trySwap_75 ki_1 ?_
  refine ev_iadd dX12_trySwap_76 ?_
  refine ev_iload dX12_trySwap_77 rfl ?_
  refine ev_iload dX12_trySwap_79 rfl ?_
  refine ev_iadd dX12_trySwap_81 ?_
  refine ev_iload dX12_trySwap_82 rfl ?_
  refine ev_iconst (v := 1) dX12_trySwap_84 ki_1 ?_
  refine ev_iadd dX12_trySwap_85 ?_
  exact k
theorem bX12_trySwap_89_0 {g : GG} {d n0 nf : Nat} {post : Option Value → LX → Prop} {n : Nat} {X : LX} (hn : 146 ≤ n) (hX : Sh n X) {v1 : Nat} {v2 : Int32} {v3 : Int32} {v4 : Int32} {v5 : Int32} {v6 : Int32} (b0 : v1 < 12) (k : Ev g mX12_trySwap d n0 nf post n 100 [some (.ref 133), some (.int (nI v1)), some (.int v2), some (.int v3), some (.int v4), some (.int v5), some (.int v6)] [.int v2, .int v3, .int (nI v1), .ref 133] (lx_up X 143 v1 (-1))) : Ev g mX12_trySwap d n0 nf post n 89 [some (.ref 133), some (.int (nI v1)), some (.int v2), some (.int v3), some (.int v4), some (.int v5), some (.int v6)] [] X := by
  refine ev_aload_n dX12_trySwap_89 rfl ?_
  refine ev_getS (q := 143) dX12_trySwap_90 fo_12_43 (by omega) lo_133 rfl (sh_133_26 hX (by omega)) (by decide) ?_
  refine ev_iload_n dX12_trySwap_93 rfl ?_
  refine ev_iconst (v := (-1)) dX12_trySwap_94 ki_m1 ?_
  refine ev_iast dX12_trySwap_95 (by omega) ly_143 rfl b0 ?_
  have hX1 : Sh _ (lx_up X 143 v1 (-1)) := Sh.upA hX (by rw [ly_143]; exact (by decide : 0 < 2))
  refine ev_aload_n dX12_trySwap_96 rfl ?_
  refine ev_iload_n dX12_trySwap_97 rfl ?_
  refine ev_iload_n dX12_trySwap_98 rfl ?_
  refine ev_iload_n dX12_trySwap_99 rfl ?_
  exact k
theorem bX12_trySwap_103_0 {g : GG} {d n0 nf : Nat} {post : Option Value → LX → Prop} {n : Nat} {X : LX} (hn : 146 ≤ nf) (hX : Sh nf X) {v1 : Int32} {v2 : Int32} {v3 : Int32} {v4 : Int32} {v5 : Int32} {v6 : Int32} (hp : post none X) : Ev g mX12_trySwap d n0 nf post nf 103 [some (.ref 133), some (.int v1), some (.int v2), some (.int v3), some (.int v4), some (.int v5), some (.int v6)] [] X := by
  exact ev_ret dX12_trySwap_103 rfl hp
theorem bX12_findPlan_0_0 {g : GG} {d n0 nf : Nat} {post : Option Value → LX → Prop} {n : Nat} {X : LX} (hn : 146 ≤ n) (hX : Sh n X) {v1 : Int32} (k : Ev g mX12_findPlan d n0 nf post n 1 [some (.ref 133), some (.int v1), none] [.ref 133] X) : Ev g mX12_findPlan d n0 nf post n 0 [some (.ref 133), some (.int v1), none] [] X := by
  refine ev_aload_n dX12_findPlan_0 rfl ?_
  exact k
theorem bX12_findPlan_4_0 {g : GG} {d n0 nf : Nat} {post : Option Value → LX → Prop} {n : Nat} {X : LX} (hn : 146 ≤ n) (hX : Sh n X) {v1 : Int32} (k : Ev g mX12_findPlan d n0 nf post n 6 [some (.ref 133), some (.int v1), some (.int 0)] [] X) : Ev g mX12_findPlan d n0 nf post n 4 [some (.ref 133), some (.int v1), none] [] X := by
  refine ev_iconst (v := 0) dX12_findPlan_4 ki_0 ?_
  refine ev_istore_n dX12_findPlan_5 (by decide) ?_
  exact k
theorem bX12_findPlan_6_0 {g : GG} {d n0 nf : Nat} {post : Option Value → LX → Prop} {n : Nat} {X : LX} (hn : 146 ≤ n) (hX : Sh n X) {v1 : Int32} {v2 : Nat} (c0 : ¬ 12 ≤ nI v2) (b0 : v2 < 12) (k : Ev g mX12_findPlan d n0 nf post n 6 [some (.ref 133), some (.int v1), some (.int ((nI v2) + 1))] [] (lx_up X 143 v2 (-1))) : Ev g mX12_findPlan d n0 nf post n 6 [some (.ref 133), some (.int v1), some (.int (nI v2))] [] X := by
  refine ev_iload_n dX12_findPlan_6 rfl ?_
  refine ev_bipush (v := 12) dX12_findPlan_7 kb_12 ?_
  refine ev_icmpF (tgt := 25) dX12_findPlan_9 (by decide) c0 ?_
  refine ev_aload_n dX12_findPlan_12 rfl ?_
  refine ev_getS (q := 143) dX12_findPlan_13 fo_12_43 (by omega) lo_133 rfl (sh_133_26 hX (by omega)) (by decide) ?_
  refine ev_iload_n dX12_findPlan_16 rfl ?_
  refine ev_iconst (v := (-1)) dX12_findPlan_17 ki_m1 ?_
  refine ev_iast dX12_findPlan_18 (by omega) ly_143 rfl b0 ?_
  have hX1 : Sh _ (lx_up X 143 v2 (-1)) := Sh.upA hX (by rw [ly_143]; exact (by decide : 0 < 2))
  refine ev_iinc (v := (nI v2) + 1) dX12_findPlan_19 rfl (by rw [show Int32.ofInt 1 = 1 from ki_1]) (by decide) ?_
  refine ev_goto (tgt := 6) dX12_findPlan_22 (by decide) ?_
  exact k
theorem bX12_findPlan_6_1 {g : GG} {d n0 nf : Nat} {post : Option Value → LX → Prop} {n : Nat} {X : LX} (hn : 146 ≤ n) (hX : Sh n X) {v1 : Int32} {v2 : Nat} (c0 : 12 ≤ nI v2) (k : Ev g mX12_findPlan d n0 nf post n 49 [some (.ref 133), some (.int v1), some (.int (nI v2))] [.int 0, .int 0, .int 0, .ref 133] (lx_up (lx_up (lx_up (lx_up X 133 28 (-1)) 133 29 0) 133 21 v1) 133 22 0)) : Ev g mX12_findPlan d n0 nf post n 6 [some (.ref 133), some (.int v1), some (.int (nI v2))] [] X := by
  refine ev_iload_n dX12_findPlan_6 rfl ?_
  refine ev_bipush (v := 12) dX12_findPlan_7 kb_12 ?_
  refine ev_icmpT (tgt := 25) dX12_findPlan_9 (by decide) c0 ?_
  refine ev_aload_n dX12_findPlan_25 rfl ?_
  refine ev_iconst (v := (-1)) dX12_findPlan_26 ki_m1 ?_
  refine ev_putI dX12_findPlan_27 fo_12_273 (by omega) lo_133 rfl rfl rfl ?_
  have hX1 : Sh _ (lx_up X 133 28 (-1)) := Sh.upF hX (by rw [lo_133]; decide) (by decide)
  refine ev_aload_n dX12_findPlan_30 rfl ?_
  refine ev_iconst (v := 0) dX12_findPlan_31 ki_0 ?_
  refine ev_putI dX12_findPlan_32 fo_12_276 (by omega) lo_133 rfl rfl rfl ?_
  have hX2 : Sh _ (lx_up (lx_up X 133 28 (-1)) 133 29 0) := Sh.upF hX1 (by rw [lo_133]; decide) (by decide)
  refine ev_aload_n dX12_findPlan_35 rfl ?_
  refine ev_iload_n dX12_findPlan_36 rfl ?_
  refine ev_putI dX12_findPlan_37 fo_12_253 (by omega) lo_133 rfl rfl rfl ?_
  have hX3 : Sh _ (lx_up (lx_up (lx_up X 133 28 (-1)) 133 29 0) 133 21 v1) := Sh.upF hX2 (by rw [lo_133]; decide) (by decide)
  refine ev_aload_n dX12_findPlan_40 rfl ?_
  refine ev_iconst (v := 0) dX12_findPlan_41 ki_0 ?_
  refine ev_putZ dX12_findPlan_42 fo_12_250 (by omega) lo_133 rfl rfl rfl (by decide) ?_
  have hX4 : Sh _ (lx_up (lx_up (lx_up (lx_up X 133 28 (-1)) 133 29 0) 133 21 v1) 133 22 0) := Sh.upF hX3 (by rw [lo_133]; decide) (by decide)
  refine ev_aload_n dX12_findPlan_45 rfl ?_
  refine ev_iconst (v := 0) dX12_findPlan_46 ki_0 ?_
  refine ev_iconst (v := 0) dX12_findPlan_47 ki_0 ?_
  refine ev_iconst (v := 0) dX12_findPlan_48 ki_0 ?_
  exact k
theorem bX12_findPlan_52_0 {g : GG} {d n0 nf : Nat} {post : Option Value → LX → Prop} {n : Nat} {X : LX} (hn : 146 ≤ nf) (hX : Sh nf X) {v1 : Int32} {v2 : Int32} (c0 : ¬ X 133 22 = 0) (hp : post (some (.int (-1000000004))) X) : Ev g mX12_findPlan d n0 nf post nf 52 [some (.ref 133), some (.int v1), some (.int v2)] [] X := by
  refine ev_aload_n dX12_findPlan_52 rfl ?_
  refine ev_getI dX12_findPlan_53 fo_12_250 (by omega) lo_133 rfl ?_
  refine ev_ifF (tgt := 65) dX12_findPlan_56 (by decide) c0 ?_
  refine ev_ldcw (v := (-1000000004)) dX12_findPlan_59 kw_12_260 ?_
  refine ev_goto (tgt := 78) dX12_findPlan_62 (by decide) ?_
  exact ev_iret dX12_findPlan_78 rfl rfl hp
theorem bX12_findPlan_52_1 {g : GG} {d n0 nf : Nat} {post : Option Value → LX → Prop} {n : Nat} {X : LX} (hn : 146 ≤ nf) (hX : Sh nf X) {v1 : Int32} {v2 : Int32} (c0 : X 133 22 = 0) (c1 : ¬ 0 ≤ X 133 28) (hp : post (some (.int (-1000000002))) X) : Ev g mX12_findPlan d n0 nf post nf 52 [some (.ref 133), some (.int v1), some (.int v2)] [] X := by
  refine ev_aload_n dX12_findPlan_52 rfl ?_
  refine ev_getI dX12_findPlan_53 fo_12_250 (by omega) lo_133 rfl ?_
  refine ev_ifT (tgt := 65) dX12_findPlan_56 (by decide) c0 ?_
  refine ev_aload_n dX12_findPlan_65 rfl ?_
  refine ev_getI dX12_findPlan_66 fo_12_273 (by omega) lo_133 rfl ?_
  refine ev_ifF (tgt := 77) dX12_findPlan_69 (by decide) c1 ?_
  refine ev_ldc (v := (-1000000002)) dX12_findPlan_72 kw_12_80 ?_
  refine ev_goto (tgt := 78) dX12_findPlan_74 (by decide) ?_
  exact ev_iret dX12_findPlan_78 rfl rfl hp
theorem bX12_findPlan_52_2 {g : GG} {d n0 nf : Nat} {post : Option Value → LX → Prop} {n : Nat} {X : LX} (hn : 146 ≤ nf) (hX : Sh nf X) {v1 : Int32} {v2 : Int32} (c0 : X 133 22 = 0) (c1 : 0 ≤ X 133 28) (hp : post (some (.int 0)) X) : Ev g mX12_findPlan d n0 nf post nf 52 [some (.ref 133), some (.int v1), some (.int v2)] [] X := by
  refine ev_aload_n dX12_findPlan_52 rfl ?_
  refine ev_getI dX12_findPlan_53 fo_12_250 (by omega) lo_133 rfl ?_
  refine ev_ifT (tgt := 65) dX12_findPlan_56 (by decide) c0 ?_
  refine ev_aload_n dX12_findPlan_65 rfl ?_
  refine ev_getI dX12_findPlan_66 fo_12_273 (by omega) lo_133 rfl ?_
  refine ev_ifT (tgt := 77) dX12_findPlan_69 (by decide) c1 ?_
  refine ev_iconst (v := 0) dX12_findPlan_77 ki_0 ?_
  exact ev_iret dX12_findPlan_78 rfl rfl hp
theorem bX12_plan_0_0 {g : GG} {d n0 nf : Nat} {post : Option Value → LX → Prop} {n : Nat} {X : LX} (hn : 146 ≤ n) (hX : Sh n X) {v1 : Int32} (k : Ev g mX12_plan d n0 nf post n 5 [some (.ref 133), some (.int v1), none] [.int 5000, .int 1, .int v1] X) : Ev g mX12_plan d n0 nf post n 0 [some (.ref 133), some (.int v1), none] [] X := by
  refine ev_iload_n dX12_plan_0 rfl ?_
  refine ev_iconst (v := 1) dX12_plan_1 ki_1 ?_
  refine ev_sipush (v := 5000) dX12_plan_2 ks_5000 ?_
  exact k
theorem bX12_plan_8_0 {g : GG} {d n0 nf : Nat} {post : Option Value → LX → Prop} {n : Nat} {X : LX} (hn : 146 ≤ nf) (hX : Sh nf X) {v1 : Int32} {s0 : Int32} (c0 : s0 = 0) (hp : post (some (.int (-1000000001))) X) : Ev g mX12_plan d n0 nf post nf 8 [some (.ref 133), some (.int v1), none] [.int s0] X := by
  refine ev_ifF (tgt := 14) dX12_plan_8 (by decide) c0 ?_
  refine ev_ldc (v := (-1000000001)) dX12_plan_11 kw_12_57 ?_
  exact ev_iret dX12_plan_13 rfl rfl hp
theorem bX12_plan_8_1 {g : GG} {d n0 nf : Nat} {post : Option Value → LX → Prop} {n : Nat} {X : LX} (hn : 146 ≤ n) (hX : Sh n X) {v1 : Int32} {s0 : Int32} (c0 : ¬ s0 = 0) (k : Ev g mX12_plan d n0 nf post n 16 [some (.ref 133), some (.int v1), none] [.int v1, .ref 133] X) : Ev g mX12_plan d n0 nf post n 8 [some (.ref 133), some (.int v1), none] [.int s0] X := by
  refine ev_ifT (tgt := 14) dX12_plan_8 (by decide) c0 ?_
  refine ev_aload_n dX12_plan_14 rfl ?_
  refine ev_iload_n dX12_plan_15 rfl ?_
  exact k
theorem bX12_plan_19_0 {g : GG} {d n0 nf : Nat} {post : Option Value → LX → Prop} {n : Nat} {X : LX} (hn : 146 ≤ nf) (hX : Sh nf X) {v1 : Int32} {s0 : Int32} (c0 : ¬ s0 = 0) (hp : post (some (.int s0)) X) : Ev g mX12_plan d n0 nf post nf 19 [some (.ref 133), some (.int v1), none] [.int s0] X := by
  refine ev_istore_n dX12_plan_19 (by decide) ?_
  refine ev_iload_n dX12_plan_20 rfl ?_
  refine ev_ifF (tgt := 28) dX12_plan_21 (by decide) c0 ?_
  refine ev_iload_n dX12_plan_24 rfl ?_
  refine ev_goto (tgt := 32) dX12_plan_25 (by decide) ?_
  exact ev_iret dX12_plan_32 rfl rfl hp
theorem bX12_plan_19_1 {g : GG} {d n0 nf : Nat} {post : Option Value → LX → Prop} {n : Nat} {X : LX} (hn : 146 ≤ nf) (hX : Sh nf X) {v1 : Int32} {s0 : Int32} (c0 : s0 = 0) (hp : post (some (.int (X 133 28))) X) : Ev g mX12_plan d n0 nf post nf 19 [some (.ref 133), some (.int v1), none] [.int s0] X := by
  refine ev_istore_n dX12_plan_19 (by decide) ?_
  refine ev_iload_n dX12_plan_20 rfl ?_
  refine ev_ifT (tgt := 28) dX12_plan_21 (by decide) c0 ?_
  refine ev_aload_n dX12_plan_28 rfl ?_
  refine ev_getI dX12_plan_29 fo_12_273 (by omega) lo_133 rfl ?_
  exact ev_iret dX12_plan_32 rfl rfl hp
theorem bX12_swap_0_0 {g : GG} {d n0 nf : Nat} {post : Option Value → LX → Prop} {n : Nat} {X : LX} (hn : 146 ≤ n) (hX : Sh n X) {v1 : Int32} {v2 : Int32} (k : Ev g mX12_swap d n0 nf post n 5 [some (.ref 133), some (.int v1), some (.int v2), none] [.int 5000, .int 1, .int v1] X) : Ev g mX12_swap d n0 nf post n 0 [some (.ref 133), some (.int v1), some (.int v2), none] [] X := by
  refine ev_iload_n dX12_swap_0 rfl ?_
  refine ev_iconst (v := 1) dX12_swap_1 ki_1 ?_
  refine ev_sipush (v := 5000) dX12_swap_2 ks_5000 ?_
  exact k
theorem bX12_swap_8_0 {g : GG} {d n0 nf : Nat} {post : Option Value → LX → Prop} {n : Nat} {X : LX} (hn : 146 ≤ n) (hX : Sh n X) {v1 : Int32} {v2 : Int32} {s0 : Int32} (c0 : ¬ s0 = 0) (k : Ev g mX12_swap d n0 nf post n 13 [some (.ref 133), some (.int v1), some (.int v2), none] [.int v2, .ref 133] X) : Ev g mX12_swap d n0 nf post n 8 [some (.ref 133), some (.int v1), some (.int v2), none] [.int s0] X := by
  refine ev_ifF (tgt := 19) dX12_swap_8 (by decide) c0 ?_
  refine ev_aload_n dX12_swap_11 rfl ?_
  refine ev_iload_n dX12_swap_12 rfl ?_
  exact k
theorem bX12_swap_8_1 {g : GG} {d n0 nf : Nat} {post : Option Value → LX → Prop} {n : Nat} {X : LX} (hn : 146 ≤ nf) (hX : Sh nf X) {v1 : Int32} {v2 : Int32} {s0 : Int32} (c0 : s0 = 0) (hp : post (some (.int (-1000000001))) X) : Ev g mX12_swap d n0 nf post nf 8 [some (.ref 133), some (.int v1), some (.int v2), none] [.int s0] X := by
  refine ev_ifT (tgt := 19) dX12_swap_8 (by decide) c0 ?_
  refine ev_ldc (v := (-1000000001)) dX12_swap_19 kw_12_57 ?_
  exact ev_iret dX12_swap_21 rfl rfl hp
theorem bX12_swap_16_0 {g : GG} {d n0 nf : Nat} {post : Option Value → LX → Prop} {n : Nat} {X : LX} (hn : 146 ≤ nf) (hX : Sh nf X) {v1 : Int32} {v2 : Int32} {s0 : Int32} (c0 : s0 = 0) (hp : post (some (.int (-1000000001))) X) : Ev g mX12_swap d n0 nf post nf 16 [some (.ref 133), some (.int v1), some (.int v2), none] [.int s0] X := by
  refine ev_ifF (tgt := 22) dX12_swap_16 (by decide) c0 ?_
  refine ev_ldc (v := (-1000000001)) dX12_swap_19 kw_12_57 ?_
  exact ev_iret dX12_swap_21 rfl rfl hp
theorem bX12_swap_16_1 {g : GG} {d n0 nf : Nat} {post : Option Value → LX → Prop} {n : Nat} {X : LX} (hn : 146 ≤ n) (hX : Sh n X) {v1 : Int32} {v2 : Int32} {s0 : Int32} (c0 : ¬ s0 = 0) (k : Ev g mX12_swap d n0 nf post n 24 [some (.ref 133), some (.int v1), some (.int v2), none] [.int v1, .ref 133] X) : Ev g mX12_swap d n0 nf post n 16 [some (.ref 133), some (.int v1), some (.int v2), none] [.int s0] X := by
  refine ev_ifT (tgt := 22) dX12_swap_16 (by decide) c0 ?_
  refine ev_aload_n dX12_swap_22 rfl ?_
  refine ev_iload_n dX12_swap_23 rfl ?_
  exact k
theorem bX12_swap_27_0 {g : GG} {d n0 nf : Nat} {post : Option Value → LX → Prop} {n : Nat} {X : LX} (hn : 146 ≤ nf) (hX : Sh nf X) {v1 : Int32} {v2 : Nat} {s0 : Int32} (c0 : ¬ s0 = 0) (hp : post (some (.int s0)) X) : Ev g mX12_swap d n0 nf post nf 27 [some (.ref 133), some (.int v1), some (.int (nI v2)), none] [.int s0] X := by
  refine ev_istore_n dX12_swap_27 (by decide) ?_
  refine ev_iload_n dX12_swap_28 rfl ?_
  refine ev_ifF (tgt := 36) dX12_swap_29 (by decide) c0 ?_
  refine ev_iload_n dX12_swap_32 rfl ?_
  refine ev_goto (tgt := 57) dX12_swap_33 (by decide) ?_
  exact ev_iret dX12_swap_57 rfl rfl hp
theorem bX12_swap_27_1 {g : GG} {d n0 nf : Nat} {post : Option Value → LX → Prop} {n : Nat} {X : LX} (hn : 146 ≤ nf) (hX : Sh nf X) {v1 : Int32} {v2 : Nat} {s0 : Int32} (c0 : s0 = 0) (b0 : v2 < 12) (c1 : ¬ 0 ≤ X 144 v2) (hp : post (some (.int (-1000000005))) X) : Ev g mX12_swap d n0 nf post nf 27 [some (.ref 133), some (.int v1), some (.int (nI v2)), none] [.int s0] X := by
  refine ev_istore_n dX12_swap_27 (by decide) ?_
  refine ev_iload_n dX12_swap_28 rfl ?_
  refine ev_ifT (tgt := 36) dX12_swap_29 (by decide) c0 ?_
  refine ev_aload_n dX12_swap_36 rfl ?_
  refine ev_getS (q := 144) dX12_swap_37 fo_12_46 (by omega) lo_133 rfl (sh_133_27 hX (by omega)) (by decide) ?_
  refine ev_iload_n dX12_swap_40 rfl ?_
  refine ev_iald dX12_swap_41 (by omega) ly_144 rfl b0 ?_
  refine ev_ifF (tgt := 51) dX12_swap_42 (by decide) c1 ?_
  refine ev_ldcw (v := (-1000000005)) dX12_swap_45 kw_12_300 ?_
  refine ev_goto (tgt := 57) dX12_swap_48 (by decide) ?_
  exact ev_iret dX12_swap_57 rfl rfl hp
theorem bX12_swap_27_2 {g : GG} {d n0 nf : Nat} {post : Option Value → LX → Prop} {n : Nat} {X : LX} (hn : 146 ≤ nf) (hX : Sh nf X) {v1 : Int32} {v2 : Nat} {s0 : Int32} (c0 : s0 = 0) (b0 : v2 < 12) (c1 : 0 ≤ X 144 v2) (b1 : v2 < 12) (hp : post (some (.int (X 144 v2))) X) : Ev g mX12_swap d n0 nf post nf 27 [some (.ref 133), some (.int v1), some (.int (nI v2)), none] [.int s0] X := by
  refine ev_istore_n dX12_swap_27 (by decide) ?_
  refine ev_iload_n dX12_swap_28 rfl ?_
  refine ev_ifT (tgt := 36) dX12_swap_29 (by decide) c0 ?_
  refine ev_aload_n dX12_swap_36 rfl ?_
  refine ev_getS (q := 144) dX12_swap_37 fo_12_46 (by omega) lo_133 rfl (sh_133_27 hX (by omega)) (by decide) ?_
  refine ev_iload_n dX12_swap_40 rfl ?_
  refine ev_iald dX12_swap_41 (by omega) ly_144 rfl b0 ?_
  refine ev_ifT (tgt := 51) dX12_swap_42 (by decide) c1 ?_
  refine ev_aload_n dX12_swap_51 rfl ?_
  refine ev_getS (q := 144) dX12_swap_52 fo_12_46 (by omega) lo_133 rfl (sh_133_27 hX (by omega)) (by decide) ?_
  refine ev_iload_n dX12_swap_55 rfl ?_
  refine ev_iald dX12_swap_56 (by omega) ly_144 rfl b1 ?_
  exact ev_iret dX12_swap_57 rfl rfl hp
theorem bX12_takes_0_0 {g : GG} {d n0 nf : Nat} {post : Option Value → LX → Prop} {n : Nat} {X : LX} (hn : 146 ≤ n) (hX : Sh n X) {v1 : Int32} {v2 : Int32} {v3 : Int32} (k : Ev g mX12_takes d n0 nf post n 6 [some (.ref 133), some (.int v1), some (.int v2), some (.int v3), some (.int v3), some (.int 0), none] [] X) : Ev g mX12_takes d n0 nf post n 0 [some (.ref 133), some (.int v1), some (.int v2), some (.int v3), none, none, none] [] X := by
  refine ev_iload_n dX12_takes_0 rfl ?_
  refine ev_istore dX12_takes_1 (by decide) ?_
  refine ev_iconst (v := 0) dX12_takes_3 ki_0 ?_
  refine ev_istore dX12_takes_4 (by decide) ?_
  exact k
theorem bX12_takes_6_0 {g : GG} {d n0 nf : Nat} {post : Option Value → LX → Prop} {n : Nat} {X : LX} (hn : 146 ≤ n) (hX : Sh n X) {v1 : Int32} {v2 : Int32} {v3 : Int32} {v4 : Int32} {v5 : Int32} (c0 : ¬ X 134 7 ≤ v5) (k : Ev g mX12_takes d n0 nf post n 25 [some (.ref 133), some (.int v1), some (.int v2), some (.int v3), some (.int v4), some (.int v5), none] [.int 0, .int v5, .ref 134] X) : Ev g mX12_takes d n0 nf post n 6 [some (.ref 133), some (.int v1), some (.int v2), some (.int v3), some (.int v4), some (.int v5), none] [] X := by
  refine ev_iload dX12_takes_6 rfl ?_
  refine ev_aload_n dX12_takes_8 rfl ?_
  refine ev_getS (q := 134) dX12_takes_9 fo_12_9 (by omega) lo_133 rfl (sh_133_0 hX (by omega)) (by decide) ?_
  refine ev_bipush (v := 7) dX12_takes_12 kb_7 ?_
  refine ev_iald dX12_takes_14 (by omega) ly_134 nIl_7 (by decide) ?_
  refine ev_icmpF (tgt := 110) dX12_takes_15 (by decide) c0 ?_
  refine ev_aload_n dX12_takes_18 rfl ?_
  refine ev_getS (q := 134) dX12_takes_19 fo_12_9 (by omega) lo_133 rfl (sh_133_0 hX (by omega)) (by decide) ?_
  refine ev_iload dX12_takes_22 rfl ?_
  refine ev_iconst (v := 0) dX12_takes_24 ki_0 ?_
  exact k
theorem bX12_takes_6_1 {g : GG} {d n0 nf : Nat} {post : Option Value → LX → Prop} {n : Nat} {X : LX} (hn : 146 ≤ n) (hX : Sh n X) {v1 : Int32} {v2 : Int32} {v3 : Int32} {v4 : Int32} {v5 : Int32} (c0 : X 134 7 ≤ v5) (k : Ev g mX12_takes d n0 nf post n 117 [some (.ref 133), some (.int v1), some (.int v2), some (.int v3), some (.int v4), some (.int v5), none] [.int 6, .int v2, .ref 134] X) : Ev g mX12_takes d n0 nf post n 6 [some (.ref 133), some (.int v1), some (.int v2), some (.int v3), some (.int v4), some (.int v5), none] [] X := by
  refine ev_iload dX12_takes_6 rfl ?_
  refine ev_aload_n dX12_takes_8 rfl ?_
  refine ev_getS (q := 134) dX12_takes_9 fo_12_9 (by omega) lo_133 rfl (sh_133_0 hX (by omega)) (by decide) ?_
  refine ev_bipush (v := 7) dX12_takes_12 kb_7 ?_
  refine ev_iald dX12_takes_14 (by omega) ly_134 nIl_7 (by decide) ?_
  refine ev_icmpT (tgt := 110) dX12_takes_15 (by decide) c0 ?_
  refine ev_aload_n dX12_takes_110 rfl ?_
  refine ev_getS (q := 134) dX12_takes_111 fo_12_9 (by omega) lo_133 rfl (sh_133_0 hX (by omega)) (by decide) ?_
  refine ev_iload_n dX12_takes_114 rfl ?_
  refine ev_bipush (v := 6) dX12_takes_115 kb_6 ?_
  exact k
theorem bX12_takes_28_0 {g : GG} {d n0 nf : Nat} {post : Option Value → LX → Prop} {n : Nat} {X : LX} (hn : 146 ≤ n) (hX : Sh n X) {v1 : Int32} {v2 : Int32} {v3 : Int32} {v4 : Int32} {v5 : Int32} {s1 : Nat} (b0 : s1 < 2156) (c0 : X 134 s1 = v2) (k : Ev g mX12_takes d n0 nf post n 42 [some (.ref 133), some (.int v1), some (.int v2), some (.int v3), some (.int v4), some (.int v5), none] [.int 3, .int v5, .ref 134, .int v4] X) : Ev g mX12_takes d n0 nf post n 28 [some (.ref 133), some (.int v1), some (.int v2), some (.int v3), some (.int v4), some (.int v5), none] [.int (nI s1), .ref 134] X := by
  refine ev_iald dX12_takes_28 (by omega) ly_134 rfl b0 ?_
  refine ev_iload_n dX12_takes_29 rfl ?_
  refine ev_icmpF (tgt := 52) dX12_takes_30 (by decide) c0 ?_
  refine ev_iload dX12_takes_33 rfl ?_
  refine ev_aload_n dX12_takes_35 rfl ?_
  refine ev_getS (q := 134) dX12_takes_36 fo_12_9 (by omega) lo_133 rfl (sh_133_0 hX (by omega)) (by decide) ?_
  refine ev_iload dX12_takes_39 rfl ?_
  refine ev_iconst (v := 3) dX12_takes_41 ki_3 ?_
  exact k
theorem bX12_takes_28_1 {g : GG} {d n0 nf : Nat} {post : Option Value → LX → Prop} {n : Nat} {X : LX} (hn : 146 ≤ n) (hX : Sh n X) {v1 : Int32} {v2 : Int32} {v3 : Int32} {v4 : Int32} {v5 : Int32} {s1 : Nat} (b0 : s1 < 2156) (c0 : ¬ X 134 s1 = v2) (k : Ev g mX12_takes d n0 nf post n 62 [some (.ref 133), some (.int v1), some (.int v2), some (.int v3), some (.int v4), some (.int v5), some (.int 0)] [.int 3, .int v5, .ref 134] X) : Ev g mX12_takes d n0 nf post n 28 [some (.ref 133), some (.int v1), some (.int v2), some (.int v3), some (.int v4), some (.int v5), none] [.int (nI s1), .ref 134] X := by
  refine ev_iald dX12_takes_28 (by omega) ly_134 rfl b0 ?_
  refine ev_iload_n dX12_takes_29 rfl ?_
  refine ev_icmpT (tgt := 52) dX12_takes_30 (by decide) c0 ?_
  refine ev_iconst (v := 0) dX12_takes_52 ki_0 ?_
  refine ev_istore dX12_takes_53 (by decide) ?_
  refine ev_aload_n dX12_takes_55 rfl ?_
  refine ev_getS (q := 134) dX12_takes_56 fo_12_9 (by omega) lo_133 rfl (sh_133_0 hX (by omega)) (by decide) ?_
  refine ev_iload dX12_takes_59 rfl ?_
  refine ev_iconst (v := 3) dX12_takes_61 ki_3 ?_
  exact k
theorem bX12_takes_45_0 {g : GG} {d n0 nf : Nat} {post : Option Value → LX → Prop} {n : Nat} {X : LX} (hn : 146 ≤ n) (hX : Sh n X) {v1 : Int32} {v2 : Int32} {v3 : Int32} {v4 : Int32} {v5 : Int32} {s0 : Int32} {s2 : Nat} (b0 : s2 < 2156) (k : Ev g mX12_takes d n0 nf post n 46 [some (.ref 133), some (.int v1), some (.int v2), some (.int v3), some (.int v4), some (.int v5), none] [.int (X 134 s2), .int s0] X) : Ev g mX12_takes d n0 nf post n 45 [some (.ref 133), some (.int v1), some (.int v2), some (.int v3), some (.int v4), some (.int v5), none] [.int (nI s2), .ref 134, .int s0] X := by
  refine ev_iald dX12_takes_45 (by omega) ly_134 rfl b0 ?_
  exact k
theorem bX12_takes_49_0 {g : GG} {d n0 nf : Nat} {post : Option Value → LX → Prop} {n : Nat} {X : LX} (hn : 146 ≤ n) (hX : Sh n X) {v1 : Int32} {v2 : Int32} {v3 : Int32} {v4 : Int32} {v5 : Int32} {s0 : Int32} (k : Ev g mX12_takes d n0 nf post n 62 [some (.ref 133), some (.int v1), some (.int v2), some (.int v3), some (.int v4), some (.int v5), some (.int s0)] [.int 3, .int v5, .ref 134] X) : Ev g mX12_takes d n0 nf post n 49 [some (.ref 133), some (.int v1), some (.int v2), some (.int v3), some (.int v4), some (.int v5), none] [.int s0] X := by
  refine ev_goto (tgt := 53) dX12_takes_49 (by decide) ?_
  refine ev_istore dX12_takes_53 (by decide) ?_
  refine ev_aload_n dX12_takes_55 rfl ?_
  refine ev_getS (q := 134) dX12_takes_56 fo_12_9 (by omega) lo_133 rfl (sh_133_0 hX (by omega)) (by decide) ?_
  refine ev_iload dX12_takes_59 rfl ?_
  refine ev_iconst (v := 3) dX12_takes_61 ki_3 ?_
  exact k
theorem bX12_takes_65_0 {g : GG} {d n0 nf : Nat} {post : Option Value → LX → Prop} {n : Nat} {X : LX} (hn : 146 ≤ n) (hX : Sh n X) {v1 : Int32} {v2 : Int32} {v3 : Int32} {v4 : Int32} {v5 : Int32} {v6 : Int32} {s1 : Nat} (b0 : s1 < 2156) (b1 : s1 < 2156) (k : Ev g mX12_takes d n0 nf post n 78 [some (.ref 133), some (.int v1), some (.int v2), some (.int v3), some (.int v4), some (.int v5), some (.int v6)] [.int 4, .int v5, .ref 134] (lx_up X 134 s1 ((X 134 s1) - v6))) : Ev g mX12_takes d n0 nf post n 65 [some (.ref 133), some (.int v1), some (.int v2), some (.int v3), some (.int v4), some (.int v5), some (.int v6)] [.int (nI s1), .ref 134] X := by
  refine ev_dup2 dX12_takes_65 rfl rfl ?_
  refine ev_iald dX12_takes_66 (by omega) ly_134 rfl b0 ?_
  refine ev_iload dX12_takes_67 rfl ?_
  refine ev_isub dX12_takes_69 ?_
  refine ev_iast dX12_takes_70 (by omega) ly_134 rfl b1 ?_
  have hX1 : Sh _ (lx_up X 134 s1 ((X 134 s1) - v6)) := Sh.upA hX (by rw [ly_134]; exact (by decide : 0 < 2))
  refine ev_aload_n dX12_takes_71 rfl ?_
  refine ev_getS (q := 134) dX12_takes_72 fo_12_9 (by omega) lo_133 rfl (sh_133_0 hX1 (by omega)) (by decide) ?_
  refine ev_iload dX12_takes_75 rfl ?_
  refine ev_iconst (v := 4) dX12_takes_77 ki_4 ?_
  exact k
theorem bX12_takes_81_0 {g : GG} {d n0 nf : Nat} {post : Option Value → LX → Prop} {n : Nat} {X : LX} (hn : 146 ≤ n) (hX : Sh n X) {v1 : Int32} {v2 : Int32} {v3 : Int32} {v4 : Int32} {v5 : Int32} {v6 : Int32} {s1 : Nat} (b0 : s1 < 2156) (c0 : ¬ v6 ≤ 0) (b1 : s1 < 2156) (k : Ev g mX12_takes d n0 nf post n 6 [some (.ref 133), some (.int v1), some (.int v2), some (.int v3), some (.int (v4 - v6)), some (.int (v5 + 1)), some (.int v6)] [] (lx_up X 134 s1 ((X 134 s1) ||| (1 <<< (v1 &&& 31))))) : Ev g mX12_takes d n0 nf post n 81 [some (.ref 133), some (.int v1), some (.int v2), some (.int v3), some (.int v4), some (.int v5), some (.int v6)] [.int (nI s1), .ref 134] X := by
  refine ev_dup2 dX12_takes_81 rfl rfl ?_
  refine ev_iald dX12_takes_82 (by omega) ly_134 rfl b0 ?_
  refine ev_iload dX12_takes_83 rfl ?_
  refine ev_ifF (tgt := 94) dX12_takes_85 (by decide) c0 ?_
  refine ev_iconst (v := 1) dX12_takes_88 ki_1 ?_
  refine ev_iload_n dX12_takes_89 rfl ?_
  refine ev_ishl dX12_takes_90 ?_
  refine ev_goto (tgt := 95) dX12_takes_91 (by decide) ?_
  refine ev_ior dX12_takes_95 ?_
  refine ev_iast dX12_takes_96 (by omega) ly_134 rfl b1 ?_
  have hX1 : Sh _ (lx_up X 134 s1 ((X 134 s1) ||| (1 <<< (v1 &&& 31)))) := Sh.upA hX (by rw [ly_134]; exact (by decide : 0 < 2))
  refine ev_iload dX12_takes_97 rfl ?_
  refine ev_iload dX12_takes_99 rfl ?_
  refine ev_isub dX12_takes_101 ?_
  refine ev_istore dX12_takes_102 (by decide) ?_
  refine ev_iinc (v := v5 + 1) dX12_takes_104 rfl (by rw [show Int32.ofInt 1 = 1 from ki_1]) (by decide) ?_
  refine ev_goto (tgt := 6) dX12_takes_107 (by decide) ?_
  exact k
theorem bX12_takes_81_1 {g : GG} {d n0 nf : Nat} {post : Option Value → LX → Prop} {n : Nat} {X : LX} (hn : 146 ≤ n) (hX : Sh n X) {v1 : Int32} {v2 : Int32} {v3 : Int32} {v4 : Int32} {v5 : Int32} {v6 : Int32} {s1 : Nat} (b0 : s1 < 2156) (c0 : v6 ≤ 0) (b1 : s1 < 2156) (k : Ev g mX12_takes d n0 nf post n 6 [some (.ref 133), some (.int v1), some (.int v2), some (.int v3), some (.int (v4 - v6)), some (.int (v5 + 1)), some (.int v6)] [] (lx_up X 134 s1 ((X 134 s1) ||| 0))) : Ev g mX12_takes d n0 nf post n 81 [some (.ref 133), some (.int v1), some (.int v2), some (.int v3), some (.int v4), some (.int v5), some (.int v6)] [.int (nI s1), .ref 134] X := by
  refine ev_dup2 dX12_takes_81 rfl rfl ?_
  refine ev_iald dX12_takes_82 (by omega) ly_134 rfl b0 ?_
  refine ev_iload dX12_takes_83 rfl ?_
  refine ev_ifT (tgt := 94) dX12_takes_85 (by decide) c0 ?_
  refine ev_iconst (v := 0) dX12_takes_94 ki_0 ?_
  refine ev_ior dX12_takes_95 ?_
  refine ev_iast dX12_takes_96 (by omega) ly_134 rfl b1 ?_
  have hX1 : Sh _ (lx_up X 134 s1 ((X 134 s1) ||| 0)) := Sh.upA hX (by rw [ly_134]; exact (by decide : 0 < 2))
  refine ev_iload dX12_takes_97 rfl ?_
  refine ev_iload dX12_takes_99 rfl ?_
  refine ev_isub dX12_takes_101 ?_
  refine ev_istore dX12_takes_102 (by decide) ?_
  refine ev_iinc (v := v5 + 1) dX12_takes_104 rfl (by rw [show Int32.ofInt 1 = 1 from ki_1]) (by decide) ?_
  refine ev_goto (tgt := 6) dX12_takes_107 (by decide) ?_
  exact k
theorem bX12_takes_120_0 {g : GG} {d n0 nf : Nat} {post : Option Value → LX → Prop} {n : Nat} {X : LX} (hn : 146 ≤ nf) (hX : Sh nf X) {v1 : Int32} {v2 : Int32} {v3 : Int32} {v4 : Int32} {v5 : Int32} {s1 : Nat} (b0 : s1 < 2156) (b1 : s1 < 2156) (hp : post none (lx_up X 134 s1 ((X 134 s1) + v3))) : Ev g mX12_takes d n0 nf post nf 120 [some (.ref 133), some (.int v1), some (.int v2), some (.int v3), some (.int v4), some (.int v5), none] [.int (nI s1), .ref 134] X := by
  refine ev_dup2 dX12_takes_120 rfl rfl ?_
  refine ev_iald dX12_takes_121 (by omega) ly_134 rfl b0 ?_
  refine ev_iload_n dX12_takes_122 rfl ?_
  refine ev_iadd dX12_takes_123 ?_
  refine ev_iast dX12_takes_124 (by omega) ly_134 rfl b1 ?_
  have hX1 : Sh _ (lx_up X 134 s1 ((X 134 s1) + v3)) := Sh.upA hX (by rw [ly_134]; exact (by decide : 0 < 2))
  exact ev_ret dX12_takes_125 rfl hp
theorem bX12_pack_0_0 {g : GG} {d n0 nf : Nat} {post : Option Value → LX → Prop} {n : Nat} {X : LX} (hn : 146 ≤ n) (hX : Sh n X) {v1 : Int32} (k : Ev g mX12_pack d n0 nf post n 5 [some (.ref 133), some (.int v1), none, none, none, none] [.int 5000, .int 1, .int v1] X) : Ev g mX12_pack d n0 nf post n 0 [some (.ref 133), some (.int v1), none, none, none, none] [] X := by
  refine ev_iload_n dX12_pack_0 rfl ?_
  refine ev_iconst (v := 1) dX12_pack_1 ki_1 ?_
  refine ev_sipush (v := 5000) dX12_pack_2 ks_5000 ?_
  exact k
theorem bX12_pack_8_0 {g : GG} {d n0 nf : Nat} {post : Option Value → LX → Prop} {n : Nat} {X : LX} (hn : 146 ≤ nf) (hX : Sh nf X) {v1 : Int32} {s0 : Int32} (c0 : s0 = 0) (hp : post (some (.int (-1000000001))) X) : Ev g mX12_pack d n0 nf post nf 8 [some (.ref 133), some (.int v1), none, none, none, none] [.int s0] X := by
  refine ev_ifF (tgt := 14) dX12_pack_8 (by decide) c0 ?_
  refine ev_ldc (v := (-1000000001)) dX12_pack_11 kw_12_57 ?_
  exact ev_iret dX12_pack_13 rfl rfl hp
theorem bX12_pack_8_1 {g : GG} {d n0 nf : Nat} {post : Option Value → LX → Prop} {n : Nat} {X : LX} (hn : 146 ≤ nf) (hX : Sh nf X) {v1 : Int32} {s0 : Int32} (c0 : ¬ s0 = 0) (c1 : X 134 3 = 1) (hp : post (some (.int (-1000000002))) X) : Ev g mX12_pack d n0 nf post nf 8 [some (.ref 133), some (.int v1), none, none, none, none] [.int s0] X := by
  refine ev_ifT (tgt := 14) dX12_pack_8 (by decide) c0 ?_
  refine ev_aload_n dX12_pack_14 rfl ?_
  refine ev_getS (q := 134) dX12_pack_15 fo_12_9 (by omega) lo_133 rfl (sh_133_0 hX (by omega)) (by decide) ?_
  refine ev_iconst (v := 3) dX12_pack_18 ki_3 ?_
  refine ev_iald dX12_pack_19 (by omega) ly_134 nIl_3 (by decide) ?_
  refine ev_iconst (v := 1) dX12_pack_20 ki_1 ?_
  refine ev_icmpF (tgt := 27) dX12_pack_21 (by decide) c1 ?_
  refine ev_ldc (v := (-1000000002)) dX12_pack_24 kw_12_80 ?_
  exact ev_iret dX12_pack_26 rfl rfl hp
theorem bX12_pack_8_2 {g : GG} {d n0 nf : Nat} {post : Option Value → LX → Prop} {n : Nat} {X : LX} (hn : 146 ≤ n) (hX : Sh n X) {v1 : Int32} {s0 : Int32} (c0 : ¬ s0 = 0) (c1 : ¬ X 134 3 = 1) (k : Ev g mX12_pack d n0 nf post n 29 [some (.ref 133), some (.int v1), none, none, none, none] [.int v1, .ref 133] X) : Ev g mX12_pack d n0 nf post n 8 [some (.ref 133), some (.int v1), none, none, none, none] [.int s0] X := by
  refine ev_ifT (tgt := 14) dX12_pack_8 (by decide) c0 ?_
  refine ev_aload_n dX12_pack_14 rfl ?_
  refine ev_getS (q := 134) dX12_pack_15 fo_12_9 (by omega) lo_133 rfl (sh_133_0 hX (by omega)) (by decide) ?_
  refine ev_iconst (v := 3) dX12_pack_18 ki_3 ?_
  refine ev_iald dX12_pack_19 (by omega) ly_134 nIl_3 (by decide) ?_
  refine ev_iconst (v := 1) dX12_pack_20 ki_1 ?_
  refine ev_icmpT (tgt := 27) dX12_pack_21 (by decide) c1 ?_
  refine ev_aload_n dX12_pack_27 rfl ?_
  refine ev_iload_n dX12_pack_28 rfl ?_
  exact k
theorem bX12_pack_32_0 {g : GG} {d n0 nf : Nat} {post : Option Value → LX → Prop} {n : Nat} {X : LX} (hn : 146 ≤ nf) (hX : Sh nf X) {v1 : Int32} {s0 : Int32} (c0 : ¬ s0 = 0) (hp : post (some (.int s0)) X) : Ev g mX12_pack d n0 nf post nf 32 [some (.ref 133), some (.int v1), none, none, none, none] [.int s0] X := by
  refine ev_istore_n dX12_pack_32 (by decide) ?_
  refine ev_iload_n dX12_pack_33 rfl ?_
  refine ev_ifF (tgt := 39) dX12_pack_34 (by decide) c0 ?_
  refine ev_iload_n dX12_pack_37 rfl ?_
  exact ev_iret dX12_pack_38 rfl rfl hp
theorem bX12_pack_32_1 {g : GG} {d n0 nf : Nat} {post : Option Value → LX → Prop} {n : Nat} {X : LX} (hn : 146 ≤ n) (hX : Sh n X) {v1 : Int32} {s0 : Int32} (c0 : s0 = 0) (k : Ev g mX12_pack d n0 nf post n 44 [some (.ref 133), some (.int v1), some (.int s0), some (.int 0), some (.int 0), none] [] X) : Ev g mX12_pack d n0 nf post n 32 [some (.ref 133), some (.int v1), none, none, none, none] [.int s0] X := by
  refine ev_istore_n dX12_pack_32 (by decide) ?_
  refine ev_iload_n dX12_pack_33 rfl ?_
  refine ev_ifT (tgt := 39) dX12_pack_34 (by decide) c0 ?_
  refine ev_iconst (v := 0) dX12_pack_39 ki_0 ?_
  refine ev_istore_n dX12_pack_40 (by decide) ?_
  refine ev_iconst (v := 0) dX12_pack_41 ki_0 ?_
  refine ev_istore dX12_pack_42 (by decide) ?_
  exact k
theorem bX12_pack_44_0 {g : GG} {d n0 nf : Nat} {post : Option Value → LX → Prop} {n : Nat} {X : LX} (hn : 146 ≤ n) (hX : Sh n X) {v1 : Int32} {v2 : Int32} {v3 : Int32} {v4 : Nat} (c0 : ¬ X 134 6 ≤ nI v4) (b0 : v4 < 12) (c1 : ¬ X 144 v4 < 0) (b1 : v4 < 12) (b2 : v4 < 12) (k : Ev g mX12_pack d n0 nf post n 89 [some (.ref 133), some (.int v1), some (.int v2), some (.int v3), some (.int (nI v4)), none] [.int ((X 144 v4) - (X 144 v4) / 100 * 100), .int ((X 144 v4) / 100), .int (nI v4), .ref 133] X) : Ev g mX12_pack d n0 nf post n 44 [some (.ref 133), some (.int v1), some (.int v2), some (.int v3), some (.int (nI v4)), none] [] X := by
  refine ev_iload dX12_pack_44 rfl ?_
  refine ev_aload_n dX12_pack_46 rfl ?_
  refine ev_getS (q := 134) dX12_pack_47 fo_12_9 (by omega) lo_133 rfl (sh_133_0 hX (by omega)) (by decide) ?_
  refine ev_bipush (v := 6) dX12_pack_50 kb_6 ?_
  refine ev_iald dX12_pack_52 (by omega) ly_134 nIl_6 (by decide) ?_
  refine ev_icmpF (tgt := 155) dX12_pack_53 (by decide) c0 ?_
  refine ev_aload_n dX12_pack_56 rfl ?_
  refine ev_getS (q := 144) dX12_pack_57 fo_12_46 (by omega) lo_133 rfl (sh_133_27 hX (by omega)) (by decide) ?_
  refine ev_iload dX12_pack_60 rfl ?_
  refine ev_iald dX12_pack_62 (by omega) ly_144 rfl b0 ?_
  refine ev_ifF (tgt := 92) dX12_pack_63 (by decide) c1 ?_
  refine ev_aload_n dX12_pack_66 rfl ?_
  refine ev_iload dX12_pack_67 rfl ?_
  refine ev_aload_n dX12_pack_69 rfl ?_
  refine ev_getS (q := 144) dX12_pack_70 fo_12_46 (by omega) lo_133 rfl (sh_133_27 hX (by omega)) (by decide) ?_
  refine ev_iload dX12_pack_73 rfl ?_
  refine ev_iald dX12_pack_75 (by omega) ly_144 rfl b1 ?_
  refine ev_bipush (v := 100) dX12_pack_76 kb_100 ?_
  refine ev_idiv dX12_pack_78 (by decide) ?_
  refine ev_aload_n dX12_pack_79 rfl ?_
  refine ev_getS (q := 144) dX12_pack_80 fo_12_46 (by omega) lo_133 rfl (sh_133_27 hX (by omega)) (by decide) ?_
  refine ev_iload dX12_pack_83 rfl ?_
  refine ev_iald dX12_pack_85 (by omega) ly_144 rfl b2 ?_
  refine ev_bipush (v := 100) dX12_pack_86 kb_100 ?_
  refine ev_irem dX12_pack_88 (by decide) ?_
  exact k
theorem bX12_pack_44_1 {g : GG} {d n0 nf : Nat} {post : Option Value → LX → Prop} {n : Nat} {X : LX} (hn : 146 ≤ n) (hX : Sh n X) {v1 : Int32} {v2 : Int32} {v3 : Int32} {v4 : Nat} (c0 : ¬ X 134 6 ≤ nI v4) (b0 : v4 < 12) (c1 : X 144 v4 < 0) (k : Ev g mX12_pack d n0 nf post n 95 [some (.ref 133), some (.int v1), some (.int v2), some (.int v3), some (.int (nI v4)), some (.int 0)] [] X) : Ev g mX12_pack d n0 nf post n 44 [some (.ref 133), some (.int v1), some (.int v2), some (.int v3), some (.int (nI v4)), none] [] X := by
  refine ev_iload dX12_pack_44 rfl ?_
  refine ev_aload_n dX12_pack_46 rfl ?_
  refine ev_getS (q := 134) dX12_pack_47 fo_12_9 (by omega) lo_133 rfl (sh_133_0 hX (by omega)) (by decide) ?_
  refine ev_bipush (v := 6) dX12_pack_50 kb_6 ?_
  refine ev_iald dX12_pack_52 (by omega) ly_134 nIl_6 (by decide) ?_
  refine ev_icmpF (tgt := 155) dX12_pack_53 (by decide) c0 ?_
  refine ev_aload_n dX12_pack_56 rfl ?_
  refine ev_getS (q := 144) dX12_pack_57 fo_12_46 (by omega) lo_133 rfl (sh_133_27 hX (by omega)) (by decide) ?_
  refine ev_iload dX12_pack_60 rfl ?_
  refine ev_iald dX12_pack_62 (by omega) ly_144 rfl b0 ?_
  refine ev_ifT (tgt := 92) dX12_pack_63 (by decide) c1 ?_
  refine ev_iconst (v := 0) dX12_pack_92 ki_0 ?_
  refine ev_istore dX12_pack_93 (by decide) ?_
  exact k
theorem bX12_pack_44_2 {g : GG} {d n0 nf : Nat} {post : Option Value → LX → Prop} {n : Nat} {X : LX} (hn : 146 ≤ n) (hX : Sh n X) {v1 : Int32} {v2 : Int32} {v3 : Int32} {v4 : Nat} (c0 : X 134 6 ≤ nI v4) (k : Ev g mX12_pack d n0 nf post n 158 [some (.ref 133), some (.int v1), some (.int v2), some (.int v3), some (.int 0), none] [] X) : Ev g mX12_pack d n0 nf post n 44 [some (.ref 133), some (.int v1), some (.int v2), some (.int v3), some (.int (nI v4)), none] [] X := by
  refine ev_iload dX12_pack_44 rfl ?_
  refine ev_aload_n dX12_pack_46 rfl ?_
  refine ev_getS (q := 134) dX12_pack_47 fo_12_9 (by omega) lo_133 rfl (sh_133_0 hX (by omega)) (by decide) ?_
  refine ev_bipush (v := 6) dX12_pack_50 kb_6 ?_
  refine ev_iald dX12_pack_52 (by omega) ly_134 nIl_6 (by decide) ?_
  refine ev_icmpT (tgt := 155) dX12_pack_53 (by decide) c0 ?_
  refine ev_iconst (v := 0) dX12_pack_155 ki_0 ?_
  refine ev_istore dX12_pack_156 (by decide) ?_
  exact k
theorem bX12_pack_92_0 {g : GG} {d n0 nf : Nat} {post : Option Value → LX → Prop} {n : Nat} {X : LX} (hn : 146 ≤ n) (hX : Sh n X) {v1 : Int32} {v2 : Int32} {v3 : Int32} {v4 : Int32} (k : Ev g mX12_pack d n0 nf post n 95 [some (.ref 133), some (.int v1), some (.int v2), some (.int v3), some (.int v4), some (.int 0)] [] X) : Ev g mX12_pack d n0 nf post n 92 [some (.ref 133), some (.int v1), some (.int v2), some (.int v3), some (.int v4), none] [] X := by
  refine ev_iconst (v := 0) dX12_pack_92 ki_0 ?_
  refine ev_istore dX12_pack_93 (by decide) ?_
  exact k
theorem bX12_pack_95_0 {g : GG} {d n0 nf : Nat} {post : Option Value → LX → Prop} {n : Nat} {X : LX} (hn : 146 ≤ n) (hX : Sh n X) {v1 : Int32} {v2 : Int32} {v3 : Int32} {v4 : Int32} {v5 : Int32} {j1 : Nat} (c0 : ¬ X 134 4 ≤ v5) (hj1 : (14 * v4) + v5 = nI j1) (b0 : j1 < 168) (k : Ev g mX12_pack d n0 nf post n 124 [some (.ref 133), some (.int v1), some (.int v2), some (.int v3), some (.int v4), some (.int v5)] [.int (X 140 j1), .int v5, .int v4, .ref 133] X) : Ev g mX12_pack d n0 nf post n 95 [some (.ref 133), some (.int v1), some (.int v2), some (.int v3), some (.int v4), some (.int v5)] [] X := by
  refine ev_iload dX12_pack_95 rfl ?_
  refine ev_aload_n dX12_pack_97 rfl ?_
  refine ev_getS (q := 134) dX12_pack_98 fo_12_9 (by omega) lo_133 rfl (sh_133_0 hX (by omega)) (by decide) ?_
  refine ev_iconst (v := 4) dX12_pack_101 ki_4 ?_
  refine ev_iald dX12_pack_102 (by omega) ly_134 nIl_4 (by decide) ?_
  refine ev_icmpF (tgt := 149) dX12_pack_103 (by decide) c0 ?_
  refine ev_aload_n dX12_pack_106 rfl ?_
  refine ev_iload dX12_pack_107 rfl ?_
  refine ev_iload dX12_pack_109 rfl ?_
  refine ev_aload_n dX12_pack_111 rfl ?_
  refine ev_getS (q := 140) dX12_pack_112 fo_12_28 (by omega) lo_133 rfl (sh_133_9 hX (by omega)) (by decide) ?_
  refine ev_bipush (v := 14) dX12_pack_115 kb_14 ?_
  refine ev_iload dX12_pack_117 rfl ?_
  refine ev_imul dX12_pack_119 ?_
  refine ev_iload dX12_pack_120 rfl ?_
  refine ev_iadd dX12_pack_122 ?_
  refine ev_iald dX12_pack_123 (by omega) ly_140 hj1 b0 ?_
  exact k
theorem bX12_pack_95_1 {g : GG} {d n0 nf : Nat} {post : Option Value → LX → Prop} {n : Nat} {X : LX} (hn : 146 ≤ n) (hX : Sh n X) {v1 : Int32} {v2 : Int32} {v3 : Int32} {v4 : Int32} {v5 : Int32} (c0 : X 134 4 ≤ v5) (k : Ev g mX12_pack d n0 nf post n 44 [some (.ref 133), some (.int v1), some (.int v2), some (.int v3), some (.int (v4 + 1)), some (.int v5)] [] X) : Ev g mX12_pack d n0 nf post n 95 [some (.ref 133), some (.int v1), some (.int v2), some (.int v3), some (.int v4), some (.int v5)] [] X := by
  refine ev_iload dX12_pack_95 rfl ?_
  refine ev_aload_n dX12_pack_97 rfl ?_
  refine ev_getS (q := 134) dX12_pack_98 fo_12_9 (by omega) lo_133 rfl (sh_133_0 hX (by omega)) (by decide) ?_
  refine ev_iconst (v := 4) dX12_pack_101 ki_4 ?_
  refine ev_iald dX12_pack_102 (by omega) ly_134 nIl_4 (by decide) ?_
  refine ev_icmpT (tgt := 149) dX12_pack_103 (by decide) c0 ?_
  refine ev_iinc (v := v4 + 1) dX12_pack_149 rfl (by rw [show Int32.ofInt 1 = 1 from ki_1]) (by decide) ?_
  refine ev_goto (tgt := 44) dX12_pack_152 (by decide) ?_
  exact k
theorem bX12_pack_127_0 {g : GG} {d n0 nf : Nat} {post : Option Value → LX → Prop} {n : Nat} {X : LX} (hn : 146 ≤ n) (hX : Sh n X) {v1 : Int32} {v2 : Int32} {v3 : Int32} {v4 : Int32} {v5 : Int32} {j1 : Nat} (hj1 : (14 * v4) + v5 = nI j1) (b0 : j1 < 168) (k : Ev g mX12_pack d n0 nf post n 95 [some (.ref 133), some (.int v1), some (.int v2), some (.int (v3 + (X 140 j1))), some (.int v4), some (.int (v5 + 1))] [] X) : Ev g mX12_pack d n0 nf post n 127 [some (.ref 133), some (.int v1), some (.int v2), some (.int v3), some (.int v4), some (.int v5)] [] X := by
  refine ev_iload_n dX12_pack_127 rfl ?_
  refine ev_aload_n dX12_pack_128 rfl ?_
  refine ev_getS (q := 140) dX12_pack_129 fo_12_28 (by omega) lo_133 rfl (sh_133_9 hX (by omega)) (by decide) ?_
  refine ev_bipush (v := 14) dX12_pack_132 kb_14 ?_
  refine ev_iload dX12_pack_134 rfl ?_
  refine ev_imul dX12_pack_136 ?_
  refine ev_iload dX12_pack_137 rfl ?_
  refine ev_iadd dX12_pack_139 ?_
  refine ev_iald dX12_pack_140 (by omega) ly_140 hj1 b0 ?_
  refine ev_iadd dX12_pack_141 ?_
  refine ev_istore_n dX12_pack_142 (by decide) ?_
  refine ev_iinc (v := v5 + 1) dX12_pack_143 rfl (by rw [show Int32.ofInt 1 = 1 from ki_1]) (by decide) ?_
  refine ev_goto (tgt := 95) dX12_pack_146 (by decide) ?_
  exact k
theorem bX12_pack_158_0 {g : GG} {d n0 nf : Nat} {post : Option Value → LX → Prop} {n : Nat} {X : LX} (hn : 146 ≤ n) (hX : Sh n X) {v1 : Int32} {v2 : Int32} {v3 : Int32} {v4 : Int32} (c0 : ¬ X 134 6 ≤ v4) (k : Ev g mX12_pack d n0 nf post n 193 [some (.ref 133), some (.int v1), some (.int v2), some (.int v3), some (.int v4), none] [.int v4, .ref 133, .int ((828 + (12 * (X 134 0))) + v4), .ref 134] X) : Ev g mX12_pack d n0 nf post n 158 [some (.ref 133), some (.int v1), some (.int v2), some (.int v3), some (.int v4), none] [] X := by
  refine ev_iload dX12_pack_158 rfl ?_
  refine ev_aload_n dX12_pack_160 rfl ?_
  refine ev_getS (q := 134) dX12_pack_161 fo_12_9 (by omega) lo_133 rfl (sh_133_0 hX (by omega)) (by decide) ?_
  refine ev_bipush (v := 6) dX12_pack_164 kb_6 ?_
  refine ev_iald dX12_pack_166 (by omega) ly_134 nIl_6 (by decide) ?_
  refine ev_icmpF (tgt := 203) dX12_pack_167 (by decide) c0 ?_
  refine ev_aload_n dX12_pack_170 rfl ?_
  refine ev_getS (q := 134) dX12_pack_171 fo_12_9 (by omega) lo_133 rfl (sh_133_0 hX (by omega)) (by decide) ?_
  refine ev_sipush (v := 828) dX12_pack_174 ks_828 ?_
  refine ev_bipush (v := 12) dX12_pack_177 kb_12 ?_
  refine ev_aload_n dX12_pack_179 rfl ?_
  refine ev_getS (q := 134) dX12_pack_180 fo_12_9 (by omega) lo_133 rfl (sh_133_0 hX (by omega)) (by decide) ?_
  refine ev_iconst (v := 0) dX12_pack_183 ki_0 ?_
  refine ev_iald dX12_pack_184 (by omega) ly_134 nIl_0 (by decide) ?_
  refine ev_imul dX12_pack_185 ?_
  refine ev_iadd dX12_pack_186 ?_
  refine ev_iload dX12_pack_187 rfl ?_
  refine ev_iadd dX12_pack_189 ?_
  refine ev_aload_n dX12_pack_190 rfl ?_
  refine ev_iload dX12_pack_191 rfl ?_
  exact k
theorem bX12_pack_158_1 {g : GG} {d n0 nf : Nat} {post : Option Value → LX → Prop} {n : Nat} {X : LX} (hn : 146 ≤ nf) (hX : Sh nf X) {v1 : Int32} {v2 : Int32} {v3 : Int32} {v4 : Int32} (c0 : X 134 6 ≤ v4) (hp : post (some (.int v3)) (lx_up X 134 3 1)) : Ev g mX12_pack d n0 nf post nf 158 [some (.ref 133), some (.int v1), some (.int v2), some (.int v3), some (.int v4), none] [] X := by
  refine ev_iload dX12_pack_158 rfl ?_
  refine ev_aload_n dX12_pack_160 rfl ?_
  refine ev_getS (q := 134) dX12_pack_161 fo_12_9 (by omega) lo_133 rfl (sh_133_0 hX (by omega)) (by decide) ?_
  refine ev_bipush (v := 6) dX12_pack_164 kb_6 ?_
  refine ev_iald dX12_pack_166 (by omega) ly_134 nIl_6 (by decide) ?_
  refine ev_icmpT (tgt := 203) dX12_pack_167 (by decide) c0 ?_
  refine ev_aload_n dX12_pack_203 rfl ?_
  refine ev_getS (q := 134) dX12_pack_204 fo_12_9 (by omega) lo_133 rfl (sh_133_0 hX (by omega)) (by decide) ?_
  refine ev_iconst (v := 3) dX12_pack_207 ki_3 ?_
  refine ev_iconst (v := 1) dX12_pack_208 ki_1 ?_
  refine ev_iast dX12_pack_209 (by omega) ly_134 nIl_3 (by decide) ?_
  have hX1 : Sh _ (lx_up X 134 3 1) := Sh.upA hX (by rw [ly_134]; exact (by decide : 0 < 2))
  refine ev_iload_n dX12_pack_210 rfl ?_
  exact ev_iret dX12_pack_211 rfl rfl hp
theorem bX12_pack_196_0 {g : GG} {d n0 nf : Nat} {post : Option Value → LX → Prop} {n : Nat} {X : LX} (hn : 146 ≤ n) (hX : Sh n X) {v1 : Int32} {v2 : Int32} {v3 : Int32} {v4 : Int32} {s1 : Nat} {s2 : Int32} (b0 : s1 < 2156) (k : Ev g mX12_pack d n0 nf post n 158 [some (.ref 133), some (.int v1), some (.int v2), some (.int v3), some (.int (v4 + 1)), none] [] (lx_up X 134 s1 s2)) : Ev g mX12_pack d n0 nf post n 196 [some (.ref 133), some (.int v1), some (.int v2), some (.int v3), some (.int v4), none] [.int s2, .int (nI s1), .ref 134] X := by
  refine ev_iast dX12_pack_196 (by omega) ly_134 rfl b0 ?_
  have hX1 : Sh _ (lx_up X 134 s1 s2) := Sh.upA hX (by rw [ly_134]; exact (by decide : 0 < 2))
  refine ev_iinc (v := v4 + 1) dX12_pack_197 rfl (by rw [show Int32.ofInt 1 = 1 from ki_1]) (by decide) ?_
  refine ev_goto (tgt := 158) dX12_pack_200 (by decide) ?_
  exact k
theorem bX12_throwLeft_0_0 {g : GG} {d n0 nf : Nat} {post : Option Value → LX → Prop} {n : Nat} {X : LX} (hn : 146 ≤ n) (hX : Sh n X) {v1 : Int32} (k : Ev g mX12_throwLeft d n0 nf post n 10 [some (.ref 133), some (.int v1)] [.int 0, .int v1, .ref 134, .ref 134] X) : Ev g mX12_throwLeft d n0 nf post n 0 [some (.ref 133), some (.int v1)] [] X := by
  refine ev_aload_n dX12_throwLeft_0 rfl ?_
  refine ev_getS (q := 134) dX12_throwLeft_1 fo_12_9 (by omega) lo_133 rfl (sh_133_0 hX (by omega)) (by decide) ?_
  refine ev_aload_n dX12_throwLeft_4 rfl ?_
  refine ev_getS (q := 134) dX12_throwLeft_5 fo_12_9 (by omega) lo_133 rfl (sh_133_0 hX (by omega)) (by decide) ?_
  refine ev_iload_n dX12_throwLeft_8 rfl ?_
  refine ev_iconst (v := 0) dX12_throwLeft_9 ki_0 ?_
  exact k
theorem bX12_throwLeft_13_0 {g : GG} {d n0 nf : Nat} {post : Option Value → LX → Prop} {n : Nat} {X : LX} (hn : 146 ≤ n) (hX : Sh n X) {v1 : Int32} {s2 : Nat} (b0 : s2 < 2156) (k : Ev g mX12_throwLeft d n0 nf post n 16 [some (.ref 133), some (.int v1)] [.int 7, .int (X 134 s2), .ref 134] X) : Ev g mX12_throwLeft d n0 nf post n 13 [some (.ref 133), some (.int v1)] [.int (nI s2), .ref 134, .ref 134] X := by
  refine ev_iald dX12_throwLeft_13 (by omega) ly_134 rfl b0 ?_
  refine ev_bipush (v := 7) dX12_throwLeft_14 kb_7 ?_
  exact k
theorem bX12_throwLeft_19_0 {g : GG} {d n0 nf : Nat} {post : Option Value → LX → Prop} {n : Nat} {X : LX} (hn : 146 ≤ n) (hX : Sh n X) {v1 : Int32} {s1 : Nat} (b0 : s1 < 2156) (k : Ev g mX12_throwLeft d n0 nf post n 27 [some (.ref 133), some (.int v1)] [.int 3, .int v1, .ref 134, .int (X 134 s1), .int (nI s1), .ref 134] X) : Ev g mX12_throwLeft d n0 nf post n 19 [some (.ref 133), some (.int v1)] [.int (nI s1), .ref 134] X := by
  refine ev_dup2 dX12_throwLeft_19 rfl rfl ?_
  refine ev_iald dX12_throwLeft_20 (by omega) ly_134 rfl b0 ?_
  refine ev_aload_n dX12_throwLeft_21 rfl ?_
  refine ev_getS (q := 134) dX12_throwLeft_22 fo_12_9 (by omega) lo_133 rfl (sh_133_0 hX (by omega)) (by decide) ?_
  refine ev_iload_n dX12_throwLeft_25 rfl ?_
  refine ev_iconst (v := 3) dX12_throwLeft_26 ki_3 ?_
  exact k
theorem bX12_throwLeft_30_0 {g : GG} {d n0 nf : Nat} {post : Option Value → LX → Prop} {n : Nat} {X : LX} (hn : 146 ≤ n) (hX : Sh n X) {v1 : Int32} {s1 : Nat} {s2 : Int32} {s4 : Nat} (b0 : s4 < 2156) (b1 : s1 < 2156) (k : Ev g mX12_throwLeft d n0 nf post n 39 [some (.ref 133), some (.int v1)] [.int 3, .int v1, .ref 134] (lx_up X 134 s1 (s2 + (X 134 s4)))) : Ev g mX12_throwLeft d n0 nf post n 30 [some (.ref 133), some (.int v1)] [.int (nI s4), .ref 134, .int s2, .int (nI s1), .ref 134] X := by
  refine ev_iald dX12_throwLeft_30 (by omega) ly_134 rfl b0 ?_
  refine ev_iadd dX12_throwLeft_31 ?_
  refine ev_iast dX12_throwLeft_32 (by omega) ly_134 rfl b1 ?_
  have hX1 : Sh _ (lx_up X 134 s1 (s2 + (X 134 s4))) := Sh.upA hX (by rw [ly_134]; exact (by decide : 0 < 2))
  refine ev_aload_n dX12_throwLeft_33 rfl ?_
  refine ev_getS (q := 134) dX12_throwLeft_34 fo_12_9 (by omega) lo_133 rfl (sh_133_0 hX1 (by omega)) (by decide) ?_
  refine ev_iload_n dX12_throwLeft_37 rfl ?_
  refine ev_iconst (v := 3) dX12_throwLeft_38 ki_3 ?_
  exact k
theorem bX12_throwLeft_42_0 {g : GG} {d n0 nf : Nat} {post : Option Value → LX → Prop} {n : Nat} {X : LX} (hn : 146 ≤ nf) (hX : Sh nf X) {v1 : Int32} {s1 : Nat} (b0 : s1 < 2156) (hp : post none (lx_up X 134 s1 0)) : Ev g mX12_throwLeft d n0 nf post nf 42 [some (.ref 133), some (.int v1)] [.int (nI s1), .ref 134] X := by
  refine ev_iconst (v := 0) dX12_throwLeft_42 ki_0 ?_
  refine ev_iast dX12_throwLeft_43 (by omega) ly_134 rfl b0 ?_
  have hX1 : Sh _ (lx_up X 134 s1 0) := Sh.upA hX (by rw [ly_134]; exact (by decide : 0 < 2))
  exact ev_ret dX12_throwLeft_44 rfl hp
theorem bX12_recall_0_0 {g : GG} {d n0 nf : Nat} {post : Option Value → LX → Prop} {n : Nat} {X : LX} (hn : 146 ≤ n) (hX : Sh n X) {v1 : Int32} (k : Ev g mX12_recall d n0 nf post n 11 [some (.ref 133), some (.int v1)] [.int ((X 134 7) - 1), .int 0, .int v1] X) : Ev g mX12_recall d n0 nf post n 0 [some (.ref 133), some (.int v1)] [] X := by
  refine ev_iload_n dX12_recall_0 rfl ?_
  refine ev_iconst (v := 0) dX12_recall_1 ki_0 ?_
  refine ev_aload_n dX12_recall_2 rfl ?_
  refine ev_getS (q := 134) dX12_recall_3 fo_12_9 (by omega) lo_133 rfl (sh_133_0 hX (by omega)) (by decide) ?_
  refine ev_bipush (v := 7) dX12_recall_6 kb_7 ?_
  refine ev_iald dX12_recall_8 (by omega) ly_134 nIl_7 (by decide) ?_
  refine ev_iconst (v := 1) dX12_recall_9 ki_1 ?_
  refine ev_isub dX12_recall_10 ?_
  exact k
theorem bX12_recall_14_0 {g : GG} {d n0 nf : Nat} {post : Option Value → LX → Prop} {n : Nat} {X : LX} (hn : 146 ≤ nf) (hX : Sh nf X) {v1 : Int32} {s0 : Int32} (c0 : s0 = 0) (hp : post (some (.int (-1000000001))) X) : Ev g mX12_recall d n0 nf post nf 14 [some (.ref 133), some (.int v1)] [.int s0] X := by
  refine ev_ifF (tgt := 20) dX12_recall_14 (by decide) c0 ?_
  refine ev_ldc (v := (-1000000001)) dX12_recall_17 kw_12_57 ?_
  exact ev_iret dX12_recall_19 rfl rfl hp
theorem bX12_recall_14_1 {g : GG} {d n0 nf : Nat} {post : Option Value → LX → Prop} {n : Nat} {X : LX} (hn : 146 ≤ n) (hX : Sh n X) {v1 : Int32} {s0 : Int32} (c0 : ¬ s0 = 0) (k : Ev g mX12_recall d n0 nf post n 22 [some (.ref 133), some (.int v1)] [.int v1, .ref 133] X) : Ev g mX12_recall d n0 nf post n 14 [some (.ref 133), some (.int v1)] [.int s0] X := by
  refine ev_ifT (tgt := 20) dX12_recall_14 (by decide) c0 ?_
  refine ev_aload_n dX12_recall_20 rfl ?_
  refine ev_iload_n dX12_recall_21 rfl ?_
  exact k
theorem bX12_recall_25_0 {g : GG} {d n0 nf : Nat} {post : Option Value → LX → Prop} {n : Nat} {X : LX} (hn : 146 ≤ n) (hX : Sh n X) {v1 : Int32} (k : Ev g mX12_recall d n0 nf post n 31 [some (.ref 133), some (.int v1)] [.int 4, .int v1, .ref 134] X) : Ev g mX12_recall d n0 nf post n 25 [some (.ref 133), some (.int v1)] [] X := by
  refine ev_aload_n dX12_recall_25 rfl ?_
  refine ev_getS (q := 134) dX12_recall_26 fo_12_9 (by omega) lo_133 rfl (sh_133_0 hX (by omega)) (by decide) ?_
  refine ev_iload_n dX12_recall_29 rfl ?_
  refine ev_iconst (v := 4) dX12_recall_30 ki_4 ?_
  exact k
theorem bX12_recall_34_0 {g : GG} {d n0 nf : Nat} {post : Option Value → LX → Prop} {n : Nat} {X : LX} (hn : 146 ≤ nf) (hX : Sh nf X) {v1 : Int32} {s1 : Nat} (b0 : s1 < 2156) (hp : post (some (.int (X 134 s1))) X) : Ev g mX12_recall d n0 nf post nf 34 [some (.ref 133), some (.int v1)] [.int (nI s1), .ref 134] X := by
  refine ev_iald dX12_recall_34 (by omega) ly_134 rfl b0 ?_
  exact ev_iret dX12_recall_35 rfl rfl hp
theorem bX12_end_0_0 {g : GG} {d n0 nf : Nat} {post : Option Value → LX → Prop} {n : Nat} {X : LX} (hn : 146 ≤ nf) (hX : Sh nf X)  (c0 : X 134 0 = 99) (hp : post (some (.int (-1000000002))) X) : Ev g mX12_end d n0 nf post nf 0 [some (.ref 133), none] [] X := by
  refine ev_aload_n dX12_end_0 rfl ?_
  refine ev_getS (q := 134) dX12_end_1 fo_12_9 (by omega) lo_133 rfl (sh_133_0 hX (by omega)) (by decide) ?_
  refine ev_iconst (v := 0) dX12_end_4 ki_0 ?_
  refine ev_iald dX12_end_5 (by omega) ly_134 nIl_0 (by decide) ?_
  refine ev_bipush (v := 99) dX12_end_6 kb_99 ?_
  refine ev_icmpF (tgt := 14) dX12_end_8 (by decide) c0 ?_
  refine ev_ldc (v := (-1000000002)) dX12_end_11 kw_12_80 ?_
  exact ev_iret dX12_end_13 rfl rfl hp
theorem bX12_end_0_1 {g : GG} {d n0 nf : Nat} {post : Option Value → LX → Prop} {n : Nat} {X : LX} (hn : 146 ≤ n) (hX : Sh n X)  (c0 : ¬ X 134 0 = 99) (k : Ev g mX12_end d n0 nf post n 16 [some (.ref 133), some (.int 0)] [] X) : Ev g mX12_end d n0 nf post n 0 [some (.ref 133), none] [] X := by
  refine ev_aload_n dX12_end_0 rfl ?_
  refine ev_getS (q := 134) dX12_end_1 fo_12_9 (by omega) lo_133 rfl (sh_133_0 hX (by omega)) (by decide) ?_
  refine ev_iconst (v := 0) dX12_end_4 ki_0 ?_
  refine ev_iald dX12_end_5 (by omega) ly_134 nIl_0 (by decide) ?_
  refine ev_bipush (v := 99) dX12_end_6 kb_99 ?_
  refine ev_icmpT (tgt := 14) dX12_end_8 (by decide) c0 ?_
  refine ev_iconst (v := 0) dX12_end_14 ki_0 ?_
  refine ev_istore_n dX12_end_15 (by decide) ?_
  exact k
theorem bX12_end_16_0 {g : GG} {d n0 nf : Nat} {post : Option Value → LX → Prop} {n : Nat} {X : LX} (hn : 146 ≤ n) (hX : Sh n X) {v1 : Int32} (c0 : ¬ X 134 7 ≤ v1) (k : Ev g mX12_end d n0 nf post n 33 [some (.ref 133), some (.int v1)] [.int 2, .int v1, .ref 134] X) : Ev g mX12_end d n0 nf post n 16 [some (.ref 133), some (.int v1)] [] X := by
  refine ev_iload_n dX12_end_16 rfl ?_
  refine ev_aload_n dX12_end_17 rfl ?_
  refine ev_getS (q := 134) dX12_end_18 fo_12_9 (by omega) lo_133 rfl (sh_133_0 hX (by omega)) (by decide) ?_
  refine ev_bipush (v := 7) dX12_end_21 kb_7 ?_
  refine ev_iald dX12_end_23 (by omega) ly_134 nIl_7 (by decide) ?_
  refine ev_icmpF (tgt := 77) dX12_end_24 (by decide) c0 ?_
  refine ev_aload_n dX12_end_27 rfl ?_
  refine ev_getS (q := 134) dX12_end_28 fo_12_9 (by omega) lo_133 rfl (sh_133_0 hX (by omega)) (by decide) ?_
  refine ev_iload_n dX12_end_31 rfl ?_
  refine ev_iconst (v := 2) dX12_end_32 ki_2 ?_
  exact k
theorem bX12_end_16_1 {g : GG} {d n0 nf : Nat} {post : Option Value → LX → Prop} {n : Nat} {X : LX} (hn : 146 ≤ n) (hX : Sh n X) {v1 : Int32} (c0 : X 134 7 ≤ v1) (k : Ev g mX12_end d n0 nf post n 104 [some (.ref 133), some (.int 0)] [] (lx_up (lx_up (lx_up X 134 0 ((X 134 0) + 1)) 134 3 0) 134 8 0)) : Ev g mX12_end d n0 nf post n 16 [some (.ref 133), some (.int v1)] [] X := by
  refine ev_iload_n dX12_end_16 rfl ?_
  refine ev_aload_n dX12_end_17 rfl ?_
  refine ev_getS (q := 134) dX12_end_18 fo_12_9 (by omega) lo_133 rfl (sh_133_0 hX (by omega)) (by decide) ?_
  refine ev_bipush (v := 7) dX12_end_21 kb_7 ?_
  refine ev_iald dX12_end_23 (by omega) ly_134 nIl_7 (by decide) ?_
  refine ev_icmpT (tgt := 77) dX12_end_24 (by decide) c0 ?_
  refine ev_aload_n dX12_end_77 rfl ?_
  refine ev_getS (q := 134) dX12_end_78 fo_12_9 (by omega) lo_133 rfl (sh_133_0 hX (by omega)) (by decide) ?_
  refine ev_iconst (v := 0) dX12_end_81 ki_0 ?_
  refine ev_dup2 dX12_end_82 rfl rfl ?_
  refine ev_iald dX12_end_83 (by omega) ly_134 nIl_0 (by decide) ?_
  refine ev_iconst (v := 1) dX12_end_84 ki_1 ?_
  refine ev_iadd dX12_end_85 ?_
  refine ev_iast dX12_end_86 (by omega) ly_134 nIl_0 (by decide) ?_
  have hX1 : Sh _ (lx_up X 134 0 ((X 134 0) + 1)) := Sh.upA hX (by rw [ly_134]; exact (by decide : 0 < 2))
  refine ev_aload_n dX12_end_87 rfl ?_
  refine ev_getS (q := 134) dX12_end_88 fo_12_9 (by omega) lo_133 rfl (sh_133_0 hX1 (by omega)) (by decide) ?_
  refine ev_iconst (v := 3) dX12_end_91 ki_3 ?_
  refine ev_iconst (v := 0) dX12_end_92 ki_0 ?_
  refine ev_iast dX12_end_93 (by omega) ly_134 nIl_3 (by decide) ?_
  have hX2 : Sh _ (lx_up (lx_up X 134 0 ((X 134 0) + 1)) 134 3 0) := Sh.upA hX1 (by rw [ly_134]; exact (by decide : 0 < 2))
  refine ev_aload_n dX12_end_94 rfl ?_
  refine ev_getS (q := 134) dX12_end_95 fo_12_9 (by omega) lo_133 rfl (sh_133_0 hX2 (by omega)) (by decide) ?_
  refine ev_bipush (v := 8) dX12_end_98 kb_8 ?_
  refine ev_iconst (v := 0) dX12_end_100 ki_0 ?_
  refine ev_iast dX12_end_101 (by omega) ly_134 nIl_8 (by decide) ?_
  have hX3 : Sh _ (lx_up (lx_up (lx_up X 134 0 ((X 134 0) + 1)) 134 3 0) 134 8 0) := Sh.upA hX2 (by rw [ly_134]; exact (by decide : 0 < 2))
  refine ev_iconst (v := 0) dX12_end_102 ki_0 ?_
  refine ev_istore_n dX12_end_103 (by decide) ?_
  exact k
theorem bX12_end_36_0 {g : GG} {d n0 nf : Nat} {post : Option Value → LX → Prop} {n : Nat} {X : LX} (hn : 146 ≤ n) (hX : Sh n X) {v1 : Int32} {s1 : Nat} (b0 : s1 < 2156) (k : Ev g mX12_end d n0 nf post n 47 [some (.ref 133), some (.int v1)] [.int 0, .int v1, .ref 134, .ref 134, .int (X 134 s1)] X) : Ev g mX12_end d n0 nf post n 36 [some (.ref 133), some (.int v1)] [.int (nI s1), .ref 134] X := by
  refine ev_iald dX12_end_36 (by omega) ly_134 rfl b0 ?_
  refine ev_aload_n dX12_end_37 rfl ?_
  refine ev_getS (q := 134) dX12_end_38 fo_12_9 (by omega) lo_133 rfl (sh_133_0 hX (by omega)) (by decide) ?_
  refine ev_aload_n dX12_end_41 rfl ?_
  refine ev_getS (q := 134) dX12_end_42 fo_12_9 (by omega) lo_133 rfl (sh_133_0 hX (by omega)) (by decide) ?_
  refine ev_iload_n dX12_end_45 rfl ?_
  refine ev_iconst (v := 0) dX12_end_46 ki_0 ?_
  exact k
theorem bX12_end_50_0 {g : GG} {d n0 nf : Nat} {post : Option Value → LX → Prop} {n : Nat} {X : LX} (hn : 146 ≤ n) (hX : Sh n X) {v1 : Int32} {s0 : Int32} {s3 : Nat} (b0 : s3 < 2156) (k : Ev g mX12_end d n0 nf post n 52 [some (.ref 133), some (.int v1)] [.int 4, .int (X 134 s3), .ref 134, .int s0] X) : Ev g mX12_end d n0 nf post n 50 [some (.ref 133), some (.int v1)] [.int (nI s3), .ref 134, .ref 134, .int s0] X := by
  refine ev_iald dX12_end_50 (by omega) ly_134 rfl b0 ?_
  refine ev_iconst (v := 4) dX12_end_51 ki_4 ?_
  exact k
theorem bX12_end_55_0 {g : GG} {d n0 nf : Nat} {post : Option Value → LX → Prop} {n : Nat} {X : LX} (hn : 146 ≤ n) (hX : Sh n X) {v1 : Int32} {s0 : Int32} {s2 : Nat} (b0 : s2 < 2156) (c0 : ¬ X 134 0 < s0 + (X 134 s2)) (k : Ev g mX12_end d n0 nf post n 68 [some (.ref 133), some (.int v1)] [.int v1, .ref 133] X) : Ev g mX12_end d n0 nf post n 55 [some (.ref 133), some (.int v1)] [.int (nI s2), .ref 134, .int s0] X := by
  refine ev_iald dX12_end_55 (by omega) ly_134 rfl b0 ?_
  refine ev_iadd dX12_end_56 ?_
  refine ev_aload_n dX12_end_57 rfl ?_
  refine ev_getS (q := 134) dX12_end_58 fo_12_9 (by omega) lo_133 rfl (sh_133_0 hX (by omega)) (by decide) ?_
  refine ev_iconst (v := 0) dX12_end_61 ki_0 ?_
  refine ev_iald dX12_end_62 (by omega) ly_134 nIl_0 (by decide) ?_
  refine ev_icmpF (tgt := 71) dX12_end_63 (by decide) c0 ?_
  refine ev_aload_n dX12_end_66 rfl ?_
  refine ev_iload_n dX12_end_67 rfl ?_
  exact k
theorem bX12_end_55_1 {g : GG} {d n0 nf : Nat} {post : Option Value → LX → Prop} {n : Nat} {X : LX} (hn : 146 ≤ n) (hX : Sh n X) {v1 : Int32} {s0 : Int32} {s2 : Nat} (b0 : s2 < 2156) (c0 : X 134 0 < s0 + (X 134 s2)) (k : Ev g mX12_end d n0 nf post n 16 [some (.ref 133), some (.int (v1 + 1))] [] X) : Ev g mX12_end d n0 nf post n 55 [some (.ref 133), some (.int v1)] [.int (nI s2), .ref 134, .int s0] X := by
  refine ev_iald dX12_end_55 (by omega) ly_134 rfl b0 ?_
  refine ev_iadd dX12_end_56 ?_
  refine ev_aload_n dX12_end_57 rfl ?_
  refine ev_getS (q := 134) dX12_end_58 fo_12_9 (by omega) lo_133 rfl (sh_133_0 hX (by omega)) (by decide) ?_
  refine ev_iconst (v := 0) dX12_end_61 ki_0 ?_
  refine ev_iald dX12_end_62 (by omega) ly_134 nIl_0 (by decide) ?_
  refine ev_icmpT (tgt := 71) dX12_end_63 (by decide) c0 ?_
  refine ev_iinc (v := v1 + 1) dX12_end_71 rfl (by rw [show Int32.ofInt 1 = 1 from ki_1]) (by decide) ?_
  refine ev_goto (tgt := 16) dX12_end_74 (by decide) ?_
  exact k
theorem bX12_end_71_0 {g : GG} {d n0 nf : Nat} {post : Option Value → LX → Prop} {n : Nat} {X : LX} (hn : 146 ≤ n) (hX : Sh n X) {v1 : Int32} (k : Ev g mX12_end d n0 nf post n 16 [some (.ref 133), some (.int (v1 + 1))] [] X) : Ev g mX12_end d n0 nf post n 71 [some (.ref 133), some (.int v1)] [] X := by
  refine ev_iinc (v := v1 + 1) dX12_end_71 rfl (by rw [show Int32.ofInt 1 = 1 from ki_1]) (by decide) ?_
  refine ev_goto (tgt := 16) dX12_end_74 (by decide) ?_
  exact k
theorem bX12_end_104_0 {g : GG} {d n0 nf : Nat} {post : Option Value → LX → Prop} {n : Nat} {X : LX} (hn : 146 ≤ n) (hX : Sh n X) {v1 : Int32} (c0 : ¬ X 134 6 ≤ v1) (k : Ev g mX12_end d n0 nf post n 121 [some (.ref 133), some (.int v1)] [.int 4, .int v1, .ref 134] X) : Ev g mX12_end d n0 nf post n 104 [some (.ref 133), some (.int v1)] [] X := by
  refine ev_iload_n dX12_end_104 rfl ?_
  refine ev_aload_n dX12_end_105 rfl ?_
  refine ev_getS (q := 134) dX12_end_106 fo_12_9 (by omega) lo_133 rfl (sh_133_0 hX (by omega)) (by decide) ?_
  refine ev_bipush (v := 6) dX12_end_109 kb_6 ?_
  refine ev_iald dX12_end_111 (by omega) ly_134 nIl_6 (by decide) ?_
  refine ev_icmpF (tgt := 132) dX12_end_112 (by decide) c0 ?_
  refine ev_aload_n dX12_end_115 rfl ?_
  refine ev_getS (q := 134) dX12_end_116 fo_12_9 (by omega) lo_133 rfl (sh_133_0 hX (by omega)) (by decide) ?_
  refine ev_iload_n dX12_end_119 rfl ?_
  refine ev_iconst (v := 4) dX12_end_120 ki_4 ?_
  exact k
theorem bX12_end_104_1 {g : GG} {d n0 nf : Nat} {post : Option Value → LX → Prop} {n : Nat} {X : LX} (hn : 146 ≤ nf) (hX : Sh nf X) {v1 : Int32} (c0 : X 134 6 ≤ v1) (hp : post (some (.int (X 134 0))) X) : Ev g mX12_end d n0 nf post nf 104 [some (.ref 133), some (.int v1)] [] X := by
  refine ev_iload_n dX12_end_104 rfl ?_
  refine ev_aload_n dX12_end_105 rfl ?_
  refine ev_getS (q := 134) dX12_end_106 fo_12_9 (by omega) lo_133 rfl (sh_133_0 hX (by omega)) (by decide) ?_
  refine ev_bipush (v := 6) dX12_end_109 kb_6 ?_
  refine ev_iald dX12_end_111 (by omega) ly_134 nIl_6 (by decide) ?_
  refine ev_icmpT (tgt := 132) dX12_end_112 (by decide) c0 ?_
  refine ev_aload_n dX12_end_132 rfl ?_
  refine ev_getS (q := 134) dX12_end_133 fo_12_9 (by omega) lo_133 rfl (sh_133_0 hX (by omega)) (by decide) ?_
  refine ev_iconst (v := 0) dX12_end_136 ki_0 ?_
  refine ev_iald dX12_end_137 (by omega) ly_134 nIl_0 (by decide) ?_
  exact ev_iret dX12_end_138 rfl rfl hp
theorem bX12_end_124_0 {g : GG} {d n0 nf : Nat} {post : Option Value → LX → Prop} {n : Nat} {X : LX} (hn : 146 ≤ n) (hX : Sh n X) {v1 : Int32} {s1 : Nat} (b0 : s1 < 2156) (k : Ev g mX12_end d n0 nf post n 104 [some (.ref 133), some (.int (v1 + 1))] [] (lx_up X 134 s1 0)) : Ev g mX12_end d n0 nf post n 124 [some (.ref 133), some (.int v1)] [.int (nI s1), .ref 134] X := by
  refine ev_iconst (v := 0) dX12_end_124 ki_0 ?_
  refine ev_iast dX12_end_125 (by omega) ly_134 rfl b0 ?_
  have hX1 : Sh _ (lx_up X 134 s1 0) := Sh.upA hX (by rw [ly_134]; exact (by decide : 0 < 2))
  refine ev_iinc (v := v1 + 1) dX12_end_126 rfl (by rw [show Int32.ofInt 1 = 1 from ki_1]) (by decide) ?_
  refine ev_goto (tgt := 104) dX12_end_129 (by decide) ?_
  exact k
theorem bX12_picksOf_0_0 {g : GG} {d n0 nf : Nat} {post : Option Value → LX → Prop} {n : Nat} {X : LX} (hn : 146 ≤ n) (hX : Sh n X) {v1 : Int32} {v2 : Int32} {v3 : Int32} (k : Ev g mX12_picksOf d n0 nf post n 6 [some (.ref 133), some (.int v1), some (.int v2), some (.int v3), some (.int 0), some (.int 0), none] [] X) : Ev g mX12_picksOf d n0 nf post n 0 [some (.ref 133), some (.int v1), some (.int v2), some (.int v3), none, none, none] [] X := by
  refine ev_iconst (v := 0) dX12_picksOf_0 ki_0 ?_
  refine ev_istore dX12_picksOf_1 (by decide) ?_
  refine ev_iconst (v := 0) dX12_picksOf_3 ki_0 ?_
  refine ev_istore dX12_picksOf_4 (by decide) ?_
  exact k
theorem bX12_picksOf_6_0 {g : GG} {d n0 nf : Nat} {post : Option Value → LX → Prop} {n : Nat} {X : LX} (hn : 146 ≤ n) (hX : Sh n X) {v1 : Int32} {v2 : Int32} {v3 : Int32} {v4 : Int32} {v5 : Int32} (c0 : ¬ X 134 6 ≤ v5) (k : Ev g mX12_picksOf d n0 nf post n 21 [some (.ref 133), some (.int v1), some (.int v2), some (.int v3), some (.int v4), some (.int v5), some (.int 0)] [] X) : Ev g mX12_picksOf d n0 nf post n 6 [some (.ref 133), some (.int v1), some (.int v2), some (.int v3), some (.int v4), some (.int v5), none] [] X := by
  refine ev_iload dX12_picksOf_6 rfl ?_
  refine ev_aload_n dX12_picksOf_8 rfl ?_
  refine ev_getS (q := 134) dX12_picksOf_9 fo_12_9 (by omega) lo_133 rfl (sh_133_0 hX (by omega)) (by decide) ?_
  refine ev_bipush (v := 6) dX12_picksOf_12 kb_6 ?_
  refine ev_iald dX12_picksOf_14 (by omega) ly_134 nIl_6 (by decide) ?_
  refine ev_icmpF (tgt := 104) dX12_picksOf_15 (by decide) c0 ?_
  refine ev_iconst (v := 0) dX12_picksOf_18 ki_0 ?_
  refine ev_istore dX12_picksOf_19 (by decide) ?_
  exact k
theorem bX12_picksOf_6_1 {g : GG} {d n0 nf : Nat} {post : Option Value → LX → Prop} {n : Nat} {X : LX} (hn : 146 ≤ nf) (hX : Sh nf X) {v1 : Int32} {v2 : Int32} {v3 : Int32} {v4 : Int32} {v5 : Int32} (c0 : X 134 6 ≤ v5) (hp : post (some (.int v4)) X) : Ev g mX12_picksOf d n0 nf post nf 6 [some (.ref 133), some (.int v1), some (.int v2), some (.int v3), some (.int v4), some (.int v5), none] [] X := by
  refine ev_iload dX12_picksOf_6 rfl ?_
  refine ev_aload_n dX12_picksOf_8 rfl ?_
  refine ev_getS (q := 134) dX12_picksOf_9 fo_12_9 (by omega) lo_133 rfl (sh_133_0 hX (by omega)) (by decide) ?_
  refine ev_bipush (v := 6) dX12_picksOf_12 kb_6 ?_
  refine ev_iald dX12_picksOf_14 (by omega) ly_134 nIl_6 (by decide) ?_
  refine ev_icmpT (tgt := 104) dX12_picksOf_15 (by decide) c0 ?_
  refine ev_iload dX12_picksOf_104 rfl ?_
  exact ev_iret dX12_picksOf_106 rfl rfl hp
theorem bX12_picksOf_21_0 {g : GG} {d n0 nf : Nat} {post : Option Value → LX → Prop} {n : Nat} {X : LX} (hn : 146 ≤ n) (hX : Sh n X) {v1 : Int32} {v2 : Int32} {v3 : Int32} {v4 : Int32} {v5 : Int32} {v6 : Int32} (c0 : ¬ X 134 4 ≤ v6) (k : Ev g mX12_picksOf d n0 nf post n 35 [some (.ref 133), some (.int v1), some (.int v2), some (.int v3), some (.int v4), some (.int v5), some (.int v6)] [.int v5, .int v3] X) : Ev g mX12_picksOf d n0 nf post n 21 [some (.ref 133), some (.int v1), some (.int v2), some (.int v3), some (.int v4), some (.int v5), some (.int v6)] [] X := by
  refine ev_iload dX12_picksOf_21 rfl ?_
  refine ev_aload_n dX12_picksOf_23 rfl ?_
  refine ev_getS (q := 134) dX12_picksOf_24 fo_12_9 (by omega) lo_133 rfl (sh_133_0 hX (by omega)) (by decide) ?_
  refine ev_iconst (v := 4) dX12_picksOf_27 ki_4 ?_
  refine ev_iald dX12_picksOf_28 (by omega) ly_134 nIl_4 (by decide) ?_
  refine ev_icmpF (tgt := 98) dX12_picksOf_29 (by decide) c0 ?_
  refine ev_iload_n dX12_picksOf_32 rfl ?_
  refine ev_iload dX12_picksOf_33 rfl ?_
  exact k
theorem bX12_picksOf_21_1 {g : GG} {d n0 nf : Nat} {post : Option Value → LX → Prop} {n : Nat} {X : LX} (hn : 146 ≤ n) (hX : Sh n X) {v1 : Int32} {v2 : Int32} {v3 : Int32} {v4 : Int32} {v5 : Int32} {v6 : Int32} (c0 : X 134 4 ≤ v6) (k : Ev g mX12_picksOf d n0 nf post n 6 [some (.ref 133), some (.int v1), some (.int v2), some (.int v3), some (.int v4), some (.int (v5 + 1)), some (.int v6)] [] X) : Ev g mX12_picksOf d n0 nf post n 21 [some (.ref 133), some (.int v1), some (.int v2), some (.int v3), some (.int v4), some (.int v5), some (.int v6)] [] X := by
  refine ev_iload dX12_picksOf_21 rfl ?_
  refine ev_aload_n dX12_picksOf_23 rfl ?_
  refine ev_getS (q := 134) dX12_picksOf_24 fo_12_9 (by omega) lo_133 rfl (sh_133_0 hX (by omega)) (by decide) ?_
  refine ev_iconst (v := 4) dX12_picksOf_27 ki_4 ?_
  refine ev_iald dX12_picksOf_28 (by omega) ly_134 nIl_4 (by decide) ?_
  refine ev_icmpT (tgt := 98) dX12_picksOf_29 (by decide) c0 ?_
  refine ev_iinc (v := v5 + 1) dX12_picksOf_98 rfl (by rw [show Int32.ofInt 1 = 1 from ki_1]) (by decide) ?_
  refine ev_goto (tgt := 6) dX12_picksOf_101 (by decide) ?_
  exact k
theorem bX12_picksOf_38_0 {g : GG} {d n0 nf : Nat} {post : Option Value → LX → Prop} {n : Nat} {X : LX} (hn : 146 ≤ n) (hX : Sh n X) {v1 : Int32} {v2 : Int32} {v3 : Int32} {v4 : Int32} {v5 : Int32} {v6 : Int32} {s0 : Int32} {j1 : Nat} (c0 : v2 = 1) (c1 : s0 = 1) (hj1 : (14 * v5) + v6 = nI j1) (b0 : j1 < 168) (c2 : ¬ X 140 j1 ≤ 0) (k : Ev g mX12_picksOf d n0 nf post n 76 [some (.ref 133), some (.int v1), some (.int v2), some (.int v3), some (.int v4), some (.int v5), some (.int v6)] [.int 2, .int v6, .ref 134, .int v4] X) : Ev g mX12_picksOf d n0 nf post n 38 [some (.ref 133), some (.int v1), some (.int v2), some (.int v3), some (.int v4), some (.int v5), some (.int v6)] [.int s0] X := by
  refine ev_iload_n dX12_picksOf_38 rfl ?_
  refine ev_iconst (v := 1) dX12_picksOf_39 ki_1 ?_
  refine ev_icmpF (tgt := 47) dX12_picksOf_40 (by decide) c0 ?_
  refine ev_iconst (v := 1) dX12_picksOf_43 ki_1 ?_
  refine ev_goto (tgt := 48) dX12_picksOf_44 (by decide) ?_
  refine ev_icmpF (tgt := 98) dX12_picksOf_48 (by decide) c1 ?_
  refine ev_iload dX12_picksOf_51 rfl ?_
  refine ev_aload_n dX12_picksOf_53 rfl ?_
  refine ev_getS (q := 140) dX12_picksOf_54 fo_12_28 (by omega) lo_133 rfl (sh_133_9 hX (by omega)) (by decide) ?_
  refine ev_bipush (v := 14) dX12_picksOf_57 kb_14 ?_
  refine ev_iload dX12_picksOf_59 rfl ?_
  refine ev_imul dX12_picksOf_61 ?_
  refine ev_iload dX12_picksOf_62 rfl ?_
  refine ev_iadd dX12_picksOf_64 ?_
  refine ev_iald dX12_picksOf_65 (by omega) ly_140 hj1 b0 ?_
  refine ev_ifF (tgt := 88) dX12_picksOf_66 (by decide) c2 ?_
  refine ev_aload_n dX12_picksOf_69 rfl ?_
  refine ev_getS (q := 134) dX12_picksOf_70 fo_12_9 (by omega) lo_133 rfl (sh_133_0 hX (by omega)) (by decide) ?_
  refine ev_iload dX12_picksOf_73 rfl ?_
  refine ev_iconst (v := 2) dX12_picksOf_75 ki_2 ?_
  exact k
theorem bX12_picksOf_38_1 {g : GG} {d n0 nf : Nat} {post : Option Value → LX → Prop} {n : Nat} {X : LX} (hn : 146 ≤ n) (hX : Sh n X) {v1 : Int32} {v2 : Int32} {v3 : Int32} {v4 : Int32} {v5 : Int32} {v6 : Int32} {s0 : Int32} {j1 : Nat} (c0 : v2 = 1) (c1 : s0 = 1) (hj1 : (14 * v5) + v6 = nI j1) (b0 : j1 < 168) (c2 : X 140 j1 ≤ 0) (k : Ev g mX12_picksOf d n0 nf post n 21 [some (.ref 133), some (.int v1), some (.int v2), some (.int v3), some (.int (v4 + 0)), some (.int v5), some (.int (v6 + 1))] [] X) : Ev g mX12_picksOf d n0 nf post n 38 [some (.ref 133), some (.int v1), some (.int v2), some (.int v3), some (.int v4), some (.int v5), some (.int v6)] [.int s0] X := by
  refine ev_iload_n dX12_picksOf_38 rfl ?_
  refine ev_iconst (v := 1) dX12_picksOf_39 ki_1 ?_
  refine ev_icmpF (tgt := 47) dX12_picksOf_40 (by decide) c0 ?_
  refine ev_iconst (v := 1) dX12_picksOf_43 ki_1 ?_
  refine ev_goto (tgt := 48) dX12_picksOf_44 (by decide) ?_
  refine ev_icmpF (tgt := 98) dX12_picksOf_48 (by decide) c1 ?_
  refine ev_iload dX12_picksOf_51 rfl ?_
  refine ev_aload_n dX12_picksOf_53 rfl ?_
  refine ev_getS (q := 140) dX12_picksOf_54 fo_12_28 (by omega) lo_133 rfl (sh_133_9 hX (by omega)) (by decide) ?_
  refine ev_bipush (v := 14) dX12_picksOf_57 kb_14 ?_
  refine ev_iload dX12_picksOf_59 rfl ?_
  refine ev_imul dX12_picksOf_61 ?_
  refine ev_iload dX12_picksOf_62 rfl ?_
  refine ev_iadd dX12_picksOf_64 ?_
  refine ev_iald dX12_picksOf_65 (by omega) ly_140 hj1 b0 ?_
  refine ev_ifT (tgt := 88) dX12_picksOf_66 (by decide) c2 ?_
  refine ev_iconst (v := 0) dX12_picksOf_88 ki_0 ?_
  refine ev_iadd dX12_picksOf_89 ?_
  refine ev_istore dX12_picksOf_90 (by decide) ?_
  refine ev_iinc (v := v6 + 1) dX12_picksOf_92 rfl (by rw [show Int32.ofInt 1 = 1 from ki_1]) (by decide) ?_
  refine ev_goto (tgt := 21) dX12_picksOf_95 (by decide) ?_
  exact k
theorem bX12_picksOf_38_2 {g : GG} {d n0 nf : Nat} {post : Option Value → LX → Prop} {n : Nat} {X : LX} (hn : 146 ≤ n) (hX : Sh n X) {v1 : Int32} {v2 : Int32} {v3 : Int32} {v4 : Int32} {v5 : Int32} {v6 : Int32} {s0 : Int32} (c0 : v2 = 1) (c1 : ¬ s0 = 1) (k : Ev g mX12_picksOf d n0 nf post n 6 [some (.ref 133), some (.int v1), some (.int v2), some (.int v3), some (.int v4), some (.int (v5 + 1)), some (.int v6)] [] X) : Ev g mX12_picksOf d n0 nf post n 38 [some (.ref 133), some (.int v1), some (.int v2), some (.int v3), some (.int v4), some (.int v5), some (.int v6)] [.int s0] X := by
  refine ev_iload_n dX12_picksOf_38 rfl ?_
  refine ev_iconst (v := 1) dX12_picksOf_39 ki_1 ?_
  refine ev_icmpF (tgt := 47) dX12_picksOf_40 (by decide) c0 ?_
  refine ev_iconst (v := 1) dX12_picksOf_43 ki_1 ?_
  refine ev_goto (tgt := 48) dX12_picksOf_44 (by decide) ?_
  refine ev_icmpT (tgt := 98) dX12_picksOf_48 (by decide) c1 ?_
  refine ev_iinc (v := v5 + 1) dX12_picksOf_98 rfl (by rw [show Int32.ofInt 1 = 1 from ki_1]) (by decide) ?_
  refine ev_goto (tgt := 6) dX12_picksOf_101 (by decide) ?_
  exact k
theorem bX12_picksOf_38_3 {g : GG} {d n0 nf : Nat} {post : Option Value → LX → Prop} {n : Nat} {X : LX} (hn : 146 ≤ n) (hX : Sh n X) {v1 : Int32} {v2 : Int32} {v3 : Int32} {v4 : Int32} {v5 : Int32} {v6 : Int32} {s0 : Int32} {j1 : Nat} (c0 : ¬ v2 = 1) (c1 : s0 = 0) (hj1 : (14 * v5) + v6 = nI j1) (b0 : j1 < 168) (c2 : ¬ X 140 j1 ≤ 0) (k : Ev g mX12_picksOf d n0 nf post n 76 [some (.ref 133), some (.int v1), some (.int v2), some (.int v3), some (.int v4), some (.int v5), some (.int v6)] [.int 2, .int v6, .ref 134, .int v4] X) : Ev g mX12_picksOf d n0 nf post n 38 [some (.ref 133), some (.int v1), some (.int v2), some (.int v3), some (.int v4), some (.int v5), some (.int v6)] [.int s0] X := by
  refine ev_iload_n dX12_picksOf_38 rfl ?_
  refine ev_iconst (v := 1) dX12_picksOf_39 ki_1 ?_
  refine ev_icmpT (tgt := 47) dX12_picksOf_40 (by decide) c0 ?_
  refine ev_iconst (v := 0) dX12_picksOf_47 ki_0 ?_
  refine ev_icmpF (tgt := 98) dX12_picksOf_48 (by decide) c1 ?_
  refine ev_iload dX12_picksOf_51 rfl ?_
  refine ev_aload_n dX12_picksOf_53 rfl ?_
  refine ev_getS (q := 140) dX12_picksOf_54 fo_12_28 (by omega) lo_133 rfl (sh_133_9 hX (by omega)) (by decide) ?_
  refine ev_bipush (v := 14) dX12_picksOf_57 kb_14 ?_
  refine ev_iload dX12_picksOf_59 rfl ?_
  refine ev_imul dX12_picksOf_61 ?_
  refine ev_iload dX12_picksOf_62 rfl ?_
  refine ev_iadd dX12_picksOf_64 ?_
  refine ev_iald dX12_picksOf_65 (by omega) ly_140 hj1 b0 ?_
  refine ev_ifF (tgt := 88) dX12_picksOf_66 (by decide) c2 ?_
  refine ev_aload_n dX12_picksOf_69 rfl ?_
  refine ev_getS (q := 134) dX12_picksOf_70 fo_12_9 (by omega) lo_133 rfl (sh_133_0 hX (by omega)) (by decide) ?_
  refine ev_iload dX12_picksOf_73 rfl ?_
  refine ev_iconst (v := 2) dX12_picksOf_75 ki_2 ?_
  exact k
theorem bX12_picksOf_38_4 {g : GG} {d n0 nf : Nat} {post : Option Value → LX → Prop} {n : Nat} {X : LX} (hn : 146 ≤ n) (hX : Sh n X) {v1 : Int32} {v2 : Int32} {v3 : Int32} {v4 : Int32} {v5 : Int32} {v6 : Int32} {s0 : Int32} {j1 : Nat} (c0 : ¬ v2 = 1) (c1 : s0 = 0) (hj1 : (14 * v5) + v6 = nI j1) (b0 : j1 < 168) (c2 : X 140 j1 ≤ 0) (k : Ev g mX12_picksOf d n0 nf post n 21 [some (.ref 133), some (.int v1), some (.int v2), some (.int v3), some (.int (v4 + 0)), some (.int v5), some (.int (v6 + 1))] [] X) : Ev g mX12_picksOf d n0 nf post n 38 [some (.ref 133), some (.int v1), some (.int v2), some (.int v3), some (.int v4), some (.int v5), some (.int v6)] [.int s0] X := by
  refine ev_iload_n dX12_picksOf_38 rfl ?_
  refine ev_iconst (v := 1) dX12_picksOf_39 ki_1 ?_
  refine ev_icmpT (tgt := 47) dX12_picksOf_40 (by decide) c0 ?_
  refine ev_iconst (v := 0) dX12_picksOf_47 ki_0 ?_
  refine ev_icmpF (tgt := 98) dX12_picksOf_48 (by decide) c1 ?_
  refine ev_iload dX12_picksOf_51 rfl ?_
  refine ev_aload_n dX12_picksOf_53 rfl ?_
  refine ev_getS (q := 140) dX12_picksOf_54 fo_12_28 (by omega) lo_133 rfl (sh_133_9 hX (by omega)) (by decide) ?_
  refine ev_bipush (v := 14) dX12_picksOf_57 kb_14 ?_
  refine ev_iload dX12_picksOf_59 rfl ?_
  refine ev_imul dX12_picksOf_61 ?_
  refine ev_iload dX12_picksOf_62 rfl ?_
  refine ev_iadd dX12_picksOf_64 ?_
  refine ev_iald dX12_picksOf_65 (by omega) ly_140 hj1 b0 ?_
  refine ev_ifT (tgt := 88) dX12_picksOf_66 (by decide) c2 ?_
  refine ev_iconst (v := 0) dX12_picksOf_88 ki_0 ?_
  refine ev_iadd dX12_picksOf_89 ?_
  refine ev_istore dX12_picksOf_90 (by decide) ?_
  refine ev_iinc (v := v6 + 1) dX12_picksOf_92 rfl (by rw [show Int32.ofInt 1 = 1 from ki_1]) (by decide) ?_
  refine ev_goto (tgt := 21) dX12_picksOf_95 (by decide) ?_
  exact k
theorem bX12_picksOf_38_5 {g : GG} {d n0 nf : Nat} {post : Option Value → LX → Prop} {n : Nat} {X : LX} (hn : 146 ≤ n) (hX : Sh n X) {v1 : Int32} {v2 : Int32} {v3 : Int32} {v4 : Int32} {v5 : Int32} {v6 : Int32} {s0 : Int32} (c0 : ¬ v2 = 1) (c1 : ¬ s0 = 0) (k : Ev g mX12_picksOf d n0 nf post n 6 [some (.ref 133), some (.int v1), some (.int v2), some (.int v3), some (.int v4), some (.int (v5 + 1)), some (.int v6)] [] X) : Ev g mX12_picksOf d n0 nf post n 38 [some (.ref 133), some (.int v1), some (.int v2), some (.int v3), some (.int v4), some (.int v5), some (.int v6)] [.int s0] X := by
  refine ev_iload_n dX12_picksOf_38 rfl ?_
  refine ev_iconst (v := 1) dX12_picksOf_39 ki_1 ?_
  refine ev_icmpT (tgt := 47) dX12_picksOf_40 (by decide) c0 ?_
  refine ev_iconst (v := 0) dX12_picksOf_47 ki_0 ?_
  refine ev_icmpT (tgt := 98) dX12_picksOf_48 (by decide) c1 ?_
  refine ev_iinc (v := v5 + 1) dX12_picksOf_98 rfl (by rw [show Int32.ofInt 1 = 1 from ki_1]) (by decide) ?_
  refine ev_goto (tgt := 6) dX12_picksOf_101 (by decide) ?_
  exact k
theorem bX12_picksOf_79_0 {g : GG} {d n0 nf : Nat} {post : Option Value → LX → Prop} {n : Nat} {X : LX} (hn : 146 ≤ n) (hX : Sh n X) {v1 : Int32} {v2 : Int32} {v3 : Int32} {v4 : Int32} {v5 : Int32} {v6 : Int32} {s0 : Int32} {s2 : Nat} (b0 : s2 < 2156) (c0 : X 134 s2 = v1) (k : Ev g mX12_picksOf d n0 nf post n 21 [some (.ref 133), some (.int v1), some (.int v2), some (.int v3), some (.int (s0 + 1)), some (.int v5), some (.int (v6 + 1))] [] X) : Ev g mX12_picksOf d n0 nf post n 79 [some (.ref 133), some (.int v1), some (.int v2), some (.int v3), some (.int v4), some (.int v5), some (.int v6)] [.int (nI s2), .ref 134, .int s0] X := by
  refine ev_iald dX12_picksOf_79 (by omega) ly_134 rfl b0 ?_
  refine ev_iload_n dX12_picksOf_80 rfl ?_
  refine ev_icmpF (tgt := 88) dX12_picksOf_81 (by decide) c0 ?_
  refine ev_iconst (v := 1) dX12_picksOf_84 ki_1 ?_
  refine ev_goto (tgt := 89) dX12_picksOf_85 (by decide) ?_
  refine ev_iadd dX12_picksOf_89 ?_
  refine ev_istore dX12_picksOf_90 (by decide) ?_
  refine ev_iinc (v := v6 + 1) dX12_picksOf_92 rfl (by rw [show Int32.ofInt 1 = 1 from ki_1]) (by decide) ?_
  refine ev_goto (tgt := 21) dX12_picksOf_95 (by decide) ?_
  exact k
theorem bX12_picksOf_79_1 {g : GG} {d n0 nf : Nat} {post : Option Value → LX → Prop} {n : Nat} {X : LX} (hn : 146 ≤ n) (hX : Sh n X) {v1 : Int32} {v2 : Int32} {v3 : Int32} {v4 : Int32} {v5 : Int32} {v6 : Int32} {s0 : Int32} {s2 : Nat} (b0 : s2 < 2156) (c0 : ¬ X 134 s2 = v1) (k : Ev g mX12_picksOf d n0 nf post n 21 [some (.ref 133), some (.int v1), some (.int v2), some (.int v3), some (.int (s0 + 0)), some (.int v5), some (.int (v6 + 1))] [] X) : Ev g mX12_picksOf d n0 nf post n 79 [some (.ref 133), some (.int v1), some (.int v2), some (.int v3), some (.int v4), some (.int v5), some (.int v6)] [.int (nI s2), .ref 134, .int s0] X := by
  refine ev_iald dX12_picksOf_79 (by omega) ly_134 rfl b0 ?_
  refine ev_iload_n dX12_picksOf_80 rfl ?_
  refine ev_icmpT (tgt := 88) dX12_picksOf_81 (by decide) c0 ?_
  refine ev_iconst (v := 0) dX12_picksOf_88 ki_0 ?_
  refine ev_iadd dX12_picksOf_89 ?_
  refine ev_istore dX12_picksOf_90 (by decide) ?_
  refine ev_iinc (v := v6 + 1) dX12_picksOf_92 rfl (by rw [show Int32.ofInt 1 = 1 from ki_1]) (by decide) ?_
  refine ev_goto (tgt := 21) dX12_picksOf_95 (by decide) ?_
  exact k
theorem bX12_mostPicks_0_0 {g : GG} {d n0 nf : Nat} {post : Option Value → LX → Prop} {n : Nat} {X : LX} (hn : 146 ≤ n) (hX : Sh n X) {v1 : Int32} (k : Ev g mX12_mostPicks d n0 nf post n 4 [some (.ref 133), some (.int v1), some (.int 0), some (.int 0)] [] X) : Ev g mX12_mostPicks d n0 nf post n 0 [some (.ref 133), some (.int v1), none, none] [] X := by
  refine ev_iconst (v := 0) dX12_mostPicks_0 ki_0 ?_
  refine ev_istore_n dX12_mostPicks_1 (by decide) ?_
  refine ev_iconst (v := 0) dX12_mostPicks_2 ki_0 ?_
  refine ev_istore_n dX12_mostPicks_3 (by decide) ?_
  exact k
theorem bX12_mostPicks_4_0 {g : GG} {d n0 nf : Nat} {post : Option Value → LX → Prop} {n : Nat} {X : LX} (hn : 146 ≤ n) (hX : Sh n X) {v1 : Int32} {v2 : Int32} {v3 : Int32} (c0 : ¬ 8 ≤ v3) (k : Ev g mX12_mostPicks d n0 nf post n 19 [some (.ref 133), some (.int v1), some (.int v2), some (.int v3)] [.int v1, .int (v3 - v3 / 2 * 2), .int (v3 / 2), .ref 133, .int v2] X) : Ev g mX12_mostPicks d n0 nf post n 4 [some (.ref 133), some (.int v1), some (.int v2), some (.int v3)] [] X := by
  refine ev_iload_n dX12_mostPicks_4 rfl ?_
  refine ev_bipush (v := 8) dX12_mostPicks_5 kb_8 ?_
  refine ev_icmpF (tgt := 32) dX12_mostPicks_7 (by decide) c0 ?_
  refine ev_iload_n dX12_mostPicks_10 rfl ?_
  refine ev_aload_n dX12_mostPicks_11 rfl ?_
  refine ev_iload_n dX12_mostPicks_12 rfl ?_
  refine ev_iconst (v := 2) dX12_mostPicks_13 ki_2 ?_
  refine ev_idiv dX12_mostPicks_14 (by decide) ?_
  refine ev_iload_n dX12_mostPicks_15 rfl ?_
  refine ev_iconst (v := 2) dX12_mostPicks_16 ki_2 ?_
  refine ev_irem dX12_mostPicks_17 (by decide) ?_
  refine ev_iload_n dX12_mostPicks_18 rfl ?_
  exact k
theorem bX12_mostPicks_4_1 {g : GG} {d n0 nf : Nat} {post : Option Value → LX → Prop} {n : Nat} {X : LX} (hn : 146 ≤ nf) (hX : Sh nf X) {v1 : Int32} {v2 : Int32} {v3 : Int32} (c0 : 8 ≤ v3) (hp : post (some (.int v2)) X) : Ev g mX12_mostPicks d n0 nf post nf 4 [some (.ref 133), some (.int v1), some (.int v2), some (.int v3)] [] X := by
  refine ev_iload_n dX12_mostPicks_4 rfl ?_
  refine ev_bipush (v := 8) dX12_mostPicks_5 kb_8 ?_
  refine ev_icmpT (tgt := 32) dX12_mostPicks_7 (by decide) c0 ?_
  refine ev_iload_n dX12_mostPicks_32 rfl ?_
  exact ev_iret dX12_mostPicks_33 rfl rfl hp
theorem bX12_mostPicks_22_0 {g : GG} {d n0 nf : Nat} {post : Option Value → LX → Prop} {n : Nat} {X : LX} (hn : 146 ≤ n) (hX : Sh n X) {v1 : Int32} {v2 : Int32} {v3 : Int32} {s0 : Int32} {s1 : Int32} (k : Ev g mX12_mostPicks d n0 nf post n 22 [some (.ref 133), some (.int v1), some (.int v2), some (.int v3)] [.int s1, .int s0] X) : Ev g mX12_mostPicks d n0 nf post n 22 [some (.ref 133), some (.int v1), some (.int v2), some (.int v3)] [.int s1, .int s0] X := by
  exact k
theorem bX12_mostPicks_25_0 {g : GG} {d n0 nf : Nat} {post : Option Value → LX → Prop} {n : Nat} {X : LX} (hn : 146 ≤ n) (hX : Sh n X) {v1 : Int32} {v2 : Int32} {v3 : Int32} {s0 : Int32} (k : Ev g mX12_mostPicks d n0 nf post n 4 [some (.ref 133), some (.int v1), some (.int s0), some (.int (v3 + 1))] [] X) : Ev g mX12_mostPicks d n0 nf post n 25 [some (.ref 133), some (.int v1), some (.int v2), some (.int v3)] [.int s0] X := by
  refine ev_istore_n dX12_mostPicks_25 (by decide) ?_
  refine ev_iinc (v := v3 + 1) dX12_mostPicks_26 rfl (by rw [show Int32.ofInt 1 = 1 from ki_1]) (by decide) ?_
  refine ev_goto (tgt := 4) dX12_mostPicks_29 (by decide) ?_
  exact k
theorem bX12_shifts_0_0 {g : GG} {d n0 nf : Nat} {post : Option Value → LX → Prop} {n : Nat} {X : LX} (hn : 146 ≤ n) (hX : Sh n X) {v1 : Int32} (k : Ev g mX12_shifts d n0 nf post n 3 [some (.ref 133), some (.int v1), none, none, none, none, none] [.int 1, .int 0, .int v1] X) : Ev g mX12_shifts d n0 nf post n 0 [some (.ref 133), some (.int v1), none, none, none, none, none] [] X := by
  refine ev_iload_n dX12_shifts_0 rfl ?_
  refine ev_iconst (v := 0) dX12_shifts_1 ki_0 ?_
  refine ev_iconst (v := 1) dX12_shifts_2 ki_1 ?_
  exact k
theorem bX12_shifts_6_0 {g : GG} {d n0 nf : Nat} {post : Option Value → LX → Prop} {n : Nat} {X : LX} (hn : 146 ≤ nf) (hX : Sh nf X) {v1 : Int32} {s0 : Int32} (c0 : s0 = 0) (hp : post (some (.int (-1000000001))) X) : Ev g mX12_shifts d n0 nf post nf 6 [some (.ref 133), some (.int v1), none, none, none, none, none] [.int s0] X := by
  refine ev_ifF (tgt := 12) dX12_shifts_6 (by decide) c0 ?_
  refine ev_ldc (v := (-1000000001)) dX12_shifts_9 kw_12_57 ?_
  exact ev_iret dX12_shifts_11 rfl rfl hp
theorem bX12_shifts_6_1 {g : GG} {d n0 nf : Nat} {post : Option Value → LX → Prop} {n : Nat} {X : LX} (hn : 146 ≤ n) (hX : Sh n X) {v1 : Int32} {s0 : Int32} (c0 : ¬ s0 = 0) (k : Ev g mX12_shifts d n0 nf post n 16 [some (.ref 133), some (.int v1), some (.int 0), some (.int 0), none, none, none] [] X) : Ev g mX12_shifts d n0 nf post n 6 [some (.ref 133), some (.int v1), none, none, none, none, none] [.int s0] X := by
  refine ev_ifT (tgt := 12) dX12_shifts_6 (by decide) c0 ?_
  refine ev_iconst (v := 0) dX12_shifts_12 ki_0 ?_
  refine ev_istore_n dX12_shifts_13 (by decide) ?_
  refine ev_iconst (v := 0) dX12_shifts_14 ki_0 ?_
  refine ev_istore_n dX12_shifts_15 (by decide) ?_
  exact k
theorem bX12_shifts_16_0 {g : GG} {d n0 nf : Nat} {post : Option Value → LX → Prop} {n : Nat} {X : LX} (hn : 146 ≤ n) (hX : Sh n X) {v1 : Int32} {v2 : Int32} {v3 : Int32} (c0 : ¬ X 134 6 ≤ v3) (k : Ev g mX12_shifts d n0 nf post n 30 [some (.ref 133), some (.int v1), some (.int v2), some (.int v3), none, none, none] [.int v3, .ref 133, .int v2] X) : Ev g mX12_shifts d n0 nf post n 16 [some (.ref 133), some (.int v1), some (.int v2), some (.int v3), none, none, none] [] X := by
  refine ev_iload_n dX12_shifts_16 rfl ?_
  refine ev_aload_n dX12_shifts_17 rfl ?_
  refine ev_getS (q := 134) dX12_shifts_18 fo_12_9 (by omega) lo_133 rfl (sh_133_0 hX (by omega)) (by decide) ?_
  refine ev_bipush (v := 6) dX12_shifts_21 kb_6 ?_
  refine ev_iald dX12_shifts_23 (by omega) ly_134 nIl_6 (by decide) ?_
  refine ev_icmpF (tgt := 51) dX12_shifts_24 (by decide) c0 ?_
  refine ev_iload_n dX12_shifts_27 rfl ?_
  refine ev_aload_n dX12_shifts_28 rfl ?_
  refine ev_iload_n dX12_shifts_29 rfl ?_
  exact k
theorem bX12_shifts_16_1 {g : GG} {d n0 nf : Nat} {post : Option Value → LX → Prop} {n : Nat} {X : LX} (hn : 146 ≤ n) (hX : Sh n X) {v1 : Int32} {v2 : Int32} {v3 : Int32} (c0 : X 134 6 ≤ v3) (k : Ev g mX12_shifts d n0 nf post n 52 [some (.ref 133), some (.int v1), some (.int v2), some (.int v3), none, none, none] [.ref 133] X) : Ev g mX12_shifts d n0 nf post n 16 [some (.ref 133), some (.int v1), some (.int v2), some (.int v3), none, none, none] [] X := by
  refine ev_iload_n dX12_shifts_16 rfl ?_
  refine ev_aload_n dX12_shifts_17 rfl ?_
  refine ev_getS (q := 134) dX12_shifts_18 fo_12_9 (by omega) lo_133 rfl (sh_133_0 hX (by omega)) (by decide) ?_
  refine ev_bipush (v := 6) dX12_shifts_21 kb_6 ?_
  refine ev_iald dX12_shifts_23 (by omega) ly_134 nIl_6 (by decide) ?_
  refine ev_icmpT (tgt := 51) dX12_shifts_24 (by decide) c0 ?_
  refine ev_aload_n dX12_shifts_51 rfl ?_
  exact k
theorem bX12_shifts_33_0 {g : GG} {d n0 nf : Nat} {post : Option Value → LX → Prop} {n : Nat} {X : LX} (hn : 146 ≤ n) (hX : Sh n X) {v1 : Int32} {v2 : Int32} {v3 : Int32} {s0 : Int32} {s1 : Int32} (c0 : ¬ s1 = 0) (k : Ev g mX12_shifts d n0 nf post n 16 [some (.ref 133), some (.int v1), some (.int (s0 ||| (1 <<< (v3 &&& 31)))), some (.int (v3 + 1)), none, none, none] [] X) : Ev g mX12_shifts d n0 nf post n 33 [some (.ref 133), some (.int v1), some (.int v2), some (.int v3), none, none, none] [.int s1, .int s0] X := by
  refine ev_ifF (tgt := 42) dX12_shifts_33 (by decide) c0 ?_
  refine ev_iconst (v := 1) dX12_shifts_36 ki_1 ?_
  refine ev_iload_n dX12_shifts_37 rfl ?_
  refine ev_ishl dX12_shifts_38 ?_
  refine ev_goto (tgt := 43) dX12_shifts_39 (by decide) ?_
  refine ev_ior dX12_shifts_43 ?_
  refine ev_istore_n dX12_shifts_44 (by decide) ?_
  refine ev_iinc (v := v3 + 1) dX12_shifts_45 rfl (by rw [show Int32.ofInt 1 = 1 from ki_1]) (by decide) ?_
  refine ev_goto (tgt := 16) dX12_shifts_48 (by decide) ?_
  exact k
theorem bX12_shifts_33_1 {g : GG} {d n0 nf : Nat} {post : Option Value → LX → Prop} {n : Nat} {X : LX} (hn : 146 ≤ n) (hX : Sh n X) {v1 : Int32} {v2 : Int32} {v3 : Int32} {s0 : Int32} {s1 : Int32} (c0 : s1 = 0) (k : Ev g mX12_shifts d n0 nf post n 16 [some (.ref 133), some (.int v1), some (.int (s0 ||| 0)), some (.int (v3 + 1)), none, none, none] [] X) : Ev g mX12_shifts d n0 nf post n 33 [some (.ref 133), some (.int v1), some (.int v2), some (.int v3), none, none, none] [.int s1, .int s0] X := by
  refine ev_ifT (tgt := 42) dX12_shifts_33 (by decide) c0 ?_
  refine ev_iconst (v := 0) dX12_shifts_42 ki_0 ?_
  refine ev_ior dX12_shifts_43 ?_
  refine ev_istore_n dX12_shifts_44 (by decide) ?_
  refine ev_iinc (v := v3 + 1) dX12_shifts_45 rfl (by rw [show Int32.ofInt 1 = 1 from ki_1]) (by decide) ?_
  refine ev_goto (tgt := 16) dX12_shifts_48 (by decide) ?_
  exact k
theorem bX12_shifts_55_0 {g : GG} {d n0 nf : Nat} {post : Option Value → LX → Prop} {n : Nat} {X : LX} (hn : 146 ≤ n) (hX : Sh n X) {v1 : Int32} {v2 : Int32} {v3 : Int32} (k : Ev g mX12_shifts d n0 nf post n 57 [some (.ref 133), some (.int v1), some (.int v2), some (.int v3), none, none, none] [.int 0, .ref 133] X) : Ev g mX12_shifts d n0 nf post n 55 [some (.ref 133), some (.int v1), some (.int v2), some (.int v3), none, none, none] [] X := by
  refine ev_aload_n dX12_shifts_55 rfl ?_
  refine ev_iconst (v := 0) dX12_shifts_56 ki_0 ?_
  exact k
theorem bX12_shifts_60_0 {g : GG} {d n0 nf : Nat} {post : Option Value → LX → Prop} {n : Nat} {X : LX} (hn : 146 ≤ n) (hX : Sh n X) {v1 : Int32} {v2 : Int32} {v3 : Int32} {s0 : Int32} (k : Ev g mX12_shifts d n0 nf post n 67 [some (.ref 133), some (.int v1), some (.int v2), some (.int s0), some (.int 0), some (.int 1), none] [] X) : Ev g mX12_shifts d n0 nf post n 60 [some (.ref 133), some (.int v1), some (.int v2), some (.int v3), none, none, none] [.int s0] X := by
  refine ev_istore_n dX12_shifts_60 (by decide) ?_
  refine ev_iconst (v := 0) dX12_shifts_61 ki_0 ?_
  refine ev_istore dX12_shifts_62 (by decide) ?_
  refine ev_iconst (v := 1) dX12_shifts_64 ki_1 ?_
  refine ev_istore dX12_shifts_65 (by decide) ?_
  exact k
theorem bX12_shifts_67_0 {g : GG} {d n0 nf : Nat} {post : Option Value → LX → Prop} {n : Nat} {X : LX} (hn : 146 ≤ n) (hX : Sh n X) {v1 : Int32} {v2 : Int32} {v3 : Int32} {v4 : Int32} {v5 : Int32} (c0 : ¬ v2 < v5) (c1 : v5 &&& (v2 ^^^ (-1)) = 0) (k : Ev g mX12_shifts d n0 nf post n 85 [some (.ref 133), some (.int v1), some (.int v2), some (.int v3), some (.int v4), some (.int v5), none] [.int v5, .ref 133] X) : Ev g mX12_shifts d n0 nf post n 67 [some (.ref 133), some (.int v1), some (.int v2), some (.int v3), some (.int v4), some (.int v5), none] [] X := by
  refine ev_iload dX12_shifts_67 rfl ?_
  refine ev_iload_n dX12_shifts_69 rfl ?_
  refine ev_icmpF (tgt := 118) dX12_shifts_70 (by decide) c0 ?_
  refine ev_iload dX12_shifts_73 rfl ?_
  refine ev_iload_n dX12_shifts_75 rfl ?_
  refine ev_iconst (v := (-1)) dX12_shifts_76 ki_m1 ?_
  refine ev_ixor dX12_shifts_77 ?_
  refine ev_iand dX12_shifts_78 ?_
  refine ev_ifF (tgt := 112) dX12_shifts_79 (by decide) c1 ?_
  refine ev_aload_n dX12_shifts_82 rfl ?_
  refine ev_iload dX12_shifts_83 rfl ?_
  exact k
theorem bX12_shifts_67_1 {g : GG} {d n0 nf : Nat} {post : Option Value → LX → Prop} {n : Nat} {X : LX} (hn : 146 ≤ n) (hX : Sh n X) {v1 : Int32} {v2 : Int32} {v3 : Int32} {v4 : Int32} {v5 : Int32} (c0 : ¬ v2 < v5) (c1 : ¬ v5 &&& (v2 ^^^ (-1)) = 0) (k : Ev g mX12_shifts d n0 nf post n 67 [some (.ref 133), some (.int v1), some (.int v2), some (.int v3), some (.int v4), some (.int (v5 + 1)), none] [] X) : Ev g mX12_shifts d n0 nf post n 67 [some (.ref 133), some (.int v1), some (.int v2), some (.int v3), some (.int v4), some (.int v5), none] [] X := by
  refine ev_iload dX12_shifts_67 rfl ?_
  refine ev_iload_n dX12_shifts_69 rfl ?_
  refine ev_icmpF (tgt := 118) dX12_shifts_70 (by decide) c0 ?_
  refine ev_iload dX12_shifts_73 rfl ?_
  refine ev_iload_n dX12_shifts_75 rfl ?_
  refine ev_iconst (v := (-1)) dX12_shifts_76 ki_m1 ?_
  refine ev_ixor dX12_shifts_77 ?_
  refine ev_iand dX12_shifts_78 ?_
  refine ev_ifT (tgt := 112) dX12_shifts_79 (by decide) c1 ?_
  refine ev_iinc (v := v5 + 1) dX12_shifts_112 rfl (by rw [show Int32.ofInt 1 = 1 from ki_1]) (by decide) ?_
  refine ev_goto (tgt := 67) dX12_shifts_115 (by decide) ?_
  exact k
theorem bX12_shifts_67_2 {g : GG} {d n0 nf : Nat} {post : Option Value → LX → Prop} {n : Nat} {X : LX} (hn : 146 ≤ nf) (hX : Sh nf X) {v1 : Int32} {v2 : Int32} {v3 : Int32} {v4 : Int32} {v5 : Int32} (c0 : v2 < v5) (c1 : v1 = 0) (hp : post (some (.int v3)) X) : Ev g mX12_shifts d n0 nf post nf 67 [some (.ref 133), some (.int v1), some (.int v2), some (.int v3), some (.int v4), some (.int v5), none] [] X := by
  refine ev_iload dX12_shifts_67 rfl ?_
  refine ev_iload_n dX12_shifts_69 rfl ?_
  refine ev_icmpT (tgt := 118) dX12_shifts_70 (by decide) c0 ?_
  refine ev_iload_n dX12_shifts_118 rfl ?_
  refine ev_ifF (tgt := 126) dX12_shifts_119 (by decide) c1 ?_
  refine ev_iload_n dX12_shifts_122 rfl ?_
  refine ev_goto (tgt := 128) dX12_shifts_123 (by decide) ?_
  exact ev_iret dX12_shifts_128 rfl rfl hp
theorem bX12_shifts_67_3 {g : GG} {d n0 nf : Nat} {post : Option Value → LX → Prop} {n : Nat} {X : LX} (hn : 146 ≤ nf) (hX : Sh nf X) {v1 : Int32} {v2 : Int32} {v3 : Int32} {v4 : Int32} {v5 : Int32} (c0 : v2 < v5) (c1 : ¬ v1 = 0) (hp : post (some (.int v4)) X) : Ev g mX12_shifts d n0 nf post nf 67 [some (.ref 133), some (.int v1), some (.int v2), some (.int v3), some (.int v4), some (.int v5), none] [] X := by
  refine ev_iload dX12_shifts_67 rfl ?_
  refine ev_iload_n dX12_shifts_69 rfl ?_
  refine ev_icmpT (tgt := 118) dX12_shifts_70 (by decide) c0 ?_
  refine ev_iload_n dX12_shifts_118 rfl ?_
  refine ev_ifT (tgt := 126) dX12_shifts_119 (by decide) c1 ?_
  refine ev_iload dX12_shifts_126 rfl ?_
  exact ev_iret dX12_shifts_128 rfl rfl hp
theorem bX12_shifts_88_0 {g : GG} {d n0 nf : Nat} {post : Option Value → LX → Prop} {n : Nat} {X : LX} (hn : 146 ≤ n) (hX : Sh n X) {v1 : Int32} {v2 : Int32} {v3 : Int32} {v4 : Int32} {v5 : Int32} {s0 : Int32} (c0 : ¬ v3 ≤ s0) (k : Ev g mX12_shifts d n0 nf post n 108 [some (.ref 133), some (.int v1), some (.int v2), some (.int v3), some (.int v5), some (.int v5), some (.int s0)] [.int v3, .int s0] X) : Ev g mX12_shifts d n0 nf post n 88 [some (.ref 133), some (.int v1), some (.int v2), some (.int v3), some (.int v4), some (.int v5), none] [.int s0] X := by
  refine ev_istore dX12_shifts_88 (by decide) ?_
  refine ev_iload dX12_shifts_90 rfl ?_
  refine ev_iload_n dX12_shifts_92 rfl ?_
  refine ev_icmpF (tgt := 101) dX12_shifts_93 (by decide) c0 ?_
  refine ev_iload dX12_shifts_96 rfl ?_
  refine ev_goto (tgt := 103) dX12_shifts_98 (by decide) ?_
  refine ev_istore dX12_shifts_103 (by decide) ?_
  refine ev_iload dX12_shifts_105 rfl ?_
  refine ev_iload_n dX12_shifts_107 rfl ?_
  exact k
theorem bX12_shifts_88_1 {g : GG} {d n0 nf : Nat} {post : Option Value → LX → Prop} {n : Nat} {X : LX} (hn : 146 ≤ n) (hX : Sh n X) {v1 : Int32} {v2 : Int32} {v3 : Int32} {v4 : Int32} {v5 : Int32} {s0 : Int32} (c0 : v3 ≤ s0) (k : Ev g mX12_shifts d n0 nf post n 108 [some (.ref 133), some (.int v1), some (.int v2), some (.int v3), some (.int v4), some (.int v5), some (.int s0)] [.int v3, .int s0] X) : Ev g mX12_shifts d n0 nf post n 88 [some (.ref 133), some (.int v1), some (.int v2), some (.int v3), some (.int v4), some (.int v5), none] [.int s0] X := by
  refine ev_istore dX12_shifts_88 (by decide) ?_
  refine ev_iload dX12_shifts_90 rfl ?_
  refine ev_iload_n dX12_shifts_92 rfl ?_
  refine ev_icmpT (tgt := 101) dX12_shifts_93 (by decide) c0 ?_
  refine ev_iload dX12_shifts_101 rfl ?_
  refine ev_istore dX12_shifts_103 (by decide) ?_
  refine ev_iload dX12_shifts_105 rfl ?_
  refine ev_iload_n dX12_shifts_107 rfl ?_
  exact k
theorem bX12_shifts_111_0 {g : GG} {d n0 nf : Nat} {post : Option Value → LX → Prop} {n : Nat} {X : LX} (hn : 146 ≤ n) (hX : Sh n X) {v1 : Int32} {v2 : Int32} {v3 : Int32} {v4 : Int32} {v5 : Int32} {v6 : Int32} {s0 : Int32} (k : Ev g mX12_shifts d n0 nf post n 67 [some (.ref 133), some (.int v1), some (.int v2), some (.int s0), some (.int v4), some (.int (v5 + 1)), some (.int v6)] [] X) : Ev g mX12_shifts d n0 nf post n 111 [some (.ref 133), some (.int v1), some (.int v2), some (.int v3), some (.int v4), some (.int v5), some (.int v6)] [.int s0] X := by
  refine ev_istore_n dX12_shifts_111 (by decide) ?_
  refine ev_iinc (v := v5 + 1) dX12_shifts_112 rfl (by rw [show Int32.ofInt 1 = 1 from ki_1]) (by decide) ?_
  refine ev_goto (tgt := 67) dX12_shifts_115 (by decide) ?_
  exact k
theorem bX12_picks_0_0 {g : GG} {d n0 nf : Nat} {post : Option Value → LX → Prop} {n : Nat} {X : LX} (hn : 146 ≤ n) (hX : Sh n X) {v1 : Int32} {v2 : Int32} {v3 : Int32} (k : Ev g mX12_picks d n0 nf post n 3 [some (.ref 133), some (.int v1), some (.int v2), some (.int v3)] [.int 3, .int 0, .int v1] X) : Ev g mX12_picks d n0 nf post n 0 [some (.ref 133), some (.int v1), some (.int v2), some (.int v3)] [] X := by
  refine ev_iload_n dX12_picks_0 rfl ?_
  refine ev_iconst (v := 0) dX12_picks_1 ki_0 ?_
  refine ev_iconst (v := 3) dX12_picks_2 ki_3 ?_
  exact k
theorem bX12_picks_6_0 {g : GG} {d n0 nf : Nat} {post : Option Value → LX → Prop} {n : Nat} {X : LX} (hn : 146 ≤ n) (hX : Sh n X) {v1 : Int32} {v2 : Int32} {v3 : Int32} {s0 : Int32} (c0 : ¬ s0 = 0) (k : Ev g mX12_picks d n0 nf post n 12 [some (.ref 133), some (.int v1), some (.int v2), some (.int v3)] [.int 1, .int 0, .int v2] X) : Ev g mX12_picks d n0 nf post n 6 [some (.ref 133), some (.int v1), some (.int v2), some (.int v3)] [.int s0] X := by
  refine ev_ifF (tgt := 35) dX12_picks_6 (by decide) c0 ?_
  refine ev_iload_n dX12_picks_9 rfl ?_
  refine ev_iconst (v := 0) dX12_picks_10 ki_0 ?_
  refine ev_iconst (v := 1) dX12_picks_11 ki_1 ?_
  exact k
theorem bX12_picks_6_1 {g : GG} {d n0 nf : Nat} {post : Option Value → LX → Prop} {n : Nat} {X : LX} (hn : 146 ≤ nf) (hX : Sh nf X) {v1 : Int32} {v2 : Int32} {v3 : Int32} {s0 : Int32} (c0 : s0 = 0) (hp : post (some (.int (-1000000001))) X) : Ev g mX12_picks d n0 nf post nf 6 [some (.ref 133), some (.int v1), some (.int v2), some (.int v3)] [.int s0] X := by
  refine ev_ifT (tgt := 35) dX12_picks_6 (by decide) c0 ?_
  refine ev_ldc (v := (-1000000001)) dX12_picks_35 kw_12_57 ?_
  exact ev_iret dX12_picks_37 rfl rfl hp
theorem bX12_picks_15_0 {g : GG} {d n0 nf : Nat} {post : Option Value → LX → Prop} {n : Nat} {X : LX} (hn : 146 ≤ nf) (hX : Sh nf X) {v1 : Int32} {v2 : Int32} {v3 : Int32} {s0 : Int32} (c0 : ¬ s0 = 0) (c1 : ¬ v3 < 0) (c2 : ¬ v3 < 1 <<< ((X 134 6) &&& 31)) (hp : post (some (.int (-1000000001))) X) : Ev g mX12_picks d n0 nf post nf 15 [some (.ref 133), some (.int v1), some (.int v2), some (.int v3)] [.int s0] X := by
  refine ev_ifF (tgt := 35) dX12_picks_15 (by decide) c0 ?_
  refine ev_iload_n dX12_picks_18 rfl ?_
  refine ev_ifF (tgt := 35) dX12_picks_19 (by decide) c1 ?_
  refine ev_iload_n dX12_picks_22 rfl ?_
  refine ev_iconst (v := 1) dX12_picks_23 ki_1 ?_
  refine ev_aload_n dX12_picks_24 rfl ?_
  refine ev_getS (q := 134) dX12_picks_25 fo_12_9 (by omega) lo_133 rfl (sh_133_0 hX (by omega)) (by decide) ?_
  refine ev_bipush (v := 6) dX12_picks_28 kb_6 ?_
  refine ev_iald dX12_picks_30 (by omega) ly_134 nIl_6 (by decide) ?_
  refine ev_ishl dX12_picks_31 ?_
  refine ev_icmpF (tgt := 38) dX12_picks_32 (by decide) c2 ?_
  refine ev_ldc (v := (-1000000001)) dX12_picks_35 kw_12_57 ?_
  exact ev_iret dX12_picks_37 rfl rfl hp
theorem bX12_picks_15_1 {g : GG} {d n0 nf : Nat} {post : Option Value → LX → Prop} {n : Nat} {X : LX} (hn : 146 ≤ n) (hX : Sh n X) {v1 : Int32} {v2 : Int32} {v3 : Int32} {s0 : Int32} (c0 : ¬ s0 = 0) (c1 : ¬ v3 < 0) (c2 : v3 < 1 <<< ((X 134 6) &&& 31)) (k : Ev g mX12_picks d n0 nf post n 39 [some (.ref 133), some (.int v1), some (.int v2), some (.int v3)] [.ref 133] X) : Ev g mX12_picks d n0 nf post n 15 [some (.ref 133), some (.int v1), some (.int v2), some (.int v3)] [.int s0] X := by
  refine ev_ifF (tgt := 35) dX12_picks_15 (by decide) c0 ?_
  refine ev_iload_n dX12_picks_18 rfl ?_
  refine ev_ifF (tgt := 35) dX12_picks_19 (by decide) c1 ?_
  refine ev_iload_n dX12_picks_22 rfl ?_
  refine ev_iconst (v := 1) dX12_picks_23 ki_1 ?_
  refine ev_aload_n dX12_picks_24 rfl ?_
  refine ev_getS (q := 134) dX12_picks_25 fo_12_9 (by omega) lo_133 rfl (sh_133_0 hX (by omega)) (by decide) ?_
  refine ev_bipush (v := 6) dX12_picks_28 kb_6 ?_
  refine ev_iald dX12_picks_30 (by omega) ly_134 nIl_6 (by decide) ?_
  refine ev_ishl dX12_picks_31 ?_
  refine ev_icmpT (tgt := 38) dX12_picks_32 (by decide) c2 ?_
  refine ev_aload_n dX12_picks_38 rfl ?_
  exact k
theorem bX12_picks_15_2 {g : GG} {d n0 nf : Nat} {post : Option Value → LX → Prop} {n : Nat} {X : LX} (hn : 146 ≤ nf) (hX : Sh nf X) {v1 : Int32} {v2 : Int32} {v3 : Int32} {s0 : Int32} (c0 : ¬ s0 = 0) (c1 : v3 < 0) (hp : post (some (.int (-1000000001))) X) : Ev g mX12_picks d n0 nf post nf 15 [some (.ref 133), some (.int v1), some (.int v2), some (.int v3)] [.int s0] X := by
  refine ev_ifF (tgt := 35) dX12_picks_15 (by decide) c0 ?_
  refine ev_iload_n dX12_picks_18 rfl ?_
  refine ev_ifT (tgt := 35) dX12_picks_19 (by decide) c1 ?_
  refine ev_ldc (v := (-1000000001)) dX12_picks_35 kw_12_57 ?_
  exact ev_iret dX12_picks_37 rfl rfl hp
theorem bX12_picks_15_3 {g : GG} {d n0 nf : Nat} {post : Option Value → LX → Prop} {n : Nat} {X : LX} (hn : 146 ≤ nf) (hX : Sh nf X) {v1 : Int32} {v2 : Int32} {v3 : Int32} {s0 : Int32} (c0 : s0 = 0) (hp : post (some (.int (-1000000001))) X) : Ev g mX12_picks d n0 nf post nf 15 [some (.ref 133), some (.int v1), some (.int v2), some (.int v3)] [.int s0] X := by
  refine ev_ifT (tgt := 35) dX12_picks_15 (by decide) c0 ?_
  refine ev_ldc (v := (-1000000001)) dX12_picks_35 kw_12_57 ?_
  exact ev_iret dX12_picks_37 rfl rfl hp
theorem bX12_picks_42_0 {g : GG} {d n0 nf : Nat} {post : Option Value → LX → Prop} {n : Nat} {X : LX} (hn : 146 ≤ n) (hX : Sh n X) {v1 : Int32} {v2 : Int32} {v3 : Int32} (k : Ev g mX12_picks d n0 nf post n 46 [some (.ref 133), some (.int v1), some (.int v2), some (.int v3)] [.int v3, .int v2, .int v1, .ref 133] X) : Ev g mX12_picks d n0 nf post n 42 [some (.ref 133), some (.int v1), some (.int v2), some (.int v3)] [] X := by
  refine ev_aload_n dX12_picks_42 rfl ?_
  refine ev_iload_n dX12_picks_43 rfl ?_
  refine ev_iload_n dX12_picks_44 rfl ?_
  refine ev_iload_n dX12_picks_45 rfl ?_
  exact k
theorem bX12_picks_49_0 {g : GG} {d n0 nf : Nat} {post : Option Value → LX → Prop} {n : Nat} {X : LX} (hn : 146 ≤ nf) (hX : Sh nf X) {v1 : Int32} {v2 : Int32} {v3 : Int32} {s0 : Int32} (hp : post (some (.int s0)) X) : Ev g mX12_picks d n0 nf post nf 49 [some (.ref 133), some (.int v1), some (.int v2), some (.int v3)] [.int s0] X := by
  exact ev_iret dX12_picks_49 rfl rfl hp
theorem bX12_tell_0_0 {g : GG} {d n0 nf : Nat} {post : Option Value → LX → Prop} {n : Nat} {X : LX} (hn : 146 ≤ nf) (hX : Sh nf X) {v1 : Int32} (c0 : X 133 6 = 36) (hp : post (some (.int (-1000000003))) X) : Ev g mX12_tell d n0 nf post nf 0 [some (.ref 133), some (.int v1)] [] X := by
  refine ev_aload_n dX12_tell_0 rfl ?_
  refine ev_getI dX12_tell_1 fo_12_313 (by omega) lo_133 rfl ?_
  refine ev_bipush (v := 36) dX12_tell_4 kb_36 ?_
  refine ev_icmpF (tgt := 12) dX12_tell_6 (by decide) c0 ?_
  refine ev_ldc (v := (-1000000003)) dX12_tell_9 kw_12_58 ?_
  exact ev_iret dX12_tell_11 rfl rfl hp
theorem bX12_tell_0_1 {g : GG} {d n0 nf : Nat} {post : Option Value → LX → Prop} {n : Nat} {X : LX} (hn : 146 ≤ nf) (hX : Sh nf X) {v1 : Int32} {j1 : Nat} (c0 : ¬ X 133 6 = 36) (hj1 : X 133 6 = nI j1) (b0 : j1 < 36) (hp : post (some (.int ((X 133 6) + 1))) (lx_up (lx_up X 137 j1 v1) 133 6 ((X 133 6) + 1))) : Ev g mX12_tell d n0 nf post nf 0 [some (.ref 133), some (.int v1)] [] X := by
  refine ev_aload_n dX12_tell_0 rfl ?_
  refine ev_getI dX12_tell_1 fo_12_313 (by omega) lo_133 rfl ?_
  refine ev_bipush (v := 36) dX12_tell_4 kb_36 ?_
  refine ev_icmpT (tgt := 12) dX12_tell_6 (by decide) c0 ?_
  refine ev_aload_n dX12_tell_12 rfl ?_
  refine ev_getS (q := 137) dX12_tell_13 fo_12_19 (by omega) lo_133 rfl (sh_133_5 hX (by omega)) (by decide) ?_
  refine ev_aload_n dX12_tell_16 rfl ?_
  refine ev_getI dX12_tell_17 fo_12_313 (by omega) lo_133 rfl ?_
  refine ev_iload_n dX12_tell_20 rfl ?_
  refine ev_iast dX12_tell_21 (by omega) ly_137 hj1 b0 ?_
  have hX1 : Sh _ (lx_up X 137 j1 v1) := Sh.upA hX (by rw [ly_137]; exact (by decide : 0 < 2))
  refine ev_aload_n dX12_tell_22 rfl ?_
  refine ev_dup dX12_tell_23 rfl ?_
  refine ev_getI dX12_tell_24 fo_12_313 (by omega) lo_133 rfl ?_
  refine ev_iconst (v := 1) dX12_tell_27 ki_1 ?_
  refine ev_iadd dX12_tell_28 ?_
  refine ev_putI dX12_tell_29 fo_12_313 (by omega) lo_133 rfl rfl rfl ?_
  have hX2 : Sh _ (lx_up (lx_up X 137 j1 v1) 133 6 ((X 133 6) + 1)) := Sh.upF hX1 (by rw [lo_133]; decide) (by decide)
  refine ev_aload_n dX12_tell_32 rfl ?_
  refine ev_getI dX12_tell_33 fo_12_313 (by omega) lo_133 rfl ?_
  exact ev_iret dX12_tell_36 rfl rfl hp
theorem bX12_check_0_0 {g : GG} {d n0 nf : Nat} {post : Option Value → LX → Prop} {n : Nat} {X : LX} (hn : 146 ≤ n) (hX : Sh n X)  (k : Ev g mX12_check d n0 nf post n 14 [some (.ref 133), some (.int (X 133 6)), none, none, none, none, none] [.int 5000, .ref 133] (lx_up X 133 6 0)) : Ev g mX12_check d n0 nf post n 0 [some (.ref 133), none, none, none, none, none, none] [] X := by
  refine ev_aload_n dX12_check_0 rfl ?_
  refine ev_getI dX12_check_1 fo_12_313 (by omega) lo_133 rfl ?_
  refine ev_istore_n dX12_check_4 (by decide) ?_
  refine ev_aload_n dX12_check_5 rfl ?_
  refine ev_iconst (v := 0) dX12_check_6 ki_0 ?_
  refine ev_putI dX12_check_7 fo_12_313 (by omega) lo_133 rfl rfl rfl ?_
  have hX1 : Sh _ (lx_up X 133 6 0) := Sh.upF hX (by rw [lo_133]; decide) (by decide)
  refine ev_aload_n dX12_check_10 rfl ?_
  refine ev_sipush (v := 5000) dX12_check_11 ks_5000 ?_
  exact k
theorem bX12_check_17_0 {g : GG} {d n0 nf : Nat} {post : Option Value → LX → Prop} {n : Nat} {X : LX} (hn : 146 ≤ nf) (hX : Sh nf X) {v1 : Int32} {s0 : Int32} (c0 : ¬ s0 = 0) (hp : post (some (.int s0)) X) : Ev g mX12_check d n0 nf post nf 17 [some (.ref 133), some (.int v1), none, none, none, none, none] [.int s0] X := by
  refine ev_istore_n dX12_check_17 (by decide) ?_
  refine ev_iload_n dX12_check_18 rfl ?_
  refine ev_ifF (tgt := 24) dX12_check_19 (by decide) c0 ?_
  refine ev_iload_n dX12_check_22 rfl ?_
  exact ev_iret dX12_check_23 rfl rfl hp
theorem bX12_check_17_1 {g : GG} {d n0 nf : Nat} {post : Option Value → LX → Prop} {n : Nat} {X : LX} (hn : 146 ≤ n) (hX : Sh n X) {v1 : Int32} {s0 : Int32} (c0 : s0 = 0) (k : Ev g mX12_check d n0 nf post n 29 [some (.ref 133), some (.int v1), some (.int s0), some (.int 0), some (.int 0), none, none] [] X) : Ev g mX12_check d n0 nf post n 17 [some (.ref 133), some (.int v1), none, none, none, none, none] [.int s0] X := by
  refine ev_istore_n dX12_check_17 (by decide) ?_
  refine ev_iload_n dX12_check_18 rfl ?_
  refine ev_ifT (tgt := 24) dX12_check_19 (by decide) c0 ?_
  refine ev_iconst (v := 0) dX12_check_24 ki_0 ?_
  refine ev_istore_n dX12_check_25 (by decide) ?_
  refine ev_iconst (v := 0) dX12_check_26 ki_0 ?_
  refine ev_istore dX12_check_27 (by decide) ?_
  exact k
theorem bX12_check_29_0 {g : GG} {d n0 nf : Nat} {post : Option Value → LX → Prop} {n : Nat} {X : LX} (hn : 146 ≤ n) (hX : Sh n X) {v1 : Int32} {v2 : Int32} {v3 : Int32} {v4 : Int32} (c0 : ¬ X 134 6 ≤ v4) (k : Ev g mX12_check d n0 nf post n 44 [some (.ref 133), some (.int v1), some (.int v2), some (.int v3), some (.int v4), some (.int 0), none] [] X) : Ev g mX12_check d n0 nf post n 29 [some (.ref 133), some (.int v1), some (.int v2), some (.int v3), some (.int v4), none, none] [] X := by
  refine ev_iload dX12_check_29 rfl ?_
  refine ev_aload_n dX12_check_31 rfl ?_
  refine ev_getS (q := 134) dX12_check_32 fo_12_9 (by omega) lo_133 rfl (sh_133_0 hX (by omega)) (by decide) ?_
  refine ev_bipush (v := 6) dX12_check_35 kb_6 ?_
  refine ev_iald dX12_check_37 (by omega) ly_134 nIl_6 (by decide) ?_
  refine ev_icmpF (tgt := 136) dX12_check_38 (by decide) c0 ?_
  refine ev_iconst (v := 0) dX12_check_41 ki_0 ?_
  refine ev_istore dX12_check_42 (by decide) ?_
  exact k
theorem bX12_check_29_1 {g : GG} {d n0 nf : Nat} {post : Option Value → LX → Prop} {n : Nat} {X : LX} (hn : 146 ≤ nf) (hX : Sh nf X) {v1 : Int32} {v2 : Int32} {v3 : Int32} {v4 : Int32} (c0 : X 134 6 ≤ v4) (c1 : ¬ v1 ≤ v3) (hp : post (some (.int (1 + v3))) X) : Ev g mX12_check d n0 nf post nf 29 [some (.ref 133), some (.int v1), some (.int v2), some (.int v3), some (.int v4), none, none] [] X := by
  refine ev_iload dX12_check_29 rfl ?_
  refine ev_aload_n dX12_check_31 rfl ?_
  refine ev_getS (q := 134) dX12_check_32 fo_12_9 (by omega) lo_133 rfl (sh_133_0 hX (by omega)) (by decide) ?_
  refine ev_bipush (v := 6) dX12_check_35 kb_6 ?_
  refine ev_iald dX12_check_37 (by omega) ly_134 nIl_6 (by decide) ?_
  refine ev_icmpT (tgt := 136) dX12_check_38 (by decide) c0 ?_
  refine ev_iload_n dX12_check_136 rfl ?_
  refine ev_iload_n dX12_check_137 rfl ?_
  refine ev_icmpF (tgt := 147) dX12_check_138 (by decide) c1 ?_
  refine ev_iconst (v := 1) dX12_check_141 ki_1 ?_
  refine ev_iload_n dX12_check_142 rfl ?_
  refine ev_iadd dX12_check_143 ?_
  refine ev_goto (tgt := 148) dX12_check_144 (by decide) ?_
  exact ev_iret dX12_check_148 rfl rfl hp
theorem bX12_check_29_2 {g : GG} {d n0 nf : Nat} {post : Option Value → LX → Prop} {n : Nat} {X : LX} (hn : 146 ≤ nf) (hX : Sh nf X) {v1 : Int32} {v2 : Int32} {v3 : Int32} {v4 : Int32} (c0 : X 134 6 ≤ v4) (c1 : v1 ≤ v3) (hp : post (some (.int 0)) X) : Ev g mX12_check d n0 nf post nf 29 [some (.ref 133), some (.int v1), some (.int v2), some (.int v3), some (.int v4), none, none] [] X := by
  refine ev_iload dX12_check_29 rfl ?_
  refine ev_aload_n dX12_check_31 rfl ?_
  refine ev_getS (q := 134) dX12_check_32 fo_12_9 (by omega) lo_133 rfl (sh_133_0 hX (by omega)) (by decide) ?_
  refine ev_bipush (v := 6) dX12_check_35 kb_6 ?_
  refine ev_iald dX12_check_37 (by omega) ly_134 nIl_6 (by decide) ?_
  refine ev_icmpT (tgt := 136) dX12_check_38 (by decide) c0 ?_
  refine ev_iload_n dX12_check_136 rfl ?_
  refine ev_iload_n dX12_check_137 rfl ?_
  refine ev_icmpT (tgt := 147) dX12_check_138 (by decide) c1 ?_
  refine ev_iconst (v := 0) dX12_check_147 ki_0 ?_
  exact ev_iret dX12_check_148 rfl rfl hp
theorem bX12_check_44_0 {g : GG} {d n0 nf : Nat} {post : Option Value → LX → Prop} {n : Nat} {X : LX} (hn : 146 ≤ nf) (hX : Sh nf X) {v1 : Int32} {v2 : Int32} {v3 : Nat} {v4 : Nat} {v5 : Int32} (c0 : ¬ 3 ≤ v5) (b0 : v4 < 12) (c1 : ¬ X 144 v4 < 0) (c2 : v5 = 0) (c3 : ¬ nI v3 = v1) (b1 : v3 < 36) (c4 : ¬ X 137 v3 = nI v4) (hp : post (some (.int (1 + (nI v3)))) X) : Ev g mX12_check d n0 nf post nf 44 [some (.ref 133), some (.int v1), some (.int v2), some (.int (nI v3)), some (.int (nI v4)), some (.int v5), none] [] X := by
  refine ev_iload dX12_check_44 rfl ?_
  refine ev_iconst (v := 3) dX12_check_46 ki_3 ?_
  refine ev_icmpF (tgt := 130) dX12_check_47 (by decide) c0 ?_
  refine ev_aload_n dX12_check_50 rfl ?_
  refine ev_getS (q := 144) dX12_check_51 fo_12_46 (by omega) lo_133 rfl (sh_133_27 hX (by omega)) (by decide) ?_
  refine ev_iload dX12_check_54 rfl ?_
  refine ev_iald dX12_check_56 (by omega) ly_144 rfl b0 ?_
  refine ev_ifF (tgt := 130) dX12_check_57 (by decide) c1 ?_
  refine ev_iload dX12_check_60 rfl ?_
  refine ev_ifF (tgt := 70) dX12_check_62 (by decide) c2 ?_
  refine ev_iload dX12_check_65 rfl ?_
  refine ev_goto (tgt := 99) dX12_check_67 (by decide) ?_
  refine ev_istore dX12_check_99 (by decide) ?_
  refine ev_iload_n dX12_check_101 rfl ?_
  refine ev_iload_n dX12_check_102 rfl ?_
  refine ev_icmpF (tgt := 117) dX12_check_103 (by decide) c3 ?_
  refine ev_aload_n dX12_check_106 rfl ?_
  refine ev_getS (q := 137) dX12_check_107 fo_12_19 (by omega) lo_133 rfl (sh_133_5 hX (by omega)) (by decide) ?_
  refine ev_iload_n dX12_check_110 rfl ?_
  refine ev_iald dX12_check_111 (by omega) ly_137 rfl b1 ?_
  refine ev_iload dX12_check_112 rfl ?_
  refine ev_icmpF (tgt := 121) dX12_check_114 (by decide) c4 ?_
  refine ev_iconst (v := 1) dX12_check_117 ki_1 ?_
  refine ev_iload_n dX12_check_118 rfl ?_
  refine ev_iadd dX12_check_119 ?_
  exact ev_iret dX12_check_120 rfl rfl hp
theorem bX12_check_44_1 {g : GG} {d n0 nf : Nat} {post : Option Value → LX → Prop} {n : Nat} {X : LX} (hn : 146 ≤ n) (hX : Sh n X) {v1 : Int32} {v2 : Int32} {v3 : Nat} {v4 : Nat} {v5 : Int32} (c0 : ¬ 3 ≤ v5) (b0 : v4 < 12) (c1 : ¬ X 144 v4 < 0) (c2 : v5 = 0) (c3 : ¬ nI v3 = v1) (b1 : v3 < 36) (c4 : X 137 v3 = nI v4) (k : Ev g mX12_check d n0 nf post n 44 [some (.ref 133), some (.int v1), some (.int v2), some (.int ((nI v3) + 1)), some (.int (nI v4)), some (.int (v5 + 1)), some (.int (nI v4))] [] X) : Ev g mX12_check d n0 nf post n 44 [some (.ref 133), some (.int v1), some (.int v2), some (.int (nI v3)), some (.int (nI v4)), some (.int v5), none] [] X := by
  refine ev_iload dX12_check_44 rfl ?_
  refine ev_iconst (v := 3) dX12_check_46 ki_3 ?_
  refine ev_icmpF (tgt := 130) dX12_check_47 (by decide) c0 ?_
  refine ev_aload_n dX12_check_50 rfl ?_
  refine ev_getS (q := 144) dX12_check_51 fo_12_46 (by omega) lo_133 rfl (sh_133_27 hX (by omega)) (by decide) ?_
  refine ev_iload dX12_check_54 rfl ?_
  refine ev_iald dX12_check_56 (by omega) ly_144 rfl b0 ?_
  refine ev_ifF (tgt := 130) dX12_check_57 (by decide) c1 ?_
  refine ev_iload dX12_check_60 rfl ?_
  refine ev_ifF (tgt := 70) dX12_check_62 (by decide) c2 ?_
  refine ev_iload dX12_check_65 rfl ?_
  refine ev_goto (tgt := 99) dX12_check_67 (by decide) ?_
  refine ev_istore dX12_check_99 (by decide) ?_
  refine ev_iload_n dX12_check_101 rfl ?_
  refine ev_iload_n dX12_check_102 rfl ?_
  refine ev_icmpF (tgt := 117) dX12_check_103 (by decide) c3 ?_
  refine ev_aload_n dX12_check_106 rfl ?_
  refine ev_getS (q := 137) dX12_check_107 fo_12_19 (by omega) lo_133 rfl (sh_133_5 hX (by omega)) (by decide) ?_
  refine ev_iload_n dX12_check_110 rfl ?_
  refine ev_iald dX12_check_111 (by omega) ly_137 rfl b1 ?_
  refine ev_iload dX12_check_112 rfl ?_
  refine ev_icmpT (tgt := 121) dX12_check_114 (by decide) c4 ?_
  refine ev_iinc (v := (nI v3) + 1) dX12_check_121 rfl (by rw [show Int32.ofInt 1 = 1 from ki_1]) (by decide) ?_
  refine ev_iinc (v := v5 + 1) dX12_check_124 rfl (by rw [show Int32.ofInt 1 = 1 from ki_1]) (by decide) ?_
  refine ev_goto (tgt := 44) dX12_check_127 (by decide) ?_
  exact k
theorem bX12_check_44_2 {g : GG} {d n0 nf : Nat} {post : Option Value → LX → Prop} {n : Nat} {X : LX} (hn : 146 ≤ nf) (hX : Sh nf X) {v1 : Int32} {v2 : Int32} {v3 : Nat} {v4 : Nat} {v5 : Int32} (c0 : ¬ 3 ≤ v5) (b0 : v4 < 12) (c1 : ¬ X 144 v4 < 0) (c2 : v5 = 0) (c3 : nI v3 = v1) (hp : post (some (.int (1 + (nI v3)))) X) : Ev g mX12_check d n0 nf post nf 44 [some (.ref 133), some (.int v1), some (.int v2), some (.int (nI v3)), some (.int (nI v4)), some (.int v5), none] [] X := by
  refine ev_iload dX12_check_44 rfl ?_
  refine ev_iconst (v := 3) dX12_check_46 ki_3 ?_
  refine ev_icmpF (tgt := 130) dX12_check_47 (by decide) c0 ?_
  refine ev_aload_n dX12_check_50 rfl ?_
  refine ev_getS (q := 144) dX12_check_51 fo_12_46 (by omega) lo_133 rfl (sh_133_27 hX (by omega)) (by decide) ?_
  refine ev_iload dX12_check_54 rfl ?_
  refine ev_iald dX12_check_56 (by omega) ly_144 rfl b0 ?_
  refine ev_ifF (tgt := 130) dX12_check_57 (by decide) c1 ?_
  refine ev_iload dX12_check_60 rfl ?_
  refine ev_ifF (tgt := 70) dX12_check_62 (by decide) c2 ?_
  refine ev_iload dX12_check_65 rfl ?_
  refine ev_goto (tgt := 99) dX12_check_67 (by decide) ?_
  refine ev_istore dX12_check_99 (by decide) ?_
  refine ev_iload_n dX12_check_101 rfl ?_
  refine ev_iload_n dX12_check_102 rfl ?_
  refine ev_icmpT (tgt := 117) dX12_check_103 (by decide) c3 ?_
  refine ev_iconst (v := 1) dX12_check_117 ki_1 ?_
  refine ev_iload_n dX12_check_118 rfl ?_
  refine ev_iadd dX12_check_119 ?_
  exact ev_iret dX12_check_120 rfl rfl hp
theorem bX12_check_44_3 {g : GG} {d n0 nf : Nat} {post : Option Value → LX → Prop} {n : Nat} {X : LX} (hn : 146 ≤ nf) (hX : Sh nf X) {v1 : Int32} {v2 : Int32} {v3 : Nat} {v4 : Nat} {v5 : Int32} (c0 : ¬ 3 ≤ v5) (b0 : v4 < 12) (c1 : ¬ X 144 v4 < 0) (c2 : ¬ v5 = 0) (c3 : v5 = 1) (b1 : v4 < 12) (c4 : ¬ nI v3 = v1) (b2 : v3 < 36) (c5 : ¬ X 137 v3 = (X 144 v4) / 100) (hp : post (some (.int (1 + (nI v3)))) X) : Ev g mX12_check d n0 nf post nf 44 [some (.ref 133), some (.int v1), some (.int v2), some (.int (nI v3)), some (.int (nI v4)), some (.int v5), none] [] X := by
  refine ev_iload dX12_check_44 rfl ?_
  refine ev_iconst (v := 3) dX12_check_46 ki_3 ?_
  refine ev_icmpF (tgt := 130) dX12_check_47 (by decide) c0 ?_
  refine ev_aload_n dX12_check_50 rfl ?_
  refine ev_getS (q := 144) dX12_check_51 fo_12_46 (by omega) lo_133 rfl (sh_133_27 hX (by omega)) (by decide) ?_
  refine ev_iload dX12_check_54 rfl ?_
  refine ev_iald dX12_check_56 (by omega) ly_144 rfl b0 ?_
  refine ev_ifF (tgt := 130) dX12_check_57 (by decide) c1 ?_
  refine ev_iload dX12_check_60 rfl ?_
  refine ev_ifT (tgt := 70) dX12_check_62 (by decide) c2 ?_
  refine ev_iload dX12_check_70 rfl ?_
  refine ev_iconst (v := 1) dX12_check_72 ki_1 ?_
  refine ev_icmpF (tgt := 89) dX12_check_73 (by decide) c3 ?_
  refine ev_aload_n dX12_check_76 rfl ?_
  refine ev_getS (q := 144) dX12_check_77 fo_12_46 (by omega) lo_133 rfl (sh_133_27 hX (by omega)) (by decide) ?_
  refine ev_iload dX12_check_80 rfl ?_
  refine ev_iald dX12_check_82 (by omega) ly_144 rfl b1 ?_
  refine ev_bipush (v := 100) dX12_check_83 kb_100 ?_
  refine ev_idiv dX12_check_85 (by decide) ?_
  refine ev_goto (tgt := 99) dX12_check_86 (by decide) ?_
  refine ev_istore dX12_check_99 (by decide) ?_
  refine ev_iload_n dX12_check_101 rfl ?_
  refine ev_iload_n dX12_check_102 rfl ?_
  refine ev_icmpF (tgt := 117) dX12_check_103 (by decide) c4 ?_
  refine ev_aload_n dX12_check_106 rfl ?_
  refine ev_getS (q := 137) dX12_check_107 fo_12_19 (by omega) lo_133 rfl (sh_133_5 hX (by omega)) (by decide) ?_
  refine ev_iload_n dX12_check_110 rfl ?_
  refine ev_iald dX12_check_111 (by omega) ly_137 rfl b2 ?_
  refine ev_iload dX12_check_112 rfl ?_
  refine ev_icmpF (tgt := 121) dX12_check_114 (by decide) c5 ?_
  refine ev_iconst (v := 1) dX12_check_117 ki_1 ?_
  refine ev_iload_n dX12_check_118 rfl ?_
  refine ev_iadd dX12_check_119 ?_
  exact ev_iret dX12_check_120 rfl rfl hp
theorem bX12_check_44_4 {g : GG} {d n0 nf : Nat} {post : Option Value → LX → Prop} {n : Nat} {X : LX} (hn : 146 ≤ n) (hX : Sh n X) {v1 : Int32} {v2 : Int32} {v3 : Nat} {v4 : Nat} {v5 : Int32} (c0 : ¬ 3 ≤ v5) (b0 : v4 < 12) (c1 : ¬ X 144 v4 < 0) (c2 : ¬ v5 = 0) (c3 : v5 = 1) (b1 : v4 < 12) (c4 : ¬ nI v3 = v1) (b2 : v3 < 36) (c5 : X 137 v3 = (X 144 v4) / 100) (k : Ev g mX12_check d n0 nf post n 44 [some (.ref 133), some (.int v1), some (.int v2), some (.int ((nI v3) + 1)), some (.int (nI v4)), some (.int (v5 + 1)), some (.int ((X 144 v4) / 100))] [] X) : Ev g mX12_check d n0 nf post n 44 [some (.ref 133), some (.int v1), some (.int v2), some (.int (nI v3)), some (.int (nI v4)), some (.int v5), none] [] X := by
  refine ev_iload dX12_check_44 rfl ?_
  refine ev_iconst (v := 3) dX12_check_46 ki_3 ?_
  refine ev_icmpF (tgt := 130) dX12_check_47 (by decide) c0 ?_
  refine ev_aload_n dX12_check_50 rfl ?_
  refine ev_getS (q := 144) dX12_check_51 fo_12_46 (by omega) lo_133 rfl (sh_133_27 hX (by omega)) (by decide) ?_
  refine ev_iload dX12_check_54 rfl ?_
  refine ev_iald dX12_check_56 (by omega) ly_144 rfl b0 ?_
  refine ev_ifF (tgt := 130) dX12_check_57 (by decide) c1 ?_
  refine ev_iload dX12_check_60 rfl ?_
  refine ev_ifT (tgt := 70) dX12_check_62 (by decide) c2 ?_
  refine ev_iload dX12_check_70 rfl ?_
  refine ev_iconst (v := 1) dX12_check_72 ki_1 ?_
  refine ev_icmpF (tgt := 89) dX12_check_73 (by decide) c3 ?_
  refine ev_aload_n dX12_check_76 rfl ?_
  refine ev_getS (q := 144) dX12_check_77 fo_12_46 (by omega) lo_133 rfl (sh_133_27 hX (by omega)) (by decide) ?_
  refine ev_iload dX12_check_80 rfl ?_
  refine ev_iald dX12_check_82 (by omega) ly_144 rfl b1 ?_
  refine ev_bipush (v := 100) dX12_check_83 kb_100 ?_
  refine ev_idiv dX12_check_85 (by decide) ?_
  refine ev_goto (tgt := 99) dX12_check_86 (by decide) ?_
  refine ev_istore dX12_check_99 (by decide) ?_
  refine ev_iload_n dX12_check_101 rfl ?_
  refine ev_iload_n dX12_check_102 rfl ?_
  refine ev_icmpF (tgt := 117) dX12_check_103 (by decide) c4 ?_
  refine ev_aload_n dX12_check_106 rfl ?_
  refine ev_getS (q := 137) dX12_check_107 fo_12_19 (by omega) lo_133 rfl (sh_133_5 hX (by omega)) (by decide) ?_
  refine ev_iload_n dX12_check_110 rfl ?_
  refine ev_iald dX12_check_111 (by omega) ly_137 rfl b2 ?_
  refine ev_iload dX12_check_112 rfl ?_
  refine ev_icmpT (tgt := 121) dX12_check_114 (by decide) c5 ?_
  refine ev_iinc (v := (nI v3) + 1) dX12_check_121 rfl (by rw [show Int32.ofInt 1 = 1 from ki_1]) (by decide) ?_
  refine ev_iinc (v := v5 + 1) dX12_check_124 rfl (by rw [show Int32.ofInt 1 = 1 from ki_1]) (by decide) ?_
  refine ev_goto (tgt := 44) dX12_check_127 (by decide) ?_
  exact k
theorem bX12_check_44_5 {g : GG} {d n0 nf : Nat} {post : Option Value → LX → Prop} {n : Nat} {X : LX} (hn : 146 ≤ nf) (hX : Sh nf X) {v1 : Int32} {v2 : Int32} {v3 : Nat} {v4 : Nat} {v5 : Int32} (c0 : ¬ 3 ≤ v5) (b0 : v4 < 12) (c1 : ¬ X 144 v4 < 0) (c2 : ¬ v5 = 0) (c3 : v5 = 1) (b1 : v4 < 12) (c4 : nI v3 = v1) (hp : post (some (.int (1 + (nI v3)))) X) : Ev g mX12_check d n0 nf post nf 44 [some (.ref 133), some (.int v1), some (.int v2), some (.int (nI v3)), some (.int (nI v4)), some (.int v5), none] [] X := by
  refine ev_iload dX12_check_44 rfl ?_
  refine ev_iconst (v := 3) dX12_check_46 ki_3 ?_
  refine ev_icmpF (tgt := 130) dX12_check_47 (by decide) c0 ?_
  refine ev_aload_n dX12_check_50 rfl ?_
  refine ev_getS (q := 144) dX12_check_51 fo_12_46 (by omega) lo_133 rfl (sh_133_27 hX (by omega)) (by decide) ?_
  refine ev_iload dX12_check_54 rfl ?_
  refine ev_iald dX12_check_56 (by omega) ly_144 rfl b0 ?_
  refine ev_ifF (tgt := 130) dX12_check_57 (by decide) c1 ?_
  refine ev_iload dX12_check_60 rfl ?_
  refine ev_ifT (tgt := 70) dX12_check_62 (by decide) c2 ?_
  refine ev_iload dX12_check_70 rfl ?_
  refine ev_iconst (v := 1) dX12_check_72 ki_1 ?_
  refine ev_icmpF (tgt := 89) dX12_check_73 (by decide) c3 ?_
  refine ev_aload_n dX12_check_76 rfl ?_
  refine ev_getS (q := 144) dX12_check_77 fo_12_46 (by omega) lo_133 rfl (sh_133_27 hX (by omega)) (by decide) ?_
  refine ev_iload dX12_check_80 rfl ?_
  refine ev_iald dX12_check_82 (by omega) ly_144 rfl b1 ?_
  refine ev_bipush (v := 100) dX12_check_83 kb_100 ?_
  refine ev_idiv dX12_check_85 (by decide) ?_
  refine ev_goto (tgt := 99) dX12_check_86 (by decide) ?_
  refine ev_istore dX12_check_99 (by decide) ?_
  refine ev_iload_n dX12_check_101 rfl ?_
  refine ev_iload_n dX12_check_102 rfl ?_
  refine ev_icmpT (tgt := 117) dX12_check_103 (by decide) c4 ?_
  refine ev_iconst (v := 1) dX12_check_117 ki_1 ?_
  refine ev_iload_n dX12_check_118 rfl ?_
  refine ev_iadd dX12_check_119 ?_
  exact ev_iret dX12_check_120 rfl rfl hp
theorem bX12_check_44_6 {g : GG} {d n0 nf : Nat} {post : Option Value → LX → Prop} {n : Nat} {X : LX} (hn : 146 ≤ nf) (hX : Sh nf X) {v1 : Int32} {v2 : Int32} {v3 : Nat} {v4 : Nat} {v5 : Int32} (c0 : ¬ 3 ≤ v5) (b0 : v4 < 12) (c1 : ¬ X 144 v4 < 0) (c2 : ¬ v5 = 0) (c3 : ¬ v5 = 1) (b1 : v4 < 12) (c4 : ¬ nI v3 = v1) (b2 : v3 < 36) (c5 : ¬ X 137 v3 = (X 144 v4) - (X 144 v4) / 100 * 100) (hp : post (some (.int (1 + (nI v3)))) X) : Ev g mX12_check d n0 nf post nf 44 [some (.ref 133), some (.int v1), some (.int v2), some (.int (nI v3)), some (.int (nI v4)), some (.int v5), none] [] X := by
  refine ev_iload dX12_check_44 rfl ?_
  refine ev_iconst (v := 3) dX12_check_46 ki_3 ?_
  refine ev_icmpF (tgt := 130) dX12_check_47 (by decide) c0 ?_
  refine ev_aload_n dX12_check_50 rfl ?_
  refine ev_getS (q := 144) dX12_check_51 fo_12_46 (by omega) lo_133 rfl (sh_133_27 hX (by omega)) (by decide) ?_
  refine ev_iload dX12_check_54 rfl ?_
  refine ev_iald dX12_check_56 (by omega) ly_144 rfl b0 ?_
  refine ev_ifF (tgt := 130) dX12_check_57 (by decide) c1 ?_
  refine ev_iload dX12_check_60 rfl ?_
  refine ev_ifT (tgt := 70) dX12_check_62 (by decide) c2 ?_
  refine ev_iload dX12_check_70 rfl ?_
  refine ev_iconst (v := 1) dX12_check_72 ki_1 ?_
  refine ev_icmpT (tgt := 89) dX12_check_73 (by decide) c3 ?_
  refine ev_aload_n dX12_check_89 rfl ?_
  refine ev_getS (q := 144) dX12_check_90 fo_12_46 (by omega) lo_133 rfl (sh_133_27 hX (by omega)) (by decide) ?_
  refine ev_iload dX12_check_93 rfl ?_
  refine ev_iald dX12_check_95 (by omega) ly_144 rfl b1 ?_
  refine ev_bipush (v := 100) dX12_check_96 kb_100 ?_
  refine ev_irem dX12_check_98 (by decide) ?_
  refine ev_istore dX12_check_99 (by decide) ?_
  refine ev_iload_n dX12_check_101 rfl ?_
  refine ev_iload_n dX12_check_102 rfl ?_
  refine ev_icmpF (tgt := 117) dX12_check_103 (by decide) c4 ?_
  refine ev_aload_n dX12_check_106 rfl ?_
  refine ev_getS (q := 137) dX12_check_107 fo_12_19 (by omega) lo_133 rfl (sh_133_5 hX (by omega)) (by decide) ?_
  refine ev_iload_n dX12_check_110 rfl ?_
  refine ev_iald dX12_check_111 (by omega) ly_137 rfl b2 ?_
  refine ev_iload dX12_check_112 rfl ?_
  refine ev_icmpF (tgt := 121) dX12_check_114 (by decide) c5 ?_
  refine ev_iconst (v := 1) dX12_check_117 ki_1 ?_
  refine ev_iload_n dX12_check_118 rfl ?_
  refine ev_iadd dX12_check_119 ?_
  exact ev_iret dX12_check_120 rfl rfl hp
theorem bX12_check_44_7 {g : GG} {d n0 nf : Nat} {post : Option Value → LX → Prop} {n : Nat} {X : LX} (hn : 146 ≤ n) (hX : Sh n X) {v1 : Int32} {v2 : Int32} {v3 : Nat} {v4 : Nat} {v5 : Int32} (c0 : ¬ 3 ≤ v5) (b0 : v4 < 12) (c1 : ¬ X 144 v4 < 0) (c2 : ¬ v5 = 0) (c3 : ¬ v5 = 1) (b1 : v4 < 12) (c4 : ¬ nI v3 = v1) (b2 : v3 < 36) (c5 : X 137 v3 = (X 144 v4) - (X 144 v4) / 100 * 100) (k : Ev g mX12_check d n0 nf post n 44 [some (.ref 133), some (.int v1), some (.int v2), some (.int ((nI v3) + 1)), some (.int (nI v4)), some (.int (v5 + 1)), some (.int ((X 144 v4) - (X 144 v4) / 100 * 100))] [] X) : Ev g mX12_check d n0 nf post n 44 [some (.ref 133), some (.int v1), some (.int v2), some (.int (nI v3)), some (.int (nI v4)), some (.int v5), none] [] X := by
  refine ev_iload dX12_check_44 rfl ?_
  refine ev_iconst (v := 3) dX12_check_46 ki_3 ?_
  refine ev_icmpF (tgt := 130) dX12_check_47 (by decide) c0 ?_
  refine ev_aload_n dX12_check_50 rfl ?_
  refine ev_getS (q := 144) dX12_check_51 fo_12_46 (by omega) lo_133 rfl (sh_133_27 hX (by omega)) (by decide) ?_
  refine ev_iload dX12_check_54 rfl ?_
  refine ev_iald dX12_check_56 (by omega) ly_144 rfl b0 ?_
  refine ev_ifF (tgt := 130) dX12_check_57 (by decide) c1 ?_
  refine ev_iload dX12_check_60 rfl ?_
  refine ev_ifT (tgt := 70) dX12_check_62 (by decide) c2 ?_
  refine ev_iload dX12_check_70 rfl ?_
  refine ev_iconst (v := 1) dX12_check_72 ki_1 ?_
  refine ev_icmpT (tgt := 89) dX12_check_73 (by decide) c3 ?_
  refine ev_aload_n dX12_check_89 rfl ?_
  refine ev_getS (q := 144) dX12_check_90 fo_12_46 (by omega) lo_133 rfl (sh_133_27 hX (by omega)) (by decide) ?_
  refine ev_iload dX12_check_93 rfl ?_
  refine ev_iald dX12_check_95 (by omega) ly_144 rfl b1 ?_
  refine ev_bipush (v := 100) dX12_check_96 kb_100 ?_
  refine ev_irem dX12_check_98 (by decide) ?_
  refine ev_istore dX12_check_99 (by decide) ?_
  refine ev_iload_n dX12_check_101 rfl ?_
  refine ev_iload_n dX12_check_102 rfl ?_
  refine ev_icmpF (tgt := 117) dX12_check_103 (by decide) c4 ?_
  refine ev_aload_n dX12_check_106 rfl ?_
  refine ev_getS (q := 137) dX12_check_107 fo_12_19 (by omega) lo_133 rfl (sh_133_5 hX (by omega)) (by decide) ?_
  refine ev_iload_n dX12_check_110 rfl ?_
  refine ev_iald dX12_check_111 (by omega) ly_137 rfl b2 ?_
  refine ev_iload dX12_check_112 rfl ?_
  refine ev_icmpT (tgt := 121) dX12_check_114 (by decide) c5 ?_
  refine ev_iinc (v := (nI v3) + 1) dX12_check_121 rfl (by rw [show Int32.ofInt 1 = 1 from ki_1]) (by decide) ?_
  refine ev_iinc (v := v5 + 1) dX12_check_124 rfl (by rw [show Int32.ofInt 1 = 1 from ki_1]) (by decide) ?_
  refine ev_goto (tgt := 44) dX12_check_127 (by decide) ?_
  exact k
theorem bX12_check_44_8 {g : GG} {d n0 nf : Nat} {post : Option Value → LX → Prop} {n : Nat} {X : LX} (hn : 146 ≤ nf) (hX : Sh nf X) {v1 : Int32} {v2 : Int32} {v3 : Nat} {v4 : Nat} {v5 : Int32} (c0 : ¬ 3 ≤ v5) (b0 : v4 < 12) (c1 : ¬ X 144 v4 < 0) (c2 : ¬ v5 = 0) (c3 : ¬ v5 = 1) (b1 : v4 < 12) (c4 : nI v3 = v1) (hp : post (some (.int (1 + (nI v3)))) X) : Ev g mX12_check d n0 nf post nf 44 [some (.ref 133), some (.int v1), some (.int v2), some (.int (nI v3)), some (.int (nI v4)), some (.int v5), none] [] X := by
  refine ev_iload dX12_check_44 rfl ?_
  refine ev_iconst (v := 3) dX12_check_46 ki_3 ?_
  refine ev_icmpF (tgt := 130) dX12_check_47 (by decide) c0 ?_
  refine ev_aload_n dX12_check_50 rfl ?_
  refine ev_getS (q := 144) dX12_check_51 fo_12_46 (by omega) lo_133 rfl (sh_133_27 hX (by omega)) (by decide) ?_
  refine ev_iload dX12_check_54 rfl ?_
  refine ev_iald dX12_check_56 (by omega) ly_144 rfl b0 ?_
  refine ev_ifF (tgt := 130) dX12_check_57 (by decide) c1 ?_
  refine ev_iload dX12_check_60 rfl ?_
  refine ev_ifT (tgt := 70) dX12_check_62 (by decide) c2 ?_
  refine ev_iload dX12_check_70 rfl ?_
  refine ev_iconst (v := 1) dX12_check_72 ki_1 ?_
  refine ev_icmpT (tgt := 89) dX12_check_73 (by decide) c3 ?_
  refine ev_aload_n dX12_check_89 rfl ?_
  refine ev_getS (q := 144) dX12_check_90 fo_12_46 (by omega) lo_133 rfl (sh_133_27 hX (by omega)) (by decide) ?_
  refine ev_iload dX12_check_93 rfl ?_
  refine ev_iald dX12_check_95 (by omega) ly_144 rfl b1 ?_
  refine ev_bipush (v := 100) dX12_check_96 kb_100 ?_
  refine ev_irem dX12_check_98 (by decide) ?_
  refine ev_istore dX12_check_99 (by decide) ?_
  refine ev_iload_n dX12_check_101 rfl ?_
  refine ev_iload_n dX12_check_102 rfl ?_
  refine ev_icmpT (tgt := 117) dX12_check_103 (by decide) c4 ?_
  refine ev_iconst (v := 1) dX12_check_117 ki_1 ?_
  refine ev_iload_n dX12_check_118 rfl ?_
  refine ev_iadd dX12_check_119 ?_
  exact ev_iret dX12_check_120 rfl rfl hp
theorem bX12_check_44_9 {g : GG} {d n0 nf : Nat} {post : Option Value → LX → Prop} {n : Nat} {X : LX} (hn : 146 ≤ n) (hX : Sh n X) {v1 : Int32} {v2 : Int32} {v3 : Nat} {v4 : Nat} {v5 : Int32} (c0 : ¬ 3 ≤ v5) (b0 : v4 < 12) (c1 : X 144 v4 < 0) (k : Ev g mX12_check d n0 nf post n 29 [some (.ref 133), some (.int v1), some (.int v2), some (.int (nI v3)), some (.int ((nI v4) + 1)), some (.int v5), none] [] X) : Ev g mX12_check d n0 nf post n 44 [some (.ref 133), some (.int v1), some (.int v2), some (.int (nI v3)), some (.int (nI v4)), some (.int v5), none] [] X := by
  refine ev_iload dX12_check_44 rfl ?_
  refine ev_iconst (v := 3) dX12_check_46 ki_3 ?_
  refine ev_icmpF (tgt := 130) dX12_check_47 (by decide) c0 ?_
  refine ev_aload_n dX12_check_50 rfl ?_
  refine ev_getS (q := 144) dX12_check_51 fo_12_46 (by omega) lo_133 rfl (sh_133_27 hX (by omega)) (by decide) ?_
  refine ev_iload dX12_check_54 rfl ?_
  refine ev_iald dX12_check_56 (by omega) ly_144 rfl b0 ?_
  refine ev_ifT (tgt := 130) dX12_check_57 (by decide) c1 ?_
  refine ev_iinc (v := (nI v4) + 1) dX12_check_130 rfl (by rw [show Int32.ofInt 1 = 1 from ki_1]) (by decide) ?_
  refine ev_goto (tgt := 29) dX12_check_133 (by decide) ?_
  exact k
theorem bX12_check_44_10 {g : GG} {d n0 nf : Nat} {post : Option Value → LX → Prop} {n : Nat} {X : LX} (hn : 146 ≤ n) (hX : Sh n X) {v1 : Int32} {v2 : Int32} {v3 : Nat} {v4 : Nat} {v5 : Int32} (c0 : 3 ≤ v5) (k : Ev g mX12_check d n0 nf post n 29 [some (.ref 133), some (.int v1), some (.int v2), some (.int (nI v3)), some (.int ((nI v4) + 1)), some (.int v5), none] [] X) : Ev g mX12_check d n0 nf post n 44 [some (.ref 133), some (.int v1), some (.int v2), some (.int (nI v3)), some (.int (nI v4)), some (.int v5), none] [] X := by
  refine ev_iload dX12_check_44 rfl ?_
  refine ev_iconst (v := 3) dX12_check_46 ki_3 ?_
  refine ev_icmpT (tgt := 130) dX12_check_47 (by decide) c0 ?_
  refine ev_iinc (v := (nI v4) + 1) dX12_check_130 rfl (by rw [show Int32.ofInt 1 = 1 from ki_1]) (by decide) ?_
  refine ev_goto (tgt := 29) dX12_check_133 (by decide) ?_
  exact k
theorem bX12_keep_0_0 {g : GG} {d n0 nf : Nat} {post : Option Value → LX → Prop} {n : Nat} {X : LX} (hn : 146 ≤ n) (hX : Sh n X)  (k : Ev g mX12_keep d n0 nf post n 2 [some (.ref 133), some (.int 0)] [] X) : Ev g mX12_keep d n0 nf post n 0 [some (.ref 133), none] [] X := by
  refine ev_iconst (v := 0) dX12_keep_0 ki_0 ?_
  refine ev_istore_n dX12_keep_1 (by decide) ?_
  exact k
theorem bX12_keep_2_0 {g : GG} {d n0 nf : Nat} {post : Option Value → LX → Prop} {n : Nat} {X : LX} (hn : 146 ≤ n) (hX : Sh n X) {v1 : Nat} (c0 : ¬ 2156 ≤ nI v1) (b0 : v1 < 2156) (b1 : v1 < 2156) (k : Ev g mX12_keep d n0 nf post n 2 [some (.ref 133), some (.int ((nI v1) + 1))] [] (lx_up X 135 v1 (X 134 v1))) : Ev g mX12_keep d n0 nf post n 2 [some (.ref 133), some (.int (nI v1))] [] X := by
  refine ev_iload_n dX12_keep_2 rfl ?_
  refine ev_sipush (v := 2156) dX12_keep_3 ks_2156 ?_
  refine ev_icmpF (tgt := 27) dX12_keep_6 (by decide) c0 ?_
  refine ev_aload_n dX12_keep_9 rfl ?_
  refine ev_getS (q := 135) dX12_keep_10 fo_12_13 (by omega) lo_133 rfl (sh_133_1 hX (by omega)) (by decide) ?_
  refine ev_iload_n dX12_keep_13 rfl ?_
  refine ev_aload_n dX12_keep_14 rfl ?_
  refine ev_getS (q := 134) dX12_keep_15 fo_12_9 (by omega) lo_133 rfl (sh_133_0 hX (by omega)) (by decide) ?_
  refine ev_iload_n dX12_keep_18 rfl ?_
  refine ev_iald dX12_keep_19 (by omega) ly_134 rfl b0 ?_
  refine ev_iast dX12_keep_20 (by omega) ly_135 rfl b1 ?_
  have hX1 : Sh _ (lx_up X 135 v1 (X 134 v1)) := Sh.upA hX (by rw [ly_135]; exact (by decide : 0 < 2))
  refine ev_iinc (v := (nI v1) + 1) dX12_keep_21 rfl (by rw [show Int32.ofInt 1 = 1 from ki_1]) (by decide) ?_
  refine ev_goto (tgt := 2) dX12_keep_24 (by decide) ?_
  exact k
theorem bX12_keep_2_1 {g : GG} {d n0 nf : Nat} {post : Option Value → LX → Prop} {n : Nat} {X : LX} (hn : 146 ≤ nf) (hX : Sh nf X) {v1 : Nat} (c0 : 2156 ≤ nI v1) (hp : post (some (.int (X 134 0))) (lx_up X 133 2 1)) : Ev g mX12_keep d n0 nf post nf 2 [some (.ref 133), some (.int (nI v1))] [] X := by
  refine ev_iload_n dX12_keep_2 rfl ?_
  refine ev_sipush (v := 2156) dX12_keep_3 ks_2156 ?_
  refine ev_icmpT (tgt := 27) dX12_keep_6 (by decide) c0 ?_
  refine ev_aload_n dX12_keep_27 rfl ?_
  refine ev_iconst (v := 1) dX12_keep_28 ki_1 ?_
  refine ev_putZ dX12_keep_29 fo_12_316 (by omega) lo_133 rfl rfl rfl (by decide) ?_
  have hX1 : Sh _ (lx_up X 133 2 1) := Sh.upF hX (by rw [lo_133]; decide) (by decide)
  refine ev_aload_n dX12_keep_32 rfl ?_
  refine ev_getS (q := 134) dX12_keep_33 fo_12_9 (by omega) lo_133 rfl (sh_133_0 hX1 (by omega)) (by decide) ?_
  refine ev_iconst (v := 0) dX12_keep_36 ki_0 ?_
  refine ev_iald dX12_keep_37 (by omega) ly_134 nIl_0 (by decide) ?_
  exact ev_iret dX12_keep_38 rfl rfl hp
theorem bX12_back_0_0 {g : GG} {d n0 nf : Nat} {post : Option Value → LX → Prop} {n : Nat} {X : LX} (hn : 146 ≤ nf) (hX : Sh nf X)  (c0 : X 133 2 = 0) (hp : post (some (.int (-1000000002))) X) : Ev g mX12_back d n0 nf post nf 0 [some (.ref 133), none] [] X := by
  refine ev_aload_n dX12_back_0 rfl ?_
  refine ev_getI dX12_back_1 fo_12_316 (by omega) lo_133 rfl ?_
  refine ev_ifF (tgt := 10) dX12_back_4 (by decide) c0 ?_
  refine ev_ldc (v := (-1000000002)) dX12_back_7 kw_12_80 ?_
  exact ev_iret dX12_back_9 rfl rfl hp
theorem bX12_back_0_1 {g : GG} {d n0 nf : Nat} {post : Option Value → LX → Prop} {n : Nat} {X : LX} (hn : 146 ≤ n) (hX : Sh n X)  (c0 : ¬ X 133 2 = 0) (k : Ev g mX12_back d n0 nf post n 12 [some (.ref 133), some (.int 0)] [] X) : Ev g mX12_back d n0 nf post n 0 [some (.ref 133), none] [] X := by
  refine ev_aload_n dX12_back_0 rfl ?_
  refine ev_getI dX12_back_1 fo_12_316 (by omega) lo_133 rfl ?_
  refine ev_ifT (tgt := 10) dX12_back_4 (by decide) c0 ?_
  refine ev_iconst (v := 0) dX12_back_10 ki_0 ?_
  refine ev_istore_n dX12_back_11 (by decide) ?_
  exact k
theorem bX12_back_12_0 {g : GG} {d n0 nf : Nat} {post : Option Value → LX → Prop} {n : Nat} {X : LX} (hn : 146 ≤ n) (hX : Sh n X) {v1 : Nat} (c0 : ¬ 2156 ≤ nI v1) (b0 : v1 < 2156) (b1 : v1 < 2156) (k : Ev g mX12_back d n0 nf post n 12 [some (.ref 133), some (.int ((nI v1) + 1))] [] (lx_up X 134 v1 (X 135 v1))) : Ev g mX12_back d n0 nf post n 12 [some (.ref 133), some (.int (nI v1))] [] X := by
  refine ev_iload_n dX12_back_12 rfl ?_
  refine ev_sipush (v := 2156) dX12_back_13 ks_2156 ?_
  refine ev_icmpF (tgt := 37) dX12_back_16 (by decide) c0 ?_
  refine ev_aload_n dX12_back_19 rfl ?_
  refine ev_getS (q := 134) dX12_back_20 fo_12_9 (by omega) lo_133 rfl (sh_133_0 hX (by omega)) (by decide) ?_
  refine ev_iload_n dX12_back_23 rfl ?_
  refine ev_aload_n dX12_back_24 rfl ?_
  refine ev_getS (q := 135) dX12_back_25 fo_12_13 (by omega) lo_133 rfl (sh_133_1 hX (by omega)) (by decide) ?_
  refine ev_iload_n dX12_back_28 rfl ?_
  refine ev_iald dX12_back_29 (by omega) ly_135 rfl b0 ?_
  refine ev_iast dX12_back_30 (by omega) ly_134 rfl b1 ?_
  have hX1 : Sh _ (lx_up X 134 v1 (X 135 v1)) := Sh.upA hX (by rw [ly_134]; exact (by decide : 0 < 2))
  refine ev_iinc (v := (nI v1) + 1) dX12_back_31 rfl (by rw [show Int32.ofInt 1 = 1 from ki_1]) (by decide) ?_
  refine ev_goto (tgt := 12) dX12_back_34 (by decide) ?_
  exact k
theorem bX12_back_12_1 {g : GG} {d n0 nf : Nat} {post : Option Value → LX → Prop} {n : Nat} {X : LX} (hn : 146 ≤ nf) (hX : Sh nf X) {v1 : Nat} (c0 : 2156 ≤ nI v1) (hp : post (some (.int (X 134 0))) X) : Ev g mX12_back d n0 nf post nf 12 [some (.ref 133), some (.int (nI v1))] [] X := by
  refine ev_iload_n dX12_back_12 rfl ?_
  refine ev_sipush (v := 2156) dX12_back_13 ks_2156 ?_
  refine ev_icmpT (tgt := 37) dX12_back_16 (by decide) c0 ?_
  refine ev_aload_n dX12_back_37 rfl ?_
  refine ev_getS (q := 134) dX12_back_38 fo_12_9 (by omega) lo_133 rfl (sh_133_0 hX (by omega)) (by decide) ?_
  refine ev_iconst (v := 0) dX12_back_41 ki_0 ?_
  refine ev_iald dX12_back_42 (by omega) ly_134 nIl_0 (by decide) ?_
  exact ev_iret dX12_back_43 rfl rfl hp
theorem bX12_sheet_0_0 {g : GG} {d n0 nf : Nat} {post : Option Value → LX → Prop} {n : Nat} {X : LX} (hn : 146 ≤ n) (hX : Sh n X) {v1 : Int32} {v2 : Int32} (k : Ev g mX12_sheet d n0 nf post n 3 [some (.ref 133), some (.int v1), some (.int v2), none] [.int 1, .int 0, .int v1] X) : Ev g mX12_sheet d n0 nf post n 0 [some (.ref 133), some (.int v1), some (.int v2), none] [] X := by
  refine ev_iload_n dX12_sheet_0 rfl ?_
  refine ev_iconst (v := 0) dX12_sheet_1 ki_0 ?_
  refine ev_iconst (v := 1) dX12_sheet_2 ki_1 ?_
  exact k
theorem bX12_sheet_6_0 {g : GG} {d n0 nf : Nat} {post : Option Value → LX → Prop} {n : Nat} {X : LX} (hn : 146 ≤ nf) (hX : Sh nf X) {v1 : Nat} {v2 : Int32} {s0 : Int32} (c0 : ¬ s0 = 0) (c1 : ¬ v2 ≤ 16) (hp : post (some (.int (-1000000001))) X) : Ev g mX12_sheet d n0 nf post nf 6 [some (.ref 133), some (.int (nI v1)), some (.int v2), none] [.int s0] X := by
  refine ev_ifF (tgt := 15) dX12_sheet_6 (by decide) c0 ?_
  refine ev_iload_n dX12_sheet_9 rfl ?_
  refine ev_bipush (v := 16) dX12_sheet_10 kb_16 ?_
  refine ev_icmpF (tgt := 18) dX12_sheet_12 (by decide) c1 ?_
  refine ev_ldc (v := (-1000000001)) dX12_sheet_15 kw_12_57 ?_
  exact ev_iret dX12_sheet_17 rfl rfl hp
theorem bX12_sheet_6_1 {g : GG} {d n0 nf : Nat} {post : Option Value → LX → Prop} {n : Nat} {X : LX} (hn : 146 ≤ nf) (hX : Sh nf X) {v1 : Nat} {v2 : Int32} {s0 : Int32} (c0 : ¬ s0 = 0) (c1 : v2 ≤ 16) (c2 : ¬ 0 ≤ v2) (hp : post (some (.int (-1000000014))) X) : Ev g mX12_sheet d n0 nf post nf 6 [some (.ref 133), some (.int (nI v1)), some (.int v2), none] [.int s0] X := by
  refine ev_ifF (tgt := 15) dX12_sheet_6 (by decide) c0 ?_
  refine ev_iload_n dX12_sheet_9 rfl ?_
  refine ev_bipush (v := 16) dX12_sheet_10 kb_16 ?_
  refine ev_icmpT (tgt := 18) dX12_sheet_12 (by decide) c1 ?_
  refine ev_iload_n dX12_sheet_18 rfl ?_
  refine ev_ifF (tgt := 26) dX12_sheet_19 (by decide) c2 ?_
  refine ev_ldcw (v := (-1000000014)) dX12_sheet_22 kw_12_319 ?_
  exact ev_iret dX12_sheet_25 rfl rfl hp
theorem bX12_sheet_6_2 {g : GG} {d n0 nf : Nat} {post : Option Value → LX → Prop} {n : Nat} {X : LX} (hn : 146 ≤ n) (hX : Sh n X) {v1 : Nat} {v2 : Int32} {s0 : Int32} (c0 : ¬ s0 = 0) (c1 : v2 ≤ 16) (c2 : 0 ≤ v2) (b0 : v1 < 2) (k : Ev g mX12_sheet d n0 nf post n 35 [some (.ref 133), some (.int (nI v1)), some (.int v2), some (.int 0)] [] (lx_up X 138 v1 v2)) : Ev g mX12_sheet d n0 nf post n 6 [some (.ref 133), some (.int (nI v1)), some (.int v2), none] [.int s0] X := by
  refine ev_ifF (tgt := 15) dX12_sheet_6 (by decide) c0 ?_
  refine ev_iload_n dX12_sheet_9 rfl ?_
  refine ev_bipush (v := 16) dX12_sheet_10 kb_16 ?_
  refine ev_icmpT (tgt := 18) dX12_sheet_12 (by decide) c1 ?_
  refine ev_iload_n dX12_sheet_18 rfl ?_
  refine ev_ifT (tgt := 26) dX12_sheet_19 (by decide) c2 ?_
  refine ev_aload_n dX12_sheet_26 rfl ?_
  refine ev_getS (q := 138) dX12_sheet_27 fo_12_22 (by omega) lo_133 rfl (sh_133_7 hX (by omega)) (by decide) ?_
  refine ev_iload_n dX12_sheet_30 rfl ?_
  refine ev_iload_n dX12_sheet_31 rfl ?_
  refine ev_iast dX12_sheet_32 (by omega) ly_138 rfl b0 ?_
  have hX1 : Sh _ (lx_up X 138 v1 v2) := Sh.upA hX (by rw [ly_138]; exact (by decide : 0 < 2))
  refine ev_iconst (v := 0) dX12_sheet_33 ki_0 ?_
  refine ev_istore_n dX12_sheet_34 (by decide) ?_
  exact k
theorem bX12_sheet_6_3 {g : GG} {d n0 nf : Nat} {post : Option Value → LX → Prop} {n : Nat} {X : LX} (hn : 146 ≤ nf) (hX : Sh nf X) {v1 : Nat} {v2 : Int32} {s0 : Int32} (c0 : s0 = 0) (hp : post (some (.int (-1000000001))) X) : Ev g mX12_sheet d n0 nf post nf 6 [some (.ref 133), some (.int (nI v1)), some (.int v2), none] [.int s0] X := by
  refine ev_ifT (tgt := 15) dX12_sheet_6 (by decide) c0 ?_
  refine ev_ldc (v := (-1000000001)) dX12_sheet_15 kw_12_57 ?_
  exact ev_iret dX12_sheet_17 rfl rfl hp
theorem bX12_sheet_35_0 {g : GG} {d n0 nf : Nat} {post : Option Value → LX → Prop} {n : Nat} {X : LX} (hn : 146 ≤ n) (hX : Sh n X) {v1 : Int32} {v2 : Int32} {v3 : Int32} {j1 : Nat} (c0 : ¬ 16 ≤ v3) (hj1 : (16 * v1) + v3 = nI j1) (b0 : j1 < 32) (k : Ev g mX12_sheet d n0 nf post n 35 [some (.ref 133), some (.int v1), some (.int v2), some (.int (v3 + 1))] [] (lx_up X 139 j1 0)) : Ev g mX12_sheet d n0 nf post n 35 [some (.ref 133), some (.int v1), some (.int v2), some (.int v3)] [] X := by
  refine ev_iload_n dX12_sheet_35 rfl ?_
  refine ev_bipush (v := 16) dX12_sheet_36 kb_16 ?_
  refine ev_icmpF (tgt := 59) dX12_sheet_38 (by decide) c0 ?_
  refine ev_aload_n dX12_sheet_41 rfl ?_
  refine ev_getS (q := 139) dX12_sheet_42 fo_12_25 (by omega) lo_133 rfl (sh_133_8 hX (by omega)) (by decide) ?_
  refine ev_bipush (v := 16) dX12_sheet_45 kb_16 ?_
  refine ev_iload_n dX12_sheet_47 rfl ?_
  refine ev_imul dX12_sheet_48 ?_
  refine ev_iload_n dX12_sheet_49 rfl ?_
  refine ev_iadd dX12_sheet_50 ?_
  refine ev_iconst (v := 0) dX12_sheet_51 ki_0 ?_
  refine ev_iast dX12_sheet_52 (by omega) ly_139 hj1 b0 ?_
  have hX1 : Sh _ (lx_up X 139 j1 0) := Sh.upA hX (by rw [ly_139]; exact (by decide : 0 < 2))
  refine ev_iinc (v := v3 + 1) dX12_sheet_53 rfl (by rw [show Int32.ofInt 1 = 1 from ki_1]) (by decide) ?_
  refine ev_goto (tgt := 35) dX12_sheet_56 (by decide) ?_
  exact k
theorem bX12_sheet_35_1 {g : GG} {d n0 nf : Nat} {post : Option Value → LX → Prop} {n : Nat} {X : LX} (hn : 146 ≤ nf) (hX : Sh nf X) {v1 : Int32} {v2 : Int32} {v3 : Int32} (c0 : 16 ≤ v3) (hp : post (some (.int v2)) X) : Ev g mX12_sheet d n0 nf post nf 35 [some (.ref 133), some (.int v1), some (.int v2), some (.int v3)] [] X := by
  refine ev_iload_n dX12_sheet_35 rfl ?_
  refine ev_bipush (v := 16) dX12_sheet_36 kb_16 ?_
  refine ev_icmpT (tgt := 59) dX12_sheet_38 (by decide) c0 ?_
  refine ev_iload_n dX12_sheet_59 rfl ?_
  exact ev_iret dX12_sheet_60 rfl rfl hp
theorem bX12_mark_0_0 {g : GG} {d n0 nf : Nat} {post : Option Value → LX → Prop} {n : Nat} {X : LX} (hn : 146 ≤ n) (hX : Sh n X) {v1 : Int32} {v2 : Int32} {v3 : Int32} (k : Ev g mX12_mark d n0 nf post n 3 [some (.ref 133), some (.int v1), some (.int v2), some (.int v3), none] [.int 1, .int 0, .int v1] X) : Ev g mX12_mark d n0 nf post n 0 [some (.ref 133), some (.int v1), some (.int v2), some (.int v3), none] [] X := by
  refine ev_iload_n dX12_mark_0 rfl ?_
  refine ev_iconst (v := 0) dX12_mark_1 ki_0 ?_
  refine ev_iconst (v := 1) dX12_mark_2 ki_1 ?_
  exact k
theorem bX12_mark_6_0 {g : GG} {d n0 nf : Nat} {post : Option Value → LX → Prop} {n : Nat} {X : LX} (hn : 146 ≤ nf) (hX : Sh nf X) {v1 : Nat} {v2 : Int32} {v3 : Int32} {s0 : Int32} (c0 : s0 = 0) (hp : post (some (.int (-1000000001))) X) : Ev g mX12_mark d n0 nf post nf 6 [some (.ref 133), some (.int (nI v1)), some (.int v2), some (.int v3), none] [.int s0] X := by
  refine ev_ifF (tgt := 12) dX12_mark_6 (by decide) c0 ?_
  refine ev_ldc (v := (-1000000001)) dX12_mark_9 kw_12_57 ?_
  exact ev_iret dX12_mark_11 rfl rfl hp
theorem bX12_mark_6_1 {g : GG} {d n0 nf : Nat} {post : Option Value → LX → Prop} {n : Nat} {X : LX} (hn : 146 ≤ nf) (hX : Sh nf X) {v1 : Nat} {v2 : Int32} {v3 : Int32} {s0 : Int32} (c0 : ¬ s0 = 0) (b0 : v1 < 2) (c1 : ¬ 0 ≤ X 138 v1) (hp : post (some (.int (-1000000011))) X) : Ev g mX12_mark d n0 nf post nf 6 [some (.ref 133), some (.int (nI v1)), some (.int v2), some (.int v3), none] [.int s0] X := by
  refine ev_ifT (tgt := 12) dX12_mark_6 (by decide) c0 ?_
  refine ev_aload_n dX12_mark_12 rfl ?_
  refine ev_getS (q := 138) dX12_mark_13 fo_12_22 (by omega) lo_133 rfl (sh_133_7 hX (by omega)) (by decide) ?_
  refine ev_iload_n dX12_mark_16 rfl ?_
  refine ev_iald dX12_mark_17 (by omega) ly_138 rfl b0 ?_
  refine ev_ifF (tgt := 24) dX12_mark_18 (by decide) c1 ?_
  refine ev_ldc (v := (-1000000011)) dX12_mark_21 kw_12_105 ?_
  exact ev_iret dX12_mark_23 rfl rfl hp
theorem bX12_mark_6_2 {g : GG} {d n0 nf : Nat} {post : Option Value → LX → Prop} {n : Nat} {X : LX} (hn : 146 ≤ n) (hX : Sh n X) {v1 : Nat} {v2 : Int32} {v3 : Int32} {s0 : Int32} (c0 : ¬ s0 = 0) (b0 : v1 < 2) (c1 : 0 ≤ X 138 v1) (b1 : v1 < 2) (k : Ev g mX12_mark d n0 nf post n 34 [some (.ref 133), some (.int (nI v1)), some (.int v2), some (.int v3), none] [.int ((X 138 v1) - 1), .int 0, .int v2] X) : Ev g mX12_mark d n0 nf post n 6 [some (.ref 133), some (.int (nI v1)), some (.int v2), some (.int v3), none] [.int s0] X := by
  refine ev_ifT (tgt := 12) dX12_mark_6 (by decide) c0 ?_
  refine ev_aload_n dX12_mark_12 rfl ?_
  refine ev_getS (q := 138) dX12_mark_13 fo_12_22 (by omega) lo_133 rfl (sh_133_7 hX (by omega)) (by decide) ?_
  refine ev_iload_n dX12_mark_16 rfl ?_
  refine ev_iald dX12_mark_17 (by omega) ly_138 rfl b0 ?_
  refine ev_ifT (tgt := 24) dX12_mark_18 (by decide) c1 ?_
  refine ev_iload_n dX12_mark_24 rfl ?_
  refine ev_iconst (v := 0) dX12_mark_25 ki_0 ?_
  refine ev_aload_n dX12_mark_26 rfl ?_
  refine ev_getS (q := 138) dX12_mark_27 fo_12_22 (by omega) lo_133 rfl (sh_133_7 hX (by omega)) (by decide) ?_
  refine ev_iload_n dX12_mark_30 rfl ?_
  refine ev_iald dX12_mark_31 (by omega) ly_138 rfl b1 ?_
  refine ev_iconst (v := 1) dX12_mark_32 ki_1 ?_
  refine ev_isub dX12_mark_33 ?_
  exact k
theorem bX12_mark_37_0 {g : GG} {d n0 nf : Nat} {post : Option Value → LX → Prop} {n : Nat} {X : LX} (hn : 146 ≤ nf) (hX : Sh nf X) {v1 : Int32} {v2 : Int32} {v3 : Int32} {s0 : Int32} (c0 : s0 = 0) (hp : post (some (.int (-1000000013))) X) : Ev g mX12_mark d n0 nf post nf 37 [some (.ref 133), some (.int v1), some (.int v2), some (.int v3), none] [.int s0] X := by
  refine ev_ifF (tgt := 44) dX12_mark_37 (by decide) c0 ?_
  refine ev_ldcw (v := (-1000000013)) dX12_mark_40 kw_12_320 ?_
  exact ev_iret dX12_mark_43 rfl rfl hp
theorem bX12_mark_37_1 {g : GG} {d n0 nf : Nat} {post : Option Value → LX → Prop} {n : Nat} {X : LX} (hn : 146 ≤ nf) (hX : Sh nf X) {v1 : Int32} {v2 : Int32} {v3 : Int32} {s0 : Int32} {j1 : Nat} {j2 : Nat} (c0 : ¬ s0 = 0) (hj1 : (16 * v1) + v2 = nI j1) (b0 : j1 < 32) (hj2 : (16 * v1) + v2 = nI j2) (b1 : j2 < 32) (hp : post (some (.int (X 139 j1))) (lx_up X 139 j2 v3.toInt16.toInt32)) : Ev g mX12_mark d n0 nf post nf 37 [some (.ref 133), some (.int v1), some (.int v2), some (.int v3), none] [.int s0] X := by
  refine ev_ifT (tgt := 44) dX12_mark_37 (by decide) c0 ?_
  refine ev_aload_n dX12_mark_44 rfl ?_
  refine ev_getS (q := 139) dX12_mark_45 fo_12_25 (by omega) lo_133 rfl (sh_133_8 hX (by omega)) (by decide) ?_
  refine ev_bipush (v := 16) dX12_mark_48 kb_16 ?_
  refine ev_iload_n dX12_mark_50 rfl ?_
  refine ev_imul dX12_mark_51 ?_
  refine ev_iload_n dX12_mark_52 rfl ?_
  refine ev_iadd dX12_mark_53 ?_
  refine ev_iald dX12_mark_54 (by omega) ly_139 hj1 b0 ?_
  refine ev_istore dX12_mark_55 (by decide) ?_
  refine ev_aload_n dX12_mark_57 rfl ?_
  refine ev_getS (q := 139) dX12_mark_58 fo_12_25 (by omega) lo_133 rfl (sh_133_8 hX (by omega)) (by decide) ?_
  refine ev_bipush (v := 16) dX12_mark_61 kb_16 ?_
  refine ev_iload_n dX12_mark_63 rfl ?_
  refine ev_imul dX12_mark_64 ?_
  refine ev_iload_n dX12_mark_65 rfl ?_
  refine ev_iadd dX12_mark_66 ?_
  refine ev_iload_n dX12_mark_67 rfl ?_
  refine ev_i2s dX12_mark_68 ?_
  refine ev_iast dX12_mark_69 (by omega) ly_139 hj2 b1 ?_
  have hX1 : Sh _ (lx_up X 139 j2 v3.toInt16.toInt32) := Sh.upA hX (by rw [ly_139]; exact (by decide : 0 < 2))
  refine ev_iload dX12_mark_70 rfl ?_
  exact ev_iret dX12_mark_72 rfl rfl hp
theorem bX12_copy_0_0 {g : GG} {d n0 nf : Nat} {post : Option Value → LX → Prop} {n : Nat} {X : LX} (hn : 146 ≤ n) (hX : Sh n X) {v1 : Int32} {v2 : Int32} {v3 : Int32} {v4 : Int32} {v5 : Int32} (k : Ev g mX12_copy d n0 nf post n 3 [some (.ref 133), some (.int v1), some (.int v2), some (.int v3), some (.int v4), some (.int v5), none] [.int 1, .int 0, .int v1] X) : Ev g mX12_copy d n0 nf post n 0 [some (.ref 133), some (.int v1), some (.int v2), some (.int v3), some (.int v4), some (.int v5), none] [] X := by
  refine ev_iload_n dX12_copy_0 rfl ?_
  refine ev_iconst (v := 0) dX12_copy_1 ki_0 ?_
  refine ev_iconst (v := 1) dX12_copy_2 ki_1 ?_
  exact k
theorem bX12_copy_6_0 {g : GG} {d n0 nf : Nat} {post : Option Value → LX → Prop} {n : Nat} {X : LX} (hn : 146 ≤ n) (hX : Sh n X) {v1 : Int32} {v2 : Int32} {v3 : Int32} {v4 : Int32} {v5 : Int32} {s0 : Int32} (c0 : ¬ s0 = 0) (k : Ev g mX12_copy d n0 nf post n 12 [some (.ref 133), some (.int v1), some (.int v2), some (.int v3), some (.int v4), some (.int v5), none] [.int 1, .int 0, .int v3] X) : Ev g mX12_copy d n0 nf post n 6 [some (.ref 133), some (.int v1), some (.int v2), some (.int v3), some (.int v4), some (.int v5), none] [.int s0] X := by
  refine ev_ifF (tgt := 18) dX12_copy_6 (by decide) c0 ?_
  refine ev_iload_n dX12_copy_9 rfl ?_
  refine ev_iconst (v := 0) dX12_copy_10 ki_0 ?_
  refine ev_iconst (v := 1) dX12_copy_11 ki_1 ?_
  exact k
theorem bX12_copy_6_1 {g : GG} {d n0 nf : Nat} {post : Option Value → LX → Prop} {n : Nat} {X : LX} (hn : 146 ≤ nf) (hX : Sh nf X) {v1 : Int32} {v2 : Int32} {v3 : Int32} {v4 : Int32} {v5 : Int32} {s0 : Int32} (c0 : s0 = 0) (hp : post (some (.int (-1000000001))) X) : Ev g mX12_copy d n0 nf post nf 6 [some (.ref 133), some (.int v1), some (.int v2), some (.int v3), some (.int v4), some (.int v5), none] [.int s0] X := by
  refine ev_ifT (tgt := 18) dX12_copy_6 (by decide) c0 ?_
  refine ev_ldc (v := (-1000000001)) dX12_copy_18 kw_12_57 ?_
  exact ev_iret dX12_copy_20 rfl rfl hp
theorem bX12_copy_15_0 {g : GG} {d n0 nf : Nat} {post : Option Value → LX → Prop} {n : Nat} {X : LX} (hn : 146 ≤ nf) (hX : Sh nf X) {v1 : Nat} {v2 : Int32} {v3 : Nat} {v4 : Int32} {v5 : Int32} {s0 : Int32} (c0 : s0 = 0) (hp : post (some (.int (-1000000001))) X) : Ev g mX12_copy d n0 nf post nf 15 [some (.ref 133), some (.int (nI v1)), some (.int v2), some (.int (nI v3)), some (.int v4), some (.int v5), none] [.int s0] X := by
  refine ev_ifF (tgt := 21) dX12_copy_15 (by decide) c0 ?_
  refine ev_ldc (v := (-1000000001)) dX12_copy_18 kw_12_57 ?_
  exact ev_iret dX12_copy_20 rfl rfl hp
theorem bX12_copy_15_1 {g : GG} {d n0 nf : Nat} {post : Option Value → LX → Prop} {n : Nat} {X : LX} (hn : 146 ≤ nf) (hX : Sh nf X) {v1 : Nat} {v2 : Int32} {v3 : Nat} {v4 : Int32} {v5 : Int32} {s0 : Int32} (c0 : ¬ s0 = 0) (b0 : v1 < 2) (c1 : ¬ X 138 v1 < 0) (b1 : v3 < 2) (c2 : ¬ 0 ≤ X 138 v3) (hp : post (some (.int (-1000000011))) X) : Ev g mX12_copy d n0 nf post nf 15 [some (.ref 133), some (.int (nI v1)), some (.int v2), some (.int (nI v3)), some (.int v4), some (.int v5), none] [.int s0] X := by
  refine ev_ifT (tgt := 21) dX12_copy_15 (by decide) c0 ?_
  refine ev_aload_n dX12_copy_21 rfl ?_
  refine ev_getS (q := 138) dX12_copy_22 fo_12_22 (by omega) lo_133 rfl (sh_133_7 hX (by omega)) (by decide) ?_
  refine ev_iload_n dX12_copy_25 rfl ?_
  refine ev_iald dX12_copy_26 (by omega) ly_138 rfl b0 ?_
  refine ev_ifF (tgt := 39) dX12_copy_27 (by decide) c1 ?_
  refine ev_aload_n dX12_copy_30 rfl ?_
  refine ev_getS (q := 138) dX12_copy_31 fo_12_22 (by omega) lo_133 rfl (sh_133_7 hX (by omega)) (by decide) ?_
  refine ev_iload_n dX12_copy_34 rfl ?_
  refine ev_iald dX12_copy_35 (by omega) ly_138 rfl b1 ?_
  refine ev_ifF (tgt := 42) dX12_copy_36 (by decide) c2 ?_
  refine ev_ldc (v := (-1000000011)) dX12_copy_39 kw_12_105 ?_
  exact ev_iret dX12_copy_41 rfl rfl hp
theorem bX12_copy_15_2 {g : GG} {d n0 nf : Nat} {post : Option Value → LX → Prop} {n : Nat} {X : LX} (hn : 146 ≤ nf) (hX : Sh nf X) {v1 : Nat} {v2 : Int32} {v3 : Nat} {v4 : Int32} {v5 : Int32} {s0 : Int32} (c0 : ¬ s0 = 0) (b0 : v1 < 2) (c1 : ¬ X 138 v1 < 0) (b1 : v3 < 2) (c2 : 0 ≤ X 138 v3) (c3 : ¬ v5 < 0) (c4 : ¬ v2 < 0) (c5 : ¬ v4 < 0) (b2 : v1 < 2) (c6 : ¬ 0 < lg_cmp (v2.toInt64 + v5.toInt64) ((X 138 v1).toInt64)) (b3 : v3 < 2) (c7 : ¬ lg_cmp (v4.toInt64 + v5.toInt64) ((X 138 v3).toInt64) ≤ 0) (hp : post (some (.int (-1000000013))) X) : Ev g mX12_copy d n0 nf post nf 15 [some (.ref 133), some (.int (nI v1)), some (.int v2), some (.int (nI v3)), some (.int v4), some (.int v5), none] [.int s0] X := by
  refine ev_ifT (tgt := 21) dX12_copy_15 (by decide) c0 ?_
  refine ev_aload_n dX12_copy_21 rfl ?_
  refine ev_getS (q := 138) dX12_copy_22 fo_12_22 (by omega) lo_133 rfl (sh_133_7 hX (by omega)) (by decide) ?_
  refine ev_iload_n dX12_copy_25 rfl ?_
  refine ev_iald dX12_copy_26 (by omega) ly_138 rfl b0 ?_
  refine ev_ifF (tgt := 39) dX12_copy_27 (by decide) c1 ?_
  refine ev_aload_n dX12_copy_30 rfl ?_
  refine ev_getS (q := 138) dX12_copy_31 fo_12_22 (by omega) lo_133 rfl (sh_133_7 hX (by omega)) (by decide) ?_
  refine ev_iload_n dX12_copy_34 rfl ?_
  refine ev_iald dX12_copy_35 (by omega) ly_138 rfl b1 ?_
  refine ev_ifT (tgt := 42) dX12_copy_36 (by decide) c2 ?_
  refine ev_iload dX12_copy_42 rfl ?_
  refine ev_ifF (tgt := 91) dX12_copy_44 (by decide) c3 ?_
  refine ev_iload_n dX12_copy_47 rfl ?_
  refine ev_ifF (tgt := 91) dX12_copy_48 (by decide) c4 ?_
  refine ev_iload dX12_copy_51 rfl ?_
  refine ev_ifF (tgt := 91) dX12_copy_53 (by decide) c5 ?_
  refine ev_iload_n dX12_copy_56 rfl ?_
  refine ev_i2l dX12_copy_57 ?_
  refine ev_iload dX12_copy_58 rfl ?_
  refine ev_i2l dX12_copy_60 ?_
  refine ev_ladd dX12_copy_61 ?_
  refine ev_aload_n dX12_copy_62 rfl ?_
  refine ev_getS (q := 138) dX12_copy_63 fo_12_22 (by omega) lo_133 rfl (sh_133_7 hX (by omega)) (by decide) ?_
  refine ev_iload_n dX12_copy_66 rfl ?_
  refine ev_iald dX12_copy_67 (by omega) ly_138 rfl b2 ?_
  refine ev_i2l dX12_copy_68 ?_
  refine ev_lcmp dX12_copy_69 ?_
  refine ev_ifF (tgt := 91) dX12_copy_70 (by decide) c6 ?_
  refine ev_iload dX12_copy_73 rfl ?_
  refine ev_i2l dX12_copy_75 ?_
  refine ev_iload dX12_copy_76 rfl ?_
  refine ev_i2l dX12_copy_78 ?_
  refine ev_ladd dX12_copy_79 ?_
  refine ev_aload_n dX12_copy_80 rfl ?_
  refine ev_getS (q := 138) dX12_copy_81 fo_12_22 (by omega) lo_133 rfl (sh_133_7 hX (by omega)) (by decide) ?_
  refine ev_iload_n dX12_copy_84 rfl ?_
  refine ev_iald dX12_copy_85 (by omega) ly_138 rfl b3 ?_
  refine ev_i2l dX12_copy_86 ?_
  refine ev_lcmp dX12_copy_87 ?_
  refine ev_ifF (tgt := 95) dX12_copy_88 (by decide) c7 ?_
  refine ev_ldcw (v := (-1000000013)) dX12_copy_91 kw_12_320 ?_
  exact ev_iret dX12_copy_94 rfl rfl hp
theorem bX12_copy_15_3 {g : GG} {d n0 nf : Nat} {post : Option Value → LX → Prop} {n : Nat} {X : LX} (hn : 146 ≤ n) (hX : Sh n X) {v1 : Nat} {v2 : Int32} {v3 : Nat} {v4 : Int32} {v5 : Int32} {s0 : Int32} (c0 : ¬ s0 = 0) (b0 : v1 < 2) (c1 : ¬ X 138 v1 < 0) (b1 : v3 < 2) (c2 : 0 ≤ X 138 v3) (c3 : ¬ v5 < 0) (c4 : ¬ v2 < 0) (c5 : ¬ v4 < 0) (b2 : v1 < 2) (c6 : ¬ 0 < lg_cmp (v2.toInt64 + v5.toInt64) ((X 138 v1).toInt64)) (b3 : v3 < 2) (c7 : lg_cmp (v4.toInt64 + v5.toInt64) ((X 138 v3).toInt64) ≤ 0) (k : Ev g mX12_copy d n0 nf post n 98 [some (.ref 133), some (.int (nI v1)), some (.int v2), some (.int (nI v3)), some (.int v4), some (.int v5), some (.int 0)] [] X) : Ev g mX12_copy d n0 nf post n 15 [some (.ref 133), some (.int (nI v1)), some (.int v2), some (.int (nI v3)), some (.int v4), some (.int v5), none] [.int s0] X := by
  refine ev_ifT (tgt := 21) dX12_copy_15 (by decide) c0 ?_
  refine ev_aload_n dX12_copy_21 rfl ?_
  refine ev_getS (q := 138) dX12_copy_22 fo_12_22 (by omega) lo_133 rfl (sh_133_7 hX (by omega)) (by decide) ?_
  refine ev_iload_n dX12_copy_25 rfl ?_
  refine ev_iald dX12_copy_26 (by omega) ly_138 rfl b0 ?_
  refine ev_ifF (tgt := 39) dX12_copy_27 (by decide) c1 ?_
  refine ev_aload_n dX12_copy_30 rfl ?_
  refine ev_getS (q := 138) dX12_copy_31 fo_12_22 (by omega) lo_133 rfl (sh_133_7 hX (by omega)) (by decide) ?_
  refine ev_iload_n dX12_copy_34 rfl ?_
  refine ev_iald dX12_copy_35 (by omega) ly_138 rfl b1 ?_
  refine ev_ifT (tgt := 42) dX12_copy_36 (by decide) c2 ?_
  refine ev_iload dX12_copy_42 rfl ?_
  refine ev_ifF (tgt := 91) dX12_copy_44 (by decide) c3 ?_
  refine ev_iload_n dX12_copy_47 rfl ?_
  refine ev_ifF (tgt := 91) dX12_copy_48 (by decide) c4 ?_
  refine ev_iload dX12_copy_51 rfl ?_
  refine ev_ifF (tgt := 91) dX12_copy_53 (by decide) c5 ?_
  refine ev_iload_n dX12_copy_56 rfl ?_
  refine ev_i2l dX12_copy_57 ?_
  refine ev_iload dX12_copy_58 rfl ?_
  refine ev_i2l dX12_copy_60 ?_
  refine ev_ladd dX12_copy_61 ?_
  refine ev_aload_n dX12_copy_62 rfl ?_
  refine ev_getS (q := 138) dX12_copy_63 fo_12_22 (by omega) lo_133 rfl (sh_133_7 hX (by omega)) (by decide) ?_
  refine ev_iload_n dX12_copy_66 rfl ?_
  refine ev_iald dX12_copy_67 (by omega) ly_138 rfl b2 ?_
  refine ev_i2l dX12_copy_68 ?_
  refine ev_lcmp dX12_copy_69 ?_
  refine ev_ifF (tgt := 91) dX12_copy_70 (by decide) c6 ?_
  refine ev_iload dX12_copy_73 rfl ?_
  refine ev_i2l dX12_copy_75 ?_
  refine ev_iload dX12_copy_76 rfl ?_
  refine ev_i2l dX12_copy_78 ?_
  refine ev_ladd dX12_copy_79 ?_
  refine ev_aload_n dX12_copy_80 rfl ?_
  refine ev_getS (q := 138) dX12_copy_81 fo_12_22 (by omega) lo_133 rfl (sh_133_7 hX (by omega)) (by decide) ?_
  refine ev_iload_n dX12_copy_84 rfl ?_
  refine ev_iald dX12_copy_85 (by omega) ly_138 rfl b3 ?_
  refine ev_i2l dX12_copy_86 ?_
  refine ev_lcmp dX12_copy_87 ?_
  refine ev_ifT (tgt := 95) dX12_copy_88 (by decide) c7 ?_
  refine ev_iconst (v := 0) dX12_copy_95 ki_0 ?_
  refine ev_istore dX12_copy_96 (by decide) ?_
  exact k
theorem bX12_copy_15_4 {g : GG} {d n0 nf : Nat} {post : Option Value → LX → Prop} {n : Nat} {X : LX} (hn : 146 ≤ nf) (hX : Sh nf X) {v1 : Nat} {v2 : Int32} {v3 : Nat} {v4 : Int32} {v5 : Int32} {s0 : Int32} (c0 : ¬ s0 = 0) (b0 : v1 < 2) (c1 : ¬ X 138 v1 < 0) (b1 : v3 < 2) (c2 : 0 ≤ X 138 v3) (c3 : ¬ v5 < 0) (c4 : ¬ v2 < 0) (c5 : ¬ v4 < 0) (b2 : v1 < 2) (c6 : 0 < lg_cmp (v2.toInt64 + v5.toInt64) ((X 138 v1).toInt64)) (hp : post (some (.int (-1000000013))) X) : Ev g mX12_copy d n0 nf post nf 15 [some (.ref 133), some (.int (nI v1)), some (.int v2), some (.int (nI v3)), some (.int v4), some (.int v5), none] [.int s0] X := by
  refine ev_ifT (tgt := 21) dX12_copy_15 (by decide) c0 ?_
  refine ev_aload_n dX12_copy_21 rfl ?_
  refine ev_getS (q := 138) dX12_copy_22 fo_12_22 (by omega) lo_133 rfl (sh_133_7 hX (by omega)) (by decide) ?_
  refine ev_iload_n dX12_copy_25 rfl ?_
  refine ev_iald dX12_copy_26 (by omega) ly_138 rfl b0 ?_
  refine ev_ifF (tgt := 39) dX12_copy_27 (by decide) c1 ?_
  refine ev_aload_n dX12_copy_30 rfl ?_
  refine ev_getS (q := 138) dX12_copy_31 fo_12_22 (by omega) lo_133 rfl (sh_133_7 hX (by omega)) (by decide) ?_
  refine ev_iload_n dX12_copy_34 rfl ?_
  refine ev_iald dX12_copy_35 (by omega) ly_138 rfl b1 ?_
  refine ev_ifT (tgt := 42) dX12_copy_36 (by decide) c2 ?_
  refine ev_iload dX12_copy_42 rfl ?_
  refine ev_ifF (tgt := 91) dX12_copy_44 (by decide) c3 ?_
  refine ev_iload_n dX12_copy_47 rfl ?_
  refine ev_ifF (tgt := 91) dX12_copy_48 (by decide) c4 ?_
  refine ev_iload dX12_copy_51 rfl ?_
  refine ev_ifF (tgt := 91) dX12_copy_53 (by decide) c5 ?_
  refine ev_iload_n dX12_copy_56 rfl ?_
  refine ev_i2l dX12_copy_57 ?_
  refine ev_iload dX12_copy_58 rfl ?_
  refine ev_i2l dX12_copy_60 ?_
  refine ev_ladd dX12_copy_61 ?_
  refine ev_aload_n dX12_copy_62 rfl ?_
  refine ev_getS (q := 138) dX12_copy_63 fo_12_22 (by omega) lo_133 rfl (sh_133_7 hX (by omega)) (by decide) ?_
  refine ev_iload_n dX12_copy_66 rfl ?_
  refine ev_iald dX12_copy_67 (by omega) ly_138 rfl b2 ?_
  refine ev_i2l dX12_copy_68 ?_
  refine ev_lcmp dX12_copy_69 ?_
  refine ev_ifT (tgt := 91) dX12_copy_70 (by decide) c6 ?_
  refine ev_ldcw (v := (-1000000013)) dX12_copy_91 kw_12_320 ?_
  exact ev_iret dX12_copy_94 rfl rfl hp
theorem bX12_copy_15_5 {g : GG} {d n0 nf : Nat} {post : Option Value → LX → Prop} {n : Nat} {X : LX} (hn : 146 ≤ nf) (hX : Sh nf X) {v1 : Nat} {v2 : Int32} {v3 : Nat} {v4 : Int32} {v5 : Int32} {s0 : Int32} (c0 : ¬ s0 = 0) (b0 : v1 < 2) (c1 : ¬ X 138 v1 < 0) (b1 : v3 < 2) (c2 : 0 ≤ X 138 v3) (c3 : ¬ v5 < 0) (c4 : ¬ v2 < 0) (c5 : v4 < 0) (hp : post (some (.int (-1000000013))) X) : Ev g mX12_copy d n0 nf post nf 15 [some (.ref 133), some (.int (nI v1)), some (.int v2), some (.int (nI v3)), some (.int v4), some (.int v5), none] [.int s0] X := by
  refine ev_ifT (tgt := 21) dX12_copy_15 (by decide) c0 ?_
  refine ev_aload_n dX12_copy_21 rfl ?_
  refine ev_getS (q := 138) dX12_copy_22 fo_12_22 (by omega) lo_133 rfl (sh_133_7 hX (by omega)) (by decide) ?_
  refine ev_iload_n dX12_copy_25 rfl ?_
  refine ev_iald dX12_copy_26 (by omega) ly_138 rfl b0 ?_
  refine ev_ifF (tgt := 39) dX12_copy_27 (by decide) c1 ?_
  refine ev_aload_n dX12_copy_30 rfl ?_
  refine ev_getS (q := 138) dX12_copy_31 fo_12_22 (by omega) lo_133 rfl (sh_133_7 hX (by omega)) (by decide) ?_
  refine ev_iload_n dX12_copy_34 rfl ?_
  refine ev_iald dX12_copy_35 (by omega) ly_138 rfl b1 ?_
  refine ev_ifT (tgt := 42) dX12_copy_36 (by decide) c2 ?_
  refine ev_iload dX12_copy_42 rfl ?_
  refine ev_ifF (tgt := 91) dX12_copy_44 (by decide) c3 ?_
  refine ev_iload_n dX12_copy_47 rfl ?_
  refine ev_ifF (tgt := 91) dX12_copy_48 (by decide) c4 ?_
  refine ev_iload dX12_copy_51 rfl ?_
  refine ev_ifT (tgt := 91) dX12_copy_53 (by decide) c5 ?_
  refine ev_ldcw (v := (-1000000013)) dX12_copy_91 kw_12_320 ?_
  exact ev_iret dX12_copy_94 rfl rfl hp
theorem bX12_copy_15_6 {g : GG} {d n0 nf : Nat} {post : Option Value → LX → Prop} {n : Nat} {X : LX} (hn : 146 ≤ nf) (hX : Sh nf X) {v1 : Nat} {v2 : Int32} {v3 : Nat} {v4 : Int32} {v5 : Int32} {s0 : Int32} (c0 : ¬ s0 = 0) (b0 : v1 < 2) (c1 : ¬ X 138 v1 < 0) (b1 : v3 < 2) (c2 : 0 ≤ X 138 v3) (c3 : ¬ v5 < 0) (c4 : v2 < 0) (hp : post (some (.int (-1000000013))) X) : Ev g mX12_copy d n0 nf post nf 15 [some (.ref 133), some (.int (nI v1)), some (.int v2), some (.int (nI v3)), some (.int v4), some (.int v5), none] [.int s0] X := by
  refine ev_ifT (tgt := 21) dX12_copy_15 (by decide) c0 ?_
  refine ev_aload_n dX12_copy_21 rfl ?_
  refine ev_getS (q := 138) dX12_copy_22 fo_12_22 (by omega) lo_133 rfl (sh_133_7 hX (by omega)) (by decide) ?_
  refine ev_iload_n dX12_copy_25 rfl ?_
  refine ev_iald dX12_copy_26 (by omega) ly_138 rfl b0 ?_
  refine ev_ifF (tgt := 39) dX12_copy_27 (by decide) c1 ?_
  refine ev_aload_n dX12_copy_30 rfl ?_
  refine ev_getS (q := 138) dX12_copy_31 fo_12_22 (by omega) lo_133 rfl (sh_133_7 hX (by omega)) (by decide) ?_
  refine ev_iload_n dX12_copy_34 rfl ?_
  refine ev_iald dX12_copy_35 (by omega) ly_138 rfl b1 ?_
  refine ev_ifT (tgt := 42) dX12_copy_36 (by decide) c2 ?_
  refine ev_iload dX12_copy_42 rfl ?_
  refine ev_ifF (tgt := 91) dX12_copy_44 (by decide) c3 ?_
  refine ev_iload_n dX12_copy_47 rfl ?_
  refine ev_ifT (tgt := 91) dX12_copy_48 (by decide) c4 ?_
  refine ev_ldcw (v := (-1000000013)) dX12_copy_91 kw_12_320 ?_
  exact ev_iret dX12_copy_94 rfl rfl hp
theorem bX12_copy_15_7 {g : GG} {d n0 nf : Nat} {post : Option Value → LX → Prop} {n : Nat} {X : LX} (hn : 146 ≤ nf) (hX : Sh nf X) {v1 : Nat} {v2 : Int32} {v3 : Nat} {v4 : Int32} {v5 : Int32} {s0 : Int32} (c0 : ¬ s0 = 0) (b0 : v1 < 2) (c1 : ¬ X 138 v1 < 0) (b1 : v3 < 2) (c2 : 0 ≤ X 138 v3) (c3 : v5 < 0) (hp : post (some (.int (-1000000013))) X) : Ev g mX12_copy d n0 nf post nf 15 [some (.ref 133), some (.int (nI v1)), some (.int v2), some (.int (nI v3)), some (.int v4), some (.int v5), none] [.int s0] X := by
  refine ev_ifT (tgt := 21) dX12_copy_15 (by decide) c0 ?_
  refine ev_aload_n dX12_copy_21 rfl ?_
  refine ev_getS (q := 138) dX12_copy_22 fo_12_22 (by omega) lo_133 rfl (sh_133_7 hX (by omega)) (by decide) ?_
  refine ev_iload_n dX12_copy_25 rfl ?_
  refine ev_iald dX12_copy_26 (by omega) ly_138 rfl b0 ?_
  refine ev_ifF (tgt := 39) dX12_copy_27 (by decide) c1 ?_
  refine ev_aload_n dX12_copy_30 rfl ?_
  refine ev_getS (q := 138) dX12_copy_31 fo_12_22 (by omega) lo_133 rfl (sh_133_7 hX (by omega)) (by decide) ?_
  refine ev_iload_n dX12_copy_34 rfl ?_
  refine ev_iald dX12_copy_35 (by omega) ly_138 rfl b1 ?_
  refine ev_ifT (tgt := 42) dX12_copy_36 (by decide) c2 ?_
  refine ev_iload dX12_copy_42 rfl ?_
  refine ev_ifT (tgt := 91) dX12_copy_44 (by decide) c3 ?_
  refine ev_ldcw (v := (-1000000013)) dX12_copy_91 kw_12_320 ?_
  exact ev_iret dX12_copy_94 rfl rfl hp
theorem bX12_copy_15_8 {g : GG} {d n0 nf : Nat} {post : Option Value → LX → Prop} {n : Nat} {X : LX} (hn : 146 ≤ nf) (hX : Sh nf X) {v1 : Nat} {v2 : Int32} {v3 : Nat} {v4 : Int32} {v5 : Int32} {s0 : Int32} (c0 : ¬ s0 = 0) (b0 : v1 < 2) (c1 : X 138 v1 < 0) (hp : post (some (.int (-1000000011))) X) : Ev g mX12_copy d n0 nf post nf 15 [some (.ref 133), some (.int (nI v1)), some (.int v2), some (.int (nI v3)), some (.int v4), some (.int v5), none] [.int s0] X := by
  refine ev_ifT (tgt := 21) dX12_copy_15 (by decide) c0 ?_
  refine ev_aload_n dX12_copy_21 rfl ?_
  refine ev_getS (q := 138) dX12_copy_22 fo_12_22 (by omega) lo_133 rfl (sh_133_7 hX (by omega)) (by decide) ?_
  refine ev_iload_n dX12_copy_25 rfl ?_
  refine ev_iald dX12_copy_26 (by omega) ly_138 rfl b0 ?_
  refine ev_ifT (tgt := 39) dX12_copy_27 (by decide) c1 ?_
  refine ev_ldc (v := (-1000000011)) dX12_copy_39 kw_12_105 ?_
  exact ev_iret dX12_copy_41 rfl rfl hp
theorem bX12_copy_98_0 {g : GG} {d n0 nf : Nat} {post : Option Value → LX → Prop} {n : Nat} {X : LX} (hn : 146 ≤ n) (hX : Sh n X) {v1 : Int32} {v2 : Int32} {v3 : Int32} {v4 : Int32} {v5 : Int32} {v6 : Nat} {j1 : Nat} (c0 : ¬ v5 ≤ nI v6) (hj1 : ((16 * v1) + v2) + (nI v6) = nI j1) (b0 : j1 < 32) (b1 : v6 < 16) (k : Ev g mX12_copy d n0 nf post n 98 [some (.ref 133), some (.int v1), some (.int v2), some (.int v3), some (.int v4), some (.int v5), some (.int ((nI v6) + 1))] [] (lx_up X 145 v6 (X 139 j1))) : Ev g mX12_copy d n0 nf post n 98 [some (.ref 133), some (.int v1), some (.int v2), some (.int v3), some (.int v4), some (.int v5), some (.int (nI v6))] [] X := by
  refine ev_iload dX12_copy_98 rfl ?_
  refine ev_iload dX12_copy_100 rfl ?_
  refine ev_icmpF (tgt := 132) dX12_copy_102 (by decide) c0 ?_
  refine ev_aload_n dX12_copy_105 rfl ?_
  refine ev_getS (q := 145) dX12_copy_106 fo_12_49 (by omega) lo_133 rfl (sh_133_30 hX (by omega)) (by decide) ?_
  refine ev_iload dX12_copy_109 rfl ?_
  refine ev_aload_n dX12_copy_111 rfl ?_
  refine ev_getS (q := 139) dX12_copy_112 fo_12_25 (by omega) lo_133 rfl (sh_133_8 hX (by omega)) (by decide) ?_
  refine ev_bipush (v := 16) dX12_copy_115 kb_16 ?_
  refine ev_iload_n dX12_copy_117 rfl ?_
  refine ev_imul dX12_copy_118 ?_
  refine ev_iload_n dX12_copy_119 rfl ?_
  refine ev_iadd dX12_copy_120 ?_
  refine ev_iload dX12_copy_121 rfl ?_
  refine ev_iadd dX12_copy_123 ?_
  refine ev_iald dX12_copy_124 (by omega) ly_139 hj1 b0 ?_
  refine ev_iast dX12_copy_125 (by omega) ly_145 rfl b1 ?_
  have hX1 : Sh _ (lx_up X 145 v6 (X 139 j1)) := Sh.upA hX (by rw [ly_145]; exact (by decide : 0 < 2))
  refine ev_iinc (v := (nI v6) + 1) dX12_copy_126 rfl (by rw [show Int32.ofInt 1 = 1 from ki_1]) (by decide) ?_
  refine ev_goto (tgt := 98) dX12_copy_129 (by decide) ?_
  exact k
theorem bX12_copy_98_1 {g : GG} {d n0 nf : Nat} {post : Option Value → LX → Prop} {n : Nat} {X : LX} (hn : 146 ≤ n) (hX : Sh n X) {v1 : Int32} {v2 : Int32} {v3 : Int32} {v4 : Int32} {v5 : Int32} {v6 : Nat} (c0 : v5 ≤ nI v6) (k : Ev g mX12_copy d n0 nf post n 135 [some (.ref 133), some (.int v1), some (.int v2), some (.int v3), some (.int v4), some (.int v5), some (.int 0)] [] X) : Ev g mX12_copy d n0 nf post n 98 [some (.ref 133), some (.int v1), some (.int v2), some (.int v3), some (.int v4), some (.int v5), some (.int (nI v6))] [] X := by
  refine ev_iload dX12_copy_98 rfl ?_
  refine ev_iload dX12_copy_100 rfl ?_
  refine ev_icmpT (tgt := 132) dX12_copy_102 (by decide) c0 ?_
  refine ev_iconst (v := 0) dX12_copy_132 ki_0 ?_
  refine ev_istore dX12_copy_133 (by decide) ?_
  exact k
theorem bX12_copy_135_0 {g : GG} {d n0 nf : Nat} {post : Option Value → LX → Prop} {n : Nat} {X : LX} (hn : 146 ≤ n) (hX : Sh n X) {v1 : Int32} {v2 : Int32} {v3 : Int32} {v4 : Int32} {v5 : Int32} {v6 : Nat} {j1 : Nat} (c0 : ¬ v5 ≤ nI v6) (b0 : v6 < 16) (hj1 : ((16 * v3) + v4) + (nI v6) = nI j1) (b1 : j1 < 32) (k : Ev g mX12_copy d n0 nf post n 135 [some (.ref 133), some (.int v1), some (.int v2), some (.int v3), some (.int v4), some (.int v5), some (.int ((nI v6) + 1))] [] (lx_up X 139 j1 (X 145 v6))) : Ev g mX12_copy d n0 nf post n 135 [some (.ref 133), some (.int v1), some (.int v2), some (.int v3), some (.int v4), some (.int v5), some (.int (nI v6))] [] X := by
  refine ev_iload dX12_copy_135 rfl ?_
  refine ev_iload dX12_copy_137 rfl ?_
  refine ev_icmpF (tgt := 170) dX12_copy_139 (by decide) c0 ?_
  refine ev_aload_n dX12_copy_142 rfl ?_
  refine ev_getS (q := 139) dX12_copy_143 fo_12_25 (by omega) lo_133 rfl (sh_133_8 hX (by omega)) (by decide) ?_
  refine ev_bipush (v := 16) dX12_copy_146 kb_16 ?_
  refine ev_iload_n dX12_copy_148 rfl ?_
  refine ev_imul dX12_copy_149 ?_
  refine ev_iload dX12_copy_150 rfl ?_
  refine ev_iadd dX12_copy_152 ?_
  refine ev_iload dX12_copy_153 rfl ?_
  refine ev_iadd dX12_copy_155 ?_
  refine ev_aload_n dX12_copy_156 rfl ?_
  refine ev_getS (q := 145) dX12_copy_157 fo_12_49 (by omega) lo_133 rfl (sh_133_30 hX (by omega)) (by decide) ?_
  refine ev_iload dX12_copy_160 rfl ?_
  refine ev_iald dX12_copy_162 (by omega) ly_145 rfl b0 ?_
  refine ev_iast dX12_copy_163 (by omega) ly_139 hj1 b1 ?_
  have hX1 : Sh _ (lx_up X 139 j1 (X 145 v6)) := Sh.upA hX (by rw [ly_139]; exact (by decide : 0 < 2))
  refine ev_iinc (v := (nI v6) + 1) dX12_copy_164 rfl (by rw [show Int32.ofInt 1 = 1 from ki_1]) (by decide) ?_
  refine ev_goto (tgt := 135) dX12_copy_167 (by decide) ?_
  exact k
theorem bX12_copy_135_1 {g : GG} {d n0 nf : Nat} {post : Option Value → LX → Prop} {n : Nat} {X : LX} (hn : 146 ≤ nf) (hX : Sh nf X) {v1 : Int32} {v2 : Int32} {v3 : Int32} {v4 : Int32} {v5 : Int32} {v6 : Nat} (c0 : v5 ≤ nI v6) (hp : post (some (.int v5)) X) : Ev g mX12_copy d n0 nf post nf 135 [some (.ref 133), some (.int v1), some (.int v2), some (.int v3), some (.int v4), some (.int v5), some (.int (nI v6))] [] X := by
  refine ev_iload dX12_copy_135 rfl ?_
  refine ev_iload dX12_copy_137 rfl ?_
  refine ev_icmpT (tgt := 170) dX12_copy_139 (by decide) c0 ?_
  refine ev_iload dX12_copy_170 rfl ?_
  exact ev_iret dX12_copy_172 rfl rfl hp
theorem bX12_count_0_0 {g : GG} {d n0 nf : Nat} {post : Option Value → LX → Prop} {n : Nat} {X : LX} (hn : 146 ≤ nf) (hX : Sh nf X) {v1 : Int32} (c0 : v1.toInt < 0 ∨ 8 < v1.toInt) (hp : post (some (.int (-1000000001))) X) : Ev g mX12_count d n0 nf post nf 0 [some (.ref 133), some (.int v1)] [] X := by
  refine ev_iload_n dX12_count_0 rfl ?_
  refine ev_tabO (tgt := 117) dX12_count_1 c0 (by decide) ?_
  refine ev_ldc (v := (-1000000001)) dX12_count_117 kw_12_57 ?_
  exact ev_iret dX12_count_119 rfl rfl hp
theorem bX12_count_0_1 {g : GG} {d n0 nf : Nat} {post : Option Value → LX → Prop} {n : Nat} {X : LX} (hn : 146 ≤ nf) (hX : Sh nf X) {v1 : Int32} (c0 : v1 = 0) (hp : post (some (.int (X 134 4))) X) : Ev g mX12_count d n0 nf post nf 0 [some (.ref 133), some (.int v1)] [] X := by
  refine ev_iload_n dX12_count_0 rfl ?_
  refine ev_tabI (tgt := 52) (off := 51) dX12_count_1 (by rw [c0]; decide) (by rw [c0]; decide) (by rw [c0]; rfl) (by decide) ?_
  refine ev_aload_n dX12_count_52 rfl ?_
  refine ev_getS (q := 134) dX12_count_53 fo_12_9 (by omega) lo_133 rfl (sh_133_0 hX (by omega)) (by decide) ?_
  refine ev_iconst (v := 4) dX12_count_56 ki_4 ?_
  refine ev_iald dX12_count_57 (by omega) ly_134 nIl_4 (by decide) ?_
  exact ev_iret dX12_count_58 rfl rfl hp
theorem bX12_count_0_2 {g : GG} {d n0 nf : Nat} {post : Option Value → LX → Prop} {n : Nat} {X : LX} (hn : 146 ≤ nf) (hX : Sh nf X) {v1 : Int32} (c0 : v1 = 1) (hp : post (some (.int (X 134 5))) X) : Ev g mX12_count d n0 nf post nf 0 [some (.ref 133), some (.int v1)] [] X := by
  refine ev_iload_n dX12_count_0 rfl ?_
  refine ev_tabI (tgt := 59) (off := 58) dX12_count_1 (by rw [c0]; decide) (by rw [c0]; decide) (by rw [c0]; rfl) (by decide) ?_
  refine ev_aload_n dX12_count_59 rfl ?_
  refine ev_getS (q := 134) dX12_count_60 fo_12_9 (by omega) lo_133 rfl (sh_133_0 hX (by omega)) (by decide) ?_
  refine ev_iconst (v := 5) dX12_count_63 ki_5 ?_
  refine ev_iald dX12_count_64 (by omega) ly_134 nIl_5 (by decide) ?_
  exact ev_iret dX12_count_65 rfl rfl hp
theorem bX12_count_0_3 {g : GG} {d n0 nf : Nat} {post : Option Value → LX → Prop} {n : Nat} {X : LX} (hn : 146 ≤ nf) (hX : Sh nf X) {v1 : Int32} (c0 : v1 = 2) (hp : post (some (.int (X 134 6))) X) : Ev g mX12_count d n0 nf post nf 0 [some (.ref 133), some (.int v1)] [] X := by
  refine ev_iload_n dX12_count_0 rfl ?_
  refine ev_tabI (tgt := 66) (off := 65) dX12_count_1 (by rw [c0]; decide) (by rw [c0]; decide) (by rw [c0]; rfl) (by decide) ?_
  refine ev_aload_n dX12_count_66 rfl ?_
  refine ev_getS (q := 134) dX12_count_67 fo_12_9 (by omega) lo_133 rfl (sh_133_0 hX (by omega)) (by decide) ?_
  refine ev_bipush (v := 6) dX12_count_70 kb_6 ?_
  refine ev_iald dX12_count_72 (by omega) ly_134 nIl_6 (by decide) ?_
  exact ev_iret dX12_count_73 rfl rfl hp
theorem bX12_count_0_4 {g : GG} {d n0 nf : Nat} {post : Option Value → LX → Prop} {n : Nat} {X : LX} (hn : 146 ≤ nf) (hX : Sh nf X) {v1 : Int32} (c0 : v1 = 3) (hp : post (some (.int (X 134 7))) X) : Ev g mX12_count d n0 nf post nf 0 [some (.ref 133), some (.int v1)] [] X := by
  refine ev_iload_n dX12_count_0 rfl ?_
  refine ev_tabI (tgt := 74) (off := 73) dX12_count_1 (by rw [c0]; decide) (by rw [c0]; decide) (by rw [c0]; rfl) (by decide) ?_
  refine ev_aload_n dX12_count_74 rfl ?_
  refine ev_getS (q := 134) dX12_count_75 fo_12_9 (by omega) lo_133 rfl (sh_133_0 hX (by omega)) (by decide) ?_
  refine ev_bipush (v := 7) dX12_count_78 kb_7 ?_
  refine ev_iald dX12_count_80 (by omega) ly_134 nIl_7 (by decide) ?_
  exact ev_iret dX12_count_81 rfl rfl hp
theorem bX12_count_0_5 {g : GG} {d n0 nf : Nat} {post : Option Value → LX → Prop} {n : Nat} {X : LX} (hn : 146 ≤ n) (hX : Sh n X) {v1 : Int32} (c0 : v1 = 4) (k : Ev g mX12_count d n0 nf post n 89 [some (.ref 133), some (.int v1)] [.int (X 134 8)] X) : Ev g mX12_count d n0 nf post n 0 [some (.ref 133), some (.int v1)] [] X := by
  refine ev_iload_n dX12_count_0 rfl ?_
  refine ev_tabI (tgt := 82) (off := 81) dX12_count_1 (by rw [c0]; decide) (by rw [c0]; decide) (by rw [c0]; rfl) (by decide) ?_
  refine ev_aload_n dX12_count_82 rfl ?_
  refine ev_getS (q := 134) dX12_count_83 fo_12_9 (by omega) lo_133 rfl (sh_133_0 hX (by omega)) (by decide) ?_
  refine ev_bipush (v := 8) dX12_count_86 kb_8 ?_
  refine ev_iald dX12_count_88 (by omega) ly_134 nIl_8 (by decide) ?_
  exact k
theorem bX12_count_0_6 {g : GG} {d n0 nf : Nat} {post : Option Value → LX → Prop} {n : Nat} {X : LX} (hn : 146 ≤ nf) (hX : Sh nf X) {v1 : Int32} (c0 : v1 = 5) (hp : post (some (.int (X 134 3))) X) : Ev g mX12_count d n0 nf post nf 0 [some (.ref 133), some (.int v1)] [] X := by
  refine ev_iload_n dX12_count_0 rfl ?_
  refine ev_tabI (tgt := 93) (off := 92) dX12_count_1 (by rw [c0]; decide) (by rw [c0]; decide) (by rw [c0]; rfl) (by decide) ?_
  refine ev_aload_n dX12_count_93 rfl ?_
  refine ev_getS (q := 134) dX12_count_94 fo_12_9 (by omega) lo_133 rfl (sh_133_0 hX (by omega)) (by decide) ?_
  refine ev_iconst (v := 3) dX12_count_97 ki_3 ?_
  refine ev_iald dX12_count_98 (by omega) ly_134 nIl_3 (by decide) ?_
  exact ev_iret dX12_count_99 rfl rfl hp
theorem bX12_count_0_7 {g : GG} {d n0 nf : Nat} {post : Option Value → LX → Prop} {n : Nat} {X : LX} (hn : 146 ≤ nf) (hX : Sh nf X) {v1 : Int32} (c0 : v1 = 6) (hp : post (some (.int (X 134 0))) X) : Ev g mX12_count d n0 nf post nf 0 [some (.ref 133), some (.int v1)] [] X := by
  refine ev_iload_n dX12_count_0 rfl ?_
  refine ev_tabI (tgt := 100) (off := 99) dX12_count_1 (by rw [c0]; decide) (by rw [c0]; decide) (by rw [c0]; rfl) (by decide) ?_
  refine ev_aload_n dX12_count_100 rfl ?_
  refine ev_getS (q := 134) dX12_count_101 fo_12_9 (by omega) lo_133 rfl (sh_133_0 hX (by omega)) (by decide) ?_
  refine ev_iconst (v := 0) dX12_count_104 ki_0 ?_
  refine ev_iald dX12_count_105 (by omega) ly_134 nIl_0 (by decide) ?_
  exact ev_iret dX12_count_106 rfl rfl hp
theorem bX12_count_0_8 {g : GG} {d n0 nf : Nat} {post : Option Value → LX → Prop} {n : Nat} {X : LX} (hn : 146 ≤ nf) (hX : Sh nf X) {v1 : Int32} (c0 : v1 = 7) (hp : post (some (.int (X 133 6))) X) : Ev g mX12_count d n0 nf post nf 0 [some (.ref 133), some (.int v1)] [] X := by
  refine ev_iload_n dX12_count_0 rfl ?_
  refine ev_tabI (tgt := 107) (off := 106) dX12_count_1 (by rw [c0]; decide) (by rw [c0]; decide) (by rw [c0]; rfl) (by decide) ?_
  refine ev_aload_n dX12_count_107 rfl ?_
  refine ev_getI dX12_count_108 fo_12_313 (by omega) lo_133 rfl ?_
  exact ev_iret dX12_count_111 rfl rfl hp
theorem bX12_count_0_9 {g : GG} {d n0 nf : Nat} {post : Option Value → LX → Prop} {n : Nat} {X : LX} (hn : 146 ≤ nf) (hX : Sh nf X) {v1 : Int32} (c0 : v1 = 8) (hp : post (some (.int (X 133 4))) X) : Ev g mX12_count d n0 nf post nf 0 [some (.ref 133), some (.int v1)] [] X := by
  refine ev_iload_n dX12_count_0 rfl ?_
  refine ev_tabI (tgt := 112) (off := 111) dX12_count_1 (by rw [c0]; decide) (by rw [c0]; decide) (by rw [c0]; rfl) (by decide) ?_
  refine ev_aload_n dX12_count_112 rfl ?_
  refine ev_getI dX12_count_113 fo_12_121 (by omega) lo_133 rfl ?_
  exact ev_iret dX12_count_116 rfl rfl hp
theorem bX12_count_92_0 {g : GG} {d n0 nf : Nat} {post : Option Value → LX → Prop} {n : Nat} {X : LX} (hn : 146 ≤ nf) (hX : Sh nf X) {v1 : Int32} {s0 : Int32} (hp : post (some (.int s0)) X) : Ev g mX12_count d n0 nf post nf 92 [some (.ref 133), some (.int v1)] [.int s0] X := by
  exact ev_iret dX12_count_92 rfl rfl hp
