theorem bX6_gather_0_0 {g : GG} {d n0 nf : Nat} {post : Option Value → LX → Prop} {n : Nat} {X : LX} (hn : 146 ≤ n) (hX : Sh n X)  (k : Ev g mX6_gather d n0 nf post n 23 [some (.ref 84), some (.ref 23), some (.ref 37), some (.int 0), none] [] (lx_up X 84 3 0)) : Ev g mX6_gather d n0 nf post n 0 [some (.ref 84), none, none, none, none] [] X := by
  refine ev_aload_n dX6_gather_0 rfl ?_
  refine ev_getS (q := 1) dX6_gather_1 fo_6_18 (by omega) lo_84 rfl (sh_84_0 hX (by omega)) (by decide) ?_
  refine ev_getS (q := 23) dX6_gather_4 fo_6_22 (by omega) lo_1 rfl (sh_1_1 hX (by omega)) (by decide) ?_
  refine ev_astore_n dX6_gather_7 (by decide) ?_
  refine ev_aload_n dX6_gather_8 rfl ?_
  refine ev_getS (q := 1) dX6_gather_9 fo_6_18 (by omega) lo_84 rfl (sh_84_0 hX (by omega)) (by decide) ?_
  refine ev_getS (q := 37) dX6_gather_12 fo_6_28 (by omega) lo_1 rfl (sh_1_2 hX (by omega)) (by decide) ?_
  refine ev_astore_n dX6_gather_15 (by decide) ?_
  refine ev_aload_n dX6_gather_16 rfl ?_
  refine ev_iconst (v := 0) dX6_gather_17 ki_0 ?_
  refine ev_putI dX6_gather_18 fo_6_32 (by omega) lo_84 rfl rfl rfl ?_
  have hX1 : Sh _ (lx_up X 84 3 0) := Sh.upF hX (by rw [lo_84]; decide) (by decide)
  refine ev_iconst (v := 0) dX6_gather_21 ki_0 ?_
  refine ev_istore_n dX6_gather_22 (by decide) ?_
  exact k
theorem bX6_gather_23_0 {g : GG} {d n0 nf : Nat} {post : Option Value → LX → Prop} {n : Nat} {X : LX} (hn : 146 ≤ n) (hX : Sh n X) {v3 : Int32} (c0 : ¬ X 23 0 ≤ v3) (k : Ev g mX6_gather d n0 nf post n 41 [some (.ref 84), some (.ref 23), some (.ref 37), some (.int v3), none] [.int v3, .ref 1, .int v3, .ref 86] X) : Ev g mX6_gather d n0 nf post n 23 [some (.ref 84), some (.ref 23), some (.ref 37), some (.int v3), none] [] X := by
  refine ev_iload_n dX6_gather_23 rfl ?_
  refine ev_aload_n dX6_gather_24 rfl ?_
  refine ev_getI dX6_gather_25 fo_6_36 (by omega) lo_23 rfl ?_
  refine ev_icmpF (tgt := 72) dX6_gather_28 (by decide) c0 ?_
  refine ev_aload_n dX6_gather_31 rfl ?_
  refine ev_getS (q := 86) dX6_gather_32 fo_6_15 (by omega) lo_84 rfl (sh_84_2 hX (by omega)) (by decide) ?_
  refine ev_iload_n dX6_gather_35 rfl ?_
  refine ev_aload_n dX6_gather_36 rfl ?_
  refine ev_getS (q := 1) dX6_gather_37 fo_6_18 (by omega) lo_84 rfl (sh_84_0 hX (by omega)) (by decide) ?_
  refine ev_iload_n dX6_gather_40 rfl ?_
  exact k
theorem bX6_gather_23_1 {g : GG} {d n0 nf : Nat} {post : Option Value → LX → Prop} {n : Nat} {X : LX} (hn : 146 ≤ n) (hX : Sh n X) {v3 : Int32} (c0 : X 23 0 ≤ v3) (k : Ev g mX6_gather d n0 nf post n 74 [some (.ref 84), some (.ref 23), some (.ref 37), some (.int 0), none] [] X) : Ev g mX6_gather d n0 nf post n 23 [some (.ref 84), some (.ref 23), some (.ref 37), some (.int v3), none] [] X := by
  refine ev_iload_n dX6_gather_23 rfl ?_
  refine ev_aload_n dX6_gather_24 rfl ?_
  refine ev_getI dX6_gather_25 fo_6_36 (by omega) lo_23 rfl ?_
  refine ev_icmpT (tgt := 72) dX6_gather_28 (by decide) c0 ?_
  refine ev_iconst (v := 0) dX6_gather_72 ki_0 ?_
  refine ev_istore_n dX6_gather_73 (by decide) ?_
  exact k
theorem bX6_gather_44_0 {g : GG} {d n0 nf : Nat} {post : Option Value → LX → Prop} {n : Nat} {X : LX} (hn : 146 ≤ n) (hX : Sh n X) {v3 : Int32} {s1 : Nat} {s2 : Int32} (b0 : s1 < 10) (k : Ev g mX6_gather d n0 nf post n 48 [some (.ref 84), some (.ref 23), some (.ref 37), some (.int v3), none] [.int 2, .int v3, .ref 23] (lx_up X 86 s1 s2)) : Ev g mX6_gather d n0 nf post n 44 [some (.ref 84), some (.ref 23), some (.ref 37), some (.int v3), none] [.int s2, .int (nI s1), .ref 86] X := by
  refine ev_iast dX6_gather_44 (by omega) ly_86 rfl b0 ?_
  have hX1 : Sh _ (lx_up X 86 s1 s2) := Sh.upA hX (by rw [ly_86]; exact (by decide : 0 < 2))
  refine ev_aload_n dX6_gather_45 rfl ?_
  refine ev_iload_n dX6_gather_46 rfl ?_
  refine ev_iconst (v := 2) dX6_gather_47 ki_2 ?_
  exact k
theorem bX6_gather_51_0 {g : GG} {d n0 nf : Nat} {post : Option Value → LX → Prop} {n : Nat} {X : LX} (hn : 146 ≤ n) (hX : Sh n X) {v3 : Int32} {s0 : Int32} (c0 : ¬ s0 = 0) (k : Ev g mX6_gather d n0 nf post n 23 [some (.ref 84), some (.ref 23), some (.ref 37), some (.int (v3 + 1)), none] [] (lx_up X 84 3 ((X 84 3) ||| (1 <<< (v3 &&& 31))))) : Ev g mX6_gather d n0 nf post n 51 [some (.ref 84), some (.ref 23), some (.ref 37), some (.int v3), none] [.int s0] X := by
  refine ev_ifF (tgt := 66) dX6_gather_51 (by decide) c0 ?_
  refine ev_aload_n dX6_gather_54 rfl ?_
  refine ev_dup dX6_gather_55 rfl ?_
  refine ev_getI dX6_gather_56 fo_6_32 (by omega) lo_84 rfl ?_
  refine ev_iconst (v := 1) dX6_gather_59 ki_1 ?_
  refine ev_iload_n dX6_gather_60 rfl ?_
  refine ev_ishl dX6_gather_61 ?_
  refine ev_ior dX6_gather_62 ?_
  refine ev_putI dX6_gather_63 fo_6_32 (by omega) lo_84 rfl rfl rfl ?_
  have hX1 : Sh _ (lx_up X 84 3 ((X 84 3) ||| (1 <<< (v3 &&& 31)))) := Sh.upF hX (by rw [lo_84]; decide) (by decide)
  refine ev_iinc (v := v3 + 1) dX6_gather_66 rfl (by rw [show Int32.ofInt 1 = 1 from ki_1]) (by decide) ?_
  refine ev_goto (tgt := 23) dX6_gather_69 (by decide) ?_
  exact k
theorem bX6_gather_51_1 {g : GG} {d n0 nf : Nat} {post : Option Value → LX → Prop} {n : Nat} {X : LX} (hn : 146 ≤ n) (hX : Sh n X) {v3 : Int32} {s0 : Int32} (c0 : s0 = 0) (k : Ev g mX6_gather d n0 nf post n 23 [some (.ref 84), some (.ref 23), some (.ref 37), some (.int (v3 + 1)), none] [] X) : Ev g mX6_gather d n0 nf post n 51 [some (.ref 84), some (.ref 23), some (.ref 37), some (.int v3), none] [.int s0] X := by
  refine ev_ifT (tgt := 66) dX6_gather_51 (by decide) c0 ?_
  refine ev_iinc (v := v3 + 1) dX6_gather_66 rfl (by rw [show Int32.ofInt 1 = 1 from ki_1]) (by decide) ?_
  refine ev_goto (tgt := 23) dX6_gather_69 (by decide) ?_
  exact k
theorem bX6_gather_74_0 {g : GG} {d n0 nf : Nat} {post : Option Value → LX → Prop} {n : Nat} {X : LX} (hn : 146 ≤ n) (hX : Sh n X) {v3 : Nat} (c0 : ¬ X 37 0 ≤ nI v3) (b0 : v3 < 12) (k : Ev g mX6_gather d n0 nf post n 92 [some (.ref 84), some (.ref 23), some (.ref 37), some (.int (nI v3)), some (.int 0)] [] (lx_up X 85 v3 0)) : Ev g mX6_gather d n0 nf post n 74 [some (.ref 84), some (.ref 23), some (.ref 37), some (.int (nI v3)), none] [] X := by
  refine ev_iload_n dX6_gather_74 rfl ?_
  refine ev_aload_n dX6_gather_75 rfl ?_
  refine ev_getI dX6_gather_76 fo_6_49 (by omega) lo_37 rfl ?_
  refine ev_icmpF (tgt := 152) dX6_gather_79 (by decide) c0 ?_
  refine ev_aload_n dX6_gather_82 rfl ?_
  refine ev_getS (q := 85) dX6_gather_83 fo_6_9 (by omega) lo_84 rfl (sh_84_1 hX (by omega)) (by decide) ?_
  refine ev_iload_n dX6_gather_86 rfl ?_
  refine ev_iconst (v := 0) dX6_gather_87 ki_0 ?_
  refine ev_iast dX6_gather_88 (by omega) ly_85 rfl b0 ?_
  have hX1 : Sh _ (lx_up X 85 v3 0) := Sh.upA hX (by rw [ly_85]; exact (by decide : 0 < 2))
  refine ev_iconst (v := 0) dX6_gather_89 ki_0 ?_
  refine ev_istore dX6_gather_90 (by decide) ?_
  exact k
theorem bX6_gather_74_1 {g : GG} {d n0 nf : Nat} {post : Option Value → LX → Prop} {n : Nat} {X : LX} (hn : 146 ≤ nf) (hX : Sh nf X) {v3 : Nat} (c0 : X 37 0 ≤ nI v3) (hp : post none X) : Ev g mX6_gather d n0 nf post nf 74 [some (.ref 84), some (.ref 23), some (.ref 37), some (.int (nI v3)), none] [] X := by
  refine ev_iload_n dX6_gather_74 rfl ?_
  refine ev_aload_n dX6_gather_75 rfl ?_
  refine ev_getI dX6_gather_76 fo_6_49 (by omega) lo_37 rfl ?_
  refine ev_icmpT (tgt := 152) dX6_gather_79 (by decide) c0 ?_
  exact ev_ret dX6_gather_152 rfl hp
theorem bX6_gather_92_0 {g : GG} {d n0 nf : Nat} {post : Option Value → LX → Prop} {n : Nat} {X : LX} (hn : 146 ≤ n) (hX : Sh n X) {v3 : Nat} {v4 : Nat} (c0 : ¬ X 23 0 ≤ nI v4) (b0 : v3 < 12) (b1 : v4 < 10) (c1 : ¬ X (43 + 1 + v3) v4 < 5) (k : Ev g mX6_gather d n0 nf post n 121 [some (.ref 84), some (.ref 23), some (.ref 37), some (.int (nI v3)), some (.int (nI v4))] [.int (nI v4), .int (nI v3), .ref 1] X) : Ev g mX6_gather d n0 nf post n 92 [some (.ref 84), some (.ref 23), some (.ref 37), some (.int (nI v3)), some (.int (nI v4))] [] X := by
  refine ev_iload dX6_gather_92 rfl ?_
  refine ev_aload_n dX6_gather_94 rfl ?_
  refine ev_getI dX6_gather_95 fo_6_36 (by omega) lo_23 rfl ?_
  refine ev_icmpF (tgt := 146) dX6_gather_98 (by decide) c0 ?_
  refine ev_aload_n dX6_gather_101 rfl ?_
  refine ev_getS (q := 43) dX6_gather_102 fo_6_52 (by omega) lo_37 rfl (sh_37_6 hX (by omega)) (by decide) ?_
  refine ev_iload_n dX6_gather_105 rfl ?_
  refine ev_aald (q := 43 + 1 + v3) dX6_gather_106 (by omega) (Or.inl ly_43) rfl b0 (hX.2 43 v3 (by omega) (Or.inl (by rw [ly_43])) (by rw [ly_43]; exact b0)) (by first | omega | (have := LY_l ly_43; have := LY_lt (show (LY 43).1 < 99 by rw [ly_43]; exact (by decide : 2 < 99)); omega)) ?_
  refine ev_iload dX6_gather_107 rfl ?_
  refine ev_iald dX6_gather_109 (by have := b0; omega) (lyr_43 _ b0) rfl b1 ?_
  refine ev_iconst (v := 5) dX6_gather_110 ki_5 ?_
  refine ev_icmpF (tgt := 140) dX6_gather_111 (by decide) c1 ?_
  refine ev_aload_n dX6_gather_114 rfl ?_
  refine ev_getS (q := 1) dX6_gather_115 fo_6_18 (by omega) lo_84 rfl (sh_84_0 hX (by omega)) (by decide) ?_
  refine ev_iload_n dX6_gather_118 rfl ?_
  refine ev_iload dX6_gather_119 rfl ?_
  exact k
theorem bX6_gather_92_1 {g : GG} {d n0 nf : Nat} {post : Option Value → LX → Prop} {n : Nat} {X : LX} (hn : 146 ≤ n) (hX : Sh n X) {v3 : Nat} {v4 : Nat} (c0 : ¬ X 23 0 ≤ nI v4) (b0 : v3 < 12) (b1 : v4 < 10) (c1 : X (43 + 1 + v3) v4 < 5) (k : Ev g mX6_gather d n0 nf post n 92 [some (.ref 84), some (.ref 23), some (.ref 37), some (.int (nI v3)), some (.int ((nI v4) + 1))] [] X) : Ev g mX6_gather d n0 nf post n 92 [some (.ref 84), some (.ref 23), some (.ref 37), some (.int (nI v3)), some (.int (nI v4))] [] X := by
  refine ev_iload dX6_gather_92 rfl ?_
  refine ev_aload_n dX6_gather_94 rfl ?_
  refine ev_getI dX6_gather_95 fo_6_36 (by omega) lo_23 rfl ?_
  refine ev_icmpF (tgt := 146) dX6_gather_98 (by decide) c0 ?_
  refine ev_aload_n dX6_gather_101 rfl ?_
  refine ev_getS (q := 43) dX6_gather_102 fo_6_52 (by omega) lo_37 rfl (sh_37_6 hX (by omega)) (by decide) ?_
  refine ev_iload_n dX6_gather_105 rfl ?_
  refine ev_aald (q := 43 + 1 + v3) dX6_gather_106 (by omega) (Or.inl ly_43) rfl b0 (hX.2 43 v3 (by omega) (Or.inl (by rw [ly_43])) (by rw [ly_43]; exact b0)) (by first | omega | (have := LY_l ly_43; have := LY_lt (show (LY 43).1 < 99 by rw [ly_43]; exact (by decide : 2 < 99)); omega)) ?_
  refine ev_iload dX6_gather_107 rfl ?_
  refine ev_iald dX6_gather_109 (by have := b0; omega) (lyr_43 _ b0) rfl b1 ?_
  refine ev_iconst (v := 5) dX6_gather_110 ki_5 ?_
  refine ev_icmpT (tgt := 140) dX6_gather_111 (by decide) c1 ?_
  refine ev_iinc (v := (nI v4) + 1) dX6_gather_140 rfl (by rw [show Int32.ofInt 1 = 1 from ki_1]) (by decide) ?_
  refine ev_goto (tgt := 92) dX6_gather_143 (by decide) ?_
  exact k
theorem bX6_gather_92_2 {g : GG} {d n0 nf : Nat} {post : Option Value → LX → Prop} {n : Nat} {X : LX} (hn : 146 ≤ n) (hX : Sh n X) {v3 : Nat} {v4 : Nat} (c0 : X 23 0 ≤ nI v4) (k : Ev g mX6_gather d n0 nf post n 74 [some (.ref 84), some (.ref 23), some (.ref 37), some (.int ((nI v3) + 1)), some (.int (nI v4))] [] X) : Ev g mX6_gather d n0 nf post n 92 [some (.ref 84), some (.ref 23), some (.ref 37), some (.int (nI v3)), some (.int (nI v4))] [] X := by
  refine ev_iload dX6_gather_92 rfl ?_
  refine ev_aload_n dX6_gather_94 rfl ?_
  refine ev_getI dX6_gather_95 fo_6_36 (by omega) lo_23 rfl ?_
  refine ev_icmpT (tgt := 146) dX6_gather_98 (by decide) c0 ?_
  refine ev_iinc (v := (nI v3) + 1) dX6_gather_146 rfl (by rw [show Int32.ofInt 1 = 1 from ki_1]) (by decide) ?_
  refine ev_goto (tgt := 74) dX6_gather_149 (by decide) ?_
  exact k
theorem bX6_gather_124_0 {g : GG} {d n0 nf : Nat} {post : Option Value → LX → Prop} {n : Nat} {X : LX} (hn : 146 ≤ n) (hX : Sh n X) {v3 : Nat} {v4 : Int32} {s0 : Int32} (c0 : ¬ s0 = 0) (b0 : v3 < 12) (b1 : v3 < 12) (k : Ev g mX6_gather d n0 nf post n 92 [some (.ref 84), some (.ref 23), some (.ref 37), some (.int (nI v3)), some (.int (v4 + 1))] [] (lx_up X 85 v3 ((X 85 v3) ||| (1 <<< (v4 &&& 31))))) : Ev g mX6_gather d n0 nf post n 124 [some (.ref 84), some (.ref 23), some (.ref 37), some (.int (nI v3)), some (.int v4)] [.int s0] X := by
  refine ev_ifF (tgt := 140) dX6_gather_124 (by decide) c0 ?_
  refine ev_aload_n dX6_gather_127 rfl ?_
  refine ev_getS (q := 85) dX6_gather_128 fo_6_9 (by omega) lo_84 rfl (sh_84_1 hX (by omega)) (by decide) ?_
  refine ev_iload_n dX6_gather_131 rfl ?_
  refine ev_dup2 dX6_gather_132 rfl rfl ?_
  refine ev_iald dX6_gather_133 (by omega) ly_85 rfl b0 ?_
  refine ev_iconst (v := 1) dX6_gather_134 ki_1 ?_
  refine ev_iload dX6_gather_135 rfl ?_
  refine ev_ishl dX6_gather_137 ?_
  refine ev_ior dX6_gather_138 ?_
  refine ev_iast dX6_gather_139 (by omega) ly_85 rfl b1 ?_
  have hX1 : Sh _ (lx_up X 85 v3 ((X 85 v3) ||| (1 <<< (v4 &&& 31)))) := Sh.upA hX (by rw [ly_85]; exact (by decide : 0 < 2))
  refine ev_iinc (v := v4 + 1) dX6_gather_140 rfl (by rw [show Int32.ofInt 1 = 1 from ki_1]) (by decide) ?_
  refine ev_goto (tgt := 92) dX6_gather_143 (by decide) ?_
  exact k
theorem bX6_gather_124_1 {g : GG} {d n0 nf : Nat} {post : Option Value → LX → Prop} {n : Nat} {X : LX} (hn : 146 ≤ n) (hX : Sh n X) {v3 : Nat} {v4 : Int32} {s0 : Int32} (c0 : s0 = 0) (k : Ev g mX6_gather d n0 nf post n 92 [some (.ref 84), some (.ref 23), some (.ref 37), some (.int (nI v3)), some (.int (v4 + 1))] [] X) : Ev g mX6_gather d n0 nf post n 124 [some (.ref 84), some (.ref 23), some (.ref 37), some (.int (nI v3)), some (.int v4)] [.int s0] X := by
  refine ev_ifT (tgt := 140) dX6_gather_124 (by decide) c0 ?_
  refine ev_iinc (v := v4 + 1) dX6_gather_140 rfl (by rw [show Int32.ofInt 1 = 1 from ki_1]) (by decide) ?_
  refine ev_goto (tgt := 92) dX6_gather_143 (by decide) ?_
  exact k
theorem bX6_keptBy_0_0 {g : GG} {d n0 nf : Nat} {post : Option Value → LX → Prop} {n : Nat} {X : LX} (hn : 146 ≤ n) (hX : Sh n X) {v1 : Int32} (k : Ev g mX6_keptBy d n0 nf post n 2 [some (.ref 84), some (.int v1), none, none, none] [.int v1, .int 2] X) : Ev g mX6_keptBy d n0 nf post n 0 [some (.ref 84), some (.int v1), none, none, none] [] X := by
  refine ev_iconst (v := 2) dX6_keptBy_0 ki_2 ?_
  refine ev_iload_n dX6_keptBy_1 rfl ?_
  exact k
theorem bX6_keptBy_5_0 {g : GG} {d n0 nf : Nat} {post : Option Value → LX → Prop} {n : Nat} {X : LX} (hn : 146 ≤ n) (hX : Sh n X) {v1 : Int32} {s0 : Int32} {s1 : Int32} (k : Ev g mX6_keptBy d n0 nf post n 5 [some (.ref 84), some (.int v1), none, none, none] [.int s1, .int s0] X) : Ev g mX6_keptBy d n0 nf post n 5 [some (.ref 84), some (.int v1), none, none, none] [.int s1, .int s0] X := by
  exact k
theorem bX6_keptBy_8_0 {g : GG} {d n0 nf : Nat} {post : Option Value → LX → Prop} {n : Nat} {X : LX} (hn : 146 ≤ n) (hX : Sh n X) {v1 : Int32} {s0 : Int32} (k : Ev g mX6_keptBy d n0 nf post n 14 [some (.ref 84), some (.int v1), some (.int s0), some (.int 0), some (.int 0)] [] X) : Ev g mX6_keptBy d n0 nf post n 8 [some (.ref 84), some (.int v1), none, none, none] [.int s0] X := by
  refine ev_istore_n dX6_keptBy_8 (by decide) ?_
  refine ev_iconst (v := 0) dX6_keptBy_9 ki_0 ?_
  refine ev_istore_n dX6_keptBy_10 (by decide) ?_
  refine ev_iconst (v := 0) dX6_keptBy_11 ki_0 ?_
  refine ev_istore dX6_keptBy_12 (by decide) ?_
  exact k
theorem bX6_keptBy_14_0 {g : GG} {d n0 nf : Nat} {post : Option Value → LX → Prop} {n : Nat} {X : LX} (hn : 146 ≤ n) (hX : Sh n X) {v1 : Int32} {v2 : Int32} {v3 : Int32} {v4 : Nat} (c0 : ¬ X 37 0 ≤ nI v4) (b0 : v4 < 12) (k : Ev g mX6_keptBy d n0 nf post n 38 [some (.ref 84), some (.int v1), some (.int v2), some (.int v3), some (.int (nI v4))] [.int ((X 85 v4) &&& v1)] X) : Ev g mX6_keptBy d n0 nf post n 14 [some (.ref 84), some (.int v1), some (.int v2), some (.int v3), some (.int (nI v4))] [] X := by
  refine ev_iload dX6_keptBy_14 rfl ?_
  refine ev_aload_n dX6_keptBy_16 rfl ?_
  refine ev_getS (q := 1) dX6_keptBy_17 fo_6_18 (by omega) lo_84 rfl (sh_84_0 hX (by omega)) (by decide) ?_
  refine ev_getS (q := 37) dX6_keptBy_20 fo_6_28 (by omega) lo_1 rfl (sh_1_2 hX (by omega)) (by decide) ?_
  refine ev_getI dX6_keptBy_23 fo_6_49 (by omega) lo_37 rfl ?_
  refine ev_icmpF (tgt := 54) dX6_keptBy_26 (by decide) c0 ?_
  refine ev_aload_n dX6_keptBy_29 rfl ?_
  refine ev_getS (q := 85) dX6_keptBy_30 fo_6_9 (by omega) lo_84 rfl (sh_84_1 hX (by omega)) (by decide) ?_
  refine ev_iload dX6_keptBy_33 rfl ?_
  refine ev_iald dX6_keptBy_35 (by omega) ly_85 rfl b0 ?_
  refine ev_iload_n dX6_keptBy_36 rfl ?_
  refine ev_iand dX6_keptBy_37 ?_
  exact k
theorem bX6_keptBy_14_1 {g : GG} {d n0 nf : Nat} {post : Option Value → LX → Prop} {n : Nat} {X : LX} (hn : 146 ≤ nf) (hX : Sh nf X) {v1 : Int32} {v2 : Int32} {v3 : Int32} {v4 : Nat} (c0 : X 37 0 ≤ nI v4) (hp : post (some (.int v3)) X) : Ev g mX6_keptBy d n0 nf post nf 14 [some (.ref 84), some (.int v1), some (.int v2), some (.int v3), some (.int (nI v4))] [] X := by
  refine ev_iload dX6_keptBy_14 rfl ?_
  refine ev_aload_n dX6_keptBy_16 rfl ?_
  refine ev_getS (q := 1) dX6_keptBy_17 fo_6_18 (by omega) lo_84 rfl (sh_84_0 hX (by omega)) (by decide) ?_
  refine ev_getS (q := 37) dX6_keptBy_20 fo_6_28 (by omega) lo_1 rfl (sh_1_2 hX (by omega)) (by decide) ?_
  refine ev_getI dX6_keptBy_23 fo_6_49 (by omega) lo_37 rfl ?_
  refine ev_icmpT (tgt := 54) dX6_keptBy_26 (by decide) c0 ?_
  refine ev_iload_n dX6_keptBy_54 rfl ?_
  exact ev_iret dX6_keptBy_55 rfl rfl hp
theorem bX6_keptBy_41_0 {g : GG} {d n0 nf : Nat} {post : Option Value → LX → Prop} {n : Nat} {X : LX} (hn : 146 ≤ n) (hX : Sh n X) {v1 : Int32} {v2 : Int32} {v3 : Int32} {v4 : Int32} {s0 : Int32} (c0 : ¬ s0 < v2) (k : Ev g mX6_keptBy d n0 nf post n 14 [some (.ref 84), some (.int v1), some (.int v2), some (.int (v3 + 1)), some (.int (v4 + 1))] [] X) : Ev g mX6_keptBy d n0 nf post n 41 [some (.ref 84), some (.int v1), some (.int v2), some (.int v3), some (.int v4)] [.int s0] X := by
  refine ev_iload_n dX6_keptBy_41 rfl ?_
  refine ev_icmpF (tgt := 48) dX6_keptBy_42 (by decide) c0 ?_
  refine ev_iinc (v := v3 + 1) dX6_keptBy_45 rfl (by rw [show Int32.ofInt 1 = 1 from ki_1]) (by decide) ?_
  refine ev_iinc (v := v4 + 1) dX6_keptBy_48 rfl (by rw [show Int32.ofInt 1 = 1 from ki_1]) (by decide) ?_
  refine ev_goto (tgt := 14) dX6_keptBy_51 (by decide) ?_
  exact k
theorem bX6_keptBy_41_1 {g : GG} {d n0 nf : Nat} {post : Option Value → LX → Prop} {n : Nat} {X : LX} (hn : 146 ≤ n) (hX : Sh n X) {v1 : Int32} {v2 : Int32} {v3 : Int32} {v4 : Int32} {s0 : Int32} (c0 : s0 < v2) (k : Ev g mX6_keptBy d n0 nf post n 14 [some (.ref 84), some (.int v1), some (.int v2), some (.int v3), some (.int (v4 + 1))] [] X) : Ev g mX6_keptBy d n0 nf post n 41 [some (.ref 84), some (.int v1), some (.int v2), some (.int v3), some (.int v4)] [.int s0] X := by
  refine ev_iload_n dX6_keptBy_41 rfl ?_
  refine ev_icmpT (tgt := 48) dX6_keptBy_42 (by decide) c0 ?_
  refine ev_iinc (v := v4 + 1) dX6_keptBy_48 rfl (by rw [show Int32.ofInt 1 = 1 from ki_1]) (by decide) ?_
  refine ev_goto (tgt := 14) dX6_keptBy_51 (by decide) ?_
  exact k
theorem bX6_seek_0_0 {g : GG} {d n0 nf : Nat} {post : Option Value → LX → Prop} {n : Nat} {X : LX} (hn : 146 ≤ n) (hX : Sh n X) {v1 : Int32} {v2 : Int32} (k : Ev g mX6_seek d n0 nf post n 1 [some (.ref 84), some (.int v1), some (.int v2)] [.ref 84] X) : Ev g mX6_seek d n0 nf post n 0 [some (.ref 84), some (.int v1), some (.int v2)] [] X := by
  refine ev_aload_n dX6_seek_0 rfl ?_
  exact k
theorem bX6_seek_4_0 {g : GG} {d n0 nf : Nat} {post : Option Value → LX → Prop} {n : Nat} {X : LX} (hn : 146 ≤ n) (hX : Sh n X) {v1 : Int32} {v2 : Int32} (k : Ev g mX6_seek d n0 nf post n 34 [some (.ref 84), some (.int v1), some (.int v2)] [.int 0, .int 0, .int v1, .int 0, .ref 84] (lx_up (lx_up (lx_up (lx_up (lx_up X 84 4 v2) 84 5 0) 84 6 (-1)) 84 7 0) 84 8 0)) : Ev g mX6_seek d n0 nf post n 4 [some (.ref 84), some (.int v1), some (.int v2)] [] X := by
  refine ev_aload_n dX6_seek_4 rfl ?_
  refine ev_iload_n dX6_seek_5 rfl ?_
  refine ev_putI dX6_seek_6 fo_6_73 (by omega) lo_84 rfl rfl rfl ?_
  have hX1 : Sh _ (lx_up X 84 4 v2) := Sh.upF hX (by rw [lo_84]; decide) (by decide)
  refine ev_aload_n dX6_seek_9 rfl ?_
  refine ev_iconst (v := 0) dX6_seek_10 ki_0 ?_
  refine ev_putI dX6_seek_11 fo_6_76 (by omega) lo_84 rfl rfl rfl ?_
  have hX2 : Sh _ (lx_up (lx_up X 84 4 v2) 84 5 0) := Sh.upF hX1 (by rw [lo_84]; decide) (by decide)
  refine ev_aload_n dX6_seek_14 rfl ?_
  refine ev_iconst (v := (-1)) dX6_seek_15 ki_m1 ?_
  refine ev_putI dX6_seek_16 fo_6_79 (by omega) lo_84 rfl rfl rfl ?_
  have hX3 : Sh _ (lx_up (lx_up (lx_up X 84 4 v2) 84 5 0) 84 6 (-1)) := Sh.upF hX2 (by rw [lo_84]; decide) (by decide)
  refine ev_aload_n dX6_seek_19 rfl ?_
  refine ev_iconst (v := 0) dX6_seek_20 ki_0 ?_
  refine ev_putI dX6_seek_21 fo_6_82 (by omega) lo_84 rfl rfl rfl ?_
  have hX4 : Sh _ (lx_up (lx_up (lx_up (lx_up X 84 4 v2) 84 5 0) 84 6 (-1)) 84 7 0) := Sh.upF hX3 (by rw [lo_84]; decide) (by decide)
  refine ev_aload_n dX6_seek_24 rfl ?_
  refine ev_iconst (v := 0) dX6_seek_25 ki_0 ?_
  refine ev_putI dX6_seek_26 fo_6_85 (by omega) lo_84 rfl rfl rfl ?_
  have hX5 : Sh _ (lx_up (lx_up (lx_up (lx_up (lx_up X 84 4 v2) 84 5 0) 84 6 (-1)) 84 7 0) 84 8 0) := Sh.upF hX4 (by rw [lo_84]; decide) (by decide)
  refine ev_aload_n dX6_seek_29 rfl ?_
  refine ev_iconst (v := 0) dX6_seek_30 ki_0 ?_
  refine ev_iload_n dX6_seek_31 rfl ?_
  refine ev_iconst (v := 0) dX6_seek_32 ki_0 ?_
  refine ev_iconst (v := 0) dX6_seek_33 ki_0 ?_
  exact k
theorem bX6_seek_37_0 {g : GG} {d n0 nf : Nat} {post : Option Value → LX → Prop} {n : Nat} {X : LX} (hn : 146 ≤ nf) (hX : Sh nf X) {v1 : Int32} {v2 : Int32} (c0 : ¬ X 84 5 ≤ X 84 4) (hp : post (some (.int (-1000000004))) X) : Ev g mX6_seek d n0 nf post nf 37 [some (.ref 84), some (.int v1), some (.int v2)] [] X := by
  refine ev_aload_n dX6_seek_37 rfl ?_
  refine ev_getI dX6_seek_38 fo_6_76 (by omega) lo_84 rfl ?_
  refine ev_aload_n dX6_seek_41 rfl ?_
  refine ev_getI dX6_seek_42 fo_6_73 (by omega) lo_84 rfl ?_
  refine ev_icmpF (tgt := 51) dX6_seek_45 (by decide) c0 ?_
  refine ev_ldc (v := (-1000000004)) dX6_seek_48 kw_6_92 ?_
  exact ev_iret dX6_seek_50 rfl rfl hp
theorem bX6_seek_37_1 {g : GG} {d n0 nf : Nat} {post : Option Value → LX → Prop} {n : Nat} {X : LX} (hn : 146 ≤ nf) (hX : Sh nf X) {v1 : Int32} {v2 : Int32} (c0 : X 84 5 ≤ X 84 4) (c1 : ¬ 0 ≤ X 84 6) (hp : post (some (.int (-1000000002))) X) : Ev g mX6_seek d n0 nf post nf 37 [some (.ref 84), some (.int v1), some (.int v2)] [] X := by
  refine ev_aload_n dX6_seek_37 rfl ?_
  refine ev_getI dX6_seek_38 fo_6_76 (by omega) lo_84 rfl ?_
  refine ev_aload_n dX6_seek_41 rfl ?_
  refine ev_getI dX6_seek_42 fo_6_73 (by omega) lo_84 rfl ?_
  refine ev_icmpT (tgt := 51) dX6_seek_45 (by decide) c0 ?_
  refine ev_aload_n dX6_seek_51 rfl ?_
  refine ev_getI dX6_seek_52 fo_6_79 (by omega) lo_84 rfl ?_
  refine ev_ifF (tgt := 63) dX6_seek_55 (by decide) c1 ?_
  refine ev_ldc (v := (-1000000002)) dX6_seek_58 kw_6_93 ?_
  refine ev_goto (tgt := 64) dX6_seek_60 (by decide) ?_
  exact ev_iret dX6_seek_64 rfl rfl hp
theorem bX6_seek_37_2 {g : GG} {d n0 nf : Nat} {post : Option Value → LX → Prop} {n : Nat} {X : LX} (hn : 146 ≤ nf) (hX : Sh nf X) {v1 : Int32} {v2 : Int32} (c0 : X 84 5 ≤ X 84 4) (c1 : 0 ≤ X 84 6) (hp : post (some (.int 0)) X) : Ev g mX6_seek d n0 nf post nf 37 [some (.ref 84), some (.int v1), some (.int v2)] [] X := by
  refine ev_aload_n dX6_seek_37 rfl ?_
  refine ev_getI dX6_seek_38 fo_6_76 (by omega) lo_84 rfl ?_
  refine ev_aload_n dX6_seek_41 rfl ?_
  refine ev_getI dX6_seek_42 fo_6_73 (by omega) lo_84 rfl ?_
  refine ev_icmpT (tgt := 51) dX6_seek_45 (by decide) c0 ?_
  refine ev_aload_n dX6_seek_51 rfl ?_
  refine ev_getI dX6_seek_52 fo_6_79 (by omega) lo_84 rfl ?_
  refine ev_ifT (tgt := 63) dX6_seek_55 (by decide) c1 ?_
  refine ev_iconst (v := 0) dX6_seek_63 ki_0 ?_
  exact ev_iret dX6_seek_64 rfl rfl hp
theorem bX6_seekFrom_0_0 {g : GG} {d n0 nf : Nat} {post : Option Value → LX → Prop} {n : Nat} {X : LX} (hn : 146 ≤ n) (hX : Sh n X) {v1 : Int32} {v2 : Int32} {v3 : Int32} {v4 : Int32} (c0 : ¬ 0 < v2) (k : Ev g mX6_seekFrom d n0 nf post n 6 [some (.ref 84), some (.int v1), some (.int v2), some (.int v3), some (.int v4), none, none] [.int v3, .ref 84] X) : Ev g mX6_seekFrom d n0 nf post n 0 [some (.ref 84), some (.int v1), some (.int v2), some (.int v3), some (.int v4), none, none] [] X := by
  refine ev_iload_n dX6_seekFrom_0 rfl ?_
  refine ev_ifF (tgt := 10) dX6_seekFrom_1 (by decide) c0 ?_
  refine ev_aload_n dX6_seekFrom_4 rfl ?_
  refine ev_iload_n dX6_seekFrom_5 rfl ?_
  exact k
theorem bX6_seekFrom_0_1 {g : GG} {d n0 nf : Nat} {post : Option Value → LX → Prop} {n : Nat} {X : LX} (hn : 146 ≤ n) (hX : Sh n X) {v1 : Int32} {v2 : Int32} {v3 : Int32} {v4 : Int32} (c0 : 0 < v2) (k : Ev g mX6_seekFrom d n0 nf post n 13 [some (.ref 84), some (.int v1), some (.int v2), some (.int v3), some (.int v4), some (.int v1), none] [] X) : Ev g mX6_seekFrom d n0 nf post n 0 [some (.ref 84), some (.int v1), some (.int v2), some (.int v3), some (.int v4), none, none] [] X := by
  refine ev_iload_n dX6_seekFrom_0 rfl ?_
  refine ev_ifT (tgt := 10) dX6_seekFrom_1 (by decide) c0 ?_
  refine ev_iload_n dX6_seekFrom_10 rfl ?_
  refine ev_istore dX6_seekFrom_11 (by decide) ?_
  exact k
theorem bX6_seekFrom_9_0 {g : GG} {d n0 nf : Nat} {post : Option Value → LX → Prop} {n : Nat} {X : LX} (hn : 146 ≤ nf) (hX : Sh nf X) {v1 : Int32} {v2 : Int32} {v3 : Int32} {v4 : Int32} (hp : post none X) : Ev g mX6_seekFrom d n0 nf post nf 9 [some (.ref 84), some (.int v1), some (.int v2), some (.int v3), some (.int v4), none, none] [] X := by
  exact ev_ret dX6_seekFrom_9 rfl hp
theorem bX6_seekFrom_13_0 {g : GG} {d n0 nf : Nat} {post : Option Value → LX → Prop} {n : Nat} {X : LX} (hn : 146 ≤ n) (hX : Sh n X) {v1 : Int32} {v2 : Int32} {v3 : Int32} {v4 : Int32} {v5 : Nat} (c0 : ¬ X 23 0 ≤ nI v5) (c1 : ¬ X 84 4 < X 84 5) (b0 : v5 < 10) (c2 : ¬ v4 &&& (1 <<< ((X 25 v5) &&& 31)) = 0) (k : Ev g mX6_seekFrom d n0 nf post n 13 [some (.ref 84), some (.int v1), some (.int v2), some (.int v3), some (.int v4), some (.int ((nI v5) + 1)), some (.int (1 <<< ((X 25 v5) &&& 31)))] [] X) : Ev g mX6_seekFrom d n0 nf post n 13 [some (.ref 84), some (.int v1), some (.int v2), some (.int v3), some (.int v4), some (.int (nI v5)), none] [] X := by
  refine ev_iload dX6_seekFrom_13 rfl ?_
  refine ev_aload_n dX6_seekFrom_15 rfl ?_
  refine ev_getS (q := 1) dX6_seekFrom_16 fo_6_18 (by omega) lo_84 rfl (sh_84_0 hX (by omega)) (by decide) ?_
  refine ev_getS (q := 23) dX6_seekFrom_19 fo_6_22 (by omega) lo_1 rfl (sh_1_1 hX (by omega)) (by decide) ?_
  refine ev_getI dX6_seekFrom_22 fo_6_36 (by omega) lo_23 rfl ?_
  refine ev_icmpF (tgt := 116) dX6_seekFrom_25 (by decide) c0 ?_
  refine ev_aload_n dX6_seekFrom_28 rfl ?_
  refine ev_getI dX6_seekFrom_29 fo_6_76 (by omega) lo_84 rfl ?_
  refine ev_aload_n dX6_seekFrom_32 rfl ?_
  refine ev_getI dX6_seekFrom_33 fo_6_73 (by omega) lo_84 rfl ?_
  refine ev_icmpF (tgt := 116) dX6_seekFrom_36 (by decide) c1 ?_
  refine ev_iconst (v := 1) dX6_seekFrom_39 ki_1 ?_
  refine ev_aload_n dX6_seekFrom_40 rfl ?_
  refine ev_getS (q := 1) dX6_seekFrom_41 fo_6_18 (by omega) lo_84 rfl (sh_84_0 hX (by omega)) (by decide) ?_
  refine ev_getS (q := 23) dX6_seekFrom_44 fo_6_22 (by omega) lo_1 rfl (sh_1_1 hX (by omega)) (by decide) ?_
  refine ev_getS (q := 25) dX6_seekFrom_47 fo_6_98 (by omega) lo_23 rfl (sh_23_2 hX (by omega)) (by decide) ?_
  refine ev_iload dX6_seekFrom_50 rfl ?_
  refine ev_iald dX6_seekFrom_52 (by omega) ly_25 rfl b0 ?_
  refine ev_ishl dX6_seekFrom_53 ?_
  refine ev_istore dX6_seekFrom_54 (by decide) ?_
  refine ev_iload dX6_seekFrom_56 rfl ?_
  refine ev_iload dX6_seekFrom_58 rfl ?_
  refine ev_iand dX6_seekFrom_60 ?_
  refine ev_ifF (tgt := 67) dX6_seekFrom_61 (by decide) c2 ?_
  refine ev_goto (tgt := 110) dX6_seekFrom_64 (by decide) ?_
  refine ev_iinc (v := (nI v5) + 1) dX6_seekFrom_110 rfl (by rw [show Int32.ofInt 1 = 1 from ki_1]) (by decide) ?_
  refine ev_goto (tgt := 13) dX6_seekFrom_113 (by decide) ?_
  exact k
theorem bX6_seekFrom_13_1 {g : GG} {d n0 nf : Nat} {post : Option Value → LX → Prop} {n : Nat} {X : LX} (hn : 146 ≤ n) (hX : Sh n X) {v1 : Int32} {v2 : Int32} {v3 : Int32} {v4 : Int32} {v5 : Nat} (c0 : ¬ X 23 0 ≤ nI v5) (c1 : ¬ X 84 4 < X 84 5) (b0 : v5 < 10) (c2 : v4 &&& (1 <<< ((X 25 v5) &&& 31)) = 0) (c3 : ¬ X 84 4 < (X 84 5) + 1) (k : Ev g mX6_seekFrom d n0 nf post n 107 [some (.ref 84), some (.int v1), some (.int v2), some (.int v3), some (.int v4), some (.int (nI v5)), some (.int (1 <<< ((X 25 v5) &&& 31)))] [.int (v4 ||| (1 <<< ((X 25 v5) &&& 31))), .int (v3 ||| (1 <<< ((nI v5) &&& 31))), .int (v2 - 1), .int ((nI v5) + 1), .ref 84] (lx_up X 84 5 ((X 84 5) + 1))) : Ev g mX6_seekFrom d n0 nf post n 13 [some (.ref 84), some (.int v1), some (.int v2), some (.int v3), some (.int v4), some (.int (nI v5)), none] [] X := by
  refine ev_iload dX6_seekFrom_13 rfl ?_
  refine ev_aload_n dX6_seekFrom_15 rfl ?_
  refine ev_getS (q := 1) dX6_seekFrom_16 fo_6_18 (by omega) lo_84 rfl (sh_84_0 hX (by omega)) (by decide) ?_
  refine ev_getS (q := 23) dX6_seekFrom_19 fo_6_22 (by omega) lo_1 rfl (sh_1_1 hX (by omega)) (by decide) ?_
  refine ev_getI dX6_seekFrom_22 fo_6_36 (by omega) lo_23 rfl ?_
  refine ev_icmpF (tgt := 116) dX6_seekFrom_25 (by decide) c0 ?_
  refine ev_aload_n dX6_seekFrom_28 rfl ?_
  refine ev_getI dX6_seekFrom_29 fo_6_76 (by omega) lo_84 rfl ?_
  refine ev_aload_n dX6_seekFrom_32 rfl ?_
  refine ev_getI dX6_seekFrom_33 fo_6_73 (by omega) lo_84 rfl ?_
  refine ev_icmpF (tgt := 116) dX6_seekFrom_36 (by decide) c1 ?_
  refine ev_iconst (v := 1) dX6_seekFrom_39 ki_1 ?_
  refine ev_aload_n dX6_seekFrom_40 rfl ?_
  refine ev_getS (q := 1) dX6_seekFrom_41 fo_6_18 (by omega) lo_84 rfl (sh_84_0 hX (by omega)) (by decide) ?_
  refine ev_getS (q := 23) dX6_seekFrom_44 fo_6_22 (by omega) lo_1 rfl (sh_1_1 hX (by omega)) (by decide) ?_
  refine ev_getS (q := 25) dX6_seekFrom_47 fo_6_98 (by omega) lo_23 rfl (sh_23_2 hX (by omega)) (by decide) ?_
  refine ev_iload dX6_seekFrom_50 rfl ?_
  refine ev_iald dX6_seekFrom_52 (by omega) ly_25 rfl b0 ?_
  refine ev_ishl dX6_seekFrom_53 ?_
  refine ev_istore dX6_seekFrom_54 (by decide) ?_
  refine ev_iload dX6_seekFrom_56 rfl ?_
  refine ev_iload dX6_seekFrom_58 rfl ?_
  refine ev_iand dX6_seekFrom_60 ?_
  refine ev_ifT (tgt := 67) dX6_seekFrom_61 (by decide) c2 ?_
  refine ev_aload_n dX6_seekFrom_67 rfl ?_
  refine ev_dup dX6_seekFrom_68 rfl ?_
  refine ev_getI dX6_seekFrom_69 fo_6_76 (by omega) lo_84 rfl ?_
  refine ev_iconst (v := 1) dX6_seekFrom_72 ki_1 ?_
  refine ev_iadd dX6_seekFrom_73 ?_
  refine ev_putI dX6_seekFrom_74 fo_6_76 (by omega) lo_84 rfl rfl rfl ?_
  have hX1 : Sh _ (lx_up X 84 5 ((X 84 5) + 1)) := Sh.upF hX (by rw [lo_84]; decide) (by decide)
  refine ev_aload_n dX6_seekFrom_77 rfl ?_
  refine ev_getI dX6_seekFrom_78 fo_6_76 (by omega) lo_84 rfl ?_
  refine ev_aload_n dX6_seekFrom_81 rfl ?_
  refine ev_getI dX6_seekFrom_82 fo_6_73 (by omega) lo_84 rfl ?_
  refine ev_icmpF (tgt := 110) dX6_seekFrom_85 (by decide) c3 ?_
  refine ev_aload_n dX6_seekFrom_88 rfl ?_
  refine ev_iload dX6_seekFrom_89 rfl ?_
  refine ev_iconst (v := 1) dX6_seekFrom_91 ki_1 ?_
  refine ev_iadd dX6_seekFrom_92 ?_
  refine ev_iload_n dX6_seekFrom_93 rfl ?_
  refine ev_iconst (v := 1) dX6_seekFrom_94 ki_1 ?_
  refine ev_isub dX6_seekFrom_95 ?_
  refine ev_iload_n dX6_seekFrom_96 rfl ?_
  refine ev_iconst (v := 1) dX6_seekFrom_97 ki_1 ?_
  refine ev_iload dX6_seekFrom_98 rfl ?_
  refine ev_ishl dX6_seekFrom_100 ?_
  refine ev_ior dX6_seekFrom_101 ?_
  refine ev_iload dX6_seekFrom_102 rfl ?_
  refine ev_iload dX6_seekFrom_104 rfl ?_
  refine ev_ior dX6_seekFrom_106 ?_
  exact k
theorem bX6_seekFrom_13_2 {g : GG} {d n0 nf : Nat} {post : Option Value → LX → Prop} {n : Nat} {X : LX} (hn : 146 ≤ n) (hX : Sh n X) {v1 : Int32} {v2 : Int32} {v3 : Int32} {v4 : Int32} {v5 : Nat} (c0 : ¬ X 23 0 ≤ nI v5) (c1 : ¬ X 84 4 < X 84 5) (b0 : v5 < 10) (c2 : v4 &&& (1 <<< ((X 25 v5) &&& 31)) = 0) (c3 : X 84 4 < (X 84 5) + 1) (k : Ev g mX6_seekFrom d n0 nf post n 13 [some (.ref 84), some (.int v1), some (.int v2), some (.int v3), some (.int v4), some (.int ((nI v5) + 1)), some (.int (1 <<< ((X 25 v5) &&& 31)))] [] (lx_up X 84 5 ((X 84 5) + 1))) : Ev g mX6_seekFrom d n0 nf post n 13 [some (.ref 84), some (.int v1), some (.int v2), some (.int v3), some (.int v4), some (.int (nI v5)), none] [] X := by
  refine ev_iload dX6_seekFrom_13 rfl ?_
  refine ev_aload_n dX6_seekFrom_15 rfl ?_
  refine ev_getS (q := 1) dX6_seekFrom_16 fo_6_18 (by omega) lo_84 rfl (sh_84_0 hX (by omega)) (by decide) ?_
  refine ev_getS (q := 23) dX6_seekFrom_19 fo_6_22 (by omega) lo_1 rfl (sh_1_1 hX (by omega)) (by decide) ?_
  refine ev_getI dX6_seekFrom_22 fo_6_36 (by omega) lo_23 rfl ?_
  refine ev_icmpF (tgt := 116) dX6_seekFrom_25 (by decide) c0 ?_
  refine ev_aload_n dX6_seekFrom_28 rfl ?_
  refine ev_getI dX6_seekFrom_29 fo_6_76 (by omega) lo_84 rfl ?_
  refine ev_aload_n dX6_seekFrom_32 rfl ?_
  refine ev_getI dX6_seekFrom_33 fo_6_73 (by omega) lo_84 rfl ?_
  refine ev_icmpF (tgt := 116) dX6_seekFrom_36 (by decide) c1 ?_
  refine ev_iconst (v := 1) dX6_seekFrom_39 ki_1 ?_
  refine ev_aload_n dX6_seekFrom_40 rfl ?_
  refine ev_getS (q := 1) dX6_seekFrom_41 fo_6_18 (by omega) lo_84 rfl (sh_84_0 hX (by omega)) (by decide) ?_
  refine ev_getS (q := 23) dX6_seekFrom_44 fo_6_22 (by omega) lo_1 rfl (sh_1_1 hX (by omega)) (by decide) ?_
  refine ev_getS (q := 25) dX6_seekFrom_47 fo_6_98 (by omega) lo_23 rfl (sh_23_2 hX (by omega)) (by decide) ?_
  refine ev_iload dX6_seekFrom_50 rfl ?_
  refine ev_iald dX6_seekFrom_52 (by omega) ly_25 rfl b0 ?_
  refine ev_ishl dX6_seekFrom_53 ?_
  refine ev_istore dX6_seekFrom_54 (by decide) ?_
  refine ev_iload dX6_seekFrom_56 rfl ?_
  refine ev_iload dX6_seekFrom_58 rfl ?_
  refine ev_iand dX6_seekFrom_60 ?_
  refine ev_ifT (tgt := 67) dX6_seekFrom_61 (by decide) c2 ?_
  refine ev_aload_n dX6_seekFrom_67 rfl ?_
  refine ev_dup dX6_seekFrom_68 rfl ?_
  refine ev_getI dX6_seekFrom_69 fo_6_76 (by omega) lo_84 rfl ?_
  refine ev_iconst (v := 1) dX6_seekFrom_72 ki_1 ?_
  refine ev_iadd dX6_seekFrom_73 ?_
  refine ev_putI dX6_seekFrom_74 fo_6_76 (by omega) lo_84 rfl rfl rfl ?_
  have hX1 : Sh _ (lx_up X 84 5 ((X 84 5) + 1)) := Sh.upF hX (by rw [lo_84]; decide) (by decide)
  refine ev_aload_n dX6_seekFrom_77 rfl ?_
  refine ev_getI dX6_seekFrom_78 fo_6_76 (by omega) lo_84 rfl ?_
  refine ev_aload_n dX6_seekFrom_81 rfl ?_
  refine ev_getI dX6_seekFrom_82 fo_6_73 (by omega) lo_84 rfl ?_
  refine ev_icmpT (tgt := 110) dX6_seekFrom_85 (by decide) c3 ?_
  refine ev_iinc (v := (nI v5) + 1) dX6_seekFrom_110 rfl (by rw [show Int32.ofInt 1 = 1 from ki_1]) (by decide) ?_
  refine ev_goto (tgt := 13) dX6_seekFrom_113 (by decide) ?_
  exact k
theorem bX6_seekFrom_13_3 {g : GG} {d n0 nf : Nat} {post : Option Value → LX → Prop} {n : Nat} {X : LX} (hn : 146 ≤ nf) (hX : Sh nf X) {v1 : Int32} {v2 : Int32} {v3 : Int32} {v4 : Int32} {v5 : Nat} (c0 : ¬ X 23 0 ≤ nI v5) (c1 : X 84 4 < X 84 5) (hp : post none X) : Ev g mX6_seekFrom d n0 nf post nf 13 [some (.ref 84), some (.int v1), some (.int v2), some (.int v3), some (.int v4), some (.int (nI v5)), none] [] X := by
  refine ev_iload dX6_seekFrom_13 rfl ?_
  refine ev_aload_n dX6_seekFrom_15 rfl ?_
  refine ev_getS (q := 1) dX6_seekFrom_16 fo_6_18 (by omega) lo_84 rfl (sh_84_0 hX (by omega)) (by decide) ?_
  refine ev_getS (q := 23) dX6_seekFrom_19 fo_6_22 (by omega) lo_1 rfl (sh_1_1 hX (by omega)) (by decide) ?_
  refine ev_getI dX6_seekFrom_22 fo_6_36 (by omega) lo_23 rfl ?_
  refine ev_icmpF (tgt := 116) dX6_seekFrom_25 (by decide) c0 ?_
  refine ev_aload_n dX6_seekFrom_28 rfl ?_
  refine ev_getI dX6_seekFrom_29 fo_6_76 (by omega) lo_84 rfl ?_
  refine ev_aload_n dX6_seekFrom_32 rfl ?_
  refine ev_getI dX6_seekFrom_33 fo_6_73 (by omega) lo_84 rfl ?_
  refine ev_icmpT (tgt := 116) dX6_seekFrom_36 (by decide) c1 ?_
  exact ev_ret dX6_seekFrom_116 rfl hp
theorem bX6_seekFrom_13_4 {g : GG} {d n0 nf : Nat} {post : Option Value → LX → Prop} {n : Nat} {X : LX} (hn : 146 ≤ nf) (hX : Sh nf X) {v1 : Int32} {v2 : Int32} {v3 : Int32} {v4 : Int32} {v5 : Nat} (c0 : X 23 0 ≤ nI v5) (hp : post none X) : Ev g mX6_seekFrom d n0 nf post nf 13 [some (.ref 84), some (.int v1), some (.int v2), some (.int v3), some (.int v4), some (.int (nI v5)), none] [] X := by
  refine ev_iload dX6_seekFrom_13 rfl ?_
  refine ev_aload_n dX6_seekFrom_15 rfl ?_
  refine ev_getS (q := 1) dX6_seekFrom_16 fo_6_18 (by omega) lo_84 rfl (sh_84_0 hX (by omega)) (by decide) ?_
  refine ev_getS (q := 23) dX6_seekFrom_19 fo_6_22 (by omega) lo_1 rfl (sh_1_1 hX (by omega)) (by decide) ?_
  refine ev_getI dX6_seekFrom_22 fo_6_36 (by omega) lo_23 rfl ?_
  refine ev_icmpT (tgt := 116) dX6_seekFrom_25 (by decide) c0 ?_
  exact ev_ret dX6_seekFrom_116 rfl hp
theorem bX6_seekFrom_110_0 {g : GG} {d n0 nf : Nat} {post : Option Value → LX → Prop} {n : Nat} {X : LX} (hn : 146 ≤ n) (hX : Sh n X) {v1 : Int32} {v2 : Int32} {v3 : Int32} {v4 : Int32} {v5 : Int32} {v6 : Int32} (k : Ev g mX6_seekFrom d n0 nf post n 13 [some (.ref 84), some (.int v1), some (.int v2), some (.int v3), some (.int v4), some (.int (v5 + 1)), some (.int v6)] [] X) : Ev g mX6_seekFrom d n0 nf post n 110 [some (.ref 84), some (.int v1), some (.int v2), some (.int v3), some (.int v4), some (.int v5), some (.int v6)] [] X := by
  refine ev_iinc (v := v5 + 1) dX6_seekFrom_110 rfl (by rw [show Int32.ofInt 1 = 1 from ki_1]) (by decide) ?_
  refine ev_goto (tgt := 13) dX6_seekFrom_113 (by decide) ?_
  exact k
theorem bX6_weigh_0_0 {g : GG} {d n0 nf : Nat} {post : Option Value → LX → Prop} {n : Nat} {X : LX} (hn : 146 ≤ nf) (hX : Sh nf X) {v1 : Int32} (c0 : v1 &&& (X 84 3) = 0) (hp : post none X) : Ev g mX6_weigh d n0 nf post nf 0 [some (.ref 84), some (.int v1), none, none, none] [] X := by
  refine ev_iload_n dX6_weigh_0 rfl ?_
  refine ev_aload_n dX6_weigh_1 rfl ?_
  refine ev_getI dX6_weigh_2 fo_6_32 (by omega) lo_84 rfl ?_
  refine ev_iand dX6_weigh_5 ?_
  refine ev_ifF (tgt := 10) dX6_weigh_6 (by decide) c0 ?_
  exact ev_ret dX6_weigh_9 rfl hp
theorem bX6_weigh_0_1 {g : GG} {d n0 nf : Nat} {post : Option Value → LX → Prop} {n : Nat} {X : LX} (hn : 146 ≤ n) (hX : Sh n X) {v1 : Int32} (c0 : ¬ v1 &&& (X 84 3) = 0) (k : Ev g mX6_weigh d n0 nf post n 12 [some (.ref 84), some (.int v1), none, none, none] [.int v1, .ref 84] X) : Ev g mX6_weigh d n0 nf post n 0 [some (.ref 84), some (.int v1), none, none, none] [] X := by
  refine ev_iload_n dX6_weigh_0 rfl ?_
  refine ev_aload_n dX6_weigh_1 rfl ?_
  refine ev_getI dX6_weigh_2 fo_6_32 (by omega) lo_84 rfl ?_
  refine ev_iand dX6_weigh_5 ?_
  refine ev_ifT (tgt := 10) dX6_weigh_6 (by decide) c0 ?_
  refine ev_aload_n dX6_weigh_10 rfl ?_
  refine ev_iload_n dX6_weigh_11 rfl ?_
  exact k
theorem bX6_weigh_15_0 {g : GG} {d n0 nf : Nat} {post : Option Value → LX → Prop} {n : Nat} {X : LX} (hn : 146 ≤ n) (hX : Sh n X) {v1 : Int32} {s0 : Int32} (k : Ev g mX6_weigh d n0 nf post n 21 [some (.ref 84), some (.int v1), some (.int s0), some (.int 0), some (.int 0)] [] X) : Ev g mX6_weigh d n0 nf post n 15 [some (.ref 84), some (.int v1), none, none, none] [.int s0] X := by
  refine ev_istore_n dX6_weigh_15 (by decide) ?_
  refine ev_iconst (v := 0) dX6_weigh_16 ki_0 ?_
  refine ev_istore_n dX6_weigh_17 (by decide) ?_
  refine ev_iconst (v := 0) dX6_weigh_18 ki_0 ?_
  refine ev_istore dX6_weigh_19 (by decide) ?_
  exact k
theorem bX6_weigh_21_0 {g : GG} {d n0 nf : Nat} {post : Option Value → LX → Prop} {n : Nat} {X : LX} (hn : 146 ≤ n) (hX : Sh n X) {v1 : Int32} {v2 : Int32} {v3 : Int32} {v4 : Int32} (c0 : ¬ X 23 0 ≤ v4) (k : Ev g mX6_weigh d n0 nf post n 39 [some (.ref 84), some (.int v1), some (.int v2), some (.int v3), some (.int v4)] [.int v4, .int v1] X) : Ev g mX6_weigh d n0 nf post n 21 [some (.ref 84), some (.int v1), some (.int v2), some (.int v3), some (.int v4)] [] X := by
  refine ev_iload dX6_weigh_21 rfl ?_
  refine ev_aload_n dX6_weigh_23 rfl ?_
  refine ev_getS (q := 1) dX6_weigh_24 fo_6_18 (by omega) lo_84 rfl (sh_84_0 hX (by omega)) (by decide) ?_
  refine ev_getS (q := 23) dX6_weigh_27 fo_6_22 (by omega) lo_1 rfl (sh_1_1 hX (by omega)) (by decide) ?_
  refine ev_getI dX6_weigh_30 fo_6_36 (by omega) lo_23 rfl ?_
  refine ev_icmpF (tgt := 61) dX6_weigh_33 (by decide) c0 ?_
  refine ev_iload_n dX6_weigh_36 rfl ?_
  refine ev_iload dX6_weigh_37 rfl ?_
  exact k
theorem bX6_weigh_21_1 {g : GG} {d n0 nf : Nat} {post : Option Value → LX → Prop} {n : Nat} {X : LX} (hn : 146 ≤ nf) (hX : Sh nf X) {v1 : Int32} {v2 : Int32} {v3 : Int32} {v4 : Int32} (c0 : X 23 0 ≤ v4) (c1 : ¬ X 84 6 < v2) (c2 : v2 = X 84 6) (c3 : ¬ X 84 7 ≤ v3) (hp : post none (lx_up (lx_up (lx_up X 84 6 v2) 84 7 v3) 84 8 v1)) : Ev g mX6_weigh d n0 nf post nf 21 [some (.ref 84), some (.int v1), some (.int v2), some (.int v3), some (.int v4)] [] X := by
  refine ev_iload dX6_weigh_21 rfl ?_
  refine ev_aload_n dX6_weigh_23 rfl ?_
  refine ev_getS (q := 1) dX6_weigh_24 fo_6_18 (by omega) lo_84 rfl (sh_84_0 hX (by omega)) (by decide) ?_
  refine ev_getS (q := 23) dX6_weigh_27 fo_6_22 (by omega) lo_1 rfl (sh_1_1 hX (by omega)) (by decide) ?_
  refine ev_getI dX6_weigh_30 fo_6_36 (by omega) lo_23 rfl ?_
  refine ev_icmpT (tgt := 61) dX6_weigh_33 (by decide) c0 ?_
  refine ev_iload_n dX6_weigh_61 rfl ?_
  refine ev_aload_n dX6_weigh_62 rfl ?_
  refine ev_getI dX6_weigh_63 fo_6_79 (by omega) lo_84 rfl ?_
  refine ev_icmpF (tgt := 85) dX6_weigh_66 (by decide) c1 ?_
  refine ev_iload_n dX6_weigh_69 rfl ?_
  refine ev_aload_n dX6_weigh_70 rfl ?_
  refine ev_getI dX6_weigh_71 fo_6_79 (by omega) lo_84 rfl ?_
  refine ev_icmpF (tgt := 100) dX6_weigh_74 (by decide) c2 ?_
  refine ev_iload_n dX6_weigh_77 rfl ?_
  refine ev_aload_n dX6_weigh_78 rfl ?_
  refine ev_getI dX6_weigh_79 fo_6_82 (by omega) lo_84 rfl ?_
  refine ev_icmpF (tgt := 100) dX6_weigh_82 (by decide) c3 ?_
  refine ev_aload_n dX6_weigh_85 rfl ?_
  refine ev_iload_n dX6_weigh_86 rfl ?_
  refine ev_putI dX6_weigh_87 fo_6_79 (by omega) lo_84 rfl rfl rfl ?_
  have hX1 : Sh _ (lx_up X 84 6 v2) := Sh.upF hX (by rw [lo_84]; decide) (by decide)
  refine ev_aload_n dX6_weigh_90 rfl ?_
  refine ev_iload_n dX6_weigh_91 rfl ?_
  refine ev_putI dX6_weigh_92 fo_6_82 (by omega) lo_84 rfl rfl rfl ?_
  have hX2 : Sh _ (lx_up (lx_up X 84 6 v2) 84 7 v3) := Sh.upF hX1 (by rw [lo_84]; decide) (by decide)
  refine ev_aload_n dX6_weigh_95 rfl ?_
  refine ev_iload_n dX6_weigh_96 rfl ?_
  refine ev_putI dX6_weigh_97 fo_6_85 (by omega) lo_84 rfl rfl rfl ?_
  have hX3 : Sh _ (lx_up (lx_up (lx_up X 84 6 v2) 84 7 v3) 84 8 v1) := Sh.upF hX2 (by rw [lo_84]; decide) (by decide)
  exact ev_ret dX6_weigh_100 rfl hp
theorem bX6_weigh_21_2 {g : GG} {d n0 nf : Nat} {post : Option Value → LX → Prop} {n : Nat} {X : LX} (hn : 146 ≤ nf) (hX : Sh nf X) {v1 : Int32} {v2 : Int32} {v3 : Int32} {v4 : Int32} (c0 : X 23 0 ≤ v4) (c1 : ¬ X 84 6 < v2) (c2 : v2 = X 84 6) (c3 : X 84 7 ≤ v3) (hp : post none X) : Ev g mX6_weigh d n0 nf post nf 21 [some (.ref 84), some (.int v1), some (.int v2), some (.int v3), some (.int v4)] [] X := by
  refine ev_iload dX6_weigh_21 rfl ?_
  refine ev_aload_n dX6_weigh_23 rfl ?_
  refine ev_getS (q := 1) dX6_weigh_24 fo_6_18 (by omega) lo_84 rfl (sh_84_0 hX (by omega)) (by decide) ?_
  refine ev_getS (q := 23) dX6_weigh_27 fo_6_22 (by omega) lo_1 rfl (sh_1_1 hX (by omega)) (by decide) ?_
  refine ev_getI dX6_weigh_30 fo_6_36 (by omega) lo_23 rfl ?_
  refine ev_icmpT (tgt := 61) dX6_weigh_33 (by decide) c0 ?_
  refine ev_iload_n dX6_weigh_61 rfl ?_
  refine ev_aload_n dX6_weigh_62 rfl ?_
  refine ev_getI dX6_weigh_63 fo_6_79 (by omega) lo_84 rfl ?_
  refine ev_icmpF (tgt := 85) dX6_weigh_66 (by decide) c1 ?_
  refine ev_iload_n dX6_weigh_69 rfl ?_
  refine ev_aload_n dX6_weigh_70 rfl ?_
  refine ev_getI dX6_weigh_71 fo_6_79 (by omega) lo_84 rfl ?_
  refine ev_icmpF (tgt := 100) dX6_weigh_74 (by decide) c2 ?_
  refine ev_iload_n dX6_weigh_77 rfl ?_
  refine ev_aload_n dX6_weigh_78 rfl ?_
  refine ev_getI dX6_weigh_79 fo_6_82 (by omega) lo_84 rfl ?_
  refine ev_icmpT (tgt := 100) dX6_weigh_82 (by decide) c3 ?_
  exact ev_ret dX6_weigh_100 rfl hp
theorem bX6_weigh_21_3 {g : GG} {d n0 nf : Nat} {post : Option Value → LX → Prop} {n : Nat} {X : LX} (hn : 146 ≤ nf) (hX : Sh nf X) {v1 : Int32} {v2 : Int32} {v3 : Int32} {v4 : Int32} (c0 : X 23 0 ≤ v4) (c1 : ¬ X 84 6 < v2) (c2 : ¬ v2 = X 84 6) (hp : post none X) : Ev g mX6_weigh d n0 nf post nf 21 [some (.ref 84), some (.int v1), some (.int v2), some (.int v3), some (.int v4)] [] X := by
  refine ev_iload dX6_weigh_21 rfl ?_
  refine ev_aload_n dX6_weigh_23 rfl ?_
  refine ev_getS (q := 1) dX6_weigh_24 fo_6_18 (by omega) lo_84 rfl (sh_84_0 hX (by omega)) (by decide) ?_
  refine ev_getS (q := 23) dX6_weigh_27 fo_6_22 (by omega) lo_1 rfl (sh_1_1 hX (by omega)) (by decide) ?_
  refine ev_getI dX6_weigh_30 fo_6_36 (by omega) lo_23 rfl ?_
  refine ev_icmpT (tgt := 61) dX6_weigh_33 (by decide) c0 ?_
  refine ev_iload_n dX6_weigh_61 rfl ?_
  refine ev_aload_n dX6_weigh_62 rfl ?_
  refine ev_getI dX6_weigh_63 fo_6_79 (by omega) lo_84 rfl ?_
  refine ev_icmpF (tgt := 85) dX6_weigh_66 (by decide) c1 ?_
  refine ev_iload_n dX6_weigh_69 rfl ?_
  refine ev_aload_n dX6_weigh_70 rfl ?_
  refine ev_getI dX6_weigh_71 fo_6_79 (by omega) lo_84 rfl ?_
  refine ev_icmpT (tgt := 100) dX6_weigh_74 (by decide) c2 ?_
  exact ev_ret dX6_weigh_100 rfl hp
theorem bX6_weigh_21_4 {g : GG} {d n0 nf : Nat} {post : Option Value → LX → Prop} {n : Nat} {X : LX} (hn : 146 ≤ nf) (hX : Sh nf X) {v1 : Int32} {v2 : Int32} {v3 : Int32} {v4 : Int32} (c0 : X 23 0 ≤ v4) (c1 : X 84 6 < v2) (hp : post none (lx_up (lx_up (lx_up X 84 6 v2) 84 7 v3) 84 8 v1)) : Ev g mX6_weigh d n0 nf post nf 21 [some (.ref 84), some (.int v1), some (.int v2), some (.int v3), some (.int v4)] [] X := by
  refine ev_iload dX6_weigh_21 rfl ?_
  refine ev_aload_n dX6_weigh_23 rfl ?_
  refine ev_getS (q := 1) dX6_weigh_24 fo_6_18 (by omega) lo_84 rfl (sh_84_0 hX (by omega)) (by decide) ?_
  refine ev_getS (q := 23) dX6_weigh_27 fo_6_22 (by omega) lo_1 rfl (sh_1_1 hX (by omega)) (by decide) ?_
  refine ev_getI dX6_weigh_30 fo_6_36 (by omega) lo_23 rfl ?_
  refine ev_icmpT (tgt := 61) dX6_weigh_33 (by decide) c0 ?_
  refine ev_iload_n dX6_weigh_61 rfl ?_
  refine ev_aload_n dX6_weigh_62 rfl ?_
  refine ev_getI dX6_weigh_63 fo_6_79 (by omega) lo_84 rfl ?_
  refine ev_icmpT (tgt := 85) dX6_weigh_66 (by decide) c1 ?_
  refine ev_aload_n dX6_weigh_85 rfl ?_
  refine ev_iload_n dX6_weigh_86 rfl ?_
  refine ev_putI dX6_weigh_87 fo_6_79 (by omega) lo_84 rfl rfl rfl ?_
  have hX1 : Sh _ (lx_up X 84 6 v2) := Sh.upF hX (by rw [lo_84]; decide) (by decide)
  refine ev_aload_n dX6_weigh_90 rfl ?_
  refine ev_iload_n dX6_weigh_91 rfl ?_
  refine ev_putI dX6_weigh_92 fo_6_82 (by omega) lo_84 rfl rfl rfl ?_
  have hX2 : Sh _ (lx_up (lx_up X 84 6 v2) 84 7 v3) := Sh.upF hX1 (by rw [lo_84]; decide) (by decide)
  refine ev_aload_n dX6_weigh_95 rfl ?_
  refine ev_iload_n dX6_weigh_96 rfl ?_
  refine ev_putI dX6_weigh_97 fo_6_85 (by omega) lo_84 rfl rfl rfl ?_
  have hX3 : Sh _ (lx_up (lx_up (lx_up X 84 6 v2) 84 7 v3) 84 8 v1) := Sh.upF hX2 (by rw [lo_84]; decide) (by decide)
  exact ev_ret dX6_weigh_100 rfl hp
theorem bX6_weigh_42_0 {g : GG} {d n0 nf : Nat} {post : Option Value → LX → Prop} {n : Nat} {X : LX} (hn : 146 ≤ n) (hX : Sh n X) {v1 : Int32} {v2 : Int32} {v3 : Int32} {v4 : Nat} {s0 : Int32} (c0 : ¬ s0 = 0) (b0 : v4 < 10) (k : Ev g mX6_weigh d n0 nf post n 21 [some (.ref 84), some (.int v1), some (.int v2), some (.int (v3 + (X 86 v4))), some (.int ((nI v4) + 1))] [] X) : Ev g mX6_weigh d n0 nf post n 42 [some (.ref 84), some (.int v1), some (.int v2), some (.int v3), some (.int (nI v4))] [.int s0] X := by
  refine ev_ifF (tgt := 55) dX6_weigh_42 (by decide) c0 ?_
  refine ev_iload_n dX6_weigh_45 rfl ?_
  refine ev_aload_n dX6_weigh_46 rfl ?_
  refine ev_getS (q := 86) dX6_weigh_47 fo_6_15 (by omega) lo_84 rfl (sh_84_2 hX (by omega)) (by decide) ?_
  refine ev_iload dX6_weigh_50 rfl ?_
  refine ev_iald dX6_weigh_52 (by omega) ly_86 rfl b0 ?_
  refine ev_iadd dX6_weigh_53 ?_
  refine ev_istore_n dX6_weigh_54 (by decide) ?_
  refine ev_iinc (v := (nI v4) + 1) dX6_weigh_55 rfl (by rw [show Int32.ofInt 1 = 1 from ki_1]) (by decide) ?_
  refine ev_goto (tgt := 21) dX6_weigh_58 (by decide) ?_
  exact k
theorem bX6_weigh_42_1 {g : GG} {d n0 nf : Nat} {post : Option Value → LX → Prop} {n : Nat} {X : LX} (hn : 146 ≤ n) (hX : Sh n X) {v1 : Int32} {v2 : Int32} {v3 : Int32} {v4 : Nat} {s0 : Int32} (c0 : s0 = 0) (k : Ev g mX6_weigh d n0 nf post n 21 [some (.ref 84), some (.int v1), some (.int v2), some (.int v3), some (.int ((nI v4) + 1))] [] X) : Ev g mX6_weigh d n0 nf post n 42 [some (.ref 84), some (.int v1), some (.int v2), some (.int v3), some (.int (nI v4))] [.int s0] X := by
  refine ev_ifT (tgt := 55) dX6_weigh_42 (by decide) c0 ?_
  refine ev_iinc (v := (nI v4) + 1) dX6_weigh_55 rfl (by rw [show Int32.ofInt 1 = 1 from ki_1]) (by decide) ?_
  refine ev_goto (tgt := 21) dX6_weigh_58 (by decide) ?_
  exact k
theorem bX8_seek_0_0 {g : GG} {d n0 nf : Nat} {post : Option Value → LX → Prop} {n : Nat} {X : LX} (hn : 146 ≤ n) (hX : Sh n X) {v1 : Int32} (k : Ev g mX8_seek d n0 nf post n 1 [some (.ref 87), some (.int v1)] [.ref 87] X) : Ev g mX8_seek d n0 nf post n 0 [some (.ref 87), some (.int v1)] [] X := by
  refine ev_aload_n dX8_seek_0 rfl ?_
  exact k
theorem bX8_seek_4_0 {g : GG} {d n0 nf : Nat} {post : Option Value → LX → Prop} {n : Nat} {X : LX} (hn : 146 ≤ n) (hX : Sh n X) {v1 : Int32} (k : Ev g mX8_seek d n0 nf post n 5 [some (.ref 87), some (.int v1)] [.ref 87] X) : Ev g mX8_seek d n0 nf post n 4 [some (.ref 87), some (.int v1)] [] X := by
  refine ev_aload_n dX8_seek_4 rfl ?_
  exact k
theorem bX8_seek_8_0 {g : GG} {d n0 nf : Nat} {post : Option Value → LX → Prop} {n : Nat} {X : LX} (hn : 146 ≤ n) (hX : Sh n X) {v1 : Int32} (k : Ev g mX8_seek d n0 nf post n 37 [some (.ref 87), some (.int v1)] [.int 0, .int 0, .int 0, .ref 87] (lx_up (lx_up (lx_up (lx_up (lx_up X 87 12 v1) 87 13 0) 87 14 0) 87 16 0) 87 15 0)) : Ev g mX8_seek d n0 nf post n 8 [some (.ref 87), some (.int v1)] [] X := by
  refine ev_aload_n dX8_seek_8 rfl ?_
  refine ev_iload_n dX8_seek_9 rfl ?_
  refine ev_putI dX8_seek_10 fo_8_54 (by omega) lo_87 rfl rfl rfl ?_
  have hX1 : Sh _ (lx_up X 87 12 v1) := Sh.upF hX (by rw [lo_87]; decide) (by decide)
  refine ev_aload_n dX8_seek_13 rfl ?_
  refine ev_iconst (v := 0) dX8_seek_14 ki_0 ?_
  refine ev_putI dX8_seek_15 fo_8_58 (by omega) lo_87 rfl rfl rfl ?_
  have hX2 : Sh _ (lx_up (lx_up X 87 12 v1) 87 13 0) := Sh.upF hX1 (by rw [lo_87]; decide) (by decide)
  refine ev_aload_n dX8_seek_18 rfl ?_
  refine ev_iconst (v := 0) dX8_seek_19 ki_0 ?_
  refine ev_putZ dX8_seek_20 fo_8_61 (by omega) lo_87 rfl rfl rfl (by decide) ?_
  have hX3 : Sh _ (lx_up (lx_up (lx_up X 87 12 v1) 87 13 0) 87 14 0) := Sh.upF hX2 (by rw [lo_87]; decide) (by decide)
  refine ev_aload_n dX8_seek_23 rfl ?_
  refine ev_iconst (v := 0) dX8_seek_24 ki_0 ?_
  refine ev_putI dX8_seek_25 fo_8_65 (by omega) lo_87 rfl rfl rfl ?_
  have hX4 : Sh _ (lx_up (lx_up (lx_up (lx_up X 87 12 v1) 87 13 0) 87 14 0) 87 16 0) := Sh.upF hX3 (by rw [lo_87]; decide) (by decide)
  refine ev_aload_n dX8_seek_28 rfl ?_
  refine ev_iconst (v := 0) dX8_seek_29 ki_0 ?_
  refine ev_putI dX8_seek_30 fo_8_68 (by omega) lo_87 rfl rfl rfl ?_
  have hX5 : Sh _ (lx_up (lx_up (lx_up (lx_up (lx_up X 87 12 v1) 87 13 0) 87 14 0) 87 16 0) 87 15 0) := Sh.upF hX4 (by rw [lo_87]; decide) (by decide)
  refine ev_aload_n dX8_seek_33 rfl ?_
  refine ev_iconst (v := 0) dX8_seek_34 ki_0 ?_
  refine ev_iconst (v := 0) dX8_seek_35 ki_0 ?_
  refine ev_iconst (v := 0) dX8_seek_36 ki_0 ?_
  exact k
theorem bX8_seek_40_0 {g : GG} {d n0 nf : Nat} {post : Option Value → LX → Prop} {n : Nat} {X : LX} (hn : 146 ≤ nf) (hX : Sh nf X) {v1 : Int32} (c0 : ¬ X 87 13 ≤ X 87 12) (hp : post (some (.int (-1000000004))) X) : Ev g mX8_seek d n0 nf post nf 40 [some (.ref 87), some (.int v1)] [] X := by
  refine ev_aload_n dX8_seek_40 rfl ?_
  refine ev_getI dX8_seek_41 fo_8_58 (by omega) lo_87 rfl ?_
  refine ev_aload_n dX8_seek_44 rfl ?_
  refine ev_getI dX8_seek_45 fo_8_54 (by omega) lo_87 rfl ?_
  refine ev_icmpF (tgt := 54) dX8_seek_48 (by decide) c0 ?_
  refine ev_ldc (v := (-1000000004)) dX8_seek_51 kw_8_75 ?_
  exact ev_iret dX8_seek_53 rfl rfl hp
theorem bX8_seek_40_1 {g : GG} {d n0 nf : Nat} {post : Option Value → LX → Prop} {n : Nat} {X : LX} (hn : 146 ≤ nf) (hX : Sh nf X) {v1 : Int32} (c0 : X 87 13 ≤ X 87 12) (c1 : ¬ X 87 14 = 0) (hp : post (some (.int 0)) X) : Ev g mX8_seek d n0 nf post nf 40 [some (.ref 87), some (.int v1)] [] X := by
  refine ev_aload_n dX8_seek_40 rfl ?_
  refine ev_getI dX8_seek_41 fo_8_58 (by omega) lo_87 rfl ?_
  refine ev_aload_n dX8_seek_44 rfl ?_
  refine ev_getI dX8_seek_45 fo_8_54 (by omega) lo_87 rfl ?_
  refine ev_icmpT (tgt := 54) dX8_seek_48 (by decide) c0 ?_
  refine ev_aload_n dX8_seek_54 rfl ?_
  refine ev_getI dX8_seek_55 fo_8_61 (by omega) lo_87 rfl ?_
  refine ev_ifF (tgt := 65) dX8_seek_58 (by decide) c1 ?_
  refine ev_iconst (v := 0) dX8_seek_61 ki_0 ?_
  refine ev_goto (tgt := 67) dX8_seek_62 (by decide) ?_
  exact ev_iret dX8_seek_67 rfl rfl hp
theorem bX8_seek_40_2 {g : GG} {d n0 nf : Nat} {post : Option Value → LX → Prop} {n : Nat} {X : LX} (hn : 146 ≤ nf) (hX : Sh nf X) {v1 : Int32} (c0 : X 87 13 ≤ X 87 12) (c1 : X 87 14 = 0) (hp : post (some (.int (-1000000002))) X) : Ev g mX8_seek d n0 nf post nf 40 [some (.ref 87), some (.int v1)] [] X := by
  refine ev_aload_n dX8_seek_40 rfl ?_
  refine ev_getI dX8_seek_41 fo_8_58 (by omega) lo_87 rfl ?_
  refine ev_aload_n dX8_seek_44 rfl ?_
  refine ev_getI dX8_seek_45 fo_8_54 (by omega) lo_87 rfl ?_
  refine ev_icmpT (tgt := 54) dX8_seek_48 (by decide) c0 ?_
  refine ev_aload_n dX8_seek_54 rfl ?_
  refine ev_getI dX8_seek_55 fo_8_61 (by omega) lo_87 rfl ?_
  refine ev_ifT (tgt := 65) dX8_seek_58 (by decide) c1 ?_
  refine ev_ldc (v := (-1000000002)) dX8_seek_65 kw_8_76 ?_
  exact ev_iret dX8_seek_67 rfl rfl hp
theorem bX8_gatherNeeds_0_0 {g : GG} {d n0 nf : Nat} {post : Option Value → LX → Prop} {n : Nat} {X : LX} (hn : 146 ≤ n) (hX : Sh n X)  (k : Ev g mX8_gatherNeeds d n0 nf post n 7 [some (.ref 87), some (.int 0), none, none] [] (lx_up X 87 3 0)) : Ev g mX8_gatherNeeds d n0 nf post n 0 [some (.ref 87), none, none, none] [] X := by
  refine ev_aload_n dX8_gatherNeeds_0 rfl ?_
  refine ev_iconst (v := 0) dX8_gatherNeeds_1 ki_0 ?_
  refine ev_putI dX8_gatherNeeds_2 fo_8_77 (by omega) lo_87 rfl rfl rfl ?_
  have hX1 : Sh _ (lx_up X 87 3 0) := Sh.upF hX (by rw [lo_87]; decide) (by decide)
  refine ev_iconst (v := 0) dX8_gatherNeeds_5 ki_0 ?_
  refine ev_istore_n dX8_gatherNeeds_6 (by decide) ?_
  exact k
theorem bX8_gatherNeeds_7_0 {g : GG} {d n0 nf : Nat} {post : Option Value → LX → Prop} {n : Nat} {X : LX} (hn : 146 ≤ n) (hX : Sh n X) {v1 : Int32} (c0 : ¬ X 2 0 ≤ v1) (k : Ev g mX8_gatherNeeds d n0 nf post n 34 [some (.ref 87), some (.int v1), none, none] [.int v1, .ref 69, .int v1, .ref 101] X) : Ev g mX8_gatherNeeds d n0 nf post n 7 [some (.ref 87), some (.int v1), none, none] [] X := by
  refine ev_iload_n dX8_gatherNeeds_7 rfl ?_
  refine ev_aload_n dX8_gatherNeeds_8 rfl ?_
  refine ev_getS (q := 1) dX8_gatherNeeds_9 fo_8_44 (by omega) lo_87 rfl (sh_87_0 hX (by omega)) (by decide) ?_
  refine ev_getS (q := 2) dX8_gatherNeeds_12 fo_8_80 (by omega) lo_1 rfl (sh_1_0 hX (by omega)) (by decide) ?_
  refine ev_getI dX8_gatherNeeds_15 fo_8_86 (by omega) lo_2 rfl ?_
  refine ev_icmpF (tgt := 44) dX8_gatherNeeds_18 (by decide) c0 ?_
  refine ev_aload_n dX8_gatherNeeds_21 rfl ?_
  refine ev_getS (q := 101) dX8_gatherNeeds_22 fo_8_16 (by omega) lo_87 rfl (sh_87_2 hX (by omega)) (by decide) ?_
  refine ev_iload_n dX8_gatherNeeds_25 rfl ?_
  refine ev_aload_n dX8_gatherNeeds_26 rfl ?_
  refine ev_getS (q := 1) dX8_gatherNeeds_27 fo_8_44 (by omega) lo_87 rfl (sh_87_0 hX (by omega)) (by decide) ?_
  refine ev_getS (q := 69) dX8_gatherNeeds_30 fo_8_91 (by omega) lo_1 rfl (sh_1_3 hX (by omega)) (by decide) ?_
  refine ev_iload_n dX8_gatherNeeds_33 rfl ?_
  exact k
theorem bX8_gatherNeeds_7_1 {g : GG} {d n0 nf : Nat} {post : Option Value → LX → Prop} {n : Nat} {X : LX} (hn : 146 ≤ n) (hX : Sh n X) {v1 : Int32} (c0 : X 2 0 ≤ v1) (k : Ev g mX8_gatherNeeds d n0 nf post n 46 [some (.ref 87), some (.int 0), none, none] [] X) : Ev g mX8_gatherNeeds d n0 nf post n 7 [some (.ref 87), some (.int v1), none, none] [] X := by
  refine ev_iload_n dX8_gatherNeeds_7 rfl ?_
  refine ev_aload_n dX8_gatherNeeds_8 rfl ?_
  refine ev_getS (q := 1) dX8_gatherNeeds_9 fo_8_44 (by omega) lo_87 rfl (sh_87_0 hX (by omega)) (by decide) ?_
  refine ev_getS (q := 2) dX8_gatherNeeds_12 fo_8_80 (by omega) lo_1 rfl (sh_1_0 hX (by omega)) (by decide) ?_
  refine ev_getI dX8_gatherNeeds_15 fo_8_86 (by omega) lo_2 rfl ?_
  refine ev_icmpT (tgt := 44) dX8_gatherNeeds_18 (by decide) c0 ?_
  refine ev_iconst (v := 0) dX8_gatherNeeds_44 ki_0 ?_
  refine ev_istore_n dX8_gatherNeeds_45 (by decide) ?_
  exact k
theorem bX8_gatherNeeds_37_0 {g : GG} {d n0 nf : Nat} {post : Option Value → LX → Prop} {n : Nat} {X : LX} (hn : 146 ≤ n) (hX : Sh n X) {v1 : Int32} {s1 : Nat} {s2 : Int32} (b0 : s1 < 14) (k : Ev g mX8_gatherNeeds d n0 nf post n 7 [some (.ref 87), some (.int (v1 + 1)), none, none] [] (lx_up X 101 s1 s2)) : Ev g mX8_gatherNeeds d n0 nf post n 37 [some (.ref 87), some (.int v1), none, none] [.int s2, .int (nI s1), .ref 101] X := by
  refine ev_iast dX8_gatherNeeds_37 (by omega) ly_101 rfl b0 ?_
  have hX1 : Sh _ (lx_up X 101 s1 s2) := Sh.upA hX (by rw [ly_101]; exact (by decide : 0 < 2))
  refine ev_iinc (v := v1 + 1) dX8_gatherNeeds_38 rfl (by rw [show Int32.ofInt 1 = 1 from ki_1]) (by decide) ?_
  refine ev_goto (tgt := 7) dX8_gatherNeeds_41 (by decide) ?_
  exact k
theorem bX8_gatherNeeds_46_0 {g : GG} {d n0 nf : Nat} {post : Option Value → LX → Prop} {n : Nat} {X : LX} (hn : 146 ≤ n) (hX : Sh n X) {v1 : Int32} (c0 : ¬ X 37 0 ≤ v1) (k : Ev g mX8_gatherNeeds d n0 nf post n 65 [some (.ref 87), some (.int v1), none, none] [.int v1, .ref 1] X) : Ev g mX8_gatherNeeds d n0 nf post n 46 [some (.ref 87), some (.int v1), none, none] [] X := by
  refine ev_iload_n dX8_gatherNeeds_46 rfl ?_
  refine ev_aload_n dX8_gatherNeeds_47 rfl ?_
  refine ev_getS (q := 1) dX8_gatherNeeds_48 fo_8_44 (by omega) lo_87 rfl (sh_87_0 hX (by omega)) (by decide) ?_
  refine ev_getS (q := 37) dX8_gatherNeeds_51 fo_8_101 (by omega) lo_1 rfl (sh_1_2 hX (by omega)) (by decide) ?_
  refine ev_getI dX8_gatherNeeds_54 fo_8_105 (by omega) lo_37 rfl ?_
  refine ev_icmpF (tgt := 132) dX8_gatherNeeds_57 (by decide) c0 ?_
  refine ev_aload_n dX8_gatherNeeds_60 rfl ?_
  refine ev_getS (q := 1) dX8_gatherNeeds_61 fo_8_44 (by omega) lo_87 rfl (sh_87_0 hX (by omega)) (by decide) ?_
  refine ev_iload_n dX8_gatherNeeds_64 rfl ?_
  exact k
theorem bX8_gatherNeeds_46_1 {g : GG} {d n0 nf : Nat} {post : Option Value → LX → Prop} {n : Nat} {X : LX} (hn : 146 ≤ n) (hX : Sh n X) {v1 : Int32} (c0 : X 37 0 ≤ v1) (k : Ev g mX8_gatherNeeds d n0 nf post n 134 [some (.ref 87), some (.int 0), none, none] [] X) : Ev g mX8_gatherNeeds d n0 nf post n 46 [some (.ref 87), some (.int v1), none, none] [] X := by
  refine ev_iload_n dX8_gatherNeeds_46 rfl ?_
  refine ev_aload_n dX8_gatherNeeds_47 rfl ?_
  refine ev_getS (q := 1) dX8_gatherNeeds_48 fo_8_44 (by omega) lo_87 rfl (sh_87_0 hX (by omega)) (by decide) ?_
  refine ev_getS (q := 37) dX8_gatherNeeds_51 fo_8_101 (by omega) lo_1 rfl (sh_1_2 hX (by omega)) (by decide) ?_
  refine ev_getI dX8_gatherNeeds_54 fo_8_105 (by omega) lo_37 rfl ?_
  refine ev_icmpT (tgt := 132) dX8_gatherNeeds_57 (by decide) c0 ?_
  refine ev_iconst (v := 0) dX8_gatherNeeds_132 ki_0 ?_
  refine ev_istore_n dX8_gatherNeeds_133 (by decide) ?_
  exact k
theorem bX8_gatherNeeds_68_0 {g : GG} {d n0 nf : Nat} {post : Option Value → LX → Prop} {n : Nat} {X : LX} (hn : 146 ≤ n) (hX : Sh n X) {v1 : Int32} {s0 : Int32} (k : Ev g mX8_gatherNeeds d n0 nf post n 71 [some (.ref 87), some (.int v1), some (.int s0), some (.int 0)] [] X) : Ev g mX8_gatherNeeds d n0 nf post n 68 [some (.ref 87), some (.int v1), none, none] [.int s0] X := by
  refine ev_istore_n dX8_gatherNeeds_68 (by decide) ?_
  refine ev_iconst (v := 0) dX8_gatherNeeds_69 ki_0 ?_
  refine ev_istore_n dX8_gatherNeeds_70 (by decide) ?_
  exact k
theorem bX8_gatherNeeds_71_0 {g : GG} {d n0 nf : Nat} {post : Option Value → LX → Prop} {n : Nat} {X : LX} (hn : 146 ≤ n) (hX : Sh n X) {v1 : Nat} {v2 : Int32} {v3 : Int32} (c0 : ¬ X 2 0 ≤ v3) (b0 : v1 < 12) (k : Ev g mX8_gatherNeeds d n0 nf post n 99 [some (.ref 87), some (.int (nI v1)), some (.int v2), some (.int v3)] [.int v3, .int v2, .int (nI v1), .ref 1, .int v3, .ref (88 + 1 + v1)] X) : Ev g mX8_gatherNeeds d n0 nf post n 71 [some (.ref 87), some (.int (nI v1)), some (.int v2), some (.int v3)] [] X := by
  refine ev_iload_n dX8_gatherNeeds_71 rfl ?_
  refine ev_aload_n dX8_gatherNeeds_72 rfl ?_
  refine ev_getS (q := 1) dX8_gatherNeeds_73 fo_8_44 (by omega) lo_87 rfl (sh_87_0 hX (by omega)) (by decide) ?_
  refine ev_getS (q := 2) dX8_gatherNeeds_76 fo_8_80 (by omega) lo_1 rfl (sh_1_0 hX (by omega)) (by decide) ?_
  refine ev_getI dX8_gatherNeeds_79 fo_8_86 (by omega) lo_2 rfl ?_
  refine ev_icmpF (tgt := 126) dX8_gatherNeeds_82 (by decide) c0 ?_
  refine ev_aload_n dX8_gatherNeeds_85 rfl ?_
  refine ev_getS (q := 88) dX8_gatherNeeds_86 fo_8_11 (by omega) lo_87 rfl (sh_87_1 hX (by omega)) (by decide) ?_
  refine ev_iload_n dX8_gatherNeeds_89 rfl ?_
  refine ev_aald (q := 88 + 1 + v1) dX8_gatherNeeds_90 (by omega) (Or.inl ly_88) rfl b0 (hX.2 88 v1 (by omega) (Or.inl (by rw [ly_88])) (by rw [ly_88]; exact b0)) (by first | omega | (have := LY_l ly_88; have := LY_lt (show (LY 88).1 < 99 by rw [ly_88]; exact (by decide : 2 < 99)); omega)) ?_
  refine ev_iload_n dX8_gatherNeeds_91 rfl ?_
  refine ev_aload_n dX8_gatherNeeds_92 rfl ?_
  refine ev_getS (q := 1) dX8_gatherNeeds_93 fo_8_44 (by omega) lo_87 rfl (sh_87_0 hX (by omega)) (by decide) ?_
  refine ev_iload_n dX8_gatherNeeds_96 rfl ?_
  refine ev_iload_n dX8_gatherNeeds_97 rfl ?_
  refine ev_iload_n dX8_gatherNeeds_98 rfl ?_
  exact k
theorem bX8_gatherNeeds_71_1 {g : GG} {d n0 nf : Nat} {post : Option Value → LX → Prop} {n : Nat} {X : LX} (hn : 146 ≤ n) (hX : Sh n X) {v1 : Nat} {v2 : Int32} {v3 : Int32} (c0 : X 2 0 ≤ v3) (k : Ev g mX8_gatherNeeds d n0 nf post n 46 [some (.ref 87), some (.int ((nI v1) + 1)), some (.int v2), some (.int v3)] [] X) : Ev g mX8_gatherNeeds d n0 nf post n 71 [some (.ref 87), some (.int (nI v1)), some (.int v2), some (.int v3)] [] X := by
  refine ev_iload_n dX8_gatherNeeds_71 rfl ?_
  refine ev_aload_n dX8_gatherNeeds_72 rfl ?_
  refine ev_getS (q := 1) dX8_gatherNeeds_73 fo_8_44 (by omega) lo_87 rfl (sh_87_0 hX (by omega)) (by decide) ?_
  refine ev_getS (q := 2) dX8_gatherNeeds_76 fo_8_80 (by omega) lo_1 rfl (sh_1_0 hX (by omega)) (by decide) ?_
  refine ev_getI dX8_gatherNeeds_79 fo_8_86 (by omega) lo_2 rfl ?_
  refine ev_icmpT (tgt := 126) dX8_gatherNeeds_82 (by decide) c0 ?_
  refine ev_iinc (v := (nI v1) + 1) dX8_gatherNeeds_126 rfl (by rw [show Int32.ofInt 1 = 1 from ki_1]) (by decide) ?_
  refine ev_goto (tgt := 46) dX8_gatherNeeds_129 (by decide) ?_
  exact k
theorem bX8_gatherNeeds_102_0 {g : GG} {d n0 nf : Nat} {post : Option Value → LX → Prop} {n : Nat} {X : LX} (hn : 146 ≤ n) (hX : Sh n X) {v1 : Nat} {v2 : Int32} {v3 : Nat} {ws0 : Nat} {s1 : Nat} {s2 : Int32} (bws0 : ws0 < 12) (b0 : s1 < 14) (b1 : v3 < 14) (b2 : v1 < 12) (b3 : v3 < 14) (b4 : v3 < 14) (k : Ev g mX8_gatherNeeds d n0 nf post n 71 [some (.ref 87), some (.int (nI v1)), some (.int v2), some (.int ((nI v3) + 1))] [] (lx_up (lx_up X (88 + 1 + ws0) s1 s2) 101 v3 (((lx_up X (88 + 1 + ws0) s1 s2) 101 v3) - ((lx_up X (88 + 1 + ws0) s1 s2) (88 + 1 + v1) v3)))) : Ev g mX8_gatherNeeds d n0 nf post n 102 [some (.ref 87), some (.int (nI v1)), some (.int v2), some (.int (nI v3))] [.int s2, .int (nI s1), .ref (88 + 1 + ws0)] X := by
  refine ev_iast dX8_gatherNeeds_102 (by have := bws0; omega) (lyr_88 _ bws0) rfl b0 ?_
  have hX1 : Sh _ (lx_up X (88 + 1 + ws0) s1 s2) := Sh.upA hX (by rw [(lyr_88 _ bws0)]; exact (by decide : 0 < 2))
  refine ev_aload_n dX8_gatherNeeds_103 rfl ?_
  refine ev_getS (q := 101) dX8_gatherNeeds_104 fo_8_16 (by omega) lo_87 rfl (sh_87_2 hX1 (by omega)) (by decide) ?_
  refine ev_iload_n dX8_gatherNeeds_107 rfl ?_
  refine ev_dup2 dX8_gatherNeeds_108 rfl rfl ?_
  refine ev_iald dX8_gatherNeeds_109 (by omega) ly_101 rfl b1 ?_
  refine ev_aload_n dX8_gatherNeeds_110 rfl ?_
  refine ev_getS (q := 88) dX8_gatherNeeds_111 fo_8_11 (by omega) lo_87 rfl (sh_87_1 hX1 (by omega)) (by decide) ?_
  refine ev_iload_n dX8_gatherNeeds_114 rfl ?_
  refine ev_aald (q := 88 + 1 + v1) dX8_gatherNeeds_115 (by omega) (Or.inl ly_88) rfl b2 (hX1.2 88 v1 (by omega) (Or.inl (by rw [ly_88])) (by rw [ly_88]; exact b2)) (by first | omega | (have := LY_l ly_88; have := LY_lt (show (LY 88).1 < 99 by rw [ly_88]; exact (by decide : 2 < 99)); omega)) ?_
  refine ev_iload_n dX8_gatherNeeds_116 rfl ?_
  refine ev_iald dX8_gatherNeeds_117 (by have := b2; omega) (lyr_88 _ b2) rfl b3 ?_
  refine ev_isub dX8_gatherNeeds_118 ?_
  refine ev_iast dX8_gatherNeeds_119 (by omega) ly_101 rfl b4 ?_
  have hX2 : Sh _ (lx_up (lx_up X (88 + 1 + ws0) s1 s2) 101 v3 (((lx_up X (88 + 1 + ws0) s1 s2) 101 v3) - ((lx_up X (88 + 1 + ws0) s1 s2) (88 + 1 + v1) v3))) := Sh.upA hX1 (by rw [ly_101]; exact (by decide : 0 < 2))
  refine ev_iinc (v := (nI v3) + 1) dX8_gatherNeeds_120 rfl (by rw [show Int32.ofInt 1 = 1 from ki_1]) (by decide) ?_
  refine ev_goto (tgt := 71) dX8_gatherNeeds_123 (by decide) ?_
  exact k
theorem bX8_gatherNeeds_134_0 {g : GG} {d n0 nf : Nat} {post : Option Value → LX → Prop} {n : Nat} {X : LX} (hn : 146 ≤ n) (hX : Sh n X) {v1 : Nat} (c0 : ¬ X 2 0 ≤ nI v1) (b0 : v1 < 14) (c1 : ¬ 0 ≤ X 101 v1) (k : Ev g mX8_gatherNeeds d n0 nf post n 134 [some (.ref 87), some (.int ((nI v1) + 1)), none, none] [] (lx_up X 87 3 ((X 87 3) + 1))) : Ev g mX8_gatherNeeds d n0 nf post n 134 [some (.ref 87), some (.int (nI v1)), none, none] [] X := by
  refine ev_iload_n dX8_gatherNeeds_134 rfl ?_
  refine ev_aload_n dX8_gatherNeeds_135 rfl ?_
  refine ev_getS (q := 1) dX8_gatherNeeds_136 fo_8_44 (by omega) lo_87 rfl (sh_87_0 hX (by omega)) (by decide) ?_
  refine ev_getS (q := 2) dX8_gatherNeeds_139 fo_8_80 (by omega) lo_1 rfl (sh_1_0 hX (by omega)) (by decide) ?_
  refine ev_getI dX8_gatherNeeds_142 fo_8_86 (by omega) lo_2 rfl ?_
  refine ev_icmpF (tgt := 173) dX8_gatherNeeds_145 (by decide) c0 ?_
  refine ev_aload_n dX8_gatherNeeds_148 rfl ?_
  refine ev_getS (q := 101) dX8_gatherNeeds_149 fo_8_16 (by omega) lo_87 rfl (sh_87_2 hX (by omega)) (by decide) ?_
  refine ev_iload_n dX8_gatherNeeds_152 rfl ?_
  refine ev_iald dX8_gatherNeeds_153 (by omega) ly_101 rfl b0 ?_
  refine ev_ifF (tgt := 167) dX8_gatherNeeds_154 (by decide) c1 ?_
  refine ev_aload_n dX8_gatherNeeds_157 rfl ?_
  refine ev_dup dX8_gatherNeeds_158 rfl ?_
  refine ev_getI dX8_gatherNeeds_159 fo_8_77 (by omega) lo_87 rfl ?_
  refine ev_iconst (v := 1) dX8_gatherNeeds_162 ki_1 ?_
  refine ev_iadd dX8_gatherNeeds_163 ?_
  refine ev_putI dX8_gatherNeeds_164 fo_8_77 (by omega) lo_87 rfl rfl rfl ?_
  have hX1 : Sh _ (lx_up X 87 3 ((X 87 3) + 1)) := Sh.upF hX (by rw [lo_87]; decide) (by decide)
  refine ev_iinc (v := (nI v1) + 1) dX8_gatherNeeds_167 rfl (by rw [show Int32.ofInt 1 = 1 from ki_1]) (by decide) ?_
  refine ev_goto (tgt := 134) dX8_gatherNeeds_170 (by decide) ?_
  exact k
theorem bX8_gatherNeeds_134_1 {g : GG} {d n0 nf : Nat} {post : Option Value → LX → Prop} {n : Nat} {X : LX} (hn : 146 ≤ n) (hX : Sh n X) {v1 : Nat} (c0 : ¬ X 2 0 ≤ nI v1) (b0 : v1 < 14) (c1 : 0 ≤ X 101 v1) (k : Ev g mX8_gatherNeeds d n0 nf post n 134 [some (.ref 87), some (.int ((nI v1) + 1)), none, none] [] X) : Ev g mX8_gatherNeeds d n0 nf post n 134 [some (.ref 87), some (.int (nI v1)), none, none] [] X := by
  refine ev_iload_n dX8_gatherNeeds_134 rfl ?_
  refine ev_aload_n dX8_gatherNeeds_135 rfl ?_
  refine ev_getS (q := 1) dX8_gatherNeeds_136 fo_8_44 (by omega) lo_87 rfl (sh_87_0 hX (by omega)) (by decide) ?_
  refine ev_getS (q := 2) dX8_gatherNeeds_139 fo_8_80 (by omega) lo_1 rfl (sh_1_0 hX (by omega)) (by decide) ?_
  refine ev_getI dX8_gatherNeeds_142 fo_8_86 (by omega) lo_2 rfl ?_
  refine ev_icmpF (tgt := 173) dX8_gatherNeeds_145 (by decide) c0 ?_
  refine ev_aload_n dX8_gatherNeeds_148 rfl ?_
  refine ev_getS (q := 101) dX8_gatherNeeds_149 fo_8_16 (by omega) lo_87 rfl (sh_87_2 hX (by omega)) (by decide) ?_
  refine ev_iload_n dX8_gatherNeeds_152 rfl ?_
  refine ev_iald dX8_gatherNeeds_153 (by omega) ly_101 rfl b0 ?_
  refine ev_ifT (tgt := 167) dX8_gatherNeeds_154 (by decide) c1 ?_
  refine ev_iinc (v := (nI v1) + 1) dX8_gatherNeeds_167 rfl (by rw [show Int32.ofInt 1 = 1 from ki_1]) (by decide) ?_
  refine ev_goto (tgt := 134) dX8_gatherNeeds_170 (by decide) ?_
  exact k
theorem bX8_gatherNeeds_134_2 {g : GG} {d n0 nf : Nat} {post : Option Value → LX → Prop} {n : Nat} {X : LX} (hn : 146 ≤ nf) (hX : Sh nf X) {v1 : Nat} (c0 : X 2 0 ≤ nI v1) (hp : post none X) : Ev g mX8_gatherNeeds d n0 nf post nf 134 [some (.ref 87), some (.int (nI v1)), none, none] [] X := by
  refine ev_iload_n dX8_gatherNeeds_134 rfl ?_
  refine ev_aload_n dX8_gatherNeeds_135 rfl ?_
  refine ev_getS (q := 1) dX8_gatherNeeds_136 fo_8_44 (by omega) lo_87 rfl (sh_87_0 hX (by omega)) (by decide) ?_
  refine ev_getS (q := 2) dX8_gatherNeeds_139 fo_8_80 (by omega) lo_1 rfl (sh_1_0 hX (by omega)) (by decide) ?_
  refine ev_getI dX8_gatherNeeds_142 fo_8_86 (by omega) lo_2 rfl ?_
  refine ev_icmpT (tgt := 173) dX8_gatherNeeds_145 (by decide) c0 ?_
  exact ev_ret dX8_gatherNeeds_173 rfl hp
theorem bX8_gatherSwaps_0_0 {g : GG} {d n0 nf : Nat} {post : Option Value → LX → Prop} {n : Nat} {X : LX} (hn : 146 ≤ n) (hX : Sh n X)  (k : Ev g mX8_gatherSwaps d n0 nf post n 14 [some (.ref 87), some (.int 0), none] [] (lx_up (lx_up X 87 9 0) 102 0 0)) : Ev g mX8_gatherSwaps d n0 nf post n 0 [some (.ref 87), none, none] [] X := by
  refine ev_aload_n dX8_gatherSwaps_0 rfl ?_
  refine ev_iconst (v := 0) dX8_gatherSwaps_1 ki_0 ?_
  refine ev_putI dX8_gatherSwaps_2 fo_8_115 (by omega) lo_87 rfl rfl rfl ?_
  have hX1 : Sh _ (lx_up X 87 9 0) := Sh.upF hX (by rw [lo_87]; decide) (by decide)
  refine ev_aload_n dX8_gatherSwaps_5 rfl ?_
  refine ev_getS (q := 102) dX8_gatherSwaps_6 fo_8_20 (by omega) lo_87 rfl (sh_87_4 hX1 (by omega)) (by decide) ?_
  refine ev_iconst (v := 0) dX8_gatherSwaps_9 ki_0 ?_
  refine ev_iconst (v := 0) dX8_gatherSwaps_10 ki_0 ?_
  refine ev_iast dX8_gatherSwaps_11 (by omega) ly_102 nIl_0 (by decide) ?_
  have hX2 : Sh _ (lx_up (lx_up X 87 9 0) 102 0 0) := Sh.upA hX1 (by rw [ly_102]; exact (by decide : 0 < 2))
  refine ev_iconst (v := 0) dX8_gatherSwaps_12 ki_0 ?_
  refine ev_istore_n dX8_gatherSwaps_13 (by decide) ?_
  exact k
theorem bX8_gatherSwaps_14_0 {g : GG} {d n0 nf : Nat} {post : Option Value → LX → Prop} {n : Nat} {X : LX} (hn : 146 ≤ n) (hX : Sh n X) {v1 : Int32} (c0 : ¬ X 37 0 ≤ v1) (k : Ev g mX8_gatherSwaps d n0 nf post n 30 [some (.ref 87), some (.int v1), some (.int 0)] [] X) : Ev g mX8_gatherSwaps d n0 nf post n 14 [some (.ref 87), some (.int v1), none] [] X := by
  refine ev_iload_n dX8_gatherSwaps_14 rfl ?_
  refine ev_aload_n dX8_gatherSwaps_15 rfl ?_
  refine ev_getS (q := 1) dX8_gatherSwaps_16 fo_8_44 (by omega) lo_87 rfl (sh_87_0 hX (by omega)) (by decide) ?_
  refine ev_getS (q := 37) dX8_gatherSwaps_19 fo_8_101 (by omega) lo_1 rfl (sh_1_2 hX (by omega)) (by decide) ?_
  refine ev_getI dX8_gatherSwaps_22 fo_8_105 (by omega) lo_37 rfl ?_
  refine ev_icmpF (tgt := 85) dX8_gatherSwaps_25 (by decide) c0 ?_
  refine ev_iconst (v := 0) dX8_gatherSwaps_28 ki_0 ?_
  refine ev_istore_n dX8_gatherSwaps_29 (by decide) ?_
  exact k
theorem bX8_gatherSwaps_14_1 {g : GG} {d n0 nf : Nat} {post : Option Value → LX → Prop} {n : Nat} {X : LX} (hn : 146 ≤ nf) (hX : Sh nf X) {v1 : Int32} (c0 : X 37 0 ≤ v1) (hp : post none X) : Ev g mX8_gatherSwaps d n0 nf post nf 14 [some (.ref 87), some (.int v1), none] [] X := by
  refine ev_iload_n dX8_gatherSwaps_14 rfl ?_
  refine ev_aload_n dX8_gatherSwaps_15 rfl ?_
  refine ev_getS (q := 1) dX8_gatherSwaps_16 fo_8_44 (by omega) lo_87 rfl (sh_87_0 hX (by omega)) (by decide) ?_
  refine ev_getS (q := 37) dX8_gatherSwaps_19 fo_8_101 (by omega) lo_1 rfl (sh_1_2 hX (by omega)) (by decide) ?_
  refine ev_getI dX8_gatherSwaps_22 fo_8_105 (by omega) lo_37 rfl ?_
  refine ev_icmpT (tgt := 85) dX8_gatherSwaps_25 (by decide) c0 ?_
  exact ev_ret dX8_gatherSwaps_85 rfl hp
theorem bX8_gatherSwaps_30_0 {g : GG} {d n0 nf : Nat} {post : Option Value → LX → Prop} {n : Nat} {X : LX} (hn : 146 ≤ n) (hX : Sh n X) {v1 : Nat} {v2 : Nat} (c0 : ¬ X 2 0 ≤ nI v2) (b0 : v1 < 12) (b1 : v2 < 14) (c1 : ¬ X (88 + 1 + v1) v2 ≤ 0) (k : Ev g mX8_gatherSwaps d n0 nf post n 58 [some (.ref 87), some (.int (nI v1)), some (.int (nI v2))] [.int (nI v2), .int (nI v1), .ref 87] X) : Ev g mX8_gatherSwaps d n0 nf post n 30 [some (.ref 87), some (.int (nI v1)), some (.int (nI v2))] [] X := by
  refine ev_iload_n dX8_gatherSwaps_30 rfl ?_
  refine ev_aload_n dX8_gatherSwaps_31 rfl ?_
  refine ev_getS (q := 1) dX8_gatherSwaps_32 fo_8_44 (by omega) lo_87 rfl (sh_87_0 hX (by omega)) (by decide) ?_
  refine ev_getS (q := 2) dX8_gatherSwaps_35 fo_8_80 (by omega) lo_1 rfl (sh_1_0 hX (by omega)) (by decide) ?_
  refine ev_getI dX8_gatherSwaps_38 fo_8_86 (by omega) lo_2 rfl ?_
  refine ev_icmpF (tgt := 67) dX8_gatherSwaps_41 (by decide) c0 ?_
  refine ev_aload_n dX8_gatherSwaps_44 rfl ?_
  refine ev_getS (q := 88) dX8_gatherSwaps_45 fo_8_11 (by omega) lo_87 rfl (sh_87_1 hX (by omega)) (by decide) ?_
  refine ev_iload_n dX8_gatherSwaps_48 rfl ?_
  refine ev_aald (q := 88 + 1 + v1) dX8_gatherSwaps_49 (by omega) (Or.inl ly_88) rfl b0 (hX.2 88 v1 (by omega) (Or.inl (by rw [ly_88])) (by rw [ly_88]; exact b0)) (by first | omega | (have := LY_l ly_88; have := LY_lt (show (LY 88).1 < 99 by rw [ly_88]; exact (by decide : 2 < 99)); omega)) ?_
  refine ev_iload_n dX8_gatherSwaps_50 rfl ?_
  refine ev_iald dX8_gatherSwaps_51 (by have := b0; omega) (lyr_88 _ b0) rfl b1 ?_
  refine ev_ifF (tgt := 61) dX8_gatherSwaps_52 (by decide) c1 ?_
  refine ev_aload_n dX8_gatherSwaps_55 rfl ?_
  refine ev_iload_n dX8_gatherSwaps_56 rfl ?_
  refine ev_iload_n dX8_gatherSwaps_57 rfl ?_
  exact k
theorem bX8_gatherSwaps_30_1 {g : GG} {d n0 nf : Nat} {post : Option Value → LX → Prop} {n : Nat} {X : LX} (hn : 146 ≤ n) (hX : Sh n X) {v1 : Nat} {v2 : Nat} (c0 : ¬ X 2 0 ≤ nI v2) (b0 : v1 < 12) (b1 : v2 < 14) (c1 : X (88 + 1 + v1) v2 ≤ 0) (k : Ev g mX8_gatherSwaps d n0 nf post n 30 [some (.ref 87), some (.int (nI v1)), some (.int ((nI v2) + 1))] [] X) : Ev g mX8_gatherSwaps d n0 nf post n 30 [some (.ref 87), some (.int (nI v1)), some (.int (nI v2))] [] X := by
  refine ev_iload_n dX8_gatherSwaps_30 rfl ?_
  refine ev_aload_n dX8_gatherSwaps_31 rfl ?_
  refine ev_getS (q := 1) dX8_gatherSwaps_32 fo_8_44 (by omega) lo_87 rfl (sh_87_0 hX (by omega)) (by decide) ?_
  refine ev_getS (q := 2) dX8_gatherSwaps_35 fo_8_80 (by omega) lo_1 rfl (sh_1_0 hX (by omega)) (by decide) ?_
  refine ev_getI dX8_gatherSwaps_38 fo_8_86 (by omega) lo_2 rfl ?_
  refine ev_icmpF (tgt := 67) dX8_gatherSwaps_41 (by decide) c0 ?_
  refine ev_aload_n dX8_gatherSwaps_44 rfl ?_
  refine ev_getS (q := 88) dX8_gatherSwaps_45 fo_8_11 (by omega) lo_87 rfl (sh_87_1 hX (by omega)) (by decide) ?_
  refine ev_iload_n dX8_gatherSwaps_48 rfl ?_
  refine ev_aald (q := 88 + 1 + v1) dX8_gatherSwaps_49 (by omega) (Or.inl ly_88) rfl b0 (hX.2 88 v1 (by omega) (Or.inl (by rw [ly_88])) (by rw [ly_88]; exact b0)) (by first | omega | (have := LY_l ly_88; have := LY_lt (show (LY 88).1 < 99 by rw [ly_88]; exact (by decide : 2 < 99)); omega)) ?_
  refine ev_iload_n dX8_gatherSwaps_50 rfl ?_
  refine ev_iald dX8_gatherSwaps_51 (by have := b0; omega) (lyr_88 _ b0) rfl b1 ?_
  refine ev_ifT (tgt := 61) dX8_gatherSwaps_52 (by decide) c1 ?_
  refine ev_iinc (v := (nI v2) + 1) dX8_gatherSwaps_61 rfl (by rw [show Int32.ofInt 1 = 1 from ki_1]) (by decide) ?_
  refine ev_goto (tgt := 30) dX8_gatherSwaps_64 (by decide) ?_
  exact k
theorem bX8_gatherSwaps_30_2 {g : GG} {d n0 nf : Nat} {post : Option Value → LX → Prop} {n : Nat} {X : LX} (hn : 146 ≤ n) (hX : Sh n X) {v1 : Nat} {v2 : Nat} {j1 : Nat} (c0 : X 2 0 ≤ nI v2) (hj1 : (nI v1) + 1 = nI j1) (b0 : j1 < 13) (k : Ev g mX8_gatherSwaps d n0 nf post n 14 [some (.ref 87), some (.int ((nI v1) + 1)), some (.int (nI v2))] [] (lx_up X 102 j1 (X 87 9))) : Ev g mX8_gatherSwaps d n0 nf post n 30 [some (.ref 87), some (.int (nI v1)), some (.int (nI v2))] [] X := by
  refine ev_iload_n dX8_gatherSwaps_30 rfl ?_
  refine ev_aload_n dX8_gatherSwaps_31 rfl ?_
  refine ev_getS (q := 1) dX8_gatherSwaps_32 fo_8_44 (by omega) lo_87 rfl (sh_87_0 hX (by omega)) (by decide) ?_
  refine ev_getS (q := 2) dX8_gatherSwaps_35 fo_8_80 (by omega) lo_1 rfl (sh_1_0 hX (by omega)) (by decide) ?_
  refine ev_getI dX8_gatherSwaps_38 fo_8_86 (by omega) lo_2 rfl ?_
  refine ev_icmpT (tgt := 67) dX8_gatherSwaps_41 (by decide) c0 ?_
  refine ev_aload_n dX8_gatherSwaps_67 rfl ?_
  refine ev_getS (q := 102) dX8_gatherSwaps_68 fo_8_20 (by omega) lo_87 rfl (sh_87_4 hX (by omega)) (by decide) ?_
  refine ev_iload_n dX8_gatherSwaps_71 rfl ?_
  refine ev_iconst (v := 1) dX8_gatherSwaps_72 ki_1 ?_
  refine ev_iadd dX8_gatherSwaps_73 ?_
  refine ev_aload_n dX8_gatherSwaps_74 rfl ?_
  refine ev_getI dX8_gatherSwaps_75 fo_8_115 (by omega) lo_87 rfl ?_
  refine ev_iast dX8_gatherSwaps_78 (by omega) ly_102 hj1 b0 ?_
  have hX1 : Sh _ (lx_up X 102 j1 (X 87 9)) := Sh.upA hX (by rw [ly_102]; exact (by decide : 0 < 2))
  refine ev_iinc (v := (nI v1) + 1) dX8_gatherSwaps_79 rfl (by rw [show Int32.ofInt 1 = 1 from ki_1]) (by decide) ?_
  refine ev_goto (tgt := 14) dX8_gatherSwaps_82 (by decide) ?_
  exact k
theorem bX8_gatherSwaps_61_0 {g : GG} {d n0 nf : Nat} {post : Option Value → LX → Prop} {n : Nat} {X : LX} (hn : 146 ≤ n) (hX : Sh n X) {v1 : Int32} {v2 : Int32} (k : Ev g mX8_gatherSwaps d n0 nf post n 30 [some (.ref 87), some (.int v1), some (.int (v2 + 1))] [] X) : Ev g mX8_gatherSwaps d n0 nf post n 61 [some (.ref 87), some (.int v1), some (.int v2)] [] X := by
  refine ev_iinc (v := v2 + 1) dX8_gatherSwaps_61 rfl (by rw [show Int32.ofInt 1 = 1 from ki_1]) (by decide) ?_
  refine ev_goto (tgt := 30) dX8_gatherSwaps_64 (by decide) ?_
  exact k
theorem bX8_gatherSwapsOf_0_0 {g : GG} {d n0 nf : Nat} {post : Option Value → LX → Prop} {n : Nat} {X : LX} (hn : 146 ≤ n) (hX : Sh n X) {v1 : Int32} {v2 : Int32} (k : Ev g mX8_gatherSwapsOf d n0 nf post n 11 [some (.ref 87), some (.int v1), some (.int v2), some (.ref 2), some (.int 0)] [] X) : Ev g mX8_gatherSwapsOf d n0 nf post n 0 [some (.ref 87), some (.int v1), some (.int v2), none, none] [] X := by
  refine ev_aload_n dX8_gatherSwapsOf_0 rfl ?_
  refine ev_getS (q := 1) dX8_gatherSwapsOf_1 fo_8_44 (by omega) lo_87 rfl (sh_87_0 hX (by omega)) (by decide) ?_
  refine ev_getS (q := 2) dX8_gatherSwapsOf_4 fo_8_80 (by omega) lo_1 rfl (sh_1_0 hX (by omega)) (by decide) ?_
  refine ev_astore_n dX8_gatherSwapsOf_7 (by decide) ?_
  refine ev_iconst (v := 0) dX8_gatherSwapsOf_8 ki_0 ?_
  refine ev_istore dX8_gatherSwapsOf_9 (by decide) ?_
  exact k
theorem bX8_gatherSwapsOf_11_0 {g : GG} {d n0 nf : Nat} {post : Option Value → LX → Prop} {n : Nat} {X : LX} (hn : 146 ≤ n) (hX : Sh n X) {v1 : Nat} {v2 : Nat} {v4 : Nat} (c0 : ¬ X 2 0 ≤ nI v4) (c1 : ¬ 588 ≤ X 87 9) (b0 : v1 < 12) (b1 : v4 < 14) (c2 : ¬ 0 < X (88 + 1 + v1) v4) (b2 : v4 < 14) (b3 : v2 < 14) (c3 : ¬ X 4 v4 = X 4 v2) (k : Ev g mX8_gatherSwapsOf d n0 nf post n 11 [some (.ref 87), some (.int (nI v1)), some (.int (nI v2)), some (.ref 2), some (.int ((nI v4) + 1))] [] X) : Ev g mX8_gatherSwapsOf d n0 nf post n 11 [some (.ref 87), some (.int (nI v1)), some (.int (nI v2)), some (.ref 2), some (.int (nI v4))] [] X := by
  refine ev_iload dX8_gatherSwapsOf_11 rfl ?_
  refine ev_aload_n dX8_gatherSwapsOf_13 rfl ?_
  refine ev_getI dX8_gatherSwapsOf_14 fo_8_86 (by omega) lo_2 rfl ?_
  refine ev_icmpF (tgt := 171) dX8_gatherSwapsOf_17 (by decide) c0 ?_
  refine ev_aload_n dX8_gatherSwapsOf_20 rfl ?_
  refine ev_getI dX8_gatherSwapsOf_21 fo_8_115 (by omega) lo_87 rfl ?_
  refine ev_sipush (v := 588) dX8_gatherSwapsOf_24 ks_588 ?_
  refine ev_icmpF (tgt := 171) dX8_gatherSwapsOf_27 (by decide) c1 ?_
  refine ev_aload_n dX8_gatherSwapsOf_30 rfl ?_
  refine ev_getS (q := 88) dX8_gatherSwapsOf_31 fo_8_11 (by omega) lo_87 rfl (sh_87_1 hX (by omega)) (by decide) ?_
  refine ev_iload_n dX8_gatherSwapsOf_34 rfl ?_
  refine ev_aald (q := 88 + 1 + v1) dX8_gatherSwapsOf_35 (by omega) (Or.inl ly_88) rfl b0 (hX.2 88 v1 (by omega) (Or.inl (by rw [ly_88])) (by rw [ly_88]; exact b0)) (by first | omega | (have := LY_l ly_88; have := LY_lt (show (LY 88).1 < 99 by rw [ly_88]; exact (by decide : 2 < 99)); omega)) ?_
  refine ev_iload dX8_gatherSwapsOf_36 rfl ?_
  refine ev_iald dX8_gatherSwapsOf_38 (by have := b0; omega) (lyr_88 _ b0) rfl b1 ?_
  refine ev_ifF (tgt := 165) dX8_gatherSwapsOf_39 (by decide) c2 ?_
  refine ev_aload_n dX8_gatherSwapsOf_42 rfl ?_
  refine ev_getS (q := 4) dX8_gatherSwapsOf_43 fo_8_122 (by omega) lo_2 rfl (sh_2_2 hX (by omega)) (by decide) ?_
  refine ev_iload dX8_gatherSwapsOf_46 rfl ?_
  refine ev_iald dX8_gatherSwapsOf_48 (by omega) ly_4 rfl b2 ?_
  refine ev_aload_n dX8_gatherSwapsOf_49 rfl ?_
  refine ev_getS (q := 4) dX8_gatherSwapsOf_50 fo_8_122 (by omega) lo_2 rfl (sh_2_2 hX (by omega)) (by decide) ?_
  refine ev_iload_n dX8_gatherSwapsOf_53 rfl ?_
  refine ev_iald dX8_gatherSwapsOf_54 (by omega) ly_4 rfl b3 ?_
  refine ev_icmpF (tgt := 61) dX8_gatherSwapsOf_55 (by decide) c3 ?_
  refine ev_goto (tgt := 165) dX8_gatherSwapsOf_58 (by decide) ?_
  refine ev_iinc (v := (nI v4) + 1) dX8_gatherSwapsOf_165 rfl (by rw [show Int32.ofInt 1 = 1 from ki_1]) (by decide) ?_
  refine ev_goto (tgt := 11) dX8_gatherSwapsOf_168 (by decide) ?_
  exact k
theorem bX8_gatherSwapsOf_11_1 {g : GG} {d n0 nf : Nat} {post : Option Value → LX → Prop} {n : Nat} {X : LX} (hn : 146 ≤ n) (hX : Sh n X) {v1 : Nat} {v2 : Nat} {v4 : Nat} (c0 : ¬ X 2 0 ≤ nI v4) (c1 : ¬ 588 ≤ X 87 9) (b0 : v1 < 12) (b1 : v4 < 14) (c2 : ¬ 0 < X (88 + 1 + v1) v4) (b2 : v4 < 14) (b3 : v2 < 14) (c3 : X 4 v4 = X 4 v2) (b4 : v4 < 14) (b5 : v1 < 12) (c4 : ¬ (X 3 v4) &&& (X 38 v1) = 0) (k : Ev g mX8_gatherSwapsOf d n0 nf post n 11 [some (.ref 87), some (.int (nI v1)), some (.int (nI v2)), some (.ref 2), some (.int ((nI v4) + 1))] [] X) : Ev g mX8_gatherSwapsOf d n0 nf post n 11 [some (.ref 87), some (.int (nI v1)), some (.int (nI v2)), some (.ref 2), some (.int (nI v4))] [] X := by
  refine ev_iload dX8_gatherSwapsOf_11 rfl ?_
  refine ev_aload_n dX8_gatherSwapsOf_13 rfl ?_
  refine ev_getI dX8_gatherSwapsOf_14 fo_8_86 (by omega) lo_2 rfl ?_
  refine ev_icmpF (tgt := 171) dX8_gatherSwapsOf_17 (by decide) c0 ?_
  refine ev_aload_n dX8_gatherSwapsOf_20 rfl ?_
  refine ev_getI dX8_gatherSwapsOf_21 fo_8_115 (by omega) lo_87 rfl ?_
  refine ev_sipush (v := 588) dX8_gatherSwapsOf_24 ks_588 ?_
  refine ev_icmpF (tgt := 171) dX8_gatherSwapsOf_27 (by decide) c1 ?_
  refine ev_aload_n dX8_gatherSwapsOf_30 rfl ?_
  refine ev_getS (q := 88) dX8_gatherSwapsOf_31 fo_8_11 (by omega) lo_87 rfl (sh_87_1 hX (by omega)) (by decide) ?_
  refine ev_iload_n dX8_gatherSwapsOf_34 rfl ?_
  refine ev_aald (q := 88 + 1 + v1) dX8_gatherSwapsOf_35 (by omega) (Or.inl ly_88) rfl b0 (hX.2 88 v1 (by omega) (Or.inl (by rw [ly_88])) (by rw [ly_88]; exact b0)) (by first | omega | (have := LY_l ly_88; have := LY_lt (show (LY 88).1 < 99 by rw [ly_88]; exact (by decide : 2 < 99)); omega)) ?_
  refine ev_iload dX8_gatherSwapsOf_36 rfl ?_
  refine ev_iald dX8_gatherSwapsOf_38 (by have := b0; omega) (lyr_88 _ b0) rfl b1 ?_
  refine ev_ifF (tgt := 165) dX8_gatherSwapsOf_39 (by decide) c2 ?_
  refine ev_aload_n dX8_gatherSwapsOf_42 rfl ?_
  refine ev_getS (q := 4) dX8_gatherSwapsOf_43 fo_8_122 (by omega) lo_2 rfl (sh_2_2 hX (by omega)) (by decide) ?_
  refine ev_iload dX8_gatherSwapsOf_46 rfl ?_
  refine ev_iald dX8_gatherSwapsOf_48 (by omega) ly_4 rfl b2 ?_
  refine ev_aload_n dX8_gatherSwapsOf_49 rfl ?_
  refine ev_getS (q := 4) dX8_gatherSwapsOf_50 fo_8_122 (by omega) lo_2 rfl (sh_2_2 hX (by omega)) (by decide) ?_
  refine ev_iload_n dX8_gatherSwapsOf_53 rfl ?_
  refine ev_iald dX8_gatherSwapsOf_54 (by omega) ly_4 rfl b3 ?_
  refine ev_icmpT (tgt := 61) dX8_gatherSwapsOf_55 (by decide) c3 ?_
  refine ev_aload_n dX8_gatherSwapsOf_61 rfl ?_
  refine ev_getS (q := 3) dX8_gatherSwapsOf_62 fo_8_125 (by omega) lo_2 rfl (sh_2_1 hX (by omega)) (by decide) ?_
  refine ev_iload dX8_gatherSwapsOf_65 rfl ?_
  refine ev_iald dX8_gatherSwapsOf_67 (by omega) ly_3 rfl b4 ?_
  refine ev_aload_n dX8_gatherSwapsOf_68 rfl ?_
  refine ev_getS (q := 1) dX8_gatherSwapsOf_69 fo_8_44 (by omega) lo_87 rfl (sh_87_0 hX (by omega)) (by decide) ?_
  refine ev_getS (q := 37) dX8_gatherSwapsOf_72 fo_8_101 (by omega) lo_1 rfl (sh_1_2 hX (by omega)) (by decide) ?_
  refine ev_getS (q := 38) dX8_gatherSwapsOf_75 fo_8_128 (by omega) lo_37 rfl (sh_37_1 hX (by omega)) (by decide) ?_
  refine ev_iload_n dX8_gatherSwapsOf_78 rfl ?_
  refine ev_iald dX8_gatherSwapsOf_79 (by omega) ly_38 rfl b5 ?_
  refine ev_iand dX8_gatherSwapsOf_80 ?_
  refine ev_ifF (tgt := 87) dX8_gatherSwapsOf_81 (by decide) c4 ?_
  refine ev_goto (tgt := 165) dX8_gatherSwapsOf_84 (by decide) ?_
  refine ev_iinc (v := (nI v4) + 1) dX8_gatherSwapsOf_165 rfl (by rw [show Int32.ofInt 1 = 1 from ki_1]) (by decide) ?_
  refine ev_goto (tgt := 11) dX8_gatherSwapsOf_168 (by decide) ?_
  exact k
theorem bX8_gatherSwapsOf_11_2 {g : GG} {d n0 nf : Nat} {post : Option Value → LX → Prop} {n : Nat} {X : LX} (hn : 146 ≤ n) (hX : Sh n X) {v1 : Nat} {v2 : Nat} {v4 : Nat} {j1 : Nat} {j2 : Nat} {j3 : Nat} {j4 : Nat} (c0 : ¬ X 2 0 ≤ nI v4) (c1 : ¬ 588 ≤ X 87 9) (b0 : v1 < 12) (b1 : v4 < 14) (c2 : ¬ 0 < X (88 + 1 + v1) v4) (b2 : v4 < 14) (b3 : v2 < 14) (c3 : X 4 v4 = X 4 v2) (b4 : v4 < 14) (b5 : v1 < 12) (c4 : (X 3 v4) &&& (X 38 v1) = 0) (hj1 : X 87 9 = nI j1) (b6 : j1 < 588) (hj2 : X 87 9 = nI j2) (b7 : j2 < 588) (b8 : v1 < 12) (b9 : v2 < 14) (hj3 : X 87 9 = nI j3) (b10 : j3 < 588) (b11 : v1 < 12) (b12 : v2 < 14) (b13 : v2 < 14) (b14 : v4 < 14) (hj4 : X 87 9 = nI j4) (b15 : j4 < 588) (k : Ev g mX8_gatherSwapsOf d n0 nf post n 11 [some (.ref 87), some (.int (nI v1)), some (.int (nI v2)), some (.ref 2), some (.int ((nI v4) + 1))] [] (lx_up (lx_up (lx_up (lx_up (lx_up X 103 j1 (nI v2)) 104 j2 (nI v4)) 105 j3 ((lx_up (lx_up X 103 j1 (nI v2)) 104 j2 (nI v4)) (88 + 1 + v1) v2)) 106 j4 ((((lx_up (lx_up (lx_up X 103 j1 (nI v2)) 104 j2 (nI v4)) 105 j3 ((lx_up (lx_up X 103 j1 (nI v2)) 104 j2 (nI v4)) (88 + 1 + v1) v2)) (88 + 1 + v1) v2) * ((lx_up (lx_up (lx_up X 103 j1 (nI v2)) 104 j2 (nI v4)) 105 j3 ((lx_up (lx_up X 103 j1 (nI v2)) 104 j2 (nI v4)) (88 + 1 + v1) v2)) (8 + 1 + v2) v4)) / 100)) 87 9 ((X 87 9) + 1))) : Ev g mX8_gatherSwapsOf d n0 nf post n 11 [some (.ref 87), some (.int (nI v1)), some (.int (nI v2)), some (.ref 2), some (.int (nI v4))] [] X := by
  refine ev_iload dX8_gatherSwapsOf_11 rfl ?_
  refine ev_aload_n dX8_gatherSwapsOf_13 rfl ?_
  refine ev_getI dX8_gatherSwapsOf_14 fo_8_86 (by omega) lo_2 rfl ?_
  refine ev_icmpF (tgt := 171) dX8_gatherSwapsOf_17 (by decide) c0 ?_
  refine ev_aload_n dX8_gatherSwapsOf_20 rfl ?_
  refine ev_getI dX8_gatherSwapsOf_21 fo_8_115 (by omega) lo_87 rfl ?_
  refine ev_sipush (v := 588) dX8_gatherSwapsOf_24 ks_588 ?_
  refine ev_icmpF (tgt := 171) dX8_gatherSwapsOf_27 (by decide) c1 ?_
  refine ev_aload_n dX8_gatherSwapsOf_30 rfl ?_
  refine ev_getS (q := 88) dX8_gatherSwapsOf_31 fo_8_11 (by omega) lo_87 rfl (sh_87_1 hX (by omega)) (by decide) ?_
  refine ev_iload_n dX8_gatherSwapsOf_34 rfl ?_
  refine ev_aald (q := 88 + 1 + v1) dX8_gatherSwapsOf_35 (by omega) (Or.inl ly_88) rfl b0 (hX.2 88 v1 (by omega) (Or.inl (by rw [ly_88])) (by rw [ly_88]; exact b0)) (by first | omega | (have := LY_l ly_88; have := LY_lt (show (LY 88).1 < 99 by rw [ly_88]; exact (by decide : 2 < 99)); omega)) ?_
  refine ev_iload dX8_gatherSwapsOf_36 rfl ?_
  refine ev_iald dX8_gatherSwapsOf_38 (by have := b0; omega) (lyr_88 _ b0) rfl b1 ?_
  refine ev_ifF (tgt := 165) dX8_gatherSwapsOf_39 (by decide) c2 ?_
  refine ev_aload_n dX8_gatherSwapsOf_42 rfl ?_
  refine ev_getS (q := 4) dX8_gatherSwapsOf_43 fo_8_122 (by omega) lo_2 rfl (sh_2_2 hX (by omega)) (by decide) ?_
  refine ev_iload dX8_gatherSwapsOf_46 rfl ?_
  refine ev_iald dX8_gatherSwapsOf_48 (by omega) ly_4 rfl b2 ?_
  refine ev_aload_n dX8_gatherSwapsOf_49 rfl ?_
  refine ev_getS (q := 4) dX8_gatherSwapsOf_50 fo_8_122 (by omega) lo_2 rfl (sh_2_2 hX (by omega)) (by decide) ?_
  refine ev_iload_n dX8_gatherSwapsOf_53 rfl ?_
  refine ev_iald dX8_gatherSwapsOf_54 (by omega) ly_4 rfl b3 ?_
  refine ev_icmpT (tgt := 61) dX8_gatherSwapsOf_55 (by decide) c3 ?_
  refine ev_aload_n dX8_gatherSwapsOf_61 rfl ?_
  refine ev_getS (q := 3) dX8_gatherSwapsOf_62 fo_8_125 (by omega) lo_2 rfl (sh_2_1 hX (by omega)) (by decide) ?_
  refine ev_iload dX8_gatherSwapsOf_65 rfl ?_
  refine ev_iald dX8_gatherSwapsOf_67 (by omega) ly_3 rfl b4 ?_
  refine ev_aload_n dX8_gatherSwapsOf_68 rfl ?_
  refine ev_getS (q := 1) dX8_gatherSwapsOf_69 fo_8_44 (by omega) lo_87 rfl (sh_87_0 hX (by omega)) (by decide) ?_
  refine ev_getS (q := 37) dX8_gatherSwapsOf_72 fo_8_101 (by omega) lo_1 rfl (sh_1_2 hX (by omega)) (by decide) ?_
  refine ev_getS (q := 38) dX8_gatherSwapsOf_75 fo_8_128 (by omega) lo_37 rfl (sh_37_1 hX (by omega)) (by decide) ?_
  refine ev_iload_n dX8_gatherSwapsOf_78 rfl ?_
  refine ev_iald dX8_gatherSwapsOf_79 (by omega) ly_38 rfl b5 ?_
  refine ev_iand dX8_gatherSwapsOf_80 ?_
  refine ev_ifT (tgt := 87) dX8_gatherSwapsOf_81 (by decide) c4 ?_
  refine ev_aload_n dX8_gatherSwapsOf_87 rfl ?_
  refine ev_getS (q := 103) dX8_gatherSwapsOf_88 fo_8_23 (by omega) lo_87 rfl (sh_87_5 hX (by omega)) (by decide) ?_
  refine ev_aload_n dX8_gatherSwapsOf_91 rfl ?_
  refine ev_getI dX8_gatherSwapsOf_92 fo_8_115 (by omega) lo_87 rfl ?_
  refine ev_iload_n dX8_gatherSwapsOf_95 rfl ?_
  refine ev_iast dX8_gatherSwapsOf_96 (by omega) ly_103 hj1 b6 ?_
  have hX1 : Sh _ (lx_up X 103 j1 (nI v2)) := Sh.upA hX (by rw [ly_103]; exact (by decide : 0 < 2))
  refine ev_aload_n dX8_gatherSwapsOf_97 rfl ?_
  refine ev_getS (q := 104) dX8_gatherSwapsOf_98 fo_8_26 (by omega) lo_87 rfl (sh_87_6 hX1 (by omega)) (by decide) ?_
  refine ev_aload_n dX8_gatherSwapsOf_101 rfl ?_
  refine ev_getI dX8_gatherSwapsOf_102 fo_8_115 (by omega) lo_87 rfl ?_
  refine ev_iload dX8_gatherSwapsOf_105 rfl ?_
  refine ev_iast dX8_gatherSwapsOf_107 (by omega) ly_104 hj2 b7 ?_
  have hX2 : Sh _ (lx_up (lx_up X 103 j1 (nI v2)) 104 j2 (nI v4)) := Sh.upA hX1 (by rw [ly_104]; exact (by decide : 0 < 2))
  refine ev_aload_n dX8_gatherSwapsOf_108 rfl ?_
  refine ev_getS (q := 105) dX8_gatherSwapsOf_109 fo_8_29 (by omega) lo_87 rfl (sh_87_7 hX2 (by omega)) (by decide) ?_
  refine ev_aload_n dX8_gatherSwapsOf_112 rfl ?_
  refine ev_getI dX8_gatherSwapsOf_113 fo_8_115 (by omega) lo_87 rfl ?_
  refine ev_aload_n dX8_gatherSwapsOf_116 rfl ?_
  refine ev_getS (q := 88) dX8_gatherSwapsOf_117 fo_8_11 (by omega) lo_87 rfl (sh_87_1 hX2 (by omega)) (by decide) ?_
  refine ev_iload_n dX8_gatherSwapsOf_120 rfl ?_
  refine ev_aald (q := 88 + 1 + v1) dX8_gatherSwapsOf_121 (by omega) (Or.inl ly_88) rfl b8 (hX2.2 88 v1 (by omega) (Or.inl (by rw [ly_88])) (by rw [ly_88]; exact b8)) (by first | omega | (have := LY_l ly_88; have := LY_lt (show (LY 88).1 < 99 by rw [ly_88]; exact (by decide : 2 < 99)); omega)) ?_
  refine ev_iload_n dX8_gatherSwapsOf_122 rfl ?_
  refine ev_iald dX8_gatherSwapsOf_123 (by have := b8; omega) (lyr_88 _ b8) rfl b9 ?_
  refine ev_iast dX8_gatherSwapsOf_124 (by omega) ly_105 hj3 b10 ?_
  have hX3 : Sh _ (lx_up (lx_up (lx_up X 103 j1 (nI v2)) 104 j2 (nI v4)) 105 j3 ((lx_up (lx_up X 103 j1 (nI v2)) 104 j2 (nI v4)) (88 + 1 + v1) v2)) := Sh.upA hX2 (by rw [ly_105]; exact (by decide : 0 < 2))
  refine ev_aload_n dX8_gatherSwapsOf_125 rfl ?_
  refine ev_getS (q := 106) dX8_gatherSwapsOf_126 fo_8_32 (by omega) lo_87 rfl (sh_87_8 hX3 (by omega)) (by decide) ?_
  refine ev_aload_n dX8_gatherSwapsOf_129 rfl ?_
  refine ev_getI dX8_gatherSwapsOf_130 fo_8_115 (by omega) lo_87 rfl ?_
  refine ev_aload_n dX8_gatherSwapsOf_133 rfl ?_
  refine ev_getS (q := 88) dX8_gatherSwapsOf_134 fo_8_11 (by omega) lo_87 rfl (sh_87_1 hX3 (by omega)) (by decide) ?_
  refine ev_iload_n dX8_gatherSwapsOf_137 rfl ?_
  refine ev_aald (q := 88 + 1 + v1) dX8_gatherSwapsOf_138 (by omega) (Or.inl ly_88) rfl b11 (hX3.2 88 v1 (by omega) (Or.inl (by rw [ly_88])) (by rw [ly_88]; exact b11)) (by first | omega | (have := LY_l ly_88; have := LY_lt (show (LY 88).1 < 99 by rw [ly_88]; exact (by decide : 2 < 99)); omega)) ?_
  refine ev_iload_n dX8_gatherSwapsOf_139 rfl ?_
  refine ev_iald dX8_gatherSwapsOf_140 (by have := b11; omega) (lyr_88 _ b11) rfl b12 ?_
  refine ev_aload_n dX8_gatherSwapsOf_141 rfl ?_
  refine ev_getS (q := 8) dX8_gatherSwapsOf_142 fo_8_131 (by omega) lo_2 rfl (sh_2_6 hX3 (by omega)) (by decide) ?_
  refine ev_iload_n dX8_gatherSwapsOf_145 rfl ?_
  refine ev_aald (q := 8 + 1 + v2) dX8_gatherSwapsOf_146 (by omega) (Or.inl ly_8) rfl b13 (hX3.2 8 v2 (by omega) (Or.inl (by rw [ly_8])) (by rw [ly_8]; exact b13)) (by first | omega | (have := LY_l ly_8; have := LY_lt (show (LY 8).1 < 99 by rw [ly_8]; exact (by decide : 2 < 99)); omega)) ?_
  refine ev_iload dX8_gatherSwapsOf_147 rfl ?_
  refine ev_iald dX8_gatherSwapsOf_149 (by have := b13; omega) (lyr_8 _ b13) rfl b14 ?_
  refine ev_imul dX8_gatherSwapsOf_150 ?_
  refine ev_bipush (v := 100) dX8_gatherSwapsOf_151 kb_100 ?_
  refine ev_idiv dX8_gatherSwapsOf_153 (by decide) ?_
  refine ev_iast dX8_gatherSwapsOf_154 (by omega) ly_106 hj4 b15 ?_
  have hX4 : Sh _ (lx_up (lx_up (lx_up (lx_up X 103 j1 (nI v2)) 104 j2 (nI v4)) 105 j3 ((lx_up (lx_up X 103 j1 (nI v2)) 104 j2 (nI v4)) (88 + 1 + v1) v2)) 106 j4 ((((lx_up (lx_up (lx_up X 103 j1 (nI v2)) 104 j2 (nI v4)) 105 j3 ((lx_up (lx_up X 103 j1 (nI v2)) 104 j2 (nI v4)) (88 + 1 + v1) v2)) (88 + 1 + v1) v2) * ((lx_up (lx_up (lx_up X 103 j1 (nI v2)) 104 j2 (nI v4)) 105 j3 ((lx_up (lx_up X 103 j1 (nI v2)) 104 j2 (nI v4)) (88 + 1 + v1) v2)) (8 + 1 + v2) v4)) / 100)) := Sh.upA hX3 (by rw [ly_106]; exact (by decide : 0 < 2))
  refine ev_aload_n dX8_gatherSwapsOf_155 rfl ?_
  refine ev_dup dX8_gatherSwapsOf_156 rfl ?_
  refine ev_getI dX8_gatherSwapsOf_157 fo_8_115 (by omega) lo_87 rfl ?_
  refine ev_iconst (v := 1) dX8_gatherSwapsOf_160 ki_1 ?_
  refine ev_iadd dX8_gatherSwapsOf_161 ?_
  refine ev_putI dX8_gatherSwapsOf_162 fo_8_115 (by omega) lo_87 rfl rfl rfl ?_
  have hX5 : Sh _ (lx_up (lx_up (lx_up (lx_up (lx_up X 103 j1 (nI v2)) 104 j2 (nI v4)) 105 j3 ((lx_up (lx_up X 103 j1 (nI v2)) 104 j2 (nI v4)) (88 + 1 + v1) v2)) 106 j4 ((((lx_up (lx_up (lx_up X 103 j1 (nI v2)) 104 j2 (nI v4)) 105 j3 ((lx_up (lx_up X 103 j1 (nI v2)) 104 j2 (nI v4)) (88 + 1 + v1) v2)) (88 + 1 + v1) v2) * ((lx_up (lx_up (lx_up X 103 j1 (nI v2)) 104 j2 (nI v4)) 105 j3 ((lx_up (lx_up X 103 j1 (nI v2)) 104 j2 (nI v4)) (88 + 1 + v1) v2)) (8 + 1 + v2) v4)) / 100)) 87 9 ((X 87 9) + 1)) := Sh.upF hX4 (by rw [lo_87]; decide) (by decide)
  refine ev_iinc (v := (nI v4) + 1) dX8_gatherSwapsOf_165 rfl (by rw [show Int32.ofInt 1 = 1 from ki_1]) (by decide) ?_
  refine ev_goto (tgt := 11) dX8_gatherSwapsOf_168 (by decide) ?_
  exact k
theorem bX8_gatherSwapsOf_11_3 {g : GG} {d n0 nf : Nat} {post : Option Value → LX → Prop} {n : Nat} {X : LX} (hn : 146 ≤ n) (hX : Sh n X) {v1 : Nat} {v2 : Nat} {v4 : Nat} (c0 : ¬ X 2 0 ≤ nI v4) (c1 : ¬ 588 ≤ X 87 9) (b0 : v1 < 12) (b1 : v4 < 14) (c2 : 0 < X (88 + 1 + v1) v4) (k : Ev g mX8_gatherSwapsOf d n0 nf post n 11 [some (.ref 87), some (.int (nI v1)), some (.int (nI v2)), some (.ref 2), some (.int ((nI v4) + 1))] [] X) : Ev g mX8_gatherSwapsOf d n0 nf post n 11 [some (.ref 87), some (.int (nI v1)), some (.int (nI v2)), some (.ref 2), some (.int (nI v4))] [] X := by
  refine ev_iload dX8_gatherSwapsOf_11 rfl ?_
  refine ev_aload_n dX8_gatherSwapsOf_13 rfl ?_
  refine ev_getI dX8_gatherSwapsOf_14 fo_8_86 (by omega) lo_2 rfl ?_
  refine ev_icmpF (tgt := 171) dX8_gatherSwapsOf_17 (by decide) c0 ?_
  refine ev_aload_n dX8_gatherSwapsOf_20 rfl ?_
  refine ev_getI dX8_gatherSwapsOf_21 fo_8_115 (by omega) lo_87 rfl ?_
  refine ev_sipush (v := 588) dX8_gatherSwapsOf_24 ks_588 ?_
  refine ev_icmpF (tgt := 171) dX8_gatherSwapsOf_27 (by decide) c1 ?_
  refine ev_aload_n dX8_gatherSwapsOf_30 rfl ?_
  refine ev_getS (q := 88) dX8_gatherSwapsOf_31 fo_8_11 (by omega) lo_87 rfl (sh_87_1 hX (by omega)) (by decide) ?_
  refine ev_iload_n dX8_gatherSwapsOf_34 rfl ?_
  refine ev_aald (q := 88 + 1 + v1) dX8_gatherSwapsOf_35 (by omega) (Or.inl ly_88) rfl b0 (hX.2 88 v1 (by omega) (Or.inl (by rw [ly_88])) (by rw [ly_88]; exact b0)) (by first | omega | (have := LY_l ly_88; have := LY_lt (show (LY 88).1 < 99 by rw [ly_88]; exact (by decide : 2 < 99)); omega)) ?_
  refine ev_iload dX8_gatherSwapsOf_36 rfl ?_
  refine ev_iald dX8_gatherSwapsOf_38 (by have := b0; omega) (lyr_88 _ b0) rfl b1 ?_
  refine ev_ifT (tgt := 165) dX8_gatherSwapsOf_39 (by decide) c2 ?_
  refine ev_iinc (v := (nI v4) + 1) dX8_gatherSwapsOf_165 rfl (by rw [show Int32.ofInt 1 = 1 from ki_1]) (by decide) ?_
  refine ev_goto (tgt := 11) dX8_gatherSwapsOf_168 (by decide) ?_
  exact k
theorem bX8_gatherSwapsOf_11_4 {g : GG} {d n0 nf : Nat} {post : Option Value → LX → Prop} {n : Nat} {X : LX} (hn : 146 ≤ nf) (hX : Sh nf X) {v1 : Nat} {v2 : Nat} {v4 : Nat} (c0 : ¬ X 2 0 ≤ nI v4) (c1 : 588 ≤ X 87 9) (hp : post none X) : Ev g mX8_gatherSwapsOf d n0 nf post nf 11 [some (.ref 87), some (.int (nI v1)), some (.int (nI v2)), some (.ref 2), some (.int (nI v4))] [] X := by
  refine ev_iload dX8_gatherSwapsOf_11 rfl ?_
  refine ev_aload_n dX8_gatherSwapsOf_13 rfl ?_
  refine ev_getI dX8_gatherSwapsOf_14 fo_8_86 (by omega) lo_2 rfl ?_
  refine ev_icmpF (tgt := 171) dX8_gatherSwapsOf_17 (by decide) c0 ?_
  refine ev_aload_n dX8_gatherSwapsOf_20 rfl ?_
  refine ev_getI dX8_gatherSwapsOf_21 fo_8_115 (by omega) lo_87 rfl ?_
  refine ev_sipush (v := 588) dX8_gatherSwapsOf_24 ks_588 ?_
  refine ev_icmpT (tgt := 171) dX8_gatherSwapsOf_27 (by decide) c1 ?_
  exact ev_ret dX8_gatherSwapsOf_171 rfl hp
theorem bX8_gatherSwapsOf_11_5 {g : GG} {d n0 nf : Nat} {post : Option Value → LX → Prop} {n : Nat} {X : LX} (hn : 146 ≤ nf) (hX : Sh nf X) {v1 : Nat} {v2 : Nat} {v4 : Nat} (c0 : X 2 0 ≤ nI v4) (hp : post none X) : Ev g mX8_gatherSwapsOf d n0 nf post nf 11 [some (.ref 87), some (.int (nI v1)), some (.int (nI v2)), some (.ref 2), some (.int (nI v4))] [] X := by
  refine ev_iload dX8_gatherSwapsOf_11 rfl ?_
  refine ev_aload_n dX8_gatherSwapsOf_13 rfl ?_
  refine ev_getI dX8_gatherSwapsOf_14 fo_8_86 (by omega) lo_2 rfl ?_
  refine ev_icmpT (tgt := 171) dX8_gatherSwapsOf_17 (by decide) c0 ?_
  exact ev_ret dX8_gatherSwapsOf_171 rfl hp
theorem bX8_seekFrom_0_0 {g : GG} {d n0 nf : Nat} {post : Option Value → LX → Prop} {n : Nat} {X : LX} (hn : 146 ≤ nf) (hX : Sh nf X) {v1 : Nat} {v2 : Int32} {v3 : Int32} (c0 : ¬ X 87 14 = 0) (c1 : ¬ X 87 16 < v2) (c2 : v2 = X 87 16) (c3 : ¬ v3 < X 87 15) (hp : post none X) : Ev g mX8_seekFrom d n0 nf post nf 0 [some (.ref 87), some (.int (nI v1)), some (.int v2), some (.int v3), none] [] X := by
  refine ev_aload_n dX8_seekFrom_0 rfl ?_
  refine ev_getI dX8_seekFrom_1 fo_8_61 (by omega) lo_87 rfl ?_
  refine ev_ifF (tgt := 32) dX8_seekFrom_4 (by decide) c0 ?_
  refine ev_iload_n dX8_seekFrom_7 rfl ?_
  refine ev_aload_n dX8_seekFrom_8 rfl ?_
  refine ev_getI dX8_seekFrom_9 fo_8_65 (by omega) lo_87 rfl ?_
  refine ev_icmpF (tgt := 31) dX8_seekFrom_12 (by decide) c1 ?_
  refine ev_iload_n dX8_seekFrom_15 rfl ?_
  refine ev_aload_n dX8_seekFrom_16 rfl ?_
  refine ev_getI dX8_seekFrom_17 fo_8_65 (by omega) lo_87 rfl ?_
  refine ev_icmpF (tgt := 32) dX8_seekFrom_20 (by decide) c2 ?_
  refine ev_iload_n dX8_seekFrom_23 rfl ?_
  refine ev_aload_n dX8_seekFrom_24 rfl ?_
  refine ev_getI dX8_seekFrom_25 fo_8_68 (by omega) lo_87 rfl ?_
  refine ev_icmpF (tgt := 32) dX8_seekFrom_28 (by decide) c3 ?_
  exact ev_ret dX8_seekFrom_31 rfl hp
theorem bX8_seekFrom_0_1 {g : GG} {d n0 nf : Nat} {post : Option Value → LX → Prop} {n : Nat} {X : LX} (hn : 146 ≤ n) (hX : Sh n X) {v1 : Nat} {v2 : Int32} {v3 : Int32} (c0 : ¬ X 87 14 = 0) (c1 : ¬ X 87 16 < v2) (c2 : v2 = X 87 16) (c3 : v3 < X 87 15) (c4 : ¬ nI v1 < X 37 0) (c5 : X 87 3 = 0) (k : Ev g mX8_seekFrom d n0 nf post n 56 [some (.ref 87), some (.int (nI v1)), some (.int v2), some (.int v3), none] [.int v3, .int v2, .ref 87] X) : Ev g mX8_seekFrom d n0 nf post n 0 [some (.ref 87), some (.int (nI v1)), some (.int v2), some (.int v3), none] [] X := by
  refine ev_aload_n dX8_seekFrom_0 rfl ?_
  refine ev_getI dX8_seekFrom_1 fo_8_61 (by omega) lo_87 rfl ?_
  refine ev_ifF (tgt := 32) dX8_seekFrom_4 (by decide) c0 ?_
  refine ev_iload_n dX8_seekFrom_7 rfl ?_
  refine ev_aload_n dX8_seekFrom_8 rfl ?_
  refine ev_getI dX8_seekFrom_9 fo_8_65 (by omega) lo_87 rfl ?_
  refine ev_icmpF (tgt := 31) dX8_seekFrom_12 (by decide) c1 ?_
  refine ev_iload_n dX8_seekFrom_15 rfl ?_
  refine ev_aload_n dX8_seekFrom_16 rfl ?_
  refine ev_getI dX8_seekFrom_17 fo_8_65 (by omega) lo_87 rfl ?_
  refine ev_icmpF (tgt := 32) dX8_seekFrom_20 (by decide) c2 ?_
  refine ev_iload_n dX8_seekFrom_23 rfl ?_
  refine ev_aload_n dX8_seekFrom_24 rfl ?_
  refine ev_getI dX8_seekFrom_25 fo_8_68 (by omega) lo_87 rfl ?_
  refine ev_icmpT (tgt := 32) dX8_seekFrom_28 (by decide) c3 ?_
  refine ev_iload_n dX8_seekFrom_32 rfl ?_
  refine ev_aload_n dX8_seekFrom_33 rfl ?_
  refine ev_getS (q := 1) dX8_seekFrom_34 fo_8_44 (by omega) lo_87 rfl (sh_87_0 hX (by omega)) (by decide) ?_
  refine ev_getS (q := 37) dX8_seekFrom_37 fo_8_101 (by omega) lo_1 rfl (sh_1_2 hX (by omega)) (by decide) ?_
  refine ev_getI dX8_seekFrom_40 fo_8_105 (by omega) lo_37 rfl ?_
  refine ev_icmpF (tgt := 60) dX8_seekFrom_43 (by decide) c4 ?_
  refine ev_aload_n dX8_seekFrom_46 rfl ?_
  refine ev_getI dX8_seekFrom_47 fo_8_77 (by omega) lo_87 rfl ?_
  refine ev_ifF (tgt := 59) dX8_seekFrom_50 (by decide) c5 ?_
  refine ev_aload_n dX8_seekFrom_53 rfl ?_
  refine ev_iload_n dX8_seekFrom_54 rfl ?_
  refine ev_iload_n dX8_seekFrom_55 rfl ?_
  exact k
theorem bX8_seekFrom_0_2 {g : GG} {d n0 nf : Nat} {post : Option Value → LX → Prop} {n : Nat} {X : LX} (hn : 146 ≤ nf) (hX : Sh nf X) {v1 : Nat} {v2 : Int32} {v3 : Int32} (c0 : ¬ X 87 14 = 0) (c1 : ¬ X 87 16 < v2) (c2 : v2 = X 87 16) (c3 : v3 < X 87 15) (c4 : ¬ nI v1 < X 37 0) (c5 : ¬ X 87 3 = 0) (hp : post none X) : Ev g mX8_seekFrom d n0 nf post nf 0 [some (.ref 87), some (.int (nI v1)), some (.int v2), some (.int v3), none] [] X := by
  refine ev_aload_n dX8_seekFrom_0 rfl ?_
  refine ev_getI dX8_seekFrom_1 fo_8_61 (by omega) lo_87 rfl ?_
  refine ev_ifF (tgt := 32) dX8_seekFrom_4 (by decide) c0 ?_
  refine ev_iload_n dX8_seekFrom_7 rfl ?_
  refine ev_aload_n dX8_seekFrom_8 rfl ?_
  refine ev_getI dX8_seekFrom_9 fo_8_65 (by omega) lo_87 rfl ?_
  refine ev_icmpF (tgt := 31) dX8_seekFrom_12 (by decide) c1 ?_
  refine ev_iload_n dX8_seekFrom_15 rfl ?_
  refine ev_aload_n dX8_seekFrom_16 rfl ?_
  refine ev_getI dX8_seekFrom_17 fo_8_65 (by omega) lo_87 rfl ?_
  refine ev_icmpF (tgt := 32) dX8_seekFrom_20 (by decide) c2 ?_
  refine ev_iload_n dX8_seekFrom_23 rfl ?_
  refine ev_aload_n dX8_seekFrom_24 rfl ?_
  refine ev_getI dX8_seekFrom_25 fo_8_68 (by omega) lo_87 rfl ?_
  refine ev_icmpT (tgt := 32) dX8_seekFrom_28 (by decide) c3 ?_
  refine ev_iload_n dX8_seekFrom_32 rfl ?_
  refine ev_aload_n dX8_seekFrom_33 rfl ?_
  refine ev_getS (q := 1) dX8_seekFrom_34 fo_8_44 (by omega) lo_87 rfl (sh_87_0 hX (by omega)) (by decide) ?_
  refine ev_getS (q := 37) dX8_seekFrom_37 fo_8_101 (by omega) lo_1 rfl (sh_1_2 hX (by omega)) (by decide) ?_
  refine ev_getI dX8_seekFrom_40 fo_8_105 (by omega) lo_37 rfl ?_
  refine ev_icmpF (tgt := 60) dX8_seekFrom_43 (by decide) c4 ?_
  refine ev_aload_n dX8_seekFrom_46 rfl ?_
  refine ev_getI dX8_seekFrom_47 fo_8_77 (by omega) lo_87 rfl ?_
  refine ev_ifT (tgt := 59) dX8_seekFrom_50 (by decide) c5 ?_
  exact ev_ret dX8_seekFrom_59 rfl hp
theorem bX8_seekFrom_0_3 {g : GG} {d n0 nf : Nat} {post : Option Value → LX → Prop} {n : Nat} {X : LX} (hn : 146 ≤ n) (hX : Sh n X) {v1 : Nat} {v2 : Int32} {v3 : Int32} (c0 : ¬ X 87 14 = 0) (c1 : ¬ X 87 16 < v2) (c2 : v2 = X 87 16) (c3 : v3 < X 87 15) (c4 : nI v1 < X 37 0) (b0 : v1 < 12) (k : Ev g mX8_seekFrom d n0 nf post n 73 [some (.ref 87), some (.int (nI v1)), some (.int v2), some (.int v3), none] [.int v3, .int v2, .int ((nI v1) + 1), .ref 87] (lx_up X 107 v1 (-1))) : Ev g mX8_seekFrom d n0 nf post n 0 [some (.ref 87), some (.int (nI v1)), some (.int v2), some (.int v3), none] [] X := by
  refine ev_aload_n dX8_seekFrom_0 rfl ?_
  refine ev_getI dX8_seekFrom_1 fo_8_61 (by omega) lo_87 rfl ?_
  refine ev_ifF (tgt := 32) dX8_seekFrom_4 (by decide) c0 ?_
  refine ev_iload_n dX8_seekFrom_7 rfl ?_
  refine ev_aload_n dX8_seekFrom_8 rfl ?_
  refine ev_getI dX8_seekFrom_9 fo_8_65 (by omega) lo_87 rfl ?_
  refine ev_icmpF (tgt := 31) dX8_seekFrom_12 (by decide) c1 ?_
  refine ev_iload_n dX8_seekFrom_15 rfl ?_
  refine ev_aload_n dX8_seekFrom_16 rfl ?_
  refine ev_getI dX8_seekFrom_17 fo_8_65 (by omega) lo_87 rfl ?_
  refine ev_icmpF (tgt := 32) dX8_seekFrom_20 (by decide) c2 ?_
  refine ev_iload_n dX8_seekFrom_23 rfl ?_
  refine ev_aload_n dX8_seekFrom_24 rfl ?_
  refine ev_getI dX8_seekFrom_25 fo_8_68 (by omega) lo_87 rfl ?_
  refine ev_icmpT (tgt := 32) dX8_seekFrom_28 (by decide) c3 ?_
  refine ev_iload_n dX8_seekFrom_32 rfl ?_
  refine ev_aload_n dX8_seekFrom_33 rfl ?_
  refine ev_getS (q := 1) dX8_seekFrom_34 fo_8_44 (by omega) lo_87 rfl (sh_87_0 hX (by omega)) (by decide) ?_
  refine ev_getS (q := 37) dX8_seekFrom_37 fo_8_101 (by omega) lo_1 rfl (sh_1_2 hX (by omega)) (by decide) ?_
  refine ev_getI dX8_seekFrom_40 fo_8_105 (by omega) lo_37 rfl ?_
  refine ev_icmpT (tgt := 60) dX8_seekFrom_43 (by decide) c4 ?_
  refine ev_aload_n dX8_seekFrom_60 rfl ?_
  refine ev_getS (q := 107) dX8_seekFrom_61 fo_8_35 (by omega) lo_87 rfl (sh_87_10 hX (by omega)) (by decide) ?_
  refine ev_iload_n dX8_seekFrom_64 rfl ?_
  refine ev_iconst (v := (-1)) dX8_seekFrom_65 ki_m1 ?_
  refine ev_iast dX8_seekFrom_66 (by omega) ly_107 rfl b0 ?_
  have hX1 : Sh _ (lx_up X 107 v1 (-1)) := Sh.upA hX (by rw [ly_107]; exact (by decide : 0 < 2))
  refine ev_aload_n dX8_seekFrom_67 rfl ?_
  refine ev_iload_n dX8_seekFrom_68 rfl ?_
  refine ev_iconst (v := 1) dX8_seekFrom_69 ki_1 ?_
  refine ev_iadd dX8_seekFrom_70 ?_
  refine ev_iload_n dX8_seekFrom_71 rfl ?_
  refine ev_iload_n dX8_seekFrom_72 rfl ?_
  exact k
theorem bX8_seekFrom_0_4 {g : GG} {d n0 nf : Nat} {post : Option Value → LX → Prop} {n : Nat} {X : LX} (hn : 146 ≤ n) (hX : Sh n X) {v1 : Nat} {v2 : Int32} {v3 : Int32} (c0 : ¬ X 87 14 = 0) (c1 : ¬ X 87 16 < v2) (c2 : ¬ v2 = X 87 16) (c3 : ¬ nI v1 < X 37 0) (c4 : X 87 3 = 0) (k : Ev g mX8_seekFrom d n0 nf post n 56 [some (.ref 87), some (.int (nI v1)), some (.int v2), some (.int v3), none] [.int v3, .int v2, .ref 87] X) : Ev g mX8_seekFrom d n0 nf post n 0 [some (.ref 87), some (.int (nI v1)), some (.int v2), some (.int v3), none] [] X := by
  refine ev_aload_n dX8_seekFrom_0 rfl ?_
  refine ev_getI dX8_seekFrom_1 fo_8_61 (by omega) lo_87 rfl ?_
  refine ev_ifF (tgt := 32) dX8_seekFrom_4 (by decide) c0 ?_
  refine ev_iload_n dX8_seekFrom_7 rfl ?_
  refine ev_aload_n dX8_seekFrom_8 rfl ?_
  refine ev_getI dX8_seekFrom_9 fo_8_65 (by omega) lo_87 rfl ?_
  refine ev_icmpF (tgt := 31) dX8_seekFrom_12 (by decide) c1 ?_
  refine ev_iload_n dX8_seekFrom_15 rfl ?_
  refine ev_aload_n dX8_seekFrom_16 rfl ?_
  refine ev_getI dX8_seekFrom_17 fo_8_65 (by omega) lo_87 rfl ?_
  refine ev_icmpT (tgt := 32) dX8_seekFrom_20 (by decide) c2 ?_
  refine ev_iload_n dX8_seekFrom_32 rfl ?_
  refine ev_aload_n dX8_seekFrom_33 rfl ?_
  refine ev_getS (q := 1) dX8_seekFrom_34 fo_8_44 (by omega) lo_87 rfl (sh_87_0 hX (by omega)) (by decide) ?_
  refine ev_getS (q := 37) dX8_seekFrom_37 fo_8_101 (by omega) lo_1 rfl (sh_1_2 hX (by omega)) (by decide) ?_
  refine ev_getI dX8_seekFrom_40 fo_8_105 (by omega) lo_37 rfl ?_
  refine ev_icmpF (tgt := 60) dX8_seekFrom_43 (by decide) c3 ?_
  refine ev_aload_n dX8_seekFrom_46 rfl ?_
  refine ev_getI dX8_seekFrom_47 fo_8_77 (by omega) lo_87 rfl ?_
  refine ev_ifF (tgt := 59) dX8_seekFrom_50 (by decide) c4 ?_
  refine ev_aload_n dX8_seekFrom_53 rfl ?_
  refine ev_iload_n dX8_seekFrom_54 rfl ?_
  refine ev_iload_n dX8_seekFrom_55 rfl ?_
  exact k
theorem bX8_seekFrom_0_5 {g : GG} {d n0 nf : Nat} {post : Option Value → LX → Prop} {n : Nat} {X : LX} (hn : 146 ≤ nf) (hX : Sh nf X) {v1 : Nat} {v2 : Int32} {v3 : Int32} (c0 : ¬ X 87 14 = 0) (c1 : ¬ X 87 16 < v2) (c2 : ¬ v2 = X 87 16) (c3 : ¬ nI v1 < X 37 0) (c4 : ¬ X 87 3 = 0) (hp : post none X) : Ev g mX8_seekFrom d n0 nf post nf 0 [some (.ref 87), some (.int (nI v1)), some (.int v2), some (.int v3), none] [] X := by
  refine ev_aload_n dX8_seekFrom_0 rfl ?_
  refine ev_getI dX8_seekFrom_1 fo_8_61 (by omega) lo_87 rfl ?_
  refine ev_ifF (tgt := 32) dX8_seekFrom_4 (by decide) c0 ?_
  refine ev_iload_n dX8_seekFrom_7 rfl ?_
  refine ev_aload_n dX8_seekFrom_8 rfl ?_
  refine ev_getI dX8_seekFrom_9 fo_8_65 (by omega) lo_87 rfl ?_
  refine ev_icmpF (tgt := 31) dX8_seekFrom_12 (by decide) c1 ?_
  refine ev_iload_n dX8_seekFrom_15 rfl ?_
  refine ev_aload_n dX8_seekFrom_16 rfl ?_
  refine ev_getI dX8_seekFrom_17 fo_8_65 (by omega) lo_87 rfl ?_
  refine ev_icmpT (tgt := 32) dX8_seekFrom_20 (by decide) c2 ?_
  refine ev_iload_n dX8_seekFrom_32 rfl ?_
  refine ev_aload_n dX8_seekFrom_33 rfl ?_
  refine ev_getS (q := 1) dX8_seekFrom_34 fo_8_44 (by omega) lo_87 rfl (sh_87_0 hX (by omega)) (by decide) ?_
  refine ev_getS (q := 37) dX8_seekFrom_37 fo_8_101 (by omega) lo_1 rfl (sh_1_2 hX (by omega)) (by decide) ?_
  refine ev_getI dX8_seekFrom_40 fo_8_105 (by omega) lo_37 rfl ?_
  refine ev_icmpF (tgt := 60) dX8_seekFrom_43 (by decide) c3 ?_
  refine ev_aload_n dX8_seekFrom_46 rfl ?_
  refine ev_getI dX8_seekFrom_47 fo_8_77 (by omega) lo_87 rfl ?_
  refine ev_ifT (tgt := 59) dX8_seekFrom_50 (by decide) c4 ?_
  exact ev_ret dX8_seekFrom_59 rfl hp
theorem bX8_seekFrom_0_6 {g : GG} {d n0 nf : Nat} {post : Option Value → LX → Prop} {n : Nat} {X : LX} (hn : 146 ≤ n) (hX : Sh n X) {v1 : Nat} {v2 : Int32} {v3 : Int32} (c0 : ¬ X 87 14 = 0) (c1 : ¬ X 87 16 < v2) (c2 : ¬ v2 = X 87 16) (c3 : nI v1 < X 37 0) (b0 : v1 < 12) (k : Ev g mX8_seekFrom d n0 nf post n 73 [some (.ref 87), some (.int (nI v1)), some (.int v2), some (.int v3), none] [.int v3, .int v2, .int ((nI v1) + 1), .ref 87] (lx_up X 107 v1 (-1))) : Ev g mX8_seekFrom d n0 nf post n 0 [some (.ref 87), some (.int (nI v1)), some (.int v2), some (.int v3), none] [] X := by
  refine ev_aload_n dX8_seekFrom_0 rfl ?_
  refine ev_getI dX8_seekFrom_1 fo_8_61 (by omega) lo_87 rfl ?_
  refine ev_ifF (tgt := 32) dX8_seekFrom_4 (by decide) c0 ?_
  refine ev_iload_n dX8_seekFrom_7 rfl ?_
  refine ev_aload_n dX8_seekFrom_8 rfl ?_
  refine ev_getI dX8_seekFrom_9 fo_8_65 (by omega) lo_87 rfl ?_
  refine ev_icmpF (tgt := 31) dX8_seekFrom_12 (by decide) c1 ?_
  refine ev_iload_n dX8_seekFrom_15 rfl ?_
  refine ev_aload_n dX8_seekFrom_16 rfl ?_
  refine ev_getI dX8_seekFrom_17 fo_8_65 (by omega) lo_87 rfl ?_
  refine ev_icmpT (tgt := 32) dX8_seekFrom_20 (by decide) c2 ?_
  refine ev_iload_n dX8_seekFrom_32 rfl ?_
  refine ev_aload_n dX8_seekFrom_33 rfl ?_
  refine ev_getS (q := 1) dX8_seekFrom_34 fo_8_44 (by omega) lo_87 rfl (sh_87_0 hX (by omega)) (by decide) ?_
  refine ev_getS (q := 37) dX8_seekFrom_37 fo_8_101 (by omega) lo_1 rfl (sh_1_2 hX (by omega)) (by decide) ?_
  refine ev_getI dX8_seekFrom_40 fo_8_105 (by omega) lo_37 rfl ?_
  refine ev_icmpT (tgt := 60) dX8_seekFrom_43 (by decide) c3 ?_
  refine ev_aload_n dX8_seekFrom_60 rfl ?_
  refine ev_getS (q := 107) dX8_seekFrom_61 fo_8_35 (by omega) lo_87 rfl (sh_87_10 hX (by omega)) (by decide) ?_
  refine ev_iload_n dX8_seekFrom_64 rfl ?_
  refine ev_iconst (v := (-1)) dX8_seekFrom_65 ki_m1 ?_
  refine ev_iast dX8_seekFrom_66 (by omega) ly_107 rfl b0 ?_
  have hX1 : Sh _ (lx_up X 107 v1 (-1)) := Sh.upA hX (by rw [ly_107]; exact (by decide : 0 < 2))
  refine ev_aload_n dX8_seekFrom_67 rfl ?_
  refine ev_iload_n dX8_seekFrom_68 rfl ?_
  refine ev_iconst (v := 1) dX8_seekFrom_69 ki_1 ?_
  refine ev_iadd dX8_seekFrom_70 ?_
  refine ev_iload_n dX8_seekFrom_71 rfl ?_
  refine ev_iload_n dX8_seekFrom_72 rfl ?_
  exact k
theorem bX8_seekFrom_0_7 {g : GG} {d n0 nf : Nat} {post : Option Value → LX → Prop} {n : Nat} {X : LX} (hn : 146 ≤ nf) (hX : Sh nf X) {v1 : Nat} {v2 : Int32} {v3 : Int32} (c0 : ¬ X 87 14 = 0) (c1 : X 87 16 < v2) (hp : post none X) : Ev g mX8_seekFrom d n0 nf post nf 0 [some (.ref 87), some (.int (nI v1)), some (.int v2), some (.int v3), none] [] X := by
  refine ev_aload_n dX8_seekFrom_0 rfl ?_
  refine ev_getI dX8_seekFrom_1 fo_8_61 (by omega) lo_87 rfl ?_
  refine ev_ifF (tgt := 32) dX8_seekFrom_4 (by decide) c0 ?_
  refine ev_iload_n dX8_seekFrom_7 rfl ?_
  refine ev_aload_n dX8_seekFrom_8 rfl ?_
  refine ev_getI dX8_seekFrom_9 fo_8_65 (by omega) lo_87 rfl ?_
  refine ev_icmpT (tgt := 31) dX8_seekFrom_12 (by decide) c1 ?_
  exact ev_ret dX8_seekFrom_31 rfl hp
theorem bX8_seekFrom_0_8 {g : GG} {d n0 nf : Nat} {post : Option Value → LX → Prop} {n : Nat} {X : LX} (hn : 146 ≤ n) (hX : Sh n X) {v1 : Nat} {v2 : Int32} {v3 : Int32} (c0 : X 87 14 = 0) (c1 : ¬ nI v1 < X 37 0) (c2 : X 87 3 = 0) (k : Ev g mX8_seekFrom d n0 nf post n 56 [some (.ref 87), some (.int (nI v1)), some (.int v2), some (.int v3), none] [.int v3, .int v2, .ref 87] X) : Ev g mX8_seekFrom d n0 nf post n 0 [some (.ref 87), some (.int (nI v1)), some (.int v2), some (.int v3), none] [] X := by
  refine ev_aload_n dX8_seekFrom_0 rfl ?_
  refine ev_getI dX8_seekFrom_1 fo_8_61 (by omega) lo_87 rfl ?_
  refine ev_ifT (tgt := 32) dX8_seekFrom_4 (by decide) c0 ?_
  refine ev_iload_n dX8_seekFrom_32 rfl ?_
  refine ev_aload_n dX8_seekFrom_33 rfl ?_
  refine ev_getS (q := 1) dX8_seekFrom_34 fo_8_44 (by omega) lo_87 rfl (sh_87_0 hX (by omega)) (by decide) ?_
  refine ev_getS (q := 37) dX8_seekFrom_37 fo_8_101 (by omega) lo_1 rfl (sh_1_2 hX (by omega)) (by decide) ?_
  refine ev_getI dX8_seekFrom_40 fo_8_105 (by omega) lo_37 rfl ?_
  refine ev_icmpF (tgt := 60) dX8_seekFrom_43 (by decide) c1 ?_
  refine ev_aload_n dX8_seekFrom_46 rfl ?_
  refine ev_getI dX8_seekFrom_47 fo_8_77 (by omega) lo_87 rfl ?_
  refine ev_ifF (tgt := 59) dX8_seekFrom_50 (by decide) c2 ?_
  refine ev_aload_n dX8_seekFrom_53 rfl ?_
  refine ev_iload_n dX8_seekFrom_54 rfl ?_
  refine ev_iload_n dX8_seekFrom_55 rfl ?_
  exact k
theorem bX8_seekFrom_0_9 {g : GG} {d n0 nf : Nat} {post : Option Value → LX → Prop} {n : Nat} {X : LX} (hn : 146 ≤ nf) (hX : Sh nf X) {v1 : Nat} {v2 : Int32} {v3 : Int32} (c0 : X 87 14 = 0) (c1 : ¬ nI v1 < X 37 0) (c2 : ¬ X 87 3 = 0) (hp : post none X) : Ev g mX8_seekFrom d n0 nf post nf 0 [some (.ref 87), some (.int (nI v1)), some (.int v2), some (.int v3), none] [] X := by
  refine ev_aload_n dX8_seekFrom_0 rfl ?_
  refine ev_getI dX8_seekFrom_1 fo_8_61 (by omega) lo_87 rfl ?_
  refine ev_ifT (tgt := 32) dX8_seekFrom_4 (by decide) c0 ?_
  refine ev_iload_n dX8_seekFrom_32 rfl ?_
  refine ev_aload_n dX8_seekFrom_33 rfl ?_
  refine ev_getS (q := 1) dX8_seekFrom_34 fo_8_44 (by omega) lo_87 rfl (sh_87_0 hX (by omega)) (by decide) ?_
  refine ev_getS (q := 37) dX8_seekFrom_37 fo_8_101 (by omega) lo_1 rfl (sh_1_2 hX (by omega)) (by decide) ?_
  refine ev_getI dX8_seekFrom_40 fo_8_105 (by omega) lo_37 rfl ?_
  refine ev_icmpF (tgt := 60) dX8_seekFrom_43 (by decide) c1 ?_
  refine ev_aload_n dX8_seekFrom_46 rfl ?_
  refine ev_getI dX8_seekFrom_47 fo_8_77 (by omega) lo_87 rfl ?_
  refine ev_ifT (tgt := 59) dX8_seekFrom_50 (by decide) c2 ?_
  exact ev_ret dX8_seekFrom_59 rfl hp
theorem bX8_seekFrom_0_10 {g : GG} {d n0 nf : Nat} {post : Option Value → LX → Prop} {n : Nat} {X : LX} (hn : 146 ≤ n) (hX : Sh n X) {v1 : Nat} {v2 : Int32} {v3 : Int32} (c0 : X 87 14 = 0) (c1 : nI v1 < X 37 0) (b0 : v1 < 12) (k : Ev g mX8_seekFrom d n0 nf post n 73 [some (.ref 87), some (.int (nI v1)), some (.int v2), some (.int v3), none] [.int v3, .int v2, .int ((nI v1) + 1), .ref 87] (lx_up X 107 v1 (-1))) : Ev g mX8_seekFrom d n0 nf post n 0 [some (.ref 87), some (.int (nI v1)), some (.int v2), some (.int v3), none] [] X := by
  refine ev_aload_n dX8_seekFrom_0 rfl ?_
  refine ev_getI dX8_seekFrom_1 fo_8_61 (by omega) lo_87 rfl ?_
  refine ev_ifT (tgt := 32) dX8_seekFrom_4 (by decide) c0 ?_
  refine ev_iload_n dX8_seekFrom_32 rfl ?_
  refine ev_aload_n dX8_seekFrom_33 rfl ?_
  refine ev_getS (q := 1) dX8_seekFrom_34 fo_8_44 (by omega) lo_87 rfl (sh_87_0 hX (by omega)) (by decide) ?_
  refine ev_getS (q := 37) dX8_seekFrom_37 fo_8_101 (by omega) lo_1 rfl (sh_1_2 hX (by omega)) (by decide) ?_
  refine ev_getI dX8_seekFrom_40 fo_8_105 (by omega) lo_37 rfl ?_
  refine ev_icmpT (tgt := 60) dX8_seekFrom_43 (by decide) c1 ?_
  refine ev_aload_n dX8_seekFrom_60 rfl ?_
  refine ev_getS (q := 107) dX8_seekFrom_61 fo_8_35 (by omega) lo_87 rfl (sh_87_10 hX (by omega)) (by decide) ?_
  refine ev_iload_n dX8_seekFrom_64 rfl ?_
  refine ev_iconst (v := (-1)) dX8_seekFrom_65 ki_m1 ?_
  refine ev_iast dX8_seekFrom_66 (by omega) ly_107 rfl b0 ?_
  have hX1 : Sh _ (lx_up X 107 v1 (-1)) := Sh.upA hX (by rw [ly_107]; exact (by decide : 0 < 2))
  refine ev_aload_n dX8_seekFrom_67 rfl ?_
  refine ev_iload_n dX8_seekFrom_68 rfl ?_
  refine ev_iconst (v := 1) dX8_seekFrom_69 ki_1 ?_
  refine ev_iadd dX8_seekFrom_70 ?_
  refine ev_iload_n dX8_seekFrom_71 rfl ?_
  refine ev_iload_n dX8_seekFrom_72 rfl ?_
  exact k
theorem bX8_seekFrom_59_0 {g : GG} {d n0 nf : Nat} {post : Option Value → LX → Prop} {n : Nat} {X : LX} (hn : 146 ≤ nf) (hX : Sh nf X) {v1 : Int32} {v2 : Int32} {v3 : Int32} (hp : post none X) : Ev g mX8_seekFrom d n0 nf post nf 59 [some (.ref 87), some (.int v1), some (.int v2), some (.int v3), none] [] X := by
  exact ev_ret dX8_seekFrom_59 rfl hp
theorem bX8_seekFrom_76_0 {g : GG} {d n0 nf : Nat} {post : Option Value → LX → Prop} {n : Nat} {X : LX} (hn : 146 ≤ n) (hX : Sh n X) {v1 : Nat} {v2 : Int32} {v3 : Int32} (b0 : v1 < 13) (k : Ev g mX8_seekFrom d n0 nf post n 84 [some (.ref 87), some (.int (nI v1)), some (.int v2), some (.int v3), some (.int (X 102 v1))] [] X) : Ev g mX8_seekFrom d n0 nf post n 76 [some (.ref 87), some (.int (nI v1)), some (.int v2), some (.int v3), none] [] X := by
  refine ev_aload_n dX8_seekFrom_76 rfl ?_
  refine ev_getS (q := 102) dX8_seekFrom_77 fo_8_20 (by omega) lo_87 rfl (sh_87_4 hX (by omega)) (by decide) ?_
  refine ev_iload_n dX8_seekFrom_80 rfl ?_
  refine ev_iald dX8_seekFrom_81 (by omega) ly_102 rfl b0 ?_
  refine ev_istore dX8_seekFrom_82 (by decide) ?_
  exact k
theorem bX8_seekFrom_84_0 {g : GG} {d n0 nf : Nat} {post : Option Value → LX → Prop} {n : Nat} {X : LX} (hn : 146 ≤ nf) (hX : Sh nf X) {v1 : Nat} {v2 : Int32} {v3 : Int32} {v4 : Nat} {j1 : Nat} (hj1 : (nI v1) + 1 = nI j1) (b0 : j1 < 13) (c0 : ¬ X 102 j1 ≤ nI v4) (c1 : ¬ X 87 12 < X 87 13) (c2 : ¬ (X 87 13) + 1 ≤ X 87 12) (hp : post none (lx_up X 87 13 ((X 87 13) + 1))) : Ev g mX8_seekFrom d n0 nf post nf 84 [some (.ref 87), some (.int (nI v1)), some (.int v2), some (.int v3), some (.int (nI v4))] [] X := by
  refine ev_iload dX8_seekFrom_84 rfl ?_
  refine ev_aload_n dX8_seekFrom_86 rfl ?_
  refine ev_getS (q := 102) dX8_seekFrom_87 fo_8_20 (by omega) lo_87 rfl (sh_87_4 hX (by omega)) (by decide) ?_
  refine ev_iload_n dX8_seekFrom_90 rfl ?_
  refine ev_iconst (v := 1) dX8_seekFrom_91 ki_1 ?_
  refine ev_iadd dX8_seekFrom_92 ?_
  refine ev_iald dX8_seekFrom_93 (by omega) ly_102 hj1 b0 ?_
  refine ev_icmpF (tgt := 213) dX8_seekFrom_94 (by decide) c0 ?_
  refine ev_aload_n dX8_seekFrom_97 rfl ?_
  refine ev_getI dX8_seekFrom_98 fo_8_58 (by omega) lo_87 rfl ?_
  refine ev_aload_n dX8_seekFrom_101 rfl ?_
  refine ev_getI dX8_seekFrom_102 fo_8_54 (by omega) lo_87 rfl ?_
  refine ev_icmpF (tgt := 213) dX8_seekFrom_105 (by decide) c1 ?_
  refine ev_aload_n dX8_seekFrom_108 rfl ?_
  refine ev_dup dX8_seekFrom_109 rfl ?_
  refine ev_getI dX8_seekFrom_110 fo_8_58 (by omega) lo_87 rfl ?_
  refine ev_iconst (v := 1) dX8_seekFrom_113 ki_1 ?_
  refine ev_iadd dX8_seekFrom_114 ?_
  refine ev_putI dX8_seekFrom_115 fo_8_58 (by omega) lo_87 rfl rfl rfl ?_
  have hX1 : Sh _ (lx_up X 87 13 ((X 87 13) + 1)) := Sh.upF hX (by rw [lo_87]; decide) (by decide)
  refine ev_aload_n dX8_seekFrom_118 rfl ?_
  refine ev_getI dX8_seekFrom_119 fo_8_58 (by omega) lo_87 rfl ?_
  refine ev_aload_n dX8_seekFrom_122 rfl ?_
  refine ev_getI dX8_seekFrom_123 fo_8_54 (by omega) lo_87 rfl ?_
  refine ev_icmpF (tgt := 130) dX8_seekFrom_126 (by decide) c2 ?_
  exact ev_ret dX8_seekFrom_129 rfl hp
theorem bX8_seekFrom_84_1 {g : GG} {d n0 nf : Nat} {post : Option Value → LX → Prop} {n : Nat} {X : LX} (hn : 146 ≤ n) (hX : Sh n X) {v1 : Nat} {v2 : Int32} {v3 : Int32} {v4 : Nat} {j1 : Nat} (hj1 : (nI v1) + 1 = nI j1) (b0 : j1 < 13) (c0 : ¬ X 102 j1 ≤ nI v4) (c1 : ¬ X 87 12 < X 87 13) (c2 : (X 87 13) + 1 ≤ X 87 12) (b1 : v1 < 12) (b2 : v4 < 588) (b3 : v4 < 588) (b4 : v4 < 588) (k : Ev g mX8_seekFrom d n0 nf post n 160 [some (.ref 87), some (.int (nI v1)), some (.int v2), some (.int v3), some (.int (nI v4))] [.int (X 105 v4), .int (X 104 v4), .int (X 103 v4), .ref 87] (lx_up (lx_up X 87 13 ((X 87 13) + 1)) 107 v1 (nI v4))) : Ev g mX8_seekFrom d n0 nf post n 84 [some (.ref 87), some (.int (nI v1)), some (.int v2), some (.int v3), some (.int (nI v4))] [] X := by
  refine ev_iload dX8_seekFrom_84 rfl ?_
  refine ev_aload_n dX8_seekFrom_86 rfl ?_
  refine ev_getS (q := 102) dX8_seekFrom_87 fo_8_20 (by omega) lo_87 rfl (sh_87_4 hX (by omega)) (by decide) ?_
  refine ev_iload_n dX8_seekFrom_90 rfl ?_
  refine ev_iconst (v := 1) dX8_seekFrom_91 ki_1 ?_
  refine ev_iadd dX8_seekFrom_92 ?_
  refine ev_iald dX8_seekFrom_93 (by omega) ly_102 hj1 b0 ?_
  refine ev_icmpF (tgt := 213) dX8_seekFrom_94 (by decide) c0 ?_
  refine ev_aload_n dX8_seekFrom_97 rfl ?_
  refine ev_getI dX8_seekFrom_98 fo_8_58 (by omega) lo_87 rfl ?_
  refine ev_aload_n dX8_seekFrom_101 rfl ?_
  refine ev_getI dX8_seekFrom_102 fo_8_54 (by omega) lo_87 rfl ?_
  refine ev_icmpF (tgt := 213) dX8_seekFrom_105 (by decide) c1 ?_
  refine ev_aload_n dX8_seekFrom_108 rfl ?_
  refine ev_dup dX8_seekFrom_109 rfl ?_
  refine ev_getI dX8_seekFrom_110 fo_8_58 (by omega) lo_87 rfl ?_
  refine ev_iconst (v := 1) dX8_seekFrom_113 ki_1 ?_
  refine ev_iadd dX8_seekFrom_114 ?_
  refine ev_putI dX8_seekFrom_115 fo_8_58 (by omega) lo_87 rfl rfl rfl ?_
  have hX1 : Sh _ (lx_up X 87 13 ((X 87 13) + 1)) := Sh.upF hX (by rw [lo_87]; decide) (by decide)
  refine ev_aload_n dX8_seekFrom_118 rfl ?_
  refine ev_getI dX8_seekFrom_119 fo_8_58 (by omega) lo_87 rfl ?_
  refine ev_aload_n dX8_seekFrom_122 rfl ?_
  refine ev_getI dX8_seekFrom_123 fo_8_54 (by omega) lo_87 rfl ?_
  refine ev_icmpT (tgt := 130) dX8_seekFrom_126 (by decide) c2 ?_
  refine ev_aload_n dX8_seekFrom_130 rfl ?_
  refine ev_getS (q := 107) dX8_seekFrom_131 fo_8_35 (by omega) lo_87 rfl (sh_87_10 hX1 (by omega)) (by decide) ?_
  refine ev_iload_n dX8_seekFrom_134 rfl ?_
  refine ev_iload dX8_seekFrom_135 rfl ?_
  refine ev_iast dX8_seekFrom_137 (by omega) ly_107 rfl b1 ?_
  have hX2 : Sh _ (lx_up (lx_up X 87 13 ((X 87 13) + 1)) 107 v1 (nI v4)) := Sh.upA hX1 (by rw [ly_107]; exact (by decide : 0 < 2))
  refine ev_aload_n dX8_seekFrom_138 rfl ?_
  refine ev_aload_n dX8_seekFrom_139 rfl ?_
  refine ev_getS (q := 103) dX8_seekFrom_140 fo_8_23 (by omega) lo_87 rfl (sh_87_5 hX2 (by omega)) (by decide) ?_
  refine ev_iload dX8_seekFrom_143 rfl ?_
  refine ev_iald dX8_seekFrom_145 (by omega) ly_103 rfl b2 ?_
  refine ev_aload_n dX8_seekFrom_146 rfl ?_
  refine ev_getS (q := 104) dX8_seekFrom_147 fo_8_26 (by omega) lo_87 rfl (sh_87_6 hX2 (by omega)) (by decide) ?_
  refine ev_iload dX8_seekFrom_150 rfl ?_
  refine ev_iald dX8_seekFrom_152 (by omega) ly_104 rfl b3 ?_
  refine ev_aload_n dX8_seekFrom_153 rfl ?_
  refine ev_getS (q := 105) dX8_seekFrom_154 fo_8_29 (by omega) lo_87 rfl (sh_87_7 hX2 (by omega)) (by decide) ?_
  refine ev_iload dX8_seekFrom_157 rfl ?_
  refine ev_iald dX8_seekFrom_159 (by omega) ly_105 rfl b4 ?_
  exact k
theorem bX8_seekFrom_84_2 {g : GG} {d n0 nf : Nat} {post : Option Value → LX → Prop} {n : Nat} {X : LX} (hn : 146 ≤ nf) (hX : Sh nf X) {v1 : Nat} {v2 : Int32} {v3 : Int32} {v4 : Nat} {j1 : Nat} (hj1 : (nI v1) + 1 = nI j1) (b0 : j1 < 13) (c0 : ¬ X 102 j1 ≤ nI v4) (c1 : X 87 12 < X 87 13) (hp : post none X) : Ev g mX8_seekFrom d n0 nf post nf 84 [some (.ref 87), some (.int (nI v1)), some (.int v2), some (.int v3), some (.int (nI v4))] [] X := by
  refine ev_iload dX8_seekFrom_84 rfl ?_
  refine ev_aload_n dX8_seekFrom_86 rfl ?_
  refine ev_getS (q := 102) dX8_seekFrom_87 fo_8_20 (by omega) lo_87 rfl (sh_87_4 hX (by omega)) (by decide) ?_
  refine ev_iload_n dX8_seekFrom_90 rfl ?_
  refine ev_iconst (v := 1) dX8_seekFrom_91 ki_1 ?_
  refine ev_iadd dX8_seekFrom_92 ?_
  refine ev_iald dX8_seekFrom_93 (by omega) ly_102 hj1 b0 ?_
  refine ev_icmpF (tgt := 213) dX8_seekFrom_94 (by decide) c0 ?_
  refine ev_aload_n dX8_seekFrom_97 rfl ?_
  refine ev_getI dX8_seekFrom_98 fo_8_58 (by omega) lo_87 rfl ?_
  refine ev_aload_n dX8_seekFrom_101 rfl ?_
  refine ev_getI dX8_seekFrom_102 fo_8_54 (by omega) lo_87 rfl ?_
  refine ev_icmpT (tgt := 213) dX8_seekFrom_105 (by decide) c1 ?_
  exact ev_ret dX8_seekFrom_213 rfl hp
theorem bX8_seekFrom_84_3 {g : GG} {d n0 nf : Nat} {post : Option Value → LX → Prop} {n : Nat} {X : LX} (hn : 146 ≤ nf) (hX : Sh nf X) {v1 : Nat} {v2 : Int32} {v3 : Int32} {v4 : Nat} {j1 : Nat} (hj1 : (nI v1) + 1 = nI j1) (b0 : j1 < 13) (c0 : X 102 j1 ≤ nI v4) (hp : post none X) : Ev g mX8_seekFrom d n0 nf post nf 84 [some (.ref 87), some (.int (nI v1)), some (.int v2), some (.int v3), some (.int (nI v4))] [] X := by
  refine ev_iload dX8_seekFrom_84 rfl ?_
  refine ev_aload_n dX8_seekFrom_86 rfl ?_
  refine ev_getS (q := 102) dX8_seekFrom_87 fo_8_20 (by omega) lo_87 rfl (sh_87_4 hX (by omega)) (by decide) ?_
  refine ev_iload_n dX8_seekFrom_90 rfl ?_
  refine ev_iconst (v := 1) dX8_seekFrom_91 ki_1 ?_
  refine ev_iadd dX8_seekFrom_92 ?_
  refine ev_iald dX8_seekFrom_93 (by omega) ly_102 hj1 b0 ?_
  refine ev_icmpT (tgt := 213) dX8_seekFrom_94 (by decide) c0 ?_
  exact ev_ret dX8_seekFrom_213 rfl hp
theorem bX8_seekFrom_163_0 {g : GG} {d n0 nf : Nat} {post : Option Value → LX → Prop} {n : Nat} {X : LX} (hn : 146 ≤ n) (hX : Sh n X) {v1 : Int32} {v2 : Int32} {v3 : Int32} {v4 : Nat} (b0 : v4 < 588) (k : Ev g mX8_seekFrom d n0 nf post n 179 [some (.ref 87), some (.int v1), some (.int v2), some (.int v3), some (.int (nI v4))] [.int (v3 + 1), .int (v2 + (X 106 v4)), .int (v1 + 1), .ref 87] X) : Ev g mX8_seekFrom d n0 nf post n 163 [some (.ref 87), some (.int v1), some (.int v2), some (.int v3), some (.int (nI v4))] [] X := by
  refine ev_aload_n dX8_seekFrom_163 rfl ?_
  refine ev_iload_n dX8_seekFrom_164 rfl ?_
  refine ev_iconst (v := 1) dX8_seekFrom_165 ki_1 ?_
  refine ev_iadd dX8_seekFrom_166 ?_
  refine ev_iload_n dX8_seekFrom_167 rfl ?_
  refine ev_aload_n dX8_seekFrom_168 rfl ?_
  refine ev_getS (q := 106) dX8_seekFrom_169 fo_8_32 (by omega) lo_87 rfl (sh_87_8 hX (by omega)) (by decide) ?_
  refine ev_iload dX8_seekFrom_172 rfl ?_
  refine ev_iald dX8_seekFrom_174 (by omega) ly_106 rfl b0 ?_
  refine ev_iadd dX8_seekFrom_175 ?_
  refine ev_iload_n dX8_seekFrom_176 rfl ?_
  refine ev_iconst (v := 1) dX8_seekFrom_177 ki_1 ?_
  refine ev_iadd dX8_seekFrom_178 ?_
  exact k
theorem bX8_seekFrom_182_0 {g : GG} {d n0 nf : Nat} {post : Option Value → LX → Prop} {n : Nat} {X : LX} (hn : 146 ≤ n) (hX : Sh n X) {v1 : Int32} {v2 : Int32} {v3 : Int32} {v4 : Nat} (b0 : v4 < 588) (b1 : v4 < 588) (b2 : v4 < 588) (k : Ev g mX8_seekFrom d n0 nf post n 204 [some (.ref 87), some (.int v1), some (.int v2), some (.int v3), some (.int (nI v4))] [.int (X 105 v4), .int (X 103 v4), .int (X 104 v4), .ref 87] X) : Ev g mX8_seekFrom d n0 nf post n 182 [some (.ref 87), some (.int v1), some (.int v2), some (.int v3), some (.int (nI v4))] [] X := by
  refine ev_aload_n dX8_seekFrom_182 rfl ?_
  refine ev_aload_n dX8_seekFrom_183 rfl ?_
  refine ev_getS (q := 104) dX8_seekFrom_184 fo_8_26 (by omega) lo_87 rfl (sh_87_6 hX (by omega)) (by decide) ?_
  refine ev_iload dX8_seekFrom_187 rfl ?_
  refine ev_iald dX8_seekFrom_189 (by omega) ly_104 rfl b0 ?_
  refine ev_aload_n dX8_seekFrom_190 rfl ?_
  refine ev_getS (q := 103) dX8_seekFrom_191 fo_8_23 (by omega) lo_87 rfl (sh_87_5 hX (by omega)) (by decide) ?_
  refine ev_iload dX8_seekFrom_194 rfl ?_
  refine ev_iald dX8_seekFrom_196 (by omega) ly_103 rfl b1 ?_
  refine ev_aload_n dX8_seekFrom_197 rfl ?_
  refine ev_getS (q := 105) dX8_seekFrom_198 fo_8_29 (by omega) lo_87 rfl (sh_87_7 hX (by omega)) (by decide) ?_
  refine ev_iload dX8_seekFrom_201 rfl ?_
  refine ev_iald dX8_seekFrom_203 (by omega) ly_105 rfl b2 ?_
  exact k
theorem bX8_seekFrom_207_0 {g : GG} {d n0 nf : Nat} {post : Option Value → LX → Prop} {n : Nat} {X : LX} (hn : 146 ≤ n) (hX : Sh n X) {v1 : Int32} {v2 : Int32} {v3 : Int32} {v4 : Int32} (k : Ev g mX8_seekFrom d n0 nf post n 84 [some (.ref 87), some (.int v1), some (.int v2), some (.int v3), some (.int (v4 + 1))] [] X) : Ev g mX8_seekFrom d n0 nf post n 207 [some (.ref 87), some (.int v1), some (.int v2), some (.int v3), some (.int v4)] [] X := by
  refine ev_iinc (v := v4 + 1) dX8_seekFrom_207 rfl (by rw [show Int32.ofInt 1 = 1 from ki_1]) (by decide) ?_
  refine ev_goto (tgt := 84) dX8_seekFrom_210 (by decide) ?_
  exact k
theorem bX8_move_0_0 {g : GG} {d n0 nf : Nat} {post : Option Value → LX → Prop} {n : Nat} {X : LX} (hn : 146 ≤ n) (hX : Sh n X) {v1 : Int32} {v2 : Int32} {v3 : Int32} (k : Ev g mX8_move d n0 nf post n 3 [some (.ref 87), some (.int v1), some (.int v2), some (.int v3)] [.int v3, .int v1, .ref 87] X) : Ev g mX8_move d n0 nf post n 0 [some (.ref 87), some (.int v1), some (.int v2), some (.int v3)] [] X := by
  refine ev_aload_n dX8_move_0 rfl ?_
  refine ev_iload_n dX8_move_1 rfl ?_
  refine ev_iload_n dX8_move_2 rfl ?_
  exact k
theorem bX8_move_6_0 {g : GG} {d n0 nf : Nat} {post : Option Value → LX → Prop} {n : Nat} {X : LX} (hn : 146 ≤ n) (hX : Sh n X) {v1 : Int32} {v2 : Int32} {v3 : Int32} (k : Ev g mX8_move d n0 nf post n 10 [some (.ref 87), some (.int v1), some (.int v2), some (.int v3)] [.int (-v3), .int v2, .ref 87] X) : Ev g mX8_move d n0 nf post n 6 [some (.ref 87), some (.int v1), some (.int v2), some (.int v3)] [] X := by
  refine ev_aload_n dX8_move_6 rfl ?_
  refine ev_iload_n dX8_move_7 rfl ?_
  refine ev_iload_n dX8_move_8 rfl ?_
  refine ev_ineg dX8_move_9 ?_
  exact k
theorem bX8_move_13_0 {g : GG} {d n0 nf : Nat} {post : Option Value → LX → Prop} {n : Nat} {X : LX} (hn : 146 ≤ nf) (hX : Sh nf X) {v1 : Int32} {v2 : Int32} {v3 : Int32} (hp : post none X) : Ev g mX8_move d n0 nf post nf 13 [some (.ref 87), some (.int v1), some (.int v2), some (.int v3)] [] X := by
  exact ev_ret dX8_move_13 rfl hp
theorem bX8_change_0_0 {g : GG} {d n0 nf : Nat} {post : Option Value → LX → Prop} {n : Nat} {X : LX} (hn : 146 ≤ nf) (hX : Sh nf X) {v1 : Nat} {v2 : Int32} (b0 : v1 < 14) (c0 : ¬ 0 ≤ X 101 v1) (b1 : v1 < 14) (b2 : v1 < 14) (b3 : v1 < 14) (c1 : ¬ 0 ≤ (lx_up (lx_up X 87 3 ((X 87 3) - 1)) 101 v1 ((X 101 v1) + v2)) 101 v1) (hp : post none (lx_up (lx_up (lx_up X 87 3 ((X 87 3) - 1)) 101 v1 ((X 101 v1) + v2)) 87 3 (((X 87 3) - 1) + 1))) : Ev g mX8_change d n0 nf post nf 0 [some (.ref 87), some (.int (nI v1)), some (.int v2)] [] X := by
  refine ev_aload_n dX8_change_0 rfl ?_
  refine ev_getS (q := 101) dX8_change_1 fo_8_16 (by omega) lo_87 rfl (sh_87_2 hX (by omega)) (by decide) ?_
  refine ev_iload_n dX8_change_4 rfl ?_
  refine ev_iald dX8_change_5 (by omega) ly_101 rfl b0 ?_
  refine ev_ifF (tgt := 19) dX8_change_6 (by decide) c0 ?_
  refine ev_aload_n dX8_change_9 rfl ?_
  refine ev_dup dX8_change_10 rfl ?_
  refine ev_getI dX8_change_11 fo_8_77 (by omega) lo_87 rfl ?_
  refine ev_iconst (v := 1) dX8_change_14 ki_1 ?_
  refine ev_isub dX8_change_15 ?_
  refine ev_putI dX8_change_16 fo_8_77 (by omega) lo_87 rfl rfl rfl ?_
  have hX1 : Sh _ (lx_up X 87 3 ((X 87 3) - 1)) := Sh.upF hX (by rw [lo_87]; decide) (by decide)
  refine ev_aload_n dX8_change_19 rfl ?_
  refine ev_getS (q := 101) dX8_change_20 fo_8_16 (by omega) lo_87 rfl (sh_87_2 hX1 (by omega)) (by decide) ?_
  refine ev_iload_n dX8_change_23 rfl ?_
  refine ev_dup2 dX8_change_24 rfl rfl ?_
  refine ev_iald dX8_change_25 (by omega) ly_101 rfl b1 ?_
  refine ev_iload_n dX8_change_26 rfl ?_
  refine ev_iadd dX8_change_27 ?_
  refine ev_iast dX8_change_28 (by omega) ly_101 rfl b2 ?_
  have hX2 : Sh _ (lx_up (lx_up X 87 3 ((X 87 3) - 1)) 101 v1 ((X 101 v1) + v2)) := Sh.upA hX1 (by rw [ly_101]; exact (by decide : 0 < 2))
  refine ev_aload_n dX8_change_29 rfl ?_
  refine ev_getS (q := 101) dX8_change_30 fo_8_16 (by omega) lo_87 rfl (sh_87_2 hX2 (by omega)) (by decide) ?_
  refine ev_iload_n dX8_change_33 rfl ?_
  refine ev_iald dX8_change_34 (by omega) ly_101 rfl b3 ?_
  refine ev_ifF (tgt := 48) dX8_change_35 (by decide) c1 ?_
  refine ev_aload_n dX8_change_38 rfl ?_
  refine ev_dup dX8_change_39 rfl ?_
  refine ev_getI dX8_change_40 fo_8_77 (by omega) lo_87 rfl ?_
  refine ev_iconst (v := 1) dX8_change_43 ki_1 ?_
  refine ev_iadd dX8_change_44 ?_
  refine ev_putI dX8_change_45 fo_8_77 (by omega) lo_87 rfl rfl rfl ?_
  have hX3 : Sh _ (lx_up (lx_up (lx_up X 87 3 ((X 87 3) - 1)) 101 v1 ((X 101 v1) + v2)) 87 3 (((X 87 3) - 1) + 1)) := Sh.upF hX2 (by rw [lo_87]; decide) (by decide)
  exact ev_ret dX8_change_48 rfl hp
theorem bX8_change_0_1 {g : GG} {d n0 nf : Nat} {post : Option Value → LX → Prop} {n : Nat} {X : LX} (hn : 146 ≤ nf) (hX : Sh nf X) {v1 : Nat} {v2 : Int32} (b0 : v1 < 14) (c0 : ¬ 0 ≤ X 101 v1) (b1 : v1 < 14) (b2 : v1 < 14) (b3 : v1 < 14) (c1 : 0 ≤ (lx_up (lx_up X 87 3 ((X 87 3) - 1)) 101 v1 ((X 101 v1) + v2)) 101 v1) (hp : post none (lx_up (lx_up X 87 3 ((X 87 3) - 1)) 101 v1 ((X 101 v1) + v2))) : Ev g mX8_change d n0 nf post nf 0 [some (.ref 87), some (.int (nI v1)), some (.int v2)] [] X := by
  refine ev_aload_n dX8_change_0 rfl ?_
  refine ev_getS (q := 101) dX8_change_1 fo_8_16 (by omega) lo_87 rfl (sh_87_2 hX (by omega)) (by decide) ?_
  refine ev_iload_n dX8_change_4 rfl ?_
  refine ev_iald dX8_change_5 (by omega) ly_101 rfl b0 ?_
  refine ev_ifF (tgt := 19) dX8_change_6 (by decide) c0 ?_
  refine ev_aload_n dX8_change_9 rfl ?_
  refine ev_dup dX8_change_10 rfl ?_
  refine ev_getI dX8_change_11 fo_8_77 (by omega) lo_87 rfl ?_
  refine ev_iconst (v := 1) dX8_change_14 ki_1 ?_
  refine ev_isub dX8_change_15 ?_
  refine ev_putI dX8_change_16 fo_8_77 (by omega) lo_87 rfl rfl rfl ?_
  have hX1 : Sh _ (lx_up X 87 3 ((X 87 3) - 1)) := Sh.upF hX (by rw [lo_87]; decide) (by decide)
  refine ev_aload_n dX8_change_19 rfl ?_
  refine ev_getS (q := 101) dX8_change_20 fo_8_16 (by omega) lo_87 rfl (sh_87_2 hX1 (by omega)) (by decide) ?_
  refine ev_iload_n dX8_change_23 rfl ?_
  refine ev_dup2 dX8_change_24 rfl rfl ?_
  refine ev_iald dX8_change_25 (by omega) ly_101 rfl b1 ?_
  refine ev_iload_n dX8_change_26 rfl ?_
  refine ev_iadd dX8_change_27 ?_
  refine ev_iast dX8_change_28 (by omega) ly_101 rfl b2 ?_
  have hX2 : Sh _ (lx_up (lx_up X 87 3 ((X 87 3) - 1)) 101 v1 ((X 101 v1) + v2)) := Sh.upA hX1 (by rw [ly_101]; exact (by decide : 0 < 2))
  refine ev_aload_n dX8_change_29 rfl ?_
  refine ev_getS (q := 101) dX8_change_30 fo_8_16 (by omega) lo_87 rfl (sh_87_2 hX2 (by omega)) (by decide) ?_
  refine ev_iload_n dX8_change_33 rfl ?_
  refine ev_iald dX8_change_34 (by omega) ly_101 rfl b3 ?_
  refine ev_ifT (tgt := 48) dX8_change_35 (by decide) c1 ?_
  exact ev_ret dX8_change_48 rfl hp
theorem bX8_change_0_2 {g : GG} {d n0 nf : Nat} {post : Option Value → LX → Prop} {n : Nat} {X : LX} (hn : 146 ≤ nf) (hX : Sh nf X) {v1 : Nat} {v2 : Int32} (b0 : v1 < 14) (c0 : 0 ≤ X 101 v1) (b1 : v1 < 14) (b2 : v1 < 14) (b3 : v1 < 14) (c1 : ¬ 0 ≤ (lx_up X 101 v1 ((X 101 v1) + v2)) 101 v1) (hp : post none (lx_up (lx_up X 101 v1 ((X 101 v1) + v2)) 87 3 ((X 87 3) + 1))) : Ev g mX8_change d n0 nf post nf 0 [some (.ref 87), some (.int (nI v1)), some (.int v2)] [] X := by
  refine ev_aload_n dX8_change_0 rfl ?_
  refine ev_getS (q := 101) dX8_change_1 fo_8_16 (by omega) lo_87 rfl (sh_87_2 hX (by omega)) (by decide) ?_
  refine ev_iload_n dX8_change_4 rfl ?_
  refine ev_iald dX8_change_5 (by omega) ly_101 rfl b0 ?_
  refine ev_ifT (tgt := 19) dX8_change_6 (by decide) c0 ?_
  refine ev_aload_n dX8_change_19 rfl ?_
  refine ev_getS (q := 101) dX8_change_20 fo_8_16 (by omega) lo_87 rfl (sh_87_2 hX (by omega)) (by decide) ?_
  refine ev_iload_n dX8_change_23 rfl ?_
  refine ev_dup2 dX8_change_24 rfl rfl ?_
  refine ev_iald dX8_change_25 (by omega) ly_101 rfl b1 ?_
  refine ev_iload_n dX8_change_26 rfl ?_
  refine ev_iadd dX8_change_27 ?_
  refine ev_iast dX8_change_28 (by omega) ly_101 rfl b2 ?_
  have hX1 : Sh _ (lx_up X 101 v1 ((X 101 v1) + v2)) := Sh.upA hX (by rw [ly_101]; exact (by decide : 0 < 2))
  refine ev_aload_n dX8_change_29 rfl ?_
  refine ev_getS (q := 101) dX8_change_30 fo_8_16 (by omega) lo_87 rfl (sh_87_2 hX1 (by omega)) (by decide) ?_
  refine ev_iload_n dX8_change_33 rfl ?_
  refine ev_iald dX8_change_34 (by omega) ly_101 rfl b3 ?_
  refine ev_ifF (tgt := 48) dX8_change_35 (by decide) c1 ?_
  refine ev_aload_n dX8_change_38 rfl ?_
  refine ev_dup dX8_change_39 rfl ?_
  refine ev_getI dX8_change_40 fo_8_77 (by omega) lo_87 rfl ?_
  refine ev_iconst (v := 1) dX8_change_43 ki_1 ?_
  refine ev_iadd dX8_change_44 ?_
  refine ev_putI dX8_change_45 fo_8_77 (by omega) lo_87 rfl rfl rfl ?_
  have hX2 : Sh _ (lx_up (lx_up X 101 v1 ((X 101 v1) + v2)) 87 3 ((X 87 3) + 1)) := Sh.upF hX1 (by rw [lo_87]; decide) (by decide)
  exact ev_ret dX8_change_48 rfl hp
theorem bX8_change_0_3 {g : GG} {d n0 nf : Nat} {post : Option Value → LX → Prop} {n : Nat} {X : LX} (hn : 146 ≤ nf) (hX : Sh nf X) {v1 : Nat} {v2 : Int32} (b0 : v1 < 14) (c0 : 0 ≤ X 101 v1) (b1 : v1 < 14) (b2 : v1 < 14) (b3 : v1 < 14) (c1 : 0 ≤ (lx_up X 101 v1 ((X 101 v1) + v2)) 101 v1) (hp : post none (lx_up X 101 v1 ((X 101 v1) + v2))) : Ev g mX8_change d n0 nf post nf 0 [some (.ref 87), some (.int (nI v1)), some (.int v2)] [] X := by
  refine ev_aload_n dX8_change_0 rfl ?_
  refine ev_getS (q := 101) dX8_change_1 fo_8_16 (by omega) lo_87 rfl (sh_87_2 hX (by omega)) (by decide) ?_
  refine ev_iload_n dX8_change_4 rfl ?_
  refine ev_iald dX8_change_5 (by omega) ly_101 rfl b0 ?_
  refine ev_ifT (tgt := 19) dX8_change_6 (by decide) c0 ?_
  refine ev_aload_n dX8_change_19 rfl ?_
  refine ev_getS (q := 101) dX8_change_20 fo_8_16 (by omega) lo_87 rfl (sh_87_2 hX (by omega)) (by decide) ?_
  refine ev_iload_n dX8_change_23 rfl ?_
  refine ev_dup2 dX8_change_24 rfl rfl ?_
  refine ev_iald dX8_change_25 (by omega) ly_101 rfl b1 ?_
  refine ev_iload_n dX8_change_26 rfl ?_
  refine ev_iadd dX8_change_27 ?_
  refine ev_iast dX8_change_28 (by omega) ly_101 rfl b2 ?_
  have hX1 : Sh _ (lx_up X 101 v1 ((X 101 v1) + v2)) := Sh.upA hX (by rw [ly_101]; exact (by decide : 0 < 2))
  refine ev_aload_n dX8_change_29 rfl ?_
  refine ev_getS (q := 101) dX8_change_30 fo_8_16 (by omega) lo_87 rfl (sh_87_2 hX1 (by omega)) (by decide) ?_
  refine ev_iload_n dX8_change_33 rfl ?_
  refine ev_iald dX8_change_34 (by omega) ly_101 rfl b3 ?_
  refine ev_ifT (tgt := 48) dX8_change_35 (by decide) c1 ?_
  exact ev_ret dX8_change_48 rfl hp
theorem bX8_takeRow_0_0 {g : GG} {d n0 nf : Nat} {post : Option Value → LX → Prop} {n : Nat} {X : LX} (hn : 146 ≤ n) (hX : Sh n X) {v1 : Int32} {v2 : Int32} (k : Ev g mX8_takeRow d n0 nf post n 23 [some (.ref 87), some (.int v1), some (.int v2)] [.ref 108, .ref 107] (lx_up (lx_up (lx_up X 87 14 1) 87 16 v1) 87 15 v2)) : Ev g mX8_takeRow d n0 nf post n 0 [some (.ref 87), some (.int v1), some (.int v2)] [] X := by
  refine ev_aload_n dX8_takeRow_0 rfl ?_
  refine ev_iconst (v := 1) dX8_takeRow_1 ki_1 ?_
  refine ev_putZ dX8_takeRow_2 fo_8_61 (by omega) lo_87 rfl rfl rfl (by decide) ?_
  have hX1 : Sh _ (lx_up X 87 14 1) := Sh.upF hX (by rw [lo_87]; decide) (by decide)
  refine ev_aload_n dX8_takeRow_5 rfl ?_
  refine ev_iload_n dX8_takeRow_6 rfl ?_
  refine ev_putI dX8_takeRow_7 fo_8_65 (by omega) lo_87 rfl rfl rfl ?_
  have hX2 : Sh _ (lx_up (lx_up X 87 14 1) 87 16 v1) := Sh.upF hX1 (by rw [lo_87]; decide) (by decide)
  refine ev_aload_n dX8_takeRow_10 rfl ?_
  refine ev_iload_n dX8_takeRow_11 rfl ?_
  refine ev_putI dX8_takeRow_12 fo_8_68 (by omega) lo_87 rfl rfl rfl ?_
  have hX3 : Sh _ (lx_up (lx_up (lx_up X 87 14 1) 87 16 v1) 87 15 v2) := Sh.upF hX2 (by rw [lo_87]; decide) (by decide)
  refine ev_aload_n dX8_takeRow_15 rfl ?_
  refine ev_getS (q := 107) dX8_takeRow_16 fo_8_35 (by omega) lo_87 rfl (sh_87_10 hX3 (by omega)) (by decide) ?_
  refine ev_aload_n dX8_takeRow_19 rfl ?_
  refine ev_getS (q := 108) dX8_takeRow_20 fo_8_38 (by omega) lo_87 rfl (sh_87_11 hX3 (by omega)) (by decide) ?_
  exact k
theorem bX8_takeRow_26_0 {g : GG} {d n0 nf : Nat} {post : Option Value → LX → Prop} {n : Nat} {X : LX} (hn : 146 ≤ nf) (hX : Sh nf X) {v1 : Int32} {v2 : Int32} (hp : post none X) : Ev g mX8_takeRow d n0 nf post nf 26 [some (.ref 87), some (.int v1), some (.int v2)] [] X := by
  exact ev_ret dX8_takeRow_26 rfl hp
theorem bX8_isSwapped_0_0 {g : GG} {d n0 nf : Nat} {post : Option Value → LX → Prop} {n : Nat} {X : LX} (hn : 146 ≤ nf) (hX : Sh nf X) {v1 : Nat} (b0 : v1 < 12) (c0 : ¬ X 108 v1 < 0) (hp : post (some (.int 1)) X) : Ev g mX8_isSwapped d n0 nf post nf 0 [some (.ref 87), some (.int (nI v1))] [] X := by
  refine ev_aload_n dX8_isSwapped_0 rfl ?_
  refine ev_getS (q := 108) dX8_isSwapped_1 fo_8_38 (by omega) lo_87 rfl (sh_87_11 hX (by omega)) (by decide) ?_
  refine ev_iload_n dX8_isSwapped_4 rfl ?_
  refine ev_iald dX8_isSwapped_5 (by omega) ly_108 rfl b0 ?_
  refine ev_ifF (tgt := 13) dX8_isSwapped_6 (by decide) c0 ?_
  refine ev_iconst (v := 1) dX8_isSwapped_9 ki_1 ?_
  refine ev_goto (tgt := 14) dX8_isSwapped_10 (by decide) ?_
  exact ev_iret dX8_isSwapped_14 rfl (by decide) hp
theorem bX8_isSwapped_0_1 {g : GG} {d n0 nf : Nat} {post : Option Value → LX → Prop} {n : Nat} {X : LX} (hn : 146 ≤ nf) (hX : Sh nf X) {v1 : Nat} (b0 : v1 < 12) (c0 : X 108 v1 < 0) (hp : post (some (.int 0)) X) : Ev g mX8_isSwapped d n0 nf post nf 0 [some (.ref 87), some (.int (nI v1))] [] X := by
  refine ev_aload_n dX8_isSwapped_0 rfl ?_
  refine ev_getS (q := 108) dX8_isSwapped_1 fo_8_38 (by omega) lo_87 rfl (sh_87_11 hX (by omega)) (by decide) ?_
  refine ev_iload_n dX8_isSwapped_4 rfl ?_
  refine ev_iald dX8_isSwapped_5 (by omega) ly_108 rfl b0 ?_
  refine ev_ifT (tgt := 13) dX8_isSwapped_6 (by decide) c0 ?_
  refine ev_iconst (v := 0) dX8_isSwapped_13 ki_0 ?_
  exact ev_iret dX8_isSwapped_14 rfl (by decide) hp
theorem bX8_goesOf_0_0 {g : GG} {d n0 nf : Nat} {post : Option Value → LX → Prop} {n : Nat} {X : LX} (hn : 146 ≤ nf) (hX : Sh nf X) {v1 : Nat} {j1 : Nat} (b0 : v1 < 12) (c0 : ¬ X 108 v1 < 0) (b1 : v1 < 12) (hj1 : X 108 v1 = nI j1) (b2 : j1 < 588) (hp : post (some (.int (X 103 j1))) X) : Ev g mX8_goesOf d n0 nf post nf 0 [some (.ref 87), some (.int (nI v1))] [] X := by
  refine ev_aload_n dX8_goesOf_0 rfl ?_
  refine ev_getS (q := 108) dX8_goesOf_1 fo_8_38 (by omega) lo_87 rfl (sh_87_11 hX (by omega)) (by decide) ?_
  refine ev_iload_n dX8_goesOf_4 rfl ?_
  refine ev_iald dX8_goesOf_5 (by omega) ly_108 rfl b0 ?_
  refine ev_ifF (tgt := 23) dX8_goesOf_6 (by decide) c0 ?_
  refine ev_aload_n dX8_goesOf_9 rfl ?_
  refine ev_getS (q := 103) dX8_goesOf_10 fo_8_23 (by omega) lo_87 rfl (sh_87_5 hX (by omega)) (by decide) ?_
  refine ev_aload_n dX8_goesOf_13 rfl ?_
  refine ev_getS (q := 108) dX8_goesOf_14 fo_8_38 (by omega) lo_87 rfl (sh_87_11 hX (by omega)) (by decide) ?_
  refine ev_iload_n dX8_goesOf_17 rfl ?_
  refine ev_iald dX8_goesOf_18 (by omega) ly_108 rfl b1 ?_
  refine ev_iald dX8_goesOf_19 (by omega) ly_103 hj1 b2 ?_
  refine ev_goto (tgt := 25) dX8_goesOf_20 (by decide) ?_
  exact ev_iret dX8_goesOf_25 rfl rfl hp
theorem bX8_goesOf_0_1 {g : GG} {d n0 nf : Nat} {post : Option Value → LX → Prop} {n : Nat} {X : LX} (hn : 146 ≤ nf) (hX : Sh nf X) {v1 : Nat} (b0 : v1 < 12) (c0 : X 108 v1 < 0) (hp : post (some (.int (-1000000005))) X) : Ev g mX8_goesOf d n0 nf post nf 0 [some (.ref 87), some (.int (nI v1))] [] X := by
  refine ev_aload_n dX8_goesOf_0 rfl ?_
  refine ev_getS (q := 108) dX8_goesOf_1 fo_8_38 (by omega) lo_87 rfl (sh_87_11 hX (by omega)) (by decide) ?_
  refine ev_iload_n dX8_goesOf_4 rfl ?_
  refine ev_iald dX8_goesOf_5 (by omega) ly_108 rfl b0 ?_
  refine ev_ifT (tgt := 23) dX8_goesOf_6 (by decide) c0 ?_
  refine ev_ldc (v := (-1000000005)) dX8_goesOf_23 kw_8_147 ?_
  exact ev_iret dX8_goesOf_25 rfl rfl hp
theorem bX8_comesOf_0_0 {g : GG} {d n0 nf : Nat} {post : Option Value → LX → Prop} {n : Nat} {X : LX} (hn : 146 ≤ nf) (hX : Sh nf X) {v1 : Nat} {j1 : Nat} (b0 : v1 < 12) (c0 : ¬ X 108 v1 < 0) (b1 : v1 < 12) (hj1 : X 108 v1 = nI j1) (b2 : j1 < 588) (hp : post (some (.int (X 104 j1))) X) : Ev g mX8_comesOf d n0 nf post nf 0 [some (.ref 87), some (.int (nI v1))] [] X := by
  refine ev_aload_n dX8_comesOf_0 rfl ?_
  refine ev_getS (q := 108) dX8_comesOf_1 fo_8_38 (by omega) lo_87 rfl (sh_87_11 hX (by omega)) (by decide) ?_
  refine ev_iload_n dX8_comesOf_4 rfl ?_
  refine ev_iald dX8_comesOf_5 (by omega) ly_108 rfl b0 ?_
  refine ev_ifF (tgt := 23) dX8_comesOf_6 (by decide) c0 ?_
  refine ev_aload_n dX8_comesOf_9 rfl ?_
  refine ev_getS (q := 104) dX8_comesOf_10 fo_8_26 (by omega) lo_87 rfl (sh_87_6 hX (by omega)) (by decide) ?_
  refine ev_aload_n dX8_comesOf_13 rfl ?_
  refine ev_getS (q := 108) dX8_comesOf_14 fo_8_38 (by omega) lo_87 rfl (sh_87_11 hX (by omega)) (by decide) ?_
  refine ev_iload_n dX8_comesOf_17 rfl ?_
  refine ev_iald dX8_comesOf_18 (by omega) ly_108 rfl b1 ?_
  refine ev_iald dX8_comesOf_19 (by omega) ly_104 hj1 b2 ?_
  refine ev_goto (tgt := 25) dX8_comesOf_20 (by decide) ?_
  exact ev_iret dX8_comesOf_25 rfl rfl hp
theorem bX8_comesOf_0_1 {g : GG} {d n0 nf : Nat} {post : Option Value → LX → Prop} {n : Nat} {X : LX} (hn : 146 ≤ nf) (hX : Sh nf X) {v1 : Nat} (b0 : v1 < 12) (c0 : X 108 v1 < 0) (hp : post (some (.int (-1000000005))) X) : Ev g mX8_comesOf d n0 nf post nf 0 [some (.ref 87), some (.int (nI v1))] [] X := by
  refine ev_aload_n dX8_comesOf_0 rfl ?_
  refine ev_getS (q := 108) dX8_comesOf_1 fo_8_38 (by omega) lo_87 rfl (sh_87_11 hX (by omega)) (by decide) ?_
  refine ev_iload_n dX8_comesOf_4 rfl ?_
  refine ev_iald dX8_comesOf_5 (by omega) ly_108 rfl b0 ?_
  refine ev_ifT (tgt := 23) dX8_comesOf_6 (by decide) c0 ?_
  refine ev_ldc (v := (-1000000005)) dX8_comesOf_23 kw_8_147 ?_
  exact ev_iret dX8_comesOf_25 rfl rfl hp
theorem bX8_listRows_0_0 {g : GG} {d n0 nf : Nat} {post : Option Value → LX → Prop} {n : Nat} {X : LX} (hn : 146 ≤ n) (hX : Sh n X)  (k : Ev g mX8_listRows d n0 nf post n 7 [some (.ref 87), some (.int 0)] [] (lx_up X 87 18 0)) : Ev g mX8_listRows d n0 nf post n 0 [some (.ref 87), none] [] X := by
  refine ev_aload_n dX8_listRows_0 rfl ?_
  refine ev_iconst (v := 0) dX8_listRows_1 ki_0 ?_
  refine ev_putI dX8_listRows_2 fo_8_148 (by omega) lo_87 rfl rfl rfl ?_
  have hX1 : Sh _ (lx_up X 87 18 0) := Sh.upF hX (by rw [lo_87]; decide) (by decide)
  refine ev_iconst (v := 0) dX8_listRows_5 ki_0 ?_
  refine ev_istore_n dX8_listRows_6 (by decide) ?_
  exact k
theorem bX8_listRows_7_0 {g : GG} {d n0 nf : Nat} {post : Option Value → LX → Prop} {n : Nat} {X : LX} (hn : 146 ≤ n) (hX : Sh n X) {v1 : Int32} (c0 : ¬ X 37 0 ≤ v1) (c1 : ¬ 36 < (X 87 18) + 3) (k : Ev g mX8_listRows d n0 nf post n 34 [some (.ref 87), some (.int v1)] [.int v1, .ref 87] X) : Ev g mX8_listRows d n0 nf post n 7 [some (.ref 87), some (.int v1)] [] X := by
  refine ev_iload_n dX8_listRows_7 rfl ?_
  refine ev_aload_n dX8_listRows_8 rfl ?_
  refine ev_getS (q := 1) dX8_listRows_9 fo_8_44 (by omega) lo_87 rfl (sh_87_0 hX (by omega)) (by decide) ?_
  refine ev_getS (q := 37) dX8_listRows_12 fo_8_101 (by omega) lo_1 rfl (sh_1_2 hX (by omega)) (by decide) ?_
  refine ev_getI dX8_listRows_15 fo_8_105 (by omega) lo_37 rfl ?_
  refine ev_icmpF (tgt := 108) dX8_listRows_18 (by decide) c0 ?_
  refine ev_aload_n dX8_listRows_21 rfl ?_
  refine ev_getI dX8_listRows_22 fo_8_148 (by omega) lo_87 rfl ?_
  refine ev_iconst (v := 3) dX8_listRows_25 ki_3 ?_
  refine ev_iadd dX8_listRows_26 ?_
  refine ev_bipush (v := 36) dX8_listRows_27 kb_36 ?_
  refine ev_icmpF (tgt := 108) dX8_listRows_29 (by decide) c1 ?_
  refine ev_aload_n dX8_listRows_32 rfl ?_
  refine ev_iload_n dX8_listRows_33 rfl ?_
  exact k
theorem bX8_listRows_7_1 {g : GG} {d n0 nf : Nat} {post : Option Value → LX → Prop} {n : Nat} {X : LX} (hn : 146 ≤ nf) (hX : Sh nf X) {v1 : Int32} (c0 : ¬ X 37 0 ≤ v1) (c1 : 36 < (X 87 18) + 3) (hp : post (some (.ref 109)) X) : Ev g mX8_listRows d n0 nf post nf 7 [some (.ref 87), some (.int v1)] [] X := by
  refine ev_iload_n dX8_listRows_7 rfl ?_
  refine ev_aload_n dX8_listRows_8 rfl ?_
  refine ev_getS (q := 1) dX8_listRows_9 fo_8_44 (by omega) lo_87 rfl (sh_87_0 hX (by omega)) (by decide) ?_
  refine ev_getS (q := 37) dX8_listRows_12 fo_8_101 (by omega) lo_1 rfl (sh_1_2 hX (by omega)) (by decide) ?_
  refine ev_getI dX8_listRows_15 fo_8_105 (by omega) lo_37 rfl ?_
  refine ev_icmpF (tgt := 108) dX8_listRows_18 (by decide) c0 ?_
  refine ev_aload_n dX8_listRows_21 rfl ?_
  refine ev_getI dX8_listRows_22 fo_8_148 (by omega) lo_87 rfl ?_
  refine ev_iconst (v := 3) dX8_listRows_25 ki_3 ?_
  refine ev_iadd dX8_listRows_26 ?_
  refine ev_bipush (v := 36) dX8_listRows_27 kb_36 ?_
  refine ev_icmpT (tgt := 108) dX8_listRows_29 (by decide) c1 ?_
  refine ev_aload_n dX8_listRows_108 rfl ?_
  refine ev_getS (q := 109) dX8_listRows_109 fo_8_41 (by omega) lo_87 rfl (sh_87_17 hX (by omega)) (by decide) ?_
  exact ev_aret dX8_listRows_112 rfl (Or.inr ⟨_, rfl⟩) hp
theorem bX8_listRows_7_2 {g : GG} {d n0 nf : Nat} {post : Option Value → LX → Prop} {n : Nat} {X : LX} (hn : 146 ≤ nf) (hX : Sh nf X) {v1 : Int32} (c0 : X 37 0 ≤ v1) (hp : post (some (.ref 109)) X) : Ev g mX8_listRows d n0 nf post nf 7 [some (.ref 87), some (.int v1)] [] X := by
  refine ev_iload_n dX8_listRows_7 rfl ?_
  refine ev_aload_n dX8_listRows_8 rfl ?_
  refine ev_getS (q := 1) dX8_listRows_9 fo_8_44 (by omega) lo_87 rfl (sh_87_0 hX (by omega)) (by decide) ?_
  refine ev_getS (q := 37) dX8_listRows_12 fo_8_101 (by omega) lo_1 rfl (sh_1_2 hX (by omega)) (by decide) ?_
  refine ev_getI dX8_listRows_15 fo_8_105 (by omega) lo_37 rfl ?_
  refine ev_icmpT (tgt := 108) dX8_listRows_18 (by decide) c0 ?_
  refine ev_aload_n dX8_listRows_108 rfl ?_
  refine ev_getS (q := 109) dX8_listRows_109 fo_8_41 (by omega) lo_87 rfl (sh_87_17 hX (by omega)) (by decide) ?_
  exact ev_aret dX8_listRows_112 rfl (Or.inr ⟨_, rfl⟩) hp
theorem bX8_listRows_37_0 {g : GG} {d n0 nf : Nat} {post : Option Value → LX → Prop} {n : Nat} {X : LX} (hn : 146 ≤ n) (hX : Sh n X) {v1 : Int32} {s0 : Int32} (c0 : s0 = 0) (k : Ev g mX8_listRows d n0 nf post n 7 [some (.ref 87), some (.int (v1 + 1))] [] X) : Ev g mX8_listRows d n0 nf post n 37 [some (.ref 87), some (.int v1)] [.int s0] X := by
  refine ev_ifF (tgt := 43) dX8_listRows_37 (by decide) c0 ?_
  refine ev_goto (tgt := 102) dX8_listRows_40 (by decide) ?_
  refine ev_iinc (v := v1 + 1) dX8_listRows_102 rfl (by rw [show Int32.ofInt 1 = 1 from ki_1]) (by decide) ?_
  refine ev_goto (tgt := 7) dX8_listRows_105 (by decide) ?_
  exact k
theorem bX8_listRows_37_1 {g : GG} {d n0 nf : Nat} {post : Option Value → LX → Prop} {n : Nat} {X : LX} (hn : 146 ≤ n) (hX : Sh n X) {v1 : Int32} {s0 : Int32} {j1 : Nat} (c0 : ¬ s0 = 0) (hj1 : X 87 18 = nI j1) (b0 : j1 < 36) (k : Ev g mX8_listRows d n0 nf post n 77 [some (.ref 87), some (.int v1)] [.int v1, .ref 87, .int ((X 87 18) + 1), .ref 109] (lx_up (lx_up (lx_up X 87 18 ((X 87 18) + 1)) 109 j1 v1) 87 18 (((X 87 18) + 1) + 1))) : Ev g mX8_listRows d n0 nf post n 37 [some (.ref 87), some (.int v1)] [.int s0] X := by
  refine ev_ifT (tgt := 43) dX8_listRows_37 (by decide) c0 ?_
  refine ev_aload_n dX8_listRows_43 rfl ?_
  refine ev_getS (q := 109) dX8_listRows_44 fo_8_41 (by omega) lo_87 rfl (sh_87_17 hX (by omega)) (by decide) ?_
  refine ev_aload_n dX8_listRows_47 rfl ?_
  refine ev_dup dX8_listRows_48 rfl ?_
  refine ev_getI dX8_listRows_49 fo_8_148 (by omega) lo_87 rfl ?_
  refine ev_dup_x1 dX8_listRows_52 rfl rfl ?_
  refine ev_iconst (v := 1) dX8_listRows_53 ki_1 ?_
  refine ev_iadd dX8_listRows_54 ?_
  refine ev_putI dX8_listRows_55 fo_8_148 (by omega) lo_87 rfl rfl rfl ?_
  have hX1 : Sh _ (lx_up X 87 18 ((X 87 18) + 1)) := Sh.upF hX (by rw [lo_87]; decide) (by decide)
  refine ev_iload_n dX8_listRows_58 rfl ?_
  refine ev_iast dX8_listRows_59 (by omega) ly_109 hj1 b0 ?_
  have hX2 : Sh _ (lx_up (lx_up X 87 18 ((X 87 18) + 1)) 109 j1 v1) := Sh.upA hX1 (by rw [ly_109]; exact (by decide : 0 < 2))
  refine ev_aload_n dX8_listRows_60 rfl ?_
  refine ev_getS (q := 109) dX8_listRows_61 fo_8_41 (by omega) lo_87 rfl (sh_87_17 hX2 (by omega)) (by decide) ?_
  refine ev_aload_n dX8_listRows_64 rfl ?_
  refine ev_dup dX8_listRows_65 rfl ?_
  refine ev_getI dX8_listRows_66 fo_8_148 (by omega) lo_87 rfl ?_
  refine ev_dup_x1 dX8_listRows_69 rfl rfl ?_
  refine ev_iconst (v := 1) dX8_listRows_70 ki_1 ?_
  refine ev_iadd dX8_listRows_71 ?_
  refine ev_putI dX8_listRows_72 fo_8_148 (by omega) lo_87 rfl rfl rfl ?_
  have hX3 : Sh _ (lx_up (lx_up (lx_up X 87 18 ((X 87 18) + 1)) 109 j1 v1) 87 18 (((X 87 18) + 1) + 1)) := Sh.upF hX2 (by rw [lo_87]; decide) (by decide)
  refine ev_aload_n dX8_listRows_75 rfl ?_
  refine ev_iload_n dX8_listRows_76 rfl ?_
  exact k
theorem bX8_listRows_80_0 {g : GG} {d n0 nf : Nat} {post : Option Value → LX → Prop} {n : Nat} {X : LX} (hn : 146 ≤ n) (hX : Sh n X) {v1 : Int32} {s1 : Nat} {s2 : Int32} (b0 : s1 < 36) (k : Ev g mX8_listRows d n0 nf post n 98 [some (.ref 87), some (.int v1)] [.int v1, .ref 87, .int (X 87 18), .ref 109] (lx_up (lx_up X 109 s1 s2) 87 18 ((X 87 18) + 1))) : Ev g mX8_listRows d n0 nf post n 80 [some (.ref 87), some (.int v1)] [.int s2, .int (nI s1), .ref 109] X := by
  refine ev_iast dX8_listRows_80 (by omega) ly_109 rfl b0 ?_
  have hX1 : Sh _ (lx_up X 109 s1 s2) := Sh.upA hX (by rw [ly_109]; exact (by decide : 0 < 2))
  refine ev_aload_n dX8_listRows_81 rfl ?_
  refine ev_getS (q := 109) dX8_listRows_82 fo_8_41 (by omega) lo_87 rfl (sh_87_17 hX1 (by omega)) (by decide) ?_
  refine ev_aload_n dX8_listRows_85 rfl ?_
  refine ev_dup dX8_listRows_86 rfl ?_
  refine ev_getI dX8_listRows_87 fo_8_148 (by omega) lo_87 rfl ?_
  refine ev_dup_x1 dX8_listRows_90 rfl rfl ?_
  refine ev_iconst (v := 1) dX8_listRows_91 ki_1 ?_
  refine ev_iadd dX8_listRows_92 ?_
  refine ev_putI dX8_listRows_93 fo_8_148 (by omega) lo_87 rfl rfl rfl ?_
  have hX2 : Sh _ (lx_up (lx_up X 109 s1 s2) 87 18 ((X 87 18) + 1)) := Sh.upF hX1 (by rw [lo_87]; decide) (by decide)
  refine ev_aload_n dX8_listRows_96 rfl ?_
  refine ev_iload_n dX8_listRows_97 rfl ?_
  exact k
theorem bX8_listRows_101_0 {g : GG} {d n0 nf : Nat} {post : Option Value → LX → Prop} {n : Nat} {X : LX} (hn : 146 ≤ n) (hX : Sh n X) {v1 : Int32} {s1 : Nat} {s2 : Int32} (b0 : s1 < 36) (k : Ev g mX8_listRows d n0 nf post n 7 [some (.ref 87), some (.int (v1 + 1))] [] (lx_up X 109 s1 s2)) : Ev g mX8_listRows d n0 nf post n 101 [some (.ref 87), some (.int v1)] [.int s2, .int (nI s1), .ref 109] X := by
  refine ev_iast dX8_listRows_101 (by omega) ly_109 rfl b0 ?_
  have hX1 : Sh _ (lx_up X 109 s1 s2) := Sh.upA hX (by rw [ly_109]; exact (by decide : 0 < 2))
  refine ev_iinc (v := v1 + 1) dX8_listRows_102 rfl (by rw [show Int32.ofInt 1 = 1 from ki_1]) (by decide) ?_
  refine ev_goto (tgt := 7) dX8_listRows_105 (by decide) ?_
  exact k
theorem bX8_packAll_0_0 {g : GG} {d n0 nf : Nat} {post : Option Value → LX → Prop} {n : Nat} {X : LX} (hn : 146 ≤ n) (hX : Sh n X)  (k : Ev g mX8_packAll d n0 nf post n 6 [some (.ref 87), some (.int 0), none, none, none] [.ref 1] X) : Ev g mX8_packAll d n0 nf post n 0 [some (.ref 87), none, none, none, none] [] X := by
  refine ev_iconst (v := 0) dX8_packAll_0 ki_0 ?_
  refine ev_istore_n dX8_packAll_1 (by decide) ?_
  refine ev_aload_n dX8_packAll_2 rfl ?_
  refine ev_getS (q := 1) dX8_packAll_3 fo_8_44 (by omega) lo_87 rfl (sh_87_0 hX (by omega)) (by decide) ?_
  exact k
theorem bX8_packAll_9_0 {g : GG} {d n0 nf : Nat} {post : Option Value → LX → Prop} {n : Nat} {X : LX} (hn : 146 ≤ n) (hX : Sh n X) {v1 : Int32} (k : Ev g mX8_packAll d n0 nf post n 11 [some (.ref 87), some (.int v1), some (.int 0), none, none] [] X) : Ev g mX8_packAll d n0 nf post n 9 [some (.ref 87), some (.int v1), none, none, none] [] X := by
  refine ev_iconst (v := 0) dX8_packAll_9 ki_0 ?_
  refine ev_istore_n dX8_packAll_10 (by decide) ?_
  exact k
theorem bX8_packAll_11_0 {g : GG} {d n0 nf : Nat} {post : Option Value → LX → Prop} {n : Nat} {X : LX} (hn : 146 ≤ n) (hX : Sh n X) {v1 : Int32} {v2 : Int32} (c0 : ¬ X 37 0 ≤ v2) (k : Ev g mX8_packAll d n0 nf post n 27 [some (.ref 87), some (.int v1), some (.int v2), some (.int 0), none] [] X) : Ev g mX8_packAll d n0 nf post n 11 [some (.ref 87), some (.int v1), some (.int v2), none, none] [] X := by
  refine ev_iload_n dX8_packAll_11 rfl ?_
  refine ev_aload_n dX8_packAll_12 rfl ?_
  refine ev_getS (q := 1) dX8_packAll_13 fo_8_44 (by omega) lo_87 rfl (sh_87_0 hX (by omega)) (by decide) ?_
  refine ev_getS (q := 37) dX8_packAll_16 fo_8_101 (by omega) lo_1 rfl (sh_1_2 hX (by omega)) (by decide) ?_
  refine ev_getI dX8_packAll_19 fo_8_105 (by omega) lo_37 rfl ?_
  refine ev_icmpF (tgt := 80) dX8_packAll_22 (by decide) c0 ?_
  refine ev_iconst (v := 0) dX8_packAll_25 ki_0 ?_
  refine ev_istore_n dX8_packAll_26 (by decide) ?_
  exact k
theorem bX8_packAll_11_1 {g : GG} {d n0 nf : Nat} {post : Option Value → LX → Prop} {n : Nat} {X : LX} (hn : 146 ≤ nf) (hX : Sh nf X) {v1 : Int32} {v2 : Int32} (c0 : X 37 0 ≤ v2) (hp : post (some (.int v1)) X) : Ev g mX8_packAll d n0 nf post nf 11 [some (.ref 87), some (.int v1), some (.int v2), none, none] [] X := by
  refine ev_iload_n dX8_packAll_11 rfl ?_
  refine ev_aload_n dX8_packAll_12 rfl ?_
  refine ev_getS (q := 1) dX8_packAll_13 fo_8_44 (by omega) lo_87 rfl (sh_87_0 hX (by omega)) (by decide) ?_
  refine ev_getS (q := 37) dX8_packAll_16 fo_8_101 (by omega) lo_1 rfl (sh_1_2 hX (by omega)) (by decide) ?_
  refine ev_getI dX8_packAll_19 fo_8_105 (by omega) lo_37 rfl ?_
  refine ev_icmpT (tgt := 80) dX8_packAll_22 (by decide) c0 ?_
  refine ev_iload_n dX8_packAll_80 rfl ?_
  exact ev_iret dX8_packAll_81 rfl rfl hp
theorem bX8_packAll_27_0 {g : GG} {d n0 nf : Nat} {post : Option Value → LX → Prop} {n : Nat} {X : LX} (hn : 146 ≤ n) (hX : Sh n X) {v1 : Int32} {v2 : Int32} {v3 : Int32} (c0 : ¬ X 2 0 ≤ v3) (k : Ev g mX8_packAll d n0 nf post n 44 [some (.ref 87), some (.int v1), some (.int v2), some (.int v3), none] [.int v3, .int v2, .ref 87] X) : Ev g mX8_packAll d n0 nf post n 27 [some (.ref 87), some (.int v1), some (.int v2), some (.int v3), none] [] X := by
  refine ev_iload_n dX8_packAll_27 rfl ?_
  refine ev_aload_n dX8_packAll_28 rfl ?_
  refine ev_getS (q := 1) dX8_packAll_29 fo_8_44 (by omega) lo_87 rfl (sh_87_0 hX (by omega)) (by decide) ?_
  refine ev_getS (q := 2) dX8_packAll_32 fo_8_80 (by omega) lo_1 rfl (sh_1_0 hX (by omega)) (by decide) ?_
  refine ev_getI dX8_packAll_35 fo_8_86 (by omega) lo_2 rfl ?_
  refine ev_icmpF (tgt := 74) dX8_packAll_38 (by decide) c0 ?_
  refine ev_aload_n dX8_packAll_41 rfl ?_
  refine ev_iload_n dX8_packAll_42 rfl ?_
  refine ev_iload_n dX8_packAll_43 rfl ?_
  exact k
theorem bX8_packAll_27_1 {g : GG} {d n0 nf : Nat} {post : Option Value → LX → Prop} {n : Nat} {X : LX} (hn : 146 ≤ n) (hX : Sh n X) {v1 : Int32} {v2 : Int32} {v3 : Int32} (c0 : X 2 0 ≤ v3) (k : Ev g mX8_packAll d n0 nf post n 11 [some (.ref 87), some (.int v1), some (.int (v2 + 1)), some (.int v3), none] [] X) : Ev g mX8_packAll d n0 nf post n 27 [some (.ref 87), some (.int v1), some (.int v2), some (.int v3), none] [] X := by
  refine ev_iload_n dX8_packAll_27 rfl ?_
  refine ev_aload_n dX8_packAll_28 rfl ?_
  refine ev_getS (q := 1) dX8_packAll_29 fo_8_44 (by omega) lo_87 rfl (sh_87_0 hX (by omega)) (by decide) ?_
  refine ev_getS (q := 2) dX8_packAll_32 fo_8_80 (by omega) lo_1 rfl (sh_1_0 hX (by omega)) (by decide) ?_
  refine ev_getI dX8_packAll_35 fo_8_86 (by omega) lo_2 rfl ?_
  refine ev_icmpT (tgt := 74) dX8_packAll_38 (by decide) c0 ?_
  refine ev_iinc (v := v2 + 1) dX8_packAll_74 rfl (by rw [show Int32.ofInt 1 = 1 from ki_1]) (by decide) ?_
  refine ev_goto (tgt := 11) dX8_packAll_77 (by decide) ?_
  exact k
theorem bX8_packAll_47_0 {g : GG} {d n0 nf : Nat} {post : Option Value → LX → Prop} {n : Nat} {X : LX} (hn : 146 ≤ n) (hX : Sh n X) {v1 : Int32} {v2 : Int32} {v3 : Int32} {s0 : Int32} (k : Ev g mX8_packAll d n0 nf post n 60 [some (.ref 87), some (.int v1), some (.int v2), some (.int v3), some (.int s0)] [.int v2, .int s0, .int v3, .ref 69] X) : Ev g mX8_packAll d n0 nf post n 47 [some (.ref 87), some (.int v1), some (.int v2), some (.int v3), none] [.int s0] X := by
  refine ev_istore dX8_packAll_47 (by decide) ?_
  refine ev_aload_n dX8_packAll_49 rfl ?_
  refine ev_getS (q := 1) dX8_packAll_50 fo_8_44 (by omega) lo_87 rfl (sh_87_0 hX (by omega)) (by decide) ?_
  refine ev_getS (q := 69) dX8_packAll_53 fo_8_91 (by omega) lo_1 rfl (sh_1_3 hX (by omega)) (by decide) ?_
  refine ev_iload_n dX8_packAll_56 rfl ?_
  refine ev_iload dX8_packAll_57 rfl ?_
  refine ev_iload_n dX8_packAll_59 rfl ?_
  exact k
theorem bX8_packAll_63_0 {g : GG} {d n0 nf : Nat} {post : Option Value → LX → Prop} {n : Nat} {X : LX} (hn : 146 ≤ n) (hX : Sh n X) {v1 : Int32} {v2 : Int32} {v3 : Int32} {v4 : Int32} (k : Ev g mX8_packAll d n0 nf post n 27 [some (.ref 87), some (.int (v1 + v4)), some (.int v2), some (.int (v3 + 1)), some (.int v4)] [] X) : Ev g mX8_packAll d n0 nf post n 63 [some (.ref 87), some (.int v1), some (.int v2), some (.int v3), some (.int v4)] [] X := by
  refine ev_iload_n dX8_packAll_63 rfl ?_
  refine ev_iload dX8_packAll_64 rfl ?_
  refine ev_iadd dX8_packAll_66 ?_
  refine ev_istore_n dX8_packAll_67 (by decide) ?_
  refine ev_iinc (v := v3 + 1) dX8_packAll_68 rfl (by rw [show Int32.ofInt 1 = 1 from ki_1]) (by decide) ?_
  refine ev_goto (tgt := 27) dX8_packAll_71 (by decide) ?_
  exact k
theorem bX8_plannedNeed_0_0 {g : GG} {d n0 nf : Nat} {post : Option Value → LX → Prop} {n : Nat} {X : LX} (hn : 146 ≤ n) (hX : Sh n X) {v1 : Int32} {v2 : Int32} (k : Ev g mX8_plannedNeed d n0 nf post n 3 [some (.ref 87), some (.int v1), some (.int v2)] [.int v1, .ref 87, .int v2] X) : Ev g mX8_plannedNeed d n0 nf post n 0 [some (.ref 87), some (.int v1), some (.int v2)] [] X := by
  refine ev_iload_n dX8_plannedNeed_0 rfl ?_
  refine ev_aload_n dX8_plannedNeed_1 rfl ?_
  refine ev_iload_n dX8_plannedNeed_2 rfl ?_
  exact k
theorem bX8_plannedNeed_6_0 {g : GG} {d n0 nf : Nat} {post : Option Value → LX → Prop} {n : Nat} {X : LX} (hn : 146 ≤ nf) (hX : Sh nf X) {v1 : Int32} {v2 : Int32} {s0 : Int32} {s1 : Int32} (c0 : s0 = s1) (hp : post (some (.int 0)) X) : Ev g mX8_plannedNeed d n0 nf post nf 6 [some (.ref 87), some (.int v1), some (.int v2)] [.int s1, .int s0] X := by
  refine ev_icmpF (tgt := 11) dX8_plannedNeed_6 (by decide) c0 ?_
  refine ev_iconst (v := 0) dX8_plannedNeed_9 ki_0 ?_
  exact ev_iret dX8_plannedNeed_10 rfl rfl hp
theorem bX8_plannedNeed_6_1 {g : GG} {d n0 nf : Nat} {post : Option Value → LX → Prop} {n : Nat} {X : LX} (hn : 146 ≤ n) (hX : Sh n X) {v1 : Int32} {v2 : Int32} {s0 : Int32} {s1 : Int32} (c0 : ¬ s0 = s1) (k : Ev g mX8_plannedNeed d n0 nf post n 14 [some (.ref 87), some (.int v1), some (.int v2)] [.int v1, .ref 87, .int v2] X) : Ev g mX8_plannedNeed d n0 nf post n 6 [some (.ref 87), some (.int v1), some (.int v2)] [.int s1, .int s0] X := by
  refine ev_icmpT (tgt := 11) dX8_plannedNeed_6 (by decide) c0 ?_
  refine ev_iload_n dX8_plannedNeed_11 rfl ?_
  refine ev_aload_n dX8_plannedNeed_12 rfl ?_
  refine ev_iload_n dX8_plannedNeed_13 rfl ?_
  exact k
theorem bX8_plannedNeed_17_0 {g : GG} {d n0 nf : Nat} {post : Option Value → LX → Prop} {n : Nat} {X : LX} (hn : 146 ≤ nf) (hX : Sh nf X) {v1 : Nat} {v2 : Nat} {s0 : Int32} {s1 : Int32} {j1 : Nat} (c0 : s0 = s1) (b0 : v1 < 12) (hj1 : X 108 v1 = nI j1) (b1 : j1 < 588) (hp : post (some (.int (X 105 j1))) X) : Ev g mX8_plannedNeed d n0 nf post nf 17 [some (.ref 87), some (.int (nI v1)), some (.int (nI v2))] [.int s1, .int s0] X := by
  refine ev_icmpF (tgt := 34) dX8_plannedNeed_17 (by decide) c0 ?_
  refine ev_aload_n dX8_plannedNeed_20 rfl ?_
  refine ev_getS (q := 105) dX8_plannedNeed_21 fo_8_29 (by omega) lo_87 rfl (sh_87_7 hX (by omega)) (by decide) ?_
  refine ev_aload_n dX8_plannedNeed_24 rfl ?_
  refine ev_getS (q := 108) dX8_plannedNeed_25 fo_8_38 (by omega) lo_87 rfl (sh_87_11 hX (by omega)) (by decide) ?_
  refine ev_iload_n dX8_plannedNeed_28 rfl ?_
  refine ev_iald dX8_plannedNeed_29 (by omega) ly_108 rfl b0 ?_
  refine ev_iald dX8_plannedNeed_30 (by omega) ly_105 hj1 b1 ?_
  refine ev_goto (tgt := 42) dX8_plannedNeed_31 (by decide) ?_
  exact ev_iret dX8_plannedNeed_42 rfl rfl hp
theorem bX8_plannedNeed_17_1 {g : GG} {d n0 nf : Nat} {post : Option Value → LX → Prop} {n : Nat} {X : LX} (hn : 146 ≤ nf) (hX : Sh nf X) {v1 : Nat} {v2 : Nat} {s0 : Int32} {s1 : Int32} (c0 : ¬ s0 = s1) (b0 : v1 < 12) (b1 : v2 < 14) (hp : post (some (.int (X (88 + 1 + v1) v2))) X) : Ev g mX8_plannedNeed d n0 nf post nf 17 [some (.ref 87), some (.int (nI v1)), some (.int (nI v2))] [.int s1, .int s0] X := by
  refine ev_icmpT (tgt := 34) dX8_plannedNeed_17 (by decide) c0 ?_
  refine ev_aload_n dX8_plannedNeed_34 rfl ?_
  refine ev_getS (q := 88) dX8_plannedNeed_35 fo_8_11 (by omega) lo_87 rfl (sh_87_1 hX (by omega)) (by decide) ?_
  refine ev_iload_n dX8_plannedNeed_38 rfl ?_
  refine ev_aald (q := 88 + 1 + v1) dX8_plannedNeed_39 (by omega) (Or.inl ly_88) rfl b0 (hX.2 88 v1 (by omega) (Or.inl (by rw [ly_88])) (by rw [ly_88]; exact b0)) (by first | omega | (have := LY_l ly_88; have := LY_lt (show (LY 88).1 < 99 by rw [ly_88]; exact (by decide : 2 < 99)); omega)) ?_
  refine ev_iload_n dX8_plannedNeed_40 rfl ?_
  refine ev_iald dX8_plannedNeed_41 (by have := b0; omega) (lyr_88 _ b0) rfl b1 ?_
  exact ev_iret dX8_plannedNeed_42 rfl rfl hp
theorem bX10_gather_0_0 {g : GG} {d n0 nf : Nat} {post : Option Value → LX → Prop} {n : Nat} {X : LX} (hn : 146 ≤ n) (hX : Sh n X)  (k : Ev g mX10_gather d n0 nf post n 2 [some (.ref 110), some (.int 0), none, none] [] X) : Ev g mX10_gather d n0 nf post n 0 [some (.ref 110), none, none, none] [] X := by
  refine ev_iconst (v := 0) dX10_gather_0 ki_0 ?_
  refine ev_istore_n dX10_gather_1 (by decide) ?_
  exact k
theorem bX10_gather_2_0 {g : GG} {d n0 nf : Nat} {post : Option Value → LX → Prop} {n : Nat} {X : LX} (hn : 146 ≤ n) (hX : Sh n X) {v1 : Int32} (c0 : ¬ X 37 0 ≤ v1) (k : Ev g mX10_gather d n0 nf post n 21 [some (.ref 110), some (.int v1), none, none] [.int v1, .ref 1] X) : Ev g mX10_gather d n0 nf post n 2 [some (.ref 110), some (.int v1), none, none] [] X := by
  refine ev_iload_n dX10_gather_2 rfl ?_
  refine ev_aload_n dX10_gather_3 rfl ?_
  refine ev_getS (q := 1) dX10_gather_4 fo_10_19 (by omega) lo_110 rfl (sh_110_0 hX (by omega)) (by decide) ?_
  refine ev_getS (q := 37) dX10_gather_7 fo_10_23 (by omega) lo_1 rfl (sh_1_2 hX (by omega)) (by decide) ?_
  refine ev_getI dX10_gather_10 fo_10_29 (by omega) lo_37 rfl ?_
  refine ev_icmpF (tgt := 99) dX10_gather_13 (by decide) c0 ?_
  refine ev_aload_n dX10_gather_16 rfl ?_
  refine ev_getS (q := 1) dX10_gather_17 fo_10_19 (by omega) lo_110 rfl (sh_110_0 hX (by omega)) (by decide) ?_
  refine ev_iload_n dX10_gather_20 rfl ?_
  exact k
theorem bX10_gather_2_1 {g : GG} {d n0 nf : Nat} {post : Option Value → LX → Prop} {n : Nat} {X : LX} (hn : 146 ≤ nf) (hX : Sh nf X) {v1 : Int32} (c0 : X 37 0 ≤ v1) (hp : post none X) : Ev g mX10_gather d n0 nf post nf 2 [some (.ref 110), some (.int v1), none, none] [] X := by
  refine ev_iload_n dX10_gather_2 rfl ?_
  refine ev_aload_n dX10_gather_3 rfl ?_
  refine ev_getS (q := 1) dX10_gather_4 fo_10_19 (by omega) lo_110 rfl (sh_110_0 hX (by omega)) (by decide) ?_
  refine ev_getS (q := 37) dX10_gather_7 fo_10_23 (by omega) lo_1 rfl (sh_1_2 hX (by omega)) (by decide) ?_
  refine ev_getI dX10_gather_10 fo_10_29 (by omega) lo_37 rfl ?_
  refine ev_icmpT (tgt := 99) dX10_gather_13 (by decide) c0 ?_
  exact ev_ret dX10_gather_99 rfl hp
theorem bX10_gather_24_0 {g : GG} {d n0 nf : Nat} {post : Option Value → LX → Prop} {n : Nat} {X : LX} (hn : 146 ≤ n) (hX : Sh n X) {v1 : Nat} {s0 : Int32} (b0 : v1 < 12) (k : Ev g mX10_gather d n0 nf post n 32 [some (.ref 110), some (.int (nI v1)), some (.int s0), none] [.int 0, .ref (111 + 1 + v1)] X) : Ev g mX10_gather d n0 nf post n 24 [some (.ref 110), some (.int (nI v1)), none, none] [.int s0] X := by
  refine ev_istore_n dX10_gather_24 (by decide) ?_
  refine ev_aload_n dX10_gather_25 rfl ?_
  refine ev_getS (q := 111) dX10_gather_26 fo_10_11 (by omega) lo_110 rfl (sh_110_1 hX (by omega)) (by decide) ?_
  refine ev_iload_n dX10_gather_29 rfl ?_
  refine ev_aald (q := 111 + 1 + v1) dX10_gather_30 (by omega) (Or.inl ly_111) rfl b0 (hX.2 111 v1 (by omega) (Or.inl (by rw [ly_111])) (by rw [ly_111]; exact b0)) (by first | omega | (have := LY_l ly_111; have := LY_lt (show (LY 111).1 < 99 by rw [ly_111]; exact (by decide : 2 < 99)); omega)) ?_
  refine ev_iconst (v := 0) dX10_gather_31 ki_0 ?_
  exact k
theorem bX10_gather_35_0 {g : GG} {d n0 nf : Nat} {post : Option Value → LX → Prop} {n : Nat} {X : LX} (hn : 146 ≤ n) (hX : Sh n X) {v1 : Int32} {v2 : Int32} (k : Ev g mX10_gather d n0 nf post n 37 [some (.ref 110), some (.int v1), some (.int v2), some (.int 0)] [] X) : Ev g mX10_gather d n0 nf post n 35 [some (.ref 110), some (.int v1), some (.int v2), none] [] X := by
  refine ev_iconst (v := 0) dX10_gather_35 ki_0 ?_
  refine ev_istore_n dX10_gather_36 (by decide) ?_
  exact k
theorem bX10_gather_37_0 {g : GG} {d n0 nf : Nat} {post : Option Value → LX → Prop} {n : Nat} {X : LX} (hn : 146 ≤ n) (hX : Sh n X) {v1 : Int32} {v2 : Int32} {v3 : Int32} (c0 : ¬ X 2 0 ≤ v3) (k : Ev g mX10_gather d n0 nf post n 58 [some (.ref 110), some (.int v1), some (.int v2), some (.int v3)] [.int v3, .int v2, .int v1, .ref 1] X) : Ev g mX10_gather d n0 nf post n 37 [some (.ref 110), some (.int v1), some (.int v2), some (.int v3)] [] X := by
  refine ev_iload_n dX10_gather_37 rfl ?_
  refine ev_aload_n dX10_gather_38 rfl ?_
  refine ev_getS (q := 1) dX10_gather_39 fo_10_19 (by omega) lo_110 rfl (sh_110_0 hX (by omega)) (by decide) ?_
  refine ev_getS (q := 2) dX10_gather_42 fo_10_45 (by omega) lo_1 rfl (sh_1_0 hX (by omega)) (by decide) ?_
  refine ev_getI dX10_gather_45 fo_10_49 (by omega) lo_2 rfl ?_
  refine ev_icmpF (tgt := 93) dX10_gather_48 (by decide) c0 ?_
  refine ev_aload_n dX10_gather_51 rfl ?_
  refine ev_getS (q := 1) dX10_gather_52 fo_10_19 (by omega) lo_110 rfl (sh_110_0 hX (by omega)) (by decide) ?_
  refine ev_iload_n dX10_gather_55 rfl ?_
  refine ev_iload_n dX10_gather_56 rfl ?_
  refine ev_iload_n dX10_gather_57 rfl ?_
  exact k
theorem bX10_gather_37_1 {g : GG} {d n0 nf : Nat} {post : Option Value → LX → Prop} {n : Nat} {X : LX} (hn : 146 ≤ n) (hX : Sh n X) {v1 : Int32} {v2 : Int32} {v3 : Int32} (c0 : X 2 0 ≤ v3) (k : Ev g mX10_gather d n0 nf post n 2 [some (.ref 110), some (.int (v1 + 1)), some (.int v2), some (.int v3)] [] X) : Ev g mX10_gather d n0 nf post n 37 [some (.ref 110), some (.int v1), some (.int v2), some (.int v3)] [] X := by
  refine ev_iload_n dX10_gather_37 rfl ?_
  refine ev_aload_n dX10_gather_38 rfl ?_
  refine ev_getS (q := 1) dX10_gather_39 fo_10_19 (by omega) lo_110 rfl (sh_110_0 hX (by omega)) (by decide) ?_
  refine ev_getS (q := 2) dX10_gather_42 fo_10_45 (by omega) lo_1 rfl (sh_1_0 hX (by omega)) (by decide) ?_
  refine ev_getI dX10_gather_45 fo_10_49 (by omega) lo_2 rfl ?_
  refine ev_icmpT (tgt := 93) dX10_gather_48 (by decide) c0 ?_
  refine ev_iinc (v := v1 + 1) dX10_gather_93 rfl (by rw [show Int32.ofInt 1 = 1 from ki_1]) (by decide) ?_
  refine ev_goto (tgt := 2) dX10_gather_96 (by decide) ?_
  exact k
theorem bX10_gather_61_0 {g : GG} {d n0 nf : Nat} {post : Option Value → LX → Prop} {n : Nat} {X : LX} (hn : 146 ≤ n) (hX : Sh n X) {v1 : Nat} {v2 : Int32} {v3 : Nat} {s0 : Int32} {j1 : Nat} {j2 : Nat} (c0 : ¬ s0 ≤ 0) (b0 : v1 < 12) (b1 : v3 < 14) (hj1 : X 6 v3 = nI j1) (b2 : j1 < 4) (hj2 : X 6 v3 = nI j2) (b3 : j2 < 4) (k : Ev g mX10_gather d n0 nf post n 37 [some (.ref 110), some (.int (nI v1)), some (.int v2), some (.int ((nI v3) + 1))] [] (lx_up X (111 + 1 + v1) j2 ((X (111 + 1 + v1) j1) + 1))) : Ev g mX10_gather d n0 nf post n 61 [some (.ref 110), some (.int (nI v1)), some (.int v2), some (.int (nI v3))] [.int s0] X := by
  refine ev_ifF (tgt := 87) dX10_gather_61 (by decide) c0 ?_
  refine ev_aload_n dX10_gather_64 rfl ?_
  refine ev_getS (q := 111) dX10_gather_65 fo_10_11 (by omega) lo_110 rfl (sh_110_1 hX (by omega)) (by decide) ?_
  refine ev_iload_n dX10_gather_68 rfl ?_
  refine ev_aald (q := 111 + 1 + v1) dX10_gather_69 (by omega) (Or.inl ly_111) rfl b0 (hX.2 111 v1 (by omega) (Or.inl (by rw [ly_111])) (by rw [ly_111]; exact b0)) (by first | omega | (have := LY_l ly_111; have := LY_lt (show (LY 111).1 < 99 by rw [ly_111]; exact (by decide : 2 < 99)); omega)) ?_
  refine ev_aload_n dX10_gather_70 rfl ?_
  refine ev_getS (q := 1) dX10_gather_71 fo_10_19 (by omega) lo_110 rfl (sh_110_0 hX (by omega)) (by decide) ?_
  refine ev_getS (q := 2) dX10_gather_74 fo_10_45 (by omega) lo_1 rfl (sh_1_0 hX (by omega)) (by decide) ?_
  refine ev_getS (q := 6) dX10_gather_77 fo_10_56 (by omega) lo_2 rfl (sh_2_4 hX (by omega)) (by decide) ?_
  refine ev_iload_n dX10_gather_80 rfl ?_
  refine ev_iald dX10_gather_81 (by omega) ly_6 rfl b1 ?_
  refine ev_dup2 dX10_gather_82 rfl rfl ?_
  refine ev_iald dX10_gather_83 (by have := b0; omega) (lyr_111 _ b0) hj1 b2 ?_
  refine ev_iconst (v := 1) dX10_gather_84 ki_1 ?_
  refine ev_iadd dX10_gather_85 ?_
  refine ev_iast dX10_gather_86 (by have := b0; omega) (lyr_111 _ b0) hj2 b3 ?_
  have hX1 : Sh _ (lx_up X (111 + 1 + v1) j2 ((X (111 + 1 + v1) j1) + 1)) := Sh.upA hX (by rw [(lyr_111 _ b0)]; exact (by decide : 0 < 2))
  refine ev_iinc (v := (nI v3) + 1) dX10_gather_87 rfl (by rw [show Int32.ofInt 1 = 1 from ki_1]) (by decide) ?_
  refine ev_goto (tgt := 37) dX10_gather_90 (by decide) ?_
  exact k
theorem bX10_gather_61_1 {g : GG} {d n0 nf : Nat} {post : Option Value → LX → Prop} {n : Nat} {X : LX} (hn : 146 ≤ n) (hX : Sh n X) {v1 : Nat} {v2 : Int32} {v3 : Nat} {s0 : Int32} (c0 : s0 ≤ 0) (k : Ev g mX10_gather d n0 nf post n 37 [some (.ref 110), some (.int (nI v1)), some (.int v2), some (.int ((nI v3) + 1))] [] X) : Ev g mX10_gather d n0 nf post n 61 [some (.ref 110), some (.int (nI v1)), some (.int v2), some (.int (nI v3))] [.int s0] X := by
  refine ev_ifT (tgt := 87) dX10_gather_61 (by decide) c0 ?_
  refine ev_iinc (v := (nI v3) + 1) dX10_gather_87 rfl (by rw [show Int32.ofInt 1 = 1 from ki_1]) (by decide) ?_
  refine ev_goto (tgt := 37) dX10_gather_90 (by decide) ?_
  exact k
theorem bX10_picksOf_0_0 {g : GG} {d n0 nf : Nat} {post : Option Value → LX → Prop} {n : Nat} {X : LX} (hn : 146 ≤ n) (hX : Sh n X) {v1 : Int32} {v2 : Int32} {v3 : Int32} (k : Ev g mX10_picksOf d n0 nf post n 1 [some (.ref 110), some (.int v1), some (.int v2), some (.int v3), none, none] [.ref 110] X) : Ev g mX10_picksOf d n0 nf post n 0 [some (.ref 110), some (.int v1), some (.int v2), some (.int v3), none, none] [] X := by
  refine ev_aload_n dX10_picksOf_0 rfl ?_
  exact k
theorem bX10_picksOf_4_0 {g : GG} {d n0 nf : Nat} {post : Option Value → LX → Prop} {n : Nat} {X : LX} (hn : 146 ≤ n) (hX : Sh n X) {v1 : Int32} {v2 : Int32} {v3 : Int32} (k : Ev g mX10_picksOf d n0 nf post n 10 [some (.ref 110), some (.int v1), some (.int v2), some (.int v3), some (.int 0), some (.int 0)] [] X) : Ev g mX10_picksOf d n0 nf post n 4 [some (.ref 110), some (.int v1), some (.int v2), some (.int v3), none, none] [] X := by
  refine ev_iconst (v := 0) dX10_picksOf_4 ki_0 ?_
  refine ev_istore dX10_picksOf_5 (by decide) ?_
  refine ev_iconst (v := 0) dX10_picksOf_7 ki_0 ?_
  refine ev_istore dX10_picksOf_8 (by decide) ?_
  exact k
theorem bX10_picksOf_10_0 {g : GG} {d n0 nf : Nat} {post : Option Value → LX → Prop} {n : Nat} {X : LX} (hn : 146 ≤ n) (hX : Sh n X) {v1 : Int32} {v2 : Int32} {v3 : Int32} {v4 : Int32} {v5 : Int32} (c0 : ¬ X 37 0 ≤ v5) (k : Ev g mX10_picksOf d n0 nf post n 28 [some (.ref 110), some (.int v1), some (.int v2), some (.int v3), some (.int v4), some (.int v5)] [.int v5, .int v3] X) : Ev g mX10_picksOf d n0 nf post n 10 [some (.ref 110), some (.int v1), some (.int v2), some (.int v3), some (.int v4), some (.int v5)] [] X := by
  refine ev_iload dX10_picksOf_10 rfl ?_
  refine ev_aload_n dX10_picksOf_12 rfl ?_
  refine ev_getS (q := 1) dX10_picksOf_13 fo_10_19 (by omega) lo_110 rfl (sh_110_0 hX (by omega)) (by decide) ?_
  refine ev_getS (q := 37) dX10_picksOf_16 fo_10_23 (by omega) lo_1 rfl (sh_1_2 hX (by omega)) (by decide) ?_
  refine ev_getI dX10_picksOf_19 fo_10_29 (by omega) lo_37 rfl ?_
  refine ev_icmpF (tgt := 64) dX10_picksOf_22 (by decide) c0 ?_
  refine ev_iload_n dX10_picksOf_25 rfl ?_
  refine ev_iload dX10_picksOf_26 rfl ?_
  exact k
theorem bX10_picksOf_10_1 {g : GG} {d n0 nf : Nat} {post : Option Value → LX → Prop} {n : Nat} {X : LX} (hn : 146 ≤ nf) (hX : Sh nf X) {v1 : Int32} {v2 : Int32} {v3 : Int32} {v4 : Int32} {v5 : Int32} (c0 : X 37 0 ≤ v5) (hp : post (some (.int v4)) X) : Ev g mX10_picksOf d n0 nf post nf 10 [some (.ref 110), some (.int v1), some (.int v2), some (.int v3), some (.int v4), some (.int v5)] [] X := by
  refine ev_iload dX10_picksOf_10 rfl ?_
  refine ev_aload_n dX10_picksOf_12 rfl ?_
  refine ev_getS (q := 1) dX10_picksOf_13 fo_10_19 (by omega) lo_110 rfl (sh_110_0 hX (by omega)) (by decide) ?_
  refine ev_getS (q := 37) dX10_picksOf_16 fo_10_23 (by omega) lo_1 rfl (sh_1_2 hX (by omega)) (by decide) ?_
  refine ev_getI dX10_picksOf_19 fo_10_29 (by omega) lo_37 rfl ?_
  refine ev_icmpT (tgt := 64) dX10_picksOf_22 (by decide) c0 ?_
  refine ev_iload dX10_picksOf_64 rfl ?_
  exact ev_iret dX10_picksOf_66 rfl rfl hp
theorem bX10_picksOf_31_0 {g : GG} {d n0 nf : Nat} {post : Option Value → LX → Prop} {n : Nat} {X : LX} (hn : 146 ≤ n) (hX : Sh n X) {v1 : Nat} {v2 : Int32} {v3 : Int32} {v4 : Int32} {v5 : Nat} {s0 : Int32} (c0 : v2 = 1) (c1 : s0 = 1) (b0 : v5 < 12) (b1 : v1 < 4) (k : Ev g mX10_picksOf d n0 nf post n 10 [some (.ref 110), some (.int (nI v1)), some (.int v2), some (.int v3), some (.int (v4 + (X (111 + 1 + v5) v1))), some (.int ((nI v5) + 1))] [] X) : Ev g mX10_picksOf d n0 nf post n 31 [some (.ref 110), some (.int (nI v1)), some (.int v2), some (.int v3), some (.int v4), some (.int (nI v5))] [.int s0] X := by
  refine ev_iload_n dX10_picksOf_31 rfl ?_
  refine ev_iconst (v := 1) dX10_picksOf_32 ki_1 ?_
  refine ev_icmpF (tgt := 40) dX10_picksOf_33 (by decide) c0 ?_
  refine ev_iconst (v := 1) dX10_picksOf_36 ki_1 ?_
  refine ev_goto (tgt := 41) dX10_picksOf_37 (by decide) ?_
  refine ev_icmpF (tgt := 58) dX10_picksOf_41 (by decide) c1 ?_
  refine ev_iload dX10_picksOf_44 rfl ?_
  refine ev_aload_n dX10_picksOf_46 rfl ?_
  refine ev_getS (q := 111) dX10_picksOf_47 fo_10_11 (by omega) lo_110 rfl (sh_110_1 hX (by omega)) (by decide) ?_
  refine ev_iload dX10_picksOf_50 rfl ?_
  refine ev_aald (q := 111 + 1 + v5) dX10_picksOf_52 (by omega) (Or.inl ly_111) rfl b0 (hX.2 111 v5 (by omega) (Or.inl (by rw [ly_111])) (by rw [ly_111]; exact b0)) (by first | omega | (have := LY_l ly_111; have := LY_lt (show (LY 111).1 < 99 by rw [ly_111]; exact (by decide : 2 < 99)); omega)) ?_
  refine ev_iload_n dX10_picksOf_53 rfl ?_
  refine ev_iald dX10_picksOf_54 (by have := b0; omega) (lyr_111 _ b0) rfl b1 ?_
  refine ev_iadd dX10_picksOf_55 ?_
  refine ev_istore dX10_picksOf_56 (by decide) ?_
  refine ev_iinc (v := (nI v5) + 1) dX10_picksOf_58 rfl (by rw [show Int32.ofInt 1 = 1 from ki_1]) (by decide) ?_
  refine ev_goto (tgt := 10) dX10_picksOf_61 (by decide) ?_
  exact k
theorem bX10_picksOf_31_1 {g : GG} {d n0 nf : Nat} {post : Option Value → LX → Prop} {n : Nat} {X : LX} (hn : 146 ≤ n) (hX : Sh n X) {v1 : Nat} {v2 : Int32} {v3 : Int32} {v4 : Int32} {v5 : Nat} {s0 : Int32} (c0 : v2 = 1) (c1 : ¬ s0 = 1) (k : Ev g mX10_picksOf d n0 nf post n 10 [some (.ref 110), some (.int (nI v1)), some (.int v2), some (.int v3), some (.int v4), some (.int ((nI v5) + 1))] [] X) : Ev g mX10_picksOf d n0 nf post n 31 [some (.ref 110), some (.int (nI v1)), some (.int v2), some (.int v3), some (.int v4), some (.int (nI v5))] [.int s0] X := by
  refine ev_iload_n dX10_picksOf_31 rfl ?_
  refine ev_iconst (v := 1) dX10_picksOf_32 ki_1 ?_
  refine ev_icmpF (tgt := 40) dX10_picksOf_33 (by decide) c0 ?_
  refine ev_iconst (v := 1) dX10_picksOf_36 ki_1 ?_
  refine ev_goto (tgt := 41) dX10_picksOf_37 (by decide) ?_
  refine ev_icmpT (tgt := 58) dX10_picksOf_41 (by decide) c1 ?_
  refine ev_iinc (v := (nI v5) + 1) dX10_picksOf_58 rfl (by rw [show Int32.ofInt 1 = 1 from ki_1]) (by decide) ?_
  refine ev_goto (tgt := 10) dX10_picksOf_61 (by decide) ?_
  exact k
theorem bX10_picksOf_31_2 {g : GG} {d n0 nf : Nat} {post : Option Value → LX → Prop} {n : Nat} {X : LX} (hn : 146 ≤ n) (hX : Sh n X) {v1 : Nat} {v2 : Int32} {v3 : Int32} {v4 : Int32} {v5 : Nat} {s0 : Int32} (c0 : ¬ v2 = 1) (c1 : s0 = 0) (b0 : v5 < 12) (b1 : v1 < 4) (k : Ev g mX10_picksOf d n0 nf post n 10 [some (.ref 110), some (.int (nI v1)), some (.int v2), some (.int v3), some (.int (v4 + (X (111 + 1 + v5) v1))), some (.int ((nI v5) + 1))] [] X) : Ev g mX10_picksOf d n0 nf post n 31 [some (.ref 110), some (.int (nI v1)), some (.int v2), some (.int v3), some (.int v4), some (.int (nI v5))] [.int s0] X := by
  refine ev_iload_n dX10_picksOf_31 rfl ?_
  refine ev_iconst (v := 1) dX10_picksOf_32 ki_1 ?_
  refine ev_icmpT (tgt := 40) dX10_picksOf_33 (by decide) c0 ?_
  refine ev_iconst (v := 0) dX10_picksOf_40 ki_0 ?_
  refine ev_icmpF (tgt := 58) dX10_picksOf_41 (by decide) c1 ?_
  refine ev_iload dX10_picksOf_44 rfl ?_
  refine ev_aload_n dX10_picksOf_46 rfl ?_
  refine ev_getS (q := 111) dX10_picksOf_47 fo_10_11 (by omega) lo_110 rfl (sh_110_1 hX (by omega)) (by decide) ?_
  refine ev_iload dX10_picksOf_50 rfl ?_
  refine ev_aald (q := 111 + 1 + v5) dX10_picksOf_52 (by omega) (Or.inl ly_111) rfl b0 (hX.2 111 v5 (by omega) (Or.inl (by rw [ly_111])) (by rw [ly_111]; exact b0)) (by first | omega | (have := LY_l ly_111; have := LY_lt (show (LY 111).1 < 99 by rw [ly_111]; exact (by decide : 2 < 99)); omega)) ?_
  refine ev_iload_n dX10_picksOf_53 rfl ?_
  refine ev_iald dX10_picksOf_54 (by have := b0; omega) (lyr_111 _ b0) rfl b1 ?_
  refine ev_iadd dX10_picksOf_55 ?_
  refine ev_istore dX10_picksOf_56 (by decide) ?_
  refine ev_iinc (v := (nI v5) + 1) dX10_picksOf_58 rfl (by rw [show Int32.ofInt 1 = 1 from ki_1]) (by decide) ?_
  refine ev_goto (tgt := 10) dX10_picksOf_61 (by decide) ?_
  exact k
theorem bX10_picksOf_31_3 {g : GG} {d n0 nf : Nat} {post : Option Value → LX → Prop} {n : Nat} {X : LX} (hn : 146 ≤ n) (hX : Sh n X) {v1 : Nat} {v2 : Int32} {v3 : Int32} {v4 : Int32} {v5 : Nat} {s0 : Int32} (c0 : ¬ v2 = 1) (c1 : ¬ s0 = 0) (k : Ev g mX10_picksOf d n0 nf post n 10 [some (.ref 110), some (.int (nI v1)), some (.int v2), some (.int v3), some (.int v4), some (.int ((nI v5) + 1))] [] X) : Ev g mX10_picksOf d n0 nf post n 31 [some (.ref 110), some (.int (nI v1)), some (.int v2), some (.int v3), some (.int v4), some (.int (nI v5))] [.int s0] X := by
  refine ev_iload_n dX10_picksOf_31 rfl ?_
  refine ev_iconst (v := 1) dX10_picksOf_32 ki_1 ?_
  refine ev_icmpT (tgt := 40) dX10_picksOf_33 (by decide) c0 ?_
  refine ev_iconst (v := 0) dX10_picksOf_40 ki_0 ?_
  refine ev_icmpT (tgt := 58) dX10_picksOf_41 (by decide) c1 ?_
  refine ev_iinc (v := (nI v5) + 1) dX10_picksOf_58 rfl (by rw [show Int32.ofInt 1 = 1 from ki_1]) (by decide) ?_
  refine ev_goto (tgt := 10) dX10_picksOf_61 (by decide) ?_
  exact k
theorem bX10_seek_0_0 {g : GG} {d n0 nf : Nat} {post : Option Value → LX → Prop} {n : Nat} {X : LX} (hn : 146 ≤ n) (hX : Sh n X)  (k : Ev g mX10_seek d n0 nf post n 1 [some (.ref 110)] [.ref 110] X) : Ev g mX10_seek d n0 nf post n 0 [some (.ref 110)] [] X := by
  refine ev_aload_n dX10_seek_0 rfl ?_
  exact k
theorem bX10_seek_4_0 {g : GG} {d n0 nf : Nat} {post : Option Value → LX → Prop} {n : Nat} {X : LX} (hn : 146 ≤ n) (hX : Sh n X)  (k : Ev g mX10_seek d n0 nf post n 30 [some (.ref 110)] [.int 0, .int 0, .int ((X 37 0) - 1), .ref 110] (lx_up (lx_up X 110 3 2147483647) 110 4 0)) : Ev g mX10_seek d n0 nf post n 4 [some (.ref 110)] [] X := by
  refine ev_aload_n dX10_seek_4 rfl ?_
  refine ev_ldc (v := 2147483647) dX10_seek_5 kw_10_69 ?_
  refine ev_putI dX10_seek_7 fo_10_70 (by omega) lo_110 rfl rfl rfl ?_
  have hX1 : Sh _ (lx_up X 110 3 2147483647) := Sh.upF hX (by rw [lo_110]; decide) (by decide)
  refine ev_aload_n dX10_seek_10 rfl ?_
  refine ev_iconst (v := 0) dX10_seek_11 ki_0 ?_
  refine ev_putI dX10_seek_12 fo_10_73 (by omega) lo_110 rfl rfl rfl ?_
  have hX2 : Sh _ (lx_up (lx_up X 110 3 2147483647) 110 4 0) := Sh.upF hX1 (by rw [lo_110]; decide) (by decide)
  refine ev_aload_n dX10_seek_15 rfl ?_
  refine ev_aload_n dX10_seek_16 rfl ?_
  refine ev_getS (q := 1) dX10_seek_17 fo_10_19 (by omega) lo_110 rfl (sh_110_0 hX2 (by omega)) (by decide) ?_
  refine ev_getS (q := 37) dX10_seek_20 fo_10_23 (by omega) lo_1 rfl (sh_1_2 hX2 (by omega)) (by decide) ?_
  refine ev_getI dX10_seek_23 fo_10_29 (by omega) lo_37 rfl ?_
  refine ev_iconst (v := 1) dX10_seek_26 ki_1 ?_
  refine ev_isub dX10_seek_27 ?_
  refine ev_iconst (v := 0) dX10_seek_28 ki_0 ?_
  refine ev_iconst (v := 0) dX10_seek_29 ki_0 ?_
  exact k
theorem bX10_seek_33_0 {g : GG} {d n0 nf : Nat} {post : Option Value → LX → Prop} {n : Nat} {X : LX} (hn : 146 ≤ nf) (hX : Sh nf X)  (hp : post none X) : Ev g mX10_seek d n0 nf post nf 33 [some (.ref 110)] [] X := by
  exact ev_ret dX10_seek_33 rfl hp
theorem bX10_seekFrom_0_0 {g : GG} {d n0 nf : Nat} {post : Option Value → LX → Prop} {n : Nat} {X : LX} (hn : 146 ≤ nf) (hX : Sh nf X) {v1 : Int32} {v2 : Int32} {v3 : Int32} (c0 : ¬ v3 < X 110 3) (hp : post none X) : Ev g mX10_seekFrom d n0 nf post nf 0 [some (.ref 110), some (.int v1), some (.int v2), some (.int v3), none, none, none] [] X := by
  refine ev_iload_n dX10_seekFrom_0 rfl ?_
  refine ev_aload_n dX10_seekFrom_1 rfl ?_
  refine ev_getI dX10_seekFrom_2 fo_10_70 (by omega) lo_110 rfl ?_
  refine ev_icmpF (tgt := 9) dX10_seekFrom_5 (by decide) c0 ?_
  exact ev_ret dX10_seekFrom_8 rfl hp
theorem bX10_seekFrom_0_1 {g : GG} {d n0 nf : Nat} {post : Option Value → LX → Prop} {n : Nat} {X : LX} (hn : 146 ≤ nf) (hX : Sh nf X) {v1 : Int32} {v2 : Int32} {v3 : Int32} (c0 : v3 < X 110 3) (c1 : ¬ 0 ≤ v1) (hp : post none (lx_up (lx_up X 110 3 v3) 110 4 v2)) : Ev g mX10_seekFrom d n0 nf post nf 0 [some (.ref 110), some (.int v1), some (.int v2), some (.int v3), none, none, none] [] X := by
  refine ev_iload_n dX10_seekFrom_0 rfl ?_
  refine ev_aload_n dX10_seekFrom_1 rfl ?_
  refine ev_getI dX10_seekFrom_2 fo_10_70 (by omega) lo_110 rfl ?_
  refine ev_icmpT (tgt := 9) dX10_seekFrom_5 (by decide) c0 ?_
  refine ev_iload_n dX10_seekFrom_9 rfl ?_
  refine ev_ifF (tgt := 24) dX10_seekFrom_10 (by decide) c1 ?_
  refine ev_aload_n dX10_seekFrom_13 rfl ?_
  refine ev_iload_n dX10_seekFrom_14 rfl ?_
  refine ev_putI dX10_seekFrom_15 fo_10_70 (by omega) lo_110 rfl rfl rfl ?_
  have hX1 : Sh _ (lx_up X 110 3 v3) := Sh.upF hX (by rw [lo_110]; decide) (by decide)
  refine ev_aload_n dX10_seekFrom_18 rfl ?_
  refine ev_iload_n dX10_seekFrom_19 rfl ?_
  refine ev_putI dX10_seekFrom_20 fo_10_73 (by omega) lo_110 rfl rfl rfl ?_
  have hX2 : Sh _ (lx_up (lx_up X 110 3 v3) 110 4 v2) := Sh.upF hX1 (by rw [lo_110]; decide) (by decide)
  exact ev_ret dX10_seekFrom_23 rfl hp
theorem bX10_seekFrom_0_2 {g : GG} {d n0 nf : Nat} {post : Option Value → LX → Prop} {n : Nat} {X : LX} (hn : 146 ≤ n) (hX : Sh n X) {v1 : Int32} {v2 : Int32} {v3 : Int32} (c0 : v3 < X 110 3) (c1 : 0 ≤ v1) (k : Ev g mX10_seekFrom d n0 nf post n 27 [some (.ref 110), some (.int v1), some (.int v2), some (.int v3), some (.int 0), none, none] [] X) : Ev g mX10_seekFrom d n0 nf post n 0 [some (.ref 110), some (.int v1), some (.int v2), some (.int v3), none, none, none] [] X := by
  refine ev_iload_n dX10_seekFrom_0 rfl ?_
  refine ev_aload_n dX10_seekFrom_1 rfl ?_
  refine ev_getI dX10_seekFrom_2 fo_10_70 (by omega) lo_110 rfl ?_
  refine ev_icmpT (tgt := 9) dX10_seekFrom_5 (by decide) c0 ?_
  refine ev_iload_n dX10_seekFrom_9 rfl ?_
  refine ev_ifT (tgt := 24) dX10_seekFrom_10 (by decide) c1 ?_
  refine ev_iconst (v := 0) dX10_seekFrom_24 ki_0 ?_
  refine ev_istore dX10_seekFrom_25 (by decide) ?_
  exact k
theorem bX10_seekFrom_27_0 {g : GG} {d n0 nf : Nat} {post : Option Value → LX → Prop} {n : Nat} {X : LX} (hn : 146 ≤ n) (hX : Sh n X) {v1 : Int32} {v2 : Int32} {v3 : Int32} {v4 : Int32} (c0 : ¬ 2 ≤ v4) (k : Ev g mX10_seekFrom d n0 nf post n 39 [some (.ref 110), some (.int v1), some (.int v2), some (.int v3), some (.int v4), some (.int v3), some (.int 0)] [] X) : Ev g mX10_seekFrom d n0 nf post n 27 [some (.ref 110), some (.int v1), some (.int v2), some (.int v3), some (.int v4), none, none] [] X := by
  refine ev_iload dX10_seekFrom_27 rfl ?_
  refine ev_iconst (v := 2) dX10_seekFrom_29 ki_2 ?_
  refine ev_icmpF (tgt := 148) dX10_seekFrom_30 (by decide) c0 ?_
  refine ev_iload_n dX10_seekFrom_33 rfl ?_
  refine ev_istore dX10_seekFrom_34 (by decide) ?_
  refine ev_iconst (v := 0) dX10_seekFrom_36 ki_0 ?_
  refine ev_istore dX10_seekFrom_37 (by decide) ?_
  exact k
theorem bX10_seekFrom_27_1 {g : GG} {d n0 nf : Nat} {post : Option Value → LX → Prop} {n : Nat} {X : LX} (hn : 146 ≤ nf) (hX : Sh nf X) {v1 : Int32} {v2 : Int32} {v3 : Int32} {v4 : Int32} (c0 : 2 ≤ v4) (hp : post none X) : Ev g mX10_seekFrom d n0 nf post nf 27 [some (.ref 110), some (.int v1), some (.int v2), some (.int v3), some (.int v4), none, none] [] X := by
  refine ev_iload dX10_seekFrom_27 rfl ?_
  refine ev_iconst (v := 2) dX10_seekFrom_29 ki_2 ?_
  refine ev_icmpT (tgt := 148) dX10_seekFrom_30 (by decide) c0 ?_
  exact ev_ret dX10_seekFrom_148 rfl hp
theorem bX10_seekFrom_39_0 {g : GG} {d n0 nf : Nat} {post : Option Value → LX → Prop} {n : Nat} {X : LX} (hn : 146 ≤ n) (hX : Sh n X) {v1 : Nat} {v2 : Int32} {v3 : Int32} {v4 : Nat} {v5 : Int32} {v6 : Nat} (c0 : ¬ 4 ≤ nI v6) (b0 : v4 < 2) (b1 : v6 < 4) (b2 : v1 < 12) (b3 : v6 < 4) (b4 : v6 < 4) (b5 : v4 < 2) (b6 : v6 < 4) (k : Ev g mX10_seekFrom d n0 nf post n 79 [some (.ref 110), some (.int (nI v1)), some (.int v2), some (.int v3), some (.int (nI v4)), some (.int v5), some (.int (nI v6))] [.int ((lx_up X (124 + 1 + v4) v6 ((X (124 + 1 + v4) v6) + (X (111 + 1 + v1) v6))) (124 + 1 + v4) v6), .int v5] (lx_up X (124 + 1 + v4) v6 ((X (124 + 1 + v4) v6) + (X (111 + 1 + v1) v6)))) : Ev g mX10_seekFrom d n0 nf post n 39 [some (.ref 110), some (.int (nI v1)), some (.int v2), some (.int v3), some (.int (nI v4)), some (.int v5), some (.int (nI v6))] [] X := by
  refine ev_iload dX10_seekFrom_39 rfl ?_
  refine ev_iconst (v := 4) dX10_seekFrom_41 ki_4 ?_
  refine ev_icmpF (tgt := 90) dX10_seekFrom_42 (by decide) c0 ?_
  refine ev_aload_n dX10_seekFrom_45 rfl ?_
  refine ev_getS (q := 124) dX10_seekFrom_46 fo_10_16 (by omega) lo_110 rfl (sh_110_2 hX (by omega)) (by decide) ?_
  refine ev_iload dX10_seekFrom_49 rfl ?_
  refine ev_aald (q := 124 + 1 + v4) dX10_seekFrom_51 (by omega) (Or.inl ly_124) rfl b0 (hX.2 124 v4 (by omega) (Or.inl (by rw [ly_124])) (by rw [ly_124]; exact b0)) (by first | omega | (have := LY_l ly_124; have := LY_lt (show (LY 124).1 < 99 by rw [ly_124]; exact (by decide : 2 < 99)); omega)) ?_
  refine ev_iload dX10_seekFrom_52 rfl ?_
  refine ev_dup2 dX10_seekFrom_54 rfl rfl ?_
  refine ev_iald dX10_seekFrom_55 (by have := b0; omega) (lyr_124 _ b0) rfl b1 ?_
  refine ev_aload_n dX10_seekFrom_56 rfl ?_
  refine ev_getS (q := 111) dX10_seekFrom_57 fo_10_11 (by omega) lo_110 rfl (sh_110_1 hX (by omega)) (by decide) ?_
  refine ev_iload_n dX10_seekFrom_60 rfl ?_
  refine ev_aald (q := 111 + 1 + v1) dX10_seekFrom_61 (by omega) (Or.inl ly_111) rfl b2 (hX.2 111 v1 (by omega) (Or.inl (by rw [ly_111])) (by rw [ly_111]; exact b2)) (by first | omega | (have := LY_l ly_111; have := LY_lt (show (LY 111).1 < 99 by rw [ly_111]; exact (by decide : 2 < 99)); omega)) ?_
  refine ev_iload dX10_seekFrom_62 rfl ?_
  refine ev_iald dX10_seekFrom_64 (by have := b2; omega) (lyr_111 _ b2) rfl b3 ?_
  refine ev_iadd dX10_seekFrom_65 ?_
  refine ev_iast dX10_seekFrom_66 (by have := b0; omega) (lyr_124 _ b0) rfl b4 ?_
  have hX1 : Sh _ (lx_up X (124 + 1 + v4) v6 ((X (124 + 1 + v4) v6) + (X (111 + 1 + v1) v6))) := Sh.upA hX (by rw [(lyr_124 _ b0)]; exact (by decide : 0 < 2))
  refine ev_iload dX10_seekFrom_67 rfl ?_
  refine ev_aload_n dX10_seekFrom_69 rfl ?_
  refine ev_getS (q := 124) dX10_seekFrom_70 fo_10_16 (by omega) lo_110 rfl (sh_110_2 hX1 (by omega)) (by decide) ?_
  refine ev_iload dX10_seekFrom_73 rfl ?_
  refine ev_aald (q := 124 + 1 + v4) dX10_seekFrom_75 (by omega) (Or.inl ly_124) rfl b5 (hX1.2 124 v4 (by omega) (Or.inl (by rw [ly_124])) (by rw [ly_124]; exact b5)) (by first | omega | (have := LY_l ly_124; have := LY_lt (show (LY 124).1 < 99 by rw [ly_124]; exact (by decide : 2 < 99)); omega)) ?_
  refine ev_iload dX10_seekFrom_76 rfl ?_
  refine ev_iald dX10_seekFrom_78 (by have := b5; omega) (lyr_124 _ b5) rfl b6 ?_
  exact k
theorem bX10_seekFrom_39_1 {g : GG} {d n0 nf : Nat} {post : Option Value → LX → Prop} {n : Nat} {X : LX} (hn : 146 ≤ n) (hX : Sh n X) {v1 : Nat} {v2 : Int32} {v3 : Int32} {v4 : Nat} {v5 : Int32} {v6 : Nat} (c0 : 4 ≤ nI v6) (k : Ev g mX10_seekFrom d n0 nf post n 102 [some (.ref 110), some (.int (nI v1)), some (.int v2), some (.int v3), some (.int (nI v4)), some (.int v5), some (.int (nI v6))] [.int v5, .int (v2 ||| ((nI v4) <<< ((nI v1) &&& 31))), .int ((nI v1) - 1), .ref 110] X) : Ev g mX10_seekFrom d n0 nf post n 39 [some (.ref 110), some (.int (nI v1)), some (.int v2), some (.int v3), some (.int (nI v4)), some (.int v5), some (.int (nI v6))] [] X := by
  refine ev_iload dX10_seekFrom_39 rfl ?_
  refine ev_iconst (v := 4) dX10_seekFrom_41 ki_4 ?_
  refine ev_icmpT (tgt := 90) dX10_seekFrom_42 (by decide) c0 ?_
  refine ev_aload_n dX10_seekFrom_90 rfl ?_
  refine ev_iload_n dX10_seekFrom_91 rfl ?_
  refine ev_iconst (v := 1) dX10_seekFrom_92 ki_1 ?_
  refine ev_isub dX10_seekFrom_93 ?_
  refine ev_iload_n dX10_seekFrom_94 rfl ?_
  refine ev_iload dX10_seekFrom_95 rfl ?_
  refine ev_iload_n dX10_seekFrom_97 rfl ?_
  refine ev_ishl dX10_seekFrom_98 ?_
  refine ev_ior dX10_seekFrom_99 ?_
  refine ev_iload dX10_seekFrom_100 rfl ?_
  exact k
theorem bX10_seekFrom_82_0 {g : GG} {d n0 nf : Nat} {post : Option Value → LX → Prop} {n : Nat} {X : LX} (hn : 146 ≤ n) (hX : Sh n X) {v1 : Int32} {v2 : Int32} {v3 : Int32} {v4 : Int32} {v5 : Int32} {v6 : Int32} {s0 : Int32} (k : Ev g mX10_seekFrom d n0 nf post n 39 [some (.ref 110), some (.int v1), some (.int v2), some (.int v3), some (.int v4), some (.int s0), some (.int (v6 + 1))] [] X) : Ev g mX10_seekFrom d n0 nf post n 82 [some (.ref 110), some (.int v1), some (.int v2), some (.int v3), some (.int v4), some (.int v5), some (.int v6)] [.int s0] X := by
  refine ev_istore dX10_seekFrom_82 (by decide) ?_
  refine ev_iinc (v := v6 + 1) dX10_seekFrom_84 rfl (by rw [show Int32.ofInt 1 = 1 from ki_1]) (by decide) ?_
  refine ev_goto (tgt := 39) dX10_seekFrom_87 (by decide) ?_
  exact k
theorem bX10_seekFrom_105_0 {g : GG} {d n0 nf : Nat} {post : Option Value → LX → Prop} {n : Nat} {X : LX} (hn : 146 ≤ n) (hX : Sh n X) {v1 : Int32} {v2 : Int32} {v3 : Int32} {v4 : Int32} {v5 : Int32} {v6 : Int32} (k : Ev g mX10_seekFrom d n0 nf post n 108 [some (.ref 110), some (.int v1), some (.int v2), some (.int v3), some (.int v4), some (.int v5), some (.int 0)] [] X) : Ev g mX10_seekFrom d n0 nf post n 105 [some (.ref 110), some (.int v1), some (.int v2), some (.int v3), some (.int v4), some (.int v5), some (.int v6)] [] X := by
  refine ev_iconst (v := 0) dX10_seekFrom_105 ki_0 ?_
  refine ev_istore dX10_seekFrom_106 (by decide) ?_
  exact k
theorem bX10_seekFrom_108_0 {g : GG} {d n0 nf : Nat} {post : Option Value → LX → Prop} {n : Nat} {X : LX} (hn : 146 ≤ n) (hX : Sh n X) {v1 : Nat} {v2 : Int32} {v3 : Int32} {v4 : Nat} {v5 : Int32} {v6 : Nat} (c0 : ¬ 4 ≤ nI v6) (b0 : v4 < 2) (b1 : v6 < 4) (b2 : v1 < 12) (b3 : v6 < 4) (b4 : v6 < 4) (k : Ev g mX10_seekFrom d n0 nf post n 108 [some (.ref 110), some (.int (nI v1)), some (.int v2), some (.int v3), some (.int (nI v4)), some (.int v5), some (.int ((nI v6) + 1))] [] (lx_up X (124 + 1 + v4) v6 ((X (124 + 1 + v4) v6) - (X (111 + 1 + v1) v6)))) : Ev g mX10_seekFrom d n0 nf post n 108 [some (.ref 110), some (.int (nI v1)), some (.int v2), some (.int v3), some (.int (nI v4)), some (.int v5), some (.int (nI v6))] [] X := by
  refine ev_iload dX10_seekFrom_108 rfl ?_
  refine ev_iconst (v := 4) dX10_seekFrom_110 ki_4 ?_
  refine ev_icmpF (tgt := 142) dX10_seekFrom_111 (by decide) c0 ?_
  refine ev_aload_n dX10_seekFrom_114 rfl ?_
  refine ev_getS (q := 124) dX10_seekFrom_115 fo_10_16 (by omega) lo_110 rfl (sh_110_2 hX (by omega)) (by decide) ?_
  refine ev_iload dX10_seekFrom_118 rfl ?_
  refine ev_aald (q := 124 + 1 + v4) dX10_seekFrom_120 (by omega) (Or.inl ly_124) rfl b0 (hX.2 124 v4 (by omega) (Or.inl (by rw [ly_124])) (by rw [ly_124]; exact b0)) (by first | omega | (have := LY_l ly_124; have := LY_lt (show (LY 124).1 < 99 by rw [ly_124]; exact (by decide : 2 < 99)); omega)) ?_
  refine ev_iload dX10_seekFrom_121 rfl ?_
  refine ev_dup2 dX10_seekFrom_123 rfl rfl ?_
  refine ev_iald dX10_seekFrom_124 (by have := b0; omega) (lyr_124 _ b0) rfl b1 ?_
  refine ev_aload_n dX10_seekFrom_125 rfl ?_
  refine ev_getS (q := 111) dX10_seekFrom_126 fo_10_11 (by omega) lo_110 rfl (sh_110_1 hX (by omega)) (by decide) ?_
  refine ev_iload_n dX10_seekFrom_129 rfl ?_
  refine ev_aald (q := 111 + 1 + v1) dX10_seekFrom_130 (by omega) (Or.inl ly_111) rfl b2 (hX.2 111 v1 (by omega) (Or.inl (by rw [ly_111])) (by rw [ly_111]; exact b2)) (by first | omega | (have := LY_l ly_111; have := LY_lt (show (LY 111).1 < 99 by rw [ly_111]; exact (by decide : 2 < 99)); omega)) ?_
  refine ev_iload dX10_seekFrom_131 rfl ?_
  refine ev_iald dX10_seekFrom_133 (by have := b2; omega) (lyr_111 _ b2) rfl b3 ?_
  refine ev_isub dX10_seekFrom_134 ?_
  refine ev_iast dX10_seekFrom_135 (by have := b0; omega) (lyr_124 _ b0) rfl b4 ?_
  have hX1 : Sh _ (lx_up X (124 + 1 + v4) v6 ((X (124 + 1 + v4) v6) - (X (111 + 1 + v1) v6))) := Sh.upA hX (by rw [(lyr_124 _ b0)]; exact (by decide : 0 < 2))
  refine ev_iinc (v := (nI v6) + 1) dX10_seekFrom_136 rfl (by rw [show Int32.ofInt 1 = 1 from ki_1]) (by decide) ?_
  refine ev_goto (tgt := 108) dX10_seekFrom_139 (by decide) ?_
  exact k
theorem bX10_seekFrom_108_1 {g : GG} {d n0 nf : Nat} {post : Option Value → LX → Prop} {n : Nat} {X : LX} (hn : 146 ≤ n) (hX : Sh n X) {v1 : Nat} {v2 : Int32} {v3 : Int32} {v4 : Nat} {v5 : Int32} {v6 : Nat} (c0 : 4 ≤ nI v6) (k : Ev g mX10_seekFrom d n0 nf post n 27 [some (.ref 110), some (.int (nI v1)), some (.int v2), some (.int v3), some (.int ((nI v4) + 1)), some (.int v5), some (.int (nI v6))] [] X) : Ev g mX10_seekFrom d n0 nf post n 108 [some (.ref 110), some (.int (nI v1)), some (.int v2), some (.int v3), some (.int (nI v4)), some (.int v5), some (.int (nI v6))] [] X := by
  refine ev_iload dX10_seekFrom_108 rfl ?_
  refine ev_iconst (v := 4) dX10_seekFrom_110 ki_4 ?_
  refine ev_icmpT (tgt := 142) dX10_seekFrom_111 (by decide) c0 ?_
  refine ev_iinc (v := (nI v4) + 1) dX10_seekFrom_142 rfl (by rw [show Int32.ofInt 1 = 1 from ki_1]) (by decide) ?_
  refine ev_goto (tgt := 27) dX10_seekFrom_145 (by decide) ?_
  exact k
