/-! BLOCKS of the plan and of what packs by it. -/
theorem bX8_gatherNeeds_0_0 {g : GG} {d n : Nat} {post : Option Value → LX → Prop} {X : LX} (hn : 146 ≤ n) (hX : Sh n X)  (k : Ev g mX8_gatherNeeds d n n post n 7 [some (.ref 87), some (.int 0), none, none] [] (lx_up X 87 3 0)) : Ev g mX8_gatherNeeds d n n post n 0 [some (.ref 87), none, none, none] [] X := by
  refine ev_aload_n dX8_gatherNeeds_0 rfl ?_
  refine ev_iconst (v := 0) dX8_gatherNeeds_1 ki_0 ?_
  refine ev_putI dX8_gatherNeeds_2 fo_8_77 (by omega) lo_87 rfl rfl rfl ?_
  have hX1 : Sh _ (lx_up X 87 3 0) := Sh.upF hX (by rw [lo_87]; decide) (by decide)
  refine ev_iconst (v := 0) dX8_gatherNeeds_5 ki_0 ?_
  refine ev_istore_n dX8_gatherNeeds_6 (by decide) ?_
  exact k
theorem bX8_gatherNeeds_7_0 {g : GG} {d n : Nat} {post : Option Value → LX → Prop} {X : LX} (hd : 1 ≤ d) (hn : 146 ≤ n) (hX : Sh n X) {v1 : Nat} (c0 : ¬ X 2 0 ≤ nI v1) (c1 : num X 69 0 40) (b0 : v1 < 14) (k : Ev g mX8_gatherNeeds d n n post n 7 [some (.ref 87), some (.int ((nI v1) + 1)), none, none] [] (lx_up X 101 v1 (cLeft X (nI v1)))) : Ev g mX8_gatherNeeds d n n post n 7 [some (.ref 87), some (.int (nI v1)), none, none] [] X := by
  refine ev_iload_n dX8_gatherNeeds_7 rfl ?_
  refine ev_aload_n dX8_gatherNeeds_8 rfl ?_
  refine ev_getS (q := 1) dX8_gatherNeeds_9 fo_8_44 (by omega) lo_87 rfl (sh_87_0 hX (by omega)) (by decide) ?_
  refine ev_getS (q := 2) dX8_gatherNeeds_12 fo_8_80 (by omega) lo_1 rfl (sh_1_0 hX (by omega)) (by decide) ?_
  refine ev_getI dX8_gatherNeeds_15 fo_8_86 (by omega) lo_2 rfl ?_
  refine ev_icmpF (tgt := 44) dX8_gatherNeeds_18 (by decide) c0 ?_
  refine ev_aload_n dX8_gatherNeeds_21 rfl ?_
  refine ev_getS (q := 101) dX8_gatherNeeds_22 fo_8_16 (by omega) lo_87 rfl (sh_87_2 hX (by omega)) (by decide) ?_
  refine ev_iload_n dX8_gatherNeeds_25 rfl ?_
  refine ev_aload_n dX8_gatherNeeds_26 rfl ?_
  refine ev_getS (q := 1) dX8_gatherNeeds_27 fo_8_44 (by omega) lo_87 rfl (sh_87_0 hX (by omega)) (by decide) ?_
  refine ev_getS (q := 69) dX8_gatherNeeds_30 fo_8_91 (by omega) lo_1 rfl (sh_1_3 hX (by omega)) (by decide) ?_
  refine ev_iload_n dX8_gatherNeeds_33 rfl ?_
  refine e_Vi (as := [.int (nI v1)]) (rest := [.int (nI v1), .ref 101]) dX8_gatherNeeds_34 vX4_leftOf ml_8_95 isX4_leftOf seX4_leftOf npX4_leftOf (rc_69 (by omega)) (by decide) rfl (Nat.le_of_ble_eq_true rfl) (by omega) (k_X4_leftOf (d := d - 1) (by omega) (by omega) hX c1) ?_
  refine ev_iast dX8_gatherNeeds_37 (by omega) ly_101 rfl b0 ?_
  have hX1 : Sh _ (lx_up X 101 v1 (cLeft X (nI v1))) := Sh.upA hX (by rw [ly_101]; exact (by decide : 0 < 2))
  refine ev_iinc (v := (nI v1) + 1) dX8_gatherNeeds_38 rfl (by rw [show Int32.ofInt 1 = 1 from ki_1]) (by decide) ?_
  refine ev_goto (tgt := 7) dX8_gatherNeeds_41 (by decide) ?_
  exact k
theorem bX8_gatherNeeds_7_1 {g : GG} {d n : Nat} {post : Option Value → LX → Prop} {X : LX} (hn : 146 ≤ n) (hX : Sh n X) {v1 : Int32} (c0 : X 2 0 ≤ v1) (k : Ev g mX8_gatherNeeds d n n post n 46 [some (.ref 87), some (.int 0), none, none] [] X) : Ev g mX8_gatherNeeds d n n post n 7 [some (.ref 87), some (.int v1), none, none] [] X := by
  refine ev_iload_n dX8_gatherNeeds_7 rfl ?_
  refine ev_aload_n dX8_gatherNeeds_8 rfl ?_
  refine ev_getS (q := 1) dX8_gatherNeeds_9 fo_8_44 (by omega) lo_87 rfl (sh_87_0 hX (by omega)) (by decide) ?_
  refine ev_getS (q := 2) dX8_gatherNeeds_12 fo_8_80 (by omega) lo_1 rfl (sh_1_0 hX (by omega)) (by decide) ?_
  refine ev_getI dX8_gatherNeeds_15 fo_8_86 (by omega) lo_2 rfl ?_
  refine ev_icmpT (tgt := 44) dX8_gatherNeeds_18 (by decide) c0 ?_
  refine ev_iconst (v := 0) dX8_gatherNeeds_44 ki_0 ?_
  refine ev_istore_n dX8_gatherNeeds_45 (by decide) ?_
  exact k
theorem bX8_gatherNeeds_46_0 {g : GG} {d n : Nat} {post : Option Value → LX → Prop} {X : LX} (hd : 4 ≤ d) (hn : 146 ≤ n) (hX : Sh n X) {v1 : Nat} (c0 : ¬ X 37 0 ≤ nI v1) (c1 : v1 < 12) (c2 : okK X) (k : Ev g mX8_gatherNeeds d n n post n 71 [some (.ref 87), some (.int (nI v1)), some (.int (cBox X v1)), some (.int 0)] [] X) : Ev g mX8_gatherNeeds d n n post n 46 [some (.ref 87), some (.int (nI v1)), none, none] [] X := by
  refine ev_iload_n dX8_gatherNeeds_46 rfl ?_
  refine ev_aload_n dX8_gatherNeeds_47 rfl ?_
  refine ev_getS (q := 1) dX8_gatherNeeds_48 fo_8_44 (by omega) lo_87 rfl (sh_87_0 hX (by omega)) (by decide) ?_
  refine ev_getS (q := 37) dX8_gatherNeeds_51 fo_8_101 (by omega) lo_1 rfl (sh_1_2 hX (by omega)) (by decide) ?_
  refine ev_getI dX8_gatherNeeds_54 fo_8_105 (by omega) lo_37 rfl ?_
  refine ev_icmpF (tgt := 132) dX8_gatherNeeds_57 (by decide) c0 ?_
  refine ev_aload_n dX8_gatherNeeds_60 rfl ?_
  refine ev_getS (q := 1) dX8_gatherNeeds_61 fo_8_44 (by omega) lo_87 rfl (sh_87_0 hX (by omega)) (by decide) ?_
  refine ev_iload_n dX8_gatherNeeds_64 rfl ?_
  refine e_Vi (as := [.int (nI v1)]) (rest := []) dX8_gatherNeeds_65 vX1_boxToday ml_8_108 isX1_boxToday seX1_boxToday npX1_boxToday (rc_1 (by omega)) (by decide) rfl (Nat.le_of_ble_eq_true rfl) (by omega) (k_X1_boxToday (d := d - 1) (by omega) (by omega) hX c1 c2) ?_
  refine ev_istore_n dX8_gatherNeeds_68 (by decide) ?_
  refine ev_iconst (v := 0) dX8_gatherNeeds_69 ki_0 ?_
  refine ev_istore_n dX8_gatherNeeds_70 (by decide) ?_
  exact k
theorem bX8_gatherNeeds_46_1 {g : GG} {d n : Nat} {post : Option Value → LX → Prop} {X : LX} (hn : 146 ≤ n) (hX : Sh n X) {v1 : Int32} (c0 : X 37 0 ≤ v1) (k : Ev g mX8_gatherNeeds d n n post n 134 [some (.ref 87), some (.int 0), none, none] [] X) : Ev g mX8_gatherNeeds d n n post n 46 [some (.ref 87), some (.int v1), none, none] [] X := by
  refine ev_iload_n dX8_gatherNeeds_46 rfl ?_
  refine ev_aload_n dX8_gatherNeeds_47 rfl ?_
  refine ev_getS (q := 1) dX8_gatherNeeds_48 fo_8_44 (by omega) lo_87 rfl (sh_87_0 hX (by omega)) (by decide) ?_
  refine ev_getS (q := 37) dX8_gatherNeeds_51 fo_8_101 (by omega) lo_1 rfl (sh_1_2 hX (by omega)) (by decide) ?_
  refine ev_getI dX8_gatherNeeds_54 fo_8_105 (by omega) lo_37 rfl ?_
  refine ev_icmpT (tgt := 132) dX8_gatherNeeds_57 (by decide) c0 ?_
  refine ev_iconst (v := 0) dX8_gatherNeeds_132 ki_0 ?_
  refine ev_istore_n dX8_gatherNeeds_133 (by decide) ?_
  exact k
theorem bX8_gatherNeeds_71_0 {g : GG} {d n : Nat} {post : Option Value → LX → Prop} {X : LX} (hd : 2 ≤ d) (hn : 146 ≤ n) (hX : Sh n X) {v1 : Nat} {v2 : Int32} {v3 : Nat} (c0 : ¬ X 2 0 ≤ nI v3) (b0 : v1 < 12) (c1 : v1 < 12) (c2 : v3 < 14) (c3 : num X 23 0 10) (b1 : v3 < 14) (k : Ev g mX8_gatherNeeds d n n post n 71 [some (.ref 87), some (.int (nI v1)), some (.int v2), some (.int ((nI v3) + 1))] [] (lx_up (lx_up X (88 + 1 + v1) v3 (cNeed X v1 v2 v3)) 101 v3 (((lx_up X (88 + 1 + v1) v3 (cNeed X v1 v2 v3)) 101 v3) - ((lx_up X (88 + 1 + v1) v3 (cNeed X v1 v2 v3)) (88 + 1 + v1) v3)))) : Ev g mX8_gatherNeeds d n n post n 71 [some (.ref 87), some (.int (nI v1)), some (.int v2), some (.int (nI v3))] [] X := by
  refine ev_iload_n dX8_gatherNeeds_71 rfl ?_
  refine ev_aload_n dX8_gatherNeeds_72 rfl ?_
  refine ev_getS (q := 1) dX8_gatherNeeds_73 fo_8_44 (by omega) lo_87 rfl (sh_87_0 hX (by omega)) (by decide) ?_
  refine ev_getS (q := 2) dX8_gatherNeeds_76 fo_8_80 (by omega) lo_1 rfl (sh_1_0 hX (by omega)) (by decide) ?_
  refine ev_getI dX8_gatherNeeds_79 fo_8_86 (by omega) lo_2 rfl ?_
  refine ev_icmpF (tgt := 126) dX8_gatherNeeds_82 (by decide) c0 ?_
  refine ev_aload_n dX8_gatherNeeds_85 rfl ?_
  refine ev_getS (q := 88) dX8_gatherNeeds_86 fo_8_11 (by omega) lo_87 rfl (sh_87_1 hX (by omega)) (by decide) ?_
  refine ev_iload_n dX8_gatherNeeds_89 rfl ?_
  refine ev_aald (q := 88 + 1 + v1) dX8_gatherNeeds_90 (by omega) (Or.inl ly_88) rfl b0 (hX.2 88 v1 (by omega) (Or.inl (by rw [ly_88])) (by rw [ly_88]; exact b0)) (by first | omega | (have := LY_l ly_88; have := LY_lt (show (LY 88).1 < 99 by rw [ly_88]; exact (by decide : 2 < 99)); omega)) ?_
  refine ev_iload_n dX8_gatherNeeds_91 rfl ?_
  refine ev_aload_n dX8_gatherNeeds_92 rfl ?_
  refine ev_getS (q := 1) dX8_gatherNeeds_93 fo_8_44 (by omega) lo_87 rfl (sh_87_0 hX (by omega)) (by decide) ?_
  refine ev_iload_n dX8_gatherNeeds_96 rfl ?_
  refine ev_iload_n dX8_gatherNeeds_97 rfl ?_
  refine ev_iload_n dX8_gatherNeeds_98 rfl ?_
  refine e_Vi (as := [.int (nI v1), .int v2, .int (nI v3)]) (rest := [.int (nI v3), .ref (88 + 1 + v1)]) dX8_gatherNeeds_99 vX1_needOf ml_8_111 isX1_needOf seX1_needOf npX1_needOf (rc_1 (by omega)) (by decide) rfl (Nat.le_of_ble_eq_true rfl) (by omega) (k_X1_needOf (d := d - 1) (by omega) (by omega) hX c1 c2 c3) ?_
  refine ev_iast dX8_gatherNeeds_102 (by have := b0; omega) (lyr_88 _ b0) rfl b1 ?_
  have hX1 : Sh _ (lx_up X (88 + 1 + v1) v3 (cNeed X v1 v2 v3)) := Sh.upA hX (by rw [(lyr_88 _ b0)]; exact (by decide : 0 < 2))
  refine ev_aload_n dX8_gatherNeeds_103 rfl ?_
  refine ev_getS (q := 101) dX8_gatherNeeds_104 fo_8_16 (by omega) lo_87 rfl (sh_87_2 hX1 (by omega)) (by decide) ?_
  refine ev_iload_n dX8_gatherNeeds_107 rfl ?_
  refine ev_dup2 dX8_gatherNeeds_108 rfl rfl ?_
  refine ev_iald dX8_gatherNeeds_109 (by omega) ly_101 rfl b1 ?_
  refine ev_aload_n dX8_gatherNeeds_110 rfl ?_
  refine ev_getS (q := 88) dX8_gatherNeeds_111 fo_8_11 (by omega) lo_87 rfl (sh_87_1 hX1 (by omega)) (by decide) ?_
  refine ev_iload_n dX8_gatherNeeds_114 rfl ?_
  refine ev_aald (q := 88 + 1 + v1) dX8_gatherNeeds_115 (by omega) (Or.inl ly_88) rfl b0 (hX1.2 88 v1 (by omega) (Or.inl (by rw [ly_88])) (by rw [ly_88]; exact b0)) (by first | omega | (have := LY_l ly_88; have := LY_lt (show (LY 88).1 < 99 by rw [ly_88]; exact (by decide : 2 < 99)); omega)) ?_
  refine ev_iload_n dX8_gatherNeeds_116 rfl ?_
  refine ev_iald dX8_gatherNeeds_117 (by have := b0; omega) (lyr_88 _ b0) rfl b1 ?_
  refine ev_isub dX8_gatherNeeds_118 ?_
  refine ev_iast dX8_gatherNeeds_119 (by omega) ly_101 rfl b1 ?_
  have hX2 : Sh _ (lx_up (lx_up X (88 + 1 + v1) v3 (cNeed X v1 v2 v3)) 101 v3 (((lx_up X (88 + 1 + v1) v3 (cNeed X v1 v2 v3)) 101 v3) - ((lx_up X (88 + 1 + v1) v3 (cNeed X v1 v2 v3)) (88 + 1 + v1) v3))) := Sh.upA hX1 (by rw [ly_101]; exact (by decide : 0 < 2))
  refine ev_iinc (v := (nI v3) + 1) dX8_gatherNeeds_120 rfl (by rw [show Int32.ofInt 1 = 1 from ki_1]) (by decide) ?_
  refine ev_goto (tgt := 71) dX8_gatherNeeds_123 (by decide) ?_
  exact k
theorem bX8_gatherNeeds_71_1 {g : GG} {d n : Nat} {post : Option Value → LX → Prop} {X : LX} (hn : 146 ≤ n) (hX : Sh n X) {v1 : Int32} {v2 : Int32} {v3 : Int32} (c0 : X 2 0 ≤ v3) (k : Ev g mX8_gatherNeeds d n n post n 46 [some (.ref 87), some (.int (v1 + 1)), none, none] [] X) : Ev g mX8_gatherNeeds d n n post n 71 [some (.ref 87), some (.int v1), some (.int v2), some (.int v3)] [] X := by
  refine ev_iload_n dX8_gatherNeeds_71 rfl ?_
  refine ev_aload_n dX8_gatherNeeds_72 rfl ?_
  refine ev_getS (q := 1) dX8_gatherNeeds_73 fo_8_44 (by omega) lo_87 rfl (sh_87_0 hX (by omega)) (by decide) ?_
  refine ev_getS (q := 2) dX8_gatherNeeds_76 fo_8_80 (by omega) lo_1 rfl (sh_1_0 hX (by omega)) (by decide) ?_
  refine ev_getI dX8_gatherNeeds_79 fo_8_86 (by omega) lo_2 rfl ?_
  refine ev_icmpT (tgt := 126) dX8_gatherNeeds_82 (by decide) c0 ?_
  refine ev_iinc (v := v1 + 1) dX8_gatherNeeds_126 rfl (by rw [show Int32.ofInt 1 = 1 from ki_1]) (by decide) ?_
  refine ev_goto (tgt := 46) dX8_gatherNeeds_129 (by decide) ?_
  refine ev_wk (L := [some (.ref 87), some (.int (v1 + 1)), some (.int v2), some (.int v3)]) (L' := [some (.ref 87), some (.int (v1 + 1)), none, none]) (by simp [lwk]) ?_
  exact k
theorem bX8_gatherNeeds_134_0 {g : GG} {d n : Nat} {post : Option Value → LX → Prop} {X : LX} (hn : 146 ≤ n) (hX : Sh n X) {v1 : Nat} (c0 : ¬ X 2 0 ≤ nI v1) (b0 : v1 < 14) (c1 : ¬ 0 ≤ X 101 v1) (k : Ev g mX8_gatherNeeds d n n post n 134 [some (.ref 87), some (.int ((nI v1) + 1)), none, none] [] (lx_up X 87 3 ((X 87 3) + 1))) : Ev g mX8_gatherNeeds d n n post n 134 [some (.ref 87), some (.int (nI v1)), none, none] [] X := by
  refine ev_iload_n dX8_gatherNeeds_134 rfl ?_
  refine ev_aload_n dX8_gatherNeeds_135 rfl ?_
  refine ev_getS (q := 1) dX8_gatherNeeds_136 fo_8_44 (by omega) lo_87 rfl (sh_87_0 hX (by omega)) (by decide) ?_
  refine ev_getS (q := 2) dX8_gatherNeeds_139 fo_8_80 (by omega) lo_1 rfl (sh_1_0 hX (by omega)) (by decide) ?_
  refine ev_getI dX8_gatherNeeds_142 fo_8_86 (by omega) lo_2 rfl ?_
  refine ev_icmpF (tgt := 173) dX8_gatherNeeds_145 (by decide) c0 ?_
  refine ev_aload_n dX8_gatherNeeds_148 rfl ?_
  refine ev_getS (q := 101) dX8_gatherNeeds_149 fo_8_16 (by omega) lo_87 rfl (sh_87_2 hX (by omega)) (by decide) ?_
  refine ev_iload_n dX8_gatherNeeds_152 rfl ?_
  refine ev_iald dX8_gatherNeeds_153 (by omega) ly_101 rfl b0 ?_
  refine ev_ifF (tgt := 167) dX8_gatherNeeds_154 (by decide) c1 ?_
  refine ev_aload_n dX8_gatherNeeds_157 rfl ?_
  refine ev_dup dX8_gatherNeeds_158 rfl ?_
  refine ev_getI dX8_gatherNeeds_159 fo_8_77 (by omega) lo_87 rfl ?_
  refine ev_iconst (v := 1) dX8_gatherNeeds_162 ki_1 ?_
  refine ev_iadd dX8_gatherNeeds_163 ?_
  refine ev_putI dX8_gatherNeeds_164 fo_8_77 (by omega) lo_87 rfl rfl rfl ?_
  have hX1 : Sh _ (lx_up X 87 3 ((X 87 3) + 1)) := Sh.upF hX (by rw [lo_87]; decide) (by decide)
  refine ev_iinc (v := (nI v1) + 1) dX8_gatherNeeds_167 rfl (by rw [show Int32.ofInt 1 = 1 from ki_1]) (by decide) ?_
  refine ev_goto (tgt := 134) dX8_gatherNeeds_170 (by decide) ?_
  exact k
theorem bX8_gatherNeeds_134_1 {g : GG} {d n : Nat} {post : Option Value → LX → Prop} {X : LX} (hn : 146 ≤ n) (hX : Sh n X) {v1 : Nat} (c0 : ¬ X 2 0 ≤ nI v1) (b0 : v1 < 14) (c1 : 0 ≤ X 101 v1) (k : Ev g mX8_gatherNeeds d n n post n 134 [some (.ref 87), some (.int ((nI v1) + 1)), none, none] [] X) : Ev g mX8_gatherNeeds d n n post n 134 [some (.ref 87), some (.int (nI v1)), none, none] [] X := by
  refine ev_iload_n dX8_gatherNeeds_134 rfl ?_
  refine ev_aload_n dX8_gatherNeeds_135 rfl ?_
  refine ev_getS (q := 1) dX8_gatherNeeds_136 fo_8_44 (by omega) lo_87 rfl (sh_87_0 hX (by omega)) (by decide) ?_
  refine ev_getS (q := 2) dX8_gatherNeeds_139 fo_8_80 (by omega) lo_1 rfl (sh_1_0 hX (by omega)) (by decide) ?_
  refine ev_getI dX8_gatherNeeds_142 fo_8_86 (by omega) lo_2 rfl ?_
  refine ev_icmpF (tgt := 173) dX8_gatherNeeds_145 (by decide) c0 ?_
  refine ev_aload_n dX8_gatherNeeds_148 rfl ?_
  refine ev_getS (q := 101) dX8_gatherNeeds_149 fo_8_16 (by omega) lo_87 rfl (sh_87_2 hX (by omega)) (by decide) ?_
  refine ev_iload_n dX8_gatherNeeds_152 rfl ?_
  refine ev_iald dX8_gatherNeeds_153 (by omega) ly_101 rfl b0 ?_
  refine ev_ifT (tgt := 167) dX8_gatherNeeds_154 (by decide) c1 ?_
  refine ev_iinc (v := (nI v1) + 1) dX8_gatherNeeds_167 rfl (by rw [show Int32.ofInt 1 = 1 from ki_1]) (by decide) ?_
  refine ev_goto (tgt := 134) dX8_gatherNeeds_170 (by decide) ?_
  exact k
theorem bX8_gatherNeeds_134_2 {g : GG} {d n : Nat} {post : Option Value → LX → Prop} {X : LX} (hn : 146 ≤ n) (hX : Sh n X) {v1 : Int32} (c0 : X 2 0 ≤ v1) (hp : post none X) : Ev g mX8_gatherNeeds d n n post n 134 [some (.ref 87), some (.int v1), none, none] [] X := by
  refine ev_iload_n dX8_gatherNeeds_134 rfl ?_
  refine ev_aload_n dX8_gatherNeeds_135 rfl ?_
  refine ev_getS (q := 1) dX8_gatherNeeds_136 fo_8_44 (by omega) lo_87 rfl (sh_87_0 hX (by omega)) (by decide) ?_
  refine ev_getS (q := 2) dX8_gatherNeeds_139 fo_8_80 (by omega) lo_1 rfl (sh_1_0 hX (by omega)) (by decide) ?_
  refine ev_getI dX8_gatherNeeds_142 fo_8_86 (by omega) lo_2 rfl ?_
  refine ev_icmpT (tgt := 173) dX8_gatherNeeds_145 (by decide) c0 ?_
  exact ev_ret dX8_gatherNeeds_173 rfl hp
theorem bX8_gatherSwaps_0_0 {g : GG} {d n : Nat} {post : Option Value → LX → Prop} {X : LX} (hn : 146 ≤ n) (hX : Sh n X)  (k : Ev g mX8_gatherSwaps d n n post n 14 [some (.ref 87), some (.int 0), none] [] (lx_up (lx_up X 87 9 0) 102 0 0)) : Ev g mX8_gatherSwaps d n n post n 0 [some (.ref 87), none, none] [] X := by
  refine ev_aload_n dX8_gatherSwaps_0 rfl ?_
  refine ev_iconst (v := 0) dX8_gatherSwaps_1 ki_0 ?_
  refine ev_putI dX8_gatherSwaps_2 fo_8_115 (by omega) lo_87 rfl rfl rfl ?_
  have hX1 : Sh _ (lx_up X 87 9 0) := Sh.upF hX (by rw [lo_87]; decide) (by decide)
  refine ev_aload_n dX8_gatherSwaps_5 rfl ?_
  refine ev_getS (q := 102) dX8_gatherSwaps_6 fo_8_20 (by omega) lo_87 rfl (sh_87_4 hX1 (by omega)) (by decide) ?_
  refine ev_iconst (v := 0) dX8_gatherSwaps_9 ki_0 ?_
  refine ev_iconst (v := 0) dX8_gatherSwaps_10 ki_0 ?_
  refine ev_iast dX8_gatherSwaps_11 (by omega) ly_102 nIl_0 (by decide) ?_
  have hX2 : Sh _ (lx_up (lx_up X 87 9 0) 102 0 0) := Sh.upA hX1 (by rw [ly_102]; exact (by decide : 0 < 2))
  refine ev_iconst (v := 0) dX8_gatherSwaps_12 ki_0 ?_
  refine ev_istore_n dX8_gatherSwaps_13 (by decide) ?_
  exact k
theorem bX8_gatherSwaps_14_0 {g : GG} {d n : Nat} {post : Option Value → LX → Prop} {X : LX} (hn : 146 ≤ n) (hX : Sh n X) {v1 : Int32} (c0 : ¬ X 37 0 ≤ v1) (k : Ev g mX8_gatherSwaps d n n post n 30 [some (.ref 87), some (.int v1), some (.int 0)] [] X) : Ev g mX8_gatherSwaps d n n post n 14 [some (.ref 87), some (.int v1), none] [] X := by
  refine ev_iload_n dX8_gatherSwaps_14 rfl ?_
  refine ev_aload_n dX8_gatherSwaps_15 rfl ?_
  refine ev_getS (q := 1) dX8_gatherSwaps_16 fo_8_44 (by omega) lo_87 rfl (sh_87_0 hX (by omega)) (by decide) ?_
  refine ev_getS (q := 37) dX8_gatherSwaps_19 fo_8_101 (by omega) lo_1 rfl (sh_1_2 hX (by omega)) (by decide) ?_
  refine ev_getI dX8_gatherSwaps_22 fo_8_105 (by omega) lo_37 rfl ?_
  refine ev_icmpF (tgt := 85) dX8_gatherSwaps_25 (by decide) c0 ?_
  refine ev_iconst (v := 0) dX8_gatherSwaps_28 ki_0 ?_
  refine ev_istore_n dX8_gatherSwaps_29 (by decide) ?_
  exact k
theorem bX8_gatherSwaps_14_1 {g : GG} {d n : Nat} {post : Option Value → LX → Prop} {X : LX} (hn : 146 ≤ n) (hX : Sh n X) {v1 : Int32} (c0 : X 37 0 ≤ v1) (hp : post none X) : Ev g mX8_gatherSwaps d n n post n 14 [some (.ref 87), some (.int v1), none] [] X := by
  refine ev_iload_n dX8_gatherSwaps_14 rfl ?_
  refine ev_aload_n dX8_gatherSwaps_15 rfl ?_
  refine ev_getS (q := 1) dX8_gatherSwaps_16 fo_8_44 (by omega) lo_87 rfl (sh_87_0 hX (by omega)) (by decide) ?_
  refine ev_getS (q := 37) dX8_gatherSwaps_19 fo_8_101 (by omega) lo_1 rfl (sh_1_2 hX (by omega)) (by decide) ?_
  refine ev_getI dX8_gatherSwaps_22 fo_8_105 (by omega) lo_37 rfl ?_
  refine ev_icmpT (tgt := 85) dX8_gatherSwaps_25 (by decide) c0 ?_
  exact ev_ret dX8_gatherSwaps_85 rfl hp
theorem bX8_gatherSwaps_30_0 {g : GG} {d n : Nat} {post : Option Value → LX → Prop} {X : LX} (hn : 146 ≤ n) (hX : Sh n X) {v1 : Nat} {v2 : Nat} (c0 : ¬ X 2 0 ≤ nI v2) (b0 : v1 < 12) (b1 : v2 < 14) (c1 : ¬ X (88 + 1 + v1) v2 ≤ 0) (k : Ev g mX8_gatherSwaps d n n post n 58 [some (.ref 87), some (.int (nI v1)), some (.int (nI v2))] [.int (nI v2), .int (nI v1), .ref 87] X) : Ev g mX8_gatherSwaps d n n post n 30 [some (.ref 87), some (.int (nI v1)), some (.int (nI v2))] [] X := by
  refine ev_iload_n dX8_gatherSwaps_30 rfl ?_
  refine ev_aload_n dX8_gatherSwaps_31 rfl ?_
  refine ev_getS (q := 1) dX8_gatherSwaps_32 fo_8_44 (by omega) lo_87 rfl (sh_87_0 hX (by omega)) (by decide) ?_
  refine ev_getS (q := 2) dX8_gatherSwaps_35 fo_8_80 (by omega) lo_1 rfl (sh_1_0 hX (by omega)) (by decide) ?_
  refine ev_getI dX8_gatherSwaps_38 fo_8_86 (by omega) lo_2 rfl ?_
  refine ev_icmpF (tgt := 67) dX8_gatherSwaps_41 (by decide) c0 ?_
  refine ev_aload_n dX8_gatherSwaps_44 rfl ?_
  refine ev_getS (q := 88) dX8_gatherSwaps_45 fo_8_11 (by omega) lo_87 rfl (sh_87_1 hX (by omega)) (by decide) ?_
  refine ev_iload_n dX8_gatherSwaps_48 rfl ?_
  refine ev_aald (q := 88 + 1 + v1) dX8_gatherSwaps_49 (by omega) (Or.inl ly_88) rfl b0 (hX.2 88 v1 (by omega) (Or.inl (by rw [ly_88])) (by rw [ly_88]; exact b0)) (by first | omega | (have := LY_l ly_88; have := LY_lt (show (LY 88).1 < 99 by rw [ly_88]; exact (by decide : 2 < 99)); omega)) ?_
  refine ev_iload_n dX8_gatherSwaps_50 rfl ?_
  refine ev_iald dX8_gatherSwaps_51 (by have := b0; omega) (lyr_88 _ b0) rfl b1 ?_
  refine ev_ifF (tgt := 61) dX8_gatherSwaps_52 (by decide) c1 ?_
  refine ev_aload_n dX8_gatherSwaps_55 rfl ?_
  refine ev_iload_n dX8_gatherSwaps_56 rfl ?_
  refine ev_iload_n dX8_gatherSwaps_57 rfl ?_
  exact k
theorem bX8_gatherSwaps_30_1 {g : GG} {d n : Nat} {post : Option Value → LX → Prop} {X : LX} (hn : 146 ≤ n) (hX : Sh n X) {v1 : Nat} {v2 : Nat} (c0 : ¬ X 2 0 ≤ nI v2) (b0 : v1 < 12) (b1 : v2 < 14) (c1 : X (88 + 1 + v1) v2 ≤ 0) (k : Ev g mX8_gatherSwaps d n n post n 30 [some (.ref 87), some (.int (nI v1)), some (.int ((nI v2) + 1))] [] X) : Ev g mX8_gatherSwaps d n n post n 30 [some (.ref 87), some (.int (nI v1)), some (.int (nI v2))] [] X := by
  refine ev_iload_n dX8_gatherSwaps_30 rfl ?_
  refine ev_aload_n dX8_gatherSwaps_31 rfl ?_
  refine ev_getS (q := 1) dX8_gatherSwaps_32 fo_8_44 (by omega) lo_87 rfl (sh_87_0 hX (by omega)) (by decide) ?_
  refine ev_getS (q := 2) dX8_gatherSwaps_35 fo_8_80 (by omega) lo_1 rfl (sh_1_0 hX (by omega)) (by decide) ?_
  refine ev_getI dX8_gatherSwaps_38 fo_8_86 (by omega) lo_2 rfl ?_
  refine ev_icmpF (tgt := 67) dX8_gatherSwaps_41 (by decide) c0 ?_
  refine ev_aload_n dX8_gatherSwaps_44 rfl ?_
  refine ev_getS (q := 88) dX8_gatherSwaps_45 fo_8_11 (by omega) lo_87 rfl (sh_87_1 hX (by omega)) (by decide) ?_
  refine ev_iload_n dX8_gatherSwaps_48 rfl ?_
  refine ev_aald (q := 88 + 1 + v1) dX8_gatherSwaps_49 (by omega) (Or.inl ly_88) rfl b0 (hX.2 88 v1 (by omega) (Or.inl (by rw [ly_88])) (by rw [ly_88]; exact b0)) (by first | omega | (have := LY_l ly_88; have := LY_lt (show (LY 88).1 < 99 by rw [ly_88]; exact (by decide : 2 < 99)); omega)) ?_
  refine ev_iload_n dX8_gatherSwaps_50 rfl ?_
  refine ev_iald dX8_gatherSwaps_51 (by have := b0; omega) (lyr_88 _ b0) rfl b1 ?_
  refine ev_ifT (tgt := 61) dX8_gatherSwaps_52 (by decide) c1 ?_
  refine ev_iinc (v := (nI v2) + 1) dX8_gatherSwaps_61 rfl (by rw [show Int32.ofInt 1 = 1 from ki_1]) (by decide) ?_
  refine ev_goto (tgt := 30) dX8_gatherSwaps_64 (by decide) ?_
  exact k
theorem bX8_gatherSwaps_30_2 {g : GG} {d n : Nat} {post : Option Value → LX → Prop} {X : LX} (hn : 146 ≤ n) (hX : Sh n X) {v1 : Nat} {v2 : Int32} (c0 : X 2 0 ≤ v2) (b0 : (v1 + 1) < 13) (k : Ev g mX8_gatherSwaps d n n post n 14 [some (.ref 87), some (.int ((nI v1) + 1)), none] [] (lx_up X 102 (v1 + 1) (X 87 9))) : Ev g mX8_gatherSwaps d n n post n 30 [some (.ref 87), some (.int (nI v1)), some (.int v2)] [] X := by
  refine ev_iload_n dX8_gatherSwaps_30 rfl ?_
  refine ev_aload_n dX8_gatherSwaps_31 rfl ?_
  refine ev_getS (q := 1) dX8_gatherSwaps_32 fo_8_44 (by omega) lo_87 rfl (sh_87_0 hX (by omega)) (by decide) ?_
  refine ev_getS (q := 2) dX8_gatherSwaps_35 fo_8_80 (by omega) lo_1 rfl (sh_1_0 hX (by omega)) (by decide) ?_
  refine ev_getI dX8_gatherSwaps_38 fo_8_86 (by omega) lo_2 rfl ?_
  refine ev_icmpT (tgt := 67) dX8_gatherSwaps_41 (by decide) c0 ?_
  refine ev_aload_n dX8_gatherSwaps_67 rfl ?_
  refine ev_getS (q := 102) dX8_gatherSwaps_68 fo_8_20 (by omega) lo_87 rfl (sh_87_4 hX (by omega)) (by decide) ?_
  refine ev_iload_n dX8_gatherSwaps_71 rfl ?_
  refine ev_iconst (v := 1) dX8_gatherSwaps_72 ki_1 ?_
  refine ev_iadd dX8_gatherSwaps_73 ?_
  refine ev_aload_n dX8_gatherSwaps_74 rfl ?_
  refine ev_getI dX8_gatherSwaps_75 fo_8_115 (by omega) lo_87 rfl ?_
  refine ev_iast dX8_gatherSwaps_78 (by omega) ly_102 (by show nI v1 + nI 1 = nI (v1 + 1); simp only [pk_mul, nI_add]) b0 ?_
  have hX1 : Sh _ (lx_up X 102 (v1 + 1) (X 87 9)) := Sh.upA hX (by rw [ly_102]; exact (by decide : 0 < 2))
  refine ev_iinc (v := (nI v1) + 1) dX8_gatherSwaps_79 rfl (by rw [show Int32.ofInt 1 = 1 from ki_1]) (by decide) ?_
  refine ev_goto (tgt := 14) dX8_gatherSwaps_82 (by decide) ?_
  refine ev_wk (L := [some (.ref 87), some (.int ((nI v1) + 1)), some (.int v2)]) (L' := [some (.ref 87), some (.int ((nI v1) + 1)), none]) (by simp [lwk]) ?_
  exact k
theorem bX8_gatherSwaps_61_0 {g : GG} {d n : Nat} {post : Option Value → LX → Prop} {X : LX} (hn : 146 ≤ n) (hX : Sh n X) {v1 : Int32} {v2 : Int32} (k : Ev g mX8_gatherSwaps d n n post n 30 [some (.ref 87), some (.int v1), some (.int (v2 + 1))] [] X) : Ev g mX8_gatherSwaps d n n post n 61 [some (.ref 87), some (.int v1), some (.int v2)] [] X := by
  refine ev_iinc (v := v2 + 1) dX8_gatherSwaps_61 rfl (by rw [show Int32.ofInt 1 = 1 from ki_1]) (by decide) ?_
  refine ev_goto (tgt := 30) dX8_gatherSwaps_64 (by decide) ?_
  exact k
theorem bX8_gatherSwapsOf_0_0 {g : GG} {d n : Nat} {post : Option Value → LX → Prop} {X : LX} (hn : 146 ≤ n) (hX : Sh n X) {v1 : Int32} {v2 : Int32} (k : Ev g mX8_gatherSwapsOf d n n post n 11 [some (.ref 87), some (.int v1), some (.int v2), some (.ref 2), some (.int 0)] [] X) : Ev g mX8_gatherSwapsOf d n n post n 0 [some (.ref 87), some (.int v1), some (.int v2), none, none] [] X := by
  refine ev_aload_n dX8_gatherSwapsOf_0 rfl ?_
  refine ev_getS (q := 1) dX8_gatherSwapsOf_1 fo_8_44 (by omega) lo_87 rfl (sh_87_0 hX (by omega)) (by decide) ?_
  refine ev_getS (q := 2) dX8_gatherSwapsOf_4 fo_8_80 (by omega) lo_1 rfl (sh_1_0 hX (by omega)) (by decide) ?_
  refine ev_astore_n dX8_gatherSwapsOf_7 (by decide) ?_
  refine ev_iconst (v := 0) dX8_gatherSwapsOf_8 ki_0 ?_
  refine ev_istore dX8_gatherSwapsOf_9 (by decide) ?_
  exact k
theorem bX8_gatherSwapsOf_11_0 {g : GG} {d n : Nat} {post : Option Value → LX → Prop} {X : LX} (hn : 146 ≤ n) (hX : Sh n X) {v1 : Nat} {v2 : Nat} {v4 : Nat} (c0 : ¬ X 2 0 ≤ nI v4) (c1 : ¬ 588 ≤ X 87 9) (b0 : v1 < 12) (b1 : v4 < 14) (c2 : ¬ 0 < X (88 + 1 + v1) v4) (b2 : v2 < 14) (c3 : ¬ X 4 v4 = X 4 v2) (k : Ev g mX8_gatherSwapsOf d n n post n 11 [some (.ref 87), some (.int (nI v1)), some (.int (nI v2)), some (.ref 2), some (.int ((nI v4) + 1))] [] X) : Ev g mX8_gatherSwapsOf d n n post n 11 [some (.ref 87), some (.int (nI v1)), some (.int (nI v2)), some (.ref 2), some (.int (nI v4))] [] X := by
  refine ev_iload dX8_gatherSwapsOf_11 rfl ?_
  refine ev_aload_n dX8_gatherSwapsOf_13 rfl ?_
  refine ev_getI dX8_gatherSwapsOf_14 fo_8_86 (by omega) lo_2 rfl ?_
  refine ev_icmpF (tgt := 171) dX8_gatherSwapsOf_17 (by decide) c0 ?_
  refine ev_aload_n dX8_gatherSwapsOf_20 rfl ?_
  refine ev_getI dX8_gatherSwapsOf_21 fo_8_115 (by omega) lo_87 rfl ?_
  refine ev_sipush (v := 588) dX8_gatherSwapsOf_24 ks_588 ?_
  refine ev_icmpF (tgt := 171) dX8_gatherSwapsOf_27 (by decide) c1 ?_
  refine ev_aload_n dX8_gatherSwapsOf_30 rfl ?_
  refine ev_getS (q := 88) dX8_gatherSwapsOf_31 fo_8_11 (by omega) lo_87 rfl (sh_87_1 hX (by omega)) (by decide) ?_
  refine ev_iload_n dX8_gatherSwapsOf_34 rfl ?_
  refine ev_aald (q := 88 + 1 + v1) dX8_gatherSwapsOf_35 (by omega) (Or.inl ly_88) rfl b0 (hX.2 88 v1 (by omega) (Or.inl (by rw [ly_88])) (by rw [ly_88]; exact b0)) (by first | omega | (have := LY_l ly_88; have := LY_lt (show (LY 88).1 < 99 by rw [ly_88]; exact (by decide : 2 < 99)); omega)) ?_
  refine ev_iload dX8_gatherSwapsOf_36 rfl ?_
  refine ev_iald dX8_gatherSwapsOf_38 (by have := b0; omega) (lyr_88 _ b0) rfl b1 ?_
  refine ev_ifF (tgt := 165) dX8_gatherSwapsOf_39 (by decide) c2 ?_
  refine ev_aload_n dX8_gatherSwapsOf_42 rfl ?_
  refine ev_getS (q := 4) dX8_gatherSwapsOf_43 fo_8_122 (by omega) lo_2 rfl (sh_2_2 hX (by omega)) (by decide) ?_
  refine ev_iload dX8_gatherSwapsOf_46 rfl ?_
  refine ev_iald dX8_gatherSwapsOf_48 (by omega) ly_4 rfl b1 ?_
  refine ev_aload_n dX8_gatherSwapsOf_49 rfl ?_
  refine ev_getS (q := 4) dX8_gatherSwapsOf_50 fo_8_122 (by omega) lo_2 rfl (sh_2_2 hX (by omega)) (by decide) ?_
  refine ev_iload_n dX8_gatherSwapsOf_53 rfl ?_
  refine ev_iald dX8_gatherSwapsOf_54 (by omega) ly_4 rfl b2 ?_
  refine ev_icmpF (tgt := 61) dX8_gatherSwapsOf_55 (by decide) c3 ?_
  refine ev_goto (tgt := 165) dX8_gatherSwapsOf_58 (by decide) ?_
  refine ev_iinc (v := (nI v4) + 1) dX8_gatherSwapsOf_165 rfl (by rw [show Int32.ofInt 1 = 1 from ki_1]) (by decide) ?_
  refine ev_goto (tgt := 11) dX8_gatherSwapsOf_168 (by decide) ?_
  exact k
theorem bX8_gatherSwapsOf_11_1 {g : GG} {d n : Nat} {post : Option Value → LX → Prop} {X : LX} (hn : 146 ≤ n) (hX : Sh n X) {v1 : Nat} {v2 : Nat} {v4 : Nat} (c0 : ¬ X 2 0 ≤ nI v4) (c1 : ¬ 588 ≤ X 87 9) (b0 : v1 < 12) (b1 : v4 < 14) (c2 : ¬ 0 < X (88 + 1 + v1) v4) (b2 : v2 < 14) (c3 : X 4 v4 = X 4 v2) (c4 : ¬ (X 3 v4) &&& (X 38 v1) = 0) (k : Ev g mX8_gatherSwapsOf d n n post n 11 [some (.ref 87), some (.int (nI v1)), some (.int (nI v2)), some (.ref 2), some (.int ((nI v4) + 1))] [] X) : Ev g mX8_gatherSwapsOf d n n post n 11 [some (.ref 87), some (.int (nI v1)), some (.int (nI v2)), some (.ref 2), some (.int (nI v4))] [] X := by
  refine ev_iload dX8_gatherSwapsOf_11 rfl ?_
  refine ev_aload_n dX8_gatherSwapsOf_13 rfl ?_
  refine ev_getI dX8_gatherSwapsOf_14 fo_8_86 (by omega) lo_2 rfl ?_
  refine ev_icmpF (tgt := 171) dX8_gatherSwapsOf_17 (by decide) c0 ?_
  refine ev_aload_n dX8_gatherSwapsOf_20 rfl ?_
  refine ev_getI dX8_gatherSwapsOf_21 fo_8_115 (by omega) lo_87 rfl ?_
  refine ev_sipush (v := 588) dX8_gatherSwapsOf_24 ks_588 ?_
  refine ev_icmpF (tgt := 171) dX8_gatherSwapsOf_27 (by decide) c1 ?_
  refine ev_aload_n dX8_gatherSwapsOf_30 rfl ?_
  refine ev_getS (q := 88) dX8_gatherSwapsOf_31 fo_8_11 (by omega) lo_87 rfl (sh_87_1 hX (by omega)) (by decide) ?_
  refine ev_iload_n dX8_gatherSwapsOf_34 rfl ?_
  refine ev_aald (q := 88 + 1 + v1) dX8_gatherSwapsOf_35 (by omega) (Or.inl ly_88) rfl b0 (hX.2 88 v1 (by omega) (Or.inl (by rw [ly_88])) (by rw [ly_88]; exact b0)) (by first | omega | (have := LY_l ly_88; have := LY_lt (show (LY 88).1 < 99 by rw [ly_88]; exact (by decide : 2 < 99)); omega)) ?_
  refine ev_iload dX8_gatherSwapsOf_36 rfl ?_
  refine ev_iald dX8_gatherSwapsOf_38 (by have := b0; omega) (lyr_88 _ b0) rfl b1 ?_
  refine ev_ifF (tgt := 165) dX8_gatherSwapsOf_39 (by decide) c2 ?_
  refine ev_aload_n dX8_gatherSwapsOf_42 rfl ?_
  refine ev_getS (q := 4) dX8_gatherSwapsOf_43 fo_8_122 (by omega) lo_2 rfl (sh_2_2 hX (by omega)) (by decide) ?_
  refine ev_iload dX8_gatherSwapsOf_46 rfl ?_
  refine ev_iald dX8_gatherSwapsOf_48 (by omega) ly_4 rfl b1 ?_
  refine ev_aload_n dX8_gatherSwapsOf_49 rfl ?_
  refine ev_getS (q := 4) dX8_gatherSwapsOf_50 fo_8_122 (by omega) lo_2 rfl (sh_2_2 hX (by omega)) (by decide) ?_
  refine ev_iload_n dX8_gatherSwapsOf_53 rfl ?_
  refine ev_iald dX8_gatherSwapsOf_54 (by omega) ly_4 rfl b2 ?_
  refine ev_icmpT (tgt := 61) dX8_gatherSwapsOf_55 (by decide) c3 ?_
  refine ev_aload_n dX8_gatherSwapsOf_61 rfl ?_
  refine ev_getS (q := 3) dX8_gatherSwapsOf_62 fo_8_125 (by omega) lo_2 rfl (sh_2_1 hX (by omega)) (by decide) ?_
  refine ev_iload dX8_gatherSwapsOf_65 rfl ?_
  refine ev_iald dX8_gatherSwapsOf_67 (by omega) ly_3 rfl b1 ?_
  refine ev_aload_n dX8_gatherSwapsOf_68 rfl ?_
  refine ev_getS (q := 1) dX8_gatherSwapsOf_69 fo_8_44 (by omega) lo_87 rfl (sh_87_0 hX (by omega)) (by decide) ?_
  refine ev_getS (q := 37) dX8_gatherSwapsOf_72 fo_8_101 (by omega) lo_1 rfl (sh_1_2 hX (by omega)) (by decide) ?_
  refine ev_getS (q := 38) dX8_gatherSwapsOf_75 fo_8_128 (by omega) lo_37 rfl (sh_37_1 hX (by omega)) (by decide) ?_
  refine ev_iload_n dX8_gatherSwapsOf_78 rfl ?_
  refine ev_iald dX8_gatherSwapsOf_79 (by omega) ly_38 rfl b0 ?_
  refine ev_iand dX8_gatherSwapsOf_80 ?_
  refine ev_ifF (tgt := 87) dX8_gatherSwapsOf_81 (by decide) c4 ?_
  refine ev_goto (tgt := 165) dX8_gatherSwapsOf_84 (by decide) ?_
  refine ev_iinc (v := (nI v4) + 1) dX8_gatherSwapsOf_165 rfl (by rw [show Int32.ofInt 1 = 1 from ki_1]) (by decide) ?_
  refine ev_goto (tgt := 11) dX8_gatherSwapsOf_168 (by decide) ?_
  exact k
theorem bX8_gatherSwapsOf_11_2 {g : GG} {d n : Nat} {post : Option Value → LX → Prop} {X : LX} (hn : 146 ≤ n) (hX : Sh n X) {v1 : Nat} {v2 : Nat} {v4 : Nat} {j1 : Nat} (c0 : ¬ X 2 0 ≤ nI v4) (c1 : ¬ 588 ≤ X 87 9) (b0 : v1 < 12) (b1 : v4 < 14) (c2 : ¬ 0 < X (88 + 1 + v1) v4) (b2 : v2 < 14) (c3 : X 4 v4 = X 4 v2) (c4 : (X 3 v4) &&& (X 38 v1) = 0) (hj1 : X 87 9 = nI j1) (b3 : j1 < 588) (k : Ev g mX8_gatherSwapsOf d n n post n 11 [some (.ref 87), some (.int (nI v1)), some (.int (nI v2)), some (.ref 2), some (.int ((nI v4) + 1))] [] (lx_up (lx_up (lx_up (lx_up (lx_up X 103 j1 (nI v2)) 104 j1 (nI v4)) 105 j1 ((lx_up (lx_up X 103 j1 (nI v2)) 104 j1 (nI v4)) (88 + 1 + v1) v2)) 106 j1 ((((lx_up (lx_up (lx_up X 103 j1 (nI v2)) 104 j1 (nI v4)) 105 j1 ((lx_up (lx_up X 103 j1 (nI v2)) 104 j1 (nI v4)) (88 + 1 + v1) v2)) (88 + 1 + v1) v2) * ((lx_up (lx_up (lx_up X 103 j1 (nI v2)) 104 j1 (nI v4)) 105 j1 ((lx_up (lx_up X 103 j1 (nI v2)) 104 j1 (nI v4)) (88 + 1 + v1) v2)) (8 + 1 + v2) v4)) / 100)) 87 9 ((X 87 9) + 1))) : Ev g mX8_gatherSwapsOf d n n post n 11 [some (.ref 87), some (.int (nI v1)), some (.int (nI v2)), some (.ref 2), some (.int (nI v4))] [] X := by
  refine ev_iload dX8_gatherSwapsOf_11 rfl ?_
  refine ev_aload_n dX8_gatherSwapsOf_13 rfl ?_
  refine ev_getI dX8_gatherSwapsOf_14 fo_8_86 (by omega) lo_2 rfl ?_
  refine ev_icmpF (tgt := 171) dX8_gatherSwapsOf_17 (by decide) c0 ?_
  refine ev_aload_n dX8_gatherSwapsOf_20 rfl ?_
  refine ev_getI dX8_gatherSwapsOf_21 fo_8_115 (by omega) lo_87 rfl ?_
  refine ev_sipush (v := 588) dX8_gatherSwapsOf_24 ks_588 ?_
  refine ev_icmpF (tgt := 171) dX8_gatherSwapsOf_27 (by decide) c1 ?_
  refine ev_aload_n dX8_gatherSwapsOf_30 rfl ?_
  refine ev_getS (q := 88) dX8_gatherSwapsOf_31 fo_8_11 (by omega) lo_87 rfl (sh_87_1 hX (by omega)) (by decide) ?_
  refine ev_iload_n dX8_gatherSwapsOf_34 rfl ?_
  refine ev_aald (q := 88 + 1 + v1) dX8_gatherSwapsOf_35 (by omega) (Or.inl ly_88) rfl b0 (hX.2 88 v1 (by omega) (Or.inl (by rw [ly_88])) (by rw [ly_88]; exact b0)) (by first | omega | (have := LY_l ly_88; have := LY_lt (show (LY 88).1 < 99 by rw [ly_88]; exact (by decide : 2 < 99)); omega)) ?_
  refine ev_iload dX8_gatherSwapsOf_36 rfl ?_
  refine ev_iald dX8_gatherSwapsOf_38 (by have := b0; omega) (lyr_88 _ b0) rfl b1 ?_
  refine ev_ifF (tgt := 165) dX8_gatherSwapsOf_39 (by decide) c2 ?_
  refine ev_aload_n dX8_gatherSwapsOf_42 rfl ?_
  refine ev_getS (q := 4) dX8_gatherSwapsOf_43 fo_8_122 (by omega) lo_2 rfl (sh_2_2 hX (by omega)) (by decide) ?_
  refine ev_iload dX8_gatherSwapsOf_46 rfl ?_
  refine ev_iald dX8_gatherSwapsOf_48 (by omega) ly_4 rfl b1 ?_
  refine ev_aload_n dX8_gatherSwapsOf_49 rfl ?_
  refine ev_getS (q := 4) dX8_gatherSwapsOf_50 fo_8_122 (by omega) lo_2 rfl (sh_2_2 hX (by omega)) (by decide) ?_
  refine ev_iload_n dX8_gatherSwapsOf_53 rfl ?_
  refine ev_iald dX8_gatherSwapsOf_54 (by omega) ly_4 rfl b2 ?_
  refine ev_icmpT (tgt := 61) dX8_gatherSwapsOf_55 (by decide) c3 ?_
  refine ev_aload_n dX8_gatherSwapsOf_61 rfl ?_
  refine ev_getS (q := 3) dX8_gatherSwapsOf_62 fo_8_125 (by omega) lo_2 rfl (sh_2_1 hX (by omega)) (by decide) ?_
  refine ev_iload dX8_gatherSwapsOf_65 rfl ?_
  refine ev_iald dX8_gatherSwapsOf_67 (by omega) ly_3 rfl b1 ?_
  refine ev_aload_n dX8_gatherSwapsOf_68 rfl ?_
  refine ev_getS (q := 1) dX8_gatherSwapsOf_69 fo_8_44 (by omega) lo_87 rfl (sh_87_0 hX (by omega)) (by decide) ?_
  refine ev_getS (q := 37) dX8_gatherSwapsOf_72 fo_8_101 (by omega) lo_1 rfl (sh_1_2 hX (by omega)) (by decide) ?_
  refine ev_getS (q := 38) dX8_gatherSwapsOf_75 fo_8_128 (by omega) lo_37 rfl (sh_37_1 hX (by omega)) (by decide) ?_
  refine ev_iload_n dX8_gatherSwapsOf_78 rfl ?_
  refine ev_iald dX8_gatherSwapsOf_79 (by omega) ly_38 rfl b0 ?_
  refine ev_iand dX8_gatherSwapsOf_80 ?_
  refine ev_ifT (tgt := 87) dX8_gatherSwapsOf_81 (by decide) c4 ?_
  refine ev_aload_n dX8_gatherSwapsOf_87 rfl ?_
  refine ev_getS (q := 103) dX8_gatherSwapsOf_88 fo_8_23 (by omega) lo_87 rfl (sh_87_5 hX (by omega)) (by decide) ?_
  refine ev_aload_n dX8_gatherSwapsOf_91 rfl ?_
  refine ev_getI dX8_gatherSwapsOf_92 fo_8_115 (by omega) lo_87 rfl ?_
  refine ev_iload_n dX8_gatherSwapsOf_95 rfl ?_
  refine ev_iast dX8_gatherSwapsOf_96 (by omega) ly_103 hj1 b3 ?_
  have hX1 : Sh _ (lx_up X 103 j1 (nI v2)) := Sh.upA hX (by rw [ly_103]; exact (by decide : 0 < 2))
  refine ev_aload_n dX8_gatherSwapsOf_97 rfl ?_
  refine ev_getS (q := 104) dX8_gatherSwapsOf_98 fo_8_26 (by omega) lo_87 rfl (sh_87_6 hX1 (by omega)) (by decide) ?_
  refine ev_aload_n dX8_gatherSwapsOf_101 rfl ?_
  refine ev_getI dX8_gatherSwapsOf_102 fo_8_115 (by omega) lo_87 rfl ?_
  refine ev_iload dX8_gatherSwapsOf_105 rfl ?_
  refine ev_iast dX8_gatherSwapsOf_107 (by omega) ly_104 hj1 b3 ?_
  have hX2 : Sh _ (lx_up (lx_up X 103 j1 (nI v2)) 104 j1 (nI v4)) := Sh.upA hX1 (by rw [ly_104]; exact (by decide : 0 < 2))
  refine ev_aload_n dX8_gatherSwapsOf_108 rfl ?_
  refine ev_getS (q := 105) dX8_gatherSwapsOf_109 fo_8_29 (by omega) lo_87 rfl (sh_87_7 hX2 (by omega)) (by decide) ?_
  refine ev_aload_n dX8_gatherSwapsOf_112 rfl ?_
  refine ev_getI dX8_gatherSwapsOf_113 fo_8_115 (by omega) lo_87 rfl ?_
  refine ev_aload_n dX8_gatherSwapsOf_116 rfl ?_
  refine ev_getS (q := 88) dX8_gatherSwapsOf_117 fo_8_11 (by omega) lo_87 rfl (sh_87_1 hX2 (by omega)) (by decide) ?_
  refine ev_iload_n dX8_gatherSwapsOf_120 rfl ?_
  refine ev_aald (q := 88 + 1 + v1) dX8_gatherSwapsOf_121 (by omega) (Or.inl ly_88) rfl b0 (hX2.2 88 v1 (by omega) (Or.inl (by rw [ly_88])) (by rw [ly_88]; exact b0)) (by first | omega | (have := LY_l ly_88; have := LY_lt (show (LY 88).1 < 99 by rw [ly_88]; exact (by decide : 2 < 99)); omega)) ?_
  refine ev_iload_n dX8_gatherSwapsOf_122 rfl ?_
  refine ev_iald dX8_gatherSwapsOf_123 (by have := b0; omega) (lyr_88 _ b0) rfl b2 ?_
  refine ev_iast dX8_gatherSwapsOf_124 (by omega) ly_105 hj1 b3 ?_
  have hX3 : Sh _ (lx_up (lx_up (lx_up X 103 j1 (nI v2)) 104 j1 (nI v4)) 105 j1 ((lx_up (lx_up X 103 j1 (nI v2)) 104 j1 (nI v4)) (88 + 1 + v1) v2)) := Sh.upA hX2 (by rw [ly_105]; exact (by decide : 0 < 2))
  refine ev_aload_n dX8_gatherSwapsOf_125 rfl ?_
  refine ev_getS (q := 106) dX8_gatherSwapsOf_126 fo_8_32 (by omega) lo_87 rfl (sh_87_8 hX3 (by omega)) (by decide) ?_
  refine ev_aload_n dX8_gatherSwapsOf_129 rfl ?_
  refine ev_getI dX8_gatherSwapsOf_130 fo_8_115 (by omega) lo_87 rfl ?_
  refine ev_aload_n dX8_gatherSwapsOf_133 rfl ?_
  refine ev_getS (q := 88) dX8_gatherSwapsOf_134 fo_8_11 (by omega) lo_87 rfl (sh_87_1 hX3 (by omega)) (by decide) ?_
  refine ev_iload_n dX8_gatherSwapsOf_137 rfl ?_
  refine ev_aald (q := 88 + 1 + v1) dX8_gatherSwapsOf_138 (by omega) (Or.inl ly_88) rfl b0 (hX3.2 88 v1 (by omega) (Or.inl (by rw [ly_88])) (by rw [ly_88]; exact b0)) (by first | omega | (have := LY_l ly_88; have := LY_lt (show (LY 88).1 < 99 by rw [ly_88]; exact (by decide : 2 < 99)); omega)) ?_
  refine ev_iload_n dX8_gatherSwapsOf_139 rfl ?_
  refine ev_iald dX8_gatherSwapsOf_140 (by have := b0; omega) (lyr_88 _ b0) rfl b2 ?_
  refine ev_aload_n dX8_gatherSwapsOf_141 rfl ?_
  refine ev_getS (q := 8) dX8_gatherSwapsOf_142 fo_8_131 (by omega) lo_2 rfl (sh_2_6 hX3 (by omega)) (by decide) ?_
  refine ev_iload_n dX8_gatherSwapsOf_145 rfl ?_
  refine ev_aald (q := 8 + 1 + v2) dX8_gatherSwapsOf_146 (by omega) (Or.inl ly_8) rfl b2 (hX3.2 8 v2 (by omega) (Or.inl (by rw [ly_8])) (by rw [ly_8]; exact b2)) (by first | omega | (have := LY_l ly_8; have := LY_lt (show (LY 8).1 < 99 by rw [ly_8]; exact (by decide : 2 < 99)); omega)) ?_
  refine ev_iload dX8_gatherSwapsOf_147 rfl ?_
  refine ev_iald dX8_gatherSwapsOf_149 (by have := b2; omega) (lyr_8 _ b2) rfl b1 ?_
  refine ev_imul dX8_gatherSwapsOf_150 ?_
  refine ev_bipush (v := 100) dX8_gatherSwapsOf_151 kb_100 ?_
  refine ev_idiv dX8_gatherSwapsOf_153 (by decide) ?_
  refine ev_iast dX8_gatherSwapsOf_154 (by omega) ly_106 hj1 b3 ?_
  have hX4 : Sh _ (lx_up (lx_up (lx_up (lx_up X 103 j1 (nI v2)) 104 j1 (nI v4)) 105 j1 ((lx_up (lx_up X 103 j1 (nI v2)) 104 j1 (nI v4)) (88 + 1 + v1) v2)) 106 j1 ((((lx_up (lx_up (lx_up X 103 j1 (nI v2)) 104 j1 (nI v4)) 105 j1 ((lx_up (lx_up X 103 j1 (nI v2)) 104 j1 (nI v4)) (88 + 1 + v1) v2)) (88 + 1 + v1) v2) * ((lx_up (lx_up (lx_up X 103 j1 (nI v2)) 104 j1 (nI v4)) 105 j1 ((lx_up (lx_up X 103 j1 (nI v2)) 104 j1 (nI v4)) (88 + 1 + v1) v2)) (8 + 1 + v2) v4)) / 100)) := Sh.upA hX3 (by rw [ly_106]; exact (by decide : 0 < 2))
  refine ev_aload_n dX8_gatherSwapsOf_155 rfl ?_
  refine ev_dup dX8_gatherSwapsOf_156 rfl ?_
  refine ev_getI dX8_gatherSwapsOf_157 fo_8_115 (by omega) lo_87 rfl ?_
  refine ev_iconst (v := 1) dX8_gatherSwapsOf_160 ki_1 ?_
  refine ev_iadd dX8_gatherSwapsOf_161 ?_
  refine ev_putI dX8_gatherSwapsOf_162 fo_8_115 (by omega) lo_87 rfl rfl rfl ?_
  have hX5 : Sh _ (lx_up (lx_up (lx_up (lx_up (lx_up X 103 j1 (nI v2)) 104 j1 (nI v4)) 105 j1 ((lx_up (lx_up X 103 j1 (nI v2)) 104 j1 (nI v4)) (88 + 1 + v1) v2)) 106 j1 ((((lx_up (lx_up (lx_up X 103 j1 (nI v2)) 104 j1 (nI v4)) 105 j1 ((lx_up (lx_up X 103 j1 (nI v2)) 104 j1 (nI v4)) (88 + 1 + v1) v2)) (88 + 1 + v1) v2) * ((lx_up (lx_up (lx_up X 103 j1 (nI v2)) 104 j1 (nI v4)) 105 j1 ((lx_up (lx_up X 103 j1 (nI v2)) 104 j1 (nI v4)) (88 + 1 + v1) v2)) (8 + 1 + v2) v4)) / 100)) 87 9 ((X 87 9) + 1)) := Sh.upF hX4 (by rw [lo_87]; decide) (by decide)
  refine ev_iinc (v := (nI v4) + 1) dX8_gatherSwapsOf_165 rfl (by rw [show Int32.ofInt 1 = 1 from ki_1]) (by decide) ?_
  refine ev_goto (tgt := 11) dX8_gatherSwapsOf_168 (by decide) ?_
  exact k
theorem bX8_gatherSwapsOf_11_3 {g : GG} {d n : Nat} {post : Option Value → LX → Prop} {X : LX} (hn : 146 ≤ n) (hX : Sh n X) {v1 : Nat} {v2 : Int32} {v4 : Nat} (c0 : ¬ X 2 0 ≤ nI v4) (c1 : ¬ 588 ≤ X 87 9) (b0 : v1 < 12) (b1 : v4 < 14) (c2 : 0 < X (88 + 1 + v1) v4) (k : Ev g mX8_gatherSwapsOf d n n post n 11 [some (.ref 87), some (.int (nI v1)), some (.int v2), some (.ref 2), some (.int ((nI v4) + 1))] [] X) : Ev g mX8_gatherSwapsOf d n n post n 11 [some (.ref 87), some (.int (nI v1)), some (.int v2), some (.ref 2), some (.int (nI v4))] [] X := by
  refine ev_iload dX8_gatherSwapsOf_11 rfl ?_
  refine ev_aload_n dX8_gatherSwapsOf_13 rfl ?_
  refine ev_getI dX8_gatherSwapsOf_14 fo_8_86 (by omega) lo_2 rfl ?_
  refine ev_icmpF (tgt := 171) dX8_gatherSwapsOf_17 (by decide) c0 ?_
  refine ev_aload_n dX8_gatherSwapsOf_20 rfl ?_
  refine ev_getI dX8_gatherSwapsOf_21 fo_8_115 (by omega) lo_87 rfl ?_
  refine ev_sipush (v := 588) dX8_gatherSwapsOf_24 ks_588 ?_
  refine ev_icmpF (tgt := 171) dX8_gatherSwapsOf_27 (by decide) c1 ?_
  refine ev_aload_n dX8_gatherSwapsOf_30 rfl ?_
  refine ev_getS (q := 88) dX8_gatherSwapsOf_31 fo_8_11 (by omega) lo_87 rfl (sh_87_1 hX (by omega)) (by decide) ?_
  refine ev_iload_n dX8_gatherSwapsOf_34 rfl ?_
  refine ev_aald (q := 88 + 1 + v1) dX8_gatherSwapsOf_35 (by omega) (Or.inl ly_88) rfl b0 (hX.2 88 v1 (by omega) (Or.inl (by rw [ly_88])) (by rw [ly_88]; exact b0)) (by first | omega | (have := LY_l ly_88; have := LY_lt (show (LY 88).1 < 99 by rw [ly_88]; exact (by decide : 2 < 99)); omega)) ?_
  refine ev_iload dX8_gatherSwapsOf_36 rfl ?_
  refine ev_iald dX8_gatherSwapsOf_38 (by have := b0; omega) (lyr_88 _ b0) rfl b1 ?_
  refine ev_ifT (tgt := 165) dX8_gatherSwapsOf_39 (by decide) c2 ?_
  refine ev_iinc (v := (nI v4) + 1) dX8_gatherSwapsOf_165 rfl (by rw [show Int32.ofInt 1 = 1 from ki_1]) (by decide) ?_
  refine ev_goto (tgt := 11) dX8_gatherSwapsOf_168 (by decide) ?_
  exact k
theorem bX8_gatherSwapsOf_11_4 {g : GG} {d n : Nat} {post : Option Value → LX → Prop} {X : LX} (hn : 146 ≤ n) (hX : Sh n X) {v1 : Int32} {v2 : Int32} {v4 : Int32} (c0 : ¬ X 2 0 ≤ v4) (c1 : 588 ≤ X 87 9) (hp : post none X) : Ev g mX8_gatherSwapsOf d n n post n 11 [some (.ref 87), some (.int v1), some (.int v2), some (.ref 2), some (.int v4)] [] X := by
  refine ev_iload dX8_gatherSwapsOf_11 rfl ?_
  refine ev_aload_n dX8_gatherSwapsOf_13 rfl ?_
  refine ev_getI dX8_gatherSwapsOf_14 fo_8_86 (by omega) lo_2 rfl ?_
  refine ev_icmpF (tgt := 171) dX8_gatherSwapsOf_17 (by decide) c0 ?_
  refine ev_aload_n dX8_gatherSwapsOf_20 rfl ?_
  refine ev_getI dX8_gatherSwapsOf_21 fo_8_115 (by omega) lo_87 rfl ?_
  refine ev_sipush (v := 588) dX8_gatherSwapsOf_24 ks_588 ?_
  refine ev_icmpT (tgt := 171) dX8_gatherSwapsOf_27 (by decide) c1 ?_
  exact ev_ret dX8_gatherSwapsOf_171 rfl hp
theorem bX8_gatherSwapsOf_11_5 {g : GG} {d n : Nat} {post : Option Value → LX → Prop} {X : LX} (hn : 146 ≤ n) (hX : Sh n X) {v1 : Int32} {v2 : Int32} {v4 : Int32} (c0 : X 2 0 ≤ v4) (hp : post none X) : Ev g mX8_gatherSwapsOf d n n post n 11 [some (.ref 87), some (.int v1), some (.int v2), some (.ref 2), some (.int v4)] [] X := by
  refine ev_iload dX8_gatherSwapsOf_11 rfl ?_
  refine ev_aload_n dX8_gatherSwapsOf_13 rfl ?_
  refine ev_getI dX8_gatherSwapsOf_14 fo_8_86 (by omega) lo_2 rfl ?_
  refine ev_icmpT (tgt := 171) dX8_gatherSwapsOf_17 (by decide) c0 ?_
  exact ev_ret dX8_gatherSwapsOf_171 rfl hp
theorem bX8_seekFrom_0_0 {g : GG} {d n : Nat} {post : Option Value → LX → Prop} {X : LX} (hn : 146 ≤ n) (hX : Sh n X) {v1 : Int32} {v2 : Int32} {v3 : Int32} (c0 : ¬ X 87 14 = 0) (c1 : ¬ X 87 16 < v2) (c2 : v2 = X 87 16) (c3 : ¬ v3 < X 87 15) (hp : post none X) : Ev g mX8_seekFrom d n n post n 0 [some (.ref 87), some (.int v1), some (.int v2), some (.int v3), none] [] X := by
  refine ev_aload_n dX8_seekFrom_0 rfl ?_
  refine ev_getI dX8_seekFrom_1 fo_8_61 (by omega) lo_87 rfl ?_
  refine ev_ifF (tgt := 32) dX8_seekFrom_4 (by decide) c0 ?_
  refine ev_iload_n dX8_seekFrom_7 rfl ?_
  refine ev_aload_n dX8_seekFrom_8 rfl ?_
  refine ev_getI dX8_seekFrom_9 fo_8_65 (by omega) lo_87 rfl ?_
  refine ev_icmpF (tgt := 31) dX8_seekFrom_12 (by decide) c1 ?_
  refine ev_iload_n dX8_seekFrom_15 rfl ?_
  refine ev_aload_n dX8_seekFrom_16 rfl ?_
  refine ev_getI dX8_seekFrom_17 fo_8_65 (by omega) lo_87 rfl ?_
  refine ev_icmpF (tgt := 32) dX8_seekFrom_20 (by decide) c2 ?_
  refine ev_iload_n dX8_seekFrom_23 rfl ?_
  refine ev_aload_n dX8_seekFrom_24 rfl ?_
  refine ev_getI dX8_seekFrom_25 fo_8_68 (by omega) lo_87 rfl ?_
  refine ev_icmpF (tgt := 32) dX8_seekFrom_28 (by decide) c3 ?_
  exact ev_ret dX8_seekFrom_31 rfl hp
theorem bX8_seekFrom_0_1 {g : GG} {d n : Nat} {post : Option Value → LX → Prop} {X : LX} (hn : 146 ≤ n) (hX : Sh n X) {v1 : Int32} {v2 : Int32} {v3 : Int32} (c0 : ¬ X 87 14 = 0) (c1 : ¬ X 87 16 < v2) (c2 : v2 = X 87 16) (c3 : v3 < X 87 15) (c4 : ¬ v1 < X 37 0) (c5 : X 87 3 = 0) (k : Ev g mX8_seekFrom d n n post n 56 [some (.ref 87), some (.int v1), some (.int v2), some (.int v3), none] [.int v3, .int v2, .ref 87] X) : Ev g mX8_seekFrom d n n post n 0 [some (.ref 87), some (.int v1), some (.int v2), some (.int v3), none] [] X := by
  refine ev_aload_n dX8_seekFrom_0 rfl ?_
  refine ev_getI dX8_seekFrom_1 fo_8_61 (by omega) lo_87 rfl ?_
  refine ev_ifF (tgt := 32) dX8_seekFrom_4 (by decide) c0 ?_
  refine ev_iload_n dX8_seekFrom_7 rfl ?_
  refine ev_aload_n dX8_seekFrom_8 rfl ?_
  refine ev_getI dX8_seekFrom_9 fo_8_65 (by omega) lo_87 rfl ?_
  refine ev_icmpF (tgt := 31) dX8_seekFrom_12 (by decide) c1 ?_
  refine ev_iload_n dX8_seekFrom_15 rfl ?_
  refine ev_aload_n dX8_seekFrom_16 rfl ?_
  refine ev_getI dX8_seekFrom_17 fo_8_65 (by omega) lo_87 rfl ?_
  refine ev_icmpF (tgt := 32) dX8_seekFrom_20 (by decide) c2 ?_
  refine ev_iload_n dX8_seekFrom_23 rfl ?_
  refine ev_aload_n dX8_seekFrom_24 rfl ?_
  refine ev_getI dX8_seekFrom_25 fo_8_68 (by omega) lo_87 rfl ?_
  refine ev_icmpT (tgt := 32) dX8_seekFrom_28 (by decide) c3 ?_
  refine ev_iload_n dX8_seekFrom_32 rfl ?_
  refine ev_aload_n dX8_seekFrom_33 rfl ?_
  refine ev_getS (q := 1) dX8_seekFrom_34 fo_8_44 (by omega) lo_87 rfl (sh_87_0 hX (by omega)) (by decide) ?_
  refine ev_getS (q := 37) dX8_seekFrom_37 fo_8_101 (by omega) lo_1 rfl (sh_1_2 hX (by omega)) (by decide) ?_
  refine ev_getI dX8_seekFrom_40 fo_8_105 (by omega) lo_37 rfl ?_
  refine ev_icmpF (tgt := 60) dX8_seekFrom_43 (by decide) c4 ?_
  refine ev_aload_n dX8_seekFrom_46 rfl ?_
  refine ev_getI dX8_seekFrom_47 fo_8_77 (by omega) lo_87 rfl ?_
  refine ev_ifF (tgt := 59) dX8_seekFrom_50 (by decide) c5 ?_
  refine ev_aload_n dX8_seekFrom_53 rfl ?_
  refine ev_iload_n dX8_seekFrom_54 rfl ?_
  refine ev_iload_n dX8_seekFrom_55 rfl ?_
  exact k
theorem bX8_seekFrom_0_2 {g : GG} {d n : Nat} {post : Option Value → LX → Prop} {X : LX} (hn : 146 ≤ n) (hX : Sh n X) {v1 : Int32} {v2 : Int32} {v3 : Int32} (c0 : ¬ X 87 14 = 0) (c1 : ¬ X 87 16 < v2) (c2 : v2 = X 87 16) (c3 : v3 < X 87 15) (c4 : ¬ v1 < X 37 0) (c5 : ¬ X 87 3 = 0) (hp : post none X) : Ev g mX8_seekFrom d n n post n 0 [some (.ref 87), some (.int v1), some (.int v2), some (.int v3), none] [] X := by
  refine ev_aload_n dX8_seekFrom_0 rfl ?_
  refine ev_getI dX8_seekFrom_1 fo_8_61 (by omega) lo_87 rfl ?_
  refine ev_ifF (tgt := 32) dX8_seekFrom_4 (by decide) c0 ?_
  refine ev_iload_n dX8_seekFrom_7 rfl ?_
  refine ev_aload_n dX8_seekFrom_8 rfl ?_
  refine ev_getI dX8_seekFrom_9 fo_8_65 (by omega) lo_87 rfl ?_
  refine ev_icmpF (tgt := 31) dX8_seekFrom_12 (by decide) c1 ?_
  refine ev_iload_n dX8_seekFrom_15 rfl ?_
  refine ev_aload_n dX8_seekFrom_16 rfl ?_
  refine ev_getI dX8_seekFrom_17 fo_8_65 (by omega) lo_87 rfl ?_
  refine ev_icmpF (tgt := 32) dX8_seekFrom_20 (by decide) c2 ?_
  refine ev_iload_n dX8_seekFrom_23 rfl ?_
  refine ev_aload_n dX8_seekFrom_24 rfl ?_
  refine ev_getI dX8_seekFrom_25 fo_8_68 (by omega) lo_87 rfl ?_
  refine ev_icmpT (tgt := 32) dX8_seekFrom_28 (by decide) c3 ?_
  refine ev_iload_n dX8_seekFrom_32 rfl ?_
  refine ev_aload_n dX8_seekFrom_33 rfl ?_
  refine ev_getS (q := 1) dX8_seekFrom_34 fo_8_44 (by omega) lo_87 rfl (sh_87_0 hX (by omega)) (by decide) ?_
  refine ev_getS (q := 37) dX8_seekFrom_37 fo_8_101 (by omega) lo_1 rfl (sh_1_2 hX (by omega)) (by decide) ?_
  refine ev_getI dX8_seekFrom_40 fo_8_105 (by omega) lo_37 rfl ?_
  refine ev_icmpF (tgt := 60) dX8_seekFrom_43 (by decide) c4 ?_
  refine ev_aload_n dX8_seekFrom_46 rfl ?_
  refine ev_getI dX8_seekFrom_47 fo_8_77 (by omega) lo_87 rfl ?_
  refine ev_ifT (tgt := 59) dX8_seekFrom_50 (by decide) c5 ?_
  exact ev_ret dX8_seekFrom_59 rfl hp
theorem bX8_seekFrom_0_3 {g : GG} {d n : Nat} {post : Option Value → LX → Prop} {X : LX} (hn : 146 ≤ n) (hX : Sh n X) {v1 : Nat} {v2 : Int32} {v3 : Int32} (c0 : ¬ X 87 14 = 0) (c1 : ¬ X 87 16 < v2) (c2 : v2 = X 87 16) (c3 : v3 < X 87 15) (c4 : nI v1 < X 37 0) (b0 : v1 < 12) (k : Ev g mX8_seekFrom d n n post n 73 [some (.ref 87), some (.int (nI v1)), some (.int v2), some (.int v3), none] [.int v3, .int v2, .int ((nI v1) + 1), .ref 87] (lx_up X 107 v1 (-1))) : Ev g mX8_seekFrom d n n post n 0 [some (.ref 87), some (.int (nI v1)), some (.int v2), some (.int v3), none] [] X := by
  refine ev_aload_n dX8_seekFrom_0 rfl ?_
  refine ev_getI dX8_seekFrom_1 fo_8_61 (by omega) lo_87 rfl ?_
  refine ev_ifF (tgt := 32) dX8_seekFrom_4 (by decide) c0 ?_
  refine ev_iload_n dX8_seekFrom_7 rfl ?_
  refine ev_aload_n dX8_seekFrom_8 rfl ?_
  refine ev_getI dX8_seekFrom_9 fo_8_65 (by omega) lo_87 rfl ?_
  refine ev_icmpF (tgt := 31) dX8_seekFrom_12 (by decide) c1 ?_
  refine ev_iload_n dX8_seekFrom_15 rfl ?_
  refine ev_aload_n dX8_seekFrom_16 rfl ?_
  refine ev_getI dX8_seekFrom_17 fo_8_65 (by omega) lo_87 rfl ?_
  refine ev_icmpF (tgt := 32) dX8_seekFrom_20 (by decide) c2 ?_
  refine ev_iload_n dX8_seekFrom_23 rfl ?_
  refine ev_aload_n dX8_seekFrom_24 rfl ?_
  refine ev_getI dX8_seekFrom_25 fo_8_68 (by omega) lo_87 rfl ?_
  refine ev_icmpT (tgt := 32) dX8_seekFrom_28 (by decide) c3 ?_
  refine ev_iload_n dX8_seekFrom_32 rfl ?_
  refine ev_aload_n dX8_seekFrom_33 rfl ?_
  refine ev_getS (q := 1) dX8_seekFrom_34 fo_8_44 (by omega) lo_87 rfl (sh_87_0 hX (by omega)) (by decide) ?_
  refine ev_getS (q := 37) dX8_seekFrom_37 fo_8_101 (by omega) lo_1 rfl (sh_1_2 hX (by omega)) (by decide) ?_
  refine ev_getI dX8_seekFrom_40 fo_8_105 (by omega) lo_37 rfl ?_
  refine ev_icmpT (tgt := 60) dX8_seekFrom_43 (by decide) c4 ?_
  refine ev_aload_n dX8_seekFrom_60 rfl ?_
  refine ev_getS (q := 107) dX8_seekFrom_61 fo_8_35 (by omega) lo_87 rfl (sh_87_10 hX (by omega)) (by decide) ?_
  refine ev_iload_n dX8_seekFrom_64 rfl ?_
  refine ev_iconst (v := (-1)) dX8_seekFrom_65 ki_m1 ?_
  refine ev_iast dX8_seekFrom_66 (by omega) ly_107 rfl b0 ?_
  have hX1 : Sh _ (lx_up X 107 v1 (-1)) := Sh.upA hX (by rw [ly_107]; exact (by decide : 0 < 2))
  refine ev_aload_n dX8_seekFrom_67 rfl ?_
  refine ev_iload_n dX8_seekFrom_68 rfl ?_
  refine ev_iconst (v := 1) dX8_seekFrom_69 ki_1 ?_
  refine ev_iadd dX8_seekFrom_70 ?_
  refine ev_iload_n dX8_seekFrom_71 rfl ?_
  refine ev_iload_n dX8_seekFrom_72 rfl ?_
  exact k
theorem bX8_seekFrom_0_4 {g : GG} {d n : Nat} {post : Option Value → LX → Prop} {X : LX} (hn : 146 ≤ n) (hX : Sh n X) {v1 : Int32} {v2 : Int32} {v3 : Int32} (c0 : ¬ X 87 14 = 0) (c1 : ¬ X 87 16 < v2) (c2 : ¬ v2 = X 87 16) (c3 : ¬ v1 < X 37 0) (c4 : X 87 3 = 0) (k : Ev g mX8_seekFrom d n n post n 56 [some (.ref 87), some (.int v1), some (.int v2), some (.int v3), none] [.int v3, .int v2, .ref 87] X) : Ev g mX8_seekFrom d n n post n 0 [some (.ref 87), some (.int v1), some (.int v2), some (.int v3), none] [] X := by
  refine ev_aload_n dX8_seekFrom_0 rfl ?_
  refine ev_getI dX8_seekFrom_1 fo_8_61 (by omega) lo_87 rfl ?_
  refine ev_ifF (tgt := 32) dX8_seekFrom_4 (by decide) c0 ?_
  refine ev_iload_n dX8_seekFrom_7 rfl ?_
  refine ev_aload_n dX8_seekFrom_8 rfl ?_
  refine ev_getI dX8_seekFrom_9 fo_8_65 (by omega) lo_87 rfl ?_
  refine ev_icmpF (tgt := 31) dX8_seekFrom_12 (by decide) c1 ?_
  refine ev_iload_n dX8_seekFrom_15 rfl ?_
  refine ev_aload_n dX8_seekFrom_16 rfl ?_
  refine ev_getI dX8_seekFrom_17 fo_8_65 (by omega) lo_87 rfl ?_
  refine ev_icmpT (tgt := 32) dX8_seekFrom_20 (by decide) c2 ?_
  refine ev_iload_n dX8_seekFrom_32 rfl ?_
  refine ev_aload_n dX8_seekFrom_33 rfl ?_
  refine ev_getS (q := 1) dX8_seekFrom_34 fo_8_44 (by omega) lo_87 rfl (sh_87_0 hX (by omega)) (by decide) ?_
  refine ev_getS (q := 37) dX8_seekFrom_37 fo_8_101 (by omega) lo_1 rfl (sh_1_2 hX (by omega)) (by decide) ?_
  refine ev_getI dX8_seekFrom_40 fo_8_105 (by omega) lo_37 rfl ?_
  refine ev_icmpF (tgt := 60) dX8_seekFrom_43 (by decide) c3 ?_
  refine ev_aload_n dX8_seekFrom_46 rfl ?_
  refine ev_getI dX8_seekFrom_47 fo_8_77 (by omega) lo_87 rfl ?_
  refine ev_ifF (tgt := 59) dX8_seekFrom_50 (by decide) c4 ?_
  refine ev_aload_n dX8_seekFrom_53 rfl ?_
  refine ev_iload_n dX8_seekFrom_54 rfl ?_
  refine ev_iload_n dX8_seekFrom_55 rfl ?_
  exact k
theorem bX8_seekFrom_0_5 {g : GG} {d n : Nat} {post : Option Value → LX → Prop} {X : LX} (hn : 146 ≤ n) (hX : Sh n X) {v1 : Int32} {v2 : Int32} {v3 : Int32} (c0 : ¬ X 87 14 = 0) (c1 : ¬ X 87 16 < v2) (c2 : ¬ v2 = X 87 16) (c3 : ¬ v1 < X 37 0) (c4 : ¬ X 87 3 = 0) (hp : post none X) : Ev g mX8_seekFrom d n n post n 0 [some (.ref 87), some (.int v1), some (.int v2), some (.int v3), none] [] X := by
  refine ev_aload_n dX8_seekFrom_0 rfl ?_
  refine ev_getI dX8_seekFrom_1 fo_8_61 (by omega) lo_87 rfl ?_
  refine ev_ifF (tgt := 32) dX8_seekFrom_4 (by decide) c0 ?_
  refine ev_iload_n dX8_seekFrom_7 rfl ?_
  refine ev_aload_n dX8_seekFrom_8 rfl ?_
  refine ev_getI dX8_seekFrom_9 fo_8_65 (by omega) lo_87 rfl ?_
  refine ev_icmpF (tgt := 31) dX8_seekFrom_12 (by decide) c1 ?_
  refine ev_iload_n dX8_seekFrom_15 rfl ?_
  refine ev_aload_n dX8_seekFrom_16 rfl ?_
  refine ev_getI dX8_seekFrom_17 fo_8_65 (by omega) lo_87 rfl ?_
  refine ev_icmpT (tgt := 32) dX8_seekFrom_20 (by decide) c2 ?_
  refine ev_iload_n dX8_seekFrom_32 rfl ?_
  refine ev_aload_n dX8_seekFrom_33 rfl ?_
  refine ev_getS (q := 1) dX8_seekFrom_34 fo_8_44 (by omega) lo_87 rfl (sh_87_0 hX (by omega)) (by decide) ?_
  refine ev_getS (q := 37) dX8_seekFrom_37 fo_8_101 (by omega) lo_1 rfl (sh_1_2 hX (by omega)) (by decide) ?_
  refine ev_getI dX8_seekFrom_40 fo_8_105 (by omega) lo_37 rfl ?_
  refine ev_icmpF (tgt := 60) dX8_seekFrom_43 (by decide) c3 ?_
  refine ev_aload_n dX8_seekFrom_46 rfl ?_
  refine ev_getI dX8_seekFrom_47 fo_8_77 (by omega) lo_87 rfl ?_
  refine ev_ifT (tgt := 59) dX8_seekFrom_50 (by decide) c4 ?_
  exact ev_ret dX8_seekFrom_59 rfl hp
theorem bX8_seekFrom_0_6 {g : GG} {d n : Nat} {post : Option Value → LX → Prop} {X : LX} (hn : 146 ≤ n) (hX : Sh n X) {v1 : Nat} {v2 : Int32} {v3 : Int32} (c0 : ¬ X 87 14 = 0) (c1 : ¬ X 87 16 < v2) (c2 : ¬ v2 = X 87 16) (c3 : nI v1 < X 37 0) (b0 : v1 < 12) (k : Ev g mX8_seekFrom d n n post n 73 [some (.ref 87), some (.int (nI v1)), some (.int v2), some (.int v3), none] [.int v3, .int v2, .int ((nI v1) + 1), .ref 87] (lx_up X 107 v1 (-1))) : Ev g mX8_seekFrom d n n post n 0 [some (.ref 87), some (.int (nI v1)), some (.int v2), some (.int v3), none] [] X := by
  refine ev_aload_n dX8_seekFrom_0 rfl ?_
  refine ev_getI dX8_seekFrom_1 fo_8_61 (by omega) lo_87 rfl ?_
  refine ev_ifF (tgt := 32) dX8_seekFrom_4 (by decide) c0 ?_
  refine ev_iload_n dX8_seekFrom_7 rfl ?_
  refine ev_aload_n dX8_seekFrom_8 rfl ?_
  refine ev_getI dX8_seekFrom_9 fo_8_65 (by omega) lo_87 rfl ?_
  refine ev_icmpF (tgt := 31) dX8_seekFrom_12 (by decide) c1 ?_
  refine ev_iload_n dX8_seekFrom_15 rfl ?_
  refine ev_aload_n dX8_seekFrom_16 rfl ?_
  refine ev_getI dX8_seekFrom_17 fo_8_65 (by omega) lo_87 rfl ?_
  refine ev_icmpT (tgt := 32) dX8_seekFrom_20 (by decide) c2 ?_
  refine ev_iload_n dX8_seekFrom_32 rfl ?_
  refine ev_aload_n dX8_seekFrom_33 rfl ?_
  refine ev_getS (q := 1) dX8_seekFrom_34 fo_8_44 (by omega) lo_87 rfl (sh_87_0 hX (by omega)) (by decide) ?_
  refine ev_getS (q := 37) dX8_seekFrom_37 fo_8_101 (by omega) lo_1 rfl (sh_1_2 hX (by omega)) (by decide) ?_
  refine ev_getI dX8_seekFrom_40 fo_8_105 (by omega) lo_37 rfl ?_
  refine ev_icmpT (tgt := 60) dX8_seekFrom_43 (by decide) c3 ?_
  refine ev_aload_n dX8_seekFrom_60 rfl ?_
  refine ev_getS (q := 107) dX8_seekFrom_61 fo_8_35 (by omega) lo_87 rfl (sh_87_10 hX (by omega)) (by decide) ?_
  refine ev_iload_n dX8_seekFrom_64 rfl ?_
  refine ev_iconst (v := (-1)) dX8_seekFrom_65 ki_m1 ?_
  refine ev_iast dX8_seekFrom_66 (by omega) ly_107 rfl b0 ?_
  have hX1 : Sh _ (lx_up X 107 v1 (-1)) := Sh.upA hX (by rw [ly_107]; exact (by decide : 0 < 2))
  refine ev_aload_n dX8_seekFrom_67 rfl ?_
  refine ev_iload_n dX8_seekFrom_68 rfl ?_
  refine ev_iconst (v := 1) dX8_seekFrom_69 ki_1 ?_
  refine ev_iadd dX8_seekFrom_70 ?_
  refine ev_iload_n dX8_seekFrom_71 rfl ?_
  refine ev_iload_n dX8_seekFrom_72 rfl ?_
  exact k
theorem bX8_seekFrom_0_7 {g : GG} {d n : Nat} {post : Option Value → LX → Prop} {X : LX} (hn : 146 ≤ n) (hX : Sh n X) {v1 : Int32} {v2 : Int32} {v3 : Int32} (c0 : ¬ X 87 14 = 0) (c1 : X 87 16 < v2) (hp : post none X) : Ev g mX8_seekFrom d n n post n 0 [some (.ref 87), some (.int v1), some (.int v2), some (.int v3), none] [] X := by
  refine ev_aload_n dX8_seekFrom_0 rfl ?_
  refine ev_getI dX8_seekFrom_1 fo_8_61 (by omega) lo_87 rfl ?_
  refine ev_ifF (tgt := 32) dX8_seekFrom_4 (by decide) c0 ?_
  refine ev_iload_n dX8_seekFrom_7 rfl ?_
  refine ev_aload_n dX8_seekFrom_8 rfl ?_
  refine ev_getI dX8_seekFrom_9 fo_8_65 (by omega) lo_87 rfl ?_
  refine ev_icmpT (tgt := 31) dX8_seekFrom_12 (by decide) c1 ?_
  exact ev_ret dX8_seekFrom_31 rfl hp
theorem bX8_seekFrom_0_8 {g : GG} {d n : Nat} {post : Option Value → LX → Prop} {X : LX} (hn : 146 ≤ n) (hX : Sh n X) {v1 : Int32} {v2 : Int32} {v3 : Int32} (c0 : X 87 14 = 0) (c1 : ¬ v1 < X 37 0) (c2 : X 87 3 = 0) (k : Ev g mX8_seekFrom d n n post n 56 [some (.ref 87), some (.int v1), some (.int v2), some (.int v3), none] [.int v3, .int v2, .ref 87] X) : Ev g mX8_seekFrom d n n post n 0 [some (.ref 87), some (.int v1), some (.int v2), some (.int v3), none] [] X := by
  refine ev_aload_n dX8_seekFrom_0 rfl ?_
  refine ev_getI dX8_seekFrom_1 fo_8_61 (by omega) lo_87 rfl ?_
  refine ev_ifT (tgt := 32) dX8_seekFrom_4 (by decide) c0 ?_
  refine ev_iload_n dX8_seekFrom_32 rfl ?_
  refine ev_aload_n dX8_seekFrom_33 rfl ?_
  refine ev_getS (q := 1) dX8_seekFrom_34 fo_8_44 (by omega) lo_87 rfl (sh_87_0 hX (by omega)) (by decide) ?_
  refine ev_getS (q := 37) dX8_seekFrom_37 fo_8_101 (by omega) lo_1 rfl (sh_1_2 hX (by omega)) (by decide) ?_
  refine ev_getI dX8_seekFrom_40 fo_8_105 (by omega) lo_37 rfl ?_
  refine ev_icmpF (tgt := 60) dX8_seekFrom_43 (by decide) c1 ?_
  refine ev_aload_n dX8_seekFrom_46 rfl ?_
  refine ev_getI dX8_seekFrom_47 fo_8_77 (by omega) lo_87 rfl ?_
  refine ev_ifF (tgt := 59) dX8_seekFrom_50 (by decide) c2 ?_
  refine ev_aload_n dX8_seekFrom_53 rfl ?_
  refine ev_iload_n dX8_seekFrom_54 rfl ?_
  refine ev_iload_n dX8_seekFrom_55 rfl ?_
  exact k
theorem bX8_seekFrom_0_9 {g : GG} {d n : Nat} {post : Option Value → LX → Prop} {X : LX} (hn : 146 ≤ n) (hX : Sh n X) {v1 : Int32} {v2 : Int32} {v3 : Int32} (c0 : X 87 14 = 0) (c1 : ¬ v1 < X 37 0) (c2 : ¬ X 87 3 = 0) (hp : post none X) : Ev g mX8_seekFrom d n n post n 0 [some (.ref 87), some (.int v1), some (.int v2), some (.int v3), none] [] X := by
  refine ev_aload_n dX8_seekFrom_0 rfl ?_
  refine ev_getI dX8_seekFrom_1 fo_8_61 (by omega) lo_87 rfl ?_
  refine ev_ifT (tgt := 32) dX8_seekFrom_4 (by decide) c0 ?_
  refine ev_iload_n dX8_seekFrom_32 rfl ?_
  refine ev_aload_n dX8_seekFrom_33 rfl ?_
  refine ev_getS (q := 1) dX8_seekFrom_34 fo_8_44 (by omega) lo_87 rfl (sh_87_0 hX (by omega)) (by decide) ?_
  refine ev_getS (q := 37) dX8_seekFrom_37 fo_8_101 (by omega) lo_1 rfl (sh_1_2 hX (by omega)) (by decide) ?_
  refine ev_getI dX8_seekFrom_40 fo_8_105 (by omega) lo_37 rfl ?_
  refine ev_icmpF (tgt := 60) dX8_seekFrom_43 (by decide) c1 ?_
  refine ev_aload_n dX8_seekFrom_46 rfl ?_
  refine ev_getI dX8_seekFrom_47 fo_8_77 (by omega) lo_87 rfl ?_
  refine ev_ifT (tgt := 59) dX8_seekFrom_50 (by decide) c2 ?_
  exact ev_ret dX8_seekFrom_59 rfl hp
theorem bX8_seekFrom_0_10 {g : GG} {d n : Nat} {post : Option Value → LX → Prop} {X : LX} (hn : 146 ≤ n) (hX : Sh n X) {v1 : Nat} {v2 : Int32} {v3 : Int32} (c0 : X 87 14 = 0) (c1 : nI v1 < X 37 0) (b0 : v1 < 12) (k : Ev g mX8_seekFrom d n n post n 73 [some (.ref 87), some (.int (nI v1)), some (.int v2), some (.int v3), none] [.int v3, .int v2, .int ((nI v1) + 1), .ref 87] (lx_up X 107 v1 (-1))) : Ev g mX8_seekFrom d n n post n 0 [some (.ref 87), some (.int (nI v1)), some (.int v2), some (.int v3), none] [] X := by
  refine ev_aload_n dX8_seekFrom_0 rfl ?_
  refine ev_getI dX8_seekFrom_1 fo_8_61 (by omega) lo_87 rfl ?_
  refine ev_ifT (tgt := 32) dX8_seekFrom_4 (by decide) c0 ?_
  refine ev_iload_n dX8_seekFrom_32 rfl ?_
  refine ev_aload_n dX8_seekFrom_33 rfl ?_
  refine ev_getS (q := 1) dX8_seekFrom_34 fo_8_44 (by omega) lo_87 rfl (sh_87_0 hX (by omega)) (by decide) ?_
  refine ev_getS (q := 37) dX8_seekFrom_37 fo_8_101 (by omega) lo_1 rfl (sh_1_2 hX (by omega)) (by decide) ?_
  refine ev_getI dX8_seekFrom_40 fo_8_105 (by omega) lo_37 rfl ?_
  refine ev_icmpT (tgt := 60) dX8_seekFrom_43 (by decide) c1 ?_
  refine ev_aload_n dX8_seekFrom_60 rfl ?_
  refine ev_getS (q := 107) dX8_seekFrom_61 fo_8_35 (by omega) lo_87 rfl (sh_87_10 hX (by omega)) (by decide) ?_
  refine ev_iload_n dX8_seekFrom_64 rfl ?_
  refine ev_iconst (v := (-1)) dX8_seekFrom_65 ki_m1 ?_
  refine ev_iast dX8_seekFrom_66 (by omega) ly_107 rfl b0 ?_
  have hX1 : Sh _ (lx_up X 107 v1 (-1)) := Sh.upA hX (by rw [ly_107]; exact (by decide : 0 < 2))
  refine ev_aload_n dX8_seekFrom_67 rfl ?_
  refine ev_iload_n dX8_seekFrom_68 rfl ?_
  refine ev_iconst (v := 1) dX8_seekFrom_69 ki_1 ?_
  refine ev_iadd dX8_seekFrom_70 ?_
  refine ev_iload_n dX8_seekFrom_71 rfl ?_
  refine ev_iload_n dX8_seekFrom_72 rfl ?_
  exact k
theorem bX8_seekFrom_59_0 {g : GG} {d n : Nat} {post : Option Value → LX → Prop} {X : LX} (hn : 146 ≤ n) (hX : Sh n X) {v1 : Int32} {v2 : Int32} {v3 : Int32} (hp : post none X) : Ev g mX8_seekFrom d n n post n 59 [some (.ref 87), some (.int v1), some (.int v2), some (.int v3), none] [] X := by
  exact ev_ret dX8_seekFrom_59 rfl hp
theorem bX8_seekFrom_76_0 {g : GG} {d n : Nat} {post : Option Value → LX → Prop} {X : LX} (hn : 146 ≤ n) (hX : Sh n X) {v1 : Nat} {v2 : Int32} {v3 : Int32} (b0 : v1 < 13) (k : Ev g mX8_seekFrom d n n post n 84 [some (.ref 87), some (.int (nI v1)), some (.int v2), some (.int v3), some (.int (X 102 v1))] [] X) : Ev g mX8_seekFrom d n n post n 76 [some (.ref 87), some (.int (nI v1)), some (.int v2), some (.int v3), none] [] X := by
  refine ev_aload_n dX8_seekFrom_76 rfl ?_
  refine ev_getS (q := 102) dX8_seekFrom_77 fo_8_20 (by omega) lo_87 rfl (sh_87_4 hX (by omega)) (by decide) ?_
  refine ev_iload_n dX8_seekFrom_80 rfl ?_
  refine ev_iald dX8_seekFrom_81 (by omega) ly_102 rfl b0 ?_
  refine ev_istore dX8_seekFrom_82 (by decide) ?_
  exact k
theorem bX8_seekFrom_84_0 {g : GG} {d n : Nat} {post : Option Value → LX → Prop} {X : LX} (hn : 146 ≤ n) (hX : Sh n X) {v1 : Nat} {v2 : Int32} {v3 : Int32} {v4 : Int32} (b0 : (v1 + 1) < 13) (c0 : ¬ X 102 (v1 + 1) ≤ v4) (c1 : ¬ X 87 12 < X 87 13) (c2 : ¬ (X 87 13) + 1 ≤ X 87 12) (hp : post none (lx_up X 87 13 ((X 87 13) + 1))) : Ev g mX8_seekFrom d n n post n 84 [some (.ref 87), some (.int (nI v1)), some (.int v2), some (.int v3), some (.int v4)] [] X := by
  refine ev_iload dX8_seekFrom_84 rfl ?_
  refine ev_aload_n dX8_seekFrom_86 rfl ?_
  refine ev_getS (q := 102) dX8_seekFrom_87 fo_8_20 (by omega) lo_87 rfl (sh_87_4 hX (by omega)) (by decide) ?_
  refine ev_iload_n dX8_seekFrom_90 rfl ?_
  refine ev_iconst (v := 1) dX8_seekFrom_91 ki_1 ?_
  refine ev_iadd dX8_seekFrom_92 ?_
  refine ev_iald dX8_seekFrom_93 (by omega) ly_102 (by show nI v1 + nI 1 = nI (v1 + 1); simp only [pk_mul, nI_add]) b0 ?_
  refine ev_icmpF (tgt := 213) dX8_seekFrom_94 (by decide) c0 ?_
  refine ev_aload_n dX8_seekFrom_97 rfl ?_
  refine ev_getI dX8_seekFrom_98 fo_8_58 (by omega) lo_87 rfl ?_
  refine ev_aload_n dX8_seekFrom_101 rfl ?_
  refine ev_getI dX8_seekFrom_102 fo_8_54 (by omega) lo_87 rfl ?_
  refine ev_icmpF (tgt := 213) dX8_seekFrom_105 (by decide) c1 ?_
  refine ev_aload_n dX8_seekFrom_108 rfl ?_
  refine ev_dup dX8_seekFrom_109 rfl ?_
  refine ev_getI dX8_seekFrom_110 fo_8_58 (by omega) lo_87 rfl ?_
  refine ev_iconst (v := 1) dX8_seekFrom_113 ki_1 ?_
  refine ev_iadd dX8_seekFrom_114 ?_
  refine ev_putI dX8_seekFrom_115 fo_8_58 (by omega) lo_87 rfl rfl rfl ?_
  have hX1 : Sh _ (lx_up X 87 13 ((X 87 13) + 1)) := Sh.upF hX (by rw [lo_87]; decide) (by decide)
  refine ev_aload_n dX8_seekFrom_118 rfl ?_
  refine ev_getI dX8_seekFrom_119 fo_8_58 (by omega) lo_87 rfl ?_
  refine ev_aload_n dX8_seekFrom_122 rfl ?_
  refine ev_getI dX8_seekFrom_123 fo_8_54 (by omega) lo_87 rfl ?_
  refine ev_icmpF (tgt := 130) dX8_seekFrom_126 (by decide) c2 ?_
  exact ev_ret dX8_seekFrom_129 rfl hp
theorem bX8_seekFrom_84_1 {g : GG} {d n : Nat} {post : Option Value → LX → Prop} {X : LX} (hn : 146 ≤ n) (hX : Sh n X) {v1 : Nat} {v2 : Int32} {v3 : Int32} {v4 : Nat} (b0 : (v1 + 1) < 13) (c0 : ¬ X 102 (v1 + 1) ≤ nI v4) (c1 : ¬ X 87 12 < X 87 13) (c2 : (X 87 13) + 1 ≤ X 87 12) (b1 : v1 < 12) (b2 : v4 < 588) (k : Ev g mX8_seekFrom d n n post n 160 [some (.ref 87), some (.int (nI v1)), some (.int v2), some (.int v3), some (.int (nI v4))] [.int (X 105 v4), .int (X 104 v4), .int (X 103 v4), .ref 87] (lx_up (lx_up X 87 13 ((X 87 13) + 1)) 107 v1 (nI v4))) : Ev g mX8_seekFrom d n n post n 84 [some (.ref 87), some (.int (nI v1)), some (.int v2), some (.int v3), some (.int (nI v4))] [] X := by
  refine ev_iload dX8_seekFrom_84 rfl ?_
  refine ev_aload_n dX8_seekFrom_86 rfl ?_
  refine ev_getS (q := 102) dX8_seekFrom_87 fo_8_20 (by omega) lo_87 rfl (sh_87_4 hX (by omega)) (by decide) ?_
  refine ev_iload_n dX8_seekFrom_90 rfl ?_
  refine ev_iconst (v := 1) dX8_seekFrom_91 ki_1 ?_
  refine ev_iadd dX8_seekFrom_92 ?_
  refine ev_iald dX8_seekFrom_93 (by omega) ly_102 (by show nI v1 + nI 1 = nI (v1 + 1); simp only [pk_mul, nI_add]) b0 ?_
  refine ev_icmpF (tgt := 213) dX8_seekFrom_94 (by decide) c0 ?_
  refine ev_aload_n dX8_seekFrom_97 rfl ?_
  refine ev_getI dX8_seekFrom_98 fo_8_58 (by omega) lo_87 rfl ?_
  refine ev_aload_n dX8_seekFrom_101 rfl ?_
  refine ev_getI dX8_seekFrom_102 fo_8_54 (by omega) lo_87 rfl ?_
  refine ev_icmpF (tgt := 213) dX8_seekFrom_105 (by decide) c1 ?_
  refine ev_aload_n dX8_seekFrom_108 rfl ?_
  refine ev_dup dX8_seekFrom_109 rfl ?_
  refine ev_getI dX8_seekFrom_110 fo_8_58 (by omega) lo_87 rfl ?_
  refine ev_iconst (v := 1) dX8_seekFrom_113 ki_1 ?_
  refine ev_iadd dX8_seekFrom_114 ?_
  refine ev_putI dX8_seekFrom_115 fo_8_58 (by omega) lo_87 rfl rfl rfl ?_
  have hX1 : Sh _ (lx_up X 87 13 ((X 87 13) + 1)) := Sh.upF hX (by rw [lo_87]; decide) (by decide)
  refine ev_aload_n dX8_seekFrom_118 rfl ?_
  refine ev_getI dX8_seekFrom_119 fo_8_58 (by omega) lo_87 rfl ?_
  refine ev_aload_n dX8_seekFrom_122 rfl ?_
  refine ev_getI dX8_seekFrom_123 fo_8_54 (by omega) lo_87 rfl ?_
  refine ev_icmpT (tgt := 130) dX8_seekFrom_126 (by decide) c2 ?_
  refine ev_aload_n dX8_seekFrom_130 rfl ?_
  refine ev_getS (q := 107) dX8_seekFrom_131 fo_8_35 (by omega) lo_87 rfl (sh_87_10 hX1 (by omega)) (by decide) ?_
  refine ev_iload_n dX8_seekFrom_134 rfl ?_
  refine ev_iload dX8_seekFrom_135 rfl ?_
  refine ev_iast dX8_seekFrom_137 (by omega) ly_107 rfl b1 ?_
  have hX2 : Sh _ (lx_up (lx_up X 87 13 ((X 87 13) + 1)) 107 v1 (nI v4)) := Sh.upA hX1 (by rw [ly_107]; exact (by decide : 0 < 2))
  refine ev_aload_n dX8_seekFrom_138 rfl ?_
  refine ev_aload_n dX8_seekFrom_139 rfl ?_
  refine ev_getS (q := 103) dX8_seekFrom_140 fo_8_23 (by omega) lo_87 rfl (sh_87_5 hX2 (by omega)) (by decide) ?_
  refine ev_iload dX8_seekFrom_143 rfl ?_
  refine ev_iald dX8_seekFrom_145 (by omega) ly_103 rfl b2 ?_
  refine ev_aload_n dX8_seekFrom_146 rfl ?_
  refine ev_getS (q := 104) dX8_seekFrom_147 fo_8_26 (by omega) lo_87 rfl (sh_87_6 hX2 (by omega)) (by decide) ?_
  refine ev_iload dX8_seekFrom_150 rfl ?_
  refine ev_iald dX8_seekFrom_152 (by omega) ly_104 rfl b2 ?_
  refine ev_aload_n dX8_seekFrom_153 rfl ?_
  refine ev_getS (q := 105) dX8_seekFrom_154 fo_8_29 (by omega) lo_87 rfl (sh_87_7 hX2 (by omega)) (by decide) ?_
  refine ev_iload dX8_seekFrom_157 rfl ?_
  refine ev_iald dX8_seekFrom_159 (by omega) ly_105 rfl b2 ?_
  exact k
theorem bX8_seekFrom_84_2 {g : GG} {d n : Nat} {post : Option Value → LX → Prop} {X : LX} (hn : 146 ≤ n) (hX : Sh n X) {v1 : Nat} {v2 : Int32} {v3 : Int32} {v4 : Int32} (b0 : (v1 + 1) < 13) (c0 : ¬ X 102 (v1 + 1) ≤ v4) (c1 : X 87 12 < X 87 13) (hp : post none X) : Ev g mX8_seekFrom d n n post n 84 [some (.ref 87), some (.int (nI v1)), some (.int v2), some (.int v3), some (.int v4)] [] X := by
  refine ev_iload dX8_seekFrom_84 rfl ?_
  refine ev_aload_n dX8_seekFrom_86 rfl ?_
  refine ev_getS (q := 102) dX8_seekFrom_87 fo_8_20 (by omega) lo_87 rfl (sh_87_4 hX (by omega)) (by decide) ?_
  refine ev_iload_n dX8_seekFrom_90 rfl ?_
  refine ev_iconst (v := 1) dX8_seekFrom_91 ki_1 ?_
  refine ev_iadd dX8_seekFrom_92 ?_
  refine ev_iald dX8_seekFrom_93 (by omega) ly_102 (by show nI v1 + nI 1 = nI (v1 + 1); simp only [pk_mul, nI_add]) b0 ?_
  refine ev_icmpF (tgt := 213) dX8_seekFrom_94 (by decide) c0 ?_
  refine ev_aload_n dX8_seekFrom_97 rfl ?_
  refine ev_getI dX8_seekFrom_98 fo_8_58 (by omega) lo_87 rfl ?_
  refine ev_aload_n dX8_seekFrom_101 rfl ?_
  refine ev_getI dX8_seekFrom_102 fo_8_54 (by omega) lo_87 rfl ?_
  refine ev_icmpT (tgt := 213) dX8_seekFrom_105 (by decide) c1 ?_
  exact ev_ret dX8_seekFrom_213 rfl hp
theorem bX8_seekFrom_84_3 {g : GG} {d n : Nat} {post : Option Value → LX → Prop} {X : LX} (hn : 146 ≤ n) (hX : Sh n X) {v1 : Nat} {v2 : Int32} {v3 : Int32} {v4 : Int32} (b0 : (v1 + 1) < 13) (c0 : X 102 (v1 + 1) ≤ v4) (hp : post none X) : Ev g mX8_seekFrom d n n post n 84 [some (.ref 87), some (.int (nI v1)), some (.int v2), some (.int v3), some (.int v4)] [] X := by
  refine ev_iload dX8_seekFrom_84 rfl ?_
  refine ev_aload_n dX8_seekFrom_86 rfl ?_
  refine ev_getS (q := 102) dX8_seekFrom_87 fo_8_20 (by omega) lo_87 rfl (sh_87_4 hX (by omega)) (by decide) ?_
  refine ev_iload_n dX8_seekFrom_90 rfl ?_
  refine ev_iconst (v := 1) dX8_seekFrom_91 ki_1 ?_
  refine ev_iadd dX8_seekFrom_92 ?_
  refine ev_iald dX8_seekFrom_93 (by omega) ly_102 (by show nI v1 + nI 1 = nI (v1 + 1); simp only [pk_mul, nI_add]) b0 ?_
  refine ev_icmpT (tgt := 213) dX8_seekFrom_94 (by decide) c0 ?_
  exact ev_ret dX8_seekFrom_213 rfl hp
theorem bX8_seekFrom_163_0 {g : GG} {d n : Nat} {post : Option Value → LX → Prop} {X : LX} (hn : 146 ≤ n) (hX : Sh n X) {v1 : Int32} {v2 : Int32} {v3 : Int32} {v4 : Nat} (b0 : v4 < 588) (k : Ev g mX8_seekFrom d n n post n 179 [some (.ref 87), some (.int v1), some (.int v2), some (.int v3), some (.int (nI v4))] [.int (v3 + 1), .int (v2 + (X 106 v4)), .int (v1 + 1), .ref 87] X) : Ev g mX8_seekFrom d n n post n 163 [some (.ref 87), some (.int v1), some (.int v2), some (.int v3), some (.int (nI v4))] [] X := by
  refine ev_aload_n dX8_seekFrom_163 rfl ?_
  refine ev_iload_n dX8_seekFrom_164 rfl ?_
  refine ev_iconst (v := 1) dX8_seekFrom_165 ki_1 ?_
  refine ev_iadd dX8_seekFrom_166 ?_
  refine ev_iload_n dX8_seekFrom_167 rfl ?_
  refine ev_aload_n dX8_seekFrom_168 rfl ?_
  refine ev_getS (q := 106) dX8_seekFrom_169 fo_8_32 (by omega) lo_87 rfl (sh_87_8 hX (by omega)) (by decide) ?_
  refine ev_iload dX8_seekFrom_172 rfl ?_
  refine ev_iald dX8_seekFrom_174 (by omega) ly_106 rfl b0 ?_
  refine ev_iadd dX8_seekFrom_175 ?_
  refine ev_iload_n dX8_seekFrom_176 rfl ?_
  refine ev_iconst (v := 1) dX8_seekFrom_177 ki_1 ?_
  refine ev_iadd dX8_seekFrom_178 ?_
  exact k
theorem bX8_seekFrom_182_0 {g : GG} {d n : Nat} {post : Option Value → LX → Prop} {X : LX} (hn : 146 ≤ n) (hX : Sh n X) {v1 : Int32} {v2 : Int32} {v3 : Int32} {v4 : Nat} (b0 : v4 < 588) (k : Ev g mX8_seekFrom d n n post n 204 [some (.ref 87), some (.int v1), some (.int v2), some (.int v3), some (.int (nI v4))] [.int (X 105 v4), .int (X 103 v4), .int (X 104 v4), .ref 87] X) : Ev g mX8_seekFrom d n n post n 182 [some (.ref 87), some (.int v1), some (.int v2), some (.int v3), some (.int (nI v4))] [] X := by
  refine ev_aload_n dX8_seekFrom_182 rfl ?_
  refine ev_aload_n dX8_seekFrom_183 rfl ?_
  refine ev_getS (q := 104) dX8_seekFrom_184 fo_8_26 (by omega) lo_87 rfl (sh_87_6 hX (by omega)) (by decide) ?_
  refine ev_iload dX8_seekFrom_187 rfl ?_
  refine ev_iald dX8_seekFrom_189 (by omega) ly_104 rfl b0 ?_
  refine ev_aload_n dX8_seekFrom_190 rfl ?_
  refine ev_getS (q := 103) dX8_seekFrom_191 fo_8_23 (by omega) lo_87 rfl (sh_87_5 hX (by omega)) (by decide) ?_
  refine ev_iload dX8_seekFrom_194 rfl ?_
  refine ev_iald dX8_seekFrom_196 (by omega) ly_103 rfl b0 ?_
  refine ev_aload_n dX8_seekFrom_197 rfl ?_
  refine ev_getS (q := 105) dX8_seekFrom_198 fo_8_29 (by omega) lo_87 rfl (sh_87_7 hX (by omega)) (by decide) ?_
  refine ev_iload dX8_seekFrom_201 rfl ?_
  refine ev_iald dX8_seekFrom_203 (by omega) ly_105 rfl b0 ?_
  exact k
theorem bX8_seekFrom_207_0 {g : GG} {d n : Nat} {post : Option Value → LX → Prop} {X : LX} (hn : 146 ≤ n) (hX : Sh n X) {v1 : Int32} {v2 : Int32} {v3 : Int32} {v4 : Int32} (k : Ev g mX8_seekFrom d n n post n 84 [some (.ref 87), some (.int v1), some (.int v2), some (.int v3), some (.int (v4 + 1))] [] X) : Ev g mX8_seekFrom d n n post n 207 [some (.ref 87), some (.int v1), some (.int v2), some (.int v3), some (.int v4)] [] X := by
  refine ev_iinc (v := v4 + 1) dX8_seekFrom_207 rfl (by rw [show Int32.ofInt 1 = 1 from ki_1]) (by decide) ?_
  refine ev_goto (tgt := 84) dX8_seekFrom_210 (by decide) ?_
  exact k
theorem bX8_move_0_0 {g : GG} {d n : Nat} {post : Option Value → LX → Prop} {X : LX} (hn : 146 ≤ n) (hX : Sh n X) {v1 : Int32} {v2 : Int32} {v3 : Int32} (k : Ev g mX8_move d n n post n 3 [some (.ref 87), some (.int v1), some (.int v2), some (.int v3)] [.int v3, .int v1, .ref 87] X) : Ev g mX8_move d n n post n 0 [some (.ref 87), some (.int v1), some (.int v2), some (.int v3)] [] X := by
  refine ev_aload_n dX8_move_0 rfl ?_
  refine ev_iload_n dX8_move_1 rfl ?_
  refine ev_iload_n dX8_move_2 rfl ?_
  exact k
theorem bX8_move_6_0 {g : GG} {d n : Nat} {post : Option Value → LX → Prop} {X : LX} (hn : 146 ≤ n) (hX : Sh n X) {v1 : Int32} {v2 : Int32} {v3 : Int32} (k : Ev g mX8_move d n n post n 10 [some (.ref 87), some (.int v1), some (.int v2), some (.int v3)] [.int (-v3), .int v2, .ref 87] X) : Ev g mX8_move d n n post n 6 [some (.ref 87), some (.int v1), some (.int v2), some (.int v3)] [] X := by
  refine ev_aload_n dX8_move_6 rfl ?_
  refine ev_iload_n dX8_move_7 rfl ?_
  refine ev_iload_n dX8_move_8 rfl ?_
  refine ev_ineg dX8_move_9 ?_
  exact k
theorem bX8_move_13_0 {g : GG} {d n : Nat} {post : Option Value → LX → Prop} {X : LX} (hn : 146 ≤ n) (hX : Sh n X) {v1 : Int32} {v2 : Int32} {v3 : Int32} (hp : post none X) : Ev g mX8_move d n n post n 13 [some (.ref 87), some (.int v1), some (.int v2), some (.int v3)] [] X := by
  exact ev_ret dX8_move_13 rfl hp
theorem bX8_takeRow_0_0 {g : GG} {d n : Nat} {post : Option Value → LX → Prop} {X : LX} (hd : 2 ≤ d) (hn : 146 ≤ n) (hX : Sh n X) {v1 : Int32} {v2 : Int32} (hp : post none (lx_row (lx_up (lx_up (lx_up X 87 14 1) 87 16 v1) 87 15 v2) 108 (va_cpy ((lx_up (lx_up (lx_up X 87 14 1) 87 16 v1) 87 15 v2) 107) ((lx_up (lx_up (lx_up X 87 14 1) 87 16 v1) 87 15 v2) 108) 0 0 12))) : Ev g mX8_takeRow d n n post n 0 [some (.ref 87), some (.int v1), some (.int v2)] [] X := by
  refine ev_aload_n dX8_takeRow_0 rfl ?_
  refine ev_iconst (v := 1) dX8_takeRow_1 ki_1 ?_
  refine ev_putZ dX8_takeRow_2 fo_8_61 (by omega) lo_87 rfl rfl rfl (by decide) ?_
  have hX1 : Sh _ (lx_up X 87 14 1) := Sh.upF hX (by rw [lo_87]; decide) (by decide)
  refine ev_aload_n dX8_takeRow_5 rfl ?_
  refine ev_iload_n dX8_takeRow_6 rfl ?_
  refine ev_putI dX8_takeRow_7 fo_8_65 (by omega) lo_87 rfl rfl rfl ?_
  have hX2 : Sh _ (lx_up (lx_up X 87 14 1) 87 16 v1) := Sh.upF hX1 (by rw [lo_87]; decide) (by decide)
  refine ev_aload_n dX8_takeRow_10 rfl ?_
  refine ev_iload_n dX8_takeRow_11 rfl ?_
  refine ev_putI dX8_takeRow_12 fo_8_68 (by omega) lo_87 rfl rfl rfl ?_
  have hX3 : Sh _ (lx_up (lx_up (lx_up X 87 14 1) 87 16 v1) 87 15 v2) := Sh.upF hX2 (by rw [lo_87]; decide) (by decide)
  refine ev_aload_n dX8_takeRow_15 rfl ?_
  refine ev_getS (q := 107) dX8_takeRow_16 fo_8_35 (by omega) lo_87 rfl (sh_87_10 hX3 (by omega)) (by decide) ?_
  refine ev_aload_n dX8_takeRow_19 rfl ?_
  refine ev_getS (q := 108) dX8_takeRow_20 fo_8_38 (by omega) lo_87 rfl (sh_87_11 hX3 (by omega)) (by decide) ?_
  refine e_SNv (as := [.ref 107, .ref 108]) (rest := []) dX8_takeRow_23 vX11_copyRow ml_8_143 rfl rfl rfl stX11_copyRow npX11_copyRow (by decide) rfl (Nat.le_of_ble_eq_true rfl) (by omega) (c_X11_copyRow (d := d - 1) (by omega) (by omega) hX3 (by omega) ly_107 (by omega) ly_108) ?_
  have hX4 : Sh _ (lx_row (lx_up (lx_up (lx_up X 87 14 1) 87 16 v1) 87 15 v2) 108 (va_cpy ((lx_up (lx_up (lx_up X 87 14 1) 87 16 v1) 87 15 v2) 107) ((lx_up (lx_up (lx_up X 87 14 1) 87 16 v1) 87 15 v2) 108) 0 0 12)) := Sh.row hX3 (by rw [ly_108]; exact (by decide : 0 < 2))
  exact ev_ret dX8_takeRow_26 rfl hp
theorem bX8_seek_0_0 {g : GG} {d n : Nat} {post : Option Value → LX → Prop} {X : LX} (hn : 146 ≤ n) (hX : Sh n X) {v1 : Int32} (k : Ev g mX8_seek d n n post n 1 [some (.ref 87), some (.int v1)] [.ref 87] X) : Ev g mX8_seek d n n post n 0 [some (.ref 87), some (.int v1)] [] X := by
  refine ev_aload_n dX8_seek_0 rfl ?_
  exact k
theorem bX8_seek_4_0 {g : GG} {d n : Nat} {post : Option Value → LX → Prop} {X : LX} (hn : 146 ≤ n) (hX : Sh n X) {v1 : Int32} (k : Ev g mX8_seek d n n post n 5 [some (.ref 87), some (.int v1)] [.ref 87] X) : Ev g mX8_seek d n n post n 4 [some (.ref 87), some (.int v1)] [] X := by
  refine ev_aload_n dX8_seek_4 rfl ?_
  exact k
theorem bX8_seek_8_0 {g : GG} {d n : Nat} {post : Option Value → LX → Prop} {X : LX} (hn : 146 ≤ n) (hX : Sh n X) {v1 : Int32} (k : Ev g mX8_seek d n n post n 37 [some (.ref 87), some (.int v1)] [.int 0, .int 0, .int 0, .ref 87] (lx_up (lx_up (lx_up (lx_up (lx_up X 87 12 v1) 87 13 0) 87 14 0) 87 16 0) 87 15 0)) : Ev g mX8_seek d n n post n 8 [some (.ref 87), some (.int v1)] [] X := by
  refine ev_aload_n dX8_seek_8 rfl ?_
  refine ev_iload_n dX8_seek_9 rfl ?_
  refine ev_putI dX8_seek_10 fo_8_54 (by omega) lo_87 rfl rfl rfl ?_
  have hX1 : Sh _ (lx_up X 87 12 v1) := Sh.upF hX (by rw [lo_87]; decide) (by decide)
  refine ev_aload_n dX8_seek_13 rfl ?_
  refine ev_iconst (v := 0) dX8_seek_14 ki_0 ?_
  refine ev_putI dX8_seek_15 fo_8_58 (by omega) lo_87 rfl rfl rfl ?_
  have hX2 : Sh _ (lx_up (lx_up X 87 12 v1) 87 13 0) := Sh.upF hX1 (by rw [lo_87]; decide) (by decide)
  refine ev_aload_n dX8_seek_18 rfl ?_
  refine ev_iconst (v := 0) dX8_seek_19 ki_0 ?_
  refine ev_putZ dX8_seek_20 fo_8_61 (by omega) lo_87 rfl rfl rfl (by decide) ?_
  have hX3 : Sh _ (lx_up (lx_up (lx_up X 87 12 v1) 87 13 0) 87 14 0) := Sh.upF hX2 (by rw [lo_87]; decide) (by decide)
  refine ev_aload_n dX8_seek_23 rfl ?_
  refine ev_iconst (v := 0) dX8_seek_24 ki_0 ?_
  refine ev_putI dX8_seek_25 fo_8_65 (by omega) lo_87 rfl rfl rfl ?_
  have hX4 : Sh _ (lx_up (lx_up (lx_up (lx_up X 87 12 v1) 87 13 0) 87 14 0) 87 16 0) := Sh.upF hX3 (by rw [lo_87]; decide) (by decide)
  refine ev_aload_n dX8_seek_28 rfl ?_
  refine ev_iconst (v := 0) dX8_seek_29 ki_0 ?_
  refine ev_putI dX8_seek_30 fo_8_68 (by omega) lo_87 rfl rfl rfl ?_
  have hX5 : Sh _ (lx_up (lx_up (lx_up (lx_up (lx_up X 87 12 v1) 87 13 0) 87 14 0) 87 16 0) 87 15 0) := Sh.upF hX4 (by rw [lo_87]; decide) (by decide)
  refine ev_aload_n dX8_seek_33 rfl ?_
  refine ev_iconst (v := 0) dX8_seek_34 ki_0 ?_
  refine ev_iconst (v := 0) dX8_seek_35 ki_0 ?_
  refine ev_iconst (v := 0) dX8_seek_36 ki_0 ?_
  exact k
theorem bX8_seek_40_0 {g : GG} {d n : Nat} {post : Option Value → LX → Prop} {X : LX} (hn : 146 ≤ n) (hX : Sh n X) {v1 : Int32} (c0 : ¬ X 87 13 ≤ X 87 12) (hp : post (some (.int (-1000000004))) X) : Ev g mX8_seek d n n post n 40 [some (.ref 87), some (.int v1)] [] X := by
  refine ev_aload_n dX8_seek_40 rfl ?_
  refine ev_getI dX8_seek_41 fo_8_58 (by omega) lo_87 rfl ?_
  refine ev_aload_n dX8_seek_44 rfl ?_
  refine ev_getI dX8_seek_45 fo_8_54 (by omega) lo_87 rfl ?_
  refine ev_icmpF (tgt := 54) dX8_seek_48 (by decide) c0 ?_
  refine ev_ldc (v := (-1000000004)) dX8_seek_51 kw_8_75 ?_
  exact ev_iret dX8_seek_53 rfl rfl hp
theorem bX8_seek_40_1 {g : GG} {d n : Nat} {post : Option Value → LX → Prop} {X : LX} (hn : 146 ≤ n) (hX : Sh n X) {v1 : Int32} (c0 : X 87 13 ≤ X 87 12) (c1 : ¬ X 87 14 = 0) (hp : post (some (.int 0)) X) : Ev g mX8_seek d n n post n 40 [some (.ref 87), some (.int v1)] [] X := by
  refine ev_aload_n dX8_seek_40 rfl ?_
  refine ev_getI dX8_seek_41 fo_8_58 (by omega) lo_87 rfl ?_
  refine ev_aload_n dX8_seek_44 rfl ?_
  refine ev_getI dX8_seek_45 fo_8_54 (by omega) lo_87 rfl ?_
  refine ev_icmpT (tgt := 54) dX8_seek_48 (by decide) c0 ?_
  refine ev_aload_n dX8_seek_54 rfl ?_
  refine ev_getI dX8_seek_55 fo_8_61 (by omega) lo_87 rfl ?_
  refine ev_ifF (tgt := 65) dX8_seek_58 (by decide) c1 ?_
  refine ev_iconst (v := 0) dX8_seek_61 ki_0 ?_
  refine ev_goto (tgt := 67) dX8_seek_62 (by decide) ?_
  exact ev_iret dX8_seek_67 rfl rfl hp
theorem bX8_seek_40_2 {g : GG} {d n : Nat} {post : Option Value → LX → Prop} {X : LX} (hn : 146 ≤ n) (hX : Sh n X) {v1 : Int32} (c0 : X 87 13 ≤ X 87 12) (c1 : X 87 14 = 0) (hp : post (some (.int (-1000000002))) X) : Ev g mX8_seek d n n post n 40 [some (.ref 87), some (.int v1)] [] X := by
  refine ev_aload_n dX8_seek_40 rfl ?_
  refine ev_getI dX8_seek_41 fo_8_58 (by omega) lo_87 rfl ?_
  refine ev_aload_n dX8_seek_44 rfl ?_
  refine ev_getI dX8_seek_45 fo_8_54 (by omega) lo_87 rfl ?_
  refine ev_icmpT (tgt := 54) dX8_seek_48 (by decide) c0 ?_
  refine ev_aload_n dX8_seek_54 rfl ?_
  refine ev_getI dX8_seek_55 fo_8_61 (by omega) lo_87 rfl ?_
  refine ev_ifT (tgt := 65) dX8_seek_58 (by decide) c1 ?_
  refine ev_ldc (v := (-1000000002)) dX8_seek_65 kw_8_76 ?_
  exact ev_iret dX8_seek_67 rfl rfl hp
theorem bX8_packAll_0_0 {g : GG} {d n : Nat} {post : Option Value → LX → Prop} {X : LX} (hn : 146 ≤ n) (hX : Sh n X)  (k : Ev g mX8_packAll d n n post n 6 [some (.ref 87), some (.int 0), none, none, none] [.ref 1] X) : Ev g mX8_packAll d n n post n 0 [some (.ref 87), none, none, none, none] [] X := by
  refine ev_iconst (v := 0) dX8_packAll_0 ki_0 ?_
  refine ev_istore_n dX8_packAll_1 (by decide) ?_
  refine ev_aload_n dX8_packAll_2 rfl ?_
  refine ev_getS (q := 1) dX8_packAll_3 fo_8_44 (by omega) lo_87 rfl (sh_87_0 hX (by omega)) (by decide) ?_
  exact k
theorem bX8_packAll_9_0 {g : GG} {d n : Nat} {post : Option Value → LX → Prop} {X : LX} (hn : 146 ≤ n) (hX : Sh n X) {v1 : Int32} (k : Ev g mX8_packAll d n n post n 11 [some (.ref 87), some (.int v1), some (.int 0), none, none] [] X) : Ev g mX8_packAll d n n post n 9 [some (.ref 87), some (.int v1), none, none, none] [] X := by
  refine ev_iconst (v := 0) dX8_packAll_9 ki_0 ?_
  refine ev_istore_n dX8_packAll_10 (by decide) ?_
  exact k
theorem bX8_packAll_11_0 {g : GG} {d n : Nat} {post : Option Value → LX → Prop} {X : LX} (hn : 146 ≤ n) (hX : Sh n X) {v1 : Int32} {v2 : Int32} (c0 : ¬ X 37 0 ≤ v2) (k : Ev g mX8_packAll d n n post n 27 [some (.ref 87), some (.int v1), some (.int v2), some (.int 0), none] [] X) : Ev g mX8_packAll d n n post n 11 [some (.ref 87), some (.int v1), some (.int v2), none, none] [] X := by
  refine ev_iload_n dX8_packAll_11 rfl ?_
  refine ev_aload_n dX8_packAll_12 rfl ?_
  refine ev_getS (q := 1) dX8_packAll_13 fo_8_44 (by omega) lo_87 rfl (sh_87_0 hX (by omega)) (by decide) ?_
  refine ev_getS (q := 37) dX8_packAll_16 fo_8_101 (by omega) lo_1 rfl (sh_1_2 hX (by omega)) (by decide) ?_
  refine ev_getI dX8_packAll_19 fo_8_105 (by omega) lo_37 rfl ?_
  refine ev_icmpF (tgt := 80) dX8_packAll_22 (by decide) c0 ?_
  refine ev_iconst (v := 0) dX8_packAll_25 ki_0 ?_
  refine ev_istore_n dX8_packAll_26 (by decide) ?_
  exact k
theorem bX8_packAll_11_1 {g : GG} {d n : Nat} {post : Option Value → LX → Prop} {X : LX} (hn : 146 ≤ n) (hX : Sh n X) {v1 : Int32} {v2 : Int32} (c0 : X 37 0 ≤ v2) (hp : post (some (.int v1)) X) : Ev g mX8_packAll d n n post n 11 [some (.ref 87), some (.int v1), some (.int v2), none, none] [] X := by
  refine ev_iload_n dX8_packAll_11 rfl ?_
  refine ev_aload_n dX8_packAll_12 rfl ?_
  refine ev_getS (q := 1) dX8_packAll_13 fo_8_44 (by omega) lo_87 rfl (sh_87_0 hX (by omega)) (by decide) ?_
  refine ev_getS (q := 37) dX8_packAll_16 fo_8_101 (by omega) lo_1 rfl (sh_1_2 hX (by omega)) (by decide) ?_
  refine ev_getI dX8_packAll_19 fo_8_105 (by omega) lo_37 rfl ?_
  refine ev_icmpT (tgt := 80) dX8_packAll_22 (by decide) c0 ?_
  refine ev_iload_n dX8_packAll_80 rfl ?_
  exact ev_iret dX8_packAll_81 rfl rfl hp
theorem bX8_packAll_27_0 {g : GG} {d n : Nat} {post : Option Value → LX → Prop} {X : LX} (hn : 146 ≤ n) (hX : Sh n X) {v1 : Int32} {v2 : Int32} {v3 : Int32} (c0 : ¬ X 2 0 ≤ v3) (k : Ev g mX8_packAll d n n post n 44 [some (.ref 87), some (.int v1), some (.int v2), some (.int v3), none] [.int v3, .int v2, .ref 87] X) : Ev g mX8_packAll d n n post n 27 [some (.ref 87), some (.int v1), some (.int v2), some (.int v3), none] [] X := by
  refine ev_iload_n dX8_packAll_27 rfl ?_
  refine ev_aload_n dX8_packAll_28 rfl ?_
  refine ev_getS (q := 1) dX8_packAll_29 fo_8_44 (by omega) lo_87 rfl (sh_87_0 hX (by omega)) (by decide) ?_
  refine ev_getS (q := 2) dX8_packAll_32 fo_8_80 (by omega) lo_1 rfl (sh_1_0 hX (by omega)) (by decide) ?_
  refine ev_getI dX8_packAll_35 fo_8_86 (by omega) lo_2 rfl ?_
  refine ev_icmpF (tgt := 74) dX8_packAll_38 (by decide) c0 ?_
  refine ev_aload_n dX8_packAll_41 rfl ?_
  refine ev_iload_n dX8_packAll_42 rfl ?_
  refine ev_iload_n dX8_packAll_43 rfl ?_
  exact k
theorem bX8_packAll_27_1 {g : GG} {d n : Nat} {post : Option Value → LX → Prop} {X : LX} (hn : 146 ≤ n) (hX : Sh n X) {v1 : Int32} {v2 : Int32} {v3 : Int32} (c0 : X 2 0 ≤ v3) (k : Ev g mX8_packAll d n n post n 11 [some (.ref 87), some (.int v1), some (.int (v2 + 1)), none, none] [] X) : Ev g mX8_packAll d n n post n 27 [some (.ref 87), some (.int v1), some (.int v2), some (.int v3), none] [] X := by
  refine ev_iload_n dX8_packAll_27 rfl ?_
  refine ev_aload_n dX8_packAll_28 rfl ?_
  refine ev_getS (q := 1) dX8_packAll_29 fo_8_44 (by omega) lo_87 rfl (sh_87_0 hX (by omega)) (by decide) ?_
  refine ev_getS (q := 2) dX8_packAll_32 fo_8_80 (by omega) lo_1 rfl (sh_1_0 hX (by omega)) (by decide) ?_
  refine ev_getI dX8_packAll_35 fo_8_86 (by omega) lo_2 rfl ?_
  refine ev_icmpT (tgt := 74) dX8_packAll_38 (by decide) c0 ?_
  refine ev_iinc (v := v2 + 1) dX8_packAll_74 rfl (by rw [show Int32.ofInt 1 = 1 from ki_1]) (by decide) ?_
  refine ev_goto (tgt := 11) dX8_packAll_77 (by decide) ?_
  refine ev_wk (L := [some (.ref 87), some (.int v1), some (.int (v2 + 1)), some (.int v3), none]) (L' := [some (.ref 87), some (.int v1), some (.int (v2 + 1)), none, none]) (by simp [lwk]) ?_
  exact k
theorem bX8_packAll_47_0 {g : GG} {d n : Nat} {post : Option Value → LX → Prop} {X : LX} (hn : 146 ≤ n) (hX : Sh n X) {v1 : Int32} {v2 : Int32} {v3 : Int32} {s0 : Int32} (k : Ev g mX8_packAll d n n post n 60 [some (.ref 87), some (.int v1), some (.int v2), some (.int v3), some (.int s0)] [.int v2, .int s0, .int v3, .ref 69] X) : Ev g mX8_packAll d n n post n 47 [some (.ref 87), some (.int v1), some (.int v2), some (.int v3), none] [.int s0] X := by
  refine ev_istore dX8_packAll_47 (by decide) ?_
  refine ev_aload_n dX8_packAll_49 rfl ?_
  refine ev_getS (q := 1) dX8_packAll_50 fo_8_44 (by omega) lo_87 rfl (sh_87_0 hX (by omega)) (by decide) ?_
  refine ev_getS (q := 69) dX8_packAll_53 fo_8_91 (by omega) lo_1 rfl (sh_1_3 hX (by omega)) (by decide) ?_
  refine ev_iload_n dX8_packAll_56 rfl ?_
  refine ev_iload dX8_packAll_57 rfl ?_
  refine ev_iload_n dX8_packAll_59 rfl ?_
  exact k
theorem bX8_packAll_63_0 {g : GG} {d n : Nat} {post : Option Value → LX → Prop} {X : LX} (hn : 146 ≤ n) (hX : Sh n X) {v1 : Int32} {v2 : Int32} {v3 : Int32} {v4 : Int32} (k : Ev g mX8_packAll d n n post n 27 [some (.ref 87), some (.int (v1 + v4)), some (.int v2), some (.int (v3 + 1)), none] [] X) : Ev g mX8_packAll d n n post n 63 [some (.ref 87), some (.int v1), some (.int v2), some (.int v3), some (.int v4)] [] X := by
  refine ev_iload_n dX8_packAll_63 rfl ?_
  refine ev_iload dX8_packAll_64 rfl ?_
  refine ev_iadd dX8_packAll_66 ?_
  refine ev_istore_n dX8_packAll_67 (by decide) ?_
  refine ev_iinc (v := v3 + 1) dX8_packAll_68 rfl (by rw [show Int32.ofInt 1 = 1 from ki_1]) (by decide) ?_
  refine ev_goto (tgt := 27) dX8_packAll_71 (by decide) ?_
  refine ev_wk (L := [some (.ref 87), some (.int (v1 + v4)), some (.int v2), some (.int (v3 + 1)), some (.int v4)]) (L' := [some (.ref 87), some (.int (v1 + v4)), some (.int v2), some (.int (v3 + 1)), none]) (by simp [lwk]) ?_
  exact k
theorem bX8_plannedNeed_0_0 {g : GG} {d n : Nat} {post : Option Value → LX → Prop} {X : LX} (hn : 146 ≤ n) (hX : Sh n X) {v1 : Int32} {v2 : Int32} (k : Ev g mX8_plannedNeed d n n post n 3 [some (.ref 87), some (.int v1), some (.int v2)] [.int v1, .ref 87, .int v2] X) : Ev g mX8_plannedNeed d n n post n 0 [some (.ref 87), some (.int v1), some (.int v2)] [] X := by
  refine ev_iload_n dX8_plannedNeed_0 rfl ?_
  refine ev_aload_n dX8_plannedNeed_1 rfl ?_
  refine ev_iload_n dX8_plannedNeed_2 rfl ?_
  exact k
theorem bX8_plannedNeed_6_0 {g : GG} {d n : Nat} {post : Option Value → LX → Prop} {X : LX} (hn : 146 ≤ n) (hX : Sh n X) {v1 : Int32} {v2 : Int32} {s0 : Int32} {s1 : Int32} (c0 : s0 = s1) (hp : post (some (.int 0)) X) : Ev g mX8_plannedNeed d n n post n 6 [some (.ref 87), some (.int v1), some (.int v2)] [.int s1, .int s0] X := by
  refine ev_icmpF (tgt := 11) dX8_plannedNeed_6 (by decide) c0 ?_
  refine ev_iconst (v := 0) dX8_plannedNeed_9 ki_0 ?_
  exact ev_iret dX8_plannedNeed_10 rfl rfl hp
theorem bX8_plannedNeed_6_1 {g : GG} {d n : Nat} {post : Option Value → LX → Prop} {X : LX} (hn : 146 ≤ n) (hX : Sh n X) {v1 : Int32} {v2 : Int32} {s0 : Int32} {s1 : Int32} (c0 : ¬ s0 = s1) (k : Ev g mX8_plannedNeed d n n post n 14 [some (.ref 87), some (.int v1), some (.int v2)] [.int v1, .ref 87, .int v2] X) : Ev g mX8_plannedNeed d n n post n 6 [some (.ref 87), some (.int v1), some (.int v2)] [.int s1, .int s0] X := by
  refine ev_icmpT (tgt := 11) dX8_plannedNeed_6 (by decide) c0 ?_
  refine ev_iload_n dX8_plannedNeed_11 rfl ?_
  refine ev_aload_n dX8_plannedNeed_12 rfl ?_
  refine ev_iload_n dX8_plannedNeed_13 rfl ?_
  exact k
theorem bX8_plannedNeed_17_0 {g : GG} {d n : Nat} {post : Option Value → LX → Prop} {X : LX} (hn : 146 ≤ n) (hX : Sh n X) {v1 : Nat} {v2 : Int32} {s0 : Int32} {s1 : Int32} {j1 : Nat} (c0 : s0 = s1) (b0 : v1 < 12) (hj1 : X 108 v1 = nI j1) (b1 : j1 < 588) (hp : post (some (.int (X 105 j1))) X) : Ev g mX8_plannedNeed d n n post n 17 [some (.ref 87), some (.int (nI v1)), some (.int v2)] [.int s1, .int s0] X := by
  refine ev_icmpF (tgt := 34) dX8_plannedNeed_17 (by decide) c0 ?_
  refine ev_aload_n dX8_plannedNeed_20 rfl ?_
  refine ev_getS (q := 105) dX8_plannedNeed_21 fo_8_29 (by omega) lo_87 rfl (sh_87_7 hX (by omega)) (by decide) ?_
  refine ev_aload_n dX8_plannedNeed_24 rfl ?_
  refine ev_getS (q := 108) dX8_plannedNeed_25 fo_8_38 (by omega) lo_87 rfl (sh_87_11 hX (by omega)) (by decide) ?_
  refine ev_iload_n dX8_plannedNeed_28 rfl ?_
  refine ev_iald dX8_plannedNeed_29 (by omega) ly_108 rfl b0 ?_
  refine ev_iald dX8_plannedNeed_30 (by omega) ly_105 hj1 b1 ?_
  refine ev_goto (tgt := 42) dX8_plannedNeed_31 (by decide) ?_
  exact ev_iret dX8_plannedNeed_42 rfl rfl hp
theorem bX8_plannedNeed_17_1 {g : GG} {d n : Nat} {post : Option Value → LX → Prop} {X : LX} (hn : 146 ≤ n) (hX : Sh n X) {v1 : Nat} {v2 : Nat} {s0 : Int32} {s1 : Int32} (c0 : ¬ s0 = s1) (b0 : v1 < 12) (b1 : v2 < 14) (hp : post (some (.int (X (88 + 1 + v1) v2))) X) : Ev g mX8_plannedNeed d n n post n 17 [some (.ref 87), some (.int (nI v1)), some (.int (nI v2))] [.int s1, .int s0] X := by
  refine ev_icmpT (tgt := 34) dX8_plannedNeed_17 (by decide) c0 ?_
  refine ev_aload_n dX8_plannedNeed_34 rfl ?_
  refine ev_getS (q := 88) dX8_plannedNeed_35 fo_8_11 (by omega) lo_87 rfl (sh_87_1 hX (by omega)) (by decide) ?_
  refine ev_iload_n dX8_plannedNeed_38 rfl ?_
  refine ev_aald (q := 88 + 1 + v1) dX8_plannedNeed_39 (by omega) (Or.inl ly_88) rfl b0 (hX.2 88 v1 (by omega) (Or.inl (by rw [ly_88])) (by rw [ly_88]; exact b0)) (by first | omega | (have := LY_l ly_88; have := LY_lt (show (LY 88).1 < 99 by rw [ly_88]; exact (by decide : 2 < 99)); omega)) ?_
  refine ev_iload_n dX8_plannedNeed_40 rfl ?_
  refine ev_iald dX8_plannedNeed_41 (by have := b0; omega) (lyr_88 _ b0) rfl b1 ?_
  exact ev_iret dX8_plannedNeed_42 rfl rfl hp
theorem bX8_listRows_0_0 {g : GG} {d n : Nat} {post : Option Value → LX → Prop} {X : LX} (hn : 146 ≤ n) (hX : Sh n X)  (k : Ev g mX8_listRows d n n post n 7 [some (.ref 87), some (.int 0)] [] (lx_up X 87 18 0)) : Ev g mX8_listRows d n n post n 0 [some (.ref 87), none] [] X := by
  refine ev_aload_n dX8_listRows_0 rfl ?_
  refine ev_iconst (v := 0) dX8_listRows_1 ki_0 ?_
  refine ev_putI dX8_listRows_2 fo_8_148 (by omega) lo_87 rfl rfl rfl ?_
  have hX1 : Sh _ (lx_up X 87 18 0) := Sh.upF hX (by rw [lo_87]; decide) (by decide)
  refine ev_iconst (v := 0) dX8_listRows_5 ki_0 ?_
  refine ev_istore_n dX8_listRows_6 (by decide) ?_
  exact k
theorem bX8_listRows_7_0 {g : GG} {d n : Nat} {post : Option Value → LX → Prop} {X : LX} (hn : 146 ≤ n) (hX : Sh n X) {v1 : Int32} (c0 : ¬ X 37 0 ≤ v1) (c1 : ¬ 36 < (X 87 18) + 3) (k : Ev g mX8_listRows d n n post n 34 [some (.ref 87), some (.int v1)] [.int v1, .ref 87] X) : Ev g mX8_listRows d n n post n 7 [some (.ref 87), some (.int v1)] [] X := by
  refine ev_iload_n dX8_listRows_7 rfl ?_
  refine ev_aload_n dX8_listRows_8 rfl ?_
  refine ev_getS (q := 1) dX8_listRows_9 fo_8_44 (by omega) lo_87 rfl (sh_87_0 hX (by omega)) (by decide) ?_
  refine ev_getS (q := 37) dX8_listRows_12 fo_8_101 (by omega) lo_1 rfl (sh_1_2 hX (by omega)) (by decide) ?_
  refine ev_getI dX8_listRows_15 fo_8_105 (by omega) lo_37 rfl ?_
  refine ev_icmpF (tgt := 108) dX8_listRows_18 (by decide) c0 ?_
  refine ev_aload_n dX8_listRows_21 rfl ?_
  refine ev_getI dX8_listRows_22 fo_8_148 (by omega) lo_87 rfl ?_
  refine ev_iconst (v := 3) dX8_listRows_25 ki_3 ?_
  refine ev_iadd dX8_listRows_26 ?_
  refine ev_bipush (v := 36) dX8_listRows_27 kb_36 ?_
  refine ev_icmpF (tgt := 108) dX8_listRows_29 (by decide) c1 ?_
  refine ev_aload_n dX8_listRows_32 rfl ?_
  refine ev_iload_n dX8_listRows_33 rfl ?_
  exact k
theorem bX8_listRows_7_1 {g : GG} {d n : Nat} {post : Option Value → LX → Prop} {X : LX} (hn : 146 ≤ n) (hX : Sh n X) {v1 : Int32} (c0 : ¬ X 37 0 ≤ v1) (c1 : 36 < (X 87 18) + 3) (hp : post (some (.ref 109)) X) : Ev g mX8_listRows d n n post n 7 [some (.ref 87), some (.int v1)] [] X := by
  refine ev_iload_n dX8_listRows_7 rfl ?_
  refine ev_aload_n dX8_listRows_8 rfl ?_
  refine ev_getS (q := 1) dX8_listRows_9 fo_8_44 (by omega) lo_87 rfl (sh_87_0 hX (by omega)) (by decide) ?_
  refine ev_getS (q := 37) dX8_listRows_12 fo_8_101 (by omega) lo_1 rfl (sh_1_2 hX (by omega)) (by decide) ?_
  refine ev_getI dX8_listRows_15 fo_8_105 (by omega) lo_37 rfl ?_
  refine ev_icmpF (tgt := 108) dX8_listRows_18 (by decide) c0 ?_
  refine ev_aload_n dX8_listRows_21 rfl ?_
  refine ev_getI dX8_listRows_22 fo_8_148 (by omega) lo_87 rfl ?_
  refine ev_iconst (v := 3) dX8_listRows_25 ki_3 ?_
  refine ev_iadd dX8_listRows_26 ?_
  refine ev_bipush (v := 36) dX8_listRows_27 kb_36 ?_
  refine ev_icmpT (tgt := 108) dX8_listRows_29 (by decide) c1 ?_
  refine ev_aload_n dX8_listRows_108 rfl ?_
  refine ev_getS (q := 109) dX8_listRows_109 fo_8_41 (by omega) lo_87 rfl (sh_87_17 hX (by omega)) (by decide) ?_
  exact ev_aret dX8_listRows_112 rfl (Or.inr ⟨_, rfl⟩) hp
theorem bX8_listRows_7_2 {g : GG} {d n : Nat} {post : Option Value → LX → Prop} {X : LX} (hn : 146 ≤ n) (hX : Sh n X) {v1 : Int32} (c0 : X 37 0 ≤ v1) (hp : post (some (.ref 109)) X) : Ev g mX8_listRows d n n post n 7 [some (.ref 87), some (.int v1)] [] X := by
  refine ev_iload_n dX8_listRows_7 rfl ?_
  refine ev_aload_n dX8_listRows_8 rfl ?_
  refine ev_getS (q := 1) dX8_listRows_9 fo_8_44 (by omega) lo_87 rfl (sh_87_0 hX (by omega)) (by decide) ?_
  refine ev_getS (q := 37) dX8_listRows_12 fo_8_101 (by omega) lo_1 rfl (sh_1_2 hX (by omega)) (by decide) ?_
  refine ev_getI dX8_listRows_15 fo_8_105 (by omega) lo_37 rfl ?_
  refine ev_icmpT (tgt := 108) dX8_listRows_18 (by decide) c0 ?_
  refine ev_aload_n dX8_listRows_108 rfl ?_
  refine ev_getS (q := 109) dX8_listRows_109 fo_8_41 (by omega) lo_87 rfl (sh_87_17 hX (by omega)) (by decide) ?_
  exact ev_aret dX8_listRows_112 rfl (Or.inr ⟨_, rfl⟩) hp
theorem bX8_listRows_37_0 {g : GG} {d n : Nat} {post : Option Value → LX → Prop} {X : LX} (hn : 146 ≤ n) (hX : Sh n X) {v1 : Int32} {s0 : Int32} (c0 : s0 = 0) (k : Ev g mX8_listRows d n n post n 7 [some (.ref 87), some (.int (v1 + 1))] [] X) : Ev g mX8_listRows d n n post n 37 [some (.ref 87), some (.int v1)] [.int s0] X := by
  refine ev_ifF (tgt := 43) dX8_listRows_37 (by decide) c0 ?_
  refine ev_goto (tgt := 102) dX8_listRows_40 (by decide) ?_
  refine ev_iinc (v := v1 + 1) dX8_listRows_102 rfl (by rw [show Int32.ofInt 1 = 1 from ki_1]) (by decide) ?_
  refine ev_goto (tgt := 7) dX8_listRows_105 (by decide) ?_
  exact k
theorem bX8_listRows_37_1 {g : GG} {d n : Nat} {post : Option Value → LX → Prop} {X : LX} (hn : 146 ≤ n) (hX : Sh n X) {v1 : Int32} {s0 : Int32} {j1 : Nat} (c0 : ¬ s0 = 0) (hj1 : X 87 18 = nI j1) (b0 : j1 < 36) (k : Ev g mX8_listRows d n n post n 77 [some (.ref 87), some (.int v1)] [.int v1, .ref 87, .int ((X 87 18) + 1), .ref 109] (lx_up (lx_up (lx_up X 87 18 ((X 87 18) + 1)) 109 j1 v1) 87 18 (((X 87 18) + 1) + 1))) : Ev g mX8_listRows d n n post n 37 [some (.ref 87), some (.int v1)] [.int s0] X := by
  refine ev_ifT (tgt := 43) dX8_listRows_37 (by decide) c0 ?_
  refine ev_aload_n dX8_listRows_43 rfl ?_
  refine ev_getS (q := 109) dX8_listRows_44 fo_8_41 (by omega) lo_87 rfl (sh_87_17 hX (by omega)) (by decide) ?_
  refine ev_aload_n dX8_listRows_47 rfl ?_
  refine ev_dup dX8_listRows_48 rfl ?_
  refine ev_getI dX8_listRows_49 fo_8_148 (by omega) lo_87 rfl ?_
  refine ev_dup_x1 dX8_listRows_52 rfl rfl ?_
  refine ev_iconst (v := 1) dX8_listRows_53 ki_1 ?_
  refine ev_iadd dX8_listRows_54 ?_
  refine ev_putI dX8_listRows_55 fo_8_148 (by omega) lo_87 rfl rfl rfl ?_
  have hX1 : Sh _ (lx_up X 87 18 ((X 87 18) + 1)) := Sh.upF hX (by rw [lo_87]; decide) (by decide)
  refine ev_iload_n dX8_listRows_58 rfl ?_
  refine ev_iast dX8_listRows_59 (by omega) ly_109 hj1 b0 ?_
  have hX2 : Sh _ (lx_up (lx_up X 87 18 ((X 87 18) + 1)) 109 j1 v1) := Sh.upA hX1 (by rw [ly_109]; exact (by decide : 0 < 2))
  refine ev_aload_n dX8_listRows_60 rfl ?_
  refine ev_getS (q := 109) dX8_listRows_61 fo_8_41 (by omega) lo_87 rfl (sh_87_17 hX2 (by omega)) (by decide) ?_
  refine ev_aload_n dX8_listRows_64 rfl ?_
  refine ev_dup dX8_listRows_65 rfl ?_
  refine ev_getI dX8_listRows_66 fo_8_148 (by omega) lo_87 rfl ?_
  refine ev_dup_x1 dX8_listRows_69 rfl rfl ?_
  refine ev_iconst (v := 1) dX8_listRows_70 ki_1 ?_
  refine ev_iadd dX8_listRows_71 ?_
  refine ev_putI dX8_listRows_72 fo_8_148 (by omega) lo_87 rfl rfl rfl ?_
  have hX3 : Sh _ (lx_up (lx_up (lx_up X 87 18 ((X 87 18) + 1)) 109 j1 v1) 87 18 (((X 87 18) + 1) + 1)) := Sh.upF hX2 (by rw [lo_87]; decide) (by decide)
  refine ev_aload_n dX8_listRows_75 rfl ?_
  refine ev_iload_n dX8_listRows_76 rfl ?_
  exact k
theorem bX8_listRows_80_0 {g : GG} {d n : Nat} {post : Option Value → LX → Prop} {X : LX} (hn : 146 ≤ n) (hX : Sh n X) {v1 : Int32} {s1 : Nat} {s2 : Int32} (b0 : s1 < 36) (k : Ev g mX8_listRows d n n post n 98 [some (.ref 87), some (.int v1)] [.int v1, .ref 87, .int (X 87 18), .ref 109] (lx_up (lx_up X 109 s1 s2) 87 18 ((X 87 18) + 1))) : Ev g mX8_listRows d n n post n 80 [some (.ref 87), some (.int v1)] [.int s2, .int (nI s1), .ref 109] X := by
  refine ev_iast dX8_listRows_80 (by omega) ly_109 rfl b0 ?_
  have hX1 : Sh _ (lx_up X 109 s1 s2) := Sh.upA hX (by rw [ly_109]; exact (by decide : 0 < 2))
  refine ev_aload_n dX8_listRows_81 rfl ?_
  refine ev_getS (q := 109) dX8_listRows_82 fo_8_41 (by omega) lo_87 rfl (sh_87_17 hX1 (by omega)) (by decide) ?_
  refine ev_aload_n dX8_listRows_85 rfl ?_
  refine ev_dup dX8_listRows_86 rfl ?_
  refine ev_getI dX8_listRows_87 fo_8_148 (by omega) lo_87 rfl ?_
  refine ev_dup_x1 dX8_listRows_90 rfl rfl ?_
  refine ev_iconst (v := 1) dX8_listRows_91 ki_1 ?_
  refine ev_iadd dX8_listRows_92 ?_
  refine ev_putI dX8_listRows_93 fo_8_148 (by omega) lo_87 rfl rfl rfl ?_
  have hX2 : Sh _ (lx_up (lx_up X 109 s1 s2) 87 18 ((X 87 18) + 1)) := Sh.upF hX1 (by rw [lo_87]; decide) (by decide)
  refine ev_aload_n dX8_listRows_96 rfl ?_
  refine ev_iload_n dX8_listRows_97 rfl ?_
  exact k
theorem bX8_listRows_101_0 {g : GG} {d n : Nat} {post : Option Value → LX → Prop} {X : LX} (hn : 146 ≤ n) (hX : Sh n X) {v1 : Int32} {s1 : Nat} {s2 : Int32} (b0 : s1 < 36) (k : Ev g mX8_listRows d n n post n 7 [some (.ref 87), some (.int (v1 + 1))] [] (lx_up X 109 s1 s2)) : Ev g mX8_listRows d n n post n 101 [some (.ref 87), some (.int v1)] [.int s2, .int (nI s1), .ref 109] X := by
  refine ev_iast dX8_listRows_101 (by omega) ly_109 rfl b0 ?_
  have hX1 : Sh _ (lx_up X 109 s1 s2) := Sh.upA hX (by rw [ly_109]; exact (by decide : 0 < 2))
  refine ev_iinc (v := v1 + 1) dX8_listRows_102 rfl (by rw [show Int32.ofInt 1 = 1 from ki_1]) (by decide) ?_
  refine ev_goto (tgt := 7) dX8_listRows_105 (by decide) ?_
  exact k
theorem bX12_isEnough_0_0 {g : GG} {d n : Nat} {post : Option Value → LX → Prop} {X : LX} (hn : 146 ≤ n) (hX : Sh n X)  (k : Ev g mX12_isEnough d n n post n 4 [some (.ref 133), some (.int 1), some (.int 0)] [] X) : Ev g mX12_isEnough d n n post n 0 [some (.ref 133), none, none] [] X := by
  refine ev_iconst (v := 1) dX12_isEnough_0 ki_1 ?_
  refine ev_istore_n dX12_isEnough_1 (by decide) ?_
  refine ev_iconst (v := 0) dX12_isEnough_2 ki_0 ?_
  refine ev_istore_n dX12_isEnough_3 (by decide) ?_
  exact k
theorem bX12_isEnough_4_0 {g : GG} {d n : Nat} {post : Option Value → LX → Prop} {X : LX} (hd : 2 ≤ d) (hn : 146 ≤ n) (hX : Sh n X) {v1 : Int32} {v2 : Nat} (c0 : ¬ X 134 4 ≤ nI v2) (c1 : ¬ v1 = 0) (c2 : v2 < 14) (c3 : num X 134 6 12) (c4 : num X 134 7 40) (c5 : ¬ mStock X (nI v2) < mNeedAll X v2) (k : Ev g mX12_isEnough d n n post n 4 [some (.ref 133), some (.int 1), some (.int ((nI v2) + 1))] [] X) : Ev g mX12_isEnough d n n post n 4 [some (.ref 133), some (.int v1), some (.int (nI v2))] [] X := by
  refine ev_iload_n dX12_isEnough_4 rfl ?_
  refine ev_aload_n dX12_isEnough_5 rfl ?_
  refine ev_getS (q := 134) dX12_isEnough_6 fo_12_9 (by omega) lo_133 rfl (sh_133_0 hX (by omega)) (by decide) ?_
  refine ev_iconst (v := 4) dX12_isEnough_9 ki_4 ?_
  refine ev_iald dX12_isEnough_10 (by omega) ly_134 nIl_4 (by decide) ?_
  refine ev_icmpF (tgt := 43) dX12_isEnough_11 (by decide) c0 ?_
  refine ev_iload_n dX12_isEnough_14 rfl ?_
  refine ev_ifF (tgt := 35) dX12_isEnough_15 (by decide) c1 ?_
  refine ev_aload_n dX12_isEnough_18 rfl ?_
  refine ev_iload_n dX12_isEnough_19 rfl ?_
  refine e_Vi (as := [.int (nI v2)]) (rest := []) dX12_isEnough_20 vX12_needOf ml_12_267 isX12_needOf seX12_needOf npX12_needOf (rc_133 (by omega)) (by decide) rfl (Nat.le_of_ble_eq_true rfl) (by omega) (k_X12_needOf (d := d - 1) (by omega) (by omega) hX c2 c3) ?_
  refine ev_aload_n dX12_isEnough_23 rfl ?_
  refine ev_iload_n dX12_isEnough_24 rfl ?_
  refine e_Vi (as := [.int (nI v2)]) (rest := [.int (mNeedAll X v2)]) dX12_isEnough_25 vX12_stockOf ml_12_270 isX12_stockOf seX12_stockOf npX12_stockOf (rc_133 (by omega)) (by decide) rfl (Nat.le_of_ble_eq_true rfl) (by omega) (k_X12_stockOf (d := d - 1) (by omega) (by omega) hX c4) ?_
  refine ev_icmpF (tgt := 35) dX12_isEnough_28 (by decide) c5 ?_
  refine ev_iconst (v := 1) dX12_isEnough_31 ki_1 ?_
  refine ev_goto (tgt := 36) dX12_isEnough_32 (by decide) ?_
  refine ev_istore_n dX12_isEnough_36 (by decide) ?_
  refine ev_iinc (v := (nI v2) + 1) dX12_isEnough_37 rfl (by rw [show Int32.ofInt 1 = 1 from ki_1]) (by decide) ?_
  refine ev_goto (tgt := 4) dX12_isEnough_40 (by decide) ?_
  exact k
theorem bX12_isEnough_4_1 {g : GG} {d n : Nat} {post : Option Value → LX → Prop} {X : LX} (hd : 2 ≤ d) (hn : 146 ≤ n) (hX : Sh n X) {v1 : Int32} {v2 : Nat} (c0 : ¬ X 134 4 ≤ nI v2) (c1 : ¬ v1 = 0) (c2 : v2 < 14) (c3 : num X 134 6 12) (c4 : num X 134 7 40) (c5 : mStock X (nI v2) < mNeedAll X v2) (k : Ev g mX12_isEnough d n n post n 4 [some (.ref 133), some (.int 0), some (.int ((nI v2) + 1))] [] X) : Ev g mX12_isEnough d n n post n 4 [some (.ref 133), some (.int v1), some (.int (nI v2))] [] X := by
  refine ev_iload_n dX12_isEnough_4 rfl ?_
  refine ev_aload_n dX12_isEnough_5 rfl ?_
  refine ev_getS (q := 134) dX12_isEnough_6 fo_12_9 (by omega) lo_133 rfl (sh_133_0 hX (by omega)) (by decide) ?_
  refine ev_iconst (v := 4) dX12_isEnough_9 ki_4 ?_
  refine ev_iald dX12_isEnough_10 (by omega) ly_134 nIl_4 (by decide) ?_
  refine ev_icmpF (tgt := 43) dX12_isEnough_11 (by decide) c0 ?_
  refine ev_iload_n dX12_isEnough_14 rfl ?_
  refine ev_ifF (tgt := 35) dX12_isEnough_15 (by decide) c1 ?_
  refine ev_aload_n dX12_isEnough_18 rfl ?_
  refine ev_iload_n dX12_isEnough_19 rfl ?_
  refine e_Vi (as := [.int (nI v2)]) (rest := []) dX12_isEnough_20 vX12_needOf ml_12_267 isX12_needOf seX12_needOf npX12_needOf (rc_133 (by omega)) (by decide) rfl (Nat.le_of_ble_eq_true rfl) (by omega) (k_X12_needOf (d := d - 1) (by omega) (by omega) hX c2 c3) ?_
  refine ev_aload_n dX12_isEnough_23 rfl ?_
  refine ev_iload_n dX12_isEnough_24 rfl ?_
  refine e_Vi (as := [.int (nI v2)]) (rest := [.int (mNeedAll X v2)]) dX12_isEnough_25 vX12_stockOf ml_12_270 isX12_stockOf seX12_stockOf npX12_stockOf (rc_133 (by omega)) (by decide) rfl (Nat.le_of_ble_eq_true rfl) (by omega) (k_X12_stockOf (d := d - 1) (by omega) (by omega) hX c4) ?_
  refine ev_icmpT (tgt := 35) dX12_isEnough_28 (by decide) c5 ?_
  refine ev_iconst (v := 0) dX12_isEnough_35 ki_0 ?_
  refine ev_istore_n dX12_isEnough_36 (by decide) ?_
  refine ev_iinc (v := (nI v2) + 1) dX12_isEnough_37 rfl (by rw [show Int32.ofInt 1 = 1 from ki_1]) (by decide) ?_
  refine ev_goto (tgt := 4) dX12_isEnough_40 (by decide) ?_
  exact k
theorem bX12_isEnough_4_2 {g : GG} {d n : Nat} {post : Option Value → LX → Prop} {X : LX} (hn : 146 ≤ n) (hX : Sh n X) {v1 : Int32} {v2 : Int32} (c0 : ¬ X 134 4 ≤ v2) (c1 : v1 = 0) (k : Ev g mX12_isEnough d n n post n 4 [some (.ref 133), some (.int 0), some (.int (v2 + 1))] [] X) : Ev g mX12_isEnough d n n post n 4 [some (.ref 133), some (.int v1), some (.int v2)] [] X := by
  refine ev_iload_n dX12_isEnough_4 rfl ?_
  refine ev_aload_n dX12_isEnough_5 rfl ?_
  refine ev_getS (q := 134) dX12_isEnough_6 fo_12_9 (by omega) lo_133 rfl (sh_133_0 hX (by omega)) (by decide) ?_
  refine ev_iconst (v := 4) dX12_isEnough_9 ki_4 ?_
  refine ev_iald dX12_isEnough_10 (by omega) ly_134 nIl_4 (by decide) ?_
  refine ev_icmpF (tgt := 43) dX12_isEnough_11 (by decide) c0 ?_
  refine ev_iload_n dX12_isEnough_14 rfl ?_
  refine ev_ifT (tgt := 35) dX12_isEnough_15 (by decide) c1 ?_
  refine ev_iconst (v := 0) dX12_isEnough_35 ki_0 ?_
  refine ev_istore_n dX12_isEnough_36 (by decide) ?_
  refine ev_iinc (v := v2 + 1) dX12_isEnough_37 rfl (by rw [show Int32.ofInt 1 = 1 from ki_1]) (by decide) ?_
  refine ev_goto (tgt := 4) dX12_isEnough_40 (by decide) ?_
  exact k
theorem bX12_isEnough_4_3 {g : GG} {d n : Nat} {post : Option Value → LX → Prop} {X : LX} (hn : 146 ≤ n) (hX : Sh n X) {v1 : Int32} {v2 : Int32} (c0 : X 134 4 ≤ v2) (hz : v1 = 0 ∨ v1 = 1) (hp : post (some (.int v1)) X) : Ev g mX12_isEnough d n n post n 4 [some (.ref 133), some (.int v1), some (.int v2)] [] X := by
  refine ev_iload_n dX12_isEnough_4 rfl ?_
  refine ev_aload_n dX12_isEnough_5 rfl ?_
  refine ev_getS (q := 134) dX12_isEnough_6 fo_12_9 (by omega) lo_133 rfl (sh_133_0 hX (by omega)) (by decide) ?_
  refine ev_iconst (v := 4) dX12_isEnough_9 ki_4 ?_
  refine ev_iald dX12_isEnough_10 (by omega) ly_134 nIl_4 (by decide) ?_
  refine ev_icmpT (tgt := 43) dX12_isEnough_11 (by decide) c0 ?_
  refine ev_iload_n dX12_isEnough_43 rfl ?_
  exact ev_iret dX12_isEnough_44 rfl (nz_bool hz) hp
theorem bX12_maySwap_0_0 {g : GG} {d n : Nat} {post : Option Value → LX → Prop} {X : LX} (hd : 1 ≤ d) (hn : 146 ≤ n) (hX : Sh n X) {v1 : Nat} {v2 : Nat} {v3 : Nat} (b0 : ((14 * v1) + v2) < 168) (c0 : ¬ X 140 ((14 * v1) + v2) ≤ 0) (b1 : ((14 * v1) + v3) < 168) (c1 : X 140 ((14 * v1) + v3) = 0) (b2 : ((10 + (8 * v2)) + 3) < 2156) (b3 : ((10 + (8 * v3)) + 3) < 2156) (c2 : X 134 ((10 + (8 * v2)) + 3) = X 134 ((10 + (8 * v3)) + 3)) (b4 : ((10 + (8 * v3)) + 0) < 2156) (b5 : ((448 + (15 * v1)) + 0) < 2156) (c3 : (X 134 ((10 + (8 * v3)) + 0)) &&& (X 134 ((448 + (15 * v1)) + 0)) = 0) (hp : post (some (.int 1)) X) : Ev g mX12_maySwap d n n post n 0 [some (.ref 133), some (.int (nI v1)), some (.int (nI v2)), some (.int (nI v3)), none, none] [] X := by
  refine ev_aload_n dX12_maySwap_0 rfl ?_
  refine ev_getS (q := 140) dX12_maySwap_1 fo_12_28 (by omega) lo_133 rfl (sh_133_9 hX (by omega)) (by decide) ?_
  refine ev_bipush (v := 14) dX12_maySwap_4 kb_14 ?_
  refine ev_iload_n dX12_maySwap_6 rfl ?_
  refine ev_imul dX12_maySwap_7 ?_
  refine ev_iload_n dX12_maySwap_8 rfl ?_
  refine ev_iadd dX12_maySwap_9 ?_
  refine ev_iald dX12_maySwap_10 (by omega) ly_140 (by show (nI 14 * nI v1) + nI v2 = nI ((14 * v1) + v2); simp only [pk_mul, nI_add]) b0 ?_
  refine ev_ifF (tgt := 32) dX12_maySwap_11 (by decide) c0 ?_
  refine ev_aload_n dX12_maySwap_14 rfl ?_
  refine ev_getS (q := 140) dX12_maySwap_15 fo_12_28 (by omega) lo_133 rfl (sh_133_9 hX (by omega)) (by decide) ?_
  refine ev_bipush (v := 14) dX12_maySwap_18 kb_14 ?_
  refine ev_iload_n dX12_maySwap_20 rfl ?_
  refine ev_imul dX12_maySwap_21 ?_
  refine ev_iload_n dX12_maySwap_22 rfl ?_
  refine ev_iadd dX12_maySwap_23 ?_
  refine ev_iald dX12_maySwap_24 (by omega) ly_140 (by show (nI 14 * nI v1) + nI v3 = nI ((14 * v1) + v3); simp only [pk_mul, nI_add]) b1 ?_
  refine ev_ifF (tgt := 32) dX12_maySwap_25 (by decide) c1 ?_
  refine ev_iconst (v := 1) dX12_maySwap_28 ki_1 ?_
  refine ev_goto (tgt := 33) dX12_maySwap_29 (by decide) ?_
  refine ev_istore dX12_maySwap_33 (by decide) ?_
  refine ev_aload_n dX12_maySwap_35 rfl ?_
  refine ev_getS (q := 134) dX12_maySwap_36 fo_12_9 (by omega) lo_133 rfl (sh_133_0 hX (by omega)) (by decide) ?_
  refine ev_iload_n dX12_maySwap_39 rfl ?_
  refine ev_iconst (v := 3) dX12_maySwap_40 ki_3 ?_
  refine e_Si (as := [.int (nI v2), .int 3]) (rest := [.ref 134]) dX12_maySwap_41 vX12_ofPart ml_12_59 stX12_ofPart npX12_ofPart (by decide) rfl (Nat.le_of_ble_eq_true rfl) (by omega) (c_X12_ofPart (d := d - 1) (by omega) (by omega) hX ) ?_
  refine ev_iald dX12_maySwap_44 (by omega) ly_134 (by show (nI 10 + (nI 8 * nI v2)) + nI 3 = nI ((10 + (8 * v2)) + 3); simp only [pk_mul, nI_add]) b2 ?_
  refine ev_aload_n dX12_maySwap_45 rfl ?_
  refine ev_getS (q := 134) dX12_maySwap_46 fo_12_9 (by omega) lo_133 rfl (sh_133_0 hX (by omega)) (by decide) ?_
  refine ev_iload_n dX12_maySwap_49 rfl ?_
  refine ev_iconst (v := 3) dX12_maySwap_50 ki_3 ?_
  refine e_Si (as := [.int (nI v3), .int 3]) (rest := [.ref 134, .int (X 134 ((10 + (8 * v2)) + 3))]) dX12_maySwap_51 vX12_ofPart ml_12_59 stX12_ofPart npX12_ofPart (by decide) rfl (Nat.le_of_ble_eq_true rfl) (by omega) (c_X12_ofPart (d := d - 1) (by omega) (by omega) hX ) ?_
  refine ev_iald dX12_maySwap_54 (by omega) ly_134 (by show (nI 10 + (nI 8 * nI v3)) + nI 3 = nI ((10 + (8 * v3)) + 3); simp only [pk_mul, nI_add]) b3 ?_
  refine ev_icmpF (tgt := 62) dX12_maySwap_55 (by decide) c2 ?_
  refine ev_iconst (v := 1) dX12_maySwap_58 ki_1 ?_
  refine ev_goto (tgt := 63) dX12_maySwap_59 (by decide) ?_
  refine ev_istore dX12_maySwap_63 (by decide) ?_
  refine ev_iload dX12_maySwap_65 rfl ?_
  refine ev_ifF (tgt := 103) dX12_maySwap_67 (by decide) (by show ¬ (1 : Int32) = 0; decide) ?_
  refine ev_iload dX12_maySwap_70 rfl ?_
  refine ev_ifF (tgt := 103) dX12_maySwap_72 (by decide) (by show ¬ (1 : Int32) = 0; decide) ?_
  refine ev_aload_n dX12_maySwap_75 rfl ?_
  refine ev_getS (q := 134) dX12_maySwap_76 fo_12_9 (by omega) lo_133 rfl (sh_133_0 hX (by omega)) (by decide) ?_
  refine ev_iload_n dX12_maySwap_79 rfl ?_
  refine ev_iconst (v := 0) dX12_maySwap_80 ki_0 ?_
  refine e_Si (as := [.int (nI v3), .int 0]) (rest := [.ref 134]) dX12_maySwap_81 vX12_ofPart ml_12_59 stX12_ofPart npX12_ofPart (by decide) rfl (Nat.le_of_ble_eq_true rfl) (by omega) (c_X12_ofPart (d := d - 1) (by omega) (by omega) hX ) ?_
  refine ev_iald dX12_maySwap_84 (by omega) ly_134 (by show (nI 10 + (nI 8 * nI v3)) + nI 0 = nI ((10 + (8 * v3)) + 0); simp only [pk_mul, nI_add]) b4 ?_
  refine ev_aload_n dX12_maySwap_85 rfl ?_
  refine ev_getS (q := 134) dX12_maySwap_86 fo_12_9 (by omega) lo_133 rfl (sh_133_0 hX (by omega)) (by decide) ?_
  refine ev_iload_n dX12_maySwap_89 rfl ?_
  refine ev_iconst (v := 0) dX12_maySwap_90 ki_0 ?_
  refine e_Si (as := [.int (nI v1), .int 0]) (rest := [.ref 134, .int (X 134 ((10 + (8 * v3)) + 0))]) dX12_maySwap_91 vX12_ofFamily ml_12_99 stX12_ofFamily npX12_ofFamily (by decide) rfl (Nat.le_of_ble_eq_true rfl) (by omega) (c_X12_ofFamily (d := d - 1) (by omega) (by omega) hX ) ?_
  refine ev_iald dX12_maySwap_94 (by omega) ly_134 (by show (nI 448 + (nI 15 * nI v1)) + nI 0 = nI ((448 + (15 * v1)) + 0); simp only [pk_mul, nI_add]) b5 ?_
  refine ev_iand dX12_maySwap_95 ?_
  refine ev_ifF (tgt := 103) dX12_maySwap_96 (by decide) c3 ?_
  refine ev_iconst (v := 1) dX12_maySwap_99 ki_1 ?_
  refine ev_goto (tgt := 104) dX12_maySwap_100 (by decide) ?_
  exact ev_iret dX12_maySwap_104 rfl (by decide) hp
theorem bX12_maySwap_0_1 {g : GG} {d n : Nat} {post : Option Value → LX → Prop} {X : LX} (hd : 1 ≤ d) (hn : 146 ≤ n) (hX : Sh n X) {v1 : Nat} {v2 : Nat} {v3 : Nat} (b0 : ((14 * v1) + v2) < 168) (c0 : ¬ X 140 ((14 * v1) + v2) ≤ 0) (b1 : ((14 * v1) + v3) < 168) (c1 : X 140 ((14 * v1) + v3) = 0) (b2 : ((10 + (8 * v2)) + 3) < 2156) (b3 : ((10 + (8 * v3)) + 3) < 2156) (c2 : X 134 ((10 + (8 * v2)) + 3) = X 134 ((10 + (8 * v3)) + 3)) (b4 : ((10 + (8 * v3)) + 0) < 2156) (b5 : ((448 + (15 * v1)) + 0) < 2156) (c3 : ¬ (X 134 ((10 + (8 * v3)) + 0)) &&& (X 134 ((448 + (15 * v1)) + 0)) = 0) (hp : post (some (.int 0)) X) : Ev g mX12_maySwap d n n post n 0 [some (.ref 133), some (.int (nI v1)), some (.int (nI v2)), some (.int (nI v3)), none, none] [] X := by
  refine ev_aload_n dX12_maySwap_0 rfl ?_
  refine ev_getS (q := 140) dX12_maySwap_1 fo_12_28 (by omega) lo_133 rfl (sh_133_9 hX (by omega)) (by decide) ?_
  refine ev_bipush (v := 14) dX12_maySwap_4 kb_14 ?_
  refine ev_iload_n dX12_maySwap_6 rfl ?_
  refine ev_imul dX12_maySwap_7 ?_
  refine ev_iload_n dX12_maySwap_8 rfl ?_
  refine ev_iadd dX12_maySwap_9 ?_
  refine ev_iald dX12_maySwap_10 (by omega) ly_140 (by show (nI 14 * nI v1) + nI v2 = nI ((14 * v1) + v2); simp only [pk_mul, nI_add]) b0 ?_
  refine ev_ifF (tgt := 32) dX12_maySwap_11 (by decide) c0 ?_
  refine ev_aload_n dX12_maySwap_14 rfl ?_
  refine ev_getS (q := 140) dX12_maySwap_15 fo_12_28 (by omega) lo_133 rfl (sh_133_9 hX (by omega)) (by decide) ?_
  refine ev_bipush (v := 14) dX12_maySwap_18 kb_14 ?_
  refine ev_iload_n dX12_maySwap_20 rfl ?_
  refine ev_imul dX12_maySwap_21 ?_
  refine ev_iload_n dX12_maySwap_22 rfl ?_
  refine ev_iadd dX12_maySwap_23 ?_
  refine ev_iald dX12_maySwap_24 (by omega) ly_140 (by show (nI 14 * nI v1) + nI v3 = nI ((14 * v1) + v3); simp only [pk_mul, nI_add]) b1 ?_
  refine ev_ifF (tgt := 32) dX12_maySwap_25 (by decide) c1 ?_
  refine ev_iconst (v := 1) dX12_maySwap_28 ki_1 ?_
  refine ev_goto (tgt := 33) dX12_maySwap_29 (by decide) ?_
  refine ev_istore dX12_maySwap_33 (by decide) ?_
  refine ev_aload_n dX12_maySwap_35 rfl ?_
  refine ev_getS (q := 134) dX12_maySwap_36 fo_12_9 (by omega) lo_133 rfl (sh_133_0 hX (by omega)) (by decide) ?_
  refine ev_iload_n dX12_maySwap_39 rfl ?_
  refine ev_iconst (v := 3) dX12_maySwap_40 ki_3 ?_
  refine e_Si (as := [.int (nI v2), .int 3]) (rest := [.ref 134]) dX12_maySwap_41 vX12_ofPart ml_12_59 stX12_ofPart npX12_ofPart (by decide) rfl (Nat.le_of_ble_eq_true rfl) (by omega) (c_X12_ofPart (d := d - 1) (by omega) (by omega) hX ) ?_
  refine ev_iald dX12_maySwap_44 (by omega) ly_134 (by show (nI 10 + (nI 8 * nI v2)) + nI 3 = nI ((10 + (8 * v2)) + 3); simp only [pk_mul, nI_add]) b2 ?_
  refine ev_aload_n dX12_maySwap_45 rfl ?_
  refine ev_getS (q := 134) dX12_maySwap_46 fo_12_9 (by omega) lo_133 rfl (sh_133_0 hX (by omega)) (by decide) ?_
  refine ev_iload_n dX12_maySwap_49 rfl ?_
  refine ev_iconst (v := 3) dX12_maySwap_50 ki_3 ?_
  refine e_Si (as := [.int (nI v3), .int 3]) (rest := [.ref 134, .int (X 134 ((10 + (8 * v2)) + 3))]) dX12_maySwap_51 vX12_ofPart ml_12_59 stX12_ofPart npX12_ofPart (by decide) rfl (Nat.le_of_ble_eq_true rfl) (by omega) (c_X12_ofPart (d := d - 1) (by omega) (by omega) hX ) ?_
  refine ev_iald dX12_maySwap_54 (by omega) ly_134 (by show (nI 10 + (nI 8 * nI v3)) + nI 3 = nI ((10 + (8 * v3)) + 3); simp only [pk_mul, nI_add]) b3 ?_
  refine ev_icmpF (tgt := 62) dX12_maySwap_55 (by decide) c2 ?_
  refine ev_iconst (v := 1) dX12_maySwap_58 ki_1 ?_
  refine ev_goto (tgt := 63) dX12_maySwap_59 (by decide) ?_
  refine ev_istore dX12_maySwap_63 (by decide) ?_
  refine ev_iload dX12_maySwap_65 rfl ?_
  refine ev_ifF (tgt := 103) dX12_maySwap_67 (by decide) (by show ¬ (1 : Int32) = 0; decide) ?_
  refine ev_iload dX12_maySwap_70 rfl ?_
  refine ev_ifF (tgt := 103) dX12_maySwap_72 (by decide) (by show ¬ (1 : Int32) = 0; decide) ?_
  refine ev_aload_n dX12_maySwap_75 rfl ?_
  refine ev_getS (q := 134) dX12_maySwap_76 fo_12_9 (by omega) lo_133 rfl (sh_133_0 hX (by omega)) (by decide) ?_
  refine ev_iload_n dX12_maySwap_79 rfl ?_
  refine ev_iconst (v := 0) dX12_maySwap_80 ki_0 ?_
  refine e_Si (as := [.int (nI v3), .int 0]) (rest := [.ref 134]) dX12_maySwap_81 vX12_ofPart ml_12_59 stX12_ofPart npX12_ofPart (by decide) rfl (Nat.le_of_ble_eq_true rfl) (by omega) (c_X12_ofPart (d := d - 1) (by omega) (by omega) hX ) ?_
  refine ev_iald dX12_maySwap_84 (by omega) ly_134 (by show (nI 10 + (nI 8 * nI v3)) + nI 0 = nI ((10 + (8 * v3)) + 0); simp only [pk_mul, nI_add]) b4 ?_
  refine ev_aload_n dX12_maySwap_85 rfl ?_
  refine ev_getS (q := 134) dX12_maySwap_86 fo_12_9 (by omega) lo_133 rfl (sh_133_0 hX (by omega)) (by decide) ?_
  refine ev_iload_n dX12_maySwap_89 rfl ?_
  refine ev_iconst (v := 0) dX12_maySwap_90 ki_0 ?_
  refine e_Si (as := [.int (nI v1), .int 0]) (rest := [.ref 134, .int (X 134 ((10 + (8 * v3)) + 0))]) dX12_maySwap_91 vX12_ofFamily ml_12_99 stX12_ofFamily npX12_ofFamily (by decide) rfl (Nat.le_of_ble_eq_true rfl) (by omega) (c_X12_ofFamily (d := d - 1) (by omega) (by omega) hX ) ?_
  refine ev_iald dX12_maySwap_94 (by omega) ly_134 (by show (nI 448 + (nI 15 * nI v1)) + nI 0 = nI ((448 + (15 * v1)) + 0); simp only [pk_mul, nI_add]) b5 ?_
  refine ev_iand dX12_maySwap_95 ?_
  refine ev_ifT (tgt := 103) dX12_maySwap_96 (by decide) c3 ?_
  refine ev_iconst (v := 0) dX12_maySwap_103 ki_0 ?_
  exact ev_iret dX12_maySwap_104 rfl (by decide) hp
theorem bX12_maySwap_0_2 {g : GG} {d n : Nat} {post : Option Value → LX → Prop} {X : LX} (hd : 1 ≤ d) (hn : 146 ≤ n) (hX : Sh n X) {v1 : Nat} {v2 : Nat} {v3 : Nat} (b0 : ((14 * v1) + v2) < 168) (c0 : ¬ X 140 ((14 * v1) + v2) ≤ 0) (b1 : ((14 * v1) + v3) < 168) (c1 : X 140 ((14 * v1) + v3) = 0) (b2 : ((10 + (8 * v2)) + 3) < 2156) (b3 : ((10 + (8 * v3)) + 3) < 2156) (c2 : ¬ X 134 ((10 + (8 * v2)) + 3) = X 134 ((10 + (8 * v3)) + 3)) (hp : post (some (.int 0)) X) : Ev g mX12_maySwap d n n post n 0 [some (.ref 133), some (.int (nI v1)), some (.int (nI v2)), some (.int (nI v3)), none, none] [] X := by
  refine ev_aload_n dX12_maySwap_0 rfl ?_
  refine ev_getS (q := 140) dX12_maySwap_1 fo_12_28 (by omega) lo_133 rfl (sh_133_9 hX (by omega)) (by decide) ?_
  refine ev_bipush (v := 14) dX12_maySwap_4 kb_14 ?_
  refine ev_iload_n dX12_maySwap_6 rfl ?_
  refine ev_imul dX12_maySwap_7 ?_
  refine ev_iload_n dX12_maySwap_8 rfl ?_
  refine ev_iadd dX12_maySwap_9 ?_
  refine ev_iald dX12_maySwap_10 (by omega) ly_140 (by show (nI 14 * nI v1) + nI v2 = nI ((14 * v1) + v2); simp only [pk_mul, nI_add]) b0 ?_
  refine ev_ifF (tgt := 32) dX12_maySwap_11 (by decide) c0 ?_
  refine ev_aload_n dX12_maySwap_14 rfl ?_
  refine ev_getS (q := 140) dX12_maySwap_15 fo_12_28 (by omega) lo_133 rfl (sh_133_9 hX (by omega)) (by decide) ?_
  refine ev_bipush (v := 14) dX12_maySwap_18 kb_14 ?_
  refine ev_iload_n dX12_maySwap_20 rfl ?_
  refine ev_imul dX12_maySwap_21 ?_
  refine ev_iload_n dX12_maySwap_22 rfl ?_
  refine ev_iadd dX12_maySwap_23 ?_
  refine ev_iald dX12_maySwap_24 (by omega) ly_140 (by show (nI 14 * nI v1) + nI v3 = nI ((14 * v1) + v3); simp only [pk_mul, nI_add]) b1 ?_
  refine ev_ifF (tgt := 32) dX12_maySwap_25 (by decide) c1 ?_
  refine ev_iconst (v := 1) dX12_maySwap_28 ki_1 ?_
  refine ev_goto (tgt := 33) dX12_maySwap_29 (by decide) ?_
  refine ev_istore dX12_maySwap_33 (by decide) ?_
  refine ev_aload_n dX12_maySwap_35 rfl ?_
  refine ev_getS (q := 134) dX12_maySwap_36 fo_12_9 (by omega) lo_133 rfl (sh_133_0 hX (by omega)) (by decide) ?_
  refine ev_iload_n dX12_maySwap_39 rfl ?_
  refine ev_iconst (v := 3) dX12_maySwap_40 ki_3 ?_
  refine e_Si (as := [.int (nI v2), .int 3]) (rest := [.ref 134]) dX12_maySwap_41 vX12_ofPart ml_12_59 stX12_ofPart npX12_ofPart (by decide) rfl (Nat.le_of_ble_eq_true rfl) (by omega) (c_X12_ofPart (d := d - 1) (by omega) (by omega) hX ) ?_
  refine ev_iald dX12_maySwap_44 (by omega) ly_134 (by show (nI 10 + (nI 8 * nI v2)) + nI 3 = nI ((10 + (8 * v2)) + 3); simp only [pk_mul, nI_add]) b2 ?_
  refine ev_aload_n dX12_maySwap_45 rfl ?_
  refine ev_getS (q := 134) dX12_maySwap_46 fo_12_9 (by omega) lo_133 rfl (sh_133_0 hX (by omega)) (by decide) ?_
  refine ev_iload_n dX12_maySwap_49 rfl ?_
  refine ev_iconst (v := 3) dX12_maySwap_50 ki_3 ?_
  refine e_Si (as := [.int (nI v3), .int 3]) (rest := [.ref 134, .int (X 134 ((10 + (8 * v2)) + 3))]) dX12_maySwap_51 vX12_ofPart ml_12_59 stX12_ofPart npX12_ofPart (by decide) rfl (Nat.le_of_ble_eq_true rfl) (by omega) (c_X12_ofPart (d := d - 1) (by omega) (by omega) hX ) ?_
  refine ev_iald dX12_maySwap_54 (by omega) ly_134 (by show (nI 10 + (nI 8 * nI v3)) + nI 3 = nI ((10 + (8 * v3)) + 3); simp only [pk_mul, nI_add]) b3 ?_
  refine ev_icmpT (tgt := 62) dX12_maySwap_55 (by decide) c2 ?_
  refine ev_iconst (v := 0) dX12_maySwap_62 ki_0 ?_
  refine ev_istore dX12_maySwap_63 (by decide) ?_
  refine ev_iload dX12_maySwap_65 rfl ?_
  refine ev_ifF (tgt := 103) dX12_maySwap_67 (by decide) (by show ¬ (1 : Int32) = 0; decide) ?_
  refine ev_iload dX12_maySwap_70 rfl ?_
  refine ev_ifT (tgt := 103) dX12_maySwap_72 (by decide) (by show (0 : Int32) = 0; decide) ?_
  refine ev_iconst (v := 0) dX12_maySwap_103 ki_0 ?_
  exact ev_iret dX12_maySwap_104 rfl (by decide) hp
theorem bX12_maySwap_0_3 {g : GG} {d n : Nat} {post : Option Value → LX → Prop} {X : LX} (hd : 1 ≤ d) (hn : 146 ≤ n) (hX : Sh n X) {v1 : Nat} {v2 : Nat} {v3 : Nat} (b0 : ((14 * v1) + v2) < 168) (c0 : ¬ X 140 ((14 * v1) + v2) ≤ 0) (b1 : ((14 * v1) + v3) < 168) (c1 : ¬ X 140 ((14 * v1) + v3) = 0) (b2 : ((10 + (8 * v2)) + 3) < 2156) (b3 : ((10 + (8 * v3)) + 3) < 2156) (c2 : X 134 ((10 + (8 * v2)) + 3) = X 134 ((10 + (8 * v3)) + 3)) (hp : post (some (.int 0)) X) : Ev g mX12_maySwap d n n post n 0 [some (.ref 133), some (.int (nI v1)), some (.int (nI v2)), some (.int (nI v3)), none, none] [] X := by
  refine ev_aload_n dX12_maySwap_0 rfl ?_
  refine ev_getS (q := 140) dX12_maySwap_1 fo_12_28 (by omega) lo_133 rfl (sh_133_9 hX (by omega)) (by decide) ?_
  refine ev_bipush (v := 14) dX12_maySwap_4 kb_14 ?_
  refine ev_iload_n dX12_maySwap_6 rfl ?_
  refine ev_imul dX12_maySwap_7 ?_
  refine ev_iload_n dX12_maySwap_8 rfl ?_
  refine ev_iadd dX12_maySwap_9 ?_
  refine ev_iald dX12_maySwap_10 (by omega) ly_140 (by show (nI 14 * nI v1) + nI v2 = nI ((14 * v1) + v2); simp only [pk_mul, nI_add]) b0 ?_
  refine ev_ifF (tgt := 32) dX12_maySwap_11 (by decide) c0 ?_
  refine ev_aload_n dX12_maySwap_14 rfl ?_
  refine ev_getS (q := 140) dX12_maySwap_15 fo_12_28 (by omega) lo_133 rfl (sh_133_9 hX (by omega)) (by decide) ?_
  refine ev_bipush (v := 14) dX12_maySwap_18 kb_14 ?_
  refine ev_iload_n dX12_maySwap_20 rfl ?_
  refine ev_imul dX12_maySwap_21 ?_
  refine ev_iload_n dX12_maySwap_22 rfl ?_
  refine ev_iadd dX12_maySwap_23 ?_
  refine ev_iald dX12_maySwap_24 (by omega) ly_140 (by show (nI 14 * nI v1) + nI v3 = nI ((14 * v1) + v3); simp only [pk_mul, nI_add]) b1 ?_
  refine ev_ifT (tgt := 32) dX12_maySwap_25 (by decide) c1 ?_
  refine ev_iconst (v := 0) dX12_maySwap_32 ki_0 ?_
  refine ev_istore dX12_maySwap_33 (by decide) ?_
  refine ev_aload_n dX12_maySwap_35 rfl ?_
  refine ev_getS (q := 134) dX12_maySwap_36 fo_12_9 (by omega) lo_133 rfl (sh_133_0 hX (by omega)) (by decide) ?_
  refine ev_iload_n dX12_maySwap_39 rfl ?_
  refine ev_iconst (v := 3) dX12_maySwap_40 ki_3 ?_
  refine e_Si (as := [.int (nI v2), .int 3]) (rest := [.ref 134]) dX12_maySwap_41 vX12_ofPart ml_12_59 stX12_ofPart npX12_ofPart (by decide) rfl (Nat.le_of_ble_eq_true rfl) (by omega) (c_X12_ofPart (d := d - 1) (by omega) (by omega) hX ) ?_
  refine ev_iald dX12_maySwap_44 (by omega) ly_134 (by show (nI 10 + (nI 8 * nI v2)) + nI 3 = nI ((10 + (8 * v2)) + 3); simp only [pk_mul, nI_add]) b2 ?_
  refine ev_aload_n dX12_maySwap_45 rfl ?_
  refine ev_getS (q := 134) dX12_maySwap_46 fo_12_9 (by omega) lo_133 rfl (sh_133_0 hX (by omega)) (by decide) ?_
  refine ev_iload_n dX12_maySwap_49 rfl ?_
  refine ev_iconst (v := 3) dX12_maySwap_50 ki_3 ?_
  refine e_Si (as := [.int (nI v3), .int 3]) (rest := [.ref 134, .int (X 134 ((10 + (8 * v2)) + 3))]) dX12_maySwap_51 vX12_ofPart ml_12_59 stX12_ofPart npX12_ofPart (by decide) rfl (Nat.le_of_ble_eq_true rfl) (by omega) (c_X12_ofPart (d := d - 1) (by omega) (by omega) hX ) ?_
  refine ev_iald dX12_maySwap_54 (by omega) ly_134 (by show (nI 10 + (nI 8 * nI v3)) + nI 3 = nI ((10 + (8 * v3)) + 3); simp only [pk_mul, nI_add]) b3 ?_
  refine ev_icmpF (tgt := 62) dX12_maySwap_55 (by decide) c2 ?_
  refine ev_iconst (v := 1) dX12_maySwap_58 ki_1 ?_
  refine ev_goto (tgt := 63) dX12_maySwap_59 (by decide) ?_
  refine ev_istore dX12_maySwap_63 (by decide) ?_
  refine ev_iload dX12_maySwap_65 rfl ?_
  refine ev_ifT (tgt := 103) dX12_maySwap_67 (by decide) (by show (0 : Int32) = 0; decide) ?_
  refine ev_iconst (v := 0) dX12_maySwap_103 ki_0 ?_
  exact ev_iret dX12_maySwap_104 rfl (by decide) hp
theorem bX12_maySwap_0_4 {g : GG} {d n : Nat} {post : Option Value → LX → Prop} {X : LX} (hd : 1 ≤ d) (hn : 146 ≤ n) (hX : Sh n X) {v1 : Nat} {v2 : Nat} {v3 : Nat} (b0 : ((14 * v1) + v2) < 168) (c0 : ¬ X 140 ((14 * v1) + v2) ≤ 0) (b1 : ((14 * v1) + v3) < 168) (c1 : ¬ X 140 ((14 * v1) + v3) = 0) (b2 : ((10 + (8 * v2)) + 3) < 2156) (b3 : ((10 + (8 * v3)) + 3) < 2156) (c2 : ¬ X 134 ((10 + (8 * v2)) + 3) = X 134 ((10 + (8 * v3)) + 3)) (hp : post (some (.int 0)) X) : Ev g mX12_maySwap d n n post n 0 [some (.ref 133), some (.int (nI v1)), some (.int (nI v2)), some (.int (nI v3)), none, none] [] X := by
  refine ev_aload_n dX12_maySwap_0 rfl ?_
  refine ev_getS (q := 140) dX12_maySwap_1 fo_12_28 (by omega) lo_133 rfl (sh_133_9 hX (by omega)) (by decide) ?_
  refine ev_bipush (v := 14) dX12_maySwap_4 kb_14 ?_
  refine ev_iload_n dX12_maySwap_6 rfl ?_
  refine ev_imul dX12_maySwap_7 ?_
  refine ev_iload_n dX12_maySwap_8 rfl ?_
  refine ev_iadd dX12_maySwap_9 ?_
  refine ev_iald dX12_maySwap_10 (by omega) ly_140 (by show (nI 14 * nI v1) + nI v2 = nI ((14 * v1) + v2); simp only [pk_mul, nI_add]) b0 ?_
  refine ev_ifF (tgt := 32) dX12_maySwap_11 (by decide) c0 ?_
  refine ev_aload_n dX12_maySwap_14 rfl ?_
  refine ev_getS (q := 140) dX12_maySwap_15 fo_12_28 (by omega) lo_133 rfl (sh_133_9 hX (by omega)) (by decide) ?_
  refine ev_bipush (v := 14) dX12_maySwap_18 kb_14 ?_
  refine ev_iload_n dX12_maySwap_20 rfl ?_
  refine ev_imul dX12_maySwap_21 ?_
  refine ev_iload_n dX12_maySwap_22 rfl ?_
  refine ev_iadd dX12_maySwap_23 ?_
  refine ev_iald dX12_maySwap_24 (by omega) ly_140 (by show (nI 14 * nI v1) + nI v3 = nI ((14 * v1) + v3); simp only [pk_mul, nI_add]) b1 ?_
  refine ev_ifT (tgt := 32) dX12_maySwap_25 (by decide) c1 ?_
  refine ev_iconst (v := 0) dX12_maySwap_32 ki_0 ?_
  refine ev_istore dX12_maySwap_33 (by decide) ?_
  refine ev_aload_n dX12_maySwap_35 rfl ?_
  refine ev_getS (q := 134) dX12_maySwap_36 fo_12_9 (by omega) lo_133 rfl (sh_133_0 hX (by omega)) (by decide) ?_
  refine ev_iload_n dX12_maySwap_39 rfl ?_
  refine ev_iconst (v := 3) dX12_maySwap_40 ki_3 ?_
  refine e_Si (as := [.int (nI v2), .int 3]) (rest := [.ref 134]) dX12_maySwap_41 vX12_ofPart ml_12_59 stX12_ofPart npX12_ofPart (by decide) rfl (Nat.le_of_ble_eq_true rfl) (by omega) (c_X12_ofPart (d := d - 1) (by omega) (by omega) hX ) ?_
  refine ev_iald dX12_maySwap_44 (by omega) ly_134 (by show (nI 10 + (nI 8 * nI v2)) + nI 3 = nI ((10 + (8 * v2)) + 3); simp only [pk_mul, nI_add]) b2 ?_
  refine ev_aload_n dX12_maySwap_45 rfl ?_
  refine ev_getS (q := 134) dX12_maySwap_46 fo_12_9 (by omega) lo_133 rfl (sh_133_0 hX (by omega)) (by decide) ?_
  refine ev_iload_n dX12_maySwap_49 rfl ?_
  refine ev_iconst (v := 3) dX12_maySwap_50 ki_3 ?_
  refine e_Si (as := [.int (nI v3), .int 3]) (rest := [.ref 134, .int (X 134 ((10 + (8 * v2)) + 3))]) dX12_maySwap_51 vX12_ofPart ml_12_59 stX12_ofPart npX12_ofPart (by decide) rfl (Nat.le_of_ble_eq_true rfl) (by omega) (c_X12_ofPart (d := d - 1) (by omega) (by omega) hX ) ?_
  refine ev_iald dX12_maySwap_54 (by omega) ly_134 (by show (nI 10 + (nI 8 * nI v3)) + nI 3 = nI ((10 + (8 * v3)) + 3); simp only [pk_mul, nI_add]) b3 ?_
  refine ev_icmpT (tgt := 62) dX12_maySwap_55 (by decide) c2 ?_
  refine ev_iconst (v := 0) dX12_maySwap_62 ki_0 ?_
  refine ev_istore dX12_maySwap_63 (by decide) ?_
  refine ev_iload dX12_maySwap_65 rfl ?_
  refine ev_ifT (tgt := 103) dX12_maySwap_67 (by decide) (by show (0 : Int32) = 0; decide) ?_
  refine ev_iconst (v := 0) dX12_maySwap_103 ki_0 ?_
  exact ev_iret dX12_maySwap_104 rfl (by decide) hp
theorem bX12_maySwap_0_5 {g : GG} {d n : Nat} {post : Option Value → LX → Prop} {X : LX} (hd : 1 ≤ d) (hn : 146 ≤ n) (hX : Sh n X) {v1 : Nat} {v2 : Nat} {v3 : Nat} (b0 : ((14 * v1) + v2) < 168) (c0 : X 140 ((14 * v1) + v2) ≤ 0) (b1 : ((10 + (8 * v2)) + 3) < 2156) (b2 : ((10 + (8 * v3)) + 3) < 2156) (c1 : X 134 ((10 + (8 * v2)) + 3) = X 134 ((10 + (8 * v3)) + 3)) (hp : post (some (.int 0)) X) : Ev g mX12_maySwap d n n post n 0 [some (.ref 133), some (.int (nI v1)), some (.int (nI v2)), some (.int (nI v3)), none, none] [] X := by
  refine ev_aload_n dX12_maySwap_0 rfl ?_
  refine ev_getS (q := 140) dX12_maySwap_1 fo_12_28 (by omega) lo_133 rfl (sh_133_9 hX (by omega)) (by decide) ?_
  refine ev_bipush (v := 14) dX12_maySwap_4 kb_14 ?_
  refine ev_iload_n dX12_maySwap_6 rfl ?_
  refine ev_imul dX12_maySwap_7 ?_
  refine ev_iload_n dX12_maySwap_8 rfl ?_
  refine ev_iadd dX12_maySwap_9 ?_
  refine ev_iald dX12_maySwap_10 (by omega) ly_140 (by show (nI 14 * nI v1) + nI v2 = nI ((14 * v1) + v2); simp only [pk_mul, nI_add]) b0 ?_
  refine ev_ifT (tgt := 32) dX12_maySwap_11 (by decide) c0 ?_
  refine ev_iconst (v := 0) dX12_maySwap_32 ki_0 ?_
  refine ev_istore dX12_maySwap_33 (by decide) ?_
  refine ev_aload_n dX12_maySwap_35 rfl ?_
  refine ev_getS (q := 134) dX12_maySwap_36 fo_12_9 (by omega) lo_133 rfl (sh_133_0 hX (by omega)) (by decide) ?_
  refine ev_iload_n dX12_maySwap_39 rfl ?_
  refine ev_iconst (v := 3) dX12_maySwap_40 ki_3 ?_
  refine e_Si (as := [.int (nI v2), .int 3]) (rest := [.ref 134]) dX12_maySwap_41 vX12_ofPart ml_12_59 stX12_ofPart npX12_ofPart (by decide) rfl (Nat.le_of_ble_eq_true rfl) (by omega) (c_X12_ofPart (d := d - 1) (by omega) (by omega) hX ) ?_
  refine ev_iald dX12_maySwap_44 (by omega) ly_134 (by show (nI 10 + (nI 8 * nI v2)) + nI 3 = nI ((10 + (8 * v2)) + 3); simp only [pk_mul, nI_add]) b1 ?_
  refine ev_aload_n dX12_maySwap_45 rfl ?_
  refine ev_getS (q := 134) dX12_maySwap_46 fo_12_9 (by omega) lo_133 rfl (sh_133_0 hX (by omega)) (by decide) ?_
  refine ev_iload_n dX12_maySwap_49 rfl ?_
  refine ev_iconst (v := 3) dX12_maySwap_50 ki_3 ?_
  refine e_Si (as := [.int (nI v3), .int 3]) (rest := [.ref 134, .int (X 134 ((10 + (8 * v2)) + 3))]) dX12_maySwap_51 vX12_ofPart ml_12_59 stX12_ofPart npX12_ofPart (by decide) rfl (Nat.le_of_ble_eq_true rfl) (by omega) (c_X12_ofPart (d := d - 1) (by omega) (by omega) hX ) ?_
  refine ev_iald dX12_maySwap_54 (by omega) ly_134 (by show (nI 10 + (nI 8 * nI v3)) + nI 3 = nI ((10 + (8 * v3)) + 3); simp only [pk_mul, nI_add]) b2 ?_
  refine ev_icmpF (tgt := 62) dX12_maySwap_55 (by decide) c1 ?_
  refine ev_iconst (v := 1) dX12_maySwap_58 ki_1 ?_
  refine ev_goto (tgt := 63) dX12_maySwap_59 (by decide) ?_
  refine ev_istore dX12_maySwap_63 (by decide) ?_
  refine ev_iload dX12_maySwap_65 rfl ?_
  refine ev_ifT (tgt := 103) dX12_maySwap_67 (by decide) (by show (0 : Int32) = 0; decide) ?_
  refine ev_iconst (v := 0) dX12_maySwap_103 ki_0 ?_
  exact ev_iret dX12_maySwap_104 rfl (by decide) hp
theorem bX12_maySwap_0_6 {g : GG} {d n : Nat} {post : Option Value → LX → Prop} {X : LX} (hd : 1 ≤ d) (hn : 146 ≤ n) (hX : Sh n X) {v1 : Nat} {v2 : Nat} {v3 : Nat} (b0 : ((14 * v1) + v2) < 168) (c0 : X 140 ((14 * v1) + v2) ≤ 0) (b1 : ((10 + (8 * v2)) + 3) < 2156) (b2 : ((10 + (8 * v3)) + 3) < 2156) (c1 : ¬ X 134 ((10 + (8 * v2)) + 3) = X 134 ((10 + (8 * v3)) + 3)) (hp : post (some (.int 0)) X) : Ev g mX12_maySwap d n n post n 0 [some (.ref 133), some (.int (nI v1)), some (.int (nI v2)), some (.int (nI v3)), none, none] [] X := by
  refine ev_aload_n dX12_maySwap_0 rfl ?_
  refine ev_getS (q := 140) dX12_maySwap_1 fo_12_28 (by omega) lo_133 rfl (sh_133_9 hX (by omega)) (by decide) ?_
  refine ev_bipush (v := 14) dX12_maySwap_4 kb_14 ?_
  refine ev_iload_n dX12_maySwap_6 rfl ?_
  refine ev_imul dX12_maySwap_7 ?_
  refine ev_iload_n dX12_maySwap_8 rfl ?_
  refine ev_iadd dX12_maySwap_9 ?_
  refine ev_iald dX12_maySwap_10 (by omega) ly_140 (by show (nI 14 * nI v1) + nI v2 = nI ((14 * v1) + v2); simp only [pk_mul, nI_add]) b0 ?_
  refine ev_ifT (tgt := 32) dX12_maySwap_11 (by decide) c0 ?_
  refine ev_iconst (v := 0) dX12_maySwap_32 ki_0 ?_
  refine ev_istore dX12_maySwap_33 (by decide) ?_
  refine ev_aload_n dX12_maySwap_35 rfl ?_
  refine ev_getS (q := 134) dX12_maySwap_36 fo_12_9 (by omega) lo_133 rfl (sh_133_0 hX (by omega)) (by decide) ?_
  refine ev_iload_n dX12_maySwap_39 rfl ?_
  refine ev_iconst (v := 3) dX12_maySwap_40 ki_3 ?_
  refine e_Si (as := [.int (nI v2), .int 3]) (rest := [.ref 134]) dX12_maySwap_41 vX12_ofPart ml_12_59 stX12_ofPart npX12_ofPart (by decide) rfl (Nat.le_of_ble_eq_true rfl) (by omega) (c_X12_ofPart (d := d - 1) (by omega) (by omega) hX ) ?_
  refine ev_iald dX12_maySwap_44 (by omega) ly_134 (by show (nI 10 + (nI 8 * nI v2)) + nI 3 = nI ((10 + (8 * v2)) + 3); simp only [pk_mul, nI_add]) b1 ?_
  refine ev_aload_n dX12_maySwap_45 rfl ?_
  refine ev_getS (q := 134) dX12_maySwap_46 fo_12_9 (by omega) lo_133 rfl (sh_133_0 hX (by omega)) (by decide) ?_
  refine ev_iload_n dX12_maySwap_49 rfl ?_
  refine ev_iconst (v := 3) dX12_maySwap_50 ki_3 ?_
  refine e_Si (as := [.int (nI v3), .int 3]) (rest := [.ref 134, .int (X 134 ((10 + (8 * v2)) + 3))]) dX12_maySwap_51 vX12_ofPart ml_12_59 stX12_ofPart npX12_ofPart (by decide) rfl (Nat.le_of_ble_eq_true rfl) (by omega) (c_X12_ofPart (d := d - 1) (by omega) (by omega) hX ) ?_
  refine ev_iald dX12_maySwap_54 (by omega) ly_134 (by show (nI 10 + (nI 8 * nI v3)) + nI 3 = nI ((10 + (8 * v3)) + 3); simp only [pk_mul, nI_add]) b2 ?_
  refine ev_icmpT (tgt := 62) dX12_maySwap_55 (by decide) c1 ?_
  refine ev_iconst (v := 0) dX12_maySwap_62 ki_0 ?_
  refine ev_istore dX12_maySwap_63 (by decide) ?_
  refine ev_iload dX12_maySwap_65 rfl ?_
  refine ev_ifT (tgt := 103) dX12_maySwap_67 (by decide) (by show (0 : Int32) = 0; decide) ?_
  refine ev_iconst (v := 0) dX12_maySwap_103 ki_0 ?_
  exact ev_iret dX12_maySwap_104 rfl (by decide) hp
theorem bX12_trySwap_0_0 {g : GG} {d n : Nat} {post : Option Value → LX → Prop} {X : LX} (hn : 146 ≤ n) (hX : Sh n X) {v1 : Int32} {v2 : Int32} {v3 : Int32} {v4 : Int32} {v5 : Int32} (c0 : X 133 21 = 0) (hp : post none (lx_up X 133 22 1)) : Ev g mX12_trySwap d n n post n 0 [some (.ref 133), some (.int v1), some (.int v2), some (.int v3), some (.int v4), some (.int v5), none] [] X := by
  refine ev_aload_n dX12_trySwap_0 rfl ?_
  refine ev_getI dX12_trySwap_1 fo_12_253 (by omega) lo_133 rfl ?_
  refine ev_ifF (tgt := 13) dX12_trySwap_4 (by decide) c0 ?_
  refine ev_aload_n dX12_trySwap_7 rfl ?_
  refine ev_iconst (v := 1) dX12_trySwap_8 ki_1 ?_
  refine ev_putZ dX12_trySwap_9 fo_12_250 (by omega) lo_133 rfl rfl rfl (by decide) ?_
  have hX1 : Sh _ (lx_up X 133 22 1) := Sh.upF hX (by rw [lo_133]; decide) (by decide)
  exact ev_ret dX12_trySwap_12 rfl hp
theorem bX12_trySwap_0_1 {g : GG} {d n : Nat} {post : Option Value → LX → Prop} {X : LX} (hn : 146 ≤ n) (hX : Sh n X) {v1 : Nat} {v2 : Nat} {v3 : Nat} {v4 : Int32} {v5 : Int32} (c0 : ¬ X 133 21 = 0) (b0 : ((14 * v1) + v2) < 168) (b1 : ((122 + (14 * v2)) + v3) < 2156) (k : Ev g mX12_trySwap d n n post n 58 [some (.ref 133), some (.int (nI v1)), some (.int (nI v2)), some (.int (nI v3)), some (.int v4), some (.int v5), some (.int (((X 140 ((14 * v1) + v2)) * (X 134 ((122 + (14 * v2)) + v3))) / 100))] [.int (nI v3), .int (nI v2), .int (nI v1), .ref 133] (lx_up X 133 21 ((X 133 21) - 1))) : Ev g mX12_trySwap d n n post n 0 [some (.ref 133), some (.int (nI v1)), some (.int (nI v2)), some (.int (nI v3)), some (.int v4), some (.int v5), none] [] X := by
  refine ev_aload_n dX12_trySwap_0 rfl ?_
  refine ev_getI dX12_trySwap_1 fo_12_253 (by omega) lo_133 rfl ?_
  refine ev_ifT (tgt := 13) dX12_trySwap_4 (by decide) c0 ?_
  refine ev_aload_n dX12_trySwap_13 rfl ?_
  refine ev_dup dX12_trySwap_14 rfl ?_
  refine ev_getI dX12_trySwap_15 fo_12_253 (by omega) lo_133 rfl ?_
  refine ev_iconst (v := 1) dX12_trySwap_18 ki_1 ?_
  refine ev_isub dX12_trySwap_19 ?_
  refine ev_putI dX12_trySwap_20 fo_12_253 (by omega) lo_133 rfl rfl rfl ?_
  have hX1 : Sh _ (lx_up X 133 21 ((X 133 21) - 1)) := Sh.upF hX (by rw [lo_133]; decide) (by decide)
  refine ev_aload_n dX12_trySwap_23 rfl ?_
  refine ev_getS (q := 140) dX12_trySwap_24 fo_12_28 (by omega) lo_133 rfl (sh_133_9 hX1 (by omega)) (by decide) ?_
  refine ev_bipush (v := 14) dX12_trySwap_27 kb_14 ?_
  refine ev_iload_n dX12_trySwap_29 rfl ?_
  refine ev_imul dX12_trySwap_30 ?_
  refine ev_iload_n dX12_trySwap_31 rfl ?_
  refine ev_iadd dX12_trySwap_32 ?_
  refine ev_iald dX12_trySwap_33 (by omega) ly_140 (by show (nI 14 * nI v1) + nI v2 = nI ((14 * v1) + v2); simp only [pk_mul, nI_add]) b0 ?_
  refine ev_aload_n dX12_trySwap_34 rfl ?_
  refine ev_getS (q := 134) dX12_trySwap_35 fo_12_9 (by omega) lo_133 rfl (sh_133_0 hX1 (by omega)) (by decide) ?_
  refine ev_bipush (v := 122) dX12_trySwap_38 kb_122 ?_
  refine ev_bipush (v := 14) dX12_trySwap_40 kb_14 ?_
  refine ev_iload_n dX12_trySwap_42 rfl ?_
  refine ev_imul dX12_trySwap_43 ?_
  refine ev_iadd dX12_trySwap_44 ?_
  refine ev_iload_n dX12_trySwap_45 rfl ?_
  refine ev_iadd dX12_trySwap_46 ?_
  refine ev_iald dX12_trySwap_47 (by omega) ly_134 (by show (nI 122 + (nI 14 * nI v2)) + nI v3 = nI ((122 + (14 * v2)) + v3); simp only [pk_mul, nI_add]) b1 ?_
  refine ev_imul dX12_trySwap_48 ?_
  refine ev_bipush (v := 100) dX12_trySwap_49 kb_100 ?_
  refine ev_idiv dX12_trySwap_51 (by decide) ?_
  refine ev_istore dX12_trySwap_52 (by decide) ?_
  refine ev_aload_n dX12_trySwap_54 rfl ?_
  refine ev_iload_n dX12_trySwap_55 rfl ?_
  refine ev_iload_n dX12_trySwap_56 rfl ?_
  refine ev_iload_n dX12_trySwap_57 rfl ?_
  exact k
theorem bX12_trySwap_61_0 {g : GG} {d n : Nat} {post : Option Value → LX → Prop} {X : LX} (hn : 146 ≤ n) (hX : Sh n X) {v1 : Nat} {v2 : Int32} {v3 : Int32} {v4 : Int32} {v5 : Int32} {v6 : Int32} (b0 : v1 < 12) (k : Ev g mX12_trySwap d n n post n 86 [some (.ref 133), some (.int (nI v1)), some (.int v2), some (.int v3), some (.int v4), some (.int v5), some (.int v6)] [.int (v5 + 1), .int (v4 + v6), .int ((nI v1) + 1), .ref 133] (lx_up X 143 v1 ((100 * v2) + v3))) : Ev g mX12_trySwap d n n post n 61 [some (.ref 133), some (.int (nI v1)), some (.int v2), some (.int v3), some (.int v4), some (.int v5), some (.int v6)] [] X := by
  refine ev_aload_n dX12_trySwap_61 rfl ?_
  refine ev_getS (q := 143) dX12_trySwap_62 fo_12_43 (by omega) lo_133 rfl (sh_133_26 hX (by omega)) (by decide) ?_
  refine ev_iload_n dX12_trySwap_65 rfl ?_
  refine ev_bipush (v := 100) dX12_trySwap_66 kb_100 ?_
  refine ev_iload_n dX12_trySwap_68 rfl ?_
  refine ev_imul dX12_trySwap_69 ?_
  refine ev_iload_n dX12_trySwap_70 rfl ?_
  refine ev_iadd dX12_trySwap_71 ?_
  refine ev_iast dX12_trySwap_72 (by omega) ly_143 rfl b0 ?_
  have hX1 : Sh _ (lx_up X 143 v1 ((100 * v2) + v3)) := Sh.upA hX (by rw [ly_143]; exact (by decide : 0 < 2))
  refine ev_aload_n dX12_trySwap_73 rfl ?_
  refine ev_iload_n dX12_trySwap_74 rfl ?_
  refine ev_iconst (v := 1) dX12_trySwap_75 ki_1 ?_
  refine ev_iadd dX12_trySwap_76 ?_
  refine ev_iload dX12_trySwap_77 rfl ?_
  refine ev_iload dX12_trySwap_79 rfl ?_
  refine ev_iadd dX12_trySwap_81 ?_
  refine ev_iload dX12_trySwap_82 rfl ?_
  refine ev_iconst (v := 1) dX12_trySwap_84 ki_1 ?_
  refine ev_iadd dX12_trySwap_85 ?_
  exact k
theorem bX12_trySwap_89_0 {g : GG} {d n : Nat} {post : Option Value → LX → Prop} {X : LX} (hn : 146 ≤ n) (hX : Sh n X) {v1 : Nat} {v2 : Int32} {v3 : Int32} {v4 : Int32} {v5 : Int32} {v6 : Int32} (b0 : v1 < 12) (k : Ev g mX12_trySwap d n n post n 100 [some (.ref 133), some (.int (nI v1)), some (.int v2), some (.int v3), some (.int v4), some (.int v5), some (.int v6)] [.int v2, .int v3, .int (nI v1), .ref 133] (lx_up X 143 v1 (-1))) : Ev g mX12_trySwap d n n post n 89 [some (.ref 133), some (.int (nI v1)), some (.int v2), some (.int v3), some (.int v4), some (.int v5), some (.int v6)] [] X := by
  refine ev_aload_n dX12_trySwap_89 rfl ?_
  refine ev_getS (q := 143) dX12_trySwap_90 fo_12_43 (by omega) lo_133 rfl (sh_133_26 hX (by omega)) (by decide) ?_
  refine ev_iload_n dX12_trySwap_93 rfl ?_
  refine ev_iconst (v := (-1)) dX12_trySwap_94 ki_m1 ?_
  refine ev_iast dX12_trySwap_95 (by omega) ly_143 rfl b0 ?_
  have hX1 : Sh _ (lx_up X 143 v1 (-1)) := Sh.upA hX (by rw [ly_143]; exact (by decide : 0 < 2))
  refine ev_aload_n dX12_trySwap_96 rfl ?_
  refine ev_iload_n dX12_trySwap_97 rfl ?_
  refine ev_iload_n dX12_trySwap_98 rfl ?_
  refine ev_iload_n dX12_trySwap_99 rfl ?_
  exact k
theorem bX12_trySwap_103_0 {g : GG} {d n : Nat} {post : Option Value → LX → Prop} {X : LX} (hn : 146 ≤ n) (hX : Sh n X) {v1 : Int32} {v2 : Int32} {v3 : Int32} {v4 : Int32} {v5 : Int32} {v6 : Int32} (hp : post none X) : Ev g mX12_trySwap d n n post n 103 [some (.ref 133), some (.int v1), some (.int v2), some (.int v3), some (.int v4), some (.int v5), some (.int v6)] [] X := by
  exact ev_ret dX12_trySwap_103 rfl hp
theorem bX12_planFrom_0_0 {g : GG} {d n : Nat} {post : Option Value → LX → Prop} {X : LX} (hn : 146 ≤ n) (hX : Sh n X) {v1 : Int32} {v2 : Int32} {v3 : Int32} (c0 : ¬ X 133 28 < 0) (c1 : ¬ X 133 28 < v2) (c2 : v2 = X 133 28) (c3 : ¬ v3 < X 133 29) (hp : post none X) : Ev g mX12_planFrom d n n post n 0 [some (.ref 133), some (.int v1), some (.int v2), some (.int v3), none, none] [] X := by
  refine ev_aload_n dX12_planFrom_0 rfl ?_
  refine ev_getI dX12_planFrom_1 fo_12_273 (by omega) lo_133 rfl ?_
  refine ev_ifF (tgt := 32) dX12_planFrom_4 (by decide) c0 ?_
  refine ev_iload_n dX12_planFrom_7 rfl ?_
  refine ev_aload_n dX12_planFrom_8 rfl ?_
  refine ev_getI dX12_planFrom_9 fo_12_273 (by omega) lo_133 rfl ?_
  refine ev_icmpF (tgt := 31) dX12_planFrom_12 (by decide) c1 ?_
  refine ev_iload_n dX12_planFrom_15 rfl ?_
  refine ev_aload_n dX12_planFrom_16 rfl ?_
  refine ev_getI dX12_planFrom_17 fo_12_273 (by omega) lo_133 rfl ?_
  refine ev_icmpF (tgt := 32) dX12_planFrom_20 (by decide) c2 ?_
  refine ev_iload_n dX12_planFrom_23 rfl ?_
  refine ev_aload_n dX12_planFrom_24 rfl ?_
  refine ev_getI dX12_planFrom_25 fo_12_276 (by omega) lo_133 rfl ?_
  refine ev_icmpF (tgt := 32) dX12_planFrom_28 (by decide) c3 ?_
  exact ev_ret dX12_planFrom_31 rfl hp
theorem bX12_planFrom_0_1 {g : GG} {d n : Nat} {post : Option Value → LX → Prop} {X : LX} (hn : 146 ≤ n) (hX : Sh n X) {v1 : Int32} {v2 : Int32} {v3 : Int32} (c0 : ¬ X 133 28 < 0) (c1 : ¬ X 133 28 < v2) (c2 : v2 = X 133 28) (c3 : v3 < X 133 29) (c4 : v1 = X 134 6) (k : Ev g mX12_planFrom d n n post n 44 [some (.ref 133), some (.int v1), some (.int v2), some (.int v3), none, none] [.ref 133] X) : Ev g mX12_planFrom d n n post n 0 [some (.ref 133), some (.int v1), some (.int v2), some (.int v3), none, none] [] X := by
  refine ev_aload_n dX12_planFrom_0 rfl ?_
  refine ev_getI dX12_planFrom_1 fo_12_273 (by omega) lo_133 rfl ?_
  refine ev_ifF (tgt := 32) dX12_planFrom_4 (by decide) c0 ?_
  refine ev_iload_n dX12_planFrom_7 rfl ?_
  refine ev_aload_n dX12_planFrom_8 rfl ?_
  refine ev_getI dX12_planFrom_9 fo_12_273 (by omega) lo_133 rfl ?_
  refine ev_icmpF (tgt := 31) dX12_planFrom_12 (by decide) c1 ?_
  refine ev_iload_n dX12_planFrom_15 rfl ?_
  refine ev_aload_n dX12_planFrom_16 rfl ?_
  refine ev_getI dX12_planFrom_17 fo_12_273 (by omega) lo_133 rfl ?_
  refine ev_icmpF (tgt := 32) dX12_planFrom_20 (by decide) c2 ?_
  refine ev_iload_n dX12_planFrom_23 rfl ?_
  refine ev_aload_n dX12_planFrom_24 rfl ?_
  refine ev_getI dX12_planFrom_25 fo_12_276 (by omega) lo_133 rfl ?_
  refine ev_icmpT (tgt := 32) dX12_planFrom_28 (by decide) c3 ?_
  refine ev_iload_n dX12_planFrom_32 rfl ?_
  refine ev_aload_n dX12_planFrom_33 rfl ?_
  refine ev_getS (q := 134) dX12_planFrom_34 fo_12_9 (by omega) lo_133 rfl (sh_133_0 hX (by omega)) (by decide) ?_
  refine ev_bipush (v := 6) dX12_planFrom_37 kb_6 ?_
  refine ev_iald dX12_planFrom_39 (by omega) ly_134 nIl_6 (by decide) ?_
  refine ev_icmpF (tgt := 91) dX12_planFrom_40 (by decide) c4 ?_
  refine ev_aload_n dX12_planFrom_43 rfl ?_
  exact k
theorem bX12_planFrom_0_2 {g : GG} {d n : Nat} {post : Option Value → LX → Prop} {X : LX} (hn : 146 ≤ n) (hX : Sh n X) {v1 : Int32} {v2 : Int32} {v3 : Int32} (c0 : ¬ X 133 28 < 0) (c1 : ¬ X 133 28 < v2) (c2 : v2 = X 133 28) (c3 : v3 < X 133 29) (c4 : ¬ v1 = X 134 6) (k : Ev g mX12_planFrom d n n post n 97 [some (.ref 133), some (.int v1), some (.int v2), some (.int v3), none, none] [.int v3, .int v2, .int (v1 + 1), .ref 133] X) : Ev g mX12_planFrom d n n post n 0 [some (.ref 133), some (.int v1), some (.int v2), some (.int v3), none, none] [] X := by
  refine ev_aload_n dX12_planFrom_0 rfl ?_
  refine ev_getI dX12_planFrom_1 fo_12_273 (by omega) lo_133 rfl ?_
  refine ev_ifF (tgt := 32) dX12_planFrom_4 (by decide) c0 ?_
  refine ev_iload_n dX12_planFrom_7 rfl ?_
  refine ev_aload_n dX12_planFrom_8 rfl ?_
  refine ev_getI dX12_planFrom_9 fo_12_273 (by omega) lo_133 rfl ?_
  refine ev_icmpF (tgt := 31) dX12_planFrom_12 (by decide) c1 ?_
  refine ev_iload_n dX12_planFrom_15 rfl ?_
  refine ev_aload_n dX12_planFrom_16 rfl ?_
  refine ev_getI dX12_planFrom_17 fo_12_273 (by omega) lo_133 rfl ?_
  refine ev_icmpF (tgt := 32) dX12_planFrom_20 (by decide) c2 ?_
  refine ev_iload_n dX12_planFrom_23 rfl ?_
  refine ev_aload_n dX12_planFrom_24 rfl ?_
  refine ev_getI dX12_planFrom_25 fo_12_276 (by omega) lo_133 rfl ?_
  refine ev_icmpT (tgt := 32) dX12_planFrom_28 (by decide) c3 ?_
  refine ev_iload_n dX12_planFrom_32 rfl ?_
  refine ev_aload_n dX12_planFrom_33 rfl ?_
  refine ev_getS (q := 134) dX12_planFrom_34 fo_12_9 (by omega) lo_133 rfl (sh_133_0 hX (by omega)) (by decide) ?_
  refine ev_bipush (v := 6) dX12_planFrom_37 kb_6 ?_
  refine ev_iald dX12_planFrom_39 (by omega) ly_134 nIl_6 (by decide) ?_
  refine ev_icmpT (tgt := 91) dX12_planFrom_40 (by decide) c4 ?_
  refine ev_aload_n dX12_planFrom_91 rfl ?_
  refine ev_iload_n dX12_planFrom_92 rfl ?_
  refine ev_iconst (v := 1) dX12_planFrom_93 ki_1 ?_
  refine ev_iadd dX12_planFrom_94 ?_
  refine ev_iload_n dX12_planFrom_95 rfl ?_
  refine ev_iload_n dX12_planFrom_96 rfl ?_
  exact k
theorem bX12_planFrom_0_3 {g : GG} {d n : Nat} {post : Option Value → LX → Prop} {X : LX} (hn : 146 ≤ n) (hX : Sh n X) {v1 : Int32} {v2 : Int32} {v3 : Int32} (c0 : ¬ X 133 28 < 0) (c1 : ¬ X 133 28 < v2) (c2 : ¬ v2 = X 133 28) (c3 : v1 = X 134 6) (k : Ev g mX12_planFrom d n n post n 44 [some (.ref 133), some (.int v1), some (.int v2), some (.int v3), none, none] [.ref 133] X) : Ev g mX12_planFrom d n n post n 0 [some (.ref 133), some (.int v1), some (.int v2), some (.int v3), none, none] [] X := by
  refine ev_aload_n dX12_planFrom_0 rfl ?_
  refine ev_getI dX12_planFrom_1 fo_12_273 (by omega) lo_133 rfl ?_
  refine ev_ifF (tgt := 32) dX12_planFrom_4 (by decide) c0 ?_
  refine ev_iload_n dX12_planFrom_7 rfl ?_
  refine ev_aload_n dX12_planFrom_8 rfl ?_
  refine ev_getI dX12_planFrom_9 fo_12_273 (by omega) lo_133 rfl ?_
  refine ev_icmpF (tgt := 31) dX12_planFrom_12 (by decide) c1 ?_
  refine ev_iload_n dX12_planFrom_15 rfl ?_
  refine ev_aload_n dX12_planFrom_16 rfl ?_
  refine ev_getI dX12_planFrom_17 fo_12_273 (by omega) lo_133 rfl ?_
  refine ev_icmpT (tgt := 32) dX12_planFrom_20 (by decide) c2 ?_
  refine ev_iload_n dX12_planFrom_32 rfl ?_
  refine ev_aload_n dX12_planFrom_33 rfl ?_
  refine ev_getS (q := 134) dX12_planFrom_34 fo_12_9 (by omega) lo_133 rfl (sh_133_0 hX (by omega)) (by decide) ?_
  refine ev_bipush (v := 6) dX12_planFrom_37 kb_6 ?_
  refine ev_iald dX12_planFrom_39 (by omega) ly_134 nIl_6 (by decide) ?_
  refine ev_icmpF (tgt := 91) dX12_planFrom_40 (by decide) c3 ?_
  refine ev_aload_n dX12_planFrom_43 rfl ?_
  exact k
theorem bX12_planFrom_0_4 {g : GG} {d n : Nat} {post : Option Value → LX → Prop} {X : LX} (hn : 146 ≤ n) (hX : Sh n X) {v1 : Int32} {v2 : Int32} {v3 : Int32} (c0 : ¬ X 133 28 < 0) (c1 : ¬ X 133 28 < v2) (c2 : ¬ v2 = X 133 28) (c3 : ¬ v1 = X 134 6) (k : Ev g mX12_planFrom d n n post n 97 [some (.ref 133), some (.int v1), some (.int v2), some (.int v3), none, none] [.int v3, .int v2, .int (v1 + 1), .ref 133] X) : Ev g mX12_planFrom d n n post n 0 [some (.ref 133), some (.int v1), some (.int v2), some (.int v3), none, none] [] X := by
  refine ev_aload_n dX12_planFrom_0 rfl ?_
  refine ev_getI dX12_planFrom_1 fo_12_273 (by omega) lo_133 rfl ?_
  refine ev_ifF (tgt := 32) dX12_planFrom_4 (by decide) c0 ?_
  refine ev_iload_n dX12_planFrom_7 rfl ?_
  refine ev_aload_n dX12_planFrom_8 rfl ?_
  refine ev_getI dX12_planFrom_9 fo_12_273 (by omega) lo_133 rfl ?_
  refine ev_icmpF (tgt := 31) dX12_planFrom_12 (by decide) c1 ?_
  refine ev_iload_n dX12_planFrom_15 rfl ?_
  refine ev_aload_n dX12_planFrom_16 rfl ?_
  refine ev_getI dX12_planFrom_17 fo_12_273 (by omega) lo_133 rfl ?_
  refine ev_icmpT (tgt := 32) dX12_planFrom_20 (by decide) c2 ?_
  refine ev_iload_n dX12_planFrom_32 rfl ?_
  refine ev_aload_n dX12_planFrom_33 rfl ?_
  refine ev_getS (q := 134) dX12_planFrom_34 fo_12_9 (by omega) lo_133 rfl (sh_133_0 hX (by omega)) (by decide) ?_
  refine ev_bipush (v := 6) dX12_planFrom_37 kb_6 ?_
  refine ev_iald dX12_planFrom_39 (by omega) ly_134 nIl_6 (by decide) ?_
  refine ev_icmpT (tgt := 91) dX12_planFrom_40 (by decide) c3 ?_
  refine ev_aload_n dX12_planFrom_91 rfl ?_
  refine ev_iload_n dX12_planFrom_92 rfl ?_
  refine ev_iconst (v := 1) dX12_planFrom_93 ki_1 ?_
  refine ev_iadd dX12_planFrom_94 ?_
  refine ev_iload_n dX12_planFrom_95 rfl ?_
  refine ev_iload_n dX12_planFrom_96 rfl ?_
  exact k
theorem bX12_planFrom_0_5 {g : GG} {d n : Nat} {post : Option Value → LX → Prop} {X : LX} (hn : 146 ≤ n) (hX : Sh n X) {v1 : Int32} {v2 : Int32} {v3 : Int32} (c0 : ¬ X 133 28 < 0) (c1 : X 133 28 < v2) (hp : post none X) : Ev g mX12_planFrom d n n post n 0 [some (.ref 133), some (.int v1), some (.int v2), some (.int v3), none, none] [] X := by
  refine ev_aload_n dX12_planFrom_0 rfl ?_
  refine ev_getI dX12_planFrom_1 fo_12_273 (by omega) lo_133 rfl ?_
  refine ev_ifF (tgt := 32) dX12_planFrom_4 (by decide) c0 ?_
  refine ev_iload_n dX12_planFrom_7 rfl ?_
  refine ev_aload_n dX12_planFrom_8 rfl ?_
  refine ev_getI dX12_planFrom_9 fo_12_273 (by omega) lo_133 rfl ?_
  refine ev_icmpT (tgt := 31) dX12_planFrom_12 (by decide) c1 ?_
  exact ev_ret dX12_planFrom_31 rfl hp
theorem bX12_planFrom_0_6 {g : GG} {d n : Nat} {post : Option Value → LX → Prop} {X : LX} (hn : 146 ≤ n) (hX : Sh n X) {v1 : Int32} {v2 : Int32} {v3 : Int32} (c0 : X 133 28 < 0) (c1 : v1 = X 134 6) (k : Ev g mX12_planFrom d n n post n 44 [some (.ref 133), some (.int v1), some (.int v2), some (.int v3), none, none] [.ref 133] X) : Ev g mX12_planFrom d n n post n 0 [some (.ref 133), some (.int v1), some (.int v2), some (.int v3), none, none] [] X := by
  refine ev_aload_n dX12_planFrom_0 rfl ?_
  refine ev_getI dX12_planFrom_1 fo_12_273 (by omega) lo_133 rfl ?_
  refine ev_ifT (tgt := 32) dX12_planFrom_4 (by decide) c0 ?_
  refine ev_iload_n dX12_planFrom_32 rfl ?_
  refine ev_aload_n dX12_planFrom_33 rfl ?_
  refine ev_getS (q := 134) dX12_planFrom_34 fo_12_9 (by omega) lo_133 rfl (sh_133_0 hX (by omega)) (by decide) ?_
  refine ev_bipush (v := 6) dX12_planFrom_37 kb_6 ?_
  refine ev_iald dX12_planFrom_39 (by omega) ly_134 nIl_6 (by decide) ?_
  refine ev_icmpF (tgt := 91) dX12_planFrom_40 (by decide) c1 ?_
  refine ev_aload_n dX12_planFrom_43 rfl ?_
  exact k
theorem bX12_planFrom_0_7 {g : GG} {d n : Nat} {post : Option Value → LX → Prop} {X : LX} (hn : 146 ≤ n) (hX : Sh n X) {v1 : Int32} {v2 : Int32} {v3 : Int32} (c0 : X 133 28 < 0) (c1 : ¬ v1 = X 134 6) (k : Ev g mX12_planFrom d n n post n 97 [some (.ref 133), some (.int v1), some (.int v2), some (.int v3), none, none] [.int v3, .int v2, .int (v1 + 1), .ref 133] X) : Ev g mX12_planFrom d n n post n 0 [some (.ref 133), some (.int v1), some (.int v2), some (.int v3), none, none] [] X := by
  refine ev_aload_n dX12_planFrom_0 rfl ?_
  refine ev_getI dX12_planFrom_1 fo_12_273 (by omega) lo_133 rfl ?_
  refine ev_ifT (tgt := 32) dX12_planFrom_4 (by decide) c0 ?_
  refine ev_iload_n dX12_planFrom_32 rfl ?_
  refine ev_aload_n dX12_planFrom_33 rfl ?_
  refine ev_getS (q := 134) dX12_planFrom_34 fo_12_9 (by omega) lo_133 rfl (sh_133_0 hX (by omega)) (by decide) ?_
  refine ev_bipush (v := 6) dX12_planFrom_37 kb_6 ?_
  refine ev_iald dX12_planFrom_39 (by omega) ly_134 nIl_6 (by decide) ?_
  refine ev_icmpT (tgt := 91) dX12_planFrom_40 (by decide) c1 ?_
  refine ev_aload_n dX12_planFrom_91 rfl ?_
  refine ev_iload_n dX12_planFrom_92 rfl ?_
  refine ev_iconst (v := 1) dX12_planFrom_93 ki_1 ?_
  refine ev_iadd dX12_planFrom_94 ?_
  refine ev_iload_n dX12_planFrom_95 rfl ?_
  refine ev_iload_n dX12_planFrom_96 rfl ?_
  exact k
theorem bX12_planFrom_47_0 {g : GG} {d n : Nat} {post : Option Value → LX → Prop} {X : LX} (hn : 146 ≤ n) (hX : Sh n X) {v1 : Int32} {v2 : Int32} {v3 : Int32} {s0 : Int32} (c0 : ¬ s0 = 0) (k : Ev g mX12_planFrom d n n post n 63 [some (.ref 133), some (.int v1), some (.int v2), some (.int v3), some (.int 0), none] [] (lx_up (lx_up X 133 28 v2) 133 29 v3)) : Ev g mX12_planFrom d n n post n 47 [some (.ref 133), some (.int v1), some (.int v2), some (.int v3), none, none] [.int s0] X := by
  refine ev_ifF (tgt := 90) dX12_planFrom_47 (by decide) c0 ?_
  refine ev_aload_n dX12_planFrom_50 rfl ?_
  refine ev_iload_n dX12_planFrom_51 rfl ?_
  refine ev_putI dX12_planFrom_52 fo_12_273 (by omega) lo_133 rfl rfl rfl ?_
  have hX1 : Sh _ (lx_up X 133 28 v2) := Sh.upF hX (by rw [lo_133]; decide) (by decide)
  refine ev_aload_n dX12_planFrom_55 rfl ?_
  refine ev_iload_n dX12_planFrom_56 rfl ?_
  refine ev_putI dX12_planFrom_57 fo_12_276 (by omega) lo_133 rfl rfl rfl ?_
  have hX2 : Sh _ (lx_up (lx_up X 133 28 v2) 133 29 v3) := Sh.upF hX1 (by rw [lo_133]; decide) (by decide)
  refine ev_iconst (v := 0) dX12_planFrom_60 ki_0 ?_
  refine ev_istore dX12_planFrom_61 (by decide) ?_
  exact k
theorem bX12_planFrom_47_1 {g : GG} {d n : Nat} {post : Option Value → LX → Prop} {X : LX} (hn : 146 ≤ n) (hX : Sh n X) {v1 : Int32} {v2 : Int32} {v3 : Int32} {s0 : Int32} (c0 : s0 = 0) (hp : post none X) : Ev g mX12_planFrom d n n post n 47 [some (.ref 133), some (.int v1), some (.int v2), some (.int v3), none, none] [.int s0] X := by
  refine ev_ifT (tgt := 90) dX12_planFrom_47 (by decide) c0 ?_
  exact ev_ret dX12_planFrom_90 rfl hp
theorem bX12_planFrom_63_0 {g : GG} {d n : Nat} {post : Option Value → LX → Prop} {X : LX} (hn : 146 ≤ n) (hX : Sh n X) {v1 : Int32} {v2 : Int32} {v3 : Int32} {v4 : Nat} (c0 : ¬ 12 ≤ nI v4) (b0 : v4 < 12) (k : Ev g mX12_planFrom d n n post n 63 [some (.ref 133), some (.int v1), some (.int v2), some (.int v3), some (.int ((nI v4) + 1)), none] [] (lx_up X 144 v4 (X 143 v4))) : Ev g mX12_planFrom d n n post n 63 [some (.ref 133), some (.int v1), some (.int v2), some (.int v3), some (.int (nI v4)), none] [] X := by
  refine ev_iload dX12_planFrom_63 rfl ?_
  refine ev_bipush (v := 12) dX12_planFrom_65 kb_12 ?_
  refine ev_icmpF (tgt := 90) dX12_planFrom_67 (by decide) c0 ?_
  refine ev_aload_n dX12_planFrom_70 rfl ?_
  refine ev_getS (q := 144) dX12_planFrom_71 fo_12_46 (by omega) lo_133 rfl (sh_133_27 hX (by omega)) (by decide) ?_
  refine ev_iload dX12_planFrom_74 rfl ?_
  refine ev_aload_n dX12_planFrom_76 rfl ?_
  refine ev_getS (q := 143) dX12_planFrom_77 fo_12_43 (by omega) lo_133 rfl (sh_133_26 hX (by omega)) (by decide) ?_
  refine ev_iload dX12_planFrom_80 rfl ?_
  refine ev_iald dX12_planFrom_82 (by omega) ly_143 rfl b0 ?_
  refine ev_iast dX12_planFrom_83 (by omega) ly_144 rfl b0 ?_
  have hX1 : Sh _ (lx_up X 144 v4 (X 143 v4)) := Sh.upA hX (by rw [ly_144]; exact (by decide : 0 < 2))
  refine ev_iinc (v := (nI v4) + 1) dX12_planFrom_84 rfl (by rw [show Int32.ofInt 1 = 1 from ki_1]) (by decide) ?_
  refine ev_goto (tgt := 63) dX12_planFrom_87 (by decide) ?_
  exact k
theorem bX12_planFrom_63_1 {g : GG} {d n : Nat} {post : Option Value → LX → Prop} {X : LX} (hn : 146 ≤ n) (hX : Sh n X) {v1 : Int32} {v2 : Int32} {v3 : Int32} {v4 : Int32} (c0 : 12 ≤ v4) (hp : post none X) : Ev g mX12_planFrom d n n post n 63 [some (.ref 133), some (.int v1), some (.int v2), some (.int v3), some (.int v4), none] [] X := by
  refine ev_iload dX12_planFrom_63 rfl ?_
  refine ev_bipush (v := 12) dX12_planFrom_65 kb_12 ?_
  refine ev_icmpT (tgt := 90) dX12_planFrom_67 (by decide) c0 ?_
  exact ev_ret dX12_planFrom_90 rfl hp
theorem bX12_planFrom_100_0 {g : GG} {d n : Nat} {post : Option Value → LX → Prop} {X : LX} (hn : 146 ≤ n) (hX : Sh n X) {v1 : Int32} {v2 : Int32} {v3 : Int32} (k : Ev g mX12_planFrom d n n post n 103 [some (.ref 133), some (.int v1), some (.int v2), some (.int v3), some (.int 0), none] [] X) : Ev g mX12_planFrom d n n post n 100 [some (.ref 133), some (.int v1), some (.int v2), some (.int v3), none, none] [] X := by
  refine ev_iconst (v := 0) dX12_planFrom_100 ki_0 ?_
  refine ev_istore dX12_planFrom_101 (by decide) ?_
  exact k
theorem bX12_planFrom_103_0 {g : GG} {d n : Nat} {post : Option Value → LX → Prop} {X : LX} (hn : 146 ≤ n) (hX : Sh n X) {v1 : Int32} {v2 : Int32} {v3 : Int32} {v4 : Int32} (c0 : ¬ X 134 4 ≤ v4) (k : Ev g mX12_planFrom d n n post n 117 [some (.ref 133), some (.int v1), some (.int v2), some (.int v3), some (.int v4), some (.int 0)] [] X) : Ev g mX12_planFrom d n n post n 103 [some (.ref 133), some (.int v1), some (.int v2), some (.int v3), some (.int v4), none] [] X := by
  refine ev_iload dX12_planFrom_103 rfl ?_
  refine ev_aload_n dX12_planFrom_105 rfl ?_
  refine ev_getS (q := 134) dX12_planFrom_106 fo_12_9 (by omega) lo_133 rfl (sh_133_0 hX (by omega)) (by decide) ?_
  refine ev_iconst (v := 4) dX12_planFrom_109 ki_4 ?_
  refine ev_iald dX12_planFrom_110 (by omega) ly_134 nIl_4 (by decide) ?_
  refine ev_icmpF (tgt := 170) dX12_planFrom_111 (by decide) c0 ?_
  refine ev_iconst (v := 0) dX12_planFrom_114 ki_0 ?_
  refine ev_istore dX12_planFrom_115 (by decide) ?_
  exact k
theorem bX12_planFrom_103_1 {g : GG} {d n : Nat} {post : Option Value → LX → Prop} {X : LX} (hn : 146 ≤ n) (hX : Sh n X) {v1 : Int32} {v2 : Int32} {v3 : Int32} {v4 : Int32} (c0 : X 134 4 ≤ v4) (hp : post none X) : Ev g mX12_planFrom d n n post n 103 [some (.ref 133), some (.int v1), some (.int v2), some (.int v3), some (.int v4), none] [] X := by
  refine ev_iload dX12_planFrom_103 rfl ?_
  refine ev_aload_n dX12_planFrom_105 rfl ?_
  refine ev_getS (q := 134) dX12_planFrom_106 fo_12_9 (by omega) lo_133 rfl (sh_133_0 hX (by omega)) (by decide) ?_
  refine ev_iconst (v := 4) dX12_planFrom_109 ki_4 ?_
  refine ev_iald dX12_planFrom_110 (by omega) ly_134 nIl_4 (by decide) ?_
  refine ev_icmpT (tgt := 170) dX12_planFrom_111 (by decide) c0 ?_
  exact ev_ret dX12_planFrom_170 rfl hp
theorem bX12_planFrom_117_0 {g : GG} {d n : Nat} {post : Option Value → LX → Prop} {X : LX} (hn : 146 ≤ n) (hX : Sh n X) {v1 : Int32} {v2 : Int32} {v3 : Int32} {v4 : Int32} {v5 : Int32} (c0 : ¬ X 134 4 ≤ v5) (c1 : X 133 22 = 0) (k : Ev g mX12_planFrom d n n post n 141 [some (.ref 133), some (.int v1), some (.int v2), some (.int v3), some (.int v4), some (.int v5)] [.int v5, .int v4, .int v1, .ref 133] X) : Ev g mX12_planFrom d n n post n 117 [some (.ref 133), some (.int v1), some (.int v2), some (.int v3), some (.int v4), some (.int v5)] [] X := by
  refine ev_iload dX12_planFrom_117 rfl ?_
  refine ev_aload_n dX12_planFrom_119 rfl ?_
  refine ev_getS (q := 134) dX12_planFrom_120 fo_12_9 (by omega) lo_133 rfl (sh_133_0 hX (by omega)) (by decide) ?_
  refine ev_iconst (v := 4) dX12_planFrom_123 ki_4 ?_
  refine ev_iald dX12_planFrom_124 (by omega) ly_134 nIl_4 (by decide) ?_
  refine ev_icmpF (tgt := 164) dX12_planFrom_125 (by decide) c0 ?_
  refine ev_aload_n dX12_planFrom_128 rfl ?_
  refine ev_getI dX12_planFrom_129 fo_12_250 (by omega) lo_133 rfl ?_
  refine ev_ifF (tgt := 164) dX12_planFrom_132 (by decide) c1 ?_
  refine ev_aload_n dX12_planFrom_135 rfl ?_
  refine ev_iload_n dX12_planFrom_136 rfl ?_
  refine ev_iload dX12_planFrom_137 rfl ?_
  refine ev_iload dX12_planFrom_139 rfl ?_
  exact k
theorem bX12_planFrom_117_1 {g : GG} {d n : Nat} {post : Option Value → LX → Prop} {X : LX} (hn : 146 ≤ n) (hX : Sh n X) {v1 : Int32} {v2 : Int32} {v3 : Int32} {v4 : Int32} {v5 : Int32} (c0 : ¬ X 134 4 ≤ v5) (c1 : ¬ X 133 22 = 0) (k : Ev g mX12_planFrom d n n post n 103 [some (.ref 133), some (.int v1), some (.int v2), some (.int v3), some (.int (v4 + 1)), none] [] X) : Ev g mX12_planFrom d n n post n 117 [some (.ref 133), some (.int v1), some (.int v2), some (.int v3), some (.int v4), some (.int v5)] [] X := by
  refine ev_iload dX12_planFrom_117 rfl ?_
  refine ev_aload_n dX12_planFrom_119 rfl ?_
  refine ev_getS (q := 134) dX12_planFrom_120 fo_12_9 (by omega) lo_133 rfl (sh_133_0 hX (by omega)) (by decide) ?_
  refine ev_iconst (v := 4) dX12_planFrom_123 ki_4 ?_
  refine ev_iald dX12_planFrom_124 (by omega) ly_134 nIl_4 (by decide) ?_
  refine ev_icmpF (tgt := 164) dX12_planFrom_125 (by decide) c0 ?_
  refine ev_aload_n dX12_planFrom_128 rfl ?_
  refine ev_getI dX12_planFrom_129 fo_12_250 (by omega) lo_133 rfl ?_
  refine ev_ifT (tgt := 164) dX12_planFrom_132 (by decide) c1 ?_
  refine ev_iinc (v := v4 + 1) dX12_planFrom_164 rfl (by rw [show Int32.ofInt 1 = 1 from ki_1]) (by decide) ?_
  refine ev_goto (tgt := 103) dX12_planFrom_167 (by decide) ?_
  refine ev_wk (L := [some (.ref 133), some (.int v1), some (.int v2), some (.int v3), some (.int (v4 + 1)), some (.int v5)]) (L' := [some (.ref 133), some (.int v1), some (.int v2), some (.int v3), some (.int (v4 + 1)), none]) (by simp [lwk]) ?_
  exact k
theorem bX12_planFrom_117_2 {g : GG} {d n : Nat} {post : Option Value → LX → Prop} {X : LX} (hn : 146 ≤ n) (hX : Sh n X) {v1 : Int32} {v2 : Int32} {v3 : Int32} {v4 : Int32} {v5 : Int32} (c0 : X 134 4 ≤ v5) (k : Ev g mX12_planFrom d n n post n 103 [some (.ref 133), some (.int v1), some (.int v2), some (.int v3), some (.int (v4 + 1)), none] [] X) : Ev g mX12_planFrom d n n post n 117 [some (.ref 133), some (.int v1), some (.int v2), some (.int v3), some (.int v4), some (.int v5)] [] X := by
  refine ev_iload dX12_planFrom_117 rfl ?_
  refine ev_aload_n dX12_planFrom_119 rfl ?_
  refine ev_getS (q := 134) dX12_planFrom_120 fo_12_9 (by omega) lo_133 rfl (sh_133_0 hX (by omega)) (by decide) ?_
  refine ev_iconst (v := 4) dX12_planFrom_123 ki_4 ?_
  refine ev_iald dX12_planFrom_124 (by omega) ly_134 nIl_4 (by decide) ?_
  refine ev_icmpT (tgt := 164) dX12_planFrom_125 (by decide) c0 ?_
  refine ev_iinc (v := v4 + 1) dX12_planFrom_164 rfl (by rw [show Int32.ofInt 1 = 1 from ki_1]) (by decide) ?_
  refine ev_goto (tgt := 103) dX12_planFrom_167 (by decide) ?_
  refine ev_wk (L := [some (.ref 133), some (.int v1), some (.int v2), some (.int v3), some (.int (v4 + 1)), some (.int v5)]) (L' := [some (.ref 133), some (.int v1), some (.int v2), some (.int v3), some (.int (v4 + 1)), none]) (by simp [lwk]) ?_
  exact k
theorem bX12_planFrom_144_0 {g : GG} {d n : Nat} {post : Option Value → LX → Prop} {X : LX} (hn : 146 ≤ n) (hX : Sh n X) {v1 : Int32} {v2 : Int32} {v3 : Int32} {v4 : Int32} {v5 : Int32} {s0 : Int32} (c0 : ¬ s0 = 0) (k : Ev g mX12_planFrom d n n post n 155 [some (.ref 133), some (.int v1), some (.int v2), some (.int v3), some (.int v4), some (.int v5)] [.int v3, .int v2, .int v5, .int v4, .int v1, .ref 133] X) : Ev g mX12_planFrom d n n post n 144 [some (.ref 133), some (.int v1), some (.int v2), some (.int v3), some (.int v4), some (.int v5)] [.int s0] X := by
  refine ev_ifF (tgt := 158) dX12_planFrom_144 (by decide) c0 ?_
  refine ev_aload_n dX12_planFrom_147 rfl ?_
  refine ev_iload_n dX12_planFrom_148 rfl ?_
  refine ev_iload dX12_planFrom_149 rfl ?_
  refine ev_iload dX12_planFrom_151 rfl ?_
  refine ev_iload_n dX12_planFrom_153 rfl ?_
  refine ev_iload_n dX12_planFrom_154 rfl ?_
  exact k
theorem bX12_planFrom_144_1 {g : GG} {d n : Nat} {post : Option Value → LX → Prop} {X : LX} (hn : 146 ≤ n) (hX : Sh n X) {v1 : Int32} {v2 : Int32} {v3 : Int32} {v4 : Int32} {v5 : Int32} {s0 : Int32} (c0 : s0 = 0) (k : Ev g mX12_planFrom d n n post n 117 [some (.ref 133), some (.int v1), some (.int v2), some (.int v3), some (.int v4), some (.int (v5 + 1))] [] X) : Ev g mX12_planFrom d n n post n 144 [some (.ref 133), some (.int v1), some (.int v2), some (.int v3), some (.int v4), some (.int v5)] [.int s0] X := by
  refine ev_ifT (tgt := 158) dX12_planFrom_144 (by decide) c0 ?_
  refine ev_iinc (v := v5 + 1) dX12_planFrom_158 rfl (by rw [show Int32.ofInt 1 = 1 from ki_1]) (by decide) ?_
  refine ev_goto (tgt := 117) dX12_planFrom_161 (by decide) ?_
  exact k
theorem bX12_planFrom_158_0 {g : GG} {d n : Nat} {post : Option Value → LX → Prop} {X : LX} (hn : 146 ≤ n) (hX : Sh n X) {v1 : Int32} {v2 : Int32} {v3 : Int32} {v4 : Int32} {v5 : Int32} (k : Ev g mX12_planFrom d n n post n 117 [some (.ref 133), some (.int v1), some (.int v2), some (.int v3), some (.int v4), some (.int (v5 + 1))] [] X) : Ev g mX12_planFrom d n n post n 158 [some (.ref 133), some (.int v1), some (.int v2), some (.int v3), some (.int v4), some (.int v5)] [] X := by
  refine ev_iinc (v := v5 + 1) dX12_planFrom_158 rfl (by rw [show Int32.ofInt 1 = 1 from ki_1]) (by decide) ?_
  refine ev_goto (tgt := 117) dX12_planFrom_161 (by decide) ?_
  exact k
theorem bX12_findPlan_0_0 {g : GG} {d n : Nat} {post : Option Value → LX → Prop} {X : LX} (hn : 146 ≤ n) (hX : Sh n X) {v1 : Int32} (k : Ev g mX12_findPlan d n n post n 1 [some (.ref 133), some (.int v1), none] [.ref 133] X) : Ev g mX12_findPlan d n n post n 0 [some (.ref 133), some (.int v1), none] [] X := by
  refine ev_aload_n dX12_findPlan_0 rfl ?_
  exact k
theorem bX12_findPlan_4_0 {g : GG} {d n : Nat} {post : Option Value → LX → Prop} {X : LX} (hn : 146 ≤ n) (hX : Sh n X) {v1 : Int32} (k : Ev g mX12_findPlan d n n post n 6 [some (.ref 133), some (.int v1), some (.int 0)] [] X) : Ev g mX12_findPlan d n n post n 4 [some (.ref 133), some (.int v1), none] [] X := by
  refine ev_iconst (v := 0) dX12_findPlan_4 ki_0 ?_
  refine ev_istore_n dX12_findPlan_5 (by decide) ?_
  exact k
theorem bX12_findPlan_6_0 {g : GG} {d n : Nat} {post : Option Value → LX → Prop} {X : LX} (hn : 146 ≤ n) (hX : Sh n X) {v1 : Int32} {v2 : Nat} (c0 : ¬ 12 ≤ nI v2) (b0 : v2 < 12) (k : Ev g mX12_findPlan d n n post n 6 [some (.ref 133), some (.int v1), some (.int ((nI v2) + 1))] [] (lx_up X 143 v2 (-1))) : Ev g mX12_findPlan d n n post n 6 [some (.ref 133), some (.int v1), some (.int (nI v2))] [] X := by
  refine ev_iload_n dX12_findPlan_6 rfl ?_
  refine ev_bipush (v := 12) dX12_findPlan_7 kb_12 ?_
  refine ev_icmpF (tgt := 25) dX12_findPlan_9 (by decide) c0 ?_
  refine ev_aload_n dX12_findPlan_12 rfl ?_
  refine ev_getS (q := 143) dX12_findPlan_13 fo_12_43 (by omega) lo_133 rfl (sh_133_26 hX (by omega)) (by decide) ?_
  refine ev_iload_n dX12_findPlan_16 rfl ?_
  refine ev_iconst (v := (-1)) dX12_findPlan_17 ki_m1 ?_
  refine ev_iast dX12_findPlan_18 (by omega) ly_143 rfl b0 ?_
  have hX1 : Sh _ (lx_up X 143 v2 (-1)) := Sh.upA hX (by rw [ly_143]; exact (by decide : 0 < 2))
  refine ev_iinc (v := (nI v2) + 1) dX12_findPlan_19 rfl (by rw [show Int32.ofInt 1 = 1 from ki_1]) (by decide) ?_
  refine ev_goto (tgt := 6) dX12_findPlan_22 (by decide) ?_
  exact k
theorem bX12_findPlan_6_1 {g : GG} {d n : Nat} {post : Option Value → LX → Prop} {X : LX} (hn : 146 ≤ n) (hX : Sh n X) {v1 : Int32} {v2 : Int32} (c0 : 12 ≤ v2) (k : Ev g mX12_findPlan d n n post n 49 [some (.ref 133), some (.int v1), some (.int v2)] [.int 0, .int 0, .int 0, .ref 133] (lx_up (lx_up (lx_up (lx_up X 133 28 (-1)) 133 29 0) 133 21 v1) 133 22 0)) : Ev g mX12_findPlan d n n post n 6 [some (.ref 133), some (.int v1), some (.int v2)] [] X := by
  refine ev_iload_n dX12_findPlan_6 rfl ?_
  refine ev_bipush (v := 12) dX12_findPlan_7 kb_12 ?_
  refine ev_icmpT (tgt := 25) dX12_findPlan_9 (by decide) c0 ?_
  refine ev_aload_n dX12_findPlan_25 rfl ?_
  refine ev_iconst (v := (-1)) dX12_findPlan_26 ki_m1 ?_
  refine ev_putI dX12_findPlan_27 fo_12_273 (by omega) lo_133 rfl rfl rfl ?_
  have hX1 : Sh _ (lx_up X 133 28 (-1)) := Sh.upF hX (by rw [lo_133]; decide) (by decide)
  refine ev_aload_n dX12_findPlan_30 rfl ?_
  refine ev_iconst (v := 0) dX12_findPlan_31 ki_0 ?_
  refine ev_putI dX12_findPlan_32 fo_12_276 (by omega) lo_133 rfl rfl rfl ?_
  have hX2 : Sh _ (lx_up (lx_up X 133 28 (-1)) 133 29 0) := Sh.upF hX1 (by rw [lo_133]; decide) (by decide)
  refine ev_aload_n dX12_findPlan_35 rfl ?_
  refine ev_iload_n dX12_findPlan_36 rfl ?_
  refine ev_putI dX12_findPlan_37 fo_12_253 (by omega) lo_133 rfl rfl rfl ?_
  have hX3 : Sh _ (lx_up (lx_up (lx_up X 133 28 (-1)) 133 29 0) 133 21 v1) := Sh.upF hX2 (by rw [lo_133]; decide) (by decide)
  refine ev_aload_n dX12_findPlan_40 rfl ?_
  refine ev_iconst (v := 0) dX12_findPlan_41 ki_0 ?_
  refine ev_putZ dX12_findPlan_42 fo_12_250 (by omega) lo_133 rfl rfl rfl (by decide) ?_
  have hX4 : Sh _ (lx_up (lx_up (lx_up (lx_up X 133 28 (-1)) 133 29 0) 133 21 v1) 133 22 0) := Sh.upF hX3 (by rw [lo_133]; decide) (by decide)
  refine ev_aload_n dX12_findPlan_45 rfl ?_
  refine ev_iconst (v := 0) dX12_findPlan_46 ki_0 ?_
  refine ev_iconst (v := 0) dX12_findPlan_47 ki_0 ?_
  refine ev_iconst (v := 0) dX12_findPlan_48 ki_0 ?_
  exact k
theorem bX12_findPlan_52_0 {g : GG} {d n : Nat} {post : Option Value → LX → Prop} {X : LX} (hn : 146 ≤ n) (hX : Sh n X) {v1 : Int32} {v2 : Int32} (c0 : ¬ X 133 22 = 0) (hp : post (some (.int (-1000000004))) X) : Ev g mX12_findPlan d n n post n 52 [some (.ref 133), some (.int v1), some (.int v2)] [] X := by
  refine ev_aload_n dX12_findPlan_52 rfl ?_
  refine ev_getI dX12_findPlan_53 fo_12_250 (by omega) lo_133 rfl ?_
  refine ev_ifF (tgt := 65) dX12_findPlan_56 (by decide) c0 ?_
  refine ev_ldcw (v := (-1000000004)) dX12_findPlan_59 kw_12_260 ?_
  refine ev_goto (tgt := 78) dX12_findPlan_62 (by decide) ?_
  exact ev_iret dX12_findPlan_78 rfl rfl hp
theorem bX12_findPlan_52_1 {g : GG} {d n : Nat} {post : Option Value → LX → Prop} {X : LX} (hn : 146 ≤ n) (hX : Sh n X) {v1 : Int32} {v2 : Int32} (c0 : X 133 22 = 0) (c1 : ¬ 0 ≤ X 133 28) (hp : post (some (.int (-1000000002))) X) : Ev g mX12_findPlan d n n post n 52 [some (.ref 133), some (.int v1), some (.int v2)] [] X := by
  refine ev_aload_n dX12_findPlan_52 rfl ?_
  refine ev_getI dX12_findPlan_53 fo_12_250 (by omega) lo_133 rfl ?_
  refine ev_ifT (tgt := 65) dX12_findPlan_56 (by decide) c0 ?_
  refine ev_aload_n dX12_findPlan_65 rfl ?_
  refine ev_getI dX12_findPlan_66 fo_12_273 (by omega) lo_133 rfl ?_
  refine ev_ifF (tgt := 77) dX12_findPlan_69 (by decide) c1 ?_
  refine ev_ldc (v := (-1000000002)) dX12_findPlan_72 kw_12_80 ?_
  refine ev_goto (tgt := 78) dX12_findPlan_74 (by decide) ?_
  exact ev_iret dX12_findPlan_78 rfl rfl hp
theorem bX12_findPlan_52_2 {g : GG} {d n : Nat} {post : Option Value → LX → Prop} {X : LX} (hn : 146 ≤ n) (hX : Sh n X) {v1 : Int32} {v2 : Int32} (c0 : X 133 22 = 0) (c1 : 0 ≤ X 133 28) (hp : post (some (.int 0)) X) : Ev g mX12_findPlan d n n post n 52 [some (.ref 133), some (.int v1), some (.int v2)] [] X := by
  refine ev_aload_n dX12_findPlan_52 rfl ?_
  refine ev_getI dX12_findPlan_53 fo_12_250 (by omega) lo_133 rfl ?_
  refine ev_ifT (tgt := 65) dX12_findPlan_56 (by decide) c0 ?_
  refine ev_aload_n dX12_findPlan_65 rfl ?_
  refine ev_getI dX12_findPlan_66 fo_12_273 (by omega) lo_133 rfl ?_
  refine ev_ifT (tgt := 77) dX12_findPlan_69 (by decide) c1 ?_
  refine ev_iconst (v := 0) dX12_findPlan_77 ki_0 ?_
  exact ev_iret dX12_findPlan_78 rfl rfl hp
theorem bX11_plan_0_0 {g : GG} {d n : Nat} {post : Option Value → LX → Prop} {X : LX} (hd : 1 ≤ d) (hn : 146 ≤ n) (hX : Sh n X) {v1 : Int32} (c0 : 1 ≤ v1 ∧ v1 ≤ 5000) (k : Ev g mX11_plan d n n post n 19 [some (.ref 0), some (.int v1), none] [.int v1, .ref 87] X) : Ev g mX11_plan d n n post n 0 [some (.ref 0), some (.int v1), none] [] X := by
  refine ev_iload_n dX11_plan_0 rfl ?_
  refine ev_iconst (v := 1) dX11_plan_1 ki_1 ?_
  refine ev_sipush (v := 5000) dX11_plan_2 ks_5000 ?_
  refine e_Si (as := [.int v1, .int 1, .int 5000]) (rest := []) dX11_plan_5 vX11_isIn ml_11_57 stX11_isIn npX11_isIn (by decide) rfl (Nat.le_of_ble_eq_true rfl) (by omega) (t_X11_isIn (d := d - 1) (by omega) (by omega) hX c0) ?_
  refine ev_ifT (tgt := 14) dX11_plan_8 (by decide) (by show ¬ (1 : Int32) = 0; decide) ?_
  refine ev_aload_n dX11_plan_14 rfl ?_
  refine ev_getS (q := 87) dX11_plan_15 fo_11_35 (by omega) lo_0 rfl (sh_0_3 hX (by omega)) (by decide) ?_
  refine ev_iload_n dX11_plan_18 rfl ?_
  exact k
theorem bX11_plan_0_1 {g : GG} {d n : Nat} {post : Option Value → LX → Prop} {X : LX} (hd : 1 ≤ d) (hn : 146 ≤ n) (hX : Sh n X) {v1 : Int32} (c0 : ¬ (1 ≤ v1 ∧ v1 ≤ 5000)) (hp : post (some (.int (-1000000001))) X) : Ev g mX11_plan d n n post n 0 [some (.ref 0), some (.int v1), none] [] X := by
  refine ev_iload_n dX11_plan_0 rfl ?_
  refine ev_iconst (v := 1) dX11_plan_1 ki_1 ?_
  refine ev_sipush (v := 5000) dX11_plan_2 ks_5000 ?_
  refine e_Si (as := [.int v1, .int 1, .int 5000]) (rest := []) dX11_plan_5 vX11_isIn ml_11_57 stX11_isIn npX11_isIn (by decide) rfl (Nat.le_of_ble_eq_true rfl) (by omega) (f_X11_isIn (d := d - 1) (by omega) (by omega) hX c0) ?_
  refine ev_ifF (tgt := 14) dX11_plan_8 (by decide) (by show (0 : Int32) = 0; decide) ?_
  refine ev_ldc (v := (-1000000001)) dX11_plan_11 kw_11_61 ?_
  exact ev_iret dX11_plan_13 rfl rfl hp
theorem bX11_plan_22_0 {g : GG} {d n : Nat} {post : Option Value → LX → Prop} {X : LX} (hn : 146 ≤ n) (hX : Sh n X) {v1 : Int32} {s0 : Int32} (c0 : s0 = 0) (hp : post (some (.int (X 87 16))) X) : Ev g mX11_plan d n n post n 22 [some (.ref 0), some (.int v1), none] [.int s0] X := by
  refine ev_istore_n dX11_plan_22 (by decide) ?_
  refine ev_iload_n dX11_plan_23 rfl ?_
  refine ev_ifF (tgt := 37) dX11_plan_24 (by decide) c0 ?_
  refine ev_aload_n dX11_plan_27 rfl ?_
  refine ev_getS (q := 87) dX11_plan_28 fo_11_35 (by omega) lo_0 rfl (sh_0_3 hX (by omega)) (by decide) ?_
  refine ev_getI dX11_plan_31 fo_11_313 (by omega) lo_87 rfl ?_
  refine ev_goto (tgt := 38) dX11_plan_34 (by decide) ?_
  exact ev_iret dX11_plan_38 rfl rfl hp
theorem bX11_plan_22_1 {g : GG} {d n : Nat} {post : Option Value → LX → Prop} {X : LX} (hn : 146 ≤ n) (hX : Sh n X) {v1 : Int32} {s0 : Int32} (c0 : ¬ s0 = 0) (hp : post (some (.int s0)) X) : Ev g mX11_plan d n n post n 22 [some (.ref 0), some (.int v1), none] [.int s0] X := by
  refine ev_istore_n dX11_plan_22 (by decide) ?_
  refine ev_iload_n dX11_plan_23 rfl ?_
  refine ev_ifT (tgt := 37) dX11_plan_24 (by decide) c0 ?_
  refine ev_iload_n dX11_plan_37 rfl ?_
  exact ev_iret dX11_plan_38 rfl rfl hp
theorem bX12_plan_0_0 {g : GG} {d n : Nat} {post : Option Value → LX → Prop} {X : LX} (hd : 1 ≤ d) (hn : 146 ≤ n) (hX : Sh n X) {v1 : Int32} (c0 : 1 ≤ v1 ∧ v1 ≤ 5000) (k : Ev g mX12_plan d n n post n 16 [some (.ref 133), some (.int v1), none] [.int v1, .ref 133] X) : Ev g mX12_plan d n n post n 0 [some (.ref 133), some (.int v1), none] [] X := by
  refine ev_iload_n dX12_plan_0 rfl ?_
  refine ev_iconst (v := 1) dX12_plan_1 ki_1 ?_
  refine ev_sipush (v := 5000) dX12_plan_2 ks_5000 ?_
  refine e_Si (as := [.int v1, .int 1, .int 5000]) (rest := []) dX12_plan_5 vX12_within ml_12_52 stX12_within npX12_within (by decide) rfl (Nat.le_of_ble_eq_true rfl) (by omega) (t_X12_within (d := d - 1) (by omega) (by omega) hX c0) ?_
  refine ev_ifT (tgt := 14) dX12_plan_8 (by decide) (by show ¬ (1 : Int32) = 0; decide) ?_
  refine ev_aload_n dX12_plan_14 rfl ?_
  refine ev_iload_n dX12_plan_15 rfl ?_
  exact k
theorem bX12_plan_0_1 {g : GG} {d n : Nat} {post : Option Value → LX → Prop} {X : LX} (hd : 1 ≤ d) (hn : 146 ≤ n) (hX : Sh n X) {v1 : Int32} (c0 : ¬ (1 ≤ v1 ∧ v1 ≤ 5000)) (hp : post (some (.int (-1000000001))) X) : Ev g mX12_plan d n n post n 0 [some (.ref 133), some (.int v1), none] [] X := by
  refine ev_iload_n dX12_plan_0 rfl ?_
  refine ev_iconst (v := 1) dX12_plan_1 ki_1 ?_
  refine ev_sipush (v := 5000) dX12_plan_2 ks_5000 ?_
  refine e_Si (as := [.int v1, .int 1, .int 5000]) (rest := []) dX12_plan_5 vX12_within ml_12_52 stX12_within npX12_within (by decide) rfl (Nat.le_of_ble_eq_true rfl) (by omega) (f_X12_within (d := d - 1) (by omega) (by omega) hX c0) ?_
  refine ev_ifF (tgt := 14) dX12_plan_8 (by decide) (by show (0 : Int32) = 0; decide) ?_
  refine ev_ldc (v := (-1000000001)) dX12_plan_11 kw_12_57 ?_
  exact ev_iret dX12_plan_13 rfl rfl hp
theorem bX12_plan_19_0 {g : GG} {d n : Nat} {post : Option Value → LX → Prop} {X : LX} (hn : 146 ≤ n) (hX : Sh n X) {v1 : Int32} {s0 : Int32} (c0 : ¬ s0 = 0) (hp : post (some (.int s0)) X) : Ev g mX12_plan d n n post n 19 [some (.ref 133), some (.int v1), none] [.int s0] X := by
  refine ev_istore_n dX12_plan_19 (by decide) ?_
  refine ev_iload_n dX12_plan_20 rfl ?_
  refine ev_ifF (tgt := 28) dX12_plan_21 (by decide) c0 ?_
  refine ev_iload_n dX12_plan_24 rfl ?_
  refine ev_goto (tgt := 32) dX12_plan_25 (by decide) ?_
  exact ev_iret dX12_plan_32 rfl rfl hp
theorem bX12_plan_19_1 {g : GG} {d n : Nat} {post : Option Value → LX → Prop} {X : LX} (hn : 146 ≤ n) (hX : Sh n X) {v1 : Int32} {s0 : Int32} (c0 : s0 = 0) (hp : post (some (.int (X 133 28))) X) : Ev g mX12_plan d n n post n 19 [some (.ref 133), some (.int v1), none] [.int s0] X := by
  refine ev_istore_n dX12_plan_19 (by decide) ?_
  refine ev_iload_n dX12_plan_20 rfl ?_
  refine ev_ifT (tgt := 28) dX12_plan_21 (by decide) c0 ?_
  refine ev_aload_n dX12_plan_28 rfl ?_
  refine ev_getI dX12_plan_29 fo_12_273 (by omega) lo_133 rfl ?_
  exact ev_iret dX12_plan_32 rfl rfl hp
theorem bX11_swap_0_0 {g : GG} {d n : Nat} {post : Option Value → LX → Prop} {X : LX} (hd : 1 ≤ d) (hn : 146 ≤ n) (hX : Sh n X) {v1 : Int32} {v2 : Int32} (c0 : 1 ≤ v1 ∧ v1 ≤ 5000) (c1 : 0 ≤ v2 ∧ v2 < X 37 0) (k : Ev g mX11_swap d n n post n 33 [some (.ref 0), some (.int v1), some (.int v2), none] [.int v1, .ref 87] X) : Ev g mX11_swap d n n post n 0 [some (.ref 0), some (.int v1), some (.int v2), none] [] X := by
  refine ev_iload_n dX11_swap_0 rfl ?_
  refine ev_iconst (v := 1) dX11_swap_1 ki_1 ?_
  refine ev_sipush (v := 5000) dX11_swap_2 ks_5000 ?_
  refine e_Si (as := [.int v1, .int 1, .int 5000]) (rest := []) dX11_swap_5 vX11_isIn ml_11_57 stX11_isIn npX11_isIn (by decide) rfl (Nat.le_of_ble_eq_true rfl) (by omega) (t_X11_isIn (d := d - 1) (by omega) (by omega) hX c0) ?_
  refine ev_ifF (tgt := 25) dX11_swap_8 (by decide) (by show ¬ (1 : Int32) = 0; decide) ?_
  refine ev_aload_n dX11_swap_11 rfl ?_
  refine ev_getS (q := 1) dX11_swap_12 fo_11_10 (by omega) lo_0 rfl (sh_0_0 hX (by omega)) (by decide) ?_
  refine ev_getS (q := 37) dX11_swap_15 fo_11_144 (by omega) lo_1 rfl (sh_1_2 hX (by omega)) (by decide) ?_
  refine ev_iload_n dX11_swap_18 rfl ?_
  refine e_Vi (as := [.int v2]) (rest := []) dX11_swap_19 vX0_has ml_11_163 isX0_has seX0_has npX0_has (rc_37 (by omega)) (by decide) rfl (Nat.le_of_ble_eq_true rfl) (by omega) (t_X0_has (d := d - 1) (by omega) (by omega) hX c1) ?_
  refine ev_ifT (tgt := 28) dX11_swap_22 (by decide) (by show ¬ (1 : Int32) = 0; decide) ?_
  refine ev_aload_n dX11_swap_28 rfl ?_
  refine ev_getS (q := 87) dX11_swap_29 fo_11_35 (by omega) lo_0 rfl (sh_0_3 hX (by omega)) (by decide) ?_
  refine ev_iload_n dX11_swap_32 rfl ?_
  exact k
theorem bX11_swap_0_1 {g : GG} {d n : Nat} {post : Option Value → LX → Prop} {X : LX} (hd : 1 ≤ d) (hn : 146 ≤ n) (hX : Sh n X) {v1 : Int32} {v2 : Int32} (c0 : 1 ≤ v1 ∧ v1 ≤ 5000) (c1 : ¬ (0 ≤ v2 ∧ v2 < X 37 0)) (hp : post (some (.int (-1000000001))) X) : Ev g mX11_swap d n n post n 0 [some (.ref 0), some (.int v1), some (.int v2), none] [] X := by
  refine ev_iload_n dX11_swap_0 rfl ?_
  refine ev_iconst (v := 1) dX11_swap_1 ki_1 ?_
  refine ev_sipush (v := 5000) dX11_swap_2 ks_5000 ?_
  refine e_Si (as := [.int v1, .int 1, .int 5000]) (rest := []) dX11_swap_5 vX11_isIn ml_11_57 stX11_isIn npX11_isIn (by decide) rfl (Nat.le_of_ble_eq_true rfl) (by omega) (t_X11_isIn (d := d - 1) (by omega) (by omega) hX c0) ?_
  refine ev_ifF (tgt := 25) dX11_swap_8 (by decide) (by show ¬ (1 : Int32) = 0; decide) ?_
  refine ev_aload_n dX11_swap_11 rfl ?_
  refine ev_getS (q := 1) dX11_swap_12 fo_11_10 (by omega) lo_0 rfl (sh_0_0 hX (by omega)) (by decide) ?_
  refine ev_getS (q := 37) dX11_swap_15 fo_11_144 (by omega) lo_1 rfl (sh_1_2 hX (by omega)) (by decide) ?_
  refine ev_iload_n dX11_swap_18 rfl ?_
  refine e_Vi (as := [.int v2]) (rest := []) dX11_swap_19 vX0_has ml_11_163 isX0_has seX0_has npX0_has (rc_37 (by omega)) (by decide) rfl (Nat.le_of_ble_eq_true rfl) (by omega) (f_X0_has (d := d - 1) (by omega) (by omega) hX c1) ?_
  refine ev_ifF (tgt := 28) dX11_swap_22 (by decide) (by show (0 : Int32) = 0; decide) ?_
  refine ev_ldc (v := (-1000000001)) dX11_swap_25 kw_11_61 ?_
  exact ev_iret dX11_swap_27 rfl rfl hp
theorem bX11_swap_0_2 {g : GG} {d n : Nat} {post : Option Value → LX → Prop} {X : LX} (hd : 1 ≤ d) (hn : 146 ≤ n) (hX : Sh n X) {v1 : Int32} {v2 : Int32} (c0 : ¬ (1 ≤ v1 ∧ v1 ≤ 5000)) (hp : post (some (.int (-1000000001))) X) : Ev g mX11_swap d n n post n 0 [some (.ref 0), some (.int v1), some (.int v2), none] [] X := by
  refine ev_iload_n dX11_swap_0 rfl ?_
  refine ev_iconst (v := 1) dX11_swap_1 ki_1 ?_
  refine ev_sipush (v := 5000) dX11_swap_2 ks_5000 ?_
  refine e_Si (as := [.int v1, .int 1, .int 5000]) (rest := []) dX11_swap_5 vX11_isIn ml_11_57 stX11_isIn npX11_isIn (by decide) rfl (Nat.le_of_ble_eq_true rfl) (by omega) (f_X11_isIn (d := d - 1) (by omega) (by omega) hX c0) ?_
  refine ev_ifT (tgt := 25) dX11_swap_8 (by decide) (by show (0 : Int32) = 0; decide) ?_
  refine ev_ldc (v := (-1000000001)) dX11_swap_25 kw_11_61 ?_
  exact ev_iret dX11_swap_27 rfl rfl hp
theorem bX11_swap_36_0 {g : GG} {d n : Nat} {post : Option Value → LX → Prop} {X : LX} (hn : 146 ≤ n) (hX : Sh n X) {v1 : Int32} {v2 : Int32} {s0 : Int32} (c0 : ¬ s0 = 0) (hp : post (some (.int s0)) X) : Ev g mX11_swap d n n post n 36 [some (.ref 0), some (.int v1), some (.int v2), none] [.int s0] X := by
  refine ev_istore_n dX11_swap_36 (by decide) ?_
  refine ev_iload_n dX11_swap_37 rfl ?_
  refine ev_ifF (tgt := 43) dX11_swap_38 (by decide) c0 ?_
  refine ev_iload_n dX11_swap_41 rfl ?_
  exact ev_iret dX11_swap_42 rfl rfl hp
theorem bX11_swap_36_1 {g : GG} {d n : Nat} {post : Option Value → LX → Prop} {X : LX} (hn : 146 ≤ n) (hX : Sh n X) {v1 : Int32} {v2 : Int32} {s0 : Int32} (c0 : s0 = 0) (k : Ev g mX11_swap d n n post n 48 [some (.ref 0), some (.int v1), some (.int v2), some (.int s0)] [.int v2, .ref 87] X) : Ev g mX11_swap d n n post n 36 [some (.ref 0), some (.int v1), some (.int v2), none] [.int s0] X := by
  refine ev_istore_n dX11_swap_36 (by decide) ?_
  refine ev_iload_n dX11_swap_37 rfl ?_
  refine ev_ifT (tgt := 43) dX11_swap_38 (by decide) c0 ?_
  refine ev_aload_n dX11_swap_43 rfl ?_
  refine ev_getS (q := 87) dX11_swap_44 fo_11_35 (by omega) lo_0 rfl (sh_0_3 hX (by omega)) (by decide) ?_
  refine ev_iload_n dX11_swap_47 rfl ?_
  exact k
theorem bX11_swap_51_0 {g : GG} {d n : Nat} {post : Option Value → LX → Prop} {X : LX} (hn : 146 ≤ n) (hX : Sh n X) {v1 : Int32} {v2 : Int32} {v3 : Int32} {s0 : Int32} (c0 : s0 = 0) (hp : post (some (.int (-1000000005))) X) : Ev g mX11_swap d n n post n 51 [some (.ref 0), some (.int v1), some (.int v2), some (.int v3)] [.int s0] X := by
  refine ev_ifF (tgt := 58) dX11_swap_51 (by decide) c0 ?_
  refine ev_ldcw (v := (-1000000005)) dX11_swap_54 kw_11_319 ?_
  exact ev_iret dX11_swap_57 rfl rfl hp
theorem bX11_swap_51_1 {g : GG} {d n : Nat} {post : Option Value → LX → Prop} {X : LX} (hn : 146 ≤ n) (hX : Sh n X) {v1 : Int32} {v2 : Int32} {v3 : Int32} {s0 : Int32} (c0 : ¬ s0 = 0) (k : Ev g mX11_swap d n n post n 65 [some (.ref 0), some (.int v1), some (.int v2), some (.int v3)] [.int v2, .ref 87, .int 100] X) : Ev g mX11_swap d n n post n 51 [some (.ref 0), some (.int v1), some (.int v2), some (.int v3)] [.int s0] X := by
  refine ev_ifT (tgt := 58) dX11_swap_51 (by decide) c0 ?_
  refine ev_bipush (v := 100) dX11_swap_58 kb_100 ?_
  refine ev_aload_n dX11_swap_60 rfl ?_
  refine ev_getS (q := 87) dX11_swap_61 fo_11_35 (by omega) lo_0 rfl (sh_0_3 hX (by omega)) (by decide) ?_
  refine ev_iload_n dX11_swap_64 rfl ?_
  exact k
theorem bX11_swap_68_0 {g : GG} {d n : Nat} {post : Option Value → LX → Prop} {X : LX} (hn : 146 ≤ n) (hX : Sh n X) {v1 : Int32} {v2 : Int32} {v3 : Int32} {s0 : Int32} {s1 : Int32} (k : Ev g mX11_swap d n n post n 74 [some (.ref 0), some (.int v1), some (.int v2), some (.int v3)] [.int v2, .ref 87, .int (s0 * s1)] X) : Ev g mX11_swap d n n post n 68 [some (.ref 0), some (.int v1), some (.int v2), some (.int v3)] [.int s1, .int s0] X := by
  refine ev_imul dX11_swap_68 ?_
  refine ev_aload_n dX11_swap_69 rfl ?_
  refine ev_getS (q := 87) dX11_swap_70 fo_11_35 (by omega) lo_0 rfl (sh_0_3 hX (by omega)) (by decide) ?_
  refine ev_iload_n dX11_swap_73 rfl ?_
  exact k
theorem bX11_swap_77_0 {g : GG} {d n : Nat} {post : Option Value → LX → Prop} {X : LX} (hn : 146 ≤ n) (hX : Sh n X) {v1 : Int32} {v2 : Int32} {v3 : Int32} {s0 : Int32} {s1 : Int32} (hp : post (some (.int (s0 + s1))) X) : Ev g mX11_swap d n n post n 77 [some (.ref 0), some (.int v1), some (.int v2), some (.int v3)] [.int s1, .int s0] X := by
  refine ev_iadd dX11_swap_77 ?_
  exact ev_iret dX11_swap_78 rfl rfl hp
theorem bX12_swap_0_0 {g : GG} {d n : Nat} {post : Option Value → LX → Prop} {X : LX} (hd : 2 ≤ d) (hn : 146 ≤ n) (hX : Sh n X) {v1 : Int32} {v2 : Int32} (c0 : 1 ≤ v1 ∧ v1 ≤ 5000) (c1 : 0 ≤ v2 ∧ v2 ≤ X 134 6 - 1) (k : Ev g mX12_swap d n n post n 24 [some (.ref 133), some (.int v1), some (.int v2), none] [.int v1, .ref 133] X) : Ev g mX12_swap d n n post n 0 [some (.ref 133), some (.int v1), some (.int v2), none] [] X := by
  refine ev_iload_n dX12_swap_0 rfl ?_
  refine ev_iconst (v := 1) dX12_swap_1 ki_1 ?_
  refine ev_sipush (v := 5000) dX12_swap_2 ks_5000 ?_
  refine e_Si (as := [.int v1, .int 1, .int 5000]) (rest := []) dX12_swap_5 vX12_within ml_12_52 stX12_within npX12_within (by decide) rfl (Nat.le_of_ble_eq_true rfl) (by omega) (t_X12_within (d := d - 1) (by omega) (by omega) hX c0) ?_
  refine ev_ifF (tgt := 19) dX12_swap_8 (by decide) (by show ¬ (1 : Int32) = 0; decide) ?_
  refine ev_aload_n dX12_swap_11 rfl ?_
  refine ev_iload_n dX12_swap_12 rfl ?_
  refine e_Vi (as := [.int v2]) (rest := []) dX12_swap_13 vX12_isFamily ml_12_102 isX12_isFamily seX12_isFamily npX12_isFamily (rc_133 (by omega)) (by decide) rfl (Nat.le_of_ble_eq_true rfl) (by omega) (t_X12_isFamily (d := d - 1) (by omega) (by omega) hX c1) ?_
  refine ev_ifT (tgt := 22) dX12_swap_16 (by decide) (by show ¬ (1 : Int32) = 0; decide) ?_
  refine ev_aload_n dX12_swap_22 rfl ?_
  refine ev_iload_n dX12_swap_23 rfl ?_
  exact k
theorem bX12_swap_0_1 {g : GG} {d n : Nat} {post : Option Value → LX → Prop} {X : LX} (hd : 2 ≤ d) (hn : 146 ≤ n) (hX : Sh n X) {v1 : Int32} {v2 : Int32} (c0 : 1 ≤ v1 ∧ v1 ≤ 5000) (c1 : ¬ (0 ≤ v2 ∧ v2 ≤ X 134 6 - 1)) (hp : post (some (.int (-1000000001))) X) : Ev g mX12_swap d n n post n 0 [some (.ref 133), some (.int v1), some (.int v2), none] [] X := by
  refine ev_iload_n dX12_swap_0 rfl ?_
  refine ev_iconst (v := 1) dX12_swap_1 ki_1 ?_
  refine ev_sipush (v := 5000) dX12_swap_2 ks_5000 ?_
  refine e_Si (as := [.int v1, .int 1, .int 5000]) (rest := []) dX12_swap_5 vX12_within ml_12_52 stX12_within npX12_within (by decide) rfl (Nat.le_of_ble_eq_true rfl) (by omega) (t_X12_within (d := d - 1) (by omega) (by omega) hX c0) ?_
  refine ev_ifF (tgt := 19) dX12_swap_8 (by decide) (by show ¬ (1 : Int32) = 0; decide) ?_
  refine ev_aload_n dX12_swap_11 rfl ?_
  refine ev_iload_n dX12_swap_12 rfl ?_
  refine e_Vi (as := [.int v2]) (rest := []) dX12_swap_13 vX12_isFamily ml_12_102 isX12_isFamily seX12_isFamily npX12_isFamily (rc_133 (by omega)) (by decide) rfl (Nat.le_of_ble_eq_true rfl) (by omega) (f_X12_isFamily (d := d - 1) (by omega) (by omega) hX c1) ?_
  refine ev_ifF (tgt := 22) dX12_swap_16 (by decide) (by show (0 : Int32) = 0; decide) ?_
  refine ev_ldc (v := (-1000000001)) dX12_swap_19 kw_12_57 ?_
  exact ev_iret dX12_swap_21 rfl rfl hp
theorem bX12_swap_0_2 {g : GG} {d n : Nat} {post : Option Value → LX → Prop} {X : LX} (hd : 1 ≤ d) (hn : 146 ≤ n) (hX : Sh n X) {v1 : Int32} {v2 : Int32} (c0 : ¬ (1 ≤ v1 ∧ v1 ≤ 5000)) (hp : post (some (.int (-1000000001))) X) : Ev g mX12_swap d n n post n 0 [some (.ref 133), some (.int v1), some (.int v2), none] [] X := by
  refine ev_iload_n dX12_swap_0 rfl ?_
  refine ev_iconst (v := 1) dX12_swap_1 ki_1 ?_
  refine ev_sipush (v := 5000) dX12_swap_2 ks_5000 ?_
  refine e_Si (as := [.int v1, .int 1, .int 5000]) (rest := []) dX12_swap_5 vX12_within ml_12_52 stX12_within npX12_within (by decide) rfl (Nat.le_of_ble_eq_true rfl) (by omega) (f_X12_within (d := d - 1) (by omega) (by omega) hX c0) ?_
  refine ev_ifT (tgt := 19) dX12_swap_8 (by decide) (by show (0 : Int32) = 0; decide) ?_
  refine ev_ldc (v := (-1000000001)) dX12_swap_19 kw_12_57 ?_
  exact ev_iret dX12_swap_21 rfl rfl hp
theorem bX12_swap_27_0 {g : GG} {d n : Nat} {post : Option Value → LX → Prop} {X : LX} (hn : 146 ≤ n) (hX : Sh n X) {v1 : Int32} {v2 : Int32} {s0 : Int32} (c0 : ¬ s0 = 0) (hp : post (some (.int s0)) X) : Ev g mX12_swap d n n post n 27 [some (.ref 133), some (.int v1), some (.int v2), none] [.int s0] X := by
  refine ev_istore_n dX12_swap_27 (by decide) ?_
  refine ev_iload_n dX12_swap_28 rfl ?_
  refine ev_ifF (tgt := 36) dX12_swap_29 (by decide) c0 ?_
  refine ev_iload_n dX12_swap_32 rfl ?_
  refine ev_goto (tgt := 57) dX12_swap_33 (by decide) ?_
  exact ev_iret dX12_swap_57 rfl rfl hp
theorem bX12_swap_27_1 {g : GG} {d n : Nat} {post : Option Value → LX → Prop} {X : LX} (hn : 146 ≤ n) (hX : Sh n X) {v1 : Int32} {v2 : Nat} {s0 : Int32} (c0 : s0 = 0) (b0 : v2 < 12) (c1 : ¬ 0 ≤ X 144 v2) (hp : post (some (.int (-1000000005))) X) : Ev g mX12_swap d n n post n 27 [some (.ref 133), some (.int v1), some (.int (nI v2)), none] [.int s0] X := by
  refine ev_istore_n dX12_swap_27 (by decide) ?_
  refine ev_iload_n dX12_swap_28 rfl ?_
  refine ev_ifT (tgt := 36) dX12_swap_29 (by decide) c0 ?_
  refine ev_aload_n dX12_swap_36 rfl ?_
  refine ev_getS (q := 144) dX12_swap_37 fo_12_46 (by omega) lo_133 rfl (sh_133_27 hX (by omega)) (by decide) ?_
  refine ev_iload_n dX12_swap_40 rfl ?_
  refine ev_iald dX12_swap_41 (by omega) ly_144 rfl b0 ?_
  refine ev_ifF (tgt := 51) dX12_swap_42 (by decide) c1 ?_
  refine ev_ldcw (v := (-1000000005)) dX12_swap_45 kw_12_300 ?_
  refine ev_goto (tgt := 57) dX12_swap_48 (by decide) ?_
  exact ev_iret dX12_swap_57 rfl rfl hp
theorem bX12_swap_27_2 {g : GG} {d n : Nat} {post : Option Value → LX → Prop} {X : LX} (hn : 146 ≤ n) (hX : Sh n X) {v1 : Int32} {v2 : Nat} {s0 : Int32} (c0 : s0 = 0) (b0 : v2 < 12) (c1 : 0 ≤ X 144 v2) (hp : post (some (.int (X 144 v2))) X) : Ev g mX12_swap d n n post n 27 [some (.ref 133), some (.int v1), some (.int (nI v2)), none] [.int s0] X := by
  refine ev_istore_n dX12_swap_27 (by decide) ?_
  refine ev_iload_n dX12_swap_28 rfl ?_
  refine ev_ifT (tgt := 36) dX12_swap_29 (by decide) c0 ?_
  refine ev_aload_n dX12_swap_36 rfl ?_
  refine ev_getS (q := 144) dX12_swap_37 fo_12_46 (by omega) lo_133 rfl (sh_133_27 hX (by omega)) (by decide) ?_
  refine ev_iload_n dX12_swap_40 rfl ?_
  refine ev_iald dX12_swap_41 (by omega) ly_144 rfl b0 ?_
  refine ev_ifT (tgt := 51) dX12_swap_42 (by decide) c1 ?_
  refine ev_aload_n dX12_swap_51 rfl ?_
  refine ev_getS (q := 144) dX12_swap_52 fo_12_46 (by omega) lo_133 rfl (sh_133_27 hX (by omega)) (by decide) ?_
  refine ev_iload_n dX12_swap_55 rfl ?_
  refine ev_iald dX12_swap_56 (by omega) ly_144 rfl b0 ?_
  exact ev_iret dX12_swap_57 rfl rfl hp
theorem bX11_pack_0_0 {g : GG} {d n : Nat} {post : Option Value → LX → Prop} {X : LX} (hd : 1 ≤ d) (hn : 146 ≤ n) (hX : Sh n X) {v1 : Int32} (c0 : 1 ≤ v1 ∧ v1 ≤ 5000) (c1 : ¬ X 1 8 = 0) (hp : post (some (.int (-1000000002))) X) : Ev g mX11_pack d n n post n 0 [some (.ref 0), some (.int v1), none] [] X := by
  refine ev_iload_n dX11_pack_0 rfl ?_
  refine ev_iconst (v := 1) dX11_pack_1 ki_1 ?_
  refine ev_sipush (v := 5000) dX11_pack_2 ks_5000 ?_
  refine e_Si (as := [.int v1, .int 1, .int 5000]) (rest := []) dX11_pack_5 vX11_isIn ml_11_57 stX11_isIn npX11_isIn (by decide) rfl (Nat.le_of_ble_eq_true rfl) (by omega) (t_X11_isIn (d := d - 1) (by omega) (by omega) hX c0) ?_
  refine ev_ifT (tgt := 14) dX11_pack_8 (by decide) (by show ¬ (1 : Int32) = 0; decide) ?_
  refine ev_aload_n dX11_pack_14 rfl ?_
  refine ev_getS (q := 1) dX11_pack_15 fo_11_10 (by omega) lo_0 rfl (sh_0_0 hX (by omega)) (by decide) ?_
  refine ev_getI dX11_pack_18 fo_11_196 (by omega) lo_1 rfl ?_
  refine ev_ifF (tgt := 27) dX11_pack_21 (by decide) c1 ?_
  refine ev_ldc (v := (-1000000002)) dX11_pack_24 kw_11_124 ?_
  exact ev_iret dX11_pack_26 rfl rfl hp
theorem bX11_pack_0_1 {g : GG} {d n : Nat} {post : Option Value → LX → Prop} {X : LX} (hd : 1 ≤ d) (hn : 146 ≤ n) (hX : Sh n X) {v1 : Int32} (c0 : 1 ≤ v1 ∧ v1 ≤ 5000) (c1 : X 1 8 = 0) (k : Ev g mX11_pack d n n post n 32 [some (.ref 0), some (.int v1), none] [.int v1, .ref 87] X) : Ev g mX11_pack d n n post n 0 [some (.ref 0), some (.int v1), none] [] X := by
  refine ev_iload_n dX11_pack_0 rfl ?_
  refine ev_iconst (v := 1) dX11_pack_1 ki_1 ?_
  refine ev_sipush (v := 5000) dX11_pack_2 ks_5000 ?_
  refine e_Si (as := [.int v1, .int 1, .int 5000]) (rest := []) dX11_pack_5 vX11_isIn ml_11_57 stX11_isIn npX11_isIn (by decide) rfl (Nat.le_of_ble_eq_true rfl) (by omega) (t_X11_isIn (d := d - 1) (by omega) (by omega) hX c0) ?_
  refine ev_ifT (tgt := 14) dX11_pack_8 (by decide) (by show ¬ (1 : Int32) = 0; decide) ?_
  refine ev_aload_n dX11_pack_14 rfl ?_
  refine ev_getS (q := 1) dX11_pack_15 fo_11_10 (by omega) lo_0 rfl (sh_0_0 hX (by omega)) (by decide) ?_
  refine ev_getI dX11_pack_18 fo_11_196 (by omega) lo_1 rfl ?_
  refine ev_ifT (tgt := 27) dX11_pack_21 (by decide) c1 ?_
  refine ev_aload_n dX11_pack_27 rfl ?_
  refine ev_getS (q := 87) dX11_pack_28 fo_11_35 (by omega) lo_0 rfl (sh_0_3 hX (by omega)) (by decide) ?_
  refine ev_iload_n dX11_pack_31 rfl ?_
  exact k
theorem bX11_pack_0_2 {g : GG} {d n : Nat} {post : Option Value → LX → Prop} {X : LX} (hd : 1 ≤ d) (hn : 146 ≤ n) (hX : Sh n X) {v1 : Int32} (c0 : ¬ (1 ≤ v1 ∧ v1 ≤ 5000)) (hp : post (some (.int (-1000000001))) X) : Ev g mX11_pack d n n post n 0 [some (.ref 0), some (.int v1), none] [] X := by
  refine ev_iload_n dX11_pack_0 rfl ?_
  refine ev_iconst (v := 1) dX11_pack_1 ki_1 ?_
  refine ev_sipush (v := 5000) dX11_pack_2 ks_5000 ?_
  refine e_Si (as := [.int v1, .int 1, .int 5000]) (rest := []) dX11_pack_5 vX11_isIn ml_11_57 stX11_isIn npX11_isIn (by decide) rfl (Nat.le_of_ble_eq_true rfl) (by omega) (f_X11_isIn (d := d - 1) (by omega) (by omega) hX c0) ?_
  refine ev_ifF (tgt := 14) dX11_pack_8 (by decide) (by show (0 : Int32) = 0; decide) ?_
  refine ev_ldc (v := (-1000000001)) dX11_pack_11 kw_11_61 ?_
  exact ev_iret dX11_pack_13 rfl rfl hp
theorem bX11_pack_35_0 {g : GG} {d n : Nat} {post : Option Value → LX → Prop} {X : LX} (hn : 146 ≤ n) (hX : Sh n X) {v1 : Int32} {s0 : Int32} (c0 : s0 = 0) (k : Ev g mX11_pack d n n post n 44 [some (.ref 0), some (.int v1), some (.int s0)] [.ref 87] X) : Ev g mX11_pack d n n post n 35 [some (.ref 0), some (.int v1), none] [.int s0] X := by
  refine ev_istore_n dX11_pack_35 (by decide) ?_
  refine ev_iload_n dX11_pack_36 rfl ?_
  refine ev_ifF (tgt := 50) dX11_pack_37 (by decide) c0 ?_
  refine ev_aload_n dX11_pack_40 rfl ?_
  refine ev_getS (q := 87) dX11_pack_41 fo_11_35 (by omega) lo_0 rfl (sh_0_3 hX (by omega)) (by decide) ?_
  exact k
theorem bX11_pack_35_1 {g : GG} {d n : Nat} {post : Option Value → LX → Prop} {X : LX} (hn : 146 ≤ n) (hX : Sh n X) {v1 : Int32} {s0 : Int32} (c0 : ¬ s0 = 0) (hp : post (some (.int s0)) X) : Ev g mX11_pack d n n post n 35 [some (.ref 0), some (.int v1), none] [.int s0] X := by
  refine ev_istore_n dX11_pack_35 (by decide) ?_
  refine ev_iload_n dX11_pack_36 rfl ?_
  refine ev_ifT (tgt := 50) dX11_pack_37 (by decide) c0 ?_
  refine ev_iload_n dX11_pack_50 rfl ?_
  exact ev_iret dX11_pack_51 rfl rfl hp
theorem bX11_pack_47_0 {g : GG} {d n : Nat} {post : Option Value → LX → Prop} {X : LX} (hn : 146 ≤ n) (hX : Sh n X) {v1 : Int32} {v2 : Int32} {s0 : Int32} (hp : post (some (.int s0)) X) : Ev g mX11_pack d n n post n 47 [some (.ref 0), some (.int v1), some (.int v2)] [.int s0] X := by
  refine ev_goto (tgt := 51) dX11_pack_47 (by decide) ?_
  exact ev_iret dX11_pack_51 rfl rfl hp
theorem bX12_pack_0_0 {g : GG} {d n : Nat} {post : Option Value → LX → Prop} {X : LX} (hd : 1 ≤ d) (hn : 146 ≤ n) (hX : Sh n X) {v1 : Int32} (c0 : 1 ≤ v1 ∧ v1 ≤ 5000) (c1 : X 134 3 = 1) (hp : post (some (.int (-1000000002))) X) : Ev g mX12_pack d n n post n 0 [some (.ref 133), some (.int v1), none, none, none, none] [] X := by
  refine ev_iload_n dX12_pack_0 rfl ?_
  refine ev_iconst (v := 1) dX12_pack_1 ki_1 ?_
  refine ev_sipush (v := 5000) dX12_pack_2 ks_5000 ?_
  refine e_Si (as := [.int v1, .int 1, .int 5000]) (rest := []) dX12_pack_5 vX12_within ml_12_52 stX12_within npX12_within (by decide) rfl (Nat.le_of_ble_eq_true rfl) (by omega) (t_X12_within (d := d - 1) (by omega) (by omega) hX c0) ?_
  refine ev_ifT (tgt := 14) dX12_pack_8 (by decide) (by show ¬ (1 : Int32) = 0; decide) ?_
  refine ev_aload_n dX12_pack_14 rfl ?_
  refine ev_getS (q := 134) dX12_pack_15 fo_12_9 (by omega) lo_133 rfl (sh_133_0 hX (by omega)) (by decide) ?_
  refine ev_iconst (v := 3) dX12_pack_18 ki_3 ?_
  refine ev_iald dX12_pack_19 (by omega) ly_134 nIl_3 (by decide) ?_
  refine ev_iconst (v := 1) dX12_pack_20 ki_1 ?_
  refine ev_icmpF (tgt := 27) dX12_pack_21 (by decide) c1 ?_
  refine ev_ldc (v := (-1000000002)) dX12_pack_24 kw_12_80 ?_
  exact ev_iret dX12_pack_26 rfl rfl hp
theorem bX12_pack_0_1 {g : GG} {d n : Nat} {post : Option Value → LX → Prop} {X : LX} (hd : 1 ≤ d) (hn : 146 ≤ n) (hX : Sh n X) {v1 : Int32} (c0 : 1 ≤ v1 ∧ v1 ≤ 5000) (c1 : ¬ X 134 3 = 1) (k : Ev g mX12_pack d n n post n 29 [some (.ref 133), some (.int v1), none, none, none, none] [.int v1, .ref 133] X) : Ev g mX12_pack d n n post n 0 [some (.ref 133), some (.int v1), none, none, none, none] [] X := by
  refine ev_iload_n dX12_pack_0 rfl ?_
  refine ev_iconst (v := 1) dX12_pack_1 ki_1 ?_
  refine ev_sipush (v := 5000) dX12_pack_2 ks_5000 ?_
  refine e_Si (as := [.int v1, .int 1, .int 5000]) (rest := []) dX12_pack_5 vX12_within ml_12_52 stX12_within npX12_within (by decide) rfl (Nat.le_of_ble_eq_true rfl) (by omega) (t_X12_within (d := d - 1) (by omega) (by omega) hX c0) ?_
  refine ev_ifT (tgt := 14) dX12_pack_8 (by decide) (by show ¬ (1 : Int32) = 0; decide) ?_
  refine ev_aload_n dX12_pack_14 rfl ?_
  refine ev_getS (q := 134) dX12_pack_15 fo_12_9 (by omega) lo_133 rfl (sh_133_0 hX (by omega)) (by decide) ?_
  refine ev_iconst (v := 3) dX12_pack_18 ki_3 ?_
  refine ev_iald dX12_pack_19 (by omega) ly_134 nIl_3 (by decide) ?_
  refine ev_iconst (v := 1) dX12_pack_20 ki_1 ?_
  refine ev_icmpT (tgt := 27) dX12_pack_21 (by decide) c1 ?_
  refine ev_aload_n dX12_pack_27 rfl ?_
  refine ev_iload_n dX12_pack_28 rfl ?_
  exact k
theorem bX12_pack_0_2 {g : GG} {d n : Nat} {post : Option Value → LX → Prop} {X : LX} (hd : 1 ≤ d) (hn : 146 ≤ n) (hX : Sh n X) {v1 : Int32} (c0 : ¬ (1 ≤ v1 ∧ v1 ≤ 5000)) (hp : post (some (.int (-1000000001))) X) : Ev g mX12_pack d n n post n 0 [some (.ref 133), some (.int v1), none, none, none, none] [] X := by
  refine ev_iload_n dX12_pack_0 rfl ?_
  refine ev_iconst (v := 1) dX12_pack_1 ki_1 ?_
  refine ev_sipush (v := 5000) dX12_pack_2 ks_5000 ?_
  refine e_Si (as := [.int v1, .int 1, .int 5000]) (rest := []) dX12_pack_5 vX12_within ml_12_52 stX12_within npX12_within (by decide) rfl (Nat.le_of_ble_eq_true rfl) (by omega) (f_X12_within (d := d - 1) (by omega) (by omega) hX c0) ?_
  refine ev_ifF (tgt := 14) dX12_pack_8 (by decide) (by show (0 : Int32) = 0; decide) ?_
  refine ev_ldc (v := (-1000000001)) dX12_pack_11 kw_12_57 ?_
  exact ev_iret dX12_pack_13 rfl rfl hp
theorem bX12_pack_32_0 {g : GG} {d n : Nat} {post : Option Value → LX → Prop} {X : LX} (hn : 146 ≤ n) (hX : Sh n X) {v1 : Int32} {s0 : Int32} (c0 : ¬ s0 = 0) (hp : post (some (.int s0)) X) : Ev g mX12_pack d n n post n 32 [some (.ref 133), some (.int v1), none, none, none, none] [.int s0] X := by
  refine ev_istore_n dX12_pack_32 (by decide) ?_
  refine ev_iload_n dX12_pack_33 rfl ?_
  refine ev_ifF (tgt := 39) dX12_pack_34 (by decide) c0 ?_
  refine ev_iload_n dX12_pack_37 rfl ?_
  exact ev_iret dX12_pack_38 rfl rfl hp
theorem bX12_pack_32_1 {g : GG} {d n : Nat} {post : Option Value → LX → Prop} {X : LX} (hn : 146 ≤ n) (hX : Sh n X) {v1 : Int32} {s0 : Int32} (c0 : s0 = 0) (k : Ev g mX12_pack d n n post n 44 [some (.ref 133), some (.int v1), some (.int s0), some (.int 0), some (.int 0), none] [] X) : Ev g mX12_pack d n n post n 32 [some (.ref 133), some (.int v1), none, none, none, none] [.int s0] X := by
  refine ev_istore_n dX12_pack_32 (by decide) ?_
  refine ev_iload_n dX12_pack_33 rfl ?_
  refine ev_ifT (tgt := 39) dX12_pack_34 (by decide) c0 ?_
  refine ev_iconst (v := 0) dX12_pack_39 ki_0 ?_
  refine ev_istore_n dX12_pack_40 (by decide) ?_
  refine ev_iconst (v := 0) dX12_pack_41 ki_0 ?_
  refine ev_istore dX12_pack_42 (by decide) ?_
  exact k
theorem bX12_pack_44_0 {g : GG} {d n : Nat} {post : Option Value → LX → Prop} {X : LX} (hn : 146 ≤ n) (hX : Sh n X) {v1 : Int32} {v2 : Int32} {v3 : Int32} {v4 : Nat} (c0 : ¬ X 134 6 ≤ nI v4) (b0 : v4 < 12) (c1 : ¬ X 144 v4 < 0) (k : Ev g mX12_pack d n n post n 89 [some (.ref 133), some (.int v1), some (.int v2), some (.int v3), some (.int (nI v4)), none] [.int ((X 144 v4) - (X 144 v4) / 100 * 100), .int ((X 144 v4) / 100), .int (nI v4), .ref 133] X) : Ev g mX12_pack d n n post n 44 [some (.ref 133), some (.int v1), some (.int v2), some (.int v3), some (.int (nI v4)), none] [] X := by
  refine ev_iload dX12_pack_44 rfl ?_
  refine ev_aload_n dX12_pack_46 rfl ?_
  refine ev_getS (q := 134) dX12_pack_47 fo_12_9 (by omega) lo_133 rfl (sh_133_0 hX (by omega)) (by decide) ?_
  refine ev_bipush (v := 6) dX12_pack_50 kb_6 ?_
  refine ev_iald dX12_pack_52 (by omega) ly_134 nIl_6 (by decide) ?_
  refine ev_icmpF (tgt := 155) dX12_pack_53 (by decide) c0 ?_
  refine ev_aload_n dX12_pack_56 rfl ?_
  refine ev_getS (q := 144) dX12_pack_57 fo_12_46 (by omega) lo_133 rfl (sh_133_27 hX (by omega)) (by decide) ?_
  refine ev_iload dX12_pack_60 rfl ?_
  refine ev_iald dX12_pack_62 (by omega) ly_144 rfl b0 ?_
  refine ev_ifF (tgt := 92) dX12_pack_63 (by decide) c1 ?_
  refine ev_aload_n dX12_pack_66 rfl ?_
  refine ev_iload dX12_pack_67 rfl ?_
  refine ev_aload_n dX12_pack_69 rfl ?_
  refine ev_getS (q := 144) dX12_pack_70 fo_12_46 (by omega) lo_133 rfl (sh_133_27 hX (by omega)) (by decide) ?_
  refine ev_iload dX12_pack_73 rfl ?_
  refine ev_iald dX12_pack_75 (by omega) ly_144 rfl b0 ?_
  refine ev_bipush (v := 100) dX12_pack_76 kb_100 ?_
  refine ev_idiv dX12_pack_78 (by decide) ?_
  refine ev_aload_n dX12_pack_79 rfl ?_
  refine ev_getS (q := 144) dX12_pack_80 fo_12_46 (by omega) lo_133 rfl (sh_133_27 hX (by omega)) (by decide) ?_
  refine ev_iload dX12_pack_83 rfl ?_
  refine ev_iald dX12_pack_85 (by omega) ly_144 rfl b0 ?_
  refine ev_bipush (v := 100) dX12_pack_86 kb_100 ?_
  refine ev_irem dX12_pack_88 (by decide) ?_
  exact k
theorem bX12_pack_44_1 {g : GG} {d n : Nat} {post : Option Value → LX → Prop} {X : LX} (hn : 146 ≤ n) (hX : Sh n X) {v1 : Int32} {v2 : Int32} {v3 : Int32} {v4 : Nat} (c0 : ¬ X 134 6 ≤ nI v4) (b0 : v4 < 12) (c1 : X 144 v4 < 0) (k : Ev g mX12_pack d n n post n 95 [some (.ref 133), some (.int v1), some (.int v2), some (.int v3), some (.int (nI v4)), some (.int 0)] [] X) : Ev g mX12_pack d n n post n 44 [some (.ref 133), some (.int v1), some (.int v2), some (.int v3), some (.int (nI v4)), none] [] X := by
  refine ev_iload dX12_pack_44 rfl ?_
  refine ev_aload_n dX12_pack_46 rfl ?_
  refine ev_getS (q := 134) dX12_pack_47 fo_12_9 (by omega) lo_133 rfl (sh_133_0 hX (by omega)) (by decide) ?_
  refine ev_bipush (v := 6) dX12_pack_50 kb_6 ?_
  refine ev_iald dX12_pack_52 (by omega) ly_134 nIl_6 (by decide) ?_
  refine ev_icmpF (tgt := 155) dX12_pack_53 (by decide) c0 ?_
  refine ev_aload_n dX12_pack_56 rfl ?_
  refine ev_getS (q := 144) dX12_pack_57 fo_12_46 (by omega) lo_133 rfl (sh_133_27 hX (by omega)) (by decide) ?_
  refine ev_iload dX12_pack_60 rfl ?_
  refine ev_iald dX12_pack_62 (by omega) ly_144 rfl b0 ?_
  refine ev_ifT (tgt := 92) dX12_pack_63 (by decide) c1 ?_
  refine ev_iconst (v := 0) dX12_pack_92 ki_0 ?_
  refine ev_istore dX12_pack_93 (by decide) ?_
  exact k
theorem bX12_pack_44_2 {g : GG} {d n : Nat} {post : Option Value → LX → Prop} {X : LX} (hn : 146 ≤ n) (hX : Sh n X) {v1 : Int32} {v2 : Int32} {v3 : Int32} {v4 : Int32} (c0 : X 134 6 ≤ v4) (k : Ev g mX12_pack d n n post n 158 [some (.ref 133), some (.int v1), some (.int v2), some (.int v3), some (.int 0), none] [] X) : Ev g mX12_pack d n n post n 44 [some (.ref 133), some (.int v1), some (.int v2), some (.int v3), some (.int v4), none] [] X := by
  refine ev_iload dX12_pack_44 rfl ?_
  refine ev_aload_n dX12_pack_46 rfl ?_
  refine ev_getS (q := 134) dX12_pack_47 fo_12_9 (by omega) lo_133 rfl (sh_133_0 hX (by omega)) (by decide) ?_
  refine ev_bipush (v := 6) dX12_pack_50 kb_6 ?_
  refine ev_iald dX12_pack_52 (by omega) ly_134 nIl_6 (by decide) ?_
  refine ev_icmpT (tgt := 155) dX12_pack_53 (by decide) c0 ?_
  refine ev_iconst (v := 0) dX12_pack_155 ki_0 ?_
  refine ev_istore dX12_pack_156 (by decide) ?_
  exact k
theorem bX12_pack_92_0 {g : GG} {d n : Nat} {post : Option Value → LX → Prop} {X : LX} (hn : 146 ≤ n) (hX : Sh n X) {v1 : Int32} {v2 : Int32} {v3 : Int32} {v4 : Int32} (k : Ev g mX12_pack d n n post n 95 [some (.ref 133), some (.int v1), some (.int v2), some (.int v3), some (.int v4), some (.int 0)] [] X) : Ev g mX12_pack d n n post n 92 [some (.ref 133), some (.int v1), some (.int v2), some (.int v3), some (.int v4), none] [] X := by
  refine ev_iconst (v := 0) dX12_pack_92 ki_0 ?_
  refine ev_istore dX12_pack_93 (by decide) ?_
  exact k
theorem bX12_pack_95_0 {g : GG} {d n : Nat} {post : Option Value → LX → Prop} {X : LX} (hn : 146 ≤ n) (hX : Sh n X) {v1 : Int32} {v2 : Int32} {v3 : Int32} {v4 : Nat} {v5 : Nat} (c0 : ¬ X 134 4 ≤ nI v5) (b0 : ((14 * v4) + v5) < 168) (k : Ev g mX12_pack d n n post n 124 [some (.ref 133), some (.int v1), some (.int v2), some (.int v3), some (.int (nI v4)), some (.int (nI v5))] [.int (X 140 ((14 * v4) + v5)), .int (nI v5), .int (nI v4), .ref 133] X) : Ev g mX12_pack d n n post n 95 [some (.ref 133), some (.int v1), some (.int v2), some (.int v3), some (.int (nI v4)), some (.int (nI v5))] [] X := by
  refine ev_iload dX12_pack_95 rfl ?_
  refine ev_aload_n dX12_pack_97 rfl ?_
  refine ev_getS (q := 134) dX12_pack_98 fo_12_9 (by omega) lo_133 rfl (sh_133_0 hX (by omega)) (by decide) ?_
  refine ev_iconst (v := 4) dX12_pack_101 ki_4 ?_
  refine ev_iald dX12_pack_102 (by omega) ly_134 nIl_4 (by decide) ?_
  refine ev_icmpF (tgt := 149) dX12_pack_103 (by decide) c0 ?_
  refine ev_aload_n dX12_pack_106 rfl ?_
  refine ev_iload dX12_pack_107 rfl ?_
  refine ev_iload dX12_pack_109 rfl ?_
  refine ev_aload_n dX12_pack_111 rfl ?_
  refine ev_getS (q := 140) dX12_pack_112 fo_12_28 (by omega) lo_133 rfl (sh_133_9 hX (by omega)) (by decide) ?_
  refine ev_bipush (v := 14) dX12_pack_115 kb_14 ?_
  refine ev_iload dX12_pack_117 rfl ?_
  refine ev_imul dX12_pack_119 ?_
  refine ev_iload dX12_pack_120 rfl ?_
  refine ev_iadd dX12_pack_122 ?_
  refine ev_iald dX12_pack_123 (by omega) ly_140 (by show (nI 14 * nI v4) + nI v5 = nI ((14 * v4) + v5); simp only [pk_mul, nI_add]) b0 ?_
  exact k
theorem bX12_pack_95_1 {g : GG} {d n : Nat} {post : Option Value → LX → Prop} {X : LX} (hn : 146 ≤ n) (hX : Sh n X) {v1 : Int32} {v2 : Int32} {v3 : Int32} {v4 : Int32} {v5 : Int32} (c0 : X 134 4 ≤ v5) (k : Ev g mX12_pack d n n post n 44 [some (.ref 133), some (.int v1), some (.int v2), some (.int v3), some (.int (v4 + 1)), none] [] X) : Ev g mX12_pack d n n post n 95 [some (.ref 133), some (.int v1), some (.int v2), some (.int v3), some (.int v4), some (.int v5)] [] X := by
  refine ev_iload dX12_pack_95 rfl ?_
  refine ev_aload_n dX12_pack_97 rfl ?_
  refine ev_getS (q := 134) dX12_pack_98 fo_12_9 (by omega) lo_133 rfl (sh_133_0 hX (by omega)) (by decide) ?_
  refine ev_iconst (v := 4) dX12_pack_101 ki_4 ?_
  refine ev_iald dX12_pack_102 (by omega) ly_134 nIl_4 (by decide) ?_
  refine ev_icmpT (tgt := 149) dX12_pack_103 (by decide) c0 ?_
  refine ev_iinc (v := v4 + 1) dX12_pack_149 rfl (by rw [show Int32.ofInt 1 = 1 from ki_1]) (by decide) ?_
  refine ev_goto (tgt := 44) dX12_pack_152 (by decide) ?_
  refine ev_wk (L := [some (.ref 133), some (.int v1), some (.int v2), some (.int v3), some (.int (v4 + 1)), some (.int v5)]) (L' := [some (.ref 133), some (.int v1), some (.int v2), some (.int v3), some (.int (v4 + 1)), none]) (by simp [lwk]) ?_
  exact k
theorem bX12_pack_127_0 {g : GG} {d n : Nat} {post : Option Value → LX → Prop} {X : LX} (hn : 146 ≤ n) (hX : Sh n X) {v1 : Int32} {v2 : Int32} {v3 : Int32} {v4 : Nat} {v5 : Nat} (b0 : ((14 * v4) + v5) < 168) (k : Ev g mX12_pack d n n post n 95 [some (.ref 133), some (.int v1), some (.int v2), some (.int (v3 + (X 140 ((14 * v4) + v5)))), some (.int (nI v4)), some (.int ((nI v5) + 1))] [] X) : Ev g mX12_pack d n n post n 127 [some (.ref 133), some (.int v1), some (.int v2), some (.int v3), some (.int (nI v4)), some (.int (nI v5))] [] X := by
  refine ev_iload_n dX12_pack_127 rfl ?_
  refine ev_aload_n dX12_pack_128 rfl ?_
  refine ev_getS (q := 140) dX12_pack_129 fo_12_28 (by omega) lo_133 rfl (sh_133_9 hX (by omega)) (by decide) ?_
  refine ev_bipush (v := 14) dX12_pack_132 kb_14 ?_
  refine ev_iload dX12_pack_134 rfl ?_
  refine ev_imul dX12_pack_136 ?_
  refine ev_iload dX12_pack_137 rfl ?_
  refine ev_iadd dX12_pack_139 ?_
  refine ev_iald dX12_pack_140 (by omega) ly_140 (by show (nI 14 * nI v4) + nI v5 = nI ((14 * v4) + v5); simp only [pk_mul, nI_add]) b0 ?_
  refine ev_iadd dX12_pack_141 ?_
  refine ev_istore_n dX12_pack_142 (by decide) ?_
  refine ev_iinc (v := (nI v5) + 1) dX12_pack_143 rfl (by rw [show Int32.ofInt 1 = 1 from ki_1]) (by decide) ?_
  refine ev_goto (tgt := 95) dX12_pack_146 (by decide) ?_
  exact k
theorem bX12_pack_158_0 {g : GG} {d n : Nat} {post : Option Value → LX → Prop} {X : LX} (hd : 5 ≤ d) (hn : 146 ≤ n) (hX : Sh n X) {v1 : Int32} {v2 : Int32} {v3 : Int32} {v4 : Nat} {j1 : Nat} (c0 : ¬ X 134 6 ≤ nI v4) (c1 : v4 < 12) (c2 : okN X) (hj1 : X 134 0 = nI j1) (b0 : ((828 + (12 * j1)) + v4) < 2156) (k : Ev g mX12_pack d n n post n 158 [some (.ref 133), some (.int v1), some (.int v2), some (.int v3), some (.int ((nI v4) + 1)), none] [] (lx_up X 134 ((828 + (12 * j1)) + v4) (mBox X v4))) : Ev g mX12_pack d n n post n 158 [some (.ref 133), some (.int v1), some (.int v2), some (.int v3), some (.int (nI v4)), none] [] X := by
  refine ev_iload dX12_pack_158 rfl ?_
  refine ev_aload_n dX12_pack_160 rfl ?_
  refine ev_getS (q := 134) dX12_pack_161 fo_12_9 (by omega) lo_133 rfl (sh_133_0 hX (by omega)) (by decide) ?_
  refine ev_bipush (v := 6) dX12_pack_164 kb_6 ?_
  refine ev_iald dX12_pack_166 (by omega) ly_134 nIl_6 (by decide) ?_
  refine ev_icmpF (tgt := 203) dX12_pack_167 (by decide) c0 ?_
  refine ev_aload_n dX12_pack_170 rfl ?_
  refine ev_getS (q := 134) dX12_pack_171 fo_12_9 (by omega) lo_133 rfl (sh_133_0 hX (by omega)) (by decide) ?_
  refine ev_sipush (v := 828) dX12_pack_174 ks_828 ?_
  refine ev_bipush (v := 12) dX12_pack_177 kb_12 ?_
  refine ev_aload_n dX12_pack_179 rfl ?_
  refine ev_getS (q := 134) dX12_pack_180 fo_12_9 (by omega) lo_133 rfl (sh_133_0 hX (by omega)) (by decide) ?_
  refine ev_iconst (v := 0) dX12_pack_183 ki_0 ?_
  refine ev_iald dX12_pack_184 (by omega) ly_134 nIl_0 (by decide) ?_
  refine ev_imul dX12_pack_185 ?_
  refine ev_iadd dX12_pack_186 ?_
  refine ev_iload dX12_pack_187 rfl ?_
  refine ev_iadd dX12_pack_189 ?_
  refine ev_aload_n dX12_pack_190 rfl ?_
  refine ev_iload dX12_pack_191 rfl ?_
  refine e_Vi (as := [.int (nI v4)]) (rest := [.int ((828 + (12 * (X 134 0))) + (nI v4)), .ref 134]) dX12_pack_193 vX12_boxToday ml_12_115 isX12_boxToday seX12_boxToday npX12_boxToday (rc_133 (by omega)) (by decide) rfl (Nat.le_of_ble_eq_true rfl) (by omega) (k_X12_boxToday (d := d - 1) (by omega) (by omega) hX c1 c2) ?_
  refine ev_iast dX12_pack_196 (by omega) ly_134 (by rw [hj1]; show (nI 828 + (nI 12 * nI j1)) + nI v4 = nI ((828 + (12 * j1)) + v4); simp only [pk_mul, nI_add]) b0 ?_
  have hX1 : Sh _ (lx_up X 134 ((828 + (12 * j1)) + v4) (mBox X v4)) := Sh.upA hX (by rw [ly_134]; exact (by decide : 0 < 2))
  refine ev_iinc (v := (nI v4) + 1) dX12_pack_197 rfl (by rw [show Int32.ofInt 1 = 1 from ki_1]) (by decide) ?_
  refine ev_goto (tgt := 158) dX12_pack_200 (by decide) ?_
  exact k
theorem bX12_pack_158_1 {g : GG} {d n : Nat} {post : Option Value → LX → Prop} {X : LX} (hn : 146 ≤ n) (hX : Sh n X) {v1 : Int32} {v2 : Int32} {v3 : Int32} {v4 : Int32} (c0 : X 134 6 ≤ v4) (hp : post (some (.int v3)) (lx_up X 134 3 1)) : Ev g mX12_pack d n n post n 158 [some (.ref 133), some (.int v1), some (.int v2), some (.int v3), some (.int v4), none] [] X := by
  refine ev_iload dX12_pack_158 rfl ?_
  refine ev_aload_n dX12_pack_160 rfl ?_
  refine ev_getS (q := 134) dX12_pack_161 fo_12_9 (by omega) lo_133 rfl (sh_133_0 hX (by omega)) (by decide) ?_
  refine ev_bipush (v := 6) dX12_pack_164 kb_6 ?_
  refine ev_iald dX12_pack_166 (by omega) ly_134 nIl_6 (by decide) ?_
  refine ev_icmpT (tgt := 203) dX12_pack_167 (by decide) c0 ?_
  refine ev_aload_n dX12_pack_203 rfl ?_
  refine ev_getS (q := 134) dX12_pack_204 fo_12_9 (by omega) lo_133 rfl (sh_133_0 hX (by omega)) (by decide) ?_
  refine ev_iconst (v := 3) dX12_pack_207 ki_3 ?_
  refine ev_iconst (v := 1) dX12_pack_208 ki_1 ?_
  refine ev_iast dX12_pack_209 (by omega) ly_134 nIl_3 (by decide) ?_
  have hX1 : Sh _ (lx_up X 134 3 1) := Sh.upA hX (by rw [ly_134]; exact (by decide : 0 < 2))
  refine ev_iload_n dX12_pack_210 rfl ?_
  exact ev_iret dX12_pack_211 rfl rfl hp
theorem bX11_check_0_0 {g : GG} {d n : Nat} {post : Option Value → LX → Prop} {X : LX} (hn : 146 ≤ n) (hX : Sh n X)  (k : Ev g mX11_check d n n post n 17 [some (.ref 0), some (.int (X 0 7)), none, none, none, none] [.int 5000, .ref 87] (lx_up X 0 7 0)) : Ev g mX11_check d n n post n 0 [some (.ref 0), none, none, none, none, none] [] X := by
  refine ev_aload_n dX11_check_0 rfl ?_
  refine ev_getI dX11_check_1 fo_11_351 (by omega) lo_0 rfl ?_
  refine ev_istore_n dX11_check_4 (by decide) ?_
  refine ev_aload_n dX11_check_5 rfl ?_
  refine ev_iconst (v := 0) dX11_check_6 ki_0 ?_
  refine ev_putI dX11_check_7 fo_11_351 (by omega) lo_0 rfl rfl rfl ?_
  have hX1 : Sh _ (lx_up X 0 7 0) := Sh.upF hX (by rw [lo_0]; decide) (by decide)
  refine ev_aload_n dX11_check_10 rfl ?_
  refine ev_getS (q := 87) dX11_check_11 fo_11_35 (by omega) lo_0 rfl (sh_0_3 hX1 (by omega)) (by decide) ?_
  refine ev_sipush (v := 5000) dX11_check_14 ks_5000 ?_
  exact k
theorem bX11_check_20_0 {g : GG} {d n : Nat} {post : Option Value → LX → Prop} {X : LX} (hn : 146 ≤ n) (hX : Sh n X) {v1 : Int32} {s0 : Int32} (c0 : ¬ s0 = 0) (hp : post (some (.int s0)) X) : Ev g mX11_check d n n post n 20 [some (.ref 0), some (.int v1), none, none, none, none] [.int s0] X := by
  refine ev_istore_n dX11_check_20 (by decide) ?_
  refine ev_iload_n dX11_check_21 rfl ?_
  refine ev_ifF (tgt := 27) dX11_check_22 (by decide) c0 ?_
  refine ev_iload_n dX11_check_25 rfl ?_
  exact ev_iret dX11_check_26 rfl rfl hp
theorem bX11_check_20_1 {g : GG} {d n : Nat} {post : Option Value → LX → Prop} {X : LX} (hn : 146 ≤ n) (hX : Sh n X) {v1 : Int32} {s0 : Int32} (c0 : s0 = 0) (k : Ev g mX11_check d n n post n 31 [some (.ref 0), some (.int v1), some (.int s0), none, none, none] [.ref 87] X) : Ev g mX11_check d n n post n 20 [some (.ref 0), some (.int v1), none, none, none, none] [.int s0] X := by
  refine ev_istore_n dX11_check_20 (by decide) ?_
  refine ev_iload_n dX11_check_21 rfl ?_
  refine ev_ifT (tgt := 27) dX11_check_22 (by decide) c0 ?_
  refine ev_aload_n dX11_check_27 rfl ?_
  refine ev_getS (q := 87) dX11_check_28 fo_11_35 (by omega) lo_0 rfl (sh_0_3 hX (by omega)) (by decide) ?_
  exact k
theorem bX11_check_34_0 {g : GG} {d n : Nat} {post : Option Value → LX → Prop} {X : LX} (hn : 146 ≤ n) (hX : Sh n X) {v1 : Int32} {v2 : Int32} (k : Ev g mX11_check d n n post n 47 [some (.ref 0), some (.int v1), some (.int v2), some (.ref 109), some (.int (X 87 18)), some (.int 0)] [] X) : Ev g mX11_check d n n post n 34 [some (.ref 0), some (.int v1), some (.int v2), none, none, none] [.ref 109] X := by
  refine ev_astore_n dX11_check_34 (by decide) ?_
  refine ev_aload_n dX11_check_35 rfl ?_
  refine ev_getS (q := 87) dX11_check_36 fo_11_35 (by omega) lo_0 rfl (sh_0_3 hX (by omega)) (by decide) ?_
  refine ev_getI dX11_check_39 fo_11_358 (by omega) lo_87 rfl ?_
  refine ev_istore dX11_check_42 (by decide) ?_
  refine ev_iconst (v := 0) dX11_check_44 ki_0 ?_
  refine ev_istore dX11_check_45 (by decide) ?_
  exact k
theorem bX11_check_47_0 {g : GG} {d n : Nat} {post : Option Value → LX → Prop} {X : LX} (hn : 146 ≤ n) (hX : Sh n X) {v1 : Int32} {v2 : Int32} {v4 : Int32} {v5 : Nat} (c0 : ¬ v1 ≤ nI v5) (c1 : ¬ v4 ≤ nI v5) (b0 : v5 < 36) (c2 : X 132 v5 = X 109 v5) (k : Ev g mX11_check d n n post n 47 [some (.ref 0), some (.int v1), some (.int v2), some (.ref 109), some (.int v4), some (.int ((nI v5) + 1))] [] X) : Ev g mX11_check d n n post n 47 [some (.ref 0), some (.int v1), some (.int v2), some (.ref 109), some (.int v4), some (.int (nI v5))] [] X := by
  refine ev_iload dX11_check_47 rfl ?_
  refine ev_iload_n dX11_check_49 rfl ?_
  refine ev_icmpF (tgt := 80) dX11_check_50 (by decide) c0 ?_
  refine ev_iload dX11_check_53 rfl ?_
  refine ev_iload dX11_check_55 rfl ?_
  refine ev_icmpF (tgt := 80) dX11_check_57 (by decide) c1 ?_
  refine ev_aload_n dX11_check_60 rfl ?_
  refine ev_getS (q := 132) dX11_check_61 fo_11_53 (by omega) lo_0 rfl (sh_0_6 hX (by omega)) (by decide) ?_
  refine ev_iload dX11_check_64 rfl ?_
  refine ev_iald dX11_check_66 (by omega) ly_132 rfl b0 ?_
  refine ev_aload_n dX11_check_67 rfl ?_
  refine ev_iload dX11_check_68 rfl ?_
  refine ev_iald dX11_check_70 (by omega) ly_109 rfl b0 ?_
  refine ev_icmpF (tgt := 80) dX11_check_71 (by decide) c2 ?_
  refine ev_iinc (v := (nI v5) + 1) dX11_check_74 rfl (by rw [show Int32.ofInt 1 = 1 from ki_1]) (by decide) ?_
  refine ev_goto (tgt := 47) dX11_check_77 (by decide) ?_
  exact k
theorem bX11_check_47_1 {g : GG} {d n : Nat} {post : Option Value → LX → Prop} {X : LX} (hn : 146 ≤ n) (hX : Sh n X) {v1 : Int32} {v2 : Int32} {v4 : Int32} {v5 : Nat} (c0 : ¬ v1 ≤ nI v5) (c1 : ¬ v4 ≤ nI v5) (b0 : v5 < 36) (c2 : ¬ X 132 v5 = X 109 v5) (c3 : nI v5 = v1) (c4 : nI v5 = v4) (hp : post (some (.int 0)) X) : Ev g mX11_check d n n post n 47 [some (.ref 0), some (.int v1), some (.int v2), some (.ref 109), some (.int v4), some (.int (nI v5))] [] X := by
  refine ev_iload dX11_check_47 rfl ?_
  refine ev_iload_n dX11_check_49 rfl ?_
  refine ev_icmpF (tgt := 80) dX11_check_50 (by decide) c0 ?_
  refine ev_iload dX11_check_53 rfl ?_
  refine ev_iload dX11_check_55 rfl ?_
  refine ev_icmpF (tgt := 80) dX11_check_57 (by decide) c1 ?_
  refine ev_aload_n dX11_check_60 rfl ?_
  refine ev_getS (q := 132) dX11_check_61 fo_11_53 (by omega) lo_0 rfl (sh_0_6 hX (by omega)) (by decide) ?_
  refine ev_iload dX11_check_64 rfl ?_
  refine ev_iald dX11_check_66 (by omega) ly_132 rfl b0 ?_
  refine ev_aload_n dX11_check_67 rfl ?_
  refine ev_iload dX11_check_68 rfl ?_
  refine ev_iald dX11_check_70 (by omega) ly_109 rfl b0 ?_
  refine ev_icmpT (tgt := 80) dX11_check_71 (by decide) c2 ?_
  refine ev_iload dX11_check_80 rfl ?_
  refine ev_iload_n dX11_check_82 rfl ?_
  refine ev_icmpF (tgt := 97) dX11_check_83 (by decide) c3 ?_
  refine ev_iload dX11_check_86 rfl ?_
  refine ev_iload dX11_check_88 rfl ?_
  refine ev_icmpF (tgt := 97) dX11_check_90 (by decide) c4 ?_
  refine ev_iconst (v := 0) dX11_check_93 ki_0 ?_
  refine ev_goto (tgt := 101) dX11_check_94 (by decide) ?_
  exact ev_iret dX11_check_101 rfl rfl hp
theorem bX11_check_47_2 {g : GG} {d n : Nat} {post : Option Value → LX → Prop} {X : LX} (hn : 146 ≤ n) (hX : Sh n X) {v1 : Int32} {v2 : Int32} {v4 : Int32} {v5 : Nat} (c0 : ¬ v1 ≤ nI v5) (c1 : ¬ v4 ≤ nI v5) (b0 : v5 < 36) (c2 : ¬ X 132 v5 = X 109 v5) (c3 : nI v5 = v1) (c4 : ¬ nI v5 = v4) (hp : post (some (.int (1 + (nI v5)))) X) : Ev g mX11_check d n n post n 47 [some (.ref 0), some (.int v1), some (.int v2), some (.ref 109), some (.int v4), some (.int (nI v5))] [] X := by
  refine ev_iload dX11_check_47 rfl ?_
  refine ev_iload_n dX11_check_49 rfl ?_
  refine ev_icmpF (tgt := 80) dX11_check_50 (by decide) c0 ?_
  refine ev_iload dX11_check_53 rfl ?_
  refine ev_iload dX11_check_55 rfl ?_
  refine ev_icmpF (tgt := 80) dX11_check_57 (by decide) c1 ?_
  refine ev_aload_n dX11_check_60 rfl ?_
  refine ev_getS (q := 132) dX11_check_61 fo_11_53 (by omega) lo_0 rfl (sh_0_6 hX (by omega)) (by decide) ?_
  refine ev_iload dX11_check_64 rfl ?_
  refine ev_iald dX11_check_66 (by omega) ly_132 rfl b0 ?_
  refine ev_aload_n dX11_check_67 rfl ?_
  refine ev_iload dX11_check_68 rfl ?_
  refine ev_iald dX11_check_70 (by omega) ly_109 rfl b0 ?_
  refine ev_icmpT (tgt := 80) dX11_check_71 (by decide) c2 ?_
  refine ev_iload dX11_check_80 rfl ?_
  refine ev_iload_n dX11_check_82 rfl ?_
  refine ev_icmpF (tgt := 97) dX11_check_83 (by decide) c3 ?_
  refine ev_iload dX11_check_86 rfl ?_
  refine ev_iload dX11_check_88 rfl ?_
  refine ev_icmpT (tgt := 97) dX11_check_90 (by decide) c4 ?_
  refine ev_iconst (v := 1) dX11_check_97 ki_1 ?_
  refine ev_iload dX11_check_98 rfl ?_
  refine ev_iadd dX11_check_100 ?_
  exact ev_iret dX11_check_101 rfl rfl hp
theorem bX11_check_47_3 {g : GG} {d n : Nat} {post : Option Value → LX → Prop} {X : LX} (hn : 146 ≤ n) (hX : Sh n X) {v1 : Int32} {v2 : Int32} {v4 : Int32} {v5 : Nat} (c0 : ¬ v1 ≤ nI v5) (c1 : ¬ v4 ≤ nI v5) (b0 : v5 < 36) (c2 : ¬ X 132 v5 = X 109 v5) (c3 : ¬ nI v5 = v1) (hp : post (some (.int (1 + (nI v5)))) X) : Ev g mX11_check d n n post n 47 [some (.ref 0), some (.int v1), some (.int v2), some (.ref 109), some (.int v4), some (.int (nI v5))] [] X := by
  refine ev_iload dX11_check_47 rfl ?_
  refine ev_iload_n dX11_check_49 rfl ?_
  refine ev_icmpF (tgt := 80) dX11_check_50 (by decide) c0 ?_
  refine ev_iload dX11_check_53 rfl ?_
  refine ev_iload dX11_check_55 rfl ?_
  refine ev_icmpF (tgt := 80) dX11_check_57 (by decide) c1 ?_
  refine ev_aload_n dX11_check_60 rfl ?_
  refine ev_getS (q := 132) dX11_check_61 fo_11_53 (by omega) lo_0 rfl (sh_0_6 hX (by omega)) (by decide) ?_
  refine ev_iload dX11_check_64 rfl ?_
  refine ev_iald dX11_check_66 (by omega) ly_132 rfl b0 ?_
  refine ev_aload_n dX11_check_67 rfl ?_
  refine ev_iload dX11_check_68 rfl ?_
  refine ev_iald dX11_check_70 (by omega) ly_109 rfl b0 ?_
  refine ev_icmpT (tgt := 80) dX11_check_71 (by decide) c2 ?_
  refine ev_iload dX11_check_80 rfl ?_
  refine ev_iload_n dX11_check_82 rfl ?_
  refine ev_icmpT (tgt := 97) dX11_check_83 (by decide) c3 ?_
  refine ev_iconst (v := 1) dX11_check_97 ki_1 ?_
  refine ev_iload dX11_check_98 rfl ?_
  refine ev_iadd dX11_check_100 ?_
  exact ev_iret dX11_check_101 rfl rfl hp
theorem bX11_check_47_4 {g : GG} {d n : Nat} {post : Option Value → LX → Prop} {X : LX} (hn : 146 ≤ n) (hX : Sh n X) {v1 : Int32} {v2 : Int32} {v4 : Int32} {v5 : Int32} (c0 : ¬ v1 ≤ v5) (c1 : v4 ≤ v5) (c2 : v5 = v1) (c3 : v5 = v4) (hp : post (some (.int 0)) X) : Ev g mX11_check d n n post n 47 [some (.ref 0), some (.int v1), some (.int v2), some (.ref 109), some (.int v4), some (.int v5)] [] X := by
  refine ev_iload dX11_check_47 rfl ?_
  refine ev_iload_n dX11_check_49 rfl ?_
  refine ev_icmpF (tgt := 80) dX11_check_50 (by decide) c0 ?_
  refine ev_iload dX11_check_53 rfl ?_
  refine ev_iload dX11_check_55 rfl ?_
  refine ev_icmpT (tgt := 80) dX11_check_57 (by decide) c1 ?_
  refine ev_iload dX11_check_80 rfl ?_
  refine ev_iload_n dX11_check_82 rfl ?_
  refine ev_icmpF (tgt := 97) dX11_check_83 (by decide) c2 ?_
  refine ev_iload dX11_check_86 rfl ?_
  refine ev_iload dX11_check_88 rfl ?_
  refine ev_icmpF (tgt := 97) dX11_check_90 (by decide) c3 ?_
  refine ev_iconst (v := 0) dX11_check_93 ki_0 ?_
  refine ev_goto (tgt := 101) dX11_check_94 (by decide) ?_
  exact ev_iret dX11_check_101 rfl rfl hp
theorem bX11_check_47_5 {g : GG} {d n : Nat} {post : Option Value → LX → Prop} {X : LX} (hn : 146 ≤ n) (hX : Sh n X) {v1 : Int32} {v2 : Int32} {v4 : Int32} {v5 : Int32} (c0 : ¬ v1 ≤ v5) (c1 : v4 ≤ v5) (c2 : v5 = v1) (c3 : ¬ v5 = v4) (hp : post (some (.int (1 + v5))) X) : Ev g mX11_check d n n post n 47 [some (.ref 0), some (.int v1), some (.int v2), some (.ref 109), some (.int v4), some (.int v5)] [] X := by
  refine ev_iload dX11_check_47 rfl ?_
  refine ev_iload_n dX11_check_49 rfl ?_
  refine ev_icmpF (tgt := 80) dX11_check_50 (by decide) c0 ?_
  refine ev_iload dX11_check_53 rfl ?_
  refine ev_iload dX11_check_55 rfl ?_
  refine ev_icmpT (tgt := 80) dX11_check_57 (by decide) c1 ?_
  refine ev_iload dX11_check_80 rfl ?_
  refine ev_iload_n dX11_check_82 rfl ?_
  refine ev_icmpF (tgt := 97) dX11_check_83 (by decide) c2 ?_
  refine ev_iload dX11_check_86 rfl ?_
  refine ev_iload dX11_check_88 rfl ?_
  refine ev_icmpT (tgt := 97) dX11_check_90 (by decide) c3 ?_
  refine ev_iconst (v := 1) dX11_check_97 ki_1 ?_
  refine ev_iload dX11_check_98 rfl ?_
  refine ev_iadd dX11_check_100 ?_
  exact ev_iret dX11_check_101 rfl rfl hp
theorem bX11_check_47_6 {g : GG} {d n : Nat} {post : Option Value → LX → Prop} {X : LX} (hn : 146 ≤ n) (hX : Sh n X) {v1 : Int32} {v2 : Int32} {v4 : Int32} {v5 : Int32} (c0 : ¬ v1 ≤ v5) (c1 : v4 ≤ v5) (c2 : ¬ v5 = v1) (hp : post (some (.int (1 + v5))) X) : Ev g mX11_check d n n post n 47 [some (.ref 0), some (.int v1), some (.int v2), some (.ref 109), some (.int v4), some (.int v5)] [] X := by
  refine ev_iload dX11_check_47 rfl ?_
  refine ev_iload_n dX11_check_49 rfl ?_
  refine ev_icmpF (tgt := 80) dX11_check_50 (by decide) c0 ?_
  refine ev_iload dX11_check_53 rfl ?_
  refine ev_iload dX11_check_55 rfl ?_
  refine ev_icmpT (tgt := 80) dX11_check_57 (by decide) c1 ?_
  refine ev_iload dX11_check_80 rfl ?_
  refine ev_iload_n dX11_check_82 rfl ?_
  refine ev_icmpT (tgt := 97) dX11_check_83 (by decide) c2 ?_
  refine ev_iconst (v := 1) dX11_check_97 ki_1 ?_
  refine ev_iload dX11_check_98 rfl ?_
  refine ev_iadd dX11_check_100 ?_
  exact ev_iret dX11_check_101 rfl rfl hp
theorem bX11_check_47_7 {g : GG} {d n : Nat} {post : Option Value → LX → Prop} {X : LX} (hn : 146 ≤ n) (hX : Sh n X) {v1 : Int32} {v2 : Int32} {v4 : Int32} {v5 : Int32} (c0 : v1 ≤ v5) (c1 : v5 = v1) (c2 : v5 = v4) (hp : post (some (.int 0)) X) : Ev g mX11_check d n n post n 47 [some (.ref 0), some (.int v1), some (.int v2), some (.ref 109), some (.int v4), some (.int v5)] [] X := by
  refine ev_iload dX11_check_47 rfl ?_
  refine ev_iload_n dX11_check_49 rfl ?_
  refine ev_icmpT (tgt := 80) dX11_check_50 (by decide) c0 ?_
  refine ev_iload dX11_check_80 rfl ?_
  refine ev_iload_n dX11_check_82 rfl ?_
  refine ev_icmpF (tgt := 97) dX11_check_83 (by decide) c1 ?_
  refine ev_iload dX11_check_86 rfl ?_
  refine ev_iload dX11_check_88 rfl ?_
  refine ev_icmpF (tgt := 97) dX11_check_90 (by decide) c2 ?_
  refine ev_iconst (v := 0) dX11_check_93 ki_0 ?_
  refine ev_goto (tgt := 101) dX11_check_94 (by decide) ?_
  exact ev_iret dX11_check_101 rfl rfl hp
theorem bX11_check_47_8 {g : GG} {d n : Nat} {post : Option Value → LX → Prop} {X : LX} (hn : 146 ≤ n) (hX : Sh n X) {v1 : Int32} {v2 : Int32} {v4 : Int32} {v5 : Int32} (c0 : v1 ≤ v5) (c1 : v5 = v1) (c2 : ¬ v5 = v4) (hp : post (some (.int (1 + v5))) X) : Ev g mX11_check d n n post n 47 [some (.ref 0), some (.int v1), some (.int v2), some (.ref 109), some (.int v4), some (.int v5)] [] X := by
  refine ev_iload dX11_check_47 rfl ?_
  refine ev_iload_n dX11_check_49 rfl ?_
  refine ev_icmpT (tgt := 80) dX11_check_50 (by decide) c0 ?_
  refine ev_iload dX11_check_80 rfl ?_
  refine ev_iload_n dX11_check_82 rfl ?_
  refine ev_icmpF (tgt := 97) dX11_check_83 (by decide) c1 ?_
  refine ev_iload dX11_check_86 rfl ?_
  refine ev_iload dX11_check_88 rfl ?_
  refine ev_icmpT (tgt := 97) dX11_check_90 (by decide) c2 ?_
  refine ev_iconst (v := 1) dX11_check_97 ki_1 ?_
  refine ev_iload dX11_check_98 rfl ?_
  refine ev_iadd dX11_check_100 ?_
  exact ev_iret dX11_check_101 rfl rfl hp
theorem bX11_check_47_9 {g : GG} {d n : Nat} {post : Option Value → LX → Prop} {X : LX} (hn : 146 ≤ n) (hX : Sh n X) {v1 : Int32} {v2 : Int32} {v4 : Int32} {v5 : Int32} (c0 : v1 ≤ v5) (c1 : ¬ v5 = v1) (hp : post (some (.int (1 + v5))) X) : Ev g mX11_check d n n post n 47 [some (.ref 0), some (.int v1), some (.int v2), some (.ref 109), some (.int v4), some (.int v5)] [] X := by
  refine ev_iload dX11_check_47 rfl ?_
  refine ev_iload_n dX11_check_49 rfl ?_
  refine ev_icmpT (tgt := 80) dX11_check_50 (by decide) c0 ?_
  refine ev_iload dX11_check_80 rfl ?_
  refine ev_iload_n dX11_check_82 rfl ?_
  refine ev_icmpT (tgt := 97) dX11_check_83 (by decide) c1 ?_
  refine ev_iconst (v := 1) dX11_check_97 ki_1 ?_
  refine ev_iload dX11_check_98 rfl ?_
  refine ev_iadd dX11_check_100 ?_
  exact ev_iret dX11_check_101 rfl rfl hp
theorem bX12_check_0_0 {g : GG} {d n : Nat} {post : Option Value → LX → Prop} {X : LX} (hn : 146 ≤ n) (hX : Sh n X)  (k : Ev g mX12_check d n n post n 14 [some (.ref 133), some (.int (X 133 6)), none, none, none, none, none] [.int 5000, .ref 133] (lx_up X 133 6 0)) : Ev g mX12_check d n n post n 0 [some (.ref 133), none, none, none, none, none, none] [] X := by
  refine ev_aload_n dX12_check_0 rfl ?_
  refine ev_getI dX12_check_1 fo_12_313 (by omega) lo_133 rfl ?_
  refine ev_istore_n dX12_check_4 (by decide) ?_
  refine ev_aload_n dX12_check_5 rfl ?_
  refine ev_iconst (v := 0) dX12_check_6 ki_0 ?_
  refine ev_putI dX12_check_7 fo_12_313 (by omega) lo_133 rfl rfl rfl ?_
  have hX1 : Sh _ (lx_up X 133 6 0) := Sh.upF hX (by rw [lo_133]; decide) (by decide)
  refine ev_aload_n dX12_check_10 rfl ?_
  refine ev_sipush (v := 5000) dX12_check_11 ks_5000 ?_
  exact k
theorem bX12_check_17_0 {g : GG} {d n : Nat} {post : Option Value → LX → Prop} {X : LX} (hn : 146 ≤ n) (hX : Sh n X) {v1 : Int32} {s0 : Int32} (c0 : ¬ s0 = 0) (hp : post (some (.int s0)) X) : Ev g mX12_check d n n post n 17 [some (.ref 133), some (.int v1), none, none, none, none, none] [.int s0] X := by
  refine ev_istore_n dX12_check_17 (by decide) ?_
  refine ev_iload_n dX12_check_18 rfl ?_
  refine ev_ifF (tgt := 24) dX12_check_19 (by decide) c0 ?_
  refine ev_iload_n dX12_check_22 rfl ?_
  exact ev_iret dX12_check_23 rfl rfl hp
theorem bX12_check_17_1 {g : GG} {d n : Nat} {post : Option Value → LX → Prop} {X : LX} (hn : 146 ≤ n) (hX : Sh n X) {v1 : Int32} {s0 : Int32} (c0 : s0 = 0) (k : Ev g mX12_check d n n post n 29 [some (.ref 133), some (.int v1), some (.int s0), some (.int 0), some (.int 0), none, none] [] X) : Ev g mX12_check d n n post n 17 [some (.ref 133), some (.int v1), none, none, none, none, none] [.int s0] X := by
  refine ev_istore_n dX12_check_17 (by decide) ?_
  refine ev_iload_n dX12_check_18 rfl ?_
  refine ev_ifT (tgt := 24) dX12_check_19 (by decide) c0 ?_
  refine ev_iconst (v := 0) dX12_check_24 ki_0 ?_
  refine ev_istore_n dX12_check_25 (by decide) ?_
  refine ev_iconst (v := 0) dX12_check_26 ki_0 ?_
  refine ev_istore dX12_check_27 (by decide) ?_
  exact k
theorem bX12_check_29_0 {g : GG} {d n : Nat} {post : Option Value → LX → Prop} {X : LX} (hn : 146 ≤ n) (hX : Sh n X) {v1 : Int32} {v2 : Int32} {v3 : Int32} {v4 : Int32} (c0 : ¬ X 134 6 ≤ v4) (k : Ev g mX12_check d n n post n 44 [some (.ref 133), some (.int v1), some (.int v2), some (.int v3), some (.int v4), some (.int 0), none] [] X) : Ev g mX12_check d n n post n 29 [some (.ref 133), some (.int v1), some (.int v2), some (.int v3), some (.int v4), none, none] [] X := by
  refine ev_iload dX12_check_29 rfl ?_
  refine ev_aload_n dX12_check_31 rfl ?_
  refine ev_getS (q := 134) dX12_check_32 fo_12_9 (by omega) lo_133 rfl (sh_133_0 hX (by omega)) (by decide) ?_
  refine ev_bipush (v := 6) dX12_check_35 kb_6 ?_
  refine ev_iald dX12_check_37 (by omega) ly_134 nIl_6 (by decide) ?_
  refine ev_icmpF (tgt := 136) dX12_check_38 (by decide) c0 ?_
  refine ev_iconst (v := 0) dX12_check_41 ki_0 ?_
  refine ev_istore dX12_check_42 (by decide) ?_
  exact k
theorem bX12_check_29_1 {g : GG} {d n : Nat} {post : Option Value → LX → Prop} {X : LX} (hn : 146 ≤ n) (hX : Sh n X) {v1 : Int32} {v2 : Int32} {v3 : Int32} {v4 : Int32} (c0 : X 134 6 ≤ v4) (c1 : ¬ v1 ≤ v3) (hp : post (some (.int (1 + v3))) X) : Ev g mX12_check d n n post n 29 [some (.ref 133), some (.int v1), some (.int v2), some (.int v3), some (.int v4), none, none] [] X := by
  refine ev_iload dX12_check_29 rfl ?_
  refine ev_aload_n dX12_check_31 rfl ?_
  refine ev_getS (q := 134) dX12_check_32 fo_12_9 (by omega) lo_133 rfl (sh_133_0 hX (by omega)) (by decide) ?_
  refine ev_bipush (v := 6) dX12_check_35 kb_6 ?_
  refine ev_iald dX12_check_37 (by omega) ly_134 nIl_6 (by decide) ?_
  refine ev_icmpT (tgt := 136) dX12_check_38 (by decide) c0 ?_
  refine ev_iload_n dX12_check_136 rfl ?_
  refine ev_iload_n dX12_check_137 rfl ?_
  refine ev_icmpF (tgt := 147) dX12_check_138 (by decide) c1 ?_
  refine ev_iconst (v := 1) dX12_check_141 ki_1 ?_
  refine ev_iload_n dX12_check_142 rfl ?_
  refine ev_iadd dX12_check_143 ?_
  refine ev_goto (tgt := 148) dX12_check_144 (by decide) ?_
  exact ev_iret dX12_check_148 rfl rfl hp
theorem bX12_check_29_2 {g : GG} {d n : Nat} {post : Option Value → LX → Prop} {X : LX} (hn : 146 ≤ n) (hX : Sh n X) {v1 : Int32} {v2 : Int32} {v3 : Int32} {v4 : Int32} (c0 : X 134 6 ≤ v4) (c1 : v1 ≤ v3) (hp : post (some (.int 0)) X) : Ev g mX12_check d n n post n 29 [some (.ref 133), some (.int v1), some (.int v2), some (.int v3), some (.int v4), none, none] [] X := by
  refine ev_iload dX12_check_29 rfl ?_
  refine ev_aload_n dX12_check_31 rfl ?_
  refine ev_getS (q := 134) dX12_check_32 fo_12_9 (by omega) lo_133 rfl (sh_133_0 hX (by omega)) (by decide) ?_
  refine ev_bipush (v := 6) dX12_check_35 kb_6 ?_
  refine ev_iald dX12_check_37 (by omega) ly_134 nIl_6 (by decide) ?_
  refine ev_icmpT (tgt := 136) dX12_check_38 (by decide) c0 ?_
  refine ev_iload_n dX12_check_136 rfl ?_
  refine ev_iload_n dX12_check_137 rfl ?_
  refine ev_icmpT (tgt := 147) dX12_check_138 (by decide) c1 ?_
  refine ev_iconst (v := 0) dX12_check_147 ki_0 ?_
  exact ev_iret dX12_check_148 rfl rfl hp
theorem bX12_check_44_0 {g : GG} {d n : Nat} {post : Option Value → LX → Prop} {X : LX} (hn : 146 ≤ n) (hX : Sh n X) {v1 : Int32} {v2 : Int32} {v3 : Nat} {v4 : Nat} {v5 : Int32} (c0 : ¬ 3 ≤ v5) (b0 : v4 < 12) (c1 : ¬ X 144 v4 < 0) (c2 : v5 = 0) (c3 : ¬ nI v3 = v1) (b1 : v3 < 36) (c4 : ¬ X 137 v3 = nI v4) (hp : post (some (.int (1 + (nI v3)))) X) : Ev g mX12_check d n n post n 44 [some (.ref 133), some (.int v1), some (.int v2), some (.int (nI v3)), some (.int (nI v4)), some (.int v5), none] [] X := by
  refine ev_iload dX12_check_44 rfl ?_
  refine ev_iconst (v := 3) dX12_check_46 ki_3 ?_
  refine ev_icmpF (tgt := 130) dX12_check_47 (by decide) c0 ?_
  refine ev_aload_n dX12_check_50 rfl ?_
  refine ev_getS (q := 144) dX12_check_51 fo_12_46 (by omega) lo_133 rfl (sh_133_27 hX (by omega)) (by decide) ?_
  refine ev_iload dX12_check_54 rfl ?_
  refine ev_iald dX12_check_56 (by omega) ly_144 rfl b0 ?_
  refine ev_ifF (tgt := 130) dX12_check_57 (by decide) c1 ?_
  refine ev_iload dX12_check_60 rfl ?_
  refine ev_ifF (tgt := 70) dX12_check_62 (by decide) c2 ?_
  refine ev_iload dX12_check_65 rfl ?_
  refine ev_goto (tgt := 99) dX12_check_67 (by decide) ?_
  refine ev_istore dX12_check_99 (by decide) ?_
  refine ev_iload_n dX12_check_101 rfl ?_
  refine ev_iload_n dX12_check_102 rfl ?_
  refine ev_icmpF (tgt := 117) dX12_check_103 (by decide) c3 ?_
  refine ev_aload_n dX12_check_106 rfl ?_
  refine ev_getS (q := 137) dX12_check_107 fo_12_19 (by omega) lo_133 rfl (sh_133_5 hX (by omega)) (by decide) ?_
  refine ev_iload_n dX12_check_110 rfl ?_
  refine ev_iald dX12_check_111 (by omega) ly_137 rfl b1 ?_
  refine ev_iload dX12_check_112 rfl ?_
  refine ev_icmpF (tgt := 121) dX12_check_114 (by decide) c4 ?_
  refine ev_iconst (v := 1) dX12_check_117 ki_1 ?_
  refine ev_iload_n dX12_check_118 rfl ?_
  refine ev_iadd dX12_check_119 ?_
  exact ev_iret dX12_check_120 rfl rfl hp
theorem bX12_check_44_1 {g : GG} {d n : Nat} {post : Option Value → LX → Prop} {X : LX} (hn : 146 ≤ n) (hX : Sh n X) {v1 : Int32} {v2 : Int32} {v3 : Nat} {v4 : Nat} {v5 : Int32} (c0 : ¬ 3 ≤ v5) (b0 : v4 < 12) (c1 : ¬ X 144 v4 < 0) (c2 : v5 = 0) (c3 : ¬ nI v3 = v1) (b1 : v3 < 36) (c4 : X 137 v3 = nI v4) (k : Ev g mX12_check d n n post n 44 [some (.ref 133), some (.int v1), some (.int v2), some (.int ((nI v3) + 1)), some (.int (nI v4)), some (.int (v5 + 1)), none] [] X) : Ev g mX12_check d n n post n 44 [some (.ref 133), some (.int v1), some (.int v2), some (.int (nI v3)), some (.int (nI v4)), some (.int v5), none] [] X := by
  refine ev_iload dX12_check_44 rfl ?_
  refine ev_iconst (v := 3) dX12_check_46 ki_3 ?_
  refine ev_icmpF (tgt := 130) dX12_check_47 (by decide) c0 ?_
  refine ev_aload_n dX12_check_50 rfl ?_
  refine ev_getS (q := 144) dX12_check_51 fo_12_46 (by omega) lo_133 rfl (sh_133_27 hX (by omega)) (by decide) ?_
  refine ev_iload dX12_check_54 rfl ?_
  refine ev_iald dX12_check_56 (by omega) ly_144 rfl b0 ?_
  refine ev_ifF (tgt := 130) dX12_check_57 (by decide) c1 ?_
  refine ev_iload dX12_check_60 rfl ?_
  refine ev_ifF (tgt := 70) dX12_check_62 (by decide) c2 ?_
  refine ev_iload dX12_check_65 rfl ?_
  refine ev_goto (tgt := 99) dX12_check_67 (by decide) ?_
  refine ev_istore dX12_check_99 (by decide) ?_
  refine ev_iload_n dX12_check_101 rfl ?_
  refine ev_iload_n dX12_check_102 rfl ?_
  refine ev_icmpF (tgt := 117) dX12_check_103 (by decide) c3 ?_
  refine ev_aload_n dX12_check_106 rfl ?_
  refine ev_getS (q := 137) dX12_check_107 fo_12_19 (by omega) lo_133 rfl (sh_133_5 hX (by omega)) (by decide) ?_
  refine ev_iload_n dX12_check_110 rfl ?_
  refine ev_iald dX12_check_111 (by omega) ly_137 rfl b1 ?_
  refine ev_iload dX12_check_112 rfl ?_
  refine ev_icmpT (tgt := 121) dX12_check_114 (by decide) c4 ?_
  refine ev_iinc (v := (nI v3) + 1) dX12_check_121 rfl (by rw [show Int32.ofInt 1 = 1 from ki_1]) (by decide) ?_
  refine ev_iinc (v := v5 + 1) dX12_check_124 rfl (by rw [show Int32.ofInt 1 = 1 from ki_1]) (by decide) ?_
  refine ev_goto (tgt := 44) dX12_check_127 (by decide) ?_
  refine ev_wk (L := [some (.ref 133), some (.int v1), some (.int v2), some (.int ((nI v3) + 1)), some (.int (nI v4)), some (.int (v5 + 1)), some (.int (nI v4))]) (L' := [some (.ref 133), some (.int v1), some (.int v2), some (.int ((nI v3) + 1)), some (.int (nI v4)), some (.int (v5 + 1)), none]) (by simp [lwk]) ?_
  exact k
theorem bX12_check_44_2 {g : GG} {d n : Nat} {post : Option Value → LX → Prop} {X : LX} (hn : 146 ≤ n) (hX : Sh n X) {v1 : Int32} {v2 : Int32} {v3 : Int32} {v4 : Nat} {v5 : Int32} (c0 : ¬ 3 ≤ v5) (b0 : v4 < 12) (c1 : ¬ X 144 v4 < 0) (c2 : v5 = 0) (c3 : v3 = v1) (hp : post (some (.int (1 + v3))) X) : Ev g mX12_check d n n post n 44 [some (.ref 133), some (.int v1), some (.int v2), some (.int v3), some (.int (nI v4)), some (.int v5), none] [] X := by
  refine ev_iload dX12_check_44 rfl ?_
  refine ev_iconst (v := 3) dX12_check_46 ki_3 ?_
  refine ev_icmpF (tgt := 130) dX12_check_47 (by decide) c0 ?_
  refine ev_aload_n dX12_check_50 rfl ?_
  refine ev_getS (q := 144) dX12_check_51 fo_12_46 (by omega) lo_133 rfl (sh_133_27 hX (by omega)) (by decide) ?_
  refine ev_iload dX12_check_54 rfl ?_
  refine ev_iald dX12_check_56 (by omega) ly_144 rfl b0 ?_
  refine ev_ifF (tgt := 130) dX12_check_57 (by decide) c1 ?_
  refine ev_iload dX12_check_60 rfl ?_
  refine ev_ifF (tgt := 70) dX12_check_62 (by decide) c2 ?_
  refine ev_iload dX12_check_65 rfl ?_
  refine ev_goto (tgt := 99) dX12_check_67 (by decide) ?_
  refine ev_istore dX12_check_99 (by decide) ?_
  refine ev_iload_n dX12_check_101 rfl ?_
  refine ev_iload_n dX12_check_102 rfl ?_
  refine ev_icmpT (tgt := 117) dX12_check_103 (by decide) c3 ?_
  refine ev_iconst (v := 1) dX12_check_117 ki_1 ?_
  refine ev_iload_n dX12_check_118 rfl ?_
  refine ev_iadd dX12_check_119 ?_
  exact ev_iret dX12_check_120 rfl rfl hp
theorem bX12_check_44_3 {g : GG} {d n : Nat} {post : Option Value → LX → Prop} {X : LX} (hn : 146 ≤ n) (hX : Sh n X) {v1 : Int32} {v2 : Int32} {v3 : Nat} {v4 : Nat} {v5 : Int32} (c0 : ¬ 3 ≤ v5) (b0 : v4 < 12) (c1 : ¬ X 144 v4 < 0) (c2 : ¬ v5 = 0) (c3 : v5 = 1) (c4 : ¬ nI v3 = v1) (b1 : v3 < 36) (c5 : ¬ X 137 v3 = (X 144 v4) / 100) (hp : post (some (.int (1 + (nI v3)))) X) : Ev g mX12_check d n n post n 44 [some (.ref 133), some (.int v1), some (.int v2), some (.int (nI v3)), some (.int (nI v4)), some (.int v5), none] [] X := by
  refine ev_iload dX12_check_44 rfl ?_
  refine ev_iconst (v := 3) dX12_check_46 ki_3 ?_
  refine ev_icmpF (tgt := 130) dX12_check_47 (by decide) c0 ?_
  refine ev_aload_n dX12_check_50 rfl ?_
  refine ev_getS (q := 144) dX12_check_51 fo_12_46 (by omega) lo_133 rfl (sh_133_27 hX (by omega)) (by decide) ?_
  refine ev_iload dX12_check_54 rfl ?_
  refine ev_iald dX12_check_56 (by omega) ly_144 rfl b0 ?_
  refine ev_ifF (tgt := 130) dX12_check_57 (by decide) c1 ?_
  refine ev_iload dX12_check_60 rfl ?_
  refine ev_ifT (tgt := 70) dX12_check_62 (by decide) c2 ?_
  refine ev_iload dX12_check_70 rfl ?_
  refine ev_iconst (v := 1) dX12_check_72 ki_1 ?_
  refine ev_icmpF (tgt := 89) dX12_check_73 (by decide) c3 ?_
  refine ev_aload_n dX12_check_76 rfl ?_
  refine ev_getS (q := 144) dX12_check_77 fo_12_46 (by omega) lo_133 rfl (sh_133_27 hX (by omega)) (by decide) ?_
  refine ev_iload dX12_check_80 rfl ?_
  refine ev_iald dX12_check_82 (by omega) ly_144 rfl b0 ?_
  refine ev_bipush (v := 100) dX12_check_83 kb_100 ?_
  refine ev_idiv dX12_check_85 (by decide) ?_
  refine ev_goto (tgt := 99) dX12_check_86 (by decide) ?_
  refine ev_istore dX12_check_99 (by decide) ?_
  refine ev_iload_n dX12_check_101 rfl ?_
  refine ev_iload_n dX12_check_102 rfl ?_
  refine ev_icmpF (tgt := 117) dX12_check_103 (by decide) c4 ?_
  refine ev_aload_n dX12_check_106 rfl ?_
  refine ev_getS (q := 137) dX12_check_107 fo_12_19 (by omega) lo_133 rfl (sh_133_5 hX (by omega)) (by decide) ?_
  refine ev_iload_n dX12_check_110 rfl ?_
  refine ev_iald dX12_check_111 (by omega) ly_137 rfl b1 ?_
  refine ev_iload dX12_check_112 rfl ?_
  refine ev_icmpF (tgt := 121) dX12_check_114 (by decide) c5 ?_
  refine ev_iconst (v := 1) dX12_check_117 ki_1 ?_
  refine ev_iload_n dX12_check_118 rfl ?_
  refine ev_iadd dX12_check_119 ?_
  exact ev_iret dX12_check_120 rfl rfl hp
theorem bX12_check_44_4 {g : GG} {d n : Nat} {post : Option Value → LX → Prop} {X : LX} (hn : 146 ≤ n) (hX : Sh n X) {v1 : Int32} {v2 : Int32} {v3 : Nat} {v4 : Nat} {v5 : Int32} (c0 : ¬ 3 ≤ v5) (b0 : v4 < 12) (c1 : ¬ X 144 v4 < 0) (c2 : ¬ v5 = 0) (c3 : v5 = 1) (c4 : ¬ nI v3 = v1) (b1 : v3 < 36) (c5 : X 137 v3 = (X 144 v4) / 100) (k : Ev g mX12_check d n n post n 44 [some (.ref 133), some (.int v1), some (.int v2), some (.int ((nI v3) + 1)), some (.int (nI v4)), some (.int (v5 + 1)), none] [] X) : Ev g mX12_check d n n post n 44 [some (.ref 133), some (.int v1), some (.int v2), some (.int (nI v3)), some (.int (nI v4)), some (.int v5), none] [] X := by
  refine ev_iload dX12_check_44 rfl ?_
  refine ev_iconst (v := 3) dX12_check_46 ki_3 ?_
  refine ev_icmpF (tgt := 130) dX12_check_47 (by decide) c0 ?_
  refine ev_aload_n dX12_check_50 rfl ?_
  refine ev_getS (q := 144) dX12_check_51 fo_12_46 (by omega) lo_133 rfl (sh_133_27 hX (by omega)) (by decide) ?_
  refine ev_iload dX12_check_54 rfl ?_
  refine ev_iald dX12_check_56 (by omega) ly_144 rfl b0 ?_
  refine ev_ifF (tgt := 130) dX12_check_57 (by decide) c1 ?_
  refine ev_iload dX12_check_60 rfl ?_
  refine ev_ifT (tgt := 70) dX12_check_62 (by decide) c2 ?_
  refine ev_iload dX12_check_70 rfl ?_
  refine ev_iconst (v := 1) dX12_check_72 ki_1 ?_
  refine ev_icmpF (tgt := 89) dX12_check_73 (by decide) c3 ?_
  refine ev_aload_n dX12_check_76 rfl ?_
  refine ev_getS (q := 144) dX12_check_77 fo_12_46 (by omega) lo_133 rfl (sh_133_27 hX (by omega)) (by decide) ?_
  refine ev_iload dX12_check_80 rfl ?_
  refine ev_iald dX12_check_82 (by omega) ly_144 rfl b0 ?_
  refine ev_bipush (v := 100) dX12_check_83 kb_100 ?_
  refine ev_idiv dX12_check_85 (by decide) ?_
  refine ev_goto (tgt := 99) dX12_check_86 (by decide) ?_
  refine ev_istore dX12_check_99 (by decide) ?_
  refine ev_iload_n dX12_check_101 rfl ?_
  refine ev_iload_n dX12_check_102 rfl ?_
  refine ev_icmpF (tgt := 117) dX12_check_103 (by decide) c4 ?_
  refine ev_aload_n dX12_check_106 rfl ?_
  refine ev_getS (q := 137) dX12_check_107 fo_12_19 (by omega) lo_133 rfl (sh_133_5 hX (by omega)) (by decide) ?_
  refine ev_iload_n dX12_check_110 rfl ?_
  refine ev_iald dX12_check_111 (by omega) ly_137 rfl b1 ?_
  refine ev_iload dX12_check_112 rfl ?_
  refine ev_icmpT (tgt := 121) dX12_check_114 (by decide) c5 ?_
  refine ev_iinc (v := (nI v3) + 1) dX12_check_121 rfl (by rw [show Int32.ofInt 1 = 1 from ki_1]) (by decide) ?_
  refine ev_iinc (v := v5 + 1) dX12_check_124 rfl (by rw [show Int32.ofInt 1 = 1 from ki_1]) (by decide) ?_
  refine ev_goto (tgt := 44) dX12_check_127 (by decide) ?_
  refine ev_wk (L := [some (.ref 133), some (.int v1), some (.int v2), some (.int ((nI v3) + 1)), some (.int (nI v4)), some (.int (v5 + 1)), some (.int ((X 144 v4) / 100))]) (L' := [some (.ref 133), some (.int v1), some (.int v2), some (.int ((nI v3) + 1)), some (.int (nI v4)), some (.int (v5 + 1)), none]) (by simp [lwk]) ?_
  exact k
theorem bX12_check_44_5 {g : GG} {d n : Nat} {post : Option Value → LX → Prop} {X : LX} (hn : 146 ≤ n) (hX : Sh n X) {v1 : Int32} {v2 : Int32} {v3 : Int32} {v4 : Nat} {v5 : Int32} (c0 : ¬ 3 ≤ v5) (b0 : v4 < 12) (c1 : ¬ X 144 v4 < 0) (c2 : ¬ v5 = 0) (c3 : v5 = 1) (c4 : v3 = v1) (hp : post (some (.int (1 + v3))) X) : Ev g mX12_check d n n post n 44 [some (.ref 133), some (.int v1), some (.int v2), some (.int v3), some (.int (nI v4)), some (.int v5), none] [] X := by
  refine ev_iload dX12_check_44 rfl ?_
  refine ev_iconst (v := 3) dX12_check_46 ki_3 ?_
  refine ev_icmpF (tgt := 130) dX12_check_47 (by decide) c0 ?_
  refine ev_aload_n dX12_check_50 rfl ?_
  refine ev_getS (q := 144) dX12_check_51 fo_12_46 (by omega) lo_133 rfl (sh_133_27 hX (by omega)) (by decide) ?_
  refine ev_iload dX12_check_54 rfl ?_
  refine ev_iald dX12_check_56 (by omega) ly_144 rfl b0 ?_
  refine ev_ifF (tgt := 130) dX12_check_57 (by decide) c1 ?_
  refine ev_iload dX12_check_60 rfl ?_
  refine ev_ifT (tgt := 70) dX12_check_62 (by decide) c2 ?_
  refine ev_iload dX12_check_70 rfl ?_
  refine ev_iconst (v := 1) dX12_check_72 ki_1 ?_
  refine ev_icmpF (tgt := 89) dX12_check_73 (by decide) c3 ?_
  refine ev_aload_n dX12_check_76 rfl ?_
  refine ev_getS (q := 144) dX12_check_77 fo_12_46 (by omega) lo_133 rfl (sh_133_27 hX (by omega)) (by decide) ?_
  refine ev_iload dX12_check_80 rfl ?_
  refine ev_iald dX12_check_82 (by omega) ly_144 rfl b0 ?_
  refine ev_bipush (v := 100) dX12_check_83 kb_100 ?_
  refine ev_idiv dX12_check_85 (by decide) ?_
  refine ev_goto (tgt := 99) dX12_check_86 (by decide) ?_
  refine ev_istore dX12_check_99 (by decide) ?_
  refine ev_iload_n dX12_check_101 rfl ?_
  refine ev_iload_n dX12_check_102 rfl ?_
  refine ev_icmpT (tgt := 117) dX12_check_103 (by decide) c4 ?_
  refine ev_iconst (v := 1) dX12_check_117 ki_1 ?_
  refine ev_iload_n dX12_check_118 rfl ?_
  refine ev_iadd dX12_check_119 ?_
  exact ev_iret dX12_check_120 rfl rfl hp
theorem bX12_check_44_6 {g : GG} {d n : Nat} {post : Option Value → LX → Prop} {X : LX} (hn : 146 ≤ n) (hX : Sh n X) {v1 : Int32} {v2 : Int32} {v3 : Nat} {v4 : Nat} {v5 : Int32} (c0 : ¬ 3 ≤ v5) (b0 : v4 < 12) (c1 : ¬ X 144 v4 < 0) (c2 : ¬ v5 = 0) (c3 : ¬ v5 = 1) (c4 : ¬ nI v3 = v1) (b1 : v3 < 36) (c5 : ¬ X 137 v3 = (X 144 v4) - (X 144 v4) / 100 * 100) (hp : post (some (.int (1 + (nI v3)))) X) : Ev g mX12_check d n n post n 44 [some (.ref 133), some (.int v1), some (.int v2), some (.int (nI v3)), some (.int (nI v4)), some (.int v5), none] [] X := by
  refine ev_iload dX12_check_44 rfl ?_
  refine ev_iconst (v := 3) dX12_check_46 ki_3 ?_
  refine ev_icmpF (tgt := 130) dX12_check_47 (by decide) c0 ?_
  refine ev_aload_n dX12_check_50 rfl ?_
  refine ev_getS (q := 144) dX12_check_51 fo_12_46 (by omega) lo_133 rfl (sh_133_27 hX (by omega)) (by decide) ?_
  refine ev_iload dX12_check_54 rfl ?_
  refine ev_iald dX12_check_56 (by omega) ly_144 rfl b0 ?_
  refine ev_ifF (tgt := 130) dX12_check_57 (by decide) c1 ?_
  refine ev_iload dX12_check_60 rfl ?_
  refine ev_ifT (tgt := 70) dX12_check_62 (by decide) c2 ?_
  refine ev_iload dX12_check_70 rfl ?_
  refine ev_iconst (v := 1) dX12_check_72 ki_1 ?_
  refine ev_icmpT (tgt := 89) dX12_check_73 (by decide) c3 ?_
  refine ev_aload_n dX12_check_89 rfl ?_
  refine ev_getS (q := 144) dX12_check_90 fo_12_46 (by omega) lo_133 rfl (sh_133_27 hX (by omega)) (by decide) ?_
  refine ev_iload dX12_check_93 rfl ?_
  refine ev_iald dX12_check_95 (by omega) ly_144 rfl b0 ?_
  refine ev_bipush (v := 100) dX12_check_96 kb_100 ?_
  refine ev_irem dX12_check_98 (by decide) ?_
  refine ev_istore dX12_check_99 (by decide) ?_
  refine ev_iload_n dX12_check_101 rfl ?_
  refine ev_iload_n dX12_check_102 rfl ?_
  refine ev_icmpF (tgt := 117) dX12_check_103 (by decide) c4 ?_
  refine ev_aload_n dX12_check_106 rfl ?_
  refine ev_getS (q := 137) dX12_check_107 fo_12_19 (by omega) lo_133 rfl (sh_133_5 hX (by omega)) (by decide) ?_
  refine ev_iload_n dX12_check_110 rfl ?_
  refine ev_iald dX12_check_111 (by omega) ly_137 rfl b1 ?_
  refine ev_iload dX12_check_112 rfl ?_
  refine ev_icmpF (tgt := 121) dX12_check_114 (by decide) c5 ?_
  refine ev_iconst (v := 1) dX12_check_117 ki_1 ?_
  refine ev_iload_n dX12_check_118 rfl ?_
  refine ev_iadd dX12_check_119 ?_
  exact ev_iret dX12_check_120 rfl rfl hp
theorem bX12_check_44_7 {g : GG} {d n : Nat} {post : Option Value → LX → Prop} {X : LX} (hn : 146 ≤ n) (hX : Sh n X) {v1 : Int32} {v2 : Int32} {v3 : Nat} {v4 : Nat} {v5 : Int32} (c0 : ¬ 3 ≤ v5) (b0 : v4 < 12) (c1 : ¬ X 144 v4 < 0) (c2 : ¬ v5 = 0) (c3 : ¬ v5 = 1) (c4 : ¬ nI v3 = v1) (b1 : v3 < 36) (c5 : X 137 v3 = (X 144 v4) - (X 144 v4) / 100 * 100) (k : Ev g mX12_check d n n post n 44 [some (.ref 133), some (.int v1), some (.int v2), some (.int ((nI v3) + 1)), some (.int (nI v4)), some (.int (v5 + 1)), none] [] X) : Ev g mX12_check d n n post n 44 [some (.ref 133), some (.int v1), some (.int v2), some (.int (nI v3)), some (.int (nI v4)), some (.int v5), none] [] X := by
  refine ev_iload dX12_check_44 rfl ?_
  refine ev_iconst (v := 3) dX12_check_46 ki_3 ?_
  refine ev_icmpF (tgt := 130) dX12_check_47 (by decide) c0 ?_
  refine ev_aload_n dX12_check_50 rfl ?_
  refine ev_getS (q := 144) dX12_check_51 fo_12_46 (by omega) lo_133 rfl (sh_133_27 hX (by omega)) (by decide) ?_
  refine ev_iload dX12_check_54 rfl ?_
  refine ev_iald dX12_check_56 (by omega) ly_144 rfl b0 ?_
  refine ev_ifF (tgt := 130) dX12_check_57 (by decide) c1 ?_
  refine ev_iload dX12_check_60 rfl ?_
  refine ev_ifT (tgt := 70) dX12_check_62 (by decide) c2 ?_
  refine ev_iload dX12_check_70 rfl ?_
  refine ev_iconst (v := 1) dX12_check_72 ki_1 ?_
  refine ev_icmpT (tgt := 89) dX12_check_73 (by decide) c3 ?_
  refine ev_aload_n dX12_check_89 rfl ?_
  refine ev_getS (q := 144) dX12_check_90 fo_12_46 (by omega) lo_133 rfl (sh_133_27 hX (by omega)) (by decide) ?_
  refine ev_iload dX12_check_93 rfl ?_
  refine ev_iald dX12_check_95 (by omega) ly_144 rfl b0 ?_
  refine ev_bipush (v := 100) dX12_check_96 kb_100 ?_
  refine ev_irem dX12_check_98 (by decide) ?_
  refine ev_istore dX12_check_99 (by decide) ?_
  refine ev_iload_n dX12_check_101 rfl ?_
  refine ev_iload_n dX12_check_102 rfl ?_
  refine ev_icmpF (tgt := 117) dX12_check_103 (by decide) c4 ?_
  refine ev_aload_n dX12_check_106 rfl ?_
  refine ev_getS (q := 137) dX12_check_107 fo_12_19 (by omega) lo_133 rfl (sh_133_5 hX (by omega)) (by decide) ?_
  refine ev_iload_n dX12_check_110 rfl ?_
  refine ev_iald dX12_check_111 (by omega) ly_137 rfl b1 ?_
  refine ev_iload dX12_check_112 rfl ?_
  refine ev_icmpT (tgt := 121) dX12_check_114 (by decide) c5 ?_
  refine ev_iinc (v := (nI v3) + 1) dX12_check_121 rfl (by rw [show Int32.ofInt 1 = 1 from ki_1]) (by decide) ?_
  refine ev_iinc (v := v5 + 1) dX12_check_124 rfl (by rw [show Int32.ofInt 1 = 1 from ki_1]) (by decide) ?_
  refine ev_goto (tgt := 44) dX12_check_127 (by decide) ?_
  refine ev_wk (L := [some (.ref 133), some (.int v1), some (.int v2), some (.int ((nI v3) + 1)), some (.int (nI v4)), some (.int (v5 + 1)), some (.int ((X 144 v4) - (X 144 v4) / 100 * 100))]) (L' := [some (.ref 133), some (.int v1), some (.int v2), some (.int ((nI v3) + 1)), some (.int (nI v4)), some (.int (v5 + 1)), none]) (by simp [lwk]) ?_
  exact k
theorem bX12_check_44_8 {g : GG} {d n : Nat} {post : Option Value → LX → Prop} {X : LX} (hn : 146 ≤ n) (hX : Sh n X) {v1 : Int32} {v2 : Int32} {v3 : Int32} {v4 : Nat} {v5 : Int32} (c0 : ¬ 3 ≤ v5) (b0 : v4 < 12) (c1 : ¬ X 144 v4 < 0) (c2 : ¬ v5 = 0) (c3 : ¬ v5 = 1) (c4 : v3 = v1) (hp : post (some (.int (1 + v3))) X) : Ev g mX12_check d n n post n 44 [some (.ref 133), some (.int v1), some (.int v2), some (.int v3), some (.int (nI v4)), some (.int v5), none] [] X := by
  refine ev_iload dX12_check_44 rfl ?_
  refine ev_iconst (v := 3) dX12_check_46 ki_3 ?_
  refine ev_icmpF (tgt := 130) dX12_check_47 (by decide) c0 ?_
  refine ev_aload_n dX12_check_50 rfl ?_
  refine ev_getS (q := 144) dX12_check_51 fo_12_46 (by omega) lo_133 rfl (sh_133_27 hX (by omega)) (by decide) ?_
  refine ev_iload dX12_check_54 rfl ?_
  refine ev_iald dX12_check_56 (by omega) ly_144 rfl b0 ?_
  refine ev_ifF (tgt := 130) dX12_check_57 (by decide) c1 ?_
  refine ev_iload dX12_check_60 rfl ?_
  refine ev_ifT (tgt := 70) dX12_check_62 (by decide) c2 ?_
  refine ev_iload dX12_check_70 rfl ?_
  refine ev_iconst (v := 1) dX12_check_72 ki_1 ?_
  refine ev_icmpT (tgt := 89) dX12_check_73 (by decide) c3 ?_
  refine ev_aload_n dX12_check_89 rfl ?_
  refine ev_getS (q := 144) dX12_check_90 fo_12_46 (by omega) lo_133 rfl (sh_133_27 hX (by omega)) (by decide) ?_
  refine ev_iload dX12_check_93 rfl ?_
  refine ev_iald dX12_check_95 (by omega) ly_144 rfl b0 ?_
  refine ev_bipush (v := 100) dX12_check_96 kb_100 ?_
  refine ev_irem dX12_check_98 (by decide) ?_
  refine ev_istore dX12_check_99 (by decide) ?_
  refine ev_iload_n dX12_check_101 rfl ?_
  refine ev_iload_n dX12_check_102 rfl ?_
  refine ev_icmpT (tgt := 117) dX12_check_103 (by decide) c4 ?_
  refine ev_iconst (v := 1) dX12_check_117 ki_1 ?_
  refine ev_iload_n dX12_check_118 rfl ?_
  refine ev_iadd dX12_check_119 ?_
  exact ev_iret dX12_check_120 rfl rfl hp
theorem bX12_check_44_9 {g : GG} {d n : Nat} {post : Option Value → LX → Prop} {X : LX} (hn : 146 ≤ n) (hX : Sh n X) {v1 : Int32} {v2 : Int32} {v3 : Int32} {v4 : Nat} {v5 : Int32} (c0 : ¬ 3 ≤ v5) (b0 : v4 < 12) (c1 : X 144 v4 < 0) (k : Ev g mX12_check d n n post n 29 [some (.ref 133), some (.int v1), some (.int v2), some (.int v3), some (.int ((nI v4) + 1)), none, none] [] X) : Ev g mX12_check d n n post n 44 [some (.ref 133), some (.int v1), some (.int v2), some (.int v3), some (.int (nI v4)), some (.int v5), none] [] X := by
  refine ev_iload dX12_check_44 rfl ?_
  refine ev_iconst (v := 3) dX12_check_46 ki_3 ?_
  refine ev_icmpF (tgt := 130) dX12_check_47 (by decide) c0 ?_
  refine ev_aload_n dX12_check_50 rfl ?_
  refine ev_getS (q := 144) dX12_check_51 fo_12_46 (by omega) lo_133 rfl (sh_133_27 hX (by omega)) (by decide) ?_
  refine ev_iload dX12_check_54 rfl ?_
  refine ev_iald dX12_check_56 (by omega) ly_144 rfl b0 ?_
  refine ev_ifT (tgt := 130) dX12_check_57 (by decide) c1 ?_
  refine ev_iinc (v := (nI v4) + 1) dX12_check_130 rfl (by rw [show Int32.ofInt 1 = 1 from ki_1]) (by decide) ?_
  refine ev_goto (tgt := 29) dX12_check_133 (by decide) ?_
  refine ev_wk (L := [some (.ref 133), some (.int v1), some (.int v2), some (.int v3), some (.int ((nI v4) + 1)), some (.int v5), none]) (L' := [some (.ref 133), some (.int v1), some (.int v2), some (.int v3), some (.int ((nI v4) + 1)), none, none]) (by simp [lwk]) ?_
  exact k
theorem bX12_check_44_10 {g : GG} {d n : Nat} {post : Option Value → LX → Prop} {X : LX} (hn : 146 ≤ n) (hX : Sh n X) {v1 : Int32} {v2 : Int32} {v3 : Int32} {v4 : Int32} {v5 : Int32} (c0 : 3 ≤ v5) (k : Ev g mX12_check d n n post n 29 [some (.ref 133), some (.int v1), some (.int v2), some (.int v3), some (.int (v4 + 1)), none, none] [] X) : Ev g mX12_check d n n post n 44 [some (.ref 133), some (.int v1), some (.int v2), some (.int v3), some (.int v4), some (.int v5), none] [] X := by
  refine ev_iload dX12_check_44 rfl ?_
  refine ev_iconst (v := 3) dX12_check_46 ki_3 ?_
  refine ev_icmpT (tgt := 130) dX12_check_47 (by decide) c0 ?_
  refine ev_iinc (v := v4 + 1) dX12_check_130 rfl (by rw [show Int32.ofInt 1 = 1 from ki_1]) (by decide) ?_
  refine ev_goto (tgt := 29) dX12_check_133 (by decide) ?_
  refine ev_wk (L := [some (.ref 133), some (.int v1), some (.int v2), some (.int v3), some (.int (v4 + 1)), some (.int v5), none]) (L' := [some (.ref 133), some (.int v1), some (.int v2), some (.int v3), some (.int (v4 + 1)), none, none]) (by simp [lwk]) ?_
  exact k
theorem qX8_gatherSwaps_58 {g : GG} {d d' n : Nat} {post post1 : Option Value → LX → Prop} {L : List (Option Value)} {rest : List Value} {X : LX} {a1 : Int32} {a2 : Int32} (hn : 146 ≤ n) (hdd : d' + 1 ≤ d) (hs8 : (rest.map fun v => v.category).sum ≤ 8) (hEx : Ex g mX8_gatherSwapsOf d' n n [.ref 87, .int a1, .int a2] X post1) (k : ∀ v X1, post1 v X1 → Ev g mX8_gatherSwaps d n n post n 61 L (v.toList ++ rest) X1) : Ev g mX8_gatherSwaps d n n post n 58 L (.int a2 :: .int a1 :: .ref 87 :: rest) X :=
  ev_callV (as := [.int a1, .int a2]) (rest := rest) dX8_gatherSwaps_58 vX8_gatherSwapsOf ml_8_118 isX8_gatherSwapsOf seX8_gatherSwapsOf npX8_gatherSwapsOf (rc_87 (by omega)) hdd (by show 64 * (d' + 1) ≤ 64 * d; omega) (by decide) rfl hs8 (Nat.le_refl n) (Nat.le_refl _) (Nat.le_refl _) hEx k
theorem qX8_seekFrom_56 {g : GG} {d d' n : Nat} {post post1 : Option Value → LX → Prop} {L : List (Option Value)} {rest : List Value} {X : LX} {a1 : Int32} {a2 : Int32} (hn : 146 ≤ n) (hdd : d' + 1 ≤ d) (hs8 : (rest.map fun v => v.category).sum ≤ 8) (hEx : Ex g mX8_takeRow d' n n [.ref 87, .int a1, .int a2] X post1) (k : ∀ v X1, post1 v X1 → Ev g mX8_seekFrom d n n post n 59 L (v.toList ++ rest) X1) : Ev g mX8_seekFrom d n n post n 56 L (.int a2 :: .int a1 :: .ref 87 :: rest) X :=
  ev_callV (as := [.int a1, .int a2]) (rest := rest) dX8_seekFrom_56 vX8_takeRow ml_8_134 isX8_takeRow seX8_takeRow npX8_takeRow (rc_87 (by omega)) hdd (by show 64 * (d' + 1) ≤ 64 * d; omega) (by decide) rfl hs8 (Nat.le_refl n) (Nat.le_refl _) (Nat.le_refl _) hEx k
theorem qX8_seekFrom_73 {g : GG} {d d' n : Nat} {post post1 : Option Value → LX → Prop} {L : List (Option Value)} {rest : List Value} {X : LX} {a1 : Int32} {a2 : Int32} {a3 : Int32} (hn : 146 ≤ n) (hdd : d' + 1 ≤ d) (hs8 : (rest.map fun v => v.category).sum ≤ 8) (hEx : Ex g mX8_seekFrom d' n n [.ref 87, .int a1, .int a2, .int a3] X post1) (k : ∀ v X1, post1 v X1 → Ev g mX8_seekFrom d n n post n 76 L (v.toList ++ rest) X1) : Ev g mX8_seekFrom d n n post n 73 L (.int a3 :: .int a2 :: .int a1 :: .ref 87 :: rest) X :=
  ev_callV (as := [.int a1, .int a2, .int a3]) (rest := rest) dX8_seekFrom_73 vX8_seekFrom ml_8_71 isX8_seekFrom seX8_seekFrom npX8_seekFrom (rc_87 (by omega)) hdd (by show 64 * (d' + 1) ≤ 64 * d; omega) (by decide) rfl hs8 (Nat.le_refl n) (Nat.le_refl _) (Nat.le_refl _) hEx k
theorem qX8_seekFrom_160 {g : GG} {d d' n : Nat} {post post1 : Option Value → LX → Prop} {L : List (Option Value)} {rest : List Value} {X : LX} {a1 : Int32} {a2 : Int32} {a3 : Int32} (hn : 146 ≤ n) (hdd : d' + 1 ≤ d) (hs8 : (rest.map fun v => v.category).sum ≤ 8) (hEx : Ex g mX8_move d' n n [.ref 87, .int a1, .int a2, .int a3] X post1) (k : ∀ v X1, post1 v X1 → Ev g mX8_seekFrom d n n post n 163 L (v.toList ++ rest) X1) : Ev g mX8_seekFrom d n n post n 160 L (.int a3 :: .int a2 :: .int a1 :: .ref 87 :: rest) X :=
  ev_callV (as := [.int a1, .int a2, .int a3]) (rest := rest) dX8_seekFrom_160 vX8_move ml_8_137 isX8_move seX8_move npX8_move (rc_87 (by omega)) hdd (by show 64 * (d' + 1) ≤ 64 * d; omega) (by decide) rfl hs8 (Nat.le_refl n) (Nat.le_refl _) (Nat.le_refl _) hEx k
theorem qX8_seekFrom_179 {g : GG} {d d' n : Nat} {post post1 : Option Value → LX → Prop} {L : List (Option Value)} {rest : List Value} {X : LX} {a1 : Int32} {a2 : Int32} {a3 : Int32} (hn : 146 ≤ n) (hdd : d' + 1 ≤ d) (hs8 : (rest.map fun v => v.category).sum ≤ 8) (hEx : Ex g mX8_seekFrom d' n n [.ref 87, .int a1, .int a2, .int a3] X post1) (k : ∀ v X1, post1 v X1 → Ev g mX8_seekFrom d n n post n 182 L (v.toList ++ rest) X1) : Ev g mX8_seekFrom d n n post n 179 L (.int a3 :: .int a2 :: .int a1 :: .ref 87 :: rest) X :=
  ev_callV (as := [.int a1, .int a2, .int a3]) (rest := rest) dX8_seekFrom_179 vX8_seekFrom ml_8_71 isX8_seekFrom seX8_seekFrom npX8_seekFrom (rc_87 (by omega)) hdd (by show 64 * (d' + 1) ≤ 64 * d; omega) (by decide) rfl hs8 (Nat.le_refl n) (Nat.le_refl _) (Nat.le_refl _) hEx k
theorem qX8_seekFrom_204 {g : GG} {d d' n : Nat} {post post1 : Option Value → LX → Prop} {L : List (Option Value)} {rest : List Value} {X : LX} {a1 : Int32} {a2 : Int32} {a3 : Int32} (hn : 146 ≤ n) (hdd : d' + 1 ≤ d) (hs8 : (rest.map fun v => v.category).sum ≤ 8) (hEx : Ex g mX8_move d' n n [.ref 87, .int a1, .int a2, .int a3] X post1) (k : ∀ v X1, post1 v X1 → Ev g mX8_seekFrom d n n post n 207 L (v.toList ++ rest) X1) : Ev g mX8_seekFrom d n n post n 204 L (.int a3 :: .int a2 :: .int a1 :: .ref 87 :: rest) X :=
  ev_callV (as := [.int a1, .int a2, .int a3]) (rest := rest) dX8_seekFrom_204 vX8_move ml_8_137 isX8_move seX8_move npX8_move (rc_87 (by omega)) hdd (by show 64 * (d' + 1) ≤ 64 * d; omega) (by decide) rfl hs8 (Nat.le_refl n) (Nat.le_refl _) (Nat.le_refl _) hEx k
theorem qX8_move_3 {g : GG} {d d' n : Nat} {post post1 : Option Value → LX → Prop} {L : List (Option Value)} {rest : List Value} {X : LX} {a1 : Int32} {a2 : Int32} (hn : 146 ≤ n) (hdd : d' + 1 ≤ d) (hs8 : (rest.map fun v => v.category).sum ≤ 8) (hEx : Ex g mX8_change d' n n [.ref 87, .int a1, .int a2] X post1) (k : ∀ v X1, post1 v X1 → Ev g mX8_move d n n post n 6 L (v.toList ++ rest) X1) : Ev g mX8_move d n n post n 3 L (.int a2 :: .int a1 :: .ref 87 :: rest) X :=
  ev_callV (as := [.int a1, .int a2]) (rest := rest) dX8_move_3 vX8_change ml_8_140 isX8_change seX8_change npX8_change (rc_87 (by omega)) hdd (by show 64 * (d' + 1) ≤ 64 * d; omega) (by decide) rfl hs8 (Nat.le_refl n) (Nat.le_refl _) (Nat.le_refl _) hEx k
theorem qX8_move_10 {g : GG} {d d' n : Nat} {post post1 : Option Value → LX → Prop} {L : List (Option Value)} {rest : List Value} {X : LX} {a1 : Int32} {a2 : Int32} (hn : 146 ≤ n) (hdd : d' + 1 ≤ d) (hs8 : (rest.map fun v => v.category).sum ≤ 8) (hEx : Ex g mX8_change d' n n [.ref 87, .int a1, .int a2] X post1) (k : ∀ v X1, post1 v X1 → Ev g mX8_move d n n post n 13 L (v.toList ++ rest) X1) : Ev g mX8_move d n n post n 10 L (.int a2 :: .int a1 :: .ref 87 :: rest) X :=
  ev_callV (as := [.int a1, .int a2]) (rest := rest) dX8_move_10 vX8_change ml_8_140 isX8_change seX8_change npX8_change (rc_87 (by omega)) hdd (by show 64 * (d' + 1) ≤ 64 * d; omega) (by decide) rfl hs8 (Nat.le_refl n) (Nat.le_refl _) (Nat.le_refl _) hEx k
theorem qX8_seek_1 {g : GG} {d d' n : Nat} {post post1 : Option Value → LX → Prop} {L : List (Option Value)} {rest : List Value} {X : LX}  (hn : 146 ≤ n) (hdd : d' + 1 ≤ d) (hs8 : (rest.map fun v => v.category).sum ≤ 8) (hEx : Ex g mX8_gatherNeeds d' n n [.ref 87] X post1) (k : ∀ v X1, post1 v X1 → Ev g mX8_seek d n n post n 4 L (v.toList ++ rest) X1) : Ev g mX8_seek d n n post n 1 L (.ref 87 :: rest) X :=
  ev_callV (as := []) (rest := rest) dX8_seek_1 vX8_gatherNeeds ml_8_48 isX8_gatherNeeds seX8_gatherNeeds npX8_gatherNeeds (rc_87 (by omega)) hdd (by show 64 * (d' + 1) ≤ 64 * d; omega) (by decide) rfl hs8 (Nat.le_refl n) (Nat.le_refl _) (Nat.le_refl _) hEx k
theorem qX8_seek_5 {g : GG} {d d' n : Nat} {post post1 : Option Value → LX → Prop} {L : List (Option Value)} {rest : List Value} {X : LX}  (hn : 146 ≤ n) (hdd : d' + 1 ≤ d) (hs8 : (rest.map fun v => v.category).sum ≤ 8) (hEx : Ex g mX8_gatherSwaps d' n n [.ref 87] X post1) (k : ∀ v X1, post1 v X1 → Ev g mX8_seek d n n post n 8 L (v.toList ++ rest) X1) : Ev g mX8_seek d n n post n 5 L (.ref 87 :: rest) X :=
  ev_callV (as := []) (rest := rest) dX8_seek_5 vX8_gatherSwaps ml_8_51 isX8_gatherSwaps seX8_gatherSwaps npX8_gatherSwaps (rc_87 (by omega)) hdd (by show 64 * (d' + 1) ≤ 64 * d; omega) (by decide) rfl hs8 (Nat.le_refl n) (Nat.le_refl _) (Nat.le_refl _) hEx k
theorem qX8_seek_37 {g : GG} {d d' n : Nat} {post post1 : Option Value → LX → Prop} {L : List (Option Value)} {rest : List Value} {X : LX} {a1 : Int32} {a2 : Int32} {a3 : Int32} (hn : 146 ≤ n) (hdd : d' + 1 ≤ d) (hs8 : (rest.map fun v => v.category).sum ≤ 8) (hEx : Ex g mX8_seekFrom d' n n [.ref 87, .int a1, .int a2, .int a3] X post1) (k : ∀ v X1, post1 v X1 → Ev g mX8_seek d n n post n 40 L (v.toList ++ rest) X1) : Ev g mX8_seek d n n post n 37 L (.int a3 :: .int a2 :: .int a1 :: .ref 87 :: rest) X :=
  ev_callV (as := [.int a1, .int a2, .int a3]) (rest := rest) dX8_seek_37 vX8_seekFrom ml_8_71 isX8_seekFrom seX8_seekFrom npX8_seekFrom (rc_87 (by omega)) hdd (by show 64 * (d' + 1) ≤ 64 * d; omega) (by decide) rfl hs8 (Nat.le_refl n) (Nat.le_refl _) (Nat.le_refl _) hEx k
theorem qX8_packAll_6 {g : GG} {d d' n : Nat} {post post1 : Option Value → LX → Prop} {L : List (Option Value)} {rest : List Value} {X : LX}  (hn : 146 ≤ n) (hdd : d' + 1 ≤ d) (hs8 : (rest.map fun v => v.category).sum ≤ 8) (hEx : Ex g mX1_freezeBoxes d' n n [.ref 1] X post1) (k : ∀ v X1, post1 v X1 → Ev g mX8_packAll d n n post n 9 L (v.toList ++ rest) X1) : Ev g mX8_packAll d n n post n 6 L (.ref 1 :: rest) X :=
  ev_callV (as := []) (rest := rest) dX8_packAll_6 vX1_freezeBoxes ml_8_161 isX1_freezeBoxes seX1_freezeBoxes npX1_freezeBoxes (rc_1 (by omega)) hdd (by show 64 * (d' + 1) ≤ 64 * d; omega) (by decide) rfl hs8 (Nat.le_refl n) (Nat.le_refl _) (Nat.le_refl _) hEx k
theorem qX8_packAll_44 {g : GG} {d d' n : Nat} {post post1 : Option Value → LX → Prop} {L : List (Option Value)} {rest : List Value} {X : LX} {a1 : Int32} {a2 : Int32} (hn : 146 ≤ n) (hdd : d' + 1 ≤ d) (hs8 : (rest.map fun v => v.category).sum ≤ 8) (hEx : Ex g mX8_plannedNeed d' n n [.ref 87, .int a1, .int a2] X post1) (k : ∀ v X1, post1 v X1 → Ev g mX8_packAll d n n post n 47 L (v.toList ++ rest) X1) : Ev g mX8_packAll d n n post n 44 L (.int a2 :: .int a1 :: .ref 87 :: rest) X :=
  ev_callV (as := [.int a1, .int a2]) (rest := rest) dX8_packAll_44 vX8_plannedNeed ml_8_164 isX8_plannedNeed seX8_plannedNeed npX8_plannedNeed (rc_87 (by omega)) hdd (by show 64 * (d' + 1) ≤ 64 * d; omega) (by decide) rfl hs8 (Nat.le_refl n) (Nat.le_refl _) (Nat.le_refl _) hEx k
theorem qX8_packAll_60 {g : GG} {d d' n : Nat} {post post1 : Option Value → LX → Prop} {L : List (Option Value)} {rest : List Value} {X : LX} {a1 : Int32} {a2 : Int32} {a3 : Int32} (hn : 146 ≤ n) (hdd : d' + 1 ≤ d) (hs8 : (rest.map fun v => v.category).sum ≤ 8) (hEx : Ex g mX4_draw d' n n [.ref 69, .int a1, .int a2, .int a3] X post1) (k : ∀ v X1, post1 v X1 → Ev g mX8_packAll d n n post n 63 L (v.toList ++ rest) X1) : Ev g mX8_packAll d n n post n 60 L (.int a3 :: .int a2 :: .int a1 :: .ref 69 :: rest) X :=
  ev_callV (as := [.int a1, .int a2, .int a3]) (rest := rest) dX8_packAll_60 vX4_draw ml_8_168 isX4_draw seX4_draw npX4_draw (rc_69 (by omega)) hdd (by show 64 * (d' + 1) ≤ 64 * d; omega) (by decide) rfl hs8 (Nat.le_refl n) (Nat.le_refl _) (Nat.le_refl _) hEx k
theorem qX8_plannedNeed_3 {g : GG} {d d' n : Nat} {post post1 : Option Value → LX → Prop} {L : List (Option Value)} {rest : List Value} {X : LX} {a1 : Int32} (hn : 146 ≤ n) (hdd : d' + 1 ≤ d) (hs8 : (rest.map fun v => v.category).sum ≤ 8) (hEx : Ex g mX8_goesOf d' n n [.ref 87, .int a1] X post1) (k : ∀ v X1, post1 v X1 → Ev g mX8_plannedNeed d n n post n 6 L (v.toList ++ rest) X1) : Ev g mX8_plannedNeed d n n post n 3 L (.int a1 :: .ref 87 :: rest) X :=
  ev_callV (as := [.int a1]) (rest := rest) dX8_plannedNeed_3 vX8_goesOf ml_8_155 isX8_goesOf seX8_goesOf npX8_goesOf (rc_87 (by omega)) hdd (by show 64 * (d' + 1) ≤ 64 * d; omega) (by decide) rfl hs8 (Nat.le_refl n) (Nat.le_refl _) (Nat.le_refl _) hEx k
theorem qX8_plannedNeed_14 {g : GG} {d d' n : Nat} {post post1 : Option Value → LX → Prop} {L : List (Option Value)} {rest : List Value} {X : LX} {a1 : Int32} (hn : 146 ≤ n) (hdd : d' + 1 ≤ d) (hs8 : (rest.map fun v => v.category).sum ≤ 8) (hEx : Ex g mX8_comesOf d' n n [.ref 87, .int a1] X post1) (k : ∀ v X1, post1 v X1 → Ev g mX8_plannedNeed d n n post n 17 L (v.toList ++ rest) X1) : Ev g mX8_plannedNeed d n n post n 14 L (.int a1 :: .ref 87 :: rest) X :=
  ev_callV (as := [.int a1]) (rest := rest) dX8_plannedNeed_14 vX8_comesOf ml_8_158 isX8_comesOf seX8_comesOf npX8_comesOf (rc_87 (by omega)) hdd (by show 64 * (d' + 1) ≤ 64 * d; omega) (by decide) rfl hs8 (Nat.le_refl n) (Nat.le_refl _) (Nat.le_refl _) hEx k
theorem qX8_listRows_34 {g : GG} {d d' n : Nat} {post post1 : Option Value → LX → Prop} {L : List (Option Value)} {rest : List Value} {X : LX} {a1 : Int32} (hn : 146 ≤ n) (hdd : d' + 1 ≤ d) (hs8 : (rest.map fun v => v.category).sum ≤ 8) (hEx : Ex g mX8_isSwapped d' n n [.ref 87, .int a1] X post1) (k : ∀ v X1, post1 v X1 → Ev g mX8_listRows d n n post n 37 L (v.toList ++ rest) X1) : Ev g mX8_listRows d n n post n 34 L (.int a1 :: .ref 87 :: rest) X :=
  ev_callV (as := [.int a1]) (rest := rest) dX8_listRows_34 vX8_isSwapped ml_8_151 isX8_isSwapped seX8_isSwapped npX8_isSwapped (rc_87 (by omega)) hdd (by show 64 * (d' + 1) ≤ 64 * d; omega) (by decide) rfl hs8 (Nat.le_refl n) (Nat.le_refl _) (Nat.le_refl _) hEx k
theorem qX8_listRows_77 {g : GG} {d d' n : Nat} {post post1 : Option Value → LX → Prop} {L : List (Option Value)} {rest : List Value} {X : LX} {a1 : Int32} (hn : 146 ≤ n) (hdd : d' + 1 ≤ d) (hs8 : (rest.map fun v => v.category).sum ≤ 8) (hEx : Ex g mX8_goesOf d' n n [.ref 87, .int a1] X post1) (k : ∀ v X1, post1 v X1 → Ev g mX8_listRows d n n post n 80 L (v.toList ++ rest) X1) : Ev g mX8_listRows d n n post n 77 L (.int a1 :: .ref 87 :: rest) X :=
  ev_callV (as := [.int a1]) (rest := rest) dX8_listRows_77 vX8_goesOf ml_8_155 isX8_goesOf seX8_goesOf npX8_goesOf (rc_87 (by omega)) hdd (by show 64 * (d' + 1) ≤ 64 * d; omega) (by decide) rfl hs8 (Nat.le_refl n) (Nat.le_refl _) (Nat.le_refl _) hEx k
theorem qX8_listRows_98 {g : GG} {d d' n : Nat} {post post1 : Option Value → LX → Prop} {L : List (Option Value)} {rest : List Value} {X : LX} {a1 : Int32} (hn : 146 ≤ n) (hdd : d' + 1 ≤ d) (hs8 : (rest.map fun v => v.category).sum ≤ 8) (hEx : Ex g mX8_comesOf d' n n [.ref 87, .int a1] X post1) (k : ∀ v X1, post1 v X1 → Ev g mX8_listRows d n n post n 101 L (v.toList ++ rest) X1) : Ev g mX8_listRows d n n post n 98 L (.int a1 :: .ref 87 :: rest) X :=
  ev_callV (as := [.int a1]) (rest := rest) dX8_listRows_98 vX8_comesOf ml_8_158 isX8_comesOf seX8_comesOf npX8_comesOf (rc_87 (by omega)) hdd (by show 64 * (d' + 1) ≤ 64 * d; omega) (by decide) rfl hs8 (Nat.le_refl n) (Nat.le_refl _) (Nat.le_refl _) hEx k
theorem qX12_trySwap_58 {g : GG} {d d' n : Nat} {post post1 : Option Value → LX → Prop} {L : List (Option Value)} {rest : List Value} {X : LX} {a1 : Int32} {a2 : Int32} {a3 : Int32} (hn : 146 ≤ n) (hdd : d' + 1 ≤ d) (hs8 : (rest.map fun v => v.category).sum ≤ 8) (hEx : Ex g mX12_moves d' n n [.ref 133, .int a1, .int a2, .int a3] X post1) (k : ∀ v X1, post1 v X1 → Ev g mX12_trySwap d n n post n 61 L (v.toList ++ rest) X1) : Ev g mX12_trySwap d n n post n 58 L (.int a3 :: .int a2 :: .int a1 :: .ref 133 :: rest) X :=
  ev_callV (as := [.int a1, .int a2, .int a3]) (rest := rest) dX12_trySwap_58 vX12_moves ml_12_294 isX12_moves seX12_moves npX12_moves (rc_133 (by omega)) hdd (by show 64 * (d' + 1) ≤ 64 * d; omega) (by decide) rfl hs8 (Nat.le_refl n) (Nat.le_refl _) (Nat.le_refl _) hEx k
theorem qX12_trySwap_86 {g : GG} {d d' n : Nat} {post post1 : Option Value → LX → Prop} {L : List (Option Value)} {rest : List Value} {X : LX} {a1 : Int32} {a2 : Int32} {a3 : Int32} (hn : 146 ≤ n) (hdd : d' + 1 ≤ d) (hs8 : (rest.map fun v => v.category).sum ≤ 8) (hEx : Ex g mX12_planFrom d' n n [.ref 133, .int a1, .int a2, .int a3] X post1) (k : ∀ v X1, post1 v X1 → Ev g mX12_trySwap d n n post n 89 L (v.toList ++ rest) X1) : Ev g mX12_trySwap d n n post n 86 L (.int a3 :: .int a2 :: .int a1 :: .ref 133 :: rest) X :=
  ev_callV (as := [.int a1, .int a2, .int a3]) (rest := rest) dX12_trySwap_86 vX12_planFrom ml_12_283 isX12_planFrom seX12_planFrom npX12_planFrom (rc_133 (by omega)) hdd (by show 64 * (d' + 1) ≤ 64 * d; omega) (by decide) rfl hs8 (Nat.le_refl n) (Nat.le_refl _) (Nat.le_refl _) hEx k
theorem qX12_trySwap_100 {g : GG} {d d' n : Nat} {post post1 : Option Value → LX → Prop} {L : List (Option Value)} {rest : List Value} {X : LX} {a1 : Int32} {a2 : Int32} {a3 : Int32} (hn : 146 ≤ n) (hdd : d' + 1 ≤ d) (hs8 : (rest.map fun v => v.category).sum ≤ 8) (hEx : Ex g mX12_moves d' n n [.ref 133, .int a1, .int a2, .int a3] X post1) (k : ∀ v X1, post1 v X1 → Ev g mX12_trySwap d n n post n 103 L (v.toList ++ rest) X1) : Ev g mX12_trySwap d n n post n 100 L (.int a3 :: .int a2 :: .int a1 :: .ref 133 :: rest) X :=
  ev_callV (as := [.int a1, .int a2, .int a3]) (rest := rest) dX12_trySwap_100 vX12_moves ml_12_294 isX12_moves seX12_moves npX12_moves (rc_133 (by omega)) hdd (by show 64 * (d' + 1) ≤ 64 * d; omega) (by decide) rfl hs8 (Nat.le_refl n) (Nat.le_refl _) (Nat.le_refl _) hEx k
theorem qX12_planFrom_44 {g : GG} {d d' n : Nat} {post post1 : Option Value → LX → Prop} {L : List (Option Value)} {rest : List Value} {X : LX}  (hn : 146 ≤ n) (hdd : d' + 1 ≤ d) (hs8 : (rest.map fun v => v.category).sum ≤ 8) (hEx : Ex g mX12_isEnough d' n n [.ref 133] X post1) (k : ∀ v X1, post1 v X1 → Ev g mX12_planFrom d n n post n 47 L (v.toList ++ rest) X1) : Ev g mX12_planFrom d n n post n 44 L (.ref 133 :: rest) X :=
  ev_callV (as := []) (rest := rest) dX12_planFrom_44 vX12_isEnough ml_12_279 isX12_isEnough seX12_isEnough npX12_isEnough (rc_133 (by omega)) hdd (by show 64 * (d' + 1) ≤ 64 * d; omega) (by decide) rfl hs8 (Nat.le_refl n) (Nat.le_refl _) (Nat.le_refl _) hEx k
theorem qX12_planFrom_97 {g : GG} {d d' n : Nat} {post post1 : Option Value → LX → Prop} {L : List (Option Value)} {rest : List Value} {X : LX} {a1 : Int32} {a2 : Int32} {a3 : Int32} (hn : 146 ≤ n) (hdd : d' + 1 ≤ d) (hs8 : (rest.map fun v => v.category).sum ≤ 8) (hEx : Ex g mX12_planFrom d' n n [.ref 133, .int a1, .int a2, .int a3] X post1) (k : ∀ v X1, post1 v X1 → Ev g mX12_planFrom d n n post n 100 L (v.toList ++ rest) X1) : Ev g mX12_planFrom d n n post n 97 L (.int a3 :: .int a2 :: .int a1 :: .ref 133 :: rest) X :=
  ev_callV (as := [.int a1, .int a2, .int a3]) (rest := rest) dX12_planFrom_97 vX12_planFrom ml_12_283 isX12_planFrom seX12_planFrom npX12_planFrom (rc_133 (by omega)) hdd (by show 64 * (d' + 1) ≤ 64 * d; omega) (by decide) rfl hs8 (Nat.le_refl n) (Nat.le_refl _) (Nat.le_refl _) hEx k
theorem qX12_planFrom_141 {g : GG} {d d' n : Nat} {post post1 : Option Value → LX → Prop} {L : List (Option Value)} {rest : List Value} {X : LX} {a1 : Int32} {a2 : Int32} {a3 : Int32} (hn : 146 ≤ n) (hdd : d' + 1 ≤ d) (hs8 : (rest.map fun v => v.category).sum ≤ 8) (hEx : Ex g mX12_maySwap d' n n [.ref 133, .int a1, .int a2, .int a3] X post1) (k : ∀ v X1, post1 v X1 → Ev g mX12_planFrom d n n post n 144 L (v.toList ++ rest) X1) : Ev g mX12_planFrom d n n post n 141 L (.int a3 :: .int a2 :: .int a1 :: .ref 133 :: rest) X :=
  ev_callV (as := [.int a1, .int a2, .int a3]) (rest := rest) dX12_planFrom_141 vX12_maySwap ml_12_287 isX12_maySwap seX12_maySwap npX12_maySwap (rc_133 (by omega)) hdd (by show 64 * (d' + 1) ≤ 64 * d; omega) (by decide) rfl hs8 (Nat.le_refl n) (Nat.le_refl _) (Nat.le_refl _) hEx k
theorem qX12_planFrom_155 {g : GG} {d d' n : Nat} {post post1 : Option Value → LX → Prop} {L : List (Option Value)} {rest : List Value} {X : LX} {a1 : Int32} {a2 : Int32} {a3 : Int32} {a4 : Int32} {a5 : Int32} (hn : 146 ≤ n) (hdd : d' + 1 ≤ d) (hs8 : (rest.map fun v => v.category).sum ≤ 8) (hEx : Ex g mX12_trySwap d' n n [.ref 133, .int a1, .int a2, .int a3, .int a4, .int a5] X post1) (k : ∀ v X1, post1 v X1 → Ev g mX12_planFrom d n n post n 158 L (v.toList ++ rest) X1) : Ev g mX12_planFrom d n n post n 155 L (.int a5 :: .int a4 :: .int a3 :: .int a2 :: .int a1 :: .ref 133 :: rest) X :=
  ev_callV (as := [.int a1, .int a2, .int a3, .int a4, .int a5]) (rest := rest) dX12_planFrom_155 vX12_trySwap ml_12_290 isX12_trySwap seX12_trySwap npX12_trySwap (rc_133 (by omega)) hdd (by show 64 * (d' + 1) ≤ 64 * d; omega) (by decide) rfl hs8 (Nat.le_refl n) (Nat.le_refl _) (Nat.le_refl _) hEx k
theorem qX12_findPlan_1 {g : GG} {d d' n : Nat} {post post1 : Option Value → LX → Prop} {L : List (Option Value)} {rest : List Value} {X : LX}  (hn : 146 ≤ n) (hdd : d' + 1 ≤ d) (hs8 : (rest.map fun v => v.category).sum ≤ 8) (hEx : Ex g mX12_findNeeds d' n n [.ref 133] X post1) (k : ∀ v X1, post1 v X1 → Ev g mX12_findPlan d n n post n 4 L (v.toList ++ rest) X1) : Ev g mX12_findPlan d n n post n 1 L (.ref 133 :: rest) X :=
  ev_callV (as := []) (rest := rest) dX12_findPlan_1 vX12_findNeeds ml_12_264 isX12_findNeeds seX12_findNeeds npX12_findNeeds (rc_133 (by omega)) hdd (by show 64 * (d' + 1) ≤ 64 * d; omega) (by decide) rfl hs8 (Nat.le_refl n) (Nat.le_refl _) (Nat.le_refl _) hEx k
theorem qX12_findPlan_49 {g : GG} {d d' n : Nat} {post post1 : Option Value → LX → Prop} {L : List (Option Value)} {rest : List Value} {X : LX} {a1 : Int32} {a2 : Int32} {a3 : Int32} (hn : 146 ≤ n) (hdd : d' + 1 ≤ d) (hs8 : (rest.map fun v => v.category).sum ≤ 8) (hEx : Ex g mX12_planFrom d' n n [.ref 133, .int a1, .int a2, .int a3] X post1) (k : ∀ v X1, post1 v X1 → Ev g mX12_findPlan d n n post n 52 L (v.toList ++ rest) X1) : Ev g mX12_findPlan d n n post n 49 L (.int a3 :: .int a2 :: .int a1 :: .ref 133 :: rest) X :=
  ev_callV (as := [.int a1, .int a2, .int a3]) (rest := rest) dX12_findPlan_49 vX12_planFrom ml_12_283 isX12_planFrom seX12_planFrom npX12_planFrom (rc_133 (by omega)) hdd (by show 64 * (d' + 1) ≤ 64 * d; omega) (by decide) rfl hs8 (Nat.le_refl n) (Nat.le_refl _) (Nat.le_refl _) hEx k
theorem qX11_plan_19 {g : GG} {d d' n : Nat} {post post1 : Option Value → LX → Prop} {L : List (Option Value)} {rest : List Value} {X : LX} {a1 : Int32} (hn : 146 ≤ n) (hdd : d' + 1 ≤ d) (hs8 : (rest.map fun v => v.category).sum ≤ 8) (hEx : Ex g mX8_seek d' n n [.ref 87, .int a1] X post1) (k : ∀ v X1, post1 v X1 → Ev g mX11_plan d n n post n 22 L (v.toList ++ rest) X1) : Ev g mX11_plan d n n post n 19 L (.int a1 :: .ref 87 :: rest) X :=
  ev_callV (as := [.int a1]) (rest := rest) dX11_plan_19 vX8_seek ml_11_311 isX8_seek seX8_seek npX8_seek (rc_87 (by omega)) hdd (by show 64 * (d' + 1) ≤ 64 * d; omega) (by decide) rfl hs8 (Nat.le_refl n) (Nat.le_refl _) (Nat.le_refl _) hEx k
theorem qX12_plan_16 {g : GG} {d d' n : Nat} {post post1 : Option Value → LX → Prop} {L : List (Option Value)} {rest : List Value} {X : LX} {a1 : Int32} (hn : 146 ≤ n) (hdd : d' + 1 ≤ d) (hs8 : (rest.map fun v => v.category).sum ≤ 8) (hEx : Ex g mX12_findPlan d' n n [.ref 133, .int a1] X post1) (k : ∀ v X1, post1 v X1 → Ev g mX12_plan d n n post n 19 L (v.toList ++ rest) X1) : Ev g mX12_plan d n n post n 16 L (.int a1 :: .ref 133 :: rest) X :=
  ev_callV (as := [.int a1]) (rest := rest) dX12_plan_16 vX12_findPlan ml_12_297 isX12_findPlan seX12_findPlan npX12_findPlan (rc_133 (by omega)) hdd (by show 64 * (d' + 1) ≤ 64 * d; omega) (by decide) rfl hs8 (Nat.le_refl n) (Nat.le_refl _) (Nat.le_refl _) hEx k
theorem qX11_swap_33 {g : GG} {d d' n : Nat} {post post1 : Option Value → LX → Prop} {L : List (Option Value)} {rest : List Value} {X : LX} {a1 : Int32} (hn : 146 ≤ n) (hdd : d' + 1 ≤ d) (hs8 : (rest.map fun v => v.category).sum ≤ 8) (hEx : Ex g mX8_seek d' n n [.ref 87, .int a1] X post1) (k : ∀ v X1, post1 v X1 → Ev g mX11_swap d n n post n 36 L (v.toList ++ rest) X1) : Ev g mX11_swap d n n post n 33 L (.int a1 :: .ref 87 :: rest) X :=
  ev_callV (as := [.int a1]) (rest := rest) dX11_swap_33 vX8_seek ml_11_311 isX8_seek seX8_seek npX8_seek (rc_87 (by omega)) hdd (by show 64 * (d' + 1) ≤ 64 * d; omega) (by decide) rfl hs8 (Nat.le_refl n) (Nat.le_refl _) (Nat.le_refl _) hEx k
theorem qX11_swap_48 {g : GG} {d d' n : Nat} {post post1 : Option Value → LX → Prop} {L : List (Option Value)} {rest : List Value} {X : LX} {a1 : Int32} (hn : 146 ≤ n) (hdd : d' + 1 ≤ d) (hs8 : (rest.map fun v => v.category).sum ≤ 8) (hEx : Ex g mX8_isSwapped d' n n [.ref 87, .int a1] X post1) (k : ∀ v X1, post1 v X1 → Ev g mX11_swap d n n post n 51 L (v.toList ++ rest) X1) : Ev g mX11_swap d n n post n 48 L (.int a1 :: .ref 87 :: rest) X :=
  ev_callV (as := [.int a1]) (rest := rest) dX11_swap_48 vX8_isSwapped ml_11_316 isX8_isSwapped seX8_isSwapped npX8_isSwapped (rc_87 (by omega)) hdd (by show 64 * (d' + 1) ≤ 64 * d; omega) (by decide) rfl hs8 (Nat.le_refl n) (Nat.le_refl _) (Nat.le_refl _) hEx k
theorem qX11_swap_65 {g : GG} {d d' n : Nat} {post post1 : Option Value → LX → Prop} {L : List (Option Value)} {rest : List Value} {X : LX} {a1 : Int32} (hn : 146 ≤ n) (hdd : d' + 1 ≤ d) (hs8 : (rest.map fun v => v.category).sum ≤ 8) (hEx : Ex g mX8_goesOf d' n n [.ref 87, .int a1] X post1) (k : ∀ v X1, post1 v X1 → Ev g mX11_swap d n n post n 68 L (v.toList ++ rest) X1) : Ev g mX11_swap d n n post n 65 L (.int a1 :: .ref 87 :: rest) X :=
  ev_callV (as := [.int a1]) (rest := rest) dX11_swap_65 vX8_goesOf ml_11_320 isX8_goesOf seX8_goesOf npX8_goesOf (rc_87 (by omega)) hdd (by show 64 * (d' + 1) ≤ 64 * d; omega) (by decide) rfl hs8 (Nat.le_refl n) (Nat.le_refl _) (Nat.le_refl _) hEx k
theorem qX11_swap_74 {g : GG} {d d' n : Nat} {post post1 : Option Value → LX → Prop} {L : List (Option Value)} {rest : List Value} {X : LX} {a1 : Int32} (hn : 146 ≤ n) (hdd : d' + 1 ≤ d) (hs8 : (rest.map fun v => v.category).sum ≤ 8) (hEx : Ex g mX8_comesOf d' n n [.ref 87, .int a1] X post1) (k : ∀ v X1, post1 v X1 → Ev g mX11_swap d n n post n 77 L (v.toList ++ rest) X1) : Ev g mX11_swap d n n post n 74 L (.int a1 :: .ref 87 :: rest) X :=
  ev_callV (as := [.int a1]) (rest := rest) dX11_swap_74 vX8_comesOf ml_11_323 isX8_comesOf seX8_comesOf npX8_comesOf (rc_87 (by omega)) hdd (by show 64 * (d' + 1) ≤ 64 * d; omega) (by decide) rfl hs8 (Nat.le_refl n) (Nat.le_refl _) (Nat.le_refl _) hEx k
theorem qX12_swap_24 {g : GG} {d d' n : Nat} {post post1 : Option Value → LX → Prop} {L : List (Option Value)} {rest : List Value} {X : LX} {a1 : Int32} (hn : 146 ≤ n) (hdd : d' + 1 ≤ d) (hs8 : (rest.map fun v => v.category).sum ≤ 8) (hEx : Ex g mX12_findPlan d' n n [.ref 133, .int a1] X post1) (k : ∀ v X1, post1 v X1 → Ev g mX12_swap d n n post n 27 L (v.toList ++ rest) X1) : Ev g mX12_swap d n n post n 24 L (.int a1 :: .ref 133 :: rest) X :=
  ev_callV (as := [.int a1]) (rest := rest) dX12_swap_24 vX12_findPlan ml_12_297 isX12_findPlan seX12_findPlan npX12_findPlan (rc_133 (by omega)) hdd (by show 64 * (d' + 1) ≤ 64 * d; omega) (by decide) rfl hs8 (Nat.le_refl n) (Nat.le_refl _) (Nat.le_refl _) hEx k
theorem qX11_pack_32 {g : GG} {d d' n : Nat} {post post1 : Option Value → LX → Prop} {L : List (Option Value)} {rest : List Value} {X : LX} {a1 : Int32} (hn : 146 ≤ n) (hdd : d' + 1 ≤ d) (hs8 : (rest.map fun v => v.category).sum ≤ 8) (hEx : Ex g mX8_seek d' n n [.ref 87, .int a1] X post1) (k : ∀ v X1, post1 v X1 → Ev g mX11_pack d n n post n 35 L (v.toList ++ rest) X1) : Ev g mX11_pack d n n post n 32 L (.int a1 :: .ref 87 :: rest) X :=
  ev_callV (as := [.int a1]) (rest := rest) dX11_pack_32 vX8_seek ml_11_311 isX8_seek seX8_seek npX8_seek (rc_87 (by omega)) hdd (by show 64 * (d' + 1) ≤ 64 * d; omega) (by decide) rfl hs8 (Nat.le_refl n) (Nat.le_refl _) (Nat.le_refl _) hEx k
theorem qX11_pack_44 {g : GG} {d d' n : Nat} {post post1 : Option Value → LX → Prop} {L : List (Option Value)} {rest : List Value} {X : LX}  (hn : 146 ≤ n) (hdd : d' + 1 ≤ d) (hs8 : (rest.map fun v => v.category).sum ≤ 8) (hEx : Ex g mX8_packAll d' n n [.ref 87] X post1) (k : ∀ v X1, post1 v X1 → Ev g mX11_pack d n n post n 47 L (v.toList ++ rest) X1) : Ev g mX11_pack d n n post n 44 L (.ref 87 :: rest) X :=
  ev_callV (as := []) (rest := rest) dX11_pack_44 vX8_packAll ml_11_326 isX8_packAll seX8_packAll npX8_packAll (rc_87 (by omega)) hdd (by show 64 * (d' + 1) ≤ 64 * d; omega) (by decide) rfl hs8 (Nat.le_refl n) (Nat.le_refl _) (Nat.le_refl _) hEx k
theorem qX12_pack_29 {g : GG} {d d' n : Nat} {post post1 : Option Value → LX → Prop} {L : List (Option Value)} {rest : List Value} {X : LX} {a1 : Int32} (hn : 146 ≤ n) (hdd : d' + 1 ≤ d) (hs8 : (rest.map fun v => v.category).sum ≤ 8) (hEx : Ex g mX12_findPlan d' n n [.ref 133, .int a1] X post1) (k : ∀ v X1, post1 v X1 → Ev g mX12_pack d n n post n 32 L (v.toList ++ rest) X1) : Ev g mX12_pack d n n post n 29 L (.int a1 :: .ref 133 :: rest) X :=
  ev_callV (as := [.int a1]) (rest := rest) dX12_pack_29 vX12_findPlan ml_12_297 isX12_findPlan seX12_findPlan npX12_findPlan (rc_133 (by omega)) hdd (by show 64 * (d' + 1) ≤ 64 * d; omega) (by decide) rfl hs8 (Nat.le_refl n) (Nat.le_refl _) (Nat.le_refl _) hEx k
theorem qX12_pack_89 {g : GG} {d d' n : Nat} {post post1 : Option Value → LX → Prop} {L : List (Option Value)} {rest : List Value} {X : LX} {a1 : Int32} {a2 : Int32} {a3 : Int32} (hn : 146 ≤ n) (hdd : d' + 1 ≤ d) (hs8 : (rest.map fun v => v.category).sum ≤ 8) (hEx : Ex g mX12_moves d' n n [.ref 133, .int a1, .int a2, .int a3] X post1) (k : ∀ v X1, post1 v X1 → Ev g mX12_pack d n n post n 92 L (v.toList ++ rest) X1) : Ev g mX12_pack d n n post n 89 L (.int a3 :: .int a2 :: .int a1 :: .ref 133 :: rest) X :=
  ev_callV (as := [.int a1, .int a2, .int a3]) (rest := rest) dX12_pack_89 vX12_moves ml_12_294 isX12_moves seX12_moves npX12_moves (rc_133 (by omega)) hdd (by show 64 * (d' + 1) ≤ 64 * d; omega) (by decide) rfl hs8 (Nat.le_refl n) (Nat.le_refl _) (Nat.le_refl _) hEx k
theorem qX12_pack_124 {g : GG} {d d' n : Nat} {post post1 : Option Value → LX → Prop} {L : List (Option Value)} {rest : List Value} {X : LX} {a1 : Int32} {a2 : Int32} {a3 : Int32} (hn : 146 ≤ n) (hdd : d' + 1 ≤ d) (hs8 : (rest.map fun v => v.category).sum ≤ 8) (hEx : Ex g mX12_takes d' n n [.ref 133, .int a1, .int a2, .int a3] X post1) (k : ∀ v X1, post1 v X1 → Ev g mX12_pack d n n post n 127 L (v.toList ++ rest) X1) : Ev g mX12_pack d n n post n 124 L (.int a3 :: .int a2 :: .int a1 :: .ref 133 :: rest) X :=
  ev_callV (as := [.int a1, .int a2, .int a3]) (rest := rest) dX12_pack_124 vX12_takes ml_12_301 isX12_takes seX12_takes npX12_takes (rc_133 (by omega)) hdd (by show 64 * (d' + 1) ≤ 64 * d; omega) (by decide) rfl hs8 (Nat.le_refl n) (Nat.le_refl _) (Nat.le_refl _) hEx k
theorem qX11_check_17 {g : GG} {d d' n : Nat} {post post1 : Option Value → LX → Prop} {L : List (Option Value)} {rest : List Value} {X : LX} {a1 : Int32} (hn : 146 ≤ n) (hdd : d' + 1 ≤ d) (hs8 : (rest.map fun v => v.category).sum ≤ 8) (hEx : Ex g mX8_seek d' n n [.ref 87, .int a1] X post1) (k : ∀ v X1, post1 v X1 → Ev g mX11_check d n n post n 20 L (v.toList ++ rest) X1) : Ev g mX11_check d n n post n 17 L (.int a1 :: .ref 87 :: rest) X :=
  ev_callV (as := [.int a1]) (rest := rest) dX11_check_17 vX8_seek ml_11_311 isX8_seek seX8_seek npX8_seek (rc_87 (by omega)) hdd (by show 64 * (d' + 1) ≤ 64 * d; omega) (by decide) rfl hs8 (Nat.le_refl n) (Nat.le_refl _) (Nat.le_refl _) hEx k
theorem qX11_check_31 {g : GG} {d d' n : Nat} {post post1 : Option Value → LX → Prop} {L : List (Option Value)} {rest : List Value} {X : LX}  (hn : 146 ≤ n) (hdd : d' + 1 ≤ d) (hs8 : (rest.map fun v => v.category).sum ≤ 8) (hEx : Ex g mX8_listRows d' n n [.ref 87] X post1) (k : ∀ v X1, post1 v X1 → Ev g mX11_check d n n post n 34 L (v.toList ++ rest) X1) : Ev g mX11_check d n n post n 31 L (.ref 87 :: rest) X :=
  ev_callV (as := []) (rest := rest) dX11_check_31 vX8_listRows ml_11_354 isX8_listRows seX8_listRows npX8_listRows (rc_87 (by omega)) hdd (by show 64 * (d' + 1) ≤ 64 * d; omega) (by decide) rfl hs8 (Nat.le_refl n) (Nat.le_refl _) (Nat.le_refl _) hEx k
theorem qX12_check_14 {g : GG} {d d' n : Nat} {post post1 : Option Value → LX → Prop} {L : List (Option Value)} {rest : List Value} {X : LX} {a1 : Int32} (hn : 146 ≤ n) (hdd : d' + 1 ≤ d) (hs8 : (rest.map fun v => v.category).sum ≤ 8) (hEx : Ex g mX12_findPlan d' n n [.ref 133, .int a1] X post1) (k : ∀ v X1, post1 v X1 → Ev g mX12_check d n n post n 17 L (v.toList ++ rest) X1) : Ev g mX12_check d n n post n 14 L (.int a1 :: .ref 133 :: rest) X :=
  ev_callV (as := [.int a1]) (rest := rest) dX12_check_14 vX12_findPlan ml_12_297 isX12_findPlan seX12_findPlan npX12_findPlan (rc_133 (by omega)) hdd (by show 64 * (d' + 1) ≤ 64 * d; omega) (by decide) rfl hs8 (Nat.le_refl n) (Nat.le_refl _) (Nat.le_refl _) hEx k
