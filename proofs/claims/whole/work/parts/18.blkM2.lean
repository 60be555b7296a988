theorem bX12_trim_0_0 {g : GG} {d n0 nf : Nat} {post : Option Value → LX → Prop} {n : Nat} {X : LX} (hn : 146 ≤ n) (hX : Sh n X) {v1 : Int32} (k : Ev g mX12_trim d n0 nf post n 6 [some (.ref 133), some (.int v1)] [.int (X 133 4), .int 0, .int v1] X) : Ev g mX12_trim d n0 nf post n 0 [some (.ref 133), some (.int v1)] [] X := by
  refine ev_iload_n dX12_trim_0 rfl ?_
  refine ev_iconst (v := 0) dX12_trim_1 ki_0 ?_
  refine ev_aload_n dX12_trim_2 rfl ?_
  refine ev_getI dX12_trim_3 fo_12_121 (by omega) lo_133 rfl ?_
  exact k
theorem bX12_trim_9_0 {g : GG} {d n0 nf : Nat} {post : Option Value → LX → Prop} {n : Nat} {X : LX} (hn : 146 ≤ nf) (hX : Sh nf X) {v1 : Int32} {s0 : Int32} (c0 : s0 = 0) (hp : post (some (.int (-1000000001))) X) : Ev g mX12_trim d n0 nf post nf 9 [some (.ref 133), some (.int v1)] [.int s0] X := by
  refine ev_ifF (tgt := 15) dX12_trim_9 (by decide) c0 ?_
  refine ev_ldc (v := (-1000000001)) dX12_trim_12 kw_12_57 ?_
  exact ev_iret dX12_trim_14 rfl rfl hp
theorem bX12_trim_9_1 {g : GG} {d n0 nf : Nat} {post : Option Value → LX → Prop} {n : Nat} {X : LX} (hn : 146 ≤ nf) (hX : Sh nf X) {v1 : Int32} {s0 : Int32} (c0 : ¬ s0 = 0) (hp : post (some (.int v1)) (lx_up X 133 4 v1)) : Ev g mX12_trim d n0 nf post nf 9 [some (.ref 133), some (.int v1)] [.int s0] X := by
  refine ev_ifT (tgt := 15) dX12_trim_9 (by decide) c0 ?_
  refine ev_aload_n dX12_trim_15 rfl ?_
  refine ev_iload_n dX12_trim_16 rfl ?_
  refine ev_putI dX12_trim_17 fo_12_121 (by omega) lo_133 rfl rfl rfl ?_
  have hX1 : Sh _ (lx_up X 133 4 v1) := Sh.upF hX (by rw [lo_133]; decide) (by decide)
  refine ev_iload_n dX12_trim_20 rfl ?_
  exact ev_iret dX12_trim_21 rfl rfl hp
theorem bX12_isLetter_0_0 {g : GG} {d n0 nf : Nat} {post : Option Value → LX → Prop} {n : Nat} {X : LX} (hn : 146 ≤ n) (hX : Sh n X) {v1 : Nat} (c0 : ¬ X 133 4 ≤ nI v1) (b0 : v1 < 120) (k : Ev g mX12_isLetter d n0 nf post n 18 [some (.ref 133), some (.int (nI v1))] [.int 122, .int 97, .int (X 136 v1)] X) : Ev g mX12_isLetter d n0 nf post n 0 [some (.ref 133), some (.int (nI v1))] [] X := by
  refine ev_iload_n dX12_isLetter_0 rfl ?_
  refine ev_aload_n dX12_isLetter_1 rfl ?_
  refine ev_getI dX12_isLetter_2 fo_12_121 (by omega) lo_133 rfl ?_
  refine ev_icmpF (tgt := 28) dX12_isLetter_5 (by decide) c0 ?_
  refine ev_aload_n dX12_isLetter_8 rfl ?_
  refine ev_getS (q := 136) dX12_isLetter_9 fo_12_16 (by omega) lo_133 rfl (sh_133_3 hX (by omega)) (by decide) ?_
  refine ev_iload_n dX12_isLetter_12 rfl ?_
  refine ev_iald dX12_isLetter_13 (by omega) ly_136 rfl b0 ?_
  refine ev_bipush (v := 97) dX12_isLetter_14 kb_97 ?_
  refine ev_bipush (v := 122) dX12_isLetter_16 kb_122 ?_
  exact k
theorem bX12_isLetter_0_1 {g : GG} {d n0 nf : Nat} {post : Option Value → LX → Prop} {n : Nat} {X : LX} (hn : 146 ≤ nf) (hX : Sh nf X) {v1 : Nat} (c0 : X 133 4 ≤ nI v1) (hp : post (some (.int 0)) X) : Ev g mX12_isLetter d n0 nf post nf 0 [some (.ref 133), some (.int (nI v1))] [] X := by
  refine ev_iload_n dX12_isLetter_0 rfl ?_
  refine ev_aload_n dX12_isLetter_1 rfl ?_
  refine ev_getI dX12_isLetter_2 fo_12_121 (by omega) lo_133 rfl ?_
  refine ev_icmpT (tgt := 28) dX12_isLetter_5 (by decide) c0 ?_
  refine ev_iconst (v := 0) dX12_isLetter_28 ki_0 ?_
  exact ev_iret dX12_isLetter_29 rfl (by decide) hp
theorem bX12_isLetter_21_0 {g : GG} {d n0 nf : Nat} {post : Option Value → LX → Prop} {n : Nat} {X : LX} (hn : 146 ≤ nf) (hX : Sh nf X) {v1 : Int32} {s0 : Int32} (c0 : ¬ s0 = 0) (hp : post (some (.int 1)) X) : Ev g mX12_isLetter d n0 nf post nf 21 [some (.ref 133), some (.int v1)] [.int s0] X := by
  refine ev_ifF (tgt := 28) dX12_isLetter_21 (by decide) c0 ?_
  refine ev_iconst (v := 1) dX12_isLetter_24 ki_1 ?_
  refine ev_goto (tgt := 29) dX12_isLetter_25 (by decide) ?_
  exact ev_iret dX12_isLetter_29 rfl (by decide) hp
theorem bX12_isLetter_21_1 {g : GG} {d n0 nf : Nat} {post : Option Value → LX → Prop} {n : Nat} {X : LX} (hn : 146 ≤ nf) (hX : Sh nf X) {v1 : Int32} {s0 : Int32} (c0 : s0 = 0) (hp : post (some (.int 0)) X) : Ev g mX12_isLetter d n0 nf post nf 21 [some (.ref 133), some (.int v1)] [.int s0] X := by
  refine ev_ifT (tgt := 28) dX12_isLetter_21 (by decide) c0 ?_
  refine ev_iconst (v := 0) dX12_isLetter_28 ki_0 ?_
  exact ev_iret dX12_isLetter_29 rfl (by decide) hp
theorem bX12_isDigit_0_0 {g : GG} {d n0 nf : Nat} {post : Option Value → LX → Prop} {n : Nat} {X : LX} (hn : 146 ≤ n) (hX : Sh n X) {v1 : Nat} (c0 : ¬ X 133 4 ≤ nI v1) (b0 : v1 < 120) (k : Ev g mX12_isDigit d n0 nf post n 18 [some (.ref 133), some (.int (nI v1))] [.int 57, .int 48, .int (X 136 v1)] X) : Ev g mX12_isDigit d n0 nf post n 0 [some (.ref 133), some (.int (nI v1))] [] X := by
  refine ev_iload_n dX12_isDigit_0 rfl ?_
  refine ev_aload_n dX12_isDigit_1 rfl ?_
  refine ev_getI dX12_isDigit_2 fo_12_121 (by omega) lo_133 rfl ?_
  refine ev_icmpF (tgt := 28) dX12_isDigit_5 (by decide) c0 ?_
  refine ev_aload_n dX12_isDigit_8 rfl ?_
  refine ev_getS (q := 136) dX12_isDigit_9 fo_12_16 (by omega) lo_133 rfl (sh_133_3 hX (by omega)) (by decide) ?_
  refine ev_iload_n dX12_isDigit_12 rfl ?_
  refine ev_iald dX12_isDigit_13 (by omega) ly_136 rfl b0 ?_
  refine ev_bipush (v := 48) dX12_isDigit_14 kb_48 ?_
  refine ev_bipush (v := 57) dX12_isDigit_16 kb_57 ?_
  exact k
theorem bX12_isDigit_0_1 {g : GG} {d n0 nf : Nat} {post : Option Value → LX → Prop} {n : Nat} {X : LX} (hn : 146 ≤ nf) (hX : Sh nf X) {v1 : Nat} (c0 : X 133 4 ≤ nI v1) (hp : post (some (.int 0)) X) : Ev g mX12_isDigit d n0 nf post nf 0 [some (.ref 133), some (.int (nI v1))] [] X := by
  refine ev_iload_n dX12_isDigit_0 rfl ?_
  refine ev_aload_n dX12_isDigit_1 rfl ?_
  refine ev_getI dX12_isDigit_2 fo_12_121 (by omega) lo_133 rfl ?_
  refine ev_icmpT (tgt := 28) dX12_isDigit_5 (by decide) c0 ?_
  refine ev_iconst (v := 0) dX12_isDigit_28 ki_0 ?_
  exact ev_iret dX12_isDigit_29 rfl (by decide) hp
theorem bX12_isDigit_21_0 {g : GG} {d n0 nf : Nat} {post : Option Value → LX → Prop} {n : Nat} {X : LX} (hn : 146 ≤ nf) (hX : Sh nf X) {v1 : Int32} {s0 : Int32} (c0 : ¬ s0 = 0) (hp : post (some (.int 1)) X) : Ev g mX12_isDigit d n0 nf post nf 21 [some (.ref 133), some (.int v1)] [.int s0] X := by
  refine ev_ifF (tgt := 28) dX12_isDigit_21 (by decide) c0 ?_
  refine ev_iconst (v := 1) dX12_isDigit_24 ki_1 ?_
  refine ev_goto (tgt := 29) dX12_isDigit_25 (by decide) ?_
  exact ev_iret dX12_isDigit_29 rfl (by decide) hp
theorem bX12_isDigit_21_1 {g : GG} {d n0 nf : Nat} {post : Option Value → LX → Prop} {n : Nat} {X : LX} (hn : 146 ≤ nf) (hX : Sh nf X) {v1 : Int32} {s0 : Int32} (c0 : s0 = 0) (hp : post (some (.int 0)) X) : Ev g mX12_isDigit d n0 nf post nf 21 [some (.ref 133), some (.int v1)] [.int s0] X := by
  refine ev_ifT (tgt := 28) dX12_isDigit_21 (by decide) c0 ?_
  refine ev_iconst (v := 0) dX12_isDigit_28 ki_0 ?_
  exact ev_iret dX12_isDigit_29 rfl (by decide) hp
theorem bX12_next_0_0 {g : GG} {d n0 nf : Nat} {post : Option Value → LX → Prop} {n : Nat} {X : LX} (hn : 146 ≤ n) (hX : Sh n X)  (c0 : ¬ X 133 12 = 1) (c1 : X 133 12 = 2) (k : Ev g mX12_next d n0 nf post n 35 [some (.ref 133), some (.int 1), some (.int (X 133 11))] [] (lx_up X 133 10 (X 133 11))) : Ev g mX12_next d n0 nf post n 0 [some (.ref 133), none, none] [] X := by
  refine ev_aload_n dX12_next_0 rfl ?_
  refine ev_getI dX12_next_1 fo_12_125 (by omega) lo_133 rfl ?_
  refine ev_iconst (v := 1) dX12_next_4 ki_1 ?_
  refine ev_icmpF (tgt := 16) dX12_next_5 (by decide) c0 ?_
  refine ev_aload_n dX12_next_8 rfl ?_
  refine ev_getI dX12_next_9 fo_12_125 (by omega) lo_133 rfl ?_
  refine ev_iconst (v := 2) dX12_next_12 ki_2 ?_
  refine ev_icmpF (tgt := 20) dX12_next_13 (by decide) c1 ?_
  refine ev_iconst (v := 1) dX12_next_16 ki_1 ?_
  refine ev_goto (tgt := 21) dX12_next_17 (by decide) ?_
  refine ev_istore_n dX12_next_21 (by decide) ?_
  refine ev_aload_n dX12_next_22 rfl ?_
  refine ev_getI dX12_next_23 fo_12_128 (by omega) lo_133 rfl ?_
  refine ev_istore_n dX12_next_26 (by decide) ?_
  refine ev_aload_n dX12_next_27 rfl ?_
  refine ev_aload_n dX12_next_28 rfl ?_
  refine ev_getI dX12_next_29 fo_12_128 (by omega) lo_133 rfl ?_
  refine ev_putI dX12_next_32 fo_12_131 (by omega) lo_133 rfl rfl rfl ?_
  have hX1 : Sh _ (lx_up X 133 10 (X 133 11)) := Sh.upF hX (by rw [lo_133]; decide) (by decide)
  exact k
theorem bX12_next_0_1 {g : GG} {d n0 nf : Nat} {post : Option Value → LX → Prop} {n : Nat} {X : LX} (hn : 146 ≤ n) (hX : Sh n X)  (c0 : ¬ X 133 12 = 1) (c1 : ¬ X 133 12 = 2) (k : Ev g mX12_next d n0 nf post n 35 [some (.ref 133), some (.int 0), some (.int (X 133 11))] [] (lx_up X 133 10 (X 133 11))) : Ev g mX12_next d n0 nf post n 0 [some (.ref 133), none, none] [] X := by
  refine ev_aload_n dX12_next_0 rfl ?_
  refine ev_getI dX12_next_1 fo_12_125 (by omega) lo_133 rfl ?_
  refine ev_iconst (v := 1) dX12_next_4 ki_1 ?_
  refine ev_icmpF (tgt := 16) dX12_next_5 (by decide) c0 ?_
  refine ev_aload_n dX12_next_8 rfl ?_
  refine ev_getI dX12_next_9 fo_12_125 (by omega) lo_133 rfl ?_
  refine ev_iconst (v := 2) dX12_next_12 ki_2 ?_
  refine ev_icmpT (tgt := 20) dX12_next_13 (by decide) c1 ?_
  refine ev_iconst (v := 0) dX12_next_20 ki_0 ?_
  refine ev_istore_n dX12_next_21 (by decide) ?_
  refine ev_aload_n dX12_next_22 rfl ?_
  refine ev_getI dX12_next_23 fo_12_128 (by omega) lo_133 rfl ?_
  refine ev_istore_n dX12_next_26 (by decide) ?_
  refine ev_aload_n dX12_next_27 rfl ?_
  refine ev_aload_n dX12_next_28 rfl ?_
  refine ev_getI dX12_next_29 fo_12_128 (by omega) lo_133 rfl ?_
  refine ev_putI dX12_next_32 fo_12_131 (by omega) lo_133 rfl rfl rfl ?_
  have hX1 : Sh _ (lx_up X 133 10 (X 133 11)) := Sh.upF hX (by rw [lo_133]; decide) (by decide)
  exact k
theorem bX12_next_0_2 {g : GG} {d n0 nf : Nat} {post : Option Value → LX → Prop} {n : Nat} {X : LX} (hn : 146 ≤ n) (hX : Sh n X)  (c0 : X 133 12 = 1) (k : Ev g mX12_next d n0 nf post n 35 [some (.ref 133), some (.int 1), some (.int (X 133 11))] [] (lx_up X 133 10 (X 133 11))) : Ev g mX12_next d n0 nf post n 0 [some (.ref 133), none, none] [] X := by
  refine ev_aload_n dX12_next_0 rfl ?_
  refine ev_getI dX12_next_1 fo_12_125 (by omega) lo_133 rfl ?_
  refine ev_iconst (v := 1) dX12_next_4 ki_1 ?_
  refine ev_icmpT (tgt := 16) dX12_next_5 (by decide) c0 ?_
  refine ev_iconst (v := 1) dX12_next_16 ki_1 ?_
  refine ev_goto (tgt := 21) dX12_next_17 (by decide) ?_
  refine ev_istore_n dX12_next_21 (by decide) ?_
  refine ev_aload_n dX12_next_22 rfl ?_
  refine ev_getI dX12_next_23 fo_12_128 (by omega) lo_133 rfl ?_
  refine ev_istore_n dX12_next_26 (by decide) ?_
  refine ev_aload_n dX12_next_27 rfl ?_
  refine ev_aload_n dX12_next_28 rfl ?_
  refine ev_getI dX12_next_29 fo_12_128 (by omega) lo_133 rfl ?_
  refine ev_putI dX12_next_32 fo_12_131 (by omega) lo_133 rfl rfl rfl ?_
  have hX1 : Sh _ (lx_up X 133 10 (X 133 11)) := Sh.upF hX (by rw [lo_133]; decide) (by decide)
  exact k
theorem bX12_next_35_0 {g : GG} {d n0 nf : Nat} {post : Option Value → LX → Prop} {n : Nat} {X : LX} (hn : 146 ≤ n) (hX : Sh n X) {v1 : Int32} {v2 : Int32} {j1 : Nat} (c0 : ¬ X 133 4 ≤ X 133 10) (hj1 : X 133 10 = nI j1) (b0 : j1 < 120) (c1 : X 136 j1 = 32) (k : Ev g mX12_next d n0 nf post n 35 [some (.ref 133), some (.int v1), some (.int v2)] [] (lx_up X 133 10 ((X 133 10) + 1))) : Ev g mX12_next d n0 nf post n 35 [some (.ref 133), some (.int v1), some (.int v2)] [] X := by
  refine ev_aload_n dX12_next_35 rfl ?_
  refine ev_getI dX12_next_36 fo_12_131 (by omega) lo_133 rfl ?_
  refine ev_aload_n dX12_next_39 rfl ?_
  refine ev_getI dX12_next_40 fo_12_121 (by omega) lo_133 rfl ?_
  refine ev_icmpF (tgt := 73) dX12_next_43 (by decide) c0 ?_
  refine ev_aload_n dX12_next_46 rfl ?_
  refine ev_getS (q := 136) dX12_next_47 fo_12_16 (by omega) lo_133 rfl (sh_133_3 hX (by omega)) (by decide) ?_
  refine ev_aload_n dX12_next_50 rfl ?_
  refine ev_getI dX12_next_51 fo_12_131 (by omega) lo_133 rfl ?_
  refine ev_iald dX12_next_54 (by omega) ly_136 hj1 b0 ?_
  refine ev_bipush (v := 32) dX12_next_55 kb_32 ?_
  refine ev_icmpF (tgt := 73) dX12_next_57 (by decide) c1 ?_
  refine ev_aload_n dX12_next_60 rfl ?_
  refine ev_dup dX12_next_61 rfl ?_
  refine ev_getI dX12_next_62 fo_12_131 (by omega) lo_133 rfl ?_
  refine ev_iconst (v := 1) dX12_next_65 ki_1 ?_
  refine ev_iadd dX12_next_66 ?_
  refine ev_putI dX12_next_67 fo_12_131 (by omega) lo_133 rfl rfl rfl ?_
  have hX1 : Sh _ (lx_up X 133 10 ((X 133 10) + 1)) := Sh.upF hX (by rw [lo_133]; decide) (by decide)
  refine ev_goto (tgt := 35) dX12_next_70 (by decide) ?_
  exact k
theorem bX12_next_35_1 {g : GG} {d n0 nf : Nat} {post : Option Value → LX → Prop} {n : Nat} {X : LX} (hn : 146 ≤ nf) (hX : Sh nf X) {v1 : Int32} {v2 : Int32} {j1 : Nat} (c0 : ¬ X 133 4 ≤ X 133 10) (hj1 : X 133 10 = nI j1) (b0 : j1 < 120) (c1 : ¬ X 136 j1 = 32) (c2 : X 133 10 = X 133 4) (hp : post none (lx_up (lx_up X 133 11 (X 133 10)) 133 12 0)) : Ev g mX12_next d n0 nf post nf 35 [some (.ref 133), some (.int v1), some (.int v2)] [] X := by
  refine ev_aload_n dX12_next_35 rfl ?_
  refine ev_getI dX12_next_36 fo_12_131 (by omega) lo_133 rfl ?_
  refine ev_aload_n dX12_next_39 rfl ?_
  refine ev_getI dX12_next_40 fo_12_121 (by omega) lo_133 rfl ?_
  refine ev_icmpF (tgt := 73) dX12_next_43 (by decide) c0 ?_
  refine ev_aload_n dX12_next_46 rfl ?_
  refine ev_getS (q := 136) dX12_next_47 fo_12_16 (by omega) lo_133 rfl (sh_133_3 hX (by omega)) (by decide) ?_
  refine ev_aload_n dX12_next_50 rfl ?_
  refine ev_getI dX12_next_51 fo_12_131 (by omega) lo_133 rfl ?_
  refine ev_iald dX12_next_54 (by omega) ly_136 hj1 b0 ?_
  refine ev_bipush (v := 32) dX12_next_55 kb_32 ?_
  refine ev_icmpT (tgt := 73) dX12_next_57 (by decide) c1 ?_
  refine ev_aload_n dX12_next_73 rfl ?_
  refine ev_aload_n dX12_next_74 rfl ?_
  refine ev_getI dX12_next_75 fo_12_131 (by omega) lo_133 rfl ?_
  refine ev_putI dX12_next_78 fo_12_128 (by omega) lo_133 rfl rfl rfl ?_
  have hX1 : Sh _ (lx_up X 133 11 (X 133 10)) := Sh.upF hX (by rw [lo_133]; decide) (by decide)
  refine ev_aload_n dX12_next_81 rfl ?_
  refine ev_getI dX12_next_82 fo_12_131 (by omega) lo_133 rfl ?_
  refine ev_aload_n dX12_next_85 rfl ?_
  refine ev_getI dX12_next_86 fo_12_121 (by omega) lo_133 rfl ?_
  refine ev_icmpF (tgt := 98) dX12_next_89 (by decide) c2 ?_
  refine ev_aload_n dX12_next_92 rfl ?_
  refine ev_iconst (v := 0) dX12_next_93 ki_0 ?_
  refine ev_putI dX12_next_94 fo_12_125 (by omega) lo_133 rfl rfl rfl ?_
  have hX2 : Sh _ (lx_up (lx_up X 133 11 (X 133 10)) 133 12 0) := Sh.upF hX1 (by rw [lo_133]; decide) (by decide)
  exact ev_ret dX12_next_97 rfl hp
theorem bX12_next_35_2 {g : GG} {d n0 nf : Nat} {post : Option Value → LX → Prop} {n : Nat} {X : LX} (hn : 146 ≤ n) (hX : Sh n X) {v1 : Int32} {v2 : Int32} {j1 : Nat} (c0 : ¬ X 133 4 ≤ X 133 10) (hj1 : X 133 10 = nI j1) (b0 : j1 < 120) (c1 : ¬ X 136 j1 = 32) (c2 : ¬ X 133 10 = X 133 4) (k : Ev g mX12_next d n0 nf post n 104 [some (.ref 133), some (.int v1), some (.int v2)] [.int (X 133 10), .ref 133, .ref 133] (lx_up X 133 11 (X 133 10))) : Ev g mX12_next d n0 nf post n 35 [some (.ref 133), some (.int v1), some (.int v2)] [] X := by
  refine ev_aload_n dX12_next_35 rfl ?_
  refine ev_getI dX12_next_36 fo_12_131 (by omega) lo_133 rfl ?_
  refine ev_aload_n dX12_next_39 rfl ?_
  refine ev_getI dX12_next_40 fo_12_121 (by omega) lo_133 rfl ?_
  refine ev_icmpF (tgt := 73) dX12_next_43 (by decide) c0 ?_
  refine ev_aload_n dX12_next_46 rfl ?_
  refine ev_getS (q := 136) dX12_next_47 fo_12_16 (by omega) lo_133 rfl (sh_133_3 hX (by omega)) (by decide) ?_
  refine ev_aload_n dX12_next_50 rfl ?_
  refine ev_getI dX12_next_51 fo_12_131 (by omega) lo_133 rfl ?_
  refine ev_iald dX12_next_54 (by omega) ly_136 hj1 b0 ?_
  refine ev_bipush (v := 32) dX12_next_55 kb_32 ?_
  refine ev_icmpT (tgt := 73) dX12_next_57 (by decide) c1 ?_
  refine ev_aload_n dX12_next_73 rfl ?_
  refine ev_aload_n dX12_next_74 rfl ?_
  refine ev_getI dX12_next_75 fo_12_131 (by omega) lo_133 rfl ?_
  refine ev_putI dX12_next_78 fo_12_128 (by omega) lo_133 rfl rfl rfl ?_
  have hX1 : Sh _ (lx_up X 133 11 (X 133 10)) := Sh.upF hX (by rw [lo_133]; decide) (by decide)
  refine ev_aload_n dX12_next_81 rfl ?_
  refine ev_getI dX12_next_82 fo_12_131 (by omega) lo_133 rfl ?_
  refine ev_aload_n dX12_next_85 rfl ?_
  refine ev_getI dX12_next_86 fo_12_121 (by omega) lo_133 rfl ?_
  refine ev_icmpT (tgt := 98) dX12_next_89 (by decide) c2 ?_
  refine ev_aload_n dX12_next_98 rfl ?_
  refine ev_aload_n dX12_next_99 rfl ?_
  refine ev_aload_n dX12_next_100 rfl ?_
  refine ev_getI dX12_next_101 fo_12_131 (by omega) lo_133 rfl ?_
  exact k
theorem bX12_next_35_3 {g : GG} {d n0 nf : Nat} {post : Option Value → LX → Prop} {n : Nat} {X : LX} (hn : 146 ≤ nf) (hX : Sh nf X) {v1 : Int32} {v2 : Int32} (c0 : X 133 4 ≤ X 133 10) (c1 : X 133 10 = X 133 4) (hp : post none (lx_up (lx_up X 133 11 (X 133 10)) 133 12 0)) : Ev g mX12_next d n0 nf post nf 35 [some (.ref 133), some (.int v1), some (.int v2)] [] X := by
  refine ev_aload_n dX12_next_35 rfl ?_
  refine ev_getI dX12_next_36 fo_12_131 (by omega) lo_133 rfl ?_
  refine ev_aload_n dX12_next_39 rfl ?_
  refine ev_getI dX12_next_40 fo_12_121 (by omega) lo_133 rfl ?_
  refine ev_icmpT (tgt := 73) dX12_next_43 (by decide) c0 ?_
  refine ev_aload_n dX12_next_73 rfl ?_
  refine ev_aload_n dX12_next_74 rfl ?_
  refine ev_getI dX12_next_75 fo_12_131 (by omega) lo_133 rfl ?_
  refine ev_putI dX12_next_78 fo_12_128 (by omega) lo_133 rfl rfl rfl ?_
  have hX1 : Sh _ (lx_up X 133 11 (X 133 10)) := Sh.upF hX (by rw [lo_133]; decide) (by decide)
  refine ev_aload_n dX12_next_81 rfl ?_
  refine ev_getI dX12_next_82 fo_12_131 (by omega) lo_133 rfl ?_
  refine ev_aload_n dX12_next_85 rfl ?_
  refine ev_getI dX12_next_86 fo_12_121 (by omega) lo_133 rfl ?_
  refine ev_icmpF (tgt := 98) dX12_next_89 (by decide) c1 ?_
  refine ev_aload_n dX12_next_92 rfl ?_
  refine ev_iconst (v := 0) dX12_next_93 ki_0 ?_
  refine ev_putI dX12_next_94 fo_12_125 (by omega) lo_133 rfl rfl rfl ?_
  have hX2 : Sh _ (lx_up (lx_up X 133 11 (X 133 10)) 133 12 0) := Sh.upF hX1 (by rw [lo_133]; decide) (by decide)
  exact ev_ret dX12_next_97 rfl hp
theorem bX12_next_35_4 {g : GG} {d n0 nf : Nat} {post : Option Value → LX → Prop} {n : Nat} {X : LX} (hn : 146 ≤ n) (hX : Sh n X) {v1 : Int32} {v2 : Int32} (c0 : X 133 4 ≤ X 133 10) (c1 : ¬ X 133 10 = X 133 4) (k : Ev g mX12_next d n0 nf post n 104 [some (.ref 133), some (.int v1), some (.int v2)] [.int (X 133 10), .ref 133, .ref 133] (lx_up X 133 11 (X 133 10))) : Ev g mX12_next d n0 nf post n 35 [some (.ref 133), some (.int v1), some (.int v2)] [] X := by
  refine ev_aload_n dX12_next_35 rfl ?_
  refine ev_getI dX12_next_36 fo_12_131 (by omega) lo_133 rfl ?_
  refine ev_aload_n dX12_next_39 rfl ?_
  refine ev_getI dX12_next_40 fo_12_121 (by omega) lo_133 rfl ?_
  refine ev_icmpT (tgt := 73) dX12_next_43 (by decide) c0 ?_
  refine ev_aload_n dX12_next_73 rfl ?_
  refine ev_aload_n dX12_next_74 rfl ?_
  refine ev_getI dX12_next_75 fo_12_131 (by omega) lo_133 rfl ?_
  refine ev_putI dX12_next_78 fo_12_128 (by omega) lo_133 rfl rfl rfl ?_
  have hX1 : Sh _ (lx_up X 133 11 (X 133 10)) := Sh.upF hX (by rw [lo_133]; decide) (by decide)
  refine ev_aload_n dX12_next_81 rfl ?_
  refine ev_getI dX12_next_82 fo_12_131 (by omega) lo_133 rfl ?_
  refine ev_aload_n dX12_next_85 rfl ?_
  refine ev_getI dX12_next_86 fo_12_121 (by omega) lo_133 rfl ?_
  refine ev_icmpT (tgt := 98) dX12_next_89 (by decide) c1 ?_
  refine ev_aload_n dX12_next_98 rfl ?_
  refine ev_aload_n dX12_next_99 rfl ?_
  refine ev_aload_n dX12_next_100 rfl ?_
  refine ev_getI dX12_next_101 fo_12_131 (by omega) lo_133 rfl ?_
  exact k
theorem bX12_next_107_0 {g : GG} {d n0 nf : Nat} {post : Option Value → LX → Prop} {n : Nat} {X : LX} (hn : 146 ≤ n) (hX : Sh n X) {v1 : Int32} {v2 : Int32} {s1 : Int32} (c0 : ¬ s1 = 0) (k : Ev g mX12_next d n0 nf post n 143 [some (.ref 133), some (.int v1), some (.int v2)] [] (lx_up (lx_up X 133 12 1) 133 11 ((X 133 11) + 1))) : Ev g mX12_next d n0 nf post n 107 [some (.ref 133), some (.int v1), some (.int v2)] [.int s1, .ref 133] X := by
  refine ev_ifF (tgt := 114) dX12_next_107 (by decide) c0 ?_
  refine ev_iconst (v := 1) dX12_next_110 ki_1 ?_
  refine ev_goto (tgt := 130) dX12_next_111 (by decide) ?_
  refine ev_putI dX12_next_130 fo_12_125 (by omega) lo_133 rfl rfl rfl ?_
  have hX1 : Sh _ (lx_up X 133 12 1) := Sh.upF hX (by rw [lo_133]; decide) (by decide)
  refine ev_aload_n dX12_next_133 rfl ?_
  refine ev_dup dX12_next_134 rfl ?_
  refine ev_getI dX12_next_135 fo_12_128 (by omega) lo_133 rfl ?_
  refine ev_iconst (v := 1) dX12_next_138 ki_1 ?_
  refine ev_iadd dX12_next_139 ?_
  refine ev_putI dX12_next_140 fo_12_128 (by omega) lo_133 rfl rfl rfl ?_
  have hX2 : Sh _ (lx_up (lx_up X 133 12 1) 133 11 ((X 133 11) + 1)) := Sh.upF hX1 (by rw [lo_133]; decide) (by decide)
  exact k
theorem bX12_next_107_1 {g : GG} {d n0 nf : Nat} {post : Option Value → LX → Prop} {n : Nat} {X : LX} (hn : 146 ≤ n) (hX : Sh n X) {v1 : Int32} {v2 : Int32} {s1 : Int32} (c0 : s1 = 0) (k : Ev g mX12_next d n0 nf post n 119 [some (.ref 133), some (.int v1), some (.int v2)] [.int (X 133 10), .ref 133, .ref 133] X) : Ev g mX12_next d n0 nf post n 107 [some (.ref 133), some (.int v1), some (.int v2)] [.int s1, .ref 133] X := by
  refine ev_ifT (tgt := 114) dX12_next_107 (by decide) c0 ?_
  refine ev_aload_n dX12_next_114 rfl ?_
  refine ev_aload_n dX12_next_115 rfl ?_
  refine ev_getI dX12_next_116 fo_12_131 (by omega) lo_133 rfl ?_
  exact k
theorem bX12_next_122_0 {g : GG} {d n0 nf : Nat} {post : Option Value → LX → Prop} {n : Nat} {X : LX} (hn : 146 ≤ n) (hX : Sh n X) {v1 : Int32} {v2 : Int32} {s1 : Int32} (c0 : ¬ s1 = 0) (k : Ev g mX12_next d n0 nf post n 143 [some (.ref 133), some (.int v1), some (.int v2)] [] (lx_up (lx_up X 133 12 2) 133 11 ((X 133 11) + 1))) : Ev g mX12_next d n0 nf post n 122 [some (.ref 133), some (.int v1), some (.int v2)] [.int s1, .ref 133] X := by
  refine ev_ifF (tgt := 129) dX12_next_122 (by decide) c0 ?_
  refine ev_iconst (v := 2) dX12_next_125 ki_2 ?_
  refine ev_goto (tgt := 130) dX12_next_126 (by decide) ?_
  refine ev_putI dX12_next_130 fo_12_125 (by omega) lo_133 rfl rfl rfl ?_
  have hX1 : Sh _ (lx_up X 133 12 2) := Sh.upF hX (by rw [lo_133]; decide) (by decide)
  refine ev_aload_n dX12_next_133 rfl ?_
  refine ev_dup dX12_next_134 rfl ?_
  refine ev_getI dX12_next_135 fo_12_128 (by omega) lo_133 rfl ?_
  refine ev_iconst (v := 1) dX12_next_138 ki_1 ?_
  refine ev_iadd dX12_next_139 ?_
  refine ev_putI dX12_next_140 fo_12_128 (by omega) lo_133 rfl rfl rfl ?_
  have hX2 : Sh _ (lx_up (lx_up X 133 12 2) 133 11 ((X 133 11) + 1)) := Sh.upF hX1 (by rw [lo_133]; decide) (by decide)
  exact k
theorem bX12_next_122_1 {g : GG} {d n0 nf : Nat} {post : Option Value → LX → Prop} {n : Nat} {X : LX} (hn : 146 ≤ n) (hX : Sh n X) {v1 : Int32} {v2 : Int32} {s1 : Int32} (c0 : s1 = 0) (k : Ev g mX12_next d n0 nf post n 143 [some (.ref 133), some (.int v1), some (.int v2)] [] (lx_up (lx_up X 133 12 3) 133 11 ((X 133 11) + 1))) : Ev g mX12_next d n0 nf post n 122 [some (.ref 133), some (.int v1), some (.int v2)] [.int s1, .ref 133] X := by
  refine ev_ifT (tgt := 129) dX12_next_122 (by decide) c0 ?_
  refine ev_iconst (v := 3) dX12_next_129 ki_3 ?_
  refine ev_putI dX12_next_130 fo_12_125 (by omega) lo_133 rfl rfl rfl ?_
  have hX1 : Sh _ (lx_up X 133 12 3) := Sh.upF hX (by rw [lo_133]; decide) (by decide)
  refine ev_aload_n dX12_next_133 rfl ?_
  refine ev_dup dX12_next_134 rfl ?_
  refine ev_getI dX12_next_135 fo_12_128 (by omega) lo_133 rfl ?_
  refine ev_iconst (v := 1) dX12_next_138 ki_1 ?_
  refine ev_iadd dX12_next_139 ?_
  refine ev_putI dX12_next_140 fo_12_128 (by omega) lo_133 rfl rfl rfl ?_
  have hX2 : Sh _ (lx_up (lx_up X 133 12 3) 133 11 ((X 133 11) + 1)) := Sh.upF hX1 (by rw [lo_133]; decide) (by decide)
  exact k
theorem bX12_next_143_0 {g : GG} {d n0 nf : Nat} {post : Option Value → LX → Prop} {n : Nat} {X : LX} (hn : 146 ≤ n) (hX : Sh n X) {v1 : Int32} {v2 : Int32} (c0 : X 133 12 = 1) (k : Ev g mX12_next d n0 nf post n 156 [some (.ref 133), some (.int v1), some (.int v2)] [.int (X 133 11), .ref 133] X) : Ev g mX12_next d n0 nf post n 143 [some (.ref 133), some (.int v1), some (.int v2)] [] X := by
  refine ev_aload_n dX12_next_143 rfl ?_
  refine ev_getI dX12_next_144 fo_12_125 (by omega) lo_133 rfl ?_
  refine ev_iconst (v := 1) dX12_next_147 ki_1 ?_
  refine ev_icmpF (tgt := 162) dX12_next_148 (by decide) c0 ?_
  refine ev_aload_n dX12_next_151 rfl ?_
  refine ev_aload_n dX12_next_152 rfl ?_
  refine ev_getI dX12_next_153 fo_12_128 (by omega) lo_133 rfl ?_
  exact k
theorem bX12_next_143_1 {g : GG} {d n0 nf : Nat} {post : Option Value → LX → Prop} {n : Nat} {X : LX} (hn : 146 ≤ n) (hX : Sh n X) {v1 : Int32} {v2 : Int32} (c0 : ¬ X 133 12 = 1) (c1 : X 133 12 = 2) (k : Ev g mX12_next d n0 nf post n 175 [some (.ref 133), some (.int v1), some (.int v2)] [.int (X 133 11), .ref 133] X) : Ev g mX12_next d n0 nf post n 143 [some (.ref 133), some (.int v1), some (.int v2)] [] X := by
  refine ev_aload_n dX12_next_143 rfl ?_
  refine ev_getI dX12_next_144 fo_12_125 (by omega) lo_133 rfl ?_
  refine ev_iconst (v := 1) dX12_next_147 ki_1 ?_
  refine ev_icmpT (tgt := 162) dX12_next_148 (by decide) c0 ?_
  refine ev_aload_n dX12_next_162 rfl ?_
  refine ev_getI dX12_next_163 fo_12_125 (by omega) lo_133 rfl ?_
  refine ev_iconst (v := 2) dX12_next_166 ki_2 ?_
  refine ev_icmpF (tgt := 194) dX12_next_167 (by decide) c1 ?_
  refine ev_aload_n dX12_next_170 rfl ?_
  refine ev_aload_n dX12_next_171 rfl ?_
  refine ev_getI dX12_next_172 fo_12_128 (by omega) lo_133 rfl ?_
  exact k
theorem bX12_next_143_2 {g : GG} {d n0 nf : Nat} {post : Option Value → LX → Prop} {n : Nat} {X : LX} (hn : 146 ≤ nf) (hX : Sh nf X) {v1 : Int32} {v2 : Int32} (c0 : ¬ X 133 12 = 1) (c1 : ¬ X 133 12 = 2) (c2 : ¬ X 133 12 = 3) (c3 : ¬ v1 = 0) (c4 : ¬ X 133 10 = v2) (c5 : X 133 12 = 2) (c6 : ¬ (X 133 11) - (X 133 10) ≤ 5) (hp : post none (lx_up X 133 12 4)) : Ev g mX12_next d n0 nf post nf 143 [some (.ref 133), some (.int v1), some (.int v2)] [] X := by
  refine ev_aload_n dX12_next_143 rfl ?_
  refine ev_getI dX12_next_144 fo_12_125 (by omega) lo_133 rfl ?_
  refine ev_iconst (v := 1) dX12_next_147 ki_1 ?_
  refine ev_icmpT (tgt := 162) dX12_next_148 (by decide) c0 ?_
  refine ev_aload_n dX12_next_162 rfl ?_
  refine ev_getI dX12_next_163 fo_12_125 (by omega) lo_133 rfl ?_
  refine ev_iconst (v := 2) dX12_next_166 ki_2 ?_
  refine ev_icmpT (tgt := 194) dX12_next_167 (by decide) c1 ?_
  refine ev_aload_n dX12_next_194 rfl ?_
  refine ev_getI dX12_next_195 fo_12_125 (by omega) lo_133 rfl ?_
  refine ev_iconst (v := 3) dX12_next_198 ki_3 ?_
  refine ev_icmpF (tgt := 214) dX12_next_199 (by decide) c2 ?_
  refine ev_iload_n dX12_next_202 rfl ?_
  refine ev_ifF (tgt := 214) dX12_next_203 (by decide) c3 ?_
  refine ev_aload_n dX12_next_206 rfl ?_
  refine ev_getI dX12_next_207 fo_12_131 (by omega) lo_133 rfl ?_
  refine ev_iload_n dX12_next_210 rfl ?_
  refine ev_icmpF (tgt := 235) dX12_next_211 (by decide) c4 ?_
  refine ev_aload_n dX12_next_214 rfl ?_
  refine ev_getI dX12_next_215 fo_12_125 (by omega) lo_133 rfl ?_
  refine ev_iconst (v := 2) dX12_next_218 ki_2 ?_
  refine ev_icmpF (tgt := 240) dX12_next_219 (by decide) c5 ?_
  refine ev_aload_n dX12_next_222 rfl ?_
  refine ev_getI dX12_next_223 fo_12_128 (by omega) lo_133 rfl ?_
  refine ev_aload_n dX12_next_226 rfl ?_
  refine ev_getI dX12_next_227 fo_12_131 (by omega) lo_133 rfl ?_
  refine ev_isub dX12_next_230 ?_
  refine ev_iconst (v := 5) dX12_next_231 ki_5 ?_
  refine ev_icmpF (tgt := 240) dX12_next_232 (by decide) c6 ?_
  refine ev_aload_n dX12_next_235 rfl ?_
  refine ev_iconst (v := 4) dX12_next_236 ki_4 ?_
  refine ev_putI dX12_next_237 fo_12_125 (by omega) lo_133 rfl rfl rfl ?_
  have hX1 : Sh _ (lx_up X 133 12 4) := Sh.upF hX (by rw [lo_133]; decide) (by decide)
  exact ev_ret dX12_next_240 rfl hp
theorem bX12_next_143_3 {g : GG} {d n0 nf : Nat} {post : Option Value → LX → Prop} {n : Nat} {X : LX} (hn : 146 ≤ nf) (hX : Sh nf X) {v1 : Int32} {v2 : Int32} (c0 : ¬ X 133 12 = 1) (c1 : ¬ X 133 12 = 2) (c2 : ¬ X 133 12 = 3) (c3 : ¬ v1 = 0) (c4 : ¬ X 133 10 = v2) (c5 : X 133 12 = 2) (c6 : (X 133 11) - (X 133 10) ≤ 5) (hp : post none X) : Ev g mX12_next d n0 nf post nf 143 [some (.ref 133), some (.int v1), some (.int v2)] [] X := by
  refine ev_aload_n dX12_next_143 rfl ?_
  refine ev_getI dX12_next_144 fo_12_125 (by omega) lo_133 rfl ?_
  refine ev_iconst (v := 1) dX12_next_147 ki_1 ?_
  refine ev_icmpT (tgt := 162) dX12_next_148 (by decide) c0 ?_
  refine ev_aload_n dX12_next_162 rfl ?_
  refine ev_getI dX12_next_163 fo_12_125 (by omega) lo_133 rfl ?_
  refine ev_iconst (v := 2) dX12_next_166 ki_2 ?_
  refine ev_icmpT (tgt := 194) dX12_next_167 (by decide) c1 ?_
  refine ev_aload_n dX12_next_194 rfl ?_
  refine ev_getI dX12_next_195 fo_12_125 (by omega) lo_133 rfl ?_
  refine ev_iconst (v := 3) dX12_next_198 ki_3 ?_
  refine ev_icmpF (tgt := 214) dX12_next_199 (by decide) c2 ?_
  refine ev_iload_n dX12_next_202 rfl ?_
  refine ev_ifF (tgt := 214) dX12_next_203 (by decide) c3 ?_
  refine ev_aload_n dX12_next_206 rfl ?_
  refine ev_getI dX12_next_207 fo_12_131 (by omega) lo_133 rfl ?_
  refine ev_iload_n dX12_next_210 rfl ?_
  refine ev_icmpF (tgt := 235) dX12_next_211 (by decide) c4 ?_
  refine ev_aload_n dX12_next_214 rfl ?_
  refine ev_getI dX12_next_215 fo_12_125 (by omega) lo_133 rfl ?_
  refine ev_iconst (v := 2) dX12_next_218 ki_2 ?_
  refine ev_icmpF (tgt := 240) dX12_next_219 (by decide) c5 ?_
  refine ev_aload_n dX12_next_222 rfl ?_
  refine ev_getI dX12_next_223 fo_12_128 (by omega) lo_133 rfl ?_
  refine ev_aload_n dX12_next_226 rfl ?_
  refine ev_getI dX12_next_227 fo_12_131 (by omega) lo_133 rfl ?_
  refine ev_isub dX12_next_230 ?_
  refine ev_iconst (v := 5) dX12_next_231 ki_5 ?_
  refine ev_icmpT (tgt := 240) dX12_next_232 (by decide) c6 ?_
  exact ev_ret dX12_next_240 rfl hp
theorem bX12_next_143_4 {g : GG} {d n0 nf : Nat} {post : Option Value → LX → Prop} {n : Nat} {X : LX} (hn : 146 ≤ nf) (hX : Sh nf X) {v1 : Int32} {v2 : Int32} (c0 : ¬ X 133 12 = 1) (c1 : ¬ X 133 12 = 2) (c2 : ¬ X 133 12 = 3) (c3 : ¬ v1 = 0) (c4 : ¬ X 133 10 = v2) (c5 : ¬ X 133 12 = 2) (hp : post none X) : Ev g mX12_next d n0 nf post nf 143 [some (.ref 133), some (.int v1), some (.int v2)] [] X := by
  refine ev_aload_n dX12_next_143 rfl ?_
  refine ev_getI dX12_next_144 fo_12_125 (by omega) lo_133 rfl ?_
  refine ev_iconst (v := 1) dX12_next_147 ki_1 ?_
  refine ev_icmpT (tgt := 162) dX12_next_148 (by decide) c0 ?_
  refine ev_aload_n dX12_next_162 rfl ?_
  refine ev_getI dX12_next_163 fo_12_125 (by omega) lo_133 rfl ?_
  refine ev_iconst (v := 2) dX12_next_166 ki_2 ?_
  refine ev_icmpT (tgt := 194) dX12_next_167 (by decide) c1 ?_
  refine ev_aload_n dX12_next_194 rfl ?_
  refine ev_getI dX12_next_195 fo_12_125 (by omega) lo_133 rfl ?_
  refine ev_iconst (v := 3) dX12_next_198 ki_3 ?_
  refine ev_icmpF (tgt := 214) dX12_next_199 (by decide) c2 ?_
  refine ev_iload_n dX12_next_202 rfl ?_
  refine ev_ifF (tgt := 214) dX12_next_203 (by decide) c3 ?_
  refine ev_aload_n dX12_next_206 rfl ?_
  refine ev_getI dX12_next_207 fo_12_131 (by omega) lo_133 rfl ?_
  refine ev_iload_n dX12_next_210 rfl ?_
  refine ev_icmpF (tgt := 235) dX12_next_211 (by decide) c4 ?_
  refine ev_aload_n dX12_next_214 rfl ?_
  refine ev_getI dX12_next_215 fo_12_125 (by omega) lo_133 rfl ?_
  refine ev_iconst (v := 2) dX12_next_218 ki_2 ?_
  refine ev_icmpT (tgt := 240) dX12_next_219 (by decide) c5 ?_
  exact ev_ret dX12_next_240 rfl hp
theorem bX12_next_143_5 {g : GG} {d n0 nf : Nat} {post : Option Value → LX → Prop} {n : Nat} {X : LX} (hn : 146 ≤ nf) (hX : Sh nf X) {v1 : Int32} {v2 : Int32} (c0 : ¬ X 133 12 = 1) (c1 : ¬ X 133 12 = 2) (c2 : ¬ X 133 12 = 3) (c3 : ¬ v1 = 0) (c4 : X 133 10 = v2) (hp : post none (lx_up X 133 12 4)) : Ev g mX12_next d n0 nf post nf 143 [some (.ref 133), some (.int v1), some (.int v2)] [] X := by
  refine ev_aload_n dX12_next_143 rfl ?_
  refine ev_getI dX12_next_144 fo_12_125 (by omega) lo_133 rfl ?_
  refine ev_iconst (v := 1) dX12_next_147 ki_1 ?_
  refine ev_icmpT (tgt := 162) dX12_next_148 (by decide) c0 ?_
  refine ev_aload_n dX12_next_162 rfl ?_
  refine ev_getI dX12_next_163 fo_12_125 (by omega) lo_133 rfl ?_
  refine ev_iconst (v := 2) dX12_next_166 ki_2 ?_
  refine ev_icmpT (tgt := 194) dX12_next_167 (by decide) c1 ?_
  refine ev_aload_n dX12_next_194 rfl ?_
  refine ev_getI dX12_next_195 fo_12_125 (by omega) lo_133 rfl ?_
  refine ev_iconst (v := 3) dX12_next_198 ki_3 ?_
  refine ev_icmpF (tgt := 214) dX12_next_199 (by decide) c2 ?_
  refine ev_iload_n dX12_next_202 rfl ?_
  refine ev_ifF (tgt := 214) dX12_next_203 (by decide) c3 ?_
  refine ev_aload_n dX12_next_206 rfl ?_
  refine ev_getI dX12_next_207 fo_12_131 (by omega) lo_133 rfl ?_
  refine ev_iload_n dX12_next_210 rfl ?_
  refine ev_icmpT (tgt := 235) dX12_next_211 (by decide) c4 ?_
  refine ev_aload_n dX12_next_235 rfl ?_
  refine ev_iconst (v := 4) dX12_next_236 ki_4 ?_
  refine ev_putI dX12_next_237 fo_12_125 (by omega) lo_133 rfl rfl rfl ?_
  have hX1 : Sh _ (lx_up X 133 12 4) := Sh.upF hX (by rw [lo_133]; decide) (by decide)
  exact ev_ret dX12_next_240 rfl hp
theorem bX12_next_143_6 {g : GG} {d n0 nf : Nat} {post : Option Value → LX → Prop} {n : Nat} {X : LX} (hn : 146 ≤ nf) (hX : Sh nf X) {v1 : Int32} {v2 : Int32} (c0 : ¬ X 133 12 = 1) (c1 : ¬ X 133 12 = 2) (c2 : ¬ X 133 12 = 3) (c3 : v1 = 0) (c4 : X 133 12 = 2) (c5 : ¬ (X 133 11) - (X 133 10) ≤ 5) (hp : post none (lx_up X 133 12 4)) : Ev g mX12_next d n0 nf post nf 143 [some (.ref 133), some (.int v1), some (.int v2)] [] X := by
  refine ev_aload_n dX12_next_143 rfl ?_
  refine ev_getI dX12_next_144 fo_12_125 (by omega) lo_133 rfl ?_
  refine ev_iconst (v := 1) dX12_next_147 ki_1 ?_
  refine ev_icmpT (tgt := 162) dX12_next_148 (by decide) c0 ?_
  refine ev_aload_n dX12_next_162 rfl ?_
  refine ev_getI dX12_next_163 fo_12_125 (by omega) lo_133 rfl ?_
  refine ev_iconst (v := 2) dX12_next_166 ki_2 ?_
  refine ev_icmpT (tgt := 194) dX12_next_167 (by decide) c1 ?_
  refine ev_aload_n dX12_next_194 rfl ?_
  refine ev_getI dX12_next_195 fo_12_125 (by omega) lo_133 rfl ?_
  refine ev_iconst (v := 3) dX12_next_198 ki_3 ?_
  refine ev_icmpF (tgt := 214) dX12_next_199 (by decide) c2 ?_
  refine ev_iload_n dX12_next_202 rfl ?_
  refine ev_ifT (tgt := 214) dX12_next_203 (by decide) c3 ?_
  refine ev_aload_n dX12_next_214 rfl ?_
  refine ev_getI dX12_next_215 fo_12_125 (by omega) lo_133 rfl ?_
  refine ev_iconst (v := 2) dX12_next_218 ki_2 ?_
  refine ev_icmpF (tgt := 240) dX12_next_219 (by decide) c4 ?_
  refine ev_aload_n dX12_next_222 rfl ?_
  refine ev_getI dX12_next_223 fo_12_128 (by omega) lo_133 rfl ?_
  refine ev_aload_n dX12_next_226 rfl ?_
  refine ev_getI dX12_next_227 fo_12_131 (by omega) lo_133 rfl ?_
  refine ev_isub dX12_next_230 ?_
  refine ev_iconst (v := 5) dX12_next_231 ki_5 ?_
  refine ev_icmpF (tgt := 240) dX12_next_232 (by decide) c5 ?_
  refine ev_aload_n dX12_next_235 rfl ?_
  refine ev_iconst (v := 4) dX12_next_236 ki_4 ?_
  refine ev_putI dX12_next_237 fo_12_125 (by omega) lo_133 rfl rfl rfl ?_
  have hX1 : Sh _ (lx_up X 133 12 4) := Sh.upF hX (by rw [lo_133]; decide) (by decide)
  exact ev_ret dX12_next_240 rfl hp
theorem bX12_next_143_7 {g : GG} {d n0 nf : Nat} {post : Option Value → LX → Prop} {n : Nat} {X : LX} (hn : 146 ≤ nf) (hX : Sh nf X) {v1 : Int32} {v2 : Int32} (c0 : ¬ X 133 12 = 1) (c1 : ¬ X 133 12 = 2) (c2 : ¬ X 133 12 = 3) (c3 : v1 = 0) (c4 : X 133 12 = 2) (c5 : (X 133 11) - (X 133 10) ≤ 5) (hp : post none X) : Ev g mX12_next d n0 nf post nf 143 [some (.ref 133), some (.int v1), some (.int v2)] [] X := by
  refine ev_aload_n dX12_next_143 rfl ?_
  refine ev_getI dX12_next_144 fo_12_125 (by omega) lo_133 rfl ?_
  refine ev_iconst (v := 1) dX12_next_147 ki_1 ?_
  refine ev_icmpT (tgt := 162) dX12_next_148 (by decide) c0 ?_
  refine ev_aload_n dX12_next_162 rfl ?_
  refine ev_getI dX12_next_163 fo_12_125 (by omega) lo_133 rfl ?_
  refine ev_iconst (v := 2) dX12_next_166 ki_2 ?_
  refine ev_icmpT (tgt := 194) dX12_next_167 (by decide) c1 ?_
  refine ev_aload_n dX12_next_194 rfl ?_
  refine ev_getI dX12_next_195 fo_12_125 (by omega) lo_133 rfl ?_
  refine ev_iconst (v := 3) dX12_next_198 ki_3 ?_
  refine ev_icmpF (tgt := 214) dX12_next_199 (by decide) c2 ?_
  refine ev_iload_n dX12_next_202 rfl ?_
  refine ev_ifT (tgt := 214) dX12_next_203 (by decide) c3 ?_
  refine ev_aload_n dX12_next_214 rfl ?_
  refine ev_getI dX12_next_215 fo_12_125 (by omega) lo_133 rfl ?_
  refine ev_iconst (v := 2) dX12_next_218 ki_2 ?_
  refine ev_icmpF (tgt := 240) dX12_next_219 (by decide) c4 ?_
  refine ev_aload_n dX12_next_222 rfl ?_
  refine ev_getI dX12_next_223 fo_12_128 (by omega) lo_133 rfl ?_
  refine ev_aload_n dX12_next_226 rfl ?_
  refine ev_getI dX12_next_227 fo_12_131 (by omega) lo_133 rfl ?_
  refine ev_isub dX12_next_230 ?_
  refine ev_iconst (v := 5) dX12_next_231 ki_5 ?_
  refine ev_icmpT (tgt := 240) dX12_next_232 (by decide) c5 ?_
  exact ev_ret dX12_next_240 rfl hp
theorem bX12_next_143_8 {g : GG} {d n0 nf : Nat} {post : Option Value → LX → Prop} {n : Nat} {X : LX} (hn : 146 ≤ nf) (hX : Sh nf X) {v1 : Int32} {v2 : Int32} (c0 : ¬ X 133 12 = 1) (c1 : ¬ X 133 12 = 2) (c2 : ¬ X 133 12 = 3) (c3 : v1 = 0) (c4 : ¬ X 133 12 = 2) (hp : post none X) : Ev g mX12_next d n0 nf post nf 143 [some (.ref 133), some (.int v1), some (.int v2)] [] X := by
  refine ev_aload_n dX12_next_143 rfl ?_
  refine ev_getI dX12_next_144 fo_12_125 (by omega) lo_133 rfl ?_
  refine ev_iconst (v := 1) dX12_next_147 ki_1 ?_
  refine ev_icmpT (tgt := 162) dX12_next_148 (by decide) c0 ?_
  refine ev_aload_n dX12_next_162 rfl ?_
  refine ev_getI dX12_next_163 fo_12_125 (by omega) lo_133 rfl ?_
  refine ev_iconst (v := 2) dX12_next_166 ki_2 ?_
  refine ev_icmpT (tgt := 194) dX12_next_167 (by decide) c1 ?_
  refine ev_aload_n dX12_next_194 rfl ?_
  refine ev_getI dX12_next_195 fo_12_125 (by omega) lo_133 rfl ?_
  refine ev_iconst (v := 3) dX12_next_198 ki_3 ?_
  refine ev_icmpF (tgt := 214) dX12_next_199 (by decide) c2 ?_
  refine ev_iload_n dX12_next_202 rfl ?_
  refine ev_ifT (tgt := 214) dX12_next_203 (by decide) c3 ?_
  refine ev_aload_n dX12_next_214 rfl ?_
  refine ev_getI dX12_next_215 fo_12_125 (by omega) lo_133 rfl ?_
  refine ev_iconst (v := 2) dX12_next_218 ki_2 ?_
  refine ev_icmpT (tgt := 240) dX12_next_219 (by decide) c4 ?_
  exact ev_ret dX12_next_240 rfl hp
theorem bX12_next_143_9 {g : GG} {d n0 nf : Nat} {post : Option Value → LX → Prop} {n : Nat} {X : LX} (hn : 146 ≤ nf) (hX : Sh nf X) {v1 : Int32} {v2 : Int32} (c0 : ¬ X 133 12 = 1) (c1 : ¬ X 133 12 = 2) (c2 : X 133 12 = 3) (c3 : X 133 12 = 2) (c4 : ¬ (X 133 11) - (X 133 10) ≤ 5) (hp : post none (lx_up X 133 12 4)) : Ev g mX12_next d n0 nf post nf 143 [some (.ref 133), some (.int v1), some (.int v2)] [] X := by
  refine ev_aload_n dX12_next_143 rfl ?_
  refine ev_getI dX12_next_144 fo_12_125 (by omega) lo_133 rfl ?_
  refine ev_iconst (v := 1) dX12_next_147 ki_1 ?_
  refine ev_icmpT (tgt := 162) dX12_next_148 (by decide) c0 ?_
  refine ev_aload_n dX12_next_162 rfl ?_
  refine ev_getI dX12_next_163 fo_12_125 (by omega) lo_133 rfl ?_
  refine ev_iconst (v := 2) dX12_next_166 ki_2 ?_
  refine ev_icmpT (tgt := 194) dX12_next_167 (by decide) c1 ?_
  refine ev_aload_n dX12_next_194 rfl ?_
  refine ev_getI dX12_next_195 fo_12_125 (by omega) lo_133 rfl ?_
  refine ev_iconst (v := 3) dX12_next_198 ki_3 ?_
  refine ev_icmpT (tgt := 214) dX12_next_199 (by decide) c2 ?_
  refine ev_aload_n dX12_next_214 rfl ?_
  refine ev_getI dX12_next_215 fo_12_125 (by omega) lo_133 rfl ?_
  refine ev_iconst (v := 2) dX12_next_218 ki_2 ?_
  refine ev_icmpF (tgt := 240) dX12_next_219 (by decide) c3 ?_
  refine ev_aload_n dX12_next_222 rfl ?_
  refine ev_getI dX12_next_223 fo_12_128 (by omega) lo_133 rfl ?_
  refine ev_aload_n dX12_next_226 rfl ?_
  refine ev_getI dX12_next_227 fo_12_131 (by omega) lo_133 rfl ?_
  refine ev_isub dX12_next_230 ?_
  refine ev_iconst (v := 5) dX12_next_231 ki_5 ?_
  refine ev_icmpF (tgt := 240) dX12_next_232 (by decide) c4 ?_
  refine ev_aload_n dX12_next_235 rfl ?_
  refine ev_iconst (v := 4) dX12_next_236 ki_4 ?_
  refine ev_putI dX12_next_237 fo_12_125 (by omega) lo_133 rfl rfl rfl ?_
  have hX1 : Sh _ (lx_up X 133 12 4) := Sh.upF hX (by rw [lo_133]; decide) (by decide)
  exact ev_ret dX12_next_240 rfl hp
theorem bX12_next_143_10 {g : GG} {d n0 nf : Nat} {post : Option Value → LX → Prop} {n : Nat} {X : LX} (hn : 146 ≤ nf) (hX : Sh nf X) {v1 : Int32} {v2 : Int32} (c0 : ¬ X 133 12 = 1) (c1 : ¬ X 133 12 = 2) (c2 : X 133 12 = 3) (c3 : X 133 12 = 2) (c4 : (X 133 11) - (X 133 10) ≤ 5) (hp : post none X) : Ev g mX12_next d n0 nf post nf 143 [some (.ref 133), some (.int v1), some (.int v2)] [] X := by
  refine ev_aload_n dX12_next_143 rfl ?_
  refine ev_getI dX12_next_144 fo_12_125 (by omega) lo_133 rfl ?_
  refine ev_iconst (v := 1) dX12_next_147 ki_1 ?_
  refine ev_icmpT (tgt := 162) dX12_next_148 (by decide) c0 ?_
  refine ev_aload_n dX12_next_162 rfl ?_
  refine ev_getI dX12_next_163 fo_12_125 (by omega) lo_133 rfl ?_
  refine ev_iconst (v := 2) dX12_next_166 ki_2 ?_
  refine ev_icmpT (tgt := 194) dX12_next_167 (by decide) c1 ?_
  refine ev_aload_n dX12_next_194 rfl ?_
  refine ev_getI dX12_next_195 fo_12_125 (by omega) lo_133 rfl ?_
  refine ev_iconst (v := 3) dX12_next_198 ki_3 ?_
  refine ev_icmpT (tgt := 214) dX12_next_199 (by decide) c2 ?_
  refine ev_aload_n dX12_next_214 rfl ?_
  refine ev_getI dX12_next_215 fo_12_125 (by omega) lo_133 rfl ?_
  refine ev_iconst (v := 2) dX12_next_218 ki_2 ?_
  refine ev_icmpF (tgt := 240) dX12_next_219 (by decide) c3 ?_
  refine ev_aload_n dX12_next_222 rfl ?_
  refine ev_getI dX12_next_223 fo_12_128 (by omega) lo_133 rfl ?_
  refine ev_aload_n dX12_next_226 rfl ?_
  refine ev_getI dX12_next_227 fo_12_131 (by omega) lo_133 rfl ?_
  refine ev_isub dX12_next_230 ?_
  refine ev_iconst (v := 5) dX12_next_231 ki_5 ?_
  refine ev_icmpT (tgt := 240) dX12_next_232 (by decide) c4 ?_
  exact ev_ret dX12_next_240 rfl hp
theorem bX12_next_143_11 {g : GG} {d n0 nf : Nat} {post : Option Value → LX → Prop} {n : Nat} {X : LX} (hn : 146 ≤ nf) (hX : Sh nf X) {v1 : Int32} {v2 : Int32} (c0 : ¬ X 133 12 = 1) (c1 : ¬ X 133 12 = 2) (c2 : X 133 12 = 3) (c3 : ¬ X 133 12 = 2) (hp : post none X) : Ev g mX12_next d n0 nf post nf 143 [some (.ref 133), some (.int v1), some (.int v2)] [] X := by
  refine ev_aload_n dX12_next_143 rfl ?_
  refine ev_getI dX12_next_144 fo_12_125 (by omega) lo_133 rfl ?_
  refine ev_iconst (v := 1) dX12_next_147 ki_1 ?_
  refine ev_icmpT (tgt := 162) dX12_next_148 (by decide) c0 ?_
  refine ev_aload_n dX12_next_162 rfl ?_
  refine ev_getI dX12_next_163 fo_12_125 (by omega) lo_133 rfl ?_
  refine ev_iconst (v := 2) dX12_next_166 ki_2 ?_
  refine ev_icmpT (tgt := 194) dX12_next_167 (by decide) c1 ?_
  refine ev_aload_n dX12_next_194 rfl ?_
  refine ev_getI dX12_next_195 fo_12_125 (by omega) lo_133 rfl ?_
  refine ev_iconst (v := 3) dX12_next_198 ki_3 ?_
  refine ev_icmpT (tgt := 214) dX12_next_199 (by decide) c2 ?_
  refine ev_aload_n dX12_next_214 rfl ?_
  refine ev_getI dX12_next_215 fo_12_125 (by omega) lo_133 rfl ?_
  refine ev_iconst (v := 2) dX12_next_218 ki_2 ?_
  refine ev_icmpT (tgt := 240) dX12_next_219 (by decide) c3 ?_
  exact ev_ret dX12_next_240 rfl hp
theorem bX12_next_159_0 {g : GG} {d n0 nf : Nat} {post : Option Value → LX → Prop} {n : Nat} {X : LX} (hn : 146 ≤ n) (hX : Sh n X) {v1 : Int32} {v2 : Int32} {s0 : Int32} (c0 : s0 = 0) (c1 : X 133 12 = 2) (k : Ev g mX12_next d n0 nf post n 175 [some (.ref 133), some (.int v1), some (.int v2)] [.int (X 133 11), .ref 133] X) : Ev g mX12_next d n0 nf post n 159 [some (.ref 133), some (.int v1), some (.int v2)] [.int s0] X := by
  refine ev_ifF (tgt := 181) dX12_next_159 (by decide) c0 ?_
  refine ev_aload_n dX12_next_162 rfl ?_
  refine ev_getI dX12_next_163 fo_12_125 (by omega) lo_133 rfl ?_
  refine ev_iconst (v := 2) dX12_next_166 ki_2 ?_
  refine ev_icmpF (tgt := 194) dX12_next_167 (by decide) c1 ?_
  refine ev_aload_n dX12_next_170 rfl ?_
  refine ev_aload_n dX12_next_171 rfl ?_
  refine ev_getI dX12_next_172 fo_12_128 (by omega) lo_133 rfl ?_
  exact k
theorem bX12_next_159_1 {g : GG} {d n0 nf : Nat} {post : Option Value → LX → Prop} {n : Nat} {X : LX} (hn : 146 ≤ nf) (hX : Sh nf X) {v1 : Int32} {v2 : Int32} {s0 : Int32} (c0 : s0 = 0) (c1 : ¬ X 133 12 = 2) (c2 : ¬ X 133 12 = 3) (c3 : ¬ v1 = 0) (c4 : ¬ X 133 10 = v2) (c5 : X 133 12 = 2) (c6 : ¬ (X 133 11) - (X 133 10) ≤ 5) (hp : post none (lx_up X 133 12 4)) : Ev g mX12_next d n0 nf post nf 159 [some (.ref 133), some (.int v1), some (.int v2)] [.int s0] X := by
  refine ev_ifF (tgt := 181) dX12_next_159 (by decide) c0 ?_
  refine ev_aload_n dX12_next_162 rfl ?_
  refine ev_getI dX12_next_163 fo_12_125 (by omega) lo_133 rfl ?_
  refine ev_iconst (v := 2) dX12_next_166 ki_2 ?_
  refine ev_icmpT (tgt := 194) dX12_next_167 (by decide) c1 ?_
  refine ev_aload_n dX12_next_194 rfl ?_
  refine ev_getI dX12_next_195 fo_12_125 (by omega) lo_133 rfl ?_
  refine ev_iconst (v := 3) dX12_next_198 ki_3 ?_
  refine ev_icmpF (tgt := 214) dX12_next_199 (by decide) c2 ?_
  refine ev_iload_n dX12_next_202 rfl ?_
  refine ev_ifF (tgt := 214) dX12_next_203 (by decide) c3 ?_
  refine ev_aload_n dX12_next_206 rfl ?_
  refine ev_getI dX12_next_207 fo_12_131 (by omega) lo_133 rfl ?_
  refine ev_iload_n dX12_next_210 rfl ?_
  refine ev_icmpF (tgt := 235) dX12_next_211 (by decide) c4 ?_
  refine ev_aload_n dX12_next_214 rfl ?_
  refine ev_getI dX12_next_215 fo_12_125 (by omega) lo_133 rfl ?_
  refine ev_iconst (v := 2) dX12_next_218 ki_2 ?_
  refine ev_icmpF (tgt := 240) dX12_next_219 (by decide) c5 ?_
  refine ev_aload_n dX12_next_222 rfl ?_
  refine ev_getI dX12_next_223 fo_12_128 (by omega) lo_133 rfl ?_
  refine ev_aload_n dX12_next_226 rfl ?_
  refine ev_getI dX12_next_227 fo_12_131 (by omega) lo_133 rfl ?_
  refine ev_isub dX12_next_230 ?_
  refine ev_iconst (v := 5) dX12_next_231 ki_5 ?_
  refine ev_icmpF (tgt := 240) dX12_next_232 (by decide) c6 ?_
  refine ev_aload_n dX12_next_235 rfl ?_
  refine ev_iconst (v := 4) dX12_next_236 ki_4 ?_
  refine ev_putI dX12_next_237 fo_12_125 (by omega) lo_133 rfl rfl rfl ?_
  have hX1 : Sh _ (lx_up X 133 12 4) := Sh.upF hX (by rw [lo_133]; decide) (by decide)
  exact ev_ret dX12_next_240 rfl hp
theorem bX12_next_159_2 {g : GG} {d n0 nf : Nat} {post : Option Value → LX → Prop} {n : Nat} {X : LX} (hn : 146 ≤ nf) (hX : Sh nf X) {v1 : Int32} {v2 : Int32} {s0 : Int32} (c0 : s0 = 0) (c1 : ¬ X 133 12 = 2) (c2 : ¬ X 133 12 = 3) (c3 : ¬ v1 = 0) (c4 : ¬ X 133 10 = v2) (c5 : X 133 12 = 2) (c6 : (X 133 11) - (X 133 10) ≤ 5) (hp : post none X) : Ev g mX12_next d n0 nf post nf 159 [some (.ref 133), some (.int v1), some (.int v2)] [.int s0] X := by
  refine ev_ifF (tgt := 181) dX12_next_159 (by decide) c0 ?_
  refine ev_aload_n dX12_next_162 rfl ?_
  refine ev_getI dX12_next_163 fo_12_125 (by omega) lo_133 rfl ?_
  refine ev_iconst (v := 2) dX12_next_166 ki_2 ?_
  refine ev_icmpT (tgt := 194) dX12_next_167 (by decide) c1 ?_
  refine ev_aload_n dX12_next_194 rfl ?_
  refine ev_getI dX12_next_195 fo_12_125 (by omega) lo_133 rfl ?_
  refine ev_iconst (v := 3) dX12_next_198 ki_3 ?_
  refine ev_icmpF (tgt := 214) dX12_next_199 (by decide) c2 ?_
  refine ev_iload_n dX12_next_202 rfl ?_
  refine ev_ifF (tgt := 214) dX12_next_203 (by decide) c3 ?_
  refine ev_aload_n dX12_next_206 rfl ?_
  refine ev_getI dX12_next_207 fo_12_131 (by omega) lo_133 rfl ?_
  refine ev_iload_n dX12_next_210 rfl ?_
  refine ev_icmpF (tgt := 235) dX12_next_211 (by decide) c4 ?_
  refine ev_aload_n dX12_next_214 rfl ?_
  refine ev_getI dX12_next_215 fo_12_125 (by omega) lo_133 rfl ?_
  refine ev_iconst (v := 2) dX12_next_218 ki_2 ?_
  refine ev_icmpF (tgt := 240) dX12_next_219 (by decide) c5 ?_
  refine ev_aload_n dX12_next_222 rfl ?_
  refine ev_getI dX12_next_223 fo_12_128 (by omega) lo_133 rfl ?_
  refine ev_aload_n dX12_next_226 rfl ?_
  refine ev_getI dX12_next_227 fo_12_131 (by omega) lo_133 rfl ?_
  refine ev_isub dX12_next_230 ?_
  refine ev_iconst (v := 5) dX12_next_231 ki_5 ?_
  refine ev_icmpT (tgt := 240) dX12_next_232 (by decide) c6 ?_
  exact ev_ret dX12_next_240 rfl hp
theorem bX12_next_159_3 {g : GG} {d n0 nf : Nat} {post : Option Value → LX → Prop} {n : Nat} {X : LX} (hn : 146 ≤ nf) (hX : Sh nf X) {v1 : Int32} {v2 : Int32} {s0 : Int32} (c0 : s0 = 0) (c1 : ¬ X 133 12 = 2) (c2 : ¬ X 133 12 = 3) (c3 : ¬ v1 = 0) (c4 : ¬ X 133 10 = v2) (c5 : ¬ X 133 12 = 2) (hp : post none X) : Ev g mX12_next d n0 nf post nf 159 [some (.ref 133), some (.int v1), some (.int v2)] [.int s0] X := by
  refine ev_ifF (tgt := 181) dX12_next_159 (by decide) c0 ?_
  refine ev_aload_n dX12_next_162 rfl ?_
  refine ev_getI dX12_next_163 fo_12_125 (by omega) lo_133 rfl ?_
  refine ev_iconst (v := 2) dX12_next_166 ki_2 ?_
  refine ev_icmpT (tgt := 194) dX12_next_167 (by decide) c1 ?_
  refine ev_aload_n dX12_next_194 rfl ?_
  refine ev_getI dX12_next_195 fo_12_125 (by omega) lo_133 rfl ?_
  refine ev_iconst (v := 3) dX12_next_198 ki_3 ?_
  refine ev_icmpF (tgt := 214) dX12_next_199 (by decide) c2 ?_
  refine ev_iload_n dX12_next_202 rfl ?_
  refine ev_ifF (tgt := 214) dX12_next_203 (by decide) c3 ?_
  refine ev_aload_n dX12_next_206 rfl ?_
  refine ev_getI dX12_next_207 fo_12_131 (by omega) lo_133 rfl ?_
  refine ev_iload_n dX12_next_210 rfl ?_
  refine ev_icmpF (tgt := 235) dX12_next_211 (by decide) c4 ?_
  refine ev_aload_n dX12_next_214 rfl ?_
  refine ev_getI dX12_next_215 fo_12_125 (by omega) lo_133 rfl ?_
  refine ev_iconst (v := 2) dX12_next_218 ki_2 ?_
  refine ev_icmpT (tgt := 240) dX12_next_219 (by decide) c5 ?_
  exact ev_ret dX12_next_240 rfl hp
theorem bX12_next_159_4 {g : GG} {d n0 nf : Nat} {post : Option Value → LX → Prop} {n : Nat} {X : LX} (hn : 146 ≤ nf) (hX : Sh nf X) {v1 : Int32} {v2 : Int32} {s0 : Int32} (c0 : s0 = 0) (c1 : ¬ X 133 12 = 2) (c2 : ¬ X 133 12 = 3) (c3 : ¬ v1 = 0) (c4 : X 133 10 = v2) (hp : post none (lx_up X 133 12 4)) : Ev g mX12_next d n0 nf post nf 159 [some (.ref 133), some (.int v1), some (.int v2)] [.int s0] X := by
  refine ev_ifF (tgt := 181) dX12_next_159 (by decide) c0 ?_
  refine ev_aload_n dX12_next_162 rfl ?_
  refine ev_getI dX12_next_163 fo_12_125 (by omega) lo_133 rfl ?_
  refine ev_iconst (v := 2) dX12_next_166 ki_2 ?_
  refine ev_icmpT (tgt := 194) dX12_next_167 (by decide) c1 ?_
  refine ev_aload_n dX12_next_194 rfl ?_
  refine ev_getI dX12_next_195 fo_12_125 (by omega) lo_133 rfl ?_
  refine ev_iconst (v := 3) dX12_next_198 ki_3 ?_
  refine ev_icmpF (tgt := 214) dX12_next_199 (by decide) c2 ?_
  refine ev_iload_n dX12_next_202 rfl ?_
  refine ev_ifF (tgt := 214) dX12_next_203 (by decide) c3 ?_
  refine ev_aload_n dX12_next_206 rfl ?_
  refine ev_getI dX12_next_207 fo_12_131 (by omega) lo_133 rfl ?_
  refine ev_iload_n dX12_next_210 rfl ?_
  refine ev_icmpT (tgt := 235) dX12_next_211 (by decide) c4 ?_
  refine ev_aload_n dX12_next_235 rfl ?_
  refine ev_iconst (v := 4) dX12_next_236 ki_4 ?_
  refine ev_putI dX12_next_237 fo_12_125 (by omega) lo_133 rfl rfl rfl ?_
  have hX1 : Sh _ (lx_up X 133 12 4) := Sh.upF hX (by rw [lo_133]; decide) (by decide)
  exact ev_ret dX12_next_240 rfl hp
theorem bX12_next_159_5 {g : GG} {d n0 nf : Nat} {post : Option Value → LX → Prop} {n : Nat} {X : LX} (hn : 146 ≤ nf) (hX : Sh nf X) {v1 : Int32} {v2 : Int32} {s0 : Int32} (c0 : s0 = 0) (c1 : ¬ X 133 12 = 2) (c2 : ¬ X 133 12 = 3) (c3 : v1 = 0) (c4 : X 133 12 = 2) (c5 : ¬ (X 133 11) - (X 133 10) ≤ 5) (hp : post none (lx_up X 133 12 4)) : Ev g mX12_next d n0 nf post nf 159 [some (.ref 133), some (.int v1), some (.int v2)] [.int s0] X := by
  refine ev_ifF (tgt := 181) dX12_next_159 (by decide) c0 ?_
  refine ev_aload_n dX12_next_162 rfl ?_
  refine ev_getI dX12_next_163 fo_12_125 (by omega) lo_133 rfl ?_
  refine ev_iconst (v := 2) dX12_next_166 ki_2 ?_
  refine ev_icmpT (tgt := 194) dX12_next_167 (by decide) c1 ?_
  refine ev_aload_n dX12_next_194 rfl ?_
  refine ev_getI dX12_next_195 fo_12_125 (by omega) lo_133 rfl ?_
  refine ev_iconst (v := 3) dX12_next_198 ki_3 ?_
  refine ev_icmpF (tgt := 214) dX12_next_199 (by decide) c2 ?_
  refine ev_iload_n dX12_next_202 rfl ?_
  refine ev_ifT (tgt := 214) dX12_next_203 (by decide) c3 ?_
  refine ev_aload_n dX12_next_214 rfl ?_
  refine ev_getI dX12_next_215 fo_12_125 (by omega) lo_133 rfl ?_
  refine ev_iconst (v := 2) dX12_next_218 ki_2 ?_
  refine ev_icmpF (tgt := 240) dX12_next_219 (by decide) c4 ?_
  refine ev_aload_n dX12_next_222 rfl ?_
  refine ev_getI dX12_next_223 fo_12_128 (by omega) lo_133 rfl ?_
  refine ev_aload_n dX12_next_226 rfl ?_
  refine ev_getI dX12_next_227 fo_12_131 (by omega) lo_133 rfl ?_
  refine ev_isub dX12_next_230 ?_
  refine ev_iconst (v := 5) dX12_next_231 ki_5 ?_
  refine ev_icmpF (tgt := 240) dX12_next_232 (by decide) c5 ?_
  refine ev_aload_n dX12_next_235 rfl ?_
  refine ev_iconst (v := 4) dX12_next_236 ki_4 ?_
  refine ev_putI dX12_next_237 fo_12_125 (by omega) lo_133 rfl rfl rfl ?_
  have hX1 : Sh _ (lx_up X 133 12 4) := Sh.upF hX (by rw [lo_133]; decide) (by decide)
  exact ev_ret dX12_next_240 rfl hp
theorem bX12_next_159_6 {g : GG} {d n0 nf : Nat} {post : Option Value → LX → Prop} {n : Nat} {X : LX} (hn : 146 ≤ nf) (hX : Sh nf X) {v1 : Int32} {v2 : Int32} {s0 : Int32} (c0 : s0 = 0) (c1 : ¬ X 133 12 = 2) (c2 : ¬ X 133 12 = 3) (c3 : v1 = 0) (c4 : X 133 12 = 2) (c5 : (X 133 11) - (X 133 10) ≤ 5) (hp : post none X) : Ev g mX12_next d n0 nf post nf 159 [some (.ref 133), some (.int v1), some (.int v2)] [.int s0] X := by
  refine ev_ifF (tgt := 181) dX12_next_159 (by decide) c0 ?_
  refine ev_aload_n dX12_next_162 rfl ?_
  refine ev_getI dX12_next_163 fo_12_125 (by omega) lo_133 rfl ?_
  refine ev_iconst (v := 2) dX12_next_166 ki_2 ?_
  refine ev_icmpT (tgt := 194) dX12_next_167 (by decide) c1 ?_
  refine ev_aload_n dX12_next_194 rfl ?_
  refine ev_getI dX12_next_195 fo_12_125 (by omega) lo_133 rfl ?_
  refine ev_iconst (v := 3) dX12_next_198 ki_3 ?_
  refine ev_icmpF (tgt := 214) dX12_next_199 (by decide) c2 ?_
  refine ev_iload_n dX12_next_202 rfl ?_
  refine ev_ifT (tgt := 214) dX12_next_203 (by decide) c3 ?_
  refine ev_aload_n dX12_next_214 rfl ?_
  refine ev_getI dX12_next_215 fo_12_125 (by omega) lo_133 rfl ?_
  refine ev_iconst (v := 2) dX12_next_218 ki_2 ?_
  refine ev_icmpF (tgt := 240) dX12_next_219 (by decide) c4 ?_
  refine ev_aload_n dX12_next_222 rfl ?_
  refine ev_getI dX12_next_223 fo_12_128 (by omega) lo_133 rfl ?_
  refine ev_aload_n dX12_next_226 rfl ?_
  refine ev_getI dX12_next_227 fo_12_131 (by omega) lo_133 rfl ?_
  refine ev_isub dX12_next_230 ?_
  refine ev_iconst (v := 5) dX12_next_231 ki_5 ?_
  refine ev_icmpT (tgt := 240) dX12_next_232 (by decide) c5 ?_
  exact ev_ret dX12_next_240 rfl hp
theorem bX12_next_159_7 {g : GG} {d n0 nf : Nat} {post : Option Value → LX → Prop} {n : Nat} {X : LX} (hn : 146 ≤ nf) (hX : Sh nf X) {v1 : Int32} {v2 : Int32} {s0 : Int32} (c0 : s0 = 0) (c1 : ¬ X 133 12 = 2) (c2 : ¬ X 133 12 = 3) (c3 : v1 = 0) (c4 : ¬ X 133 12 = 2) (hp : post none X) : Ev g mX12_next d n0 nf post nf 159 [some (.ref 133), some (.int v1), some (.int v2)] [.int s0] X := by
  refine ev_ifF (tgt := 181) dX12_next_159 (by decide) c0 ?_
  refine ev_aload_n dX12_next_162 rfl ?_
  refine ev_getI dX12_next_163 fo_12_125 (by omega) lo_133 rfl ?_
  refine ev_iconst (v := 2) dX12_next_166 ki_2 ?_
  refine ev_icmpT (tgt := 194) dX12_next_167 (by decide) c1 ?_
  refine ev_aload_n dX12_next_194 rfl ?_
  refine ev_getI dX12_next_195 fo_12_125 (by omega) lo_133 rfl ?_
  refine ev_iconst (v := 3) dX12_next_198 ki_3 ?_
  refine ev_icmpF (tgt := 214) dX12_next_199 (by decide) c2 ?_
  refine ev_iload_n dX12_next_202 rfl ?_
  refine ev_ifT (tgt := 214) dX12_next_203 (by decide) c3 ?_
  refine ev_aload_n dX12_next_214 rfl ?_
  refine ev_getI dX12_next_215 fo_12_125 (by omega) lo_133 rfl ?_
  refine ev_iconst (v := 2) dX12_next_218 ki_2 ?_
  refine ev_icmpT (tgt := 240) dX12_next_219 (by decide) c4 ?_
  exact ev_ret dX12_next_240 rfl hp
theorem bX12_next_159_8 {g : GG} {d n0 nf : Nat} {post : Option Value → LX → Prop} {n : Nat} {X : LX} (hn : 146 ≤ nf) (hX : Sh nf X) {v1 : Int32} {v2 : Int32} {s0 : Int32} (c0 : s0 = 0) (c1 : ¬ X 133 12 = 2) (c2 : X 133 12 = 3) (c3 : X 133 12 = 2) (c4 : ¬ (X 133 11) - (X 133 10) ≤ 5) (hp : post none (lx_up X 133 12 4)) : Ev g mX12_next d n0 nf post nf 159 [some (.ref 133), some (.int v1), some (.int v2)] [.int s0] X := by
  refine ev_ifF (tgt := 181) dX12_next_159 (by decide) c0 ?_
  refine ev_aload_n dX12_next_162 rfl ?_
  refine ev_getI dX12_next_163 fo_12_125 (by omega) lo_133 rfl ?_
  refine ev_iconst (v := 2) dX12_next_166 ki_2 ?_
  refine ev_icmpT (tgt := 194) dX12_next_167 (by decide) c1 ?_
  refine ev_aload_n dX12_next_194 rfl ?_
  refine ev_getI dX12_next_195 fo_12_125 (by omega) lo_133 rfl ?_
  refine ev_iconst (v := 3) dX12_next_198 ki_3 ?_
  refine ev_icmpT (tgt := 214) dX12_next_199 (by decide) c2 ?_
  refine ev_aload_n dX12_next_214 rfl ?_
  refine ev_getI dX12_next_215 fo_12_125 (by omega) lo_133 rfl ?_
  refine ev_iconst (v := 2) dX12_next_218 ki_2 ?_
  refine ev_icmpF (tgt := 240) dX12_next_219 (by decide) c3 ?_
  refine ev_aload_n dX12_next_222 rfl ?_
  refine ev_getI dX12_next_223 fo_12_128 (by omega) lo_133 rfl ?_
  refine ev_aload_n dX12_next_226 rfl ?_
  refine ev_getI dX12_next_227 fo_12_131 (by omega) lo_133 rfl ?_
  refine ev_isub dX12_next_230 ?_
  refine ev_iconst (v := 5) dX12_next_231 ki_5 ?_
  refine ev_icmpF (tgt := 240) dX12_next_232 (by decide) c4 ?_
  refine ev_aload_n dX12_next_235 rfl ?_
  refine ev_iconst (v := 4) dX12_next_236 ki_4 ?_
  refine ev_putI dX12_next_237 fo_12_125 (by omega) lo_133 rfl rfl rfl ?_
  have hX1 : Sh _ (lx_up X 133 12 4) := Sh.upF hX (by rw [lo_133]; decide) (by decide)
  exact ev_ret dX12_next_240 rfl hp
theorem bX12_next_159_9 {g : GG} {d n0 nf : Nat} {post : Option Value → LX → Prop} {n : Nat} {X : LX} (hn : 146 ≤ nf) (hX : Sh nf X) {v1 : Int32} {v2 : Int32} {s0 : Int32} (c0 : s0 = 0) (c1 : ¬ X 133 12 = 2) (c2 : X 133 12 = 3) (c3 : X 133 12 = 2) (c4 : (X 133 11) - (X 133 10) ≤ 5) (hp : post none X) : Ev g mX12_next d n0 nf post nf 159 [some (.ref 133), some (.int v1), some (.int v2)] [.int s0] X := by
  refine ev_ifF (tgt := 181) dX12_next_159 (by decide) c0 ?_
  refine ev_aload_n dX12_next_162 rfl ?_
  refine ev_getI dX12_next_163 fo_12_125 (by omega) lo_133 rfl ?_
  refine ev_iconst (v := 2) dX12_next_166 ki_2 ?_
  refine ev_icmpT (tgt := 194) dX12_next_167 (by decide) c1 ?_
  refine ev_aload_n dX12_next_194 rfl ?_
  refine ev_getI dX12_next_195 fo_12_125 (by omega) lo_133 rfl ?_
  refine ev_iconst (v := 3) dX12_next_198 ki_3 ?_
  refine ev_icmpT (tgt := 214) dX12_next_199 (by decide) c2 ?_
  refine ev_aload_n dX12_next_214 rfl ?_
  refine ev_getI dX12_next_215 fo_12_125 (by omega) lo_133 rfl ?_
  refine ev_iconst (v := 2) dX12_next_218 ki_2 ?_
  refine ev_icmpF (tgt := 240) dX12_next_219 (by decide) c3 ?_
  refine ev_aload_n dX12_next_222 rfl ?_
  refine ev_getI dX12_next_223 fo_12_128 (by omega) lo_133 rfl ?_
  refine ev_aload_n dX12_next_226 rfl ?_
  refine ev_getI dX12_next_227 fo_12_131 (by omega) lo_133 rfl ?_
  refine ev_isub dX12_next_230 ?_
  refine ev_iconst (v := 5) dX12_next_231 ki_5 ?_
  refine ev_icmpT (tgt := 240) dX12_next_232 (by decide) c4 ?_
  exact ev_ret dX12_next_240 rfl hp
theorem bX12_next_159_10 {g : GG} {d n0 nf : Nat} {post : Option Value → LX → Prop} {n : Nat} {X : LX} (hn : 146 ≤ nf) (hX : Sh nf X) {v1 : Int32} {v2 : Int32} {s0 : Int32} (c0 : s0 = 0) (c1 : ¬ X 133 12 = 2) (c2 : X 133 12 = 3) (c3 : ¬ X 133 12 = 2) (hp : post none X) : Ev g mX12_next d n0 nf post nf 159 [some (.ref 133), some (.int v1), some (.int v2)] [.int s0] X := by
  refine ev_ifF (tgt := 181) dX12_next_159 (by decide) c0 ?_
  refine ev_aload_n dX12_next_162 rfl ?_
  refine ev_getI dX12_next_163 fo_12_125 (by omega) lo_133 rfl ?_
  refine ev_iconst (v := 2) dX12_next_166 ki_2 ?_
  refine ev_icmpT (tgt := 194) dX12_next_167 (by decide) c1 ?_
  refine ev_aload_n dX12_next_194 rfl ?_
  refine ev_getI dX12_next_195 fo_12_125 (by omega) lo_133 rfl ?_
  refine ev_iconst (v := 3) dX12_next_198 ki_3 ?_
  refine ev_icmpT (tgt := 214) dX12_next_199 (by decide) c2 ?_
  refine ev_aload_n dX12_next_214 rfl ?_
  refine ev_getI dX12_next_215 fo_12_125 (by omega) lo_133 rfl ?_
  refine ev_iconst (v := 2) dX12_next_218 ki_2 ?_
  refine ev_icmpT (tgt := 240) dX12_next_219 (by decide) c3 ?_
  exact ev_ret dX12_next_240 rfl hp
theorem bX12_next_159_11 {g : GG} {d n0 nf : Nat} {post : Option Value → LX → Prop} {n : Nat} {X : LX} (hn : 146 ≤ n) (hX : Sh n X) {v1 : Int32} {v2 : Int32} {s0 : Int32} (c0 : ¬ s0 = 0) (k : Ev g mX12_next d n0 nf post n 143 [some (.ref 133), some (.int v1), some (.int v2)] [] (lx_up X 133 11 ((X 133 11) + 1))) : Ev g mX12_next d n0 nf post n 159 [some (.ref 133), some (.int v1), some (.int v2)] [.int s0] X := by
  refine ev_ifT (tgt := 181) dX12_next_159 (by decide) c0 ?_
  refine ev_aload_n dX12_next_181 rfl ?_
  refine ev_dup dX12_next_182 rfl ?_
  refine ev_getI dX12_next_183 fo_12_128 (by omega) lo_133 rfl ?_
  refine ev_iconst (v := 1) dX12_next_186 ki_1 ?_
  refine ev_iadd dX12_next_187 ?_
  refine ev_putI dX12_next_188 fo_12_128 (by omega) lo_133 rfl rfl rfl ?_
  have hX1 : Sh _ (lx_up X 133 11 ((X 133 11) + 1)) := Sh.upF hX (by rw [lo_133]; decide) (by decide)
  refine ev_goto (tgt := 143) dX12_next_191 (by decide) ?_
  exact k
theorem bX12_next_178_0 {g : GG} {d n0 nf : Nat} {post : Option Value → LX → Prop} {n : Nat} {X : LX} (hn : 146 ≤ n) (hX : Sh n X) {v1 : Int32} {v2 : Int32} {s0 : Int32} (c0 : ¬ s0 = 0) (k : Ev g mX12_next d n0 nf post n 143 [some (.ref 133), some (.int v1), some (.int v2)] [] (lx_up X 133 11 ((X 133 11) + 1))) : Ev g mX12_next d n0 nf post n 178 [some (.ref 133), some (.int v1), some (.int v2)] [.int s0] X := by
  refine ev_ifF (tgt := 194) dX12_next_178 (by decide) c0 ?_
  refine ev_aload_n dX12_next_181 rfl ?_
  refine ev_dup dX12_next_182 rfl ?_
  refine ev_getI dX12_next_183 fo_12_128 (by omega) lo_133 rfl ?_
  refine ev_iconst (v := 1) dX12_next_186 ki_1 ?_
  refine ev_iadd dX12_next_187 ?_
  refine ev_putI dX12_next_188 fo_12_128 (by omega) lo_133 rfl rfl rfl ?_
  have hX1 : Sh _ (lx_up X 133 11 ((X 133 11) + 1)) := Sh.upF hX (by rw [lo_133]; decide) (by decide)
  refine ev_goto (tgt := 143) dX12_next_191 (by decide) ?_
  exact k
theorem bX12_next_178_1 {g : GG} {d n0 nf : Nat} {post : Option Value → LX → Prop} {n : Nat} {X : LX} (hn : 146 ≤ nf) (hX : Sh nf X) {v1 : Int32} {v2 : Int32} {s0 : Int32} (c0 : s0 = 0) (c1 : ¬ X 133 12 = 3) (c2 : ¬ v1 = 0) (c3 : ¬ X 133 10 = v2) (c4 : X 133 12 = 2) (c5 : ¬ (X 133 11) - (X 133 10) ≤ 5) (hp : post none (lx_up X 133 12 4)) : Ev g mX12_next d n0 nf post nf 178 [some (.ref 133), some (.int v1), some (.int v2)] [.int s0] X := by
  refine ev_ifT (tgt := 194) dX12_next_178 (by decide) c0 ?_
  refine ev_aload_n dX12_next_194 rfl ?_
  refine ev_getI dX12_next_195 fo_12_125 (by omega) lo_133 rfl ?_
  refine ev_iconst (v := 3) dX12_next_198 ki_3 ?_
  refine ev_icmpF (tgt := 214) dX12_next_199 (by decide) c1 ?_
  refine ev_iload_n dX12_next_202 rfl ?_
  refine ev_ifF (tgt := 214) dX12_next_203 (by decide) c2 ?_
  refine ev_aload_n dX12_next_206 rfl ?_
  refine ev_getI dX12_next_207 fo_12_131 (by omega) lo_133 rfl ?_
  refine ev_iload_n dX12_next_210 rfl ?_
  refine ev_icmpF (tgt := 235) dX12_next_211 (by decide) c3 ?_
  refine ev_aload_n dX12_next_214 rfl ?_
  refine ev_getI dX12_next_215 fo_12_125 (by omega) lo_133 rfl ?_
  refine ev_iconst (v := 2) dX12_next_218 ki_2 ?_
  refine ev_icmpF (tgt := 240) dX12_next_219 (by decide) c4 ?_
  refine ev_aload_n dX12_next_222 rfl ?_
  refine ev_getI dX12_next_223 fo_12_128 (by omega) lo_133 rfl ?_
  refine ev_aload_n dX12_next_226 rfl ?_
  refine ev_getI dX12_next_227 fo_12_131 (by omega) lo_133 rfl ?_
  refine ev_isub dX12_next_230 ?_
  refine ev_iconst (v := 5) dX12_next_231 ki_5 ?_
  refine ev_icmpF (tgt := 240) dX12_next_232 (by decide) c5 ?_
  refine ev_aload_n dX12_next_235 rfl ?_
  refine ev_iconst (v := 4) dX12_next_236 ki_4 ?_
  refine ev_putI dX12_next_237 fo_12_125 (by omega) lo_133 rfl rfl rfl ?_
  have hX1 : Sh _ (lx_up X 133 12 4) := Sh.upF hX (by rw [lo_133]; decide) (by decide)
  exact ev_ret dX12_next_240 rfl hp
theorem bX12_next_178_2 {g : GG} {d n0 nf : Nat} {post : Option Value → LX → Prop} {n : Nat} {X : LX} (hn : 146 ≤ nf) (hX : Sh nf X) {v1 : Int32} {v2 : Int32} {s0 : Int32} (c0 : s0 = 0) (c1 : ¬ X 133 12 = 3) (c2 : ¬ v1 = 0) (c3 : ¬ X 133 10 = v2) (c4 : X 133 12 = 2) (c5 : (X 133 11) - (X 133 10) ≤ 5) (hp : post none X) : Ev g mX12_next d n0 nf post nf 178 [some (.ref 133), some (.int v1), some (.int v2)] [.int s0] X := by
  refine ev_ifT (tgt := 194) dX12_next_178 (by decide) c0 ?_
  refine ev_aload_n dX12_next_194 rfl ?_
  refine ev_getI dX12_next_195 fo_12_125 (by omega) lo_133 rfl ?_
  refine ev_iconst (v := 3) dX12_next_198 ki_3 ?_
  refine ev_icmpF (tgt := 214) dX12_next_199 (by decide) c1 ?_
  refine ev_iload_n dX12_next_202 rfl ?_
  refine ev_ifF (tgt := 214) dX12_next_203 (by decide) c2 ?_
  refine ev_aload_n dX12_next_206 rfl ?_
  refine ev_getI dX12_next_207 fo_12_131 (by omega) lo_133 rfl ?_
  refine ev_iload_n dX12_next_210 rfl ?_
  refine ev_icmpF (tgt := 235) dX12_next_211 (by decide) c3 ?_
  refine ev_aload_n dX12_next_214 rfl ?_
  refine ev_getI dX12_next_215 fo_12_125 (by omega) lo_133 rfl ?_
  refine ev_iconst (v := 2) dX12_next_218 ki_2 ?_
  refine ev_icmpF (tgt := 240) dX12_next_219 (by decide) c4 ?_
  refine ev_aload_n dX12_next_222 rfl ?_
  refine ev_getI dX12_next_223 fo_12_128 (by omega) lo_133 rfl ?_
  refine ev_aload_n dX12_next_226 rfl ?_
  refine ev_getI dX12_next_227 fo_12_131 (by omega) lo_133 rfl ?_
  refine ev_isub dX12_next_230 ?_
  refine ev_iconst (v := 5) dX12_next_231 ki_5 ?_
  refine ev_icmpT (tgt := 240) dX12_next_232 (by decide) c5 ?_
  exact ev_ret dX12_next_240 rfl hp
theorem bX12_next_178_3 {g : GG} {d n0 nf : Nat} {post : Option Value → LX → Prop} {n : Nat} {X : LX} (hn : 146 ≤ nf) (hX : Sh nf X) {v1 : Int32} {v2 : Int32} {s0 : Int32} (c0 : s0 = 0) (c1 : ¬ X 133 12 = 3) (c2 : ¬ v1 = 0) (c3 : ¬ X 133 10 = v2) (c4 : ¬ X 133 12 = 2) (hp : post none X) : Ev g mX12_next d n0 nf post nf 178 [some (.ref 133), some (.int v1), some (.int v2)] [.int s0] X := by
  refine ev_ifT (tgt := 194) dX12_next_178 (by decide) c0 ?_
  refine ev_aload_n dX12_next_194 rfl ?_
  refine ev_getI dX12_next_195 fo_12_125 (by omega) lo_133 rfl ?_
  refine ev_iconst (v := 3) dX12_next_198 ki_3 ?_
  refine ev_icmpF (tgt := 214) dX12_next_199 (by decide) c1 ?_
  refine ev_iload_n dX12_next_202 rfl ?_
  refine ev_ifF (tgt := 214) dX12_next_203 (by decide) c2 ?_
  refine ev_aload_n dX12_next_206 rfl ?_
  refine ev_getI dX12_next_207 fo_12_131 (by omega) lo_133 rfl ?_
  refine ev_iload_n dX12_next_210 rfl ?_
  refine ev_icmpF (tgt := 235) dX12_next_211 (by decide) c3 ?_
  refine ev_aload_n dX12_next_214 rfl ?_
  refine ev_getI dX12_next_215 fo_12_125 (by omega) lo_133 rfl ?_
  refine ev_iconst (v := 2) dX12_next_218 ki_2 ?_
  refine ev_icmpT (tgt := 240) dX12_next_219 (by decide) c4 ?_
  exact ev_ret dX12_next_240 rfl hp
theorem bX12_next_178_4 {g : GG} {d n0 nf : Nat} {post : Option Value → LX → Prop} {n : Nat} {X : LX} (hn : 146 ≤ nf) (hX : Sh nf X) {v1 : Int32} {v2 : Int32} {s0 : Int32} (c0 : s0 = 0) (c1 : ¬ X 133 12 = 3) (c2 : ¬ v1 = 0) (c3 : X 133 10 = v2) (hp : post none (lx_up X 133 12 4)) : Ev g mX12_next d n0 nf post nf 178 [some (.ref 133), some (.int v1), some (.int v2)] [.int s0] X := by
  refine ev_ifT (tgt := 194) dX12_next_178 (by decide) c0 ?_
  refine ev_aload_n dX12_next_194 rfl ?_
  refine ev_getI dX12_next_195 fo_12_125 (by omega) lo_133 rfl ?_
  refine ev_iconst (v := 3) dX12_next_198 ki_3 ?_
  refine ev_icmpF (tgt := 214) dX12_next_199 (by decide) c1 ?_
  refine ev_iload_n dX12_next_202 rfl ?_
  refine ev_ifF (tgt := 214) dX12_next_203 (by decide) c2 ?_
  refine ev_aload_n dX12_next_206 rfl ?_
  refine ev_getI dX12_next_207 fo_12_131 (by omega) lo_133 rfl ?_
  refine ev_iload_n dX12_next_210 rfl ?_
  refine ev_icmpT (tgt := 235) dX12_next_211 (by decide) c3 ?_
  refine ev_aload_n dX12_next_235 rfl ?_
  refine ev_iconst (v := 4) dX12_next_236 ki_4 ?_
  refine ev_putI dX12_next_237 fo_12_125 (by omega) lo_133 rfl rfl rfl ?_
  have hX1 : Sh _ (lx_up X 133 12 4) := Sh.upF hX (by rw [lo_133]; decide) (by decide)
  exact ev_ret dX12_next_240 rfl hp
theorem bX12_next_178_5 {g : GG} {d n0 nf : Nat} {post : Option Value → LX → Prop} {n : Nat} {X : LX} (hn : 146 ≤ nf) (hX : Sh nf X) {v1 : Int32} {v2 : Int32} {s0 : Int32} (c0 : s0 = 0) (c1 : ¬ X 133 12 = 3) (c2 : v1 = 0) (c3 : X 133 12 = 2) (c4 : ¬ (X 133 11) - (X 133 10) ≤ 5) (hp : post none (lx_up X 133 12 4)) : Ev g mX12_next d n0 nf post nf 178 [some (.ref 133), some (.int v1), some (.int v2)] [.int s0] X := by
  refine ev_ifT (tgt := 194) dX12_next_178 (by decide) c0 ?_
  refine ev_aload_n dX12_next_194 rfl ?_
  refine ev_getI dX12_next_195 fo_12_125 (by omega) lo_133 rfl ?_
  refine ev_iconst (v := 3) dX12_next_198 ki_3 ?_
  refine ev_icmpF (tgt := 214) dX12_next_199 (by decide) c1 ?_
  refine ev_iload_n dX12_next_202 rfl ?_
  refine ev_ifT (tgt := 214) dX12_next_203 (by decide) c2 ?_
  refine ev_aload_n dX12_next_214 rfl ?_
  refine ev_getI dX12_next_215 fo_12_125 (by omega) lo_133 rfl ?_
  refine ev_iconst (v := 2) dX12_next_218 ki_2 ?_
  refine ev_icmpF (tgt := 240) dX12_next_219 (by decide) c3 ?_
  refine ev_aload_n dX12_next_222 rfl ?_
  refine ev_getI dX12_next_223 fo_12_128 (by omega) lo_133 rfl ?_
  refine ev_aload_n dX12_next_226 rfl ?_
  refine ev_getI dX12_next_227 fo_12_131 (by omega) lo_133 rfl ?_
  refine ev_isub dX12_next_230 ?_
  refine ev_iconst (v := 5) dX12_next_231 ki_5 ?_
  refine ev_icmpF (tgt := 240) dX12_next_232 (by decide) c4 ?_
  refine ev_aload_n dX12_next_235 rfl ?_
  refine ev_iconst (v := 4) dX12_next_236 ki_4 ?_
  refine ev_putI dX12_next_237 fo_12_125 (by omega) lo_133 rfl rfl rfl ?_
  have hX1 : Sh _ (lx_up X 133 12 4) := Sh.upF hX (by rw [lo_133]; decide) (by decide)
  exact ev_ret dX12_next_240 rfl hp
theorem bX12_next_178_6 {g : GG} {d n0 nf : Nat} {post : Option Value → LX → Prop} {n : Nat} {X : LX} (hn : 146 ≤ nf) (hX : Sh nf X) {v1 : Int32} {v2 : Int32} {s0 : Int32} (c0 : s0 = 0) (c1 : ¬ X 133 12 = 3) (c2 : v1 = 0) (c3 : X 133 12 = 2) (c4 : (X 133 11) - (X 133 10) ≤ 5) (hp : post none X) : Ev g mX12_next d n0 nf post nf 178 [some (.ref 133), some (.int v1), some (.int v2)] [.int s0] X := by
  refine ev_ifT (tgt := 194) dX12_next_178 (by decide) c0 ?_
  refine ev_aload_n dX12_next_194 rfl ?_
  refine ev_getI dX12_next_195 fo_12_125 (by omega) lo_133 rfl ?_
  refine ev_iconst (v := 3) dX12_next_198 ki_3 ?_
  refine ev_icmpF (tgt := 214) dX12_next_199 (by decide) c1 ?_
  refine ev_iload_n dX12_next_202 rfl ?_
  refine ev_ifT (tgt := 214) dX12_next_203 (by decide) c2 ?_
  refine ev_aload_n dX12_next_214 rfl ?_
  refine ev_getI dX12_next_215 fo_12_125 (by omega) lo_133 rfl ?_
  refine ev_iconst (v := 2) dX12_next_218 ki_2 ?_
  refine ev_icmpF (tgt := 240) dX12_next_219 (by decide) c3 ?_
  refine ev_aload_n dX12_next_222 rfl ?_
  refine ev_getI dX12_next_223 fo_12_128 (by omega) lo_133 rfl ?_
  refine ev_aload_n dX12_next_226 rfl ?_
  refine ev_getI dX12_next_227 fo_12_131 (by omega) lo_133 rfl ?_
  refine ev_isub dX12_next_230 ?_
  refine ev_iconst (v := 5) dX12_next_231 ki_5 ?_
  refine ev_icmpT (tgt := 240) dX12_next_232 (by decide) c4 ?_
  exact ev_ret dX12_next_240 rfl hp
theorem bX12_next_178_7 {g : GG} {d n0 nf : Nat} {post : Option Value → LX → Prop} {n : Nat} {X : LX} (hn : 146 ≤ nf) (hX : Sh nf X) {v1 : Int32} {v2 : Int32} {s0 : Int32} (c0 : s0 = 0) (c1 : ¬ X 133 12 = 3) (c2 : v1 = 0) (c3 : ¬ X 133 12 = 2) (hp : post none X) : Ev g mX12_next d n0 nf post nf 178 [some (.ref 133), some (.int v1), some (.int v2)] [.int s0] X := by
  refine ev_ifT (tgt := 194) dX12_next_178 (by decide) c0 ?_
  refine ev_aload_n dX12_next_194 rfl ?_
  refine ev_getI dX12_next_195 fo_12_125 (by omega) lo_133 rfl ?_
  refine ev_iconst (v := 3) dX12_next_198 ki_3 ?_
  refine ev_icmpF (tgt := 214) dX12_next_199 (by decide) c1 ?_
  refine ev_iload_n dX12_next_202 rfl ?_
  refine ev_ifT (tgt := 214) dX12_next_203 (by decide) c2 ?_
  refine ev_aload_n dX12_next_214 rfl ?_
  refine ev_getI dX12_next_215 fo_12_125 (by omega) lo_133 rfl ?_
  refine ev_iconst (v := 2) dX12_next_218 ki_2 ?_
  refine ev_icmpT (tgt := 240) dX12_next_219 (by decide) c3 ?_
  exact ev_ret dX12_next_240 rfl hp
theorem bX12_next_178_8 {g : GG} {d n0 nf : Nat} {post : Option Value → LX → Prop} {n : Nat} {X : LX} (hn : 146 ≤ nf) (hX : Sh nf X) {v1 : Int32} {v2 : Int32} {s0 : Int32} (c0 : s0 = 0) (c1 : X 133 12 = 3) (c2 : X 133 12 = 2) (c3 : ¬ (X 133 11) - (X 133 10) ≤ 5) (hp : post none (lx_up X 133 12 4)) : Ev g mX12_next d n0 nf post nf 178 [some (.ref 133), some (.int v1), some (.int v2)] [.int s0] X := by
  refine ev_ifT (tgt := 194) dX12_next_178 (by decide) c0 ?_
  refine ev_aload_n dX12_next_194 rfl ?_
  refine ev_getI dX12_next_195 fo_12_125 (by omega) lo_133 rfl ?_
  refine ev_iconst (v := 3) dX12_next_198 ki_3 ?_
  refine ev_icmpT (tgt := 214) dX12_next_199 (by decide) c1 ?_
  refine ev_aload_n dX12_next_214 rfl ?_
  refine ev_getI dX12_next_215 fo_12_125 (by omega) lo_133 rfl ?_
  refine ev_iconst (v := 2) dX12_next_218 ki_2 ?_
  refine ev_icmpF (tgt := 240) dX12_next_219 (by decide) c2 ?_
  refine ev_aload_n dX12_next_222 rfl ?_
  refine ev_getI dX12_next_223 fo_12_128 (by omega) lo_133 rfl ?_
  refine ev_aload_n dX12_next_226 rfl ?_
  refine ev_getI dX12_next_227 fo_12_131 (by omega) lo_133 rfl ?_
  refine ev_isub dX12_next_230 ?_
  refine ev_iconst (v := 5) dX12_next_231 ki_5 ?_
  refine ev_icmpF (tgt := 240) dX12_next_232 (by decide) c3 ?_
  refine ev_aload_n dX12_next_235 rfl ?_
  refine ev_iconst (v := 4) dX12_next_236 ki_4 ?_
  refine ev_putI dX12_next_237 fo_12_125 (by omega) lo_133 rfl rfl rfl ?_
  have hX1 : Sh _ (lx_up X 133 12 4) := Sh.upF hX (by rw [lo_133]; decide) (by decide)
  exact ev_ret dX12_next_240 rfl hp
theorem bX12_next_178_9 {g : GG} {d n0 nf : Nat} {post : Option Value → LX → Prop} {n : Nat} {X : LX} (hn : 146 ≤ nf) (hX : Sh nf X) {v1 : Int32} {v2 : Int32} {s0 : Int32} (c0 : s0 = 0) (c1 : X 133 12 = 3) (c2 : X 133 12 = 2) (c3 : (X 133 11) - (X 133 10) ≤ 5) (hp : post none X) : Ev g mX12_next d n0 nf post nf 178 [some (.ref 133), some (.int v1), some (.int v2)] [.int s0] X := by
  refine ev_ifT (tgt := 194) dX12_next_178 (by decide) c0 ?_
  refine ev_aload_n dX12_next_194 rfl ?_
  refine ev_getI dX12_next_195 fo_12_125 (by omega) lo_133 rfl ?_
  refine ev_iconst (v := 3) dX12_next_198 ki_3 ?_
  refine ev_icmpT (tgt := 214) dX12_next_199 (by decide) c1 ?_
  refine ev_aload_n dX12_next_214 rfl ?_
  refine ev_getI dX12_next_215 fo_12_125 (by omega) lo_133 rfl ?_
  refine ev_iconst (v := 2) dX12_next_218 ki_2 ?_
  refine ev_icmpF (tgt := 240) dX12_next_219 (by decide) c2 ?_
  refine ev_aload_n dX12_next_222 rfl ?_
  refine ev_getI dX12_next_223 fo_12_128 (by omega) lo_133 rfl ?_
  refine ev_aload_n dX12_next_226 rfl ?_
  refine ev_getI dX12_next_227 fo_12_131 (by omega) lo_133 rfl ?_
  refine ev_isub dX12_next_230 ?_
  refine ev_iconst (v := 5) dX12_next_231 ki_5 ?_
  refine ev_icmpT (tgt := 240) dX12_next_232 (by decide) c3 ?_
  exact ev_ret dX12_next_240 rfl hp
theorem bX12_next_178_10 {g : GG} {d n0 nf : Nat} {post : Option Value → LX → Prop} {n : Nat} {X : LX} (hn : 146 ≤ nf) (hX : Sh nf X) {v1 : Int32} {v2 : Int32} {s0 : Int32} (c0 : s0 = 0) (c1 : X 133 12 = 3) (c2 : ¬ X 133 12 = 2) (hp : post none X) : Ev g mX12_next d n0 nf post nf 178 [some (.ref 133), some (.int v1), some (.int v2)] [.int s0] X := by
  refine ev_ifT (tgt := 194) dX12_next_178 (by decide) c0 ?_
  refine ev_aload_n dX12_next_194 rfl ?_
  refine ev_getI dX12_next_195 fo_12_125 (by omega) lo_133 rfl ?_
  refine ev_iconst (v := 3) dX12_next_198 ki_3 ?_
  refine ev_icmpT (tgt := 214) dX12_next_199 (by decide) c1 ?_
  refine ev_aload_n dX12_next_214 rfl ?_
  refine ev_getI dX12_next_215 fo_12_125 (by omega) lo_133 rfl ?_
  refine ev_iconst (v := 2) dX12_next_218 ki_2 ?_
  refine ev_icmpT (tgt := 240) dX12_next_219 (by decide) c2 ?_
  exact ev_ret dX12_next_240 rfl hp
theorem bX12_isSign_0_0 {g : GG} {d n0 nf : Nat} {post : Option Value → LX → Prop} {n : Nat} {X : LX} (hn : 146 ≤ nf) (hX : Sh nf X) {v1 : Int32} {j1 : Nat} (c0 : X 133 13 = 0) (c1 : X 133 12 = 3) (hj1 : X 133 10 = nI j1) (b0 : j1 < 120) (c2 : X 136 j1 = v1) (hp : post (some (.int 1)) X) : Ev g mX12_isSign d n0 nf post nf 0 [some (.ref 133), some (.int v1)] [] X := by
  refine ev_aload_n dX12_isSign_0 rfl ?_
  refine ev_getI dX12_isSign_1 fo_12_140 (by omega) lo_133 rfl ?_
  refine ev_ifF (tgt := 32) dX12_isSign_4 (by decide) c0 ?_
  refine ev_aload_n dX12_isSign_7 rfl ?_
  refine ev_getI dX12_isSign_8 fo_12_125 (by omega) lo_133 rfl ?_
  refine ev_iconst (v := 3) dX12_isSign_11 ki_3 ?_
  refine ev_icmpF (tgt := 32) dX12_isSign_12 (by decide) c1 ?_
  refine ev_aload_n dX12_isSign_15 rfl ?_
  refine ev_getS (q := 136) dX12_isSign_16 fo_12_16 (by omega) lo_133 rfl (sh_133_3 hX (by omega)) (by decide) ?_
  refine ev_aload_n dX12_isSign_19 rfl ?_
  refine ev_getI dX12_isSign_20 fo_12_131 (by omega) lo_133 rfl ?_
  refine ev_iald dX12_isSign_23 (by omega) ly_136 hj1 b0 ?_
  refine ev_iload_n dX12_isSign_24 rfl ?_
  refine ev_icmpF (tgt := 32) dX12_isSign_25 (by decide) c2 ?_
  refine ev_iconst (v := 1) dX12_isSign_28 ki_1 ?_
  refine ev_goto (tgt := 33) dX12_isSign_29 (by decide) ?_
  exact ev_iret dX12_isSign_33 rfl (by decide) hp
theorem bX12_isSign_0_1 {g : GG} {d n0 nf : Nat} {post : Option Value → LX → Prop} {n : Nat} {X : LX} (hn : 146 ≤ nf) (hX : Sh nf X) {v1 : Int32} {j1 : Nat} (c0 : X 133 13 = 0) (c1 : X 133 12 = 3) (hj1 : X 133 10 = nI j1) (b0 : j1 < 120) (c2 : ¬ X 136 j1 = v1) (hp : post (some (.int 0)) X) : Ev g mX12_isSign d n0 nf post nf 0 [some (.ref 133), some (.int v1)] [] X := by
  refine ev_aload_n dX12_isSign_0 rfl ?_
  refine ev_getI dX12_isSign_1 fo_12_140 (by omega) lo_133 rfl ?_
  refine ev_ifF (tgt := 32) dX12_isSign_4 (by decide) c0 ?_
  refine ev_aload_n dX12_isSign_7 rfl ?_
  refine ev_getI dX12_isSign_8 fo_12_125 (by omega) lo_133 rfl ?_
  refine ev_iconst (v := 3) dX12_isSign_11 ki_3 ?_
  refine ev_icmpF (tgt := 32) dX12_isSign_12 (by decide) c1 ?_
  refine ev_aload_n dX12_isSign_15 rfl ?_
  refine ev_getS (q := 136) dX12_isSign_16 fo_12_16 (by omega) lo_133 rfl (sh_133_3 hX (by omega)) (by decide) ?_
  refine ev_aload_n dX12_isSign_19 rfl ?_
  refine ev_getI dX12_isSign_20 fo_12_131 (by omega) lo_133 rfl ?_
  refine ev_iald dX12_isSign_23 (by omega) ly_136 hj1 b0 ?_
  refine ev_iload_n dX12_isSign_24 rfl ?_
  refine ev_icmpT (tgt := 32) dX12_isSign_25 (by decide) c2 ?_
  refine ev_iconst (v := 0) dX12_isSign_32 ki_0 ?_
  exact ev_iret dX12_isSign_33 rfl (by decide) hp
theorem bX12_isSign_0_2 {g : GG} {d n0 nf : Nat} {post : Option Value → LX → Prop} {n : Nat} {X : LX} (hn : 146 ≤ nf) (hX : Sh nf X) {v1 : Int32} (c0 : X 133 13 = 0) (c1 : ¬ X 133 12 = 3) (hp : post (some (.int 0)) X) : Ev g mX12_isSign d n0 nf post nf 0 [some (.ref 133), some (.int v1)] [] X := by
  refine ev_aload_n dX12_isSign_0 rfl ?_
  refine ev_getI dX12_isSign_1 fo_12_140 (by omega) lo_133 rfl ?_
  refine ev_ifF (tgt := 32) dX12_isSign_4 (by decide) c0 ?_
  refine ev_aload_n dX12_isSign_7 rfl ?_
  refine ev_getI dX12_isSign_8 fo_12_125 (by omega) lo_133 rfl ?_
  refine ev_iconst (v := 3) dX12_isSign_11 ki_3 ?_
  refine ev_icmpT (tgt := 32) dX12_isSign_12 (by decide) c1 ?_
  refine ev_iconst (v := 0) dX12_isSign_32 ki_0 ?_
  exact ev_iret dX12_isSign_33 rfl (by decide) hp
theorem bX12_isSign_0_3 {g : GG} {d n0 nf : Nat} {post : Option Value → LX → Prop} {n : Nat} {X : LX} (hn : 146 ≤ nf) (hX : Sh nf X) {v1 : Int32} (c0 : ¬ X 133 13 = 0) (hp : post (some (.int 0)) X) : Ev g mX12_isSign d n0 nf post nf 0 [some (.ref 133), some (.int v1)] [] X := by
  refine ev_aload_n dX12_isSign_0 rfl ?_
  refine ev_getI dX12_isSign_1 fo_12_140 (by omega) lo_133 rfl ?_
  refine ev_ifT (tgt := 32) dX12_isSign_4 (by decide) c0 ?_
  refine ev_iconst (v := 0) dX12_isSign_32 ki_0 ?_
  exact ev_iret dX12_isSign_33 rfl (by decide) hp
theorem bX12_need_0_0 {g : GG} {d n0 nf : Nat} {post : Option Value → LX → Prop} {n : Nat} {X : LX} (hn : 146 ≤ nf) (hX : Sh nf X) {v1 : Int32} (c0 : X 133 13 = 0) (c1 : v1 = 0) (hp : post none (lx_up X 133 13 1)) : Ev g mX12_need d n0 nf post nf 0 [some (.ref 133), some (.int v1)] [] X := by
  refine ev_aload_n dX12_need_0 rfl ?_
  refine ev_aload_n dX12_need_1 rfl ?_
  refine ev_getI dX12_need_2 fo_12_140 (by omega) lo_133 rfl ?_
  refine ev_ifF (tgt := 12) dX12_need_5 (by decide) c0 ?_
  refine ev_iload_n dX12_need_8 rfl ?_
  refine ev_ifF (tgt := 16) dX12_need_9 (by decide) c1 ?_
  refine ev_iconst (v := 1) dX12_need_12 ki_1 ?_
  refine ev_goto (tgt := 17) dX12_need_13 (by decide) ?_
  refine ev_putZ dX12_need_17 fo_12_140 (by omega) lo_133 rfl rfl rfl (by decide) ?_
  have hX1 : Sh _ (lx_up X 133 13 1) := Sh.upF hX (by rw [lo_133]; decide) (by decide)
  refine ev_aload_n dX12_need_20 rfl ?_
  refine ev_getI dX12_need_21 fo_12_140 (by omega) lo_133 rfl ?_
  refine ev_ifT (tgt := 31) dX12_need_24 (by decide) (by show ¬ (1 : Int32) = 0; decide) ?_
  exact ev_ret dX12_need_31 rfl hp
theorem bX12_need_0_1 {g : GG} {d n0 nf : Nat} {post : Option Value → LX → Prop} {n : Nat} {X : LX} (hn : 146 ≤ n) (hX : Sh n X) {v1 : Int32} (c0 : X 133 13 = 0) (c1 : ¬ v1 = 0) (k : Ev g mX12_need d n0 nf post n 28 [some (.ref 133), some (.int v1)] [.ref 133] (lx_up X 133 13 0)) : Ev g mX12_need d n0 nf post n 0 [some (.ref 133), some (.int v1)] [] X := by
  refine ev_aload_n dX12_need_0 rfl ?_
  refine ev_aload_n dX12_need_1 rfl ?_
  refine ev_getI dX12_need_2 fo_12_140 (by omega) lo_133 rfl ?_
  refine ev_ifF (tgt := 12) dX12_need_5 (by decide) c0 ?_
  refine ev_iload_n dX12_need_8 rfl ?_
  refine ev_ifT (tgt := 16) dX12_need_9 (by decide) c1 ?_
  refine ev_iconst (v := 0) dX12_need_16 ki_0 ?_
  refine ev_putZ dX12_need_17 fo_12_140 (by omega) lo_133 rfl rfl rfl (by decide) ?_
  have hX1 : Sh _ (lx_up X 133 13 0) := Sh.upF hX (by rw [lo_133]; decide) (by decide)
  refine ev_aload_n dX12_need_20 rfl ?_
  refine ev_getI dX12_need_21 fo_12_140 (by omega) lo_133 rfl ?_
  refine ev_ifF (tgt := 31) dX12_need_24 (by decide) (by show (0 : Int32) = 0; decide) ?_
  refine ev_aload_n dX12_need_27 rfl ?_
  exact k
theorem bX12_need_0_2 {g : GG} {d n0 nf : Nat} {post : Option Value → LX → Prop} {n : Nat} {X : LX} (hn : 146 ≤ nf) (hX : Sh nf X) {v1 : Int32} (c0 : ¬ X 133 13 = 0) (hp : post none (lx_up X 133 13 1)) : Ev g mX12_need d n0 nf post nf 0 [some (.ref 133), some (.int v1)] [] X := by
  refine ev_aload_n dX12_need_0 rfl ?_
  refine ev_aload_n dX12_need_1 rfl ?_
  refine ev_getI dX12_need_2 fo_12_140 (by omega) lo_133 rfl ?_
  refine ev_ifT (tgt := 12) dX12_need_5 (by decide) c0 ?_
  refine ev_iconst (v := 1) dX12_need_12 ki_1 ?_
  refine ev_goto (tgt := 17) dX12_need_13 (by decide) ?_
  refine ev_putZ dX12_need_17 fo_12_140 (by omega) lo_133 rfl rfl rfl (by decide) ?_
  have hX1 : Sh _ (lx_up X 133 13 1) := Sh.upF hX (by rw [lo_133]; decide) (by decide)
  refine ev_aload_n dX12_need_20 rfl ?_
  refine ev_getI dX12_need_21 fo_12_140 (by omega) lo_133 rfl ?_
  refine ev_ifT (tgt := 31) dX12_need_24 (by decide) (by show ¬ (1 : Int32) = 0; decide) ?_
  exact ev_ret dX12_need_31 rfl hp
theorem bX12_need_31_0 {g : GG} {d n0 nf : Nat} {post : Option Value → LX → Prop} {n : Nat} {X : LX} (hn : 146 ≤ nf) (hX : Sh nf X) {v1 : Int32} (hp : post none X) : Ev g mX12_need d n0 nf post nf 31 [some (.ref 133), some (.int v1)] [] X := by
  exact ev_ret dX12_need_31 rfl hp
theorem bX12_word_0_0 {g : GG} {d n0 nf : Nat} {post : Option Value → LX → Prop} {n : Nat} {X : LX} (hn : 146 ≤ n) (hX : Sh n X) {tv1 : Nat} (htv1 : tv1 < 14) (c0 : X 133 12 = 1) (k : Ev g mX12_word d n0 nf post n 18 [some (.ref 133), some (.ref (1000 + tv1)), none, none] [.ref (1000 + tv1), .int ((X 133 11) - (X 133 10))] X) : Ev g mX12_word d n0 nf post n 0 [some (.ref 133), some (.ref (1000 + tv1)), none, none] [] X := by
  refine ev_aload_n dX12_word_0 rfl ?_
  refine ev_getI dX12_word_1 fo_12_125 (by omega) lo_133 rfl ?_
  refine ev_iconst (v := 1) dX12_word_4 ki_1 ?_
  refine ev_icmpF (tgt := 28) dX12_word_5 (by decide) c0 ?_
  refine ev_aload_n dX12_word_8 rfl ?_
  refine ev_getI dX12_word_9 fo_12_128 (by omega) lo_133 rfl ?_
  refine ev_aload_n dX12_word_12 rfl ?_
  refine ev_getI dX12_word_13 fo_12_131 (by omega) lo_133 rfl ?_
  refine ev_isub dX12_word_16 ?_
  refine ev_aload_n dX12_word_17 rfl ?_
  exact k
theorem bX12_word_0_1 {g : GG} {d n0 nf : Nat} {post : Option Value → LX → Prop} {n : Nat} {X : LX} (hn : 146 ≤ n) (hX : Sh n X) {tv1 : Nat} (htv1 : tv1 < 14) (c0 : ¬ X 133 12 = 1) (k : Ev g mX12_word d n0 nf post n 32 [some (.ref 133), some (.ref (1000 + tv1)), some (.int 0), some (.int 0)] [] X) : Ev g mX12_word d n0 nf post n 0 [some (.ref 133), some (.ref (1000 + tv1)), none, none] [] X := by
  refine ev_aload_n dX12_word_0 rfl ?_
  refine ev_getI dX12_word_1 fo_12_125 (by omega) lo_133 rfl ?_
  refine ev_iconst (v := 1) dX12_word_4 ki_1 ?_
  refine ev_icmpT (tgt := 28) dX12_word_5 (by decide) c0 ?_
  refine ev_iconst (v := 0) dX12_word_28 ki_0 ?_
  refine ev_istore_n dX12_word_29 (by decide) ?_
  refine ev_iconst (v := 0) dX12_word_30 ki_0 ?_
  refine ev_istore_n dX12_word_31 (by decide) ?_
  exact k
theorem bX12_word_21_0 {g : GG} {d n0 nf : Nat} {post : Option Value → LX → Prop} {n : Nat} {X : LX} (hn : 146 ≤ n) (hX : Sh n X) {tv1 : Nat} {s0 : Int32} {s1 : Int32} (htv1 : tv1 < 14) (c0 : s0 = s1) (k : Ev g mX12_word d n0 nf post n 32 [some (.ref 133), some (.ref (1000 + tv1)), some (.int 1), some (.int 0)] [] X) : Ev g mX12_word d n0 nf post n 21 [some (.ref 133), some (.ref (1000 + tv1)), none, none] [.int s1, .int s0] X := by
  refine ev_icmpF (tgt := 28) dX12_word_21 (by decide) c0 ?_
  refine ev_iconst (v := 1) dX12_word_24 ki_1 ?_
  refine ev_goto (tgt := 29) dX12_word_25 (by decide) ?_
  refine ev_istore_n dX12_word_29 (by decide) ?_
  refine ev_iconst (v := 0) dX12_word_30 ki_0 ?_
  refine ev_istore_n dX12_word_31 (by decide) ?_
  exact k
theorem bX12_word_21_1 {g : GG} {d n0 nf : Nat} {post : Option Value → LX → Prop} {n : Nat} {X : LX} (hn : 146 ≤ n) (hX : Sh n X) {tv1 : Nat} {s0 : Int32} {s1 : Int32} (htv1 : tv1 < 14) (c0 : ¬ s0 = s1) (k : Ev g mX12_word d n0 nf post n 32 [some (.ref 133), some (.ref (1000 + tv1)), some (.int 0), some (.int 0)] [] X) : Ev g mX12_word d n0 nf post n 21 [some (.ref 133), some (.ref (1000 + tv1)), none, none] [.int s1, .int s0] X := by
  refine ev_icmpT (tgt := 28) dX12_word_21 (by decide) c0 ?_
  refine ev_iconst (v := 0) dX12_word_28 ki_0 ?_
  refine ev_istore_n dX12_word_29 (by decide) ?_
  refine ev_iconst (v := 0) dX12_word_30 ki_0 ?_
  refine ev_istore_n dX12_word_31 (by decide) ?_
  exact k
theorem bX12_word_32_0 {g : GG} {d n0 nf : Nat} {post : Option Value → LX → Prop} {n : Nat} {X : LX} (hn : 146 ≤ n) (hX : Sh n X) {tv1 : Nat} {v2 : Int32} {v3 : Int32} (htv1 : tv1 < 14) (c0 : ¬ v2 = 0) (k : Ev g mX12_word d n0 nf post n 38 [some (.ref 133), some (.ref (1000 + tv1)), some (.int v2), some (.int v3)] [.ref (1000 + tv1), .int v3] X) : Ev g mX12_word d n0 nf post n 32 [some (.ref 133), some (.ref (1000 + tv1)), some (.int v2), some (.int v3)] [] X := by
  refine ev_iload_n dX12_word_32 rfl ?_
  refine ev_ifF (tgt := 75) dX12_word_33 (by decide) c0 ?_
  refine ev_iload_n dX12_word_36 rfl ?_
  refine ev_aload_n dX12_word_37 rfl ?_
  exact k
theorem bX12_word_32_1 {g : GG} {d n0 nf : Nat} {post : Option Value → LX → Prop} {n : Nat} {X : LX} (hn : 146 ≤ n) (hX : Sh n X) {tv1 : Nat} {v2 : Int32} {v3 : Int32} (htv1 : tv1 < 14) (c0 : v2 = 0) (k : Ev g mX12_word d n0 nf post n 77 [some (.ref 133), some (.ref (1000 + tv1)), some (.int v2), some (.int v3)] [.int v2, .ref 133] X) : Ev g mX12_word d n0 nf post n 32 [some (.ref 133), some (.ref (1000 + tv1)), some (.int v2), some (.int v3)] [] X := by
  refine ev_iload_n dX12_word_32 rfl ?_
  refine ev_ifT (tgt := 75) dX12_word_33 (by decide) c0 ?_
  refine ev_aload_n dX12_word_75 rfl ?_
  refine ev_iload_n dX12_word_76 rfl ?_
  exact k
theorem bX12_word_41_0 {g : GG} {d n0 nf : Nat} {post : Option Value → LX → Prop} {n : Nat} {X : LX} (hn : 146 ≤ n) (hX : Sh n X) {tv1 : Nat} {v2 : Int32} {v3 : Int32} {s0 : Int32} {s1 : Int32} {j1 : Nat} (htv1 : tv1 < 14) (c0 : ¬ s1 ≤ s0) (hj1 : (X 133 10) + v3 = nI j1) (b0 : j1 < 120) (k : Ev g mX12_word d n0 nf post n 57 [some (.ref 133), some (.ref (1000 + tv1)), some (.int v2), some (.int v3)] [.int v3, .ref (1000 + tv1), .int (X 136 j1)] X) : Ev g mX12_word d n0 nf post n 41 [some (.ref 133), some (.ref (1000 + tv1)), some (.int v2), some (.int v3)] [.int s1, .int s0] X := by
  refine ev_icmpF (tgt := 75) dX12_word_41 (by decide) c0 ?_
  refine ev_aload_n dX12_word_44 rfl ?_
  refine ev_getS (q := 136) dX12_word_45 fo_12_16 (by omega) lo_133 rfl (sh_133_3 hX (by omega)) (by decide) ?_
  refine ev_aload_n dX12_word_48 rfl ?_
  refine ev_getI dX12_word_49 fo_12_131 (by omega) lo_133 rfl ?_
  refine ev_iload_n dX12_word_52 rfl ?_
  refine ev_iadd dX12_word_53 ?_
  refine ev_iald dX12_word_54 (by omega) ly_136 hj1 b0 ?_
  refine ev_aload_n dX12_word_55 rfl ?_
  refine ev_iload_n dX12_word_56 rfl ?_
  exact k
theorem bX12_word_41_1 {g : GG} {d n0 nf : Nat} {post : Option Value → LX → Prop} {n : Nat} {X : LX} (hn : 146 ≤ n) (hX : Sh n X) {tv1 : Nat} {v2 : Int32} {v3 : Int32} {s0 : Int32} {s1 : Int32} (htv1 : tv1 < 14) (c0 : s1 ≤ s0) (k : Ev g mX12_word d n0 nf post n 77 [some (.ref 133), some (.ref (1000 + tv1)), some (.int v2), some (.int v3)] [.int v2, .ref 133] X) : Ev g mX12_word d n0 nf post n 41 [some (.ref 133), some (.ref (1000 + tv1)), some (.int v2), some (.int v3)] [.int s1, .int s0] X := by
  refine ev_icmpT (tgt := 75) dX12_word_41 (by decide) c0 ?_
  refine ev_aload_n dX12_word_75 rfl ?_
  refine ev_iload_n dX12_word_76 rfl ?_
  exact k
theorem bX12_word_60_0 {g : GG} {d n0 nf : Nat} {post : Option Value → LX → Prop} {n : Nat} {X : LX} (hn : 146 ≤ n) (hX : Sh n X) {tv1 : Nat} {v2 : Int32} {v3 : Int32} {s0 : Int32} {s1 : Int32} (htv1 : tv1 < 14) (c0 : s0 = s1) (k : Ev g mX12_word d n0 nf post n 32 [some (.ref 133), some (.ref (1000 + tv1)), some (.int 1), some (.int (v3 + 1))] [] X) : Ev g mX12_word d n0 nf post n 60 [some (.ref 133), some (.ref (1000 + tv1)), some (.int v2), some (.int v3)] [.int s1, .int s0] X := by
  refine ev_icmpF (tgt := 67) dX12_word_60 (by decide) c0 ?_
  refine ev_iconst (v := 1) dX12_word_63 ki_1 ?_
  refine ev_goto (tgt := 68) dX12_word_64 (by decide) ?_
  refine ev_istore_n dX12_word_68 (by decide) ?_
  refine ev_iinc (v := v3 + 1) dX12_word_69 rfl (by rw [show Int32.ofInt 1 = 1 from ki_1]) (by decide) ?_
  refine ev_goto (tgt := 32) dX12_word_72 (by decide) ?_
  exact k
theorem bX12_word_60_1 {g : GG} {d n0 nf : Nat} {post : Option Value → LX → Prop} {n : Nat} {X : LX} (hn : 146 ≤ n) (hX : Sh n X) {tv1 : Nat} {v2 : Int32} {v3 : Int32} {s0 : Int32} {s1 : Int32} (htv1 : tv1 < 14) (c0 : ¬ s0 = s1) (k : Ev g mX12_word d n0 nf post n 32 [some (.ref 133), some (.ref (1000 + tv1)), some (.int 0), some (.int (v3 + 1))] [] X) : Ev g mX12_word d n0 nf post n 60 [some (.ref 133), some (.ref (1000 + tv1)), some (.int v2), some (.int v3)] [.int s1, .int s0] X := by
  refine ev_icmpT (tgt := 67) dX12_word_60 (by decide) c0 ?_
  refine ev_iconst (v := 0) dX12_word_67 ki_0 ?_
  refine ev_istore_n dX12_word_68 (by decide) ?_
  refine ev_iinc (v := v3 + 1) dX12_word_69 rfl (by rw [show Int32.ofInt 1 = 1 from ki_1]) (by decide) ?_
  refine ev_goto (tgt := 32) dX12_word_72 (by decide) ?_
  exact k
theorem bX12_word_80_0 {g : GG} {d n0 nf : Nat} {post : Option Value → LX → Prop} {n : Nat} {X : LX} (hn : 146 ≤ nf) (hX : Sh nf X) {tv1 : Nat} {v2 : Int32} {v3 : Int32} (htv1 : tv1 < 14) (hp : post none X) : Ev g mX12_word d n0 nf post nf 80 [some (.ref 133), some (.ref (1000 + tv1)), some (.int v2), some (.int v3)] [] X := by
  exact ev_ret dX12_word_80 rfl hp
theorem bX12_put_0_0 {g : GG} {d n0 nf : Nat} {post : Option Value → LX → Prop} {n : Nat} {X : LX} (hn : 146 ≤ nf) (hX : Sh nf X) {v1 : Int32} {j1 : Nat} (c0 : X 133 13 = 0) (hj1 : X 133 18 = nI j1) (b0 : j1 < 128) (hp : post none (lx_up (lx_up X 141 j1 v1) 133 18 ((X 133 18) + 1))) : Ev g mX12_put d n0 nf post nf 0 [some (.ref 133), some (.int v1)] [] X := by
  refine ev_aload_n dX12_put_0 rfl ?_
  refine ev_getI dX12_put_1 fo_12_140 (by omega) lo_133 rfl ?_
  refine ev_ifF (tgt := 27) dX12_put_4 (by decide) c0 ?_
  refine ev_aload_n dX12_put_7 rfl ?_
  refine ev_getS (q := 141) dX12_put_8 fo_12_37 (by omega) lo_133 rfl (sh_133_17 hX (by omega)) (by decide) ?_
  refine ev_aload_n dX12_put_11 rfl ?_
  refine ev_getI dX12_put_12 fo_12_160 (by omega) lo_133 rfl ?_
  refine ev_iload_n dX12_put_15 rfl ?_
  refine ev_iast dX12_put_16 (by omega) ly_141 hj1 b0 ?_
  have hX1 : Sh _ (lx_up X 141 j1 v1) := Sh.upA hX (by rw [ly_141]; exact (by decide : 0 < 2))
  refine ev_aload_n dX12_put_17 rfl ?_
  refine ev_dup dX12_put_18 rfl ?_
  refine ev_getI dX12_put_19 fo_12_160 (by omega) lo_133 rfl ?_
  refine ev_iconst (v := 1) dX12_put_22 ki_1 ?_
  refine ev_iadd dX12_put_23 ?_
  refine ev_putI dX12_put_24 fo_12_160 (by omega) lo_133 rfl rfl rfl ?_
  have hX2 : Sh _ (lx_up (lx_up X 141 j1 v1) 133 18 ((X 133 18) + 1)) := Sh.upF hX1 (by rw [lo_133]; decide) (by decide)
  exact ev_ret dX12_put_27 rfl hp
theorem bX12_put_0_1 {g : GG} {d n0 nf : Nat} {post : Option Value → LX → Prop} {n : Nat} {X : LX} (hn : 146 ≤ nf) (hX : Sh nf X) {v1 : Int32} (c0 : ¬ X 133 13 = 0) (hp : post none X) : Ev g mX12_put d n0 nf post nf 0 [some (.ref 133), some (.int v1)] [] X := by
  refine ev_aload_n dX12_put_0 rfl ?_
  refine ev_getI dX12_put_1 fo_12_140 (by omega) lo_133 rfl ?_
  refine ev_ifT (tgt := 27) dX12_put_4 (by decide) c0 ?_
  exact ev_ret dX12_put_27 rfl hp
theorem bX12_signHere_0_0 {g : GG} {d n0 nf : Nat} {post : Option Value → LX → Prop} {n : Nat} {X : LX} (hn : 146 ≤ n) (hX : Sh n X) {v1 : Int32} {v2 : Int32} (k : Ev g mX12_signHere d n0 nf post n 5 [some (.ref 133), some (.int v1), some (.int v2), some (.int (-1)), some (.int v1)] [] X) : Ev g mX12_signHere d n0 nf post n 0 [some (.ref 133), some (.int v1), some (.int v2), none, none] [] X := by
  refine ev_iconst (v := (-1)) dX12_signHere_0 ki_m1 ?_
  refine ev_istore_n dX12_signHere_1 (by decide) ?_
  refine ev_iload_n dX12_signHere_2 rfl ?_
  refine ev_istore dX12_signHere_3 (by decide) ?_
  exact k
theorem bX12_signHere_5_0 {g : GG} {d n0 nf : Nat} {post : Option Value → LX → Prop} {n : Nat} {X : LX} (hn : 146 ≤ n) (hX : Sh n X) {v1 : Int32} {v2 : Int32} {v3 : Int32} {v4 : Int32} (c0 : ¬ v2 < v4) (k : Ev g mX12_signHere d n0 nf post n 16 [some (.ref 133), some (.int v1), some (.int v2), some (.int v3), some (.int v4)] [.int v4, .ref 1013, .ref 133] X) : Ev g mX12_signHere d n0 nf post n 5 [some (.ref 133), some (.int v1), some (.int v2), some (.int v3), some (.int v4)] [] X := by
  refine ev_iload dX12_signHere_5 rfl ?_
  refine ev_iload_n dX12_signHere_7 rfl ?_
  refine ev_icmpF (tgt := 38) dX12_signHere_8 (by decide) c0 ?_
  refine ev_aload_n dX12_signHere_11 rfl ?_
  refine ev_ldcS (t := 13) dX12_signHere_12 sw_12_163 rfl rfl rfl ?_
  refine ev_iload dX12_signHere_14 rfl ?_
  exact k
theorem bX12_signHere_5_1 {g : GG} {d n0 nf : Nat} {post : Option Value → LX → Prop} {n : Nat} {X : LX} (hn : 146 ≤ nf) (hX : Sh nf X) {v1 : Int32} {v2 : Int32} {v3 : Int32} {v4 : Int32} (c0 : v2 < v4) (hp : post (some (.int v3)) X) : Ev g mX12_signHere d n0 nf post nf 5 [some (.ref 133), some (.int v1), some (.int v2), some (.int v3), some (.int v4)] [] X := by
  refine ev_iload dX12_signHere_5 rfl ?_
  refine ev_iload_n dX12_signHere_7 rfl ?_
  refine ev_icmpT (tgt := 38) dX12_signHere_8 (by decide) c0 ?_
  refine ev_iload_n dX12_signHere_38 rfl ?_
  exact ev_iret dX12_signHere_39 rfl rfl hp
theorem bX12_signHere_19_0 {g : GG} {d n0 nf : Nat} {post : Option Value → LX → Prop} {n : Nat} {X : LX} (hn : 146 ≤ n) (hX : Sh n X) {v1 : Int32} {v2 : Int32} {v3 : Int32} {v4 : Int32} {s1 : Int32} (k : Ev g mX12_signHere d n0 nf post n 19 [some (.ref 133), some (.int v1), some (.int v2), some (.int v3), some (.int v4)] [.int s1, .ref 133] X) : Ev g mX12_signHere d n0 nf post n 19 [some (.ref 133), some (.int v1), some (.int v2), some (.int v3), some (.int v4)] [.int s1, .ref 133] X := by
  exact k
theorem bX12_signHere_22_0 {g : GG} {d n0 nf : Nat} {post : Option Value → LX → Prop} {n : Nat} {X : LX} (hn : 146 ≤ n) (hX : Sh n X) {v1 : Int32} {v2 : Int32} {v3 : Int32} {v4 : Int32} {s0 : Int32} (c0 : ¬ s0 = 0) (k : Ev g mX12_signHere d n0 nf post n 5 [some (.ref 133), some (.int v1), some (.int v2), some (.int v4), some (.int (v4 + 1))] [] X) : Ev g mX12_signHere d n0 nf post n 22 [some (.ref 133), some (.int v1), some (.int v2), some (.int v3), some (.int v4)] [.int s0] X := by
  refine ev_ifF (tgt := 30) dX12_signHere_22 (by decide) c0 ?_
  refine ev_iload dX12_signHere_25 rfl ?_
  refine ev_goto (tgt := 31) dX12_signHere_27 (by decide) ?_
  refine ev_istore_n dX12_signHere_31 (by decide) ?_
  refine ev_iinc (v := v4 + 1) dX12_signHere_32 rfl (by rw [show Int32.ofInt 1 = 1 from ki_1]) (by decide) ?_
  refine ev_goto (tgt := 5) dX12_signHere_35 (by decide) ?_
  exact k
theorem bX12_signHere_22_1 {g : GG} {d n0 nf : Nat} {post : Option Value → LX → Prop} {n : Nat} {X : LX} (hn : 146 ≤ n) (hX : Sh n X) {v1 : Int32} {v2 : Int32} {v3 : Int32} {v4 : Int32} {s0 : Int32} (c0 : s0 = 0) (k : Ev g mX12_signHere d n0 nf post n 5 [some (.ref 133), some (.int v1), some (.int v2), some (.int v3), some (.int (v4 + 1))] [] X) : Ev g mX12_signHere d n0 nf post n 22 [some (.ref 133), some (.int v1), some (.int v2), some (.int v3), some (.int v4)] [.int s0] X := by
  refine ev_ifT (tgt := 30) dX12_signHere_22 (by decide) c0 ?_
  refine ev_iload_n dX12_signHere_30 rfl ?_
  refine ev_istore_n dX12_signHere_31 (by decide) ?_
  refine ev_iinc (v := v4 + 1) dX12_signHere_32 rfl (by rw [show Int32.ofInt 1 = 1 from ki_1]) (by decide) ?_
  refine ev_goto (tgt := 5) dX12_signHere_35 (by decide) ?_
  exact k
theorem bX12_part__0_0 {g : GG} {d n0 nf : Nat} {post : Option Value → LX → Prop} {n : Nat} {X : LX} (hn : 146 ≤ nf) (hX : Sh nf X)  (c0 : ¬ X 133 13 = 0) (hp : post none X) : Ev g mX12_part_ d n0 nf post nf 0 [some (.ref 133), none, none] [] X := by
  refine ev_aload_n dX12_part__0 rfl ?_
  refine ev_getI dX12_part__1 fo_12_140 (by omega) lo_133 rfl ?_
  refine ev_ifF (tgt := 8) dX12_part__4 (by decide) c0 ?_
  exact ev_ret dX12_part__7 rfl hp
theorem bX12_part__0_1 {g : GG} {d n0 nf : Nat} {post : Option Value → LX → Prop} {n : Nat} {X : LX} (hn : 146 ≤ n) (hX : Sh n X)  (c0 : X 133 13 = 0) (c1 : X 133 12 = 2) (k : Ev g mX12_part_ d n0 nf post n 23 [some (.ref 133), some (.int 0), some (.int (X 133 10))] [] X) : Ev g mX12_part_ d n0 nf post n 0 [some (.ref 133), none, none] [] X := by
  refine ev_aload_n dX12_part__0 rfl ?_
  refine ev_getI dX12_part__1 fo_12_140 (by omega) lo_133 rfl ?_
  refine ev_ifT (tgt := 8) dX12_part__4 (by decide) c0 ?_
  refine ev_aload_n dX12_part__8 rfl ?_
  refine ev_getI dX12_part__9 fo_12_125 (by omega) lo_133 rfl ?_
  refine ev_iconst (v := 2) dX12_part__12 ki_2 ?_
  refine ev_icmpF (tgt := 74) dX12_part__13 (by decide) c1 ?_
  refine ev_iconst (v := 0) dX12_part__16 ki_0 ?_
  refine ev_istore_n dX12_part__17 (by decide) ?_
  refine ev_aload_n dX12_part__18 rfl ?_
  refine ev_getI dX12_part__19 fo_12_131 (by omega) lo_133 rfl ?_
  refine ev_istore_n dX12_part__22 (by decide) ?_
  exact k
theorem bX12_part__0_2 {g : GG} {d n0 nf : Nat} {post : Option Value → LX → Prop} {n : Nat} {X : LX} (hn : 146 ≤ n) (hX : Sh n X) {t1 : Nat} {j2 : Nat} (c0 : X 133 13 = 0) (c1 : ¬ X 133 12 = 2) (c2 : X 133 12 = 1) (c3 : (X 133 11) - (X 133 10) = 1) (htt1 : t1 < 14) (hxt1 : X 133 16 = rE (1000 + t1)) (hj2 : X 133 10 = nI j2) (b0 : j2 < 120) (k : Ev g mX12_part_ d n0 nf post n 108 [some (.ref 133), none, none] [.int (X 136 j2), .ref (1000 + t1)] X) : Ev g mX12_part_ d n0 nf post n 0 [some (.ref 133), none, none] [] X := by
  refine ev_aload_n dX12_part__0 rfl ?_
  refine ev_getI dX12_part__1 fo_12_140 (by omega) lo_133 rfl ?_
  refine ev_ifT (tgt := 8) dX12_part__4 (by decide) c0 ?_
  refine ev_aload_n dX12_part__8 rfl ?_
  refine ev_getI dX12_part__9 fo_12_125 (by omega) lo_133 rfl ?_
  refine ev_iconst (v := 2) dX12_part__12 ki_2 ?_
  refine ev_icmpT (tgt := 74) dX12_part__13 (by decide) c1 ?_
  refine ev_aload_n dX12_part__74 rfl ?_
  refine ev_getI dX12_part__75 fo_12_125 (by omega) lo_133 rfl ?_
  refine ev_iconst (v := 1) dX12_part__78 ki_1 ?_
  refine ev_icmpF (tgt := 154) dX12_part__79 (by decide) c2 ?_
  refine ev_aload_n dX12_part__82 rfl ?_
  refine ev_getI dX12_part__83 fo_12_128 (by omega) lo_133 rfl ?_
  refine ev_aload_n dX12_part__86 rfl ?_
  refine ev_getI dX12_part__87 fo_12_131 (by omega) lo_133 rfl ?_
  refine ev_isub dX12_part__90 ?_
  refine ev_iconst (v := 1) dX12_part__91 ki_1 ?_
  refine ev_icmpF (tgt := 154) dX12_part__92 (by decide) c3 ?_
  refine ev_aload_n dX12_part__95 rfl ?_
  refine ev_getS (q := 1000 + t1) dX12_part__96 fo_12_33 (by omega) lo_133 rfl hxt1 (by omega) ?_
  refine ev_aload_n dX12_part__99 rfl ?_
  refine ev_getS (q := 136) dX12_part__100 fo_12_16 (by omega) lo_133 rfl (sh_133_3 hX (by omega)) (by decide) ?_
  refine ev_aload_n dX12_part__103 rfl ?_
  refine ev_getI dX12_part__104 fo_12_131 (by omega) lo_133 rfl ?_
  refine ev_iald dX12_part__107 (by omega) ly_136 hj2 b0 ?_
  exact k
theorem bX12_part__0_3 {g : GG} {d n0 nf : Nat} {post : Option Value → LX → Prop} {n : Nat} {X : LX} (hn : 146 ≤ n) (hX : Sh n X)  (c0 : X 133 13 = 0) (c1 : ¬ X 133 12 = 2) (c2 : X 133 12 = 1) (c3 : ¬ (X 133 11) - (X 133 10) = 1) (k : Ev g mX12_part_ d n0 nf post n 157 [some (.ref 133), none, none] [.int 33, .ref 133] X) : Ev g mX12_part_ d n0 nf post n 0 [some (.ref 133), none, none] [] X := by
  refine ev_aload_n dX12_part__0 rfl ?_
  refine ev_getI dX12_part__1 fo_12_140 (by omega) lo_133 rfl ?_
  refine ev_ifT (tgt := 8) dX12_part__4 (by decide) c0 ?_
  refine ev_aload_n dX12_part__8 rfl ?_
  refine ev_getI dX12_part__9 fo_12_125 (by omega) lo_133 rfl ?_
  refine ev_iconst (v := 2) dX12_part__12 ki_2 ?_
  refine ev_icmpT (tgt := 74) dX12_part__13 (by decide) c1 ?_
  refine ev_aload_n dX12_part__74 rfl ?_
  refine ev_getI dX12_part__75 fo_12_125 (by omega) lo_133 rfl ?_
  refine ev_iconst (v := 1) dX12_part__78 ki_1 ?_
  refine ev_icmpF (tgt := 154) dX12_part__79 (by decide) c2 ?_
  refine ev_aload_n dX12_part__82 rfl ?_
  refine ev_getI dX12_part__83 fo_12_128 (by omega) lo_133 rfl ?_
  refine ev_aload_n dX12_part__86 rfl ?_
  refine ev_getI dX12_part__87 fo_12_131 (by omega) lo_133 rfl ?_
  refine ev_isub dX12_part__90 ?_
  refine ev_iconst (v := 1) dX12_part__91 ki_1 ?_
  refine ev_icmpT (tgt := 154) dX12_part__92 (by decide) c3 ?_
  refine ev_aload_n dX12_part__154 rfl ?_
  refine ev_bipush (v := 33) dX12_part__155 kb_33 ?_
  exact k
theorem bX12_part__0_4 {g : GG} {d n0 nf : Nat} {post : Option Value → LX → Prop} {n : Nat} {X : LX} (hn : 146 ≤ n) (hX : Sh n X)  (c0 : X 133 13 = 0) (c1 : ¬ X 133 12 = 2) (c2 : ¬ X 133 12 = 1) (k : Ev g mX12_part_ d n0 nf post n 157 [some (.ref 133), none, none] [.int 33, .ref 133] X) : Ev g mX12_part_ d n0 nf post n 0 [some (.ref 133), none, none] [] X := by
  refine ev_aload_n dX12_part__0 rfl ?_
  refine ev_getI dX12_part__1 fo_12_140 (by omega) lo_133 rfl ?_
  refine ev_ifT (tgt := 8) dX12_part__4 (by decide) c0 ?_
  refine ev_aload_n dX12_part__8 rfl ?_
  refine ev_getI dX12_part__9 fo_12_125 (by omega) lo_133 rfl ?_
  refine ev_iconst (v := 2) dX12_part__12 ki_2 ?_
  refine ev_icmpT (tgt := 74) dX12_part__13 (by decide) c1 ?_
  refine ev_aload_n dX12_part__74 rfl ?_
  refine ev_getI dX12_part__75 fo_12_125 (by omega) lo_133 rfl ?_
  refine ev_iconst (v := 1) dX12_part__78 ki_1 ?_
  refine ev_icmpT (tgt := 154) dX12_part__79 (by decide) c2 ?_
  refine ev_aload_n dX12_part__154 rfl ?_
  refine ev_bipush (v := 33) dX12_part__155 kb_33 ?_
  exact k
theorem bX12_part__23_0 {g : GG} {d n0 nf : Nat} {post : Option Value → LX → Prop} {n : Nat} {X : LX} (hn : 146 ≤ n) (hX : Sh n X) {v1 : Int32} {v2 : Nat} (c0 : ¬ X 133 11 ≤ nI v2) (b0 : v2 < 120) (k : Ev g mX12_part_ d n0 nf post n 23 [some (.ref 133), some (.int (((10 * v1) + (X 136 v2)) - 48)), some (.int ((nI v2) + 1))] [] X) : Ev g mX12_part_ d n0 nf post n 23 [some (.ref 133), some (.int v1), some (.int (nI v2))] [] X := by
  refine ev_iload_n dX12_part__23 rfl ?_
  refine ev_aload_n dX12_part__24 rfl ?_
  refine ev_getI dX12_part__25 fo_12_128 (by omega) lo_133 rfl ?_
  refine ev_icmpF (tgt := 52) dX12_part__28 (by decide) c0 ?_
  refine ev_bipush (v := 10) dX12_part__31 kb_10 ?_
  refine ev_iload_n dX12_part__33 rfl ?_
  refine ev_imul dX12_part__34 ?_
  refine ev_aload_n dX12_part__35 rfl ?_
  refine ev_getS (q := 136) dX12_part__36 fo_12_16 (by omega) lo_133 rfl (sh_133_3 hX (by omega)) (by decide) ?_
  refine ev_iload_n dX12_part__39 rfl ?_
  refine ev_iald dX12_part__40 (by omega) ly_136 rfl b0 ?_
  refine ev_iadd dX12_part__41 ?_
  refine ev_bipush (v := 48) dX12_part__42 kb_48 ?_
  refine ev_isub dX12_part__44 ?_
  refine ev_istore_n dX12_part__45 (by decide) ?_
  refine ev_iinc (v := (nI v2) + 1) dX12_part__46 rfl (by rw [show Int32.ofInt 1 = 1 from ki_1]) (by decide) ?_
  refine ev_goto (tgt := 23) dX12_part__49 (by decide) ?_
  exact k
theorem bX12_part__23_1 {g : GG} {d n0 nf : Nat} {post : Option Value → LX → Prop} {n : Nat} {X : LX} (hn : 146 ≤ n) (hX : Sh n X) {v1 : Int32} {v2 : Nat} (c0 : X 133 11 ≤ nI v2) (k : Ev g mX12_part_ d n0 nf post n 54 [some (.ref 133), some (.int v1), some (.int (nI v2))] [.int v1, .ref 133] X) : Ev g mX12_part_ d n0 nf post n 23 [some (.ref 133), some (.int v1), some (.int (nI v2))] [] X := by
  refine ev_iload_n dX12_part__23 rfl ?_
  refine ev_aload_n dX12_part__24 rfl ?_
  refine ev_getI dX12_part__25 fo_12_128 (by omega) lo_133 rfl ?_
  refine ev_icmpT (tgt := 52) dX12_part__28 (by decide) c0 ?_
  refine ev_aload_n dX12_part__52 rfl ?_
  refine ev_iload_n dX12_part__53 rfl ?_
  exact k
theorem bX12_part__57_0 {g : GG} {d n0 nf : Nat} {post : Option Value → LX → Prop} {n : Nat} {X : LX} (hn : 146 ≤ n) (hX : Sh n X) {v1 : Int32} {v2 : Int32} (k : Ev g mX12_part_ d n0 nf post n 68 [some (.ref 133), some (.int v1), some (.int v2)] [.ref 133] (lx_up X 133 19 ((X 133 19) + 1))) : Ev g mX12_part_ d n0 nf post n 57 [some (.ref 133), some (.int v1), some (.int v2)] [] X := by
  refine ev_aload_n dX12_part__57 rfl ?_
  refine ev_dup dX12_part__58 rfl ?_
  refine ev_getI dX12_part__59 fo_12_172 (by omega) lo_133 rfl ?_
  refine ev_iconst (v := 1) dX12_part__62 ki_1 ?_
  refine ev_iadd dX12_part__63 ?_
  refine ev_putI dX12_part__64 fo_12_172 (by omega) lo_133 rfl rfl rfl ?_
  have hX1 : Sh _ (lx_up X 133 19 ((X 133 19) + 1)) := Sh.upF hX (by rw [lo_133]; decide) (by decide)
  refine ev_aload_n dX12_part__67 rfl ?_
  exact k
theorem bX12_part__71_0 {g : GG} {d n0 nf : Nat} {post : Option Value → LX → Prop} {n : Nat} {X : LX} (hn : 146 ≤ nf) (hX : Sh nf X) {v1 : Int32} {v2 : Int32} (hp : post none X) : Ev g mX12_part_ d n0 nf post nf 71 [some (.ref 133), some (.int v1), some (.int v2)] [] X := by
  refine ev_goto (tgt := 273) dX12_part__71 (by decide) ?_
  exact ev_ret dX12_part__273 rfl hp
theorem bX12_part__111_0 {g : GG} {d n0 nf : Nat} {post : Option Value → LX → Prop} {n : Nat} {X : LX} (hn : 146 ≤ n) (hX : Sh n X) {s0 : Int32} {t1 : Nat} {j2 : Nat} (c0 : ¬ s0 < 0) (htt1 : t1 < 14) (hxt1 : X 133 16 = rE (1000 + t1)) (hj2 : X 133 10 = nI j2) (b0 : j2 < 120) (k : Ev g mX12_part_ d n0 nf post n 130 [some (.ref 133), none, none] [.int (X 136 j2), .ref (1000 + t1), .int 100000, .ref 133] X) : Ev g mX12_part_ d n0 nf post n 111 [some (.ref 133), none, none] [.int s0] X := by
  refine ev_ifF (tgt := 154) dX12_part__111 (by decide) c0 ?_
  refine ev_aload_n dX12_part__114 rfl ?_
  refine ev_ldc (v := 100000) dX12_part__115 kw_12_178 ?_
  refine ev_aload_n dX12_part__117 rfl ?_
  refine ev_getS (q := 1000 + t1) dX12_part__118 fo_12_33 (by omega) lo_133 rfl hxt1 (by omega) ?_
  refine ev_aload_n dX12_part__121 rfl ?_
  refine ev_getS (q := 136) dX12_part__122 fo_12_16 (by omega) lo_133 rfl (sh_133_3 hX (by omega)) (by decide) ?_
  refine ev_aload_n dX12_part__125 rfl ?_
  refine ev_getI dX12_part__126 fo_12_131 (by omega) lo_133 rfl ?_
  refine ev_iald dX12_part__129 (by omega) ly_136 hj2 b0 ?_
  exact k
theorem bX12_part__111_1 {g : GG} {d n0 nf : Nat} {post : Option Value → LX → Prop} {n : Nat} {X : LX} (hn : 146 ≤ n) (hX : Sh n X) {s0 : Int32} (c0 : s0 < 0) (k : Ev g mX12_part_ d n0 nf post n 157 [some (.ref 133), none, none] [.int 33, .ref 133] X) : Ev g mX12_part_ d n0 nf post n 111 [some (.ref 133), none, none] [.int s0] X := by
  refine ev_ifT (tgt := 154) dX12_part__111 (by decide) c0 ?_
  refine ev_aload_n dX12_part__154 rfl ?_
  refine ev_bipush (v := 33) dX12_part__155 kb_33 ?_
  exact k
theorem bX12_part__133_0 {g : GG} {d n0 nf : Nat} {post : Option Value → LX → Prop} {n : Nat} {X : LX} (hn : 146 ≤ n) (hX : Sh n X) {s1 : Int32} {s2 : Int32} (k : Ev g mX12_part_ d n0 nf post n 134 [some (.ref 133), none, none] [.int (s1 + s2), .ref 133] X) : Ev g mX12_part_ d n0 nf post n 133 [some (.ref 133), none, none] [.int s2, .int s1, .ref 133] X := by
  refine ev_iadd dX12_part__133 ?_
  exact k
theorem bX12_part__137_0 {g : GG} {d n0 nf : Nat} {post : Option Value → LX → Prop} {n : Nat} {X : LX} (hn : 146 ≤ n) (hX : Sh n X)  (k : Ev g mX12_part_ d n0 nf post n 148 [some (.ref 133), none, none] [.ref 133] (lx_up X 133 19 ((X 133 19) + 1))) : Ev g mX12_part_ d n0 nf post n 137 [some (.ref 133), none, none] [] X := by
  refine ev_aload_n dX12_part__137 rfl ?_
  refine ev_dup dX12_part__138 rfl ?_
  refine ev_getI dX12_part__139 fo_12_172 (by omega) lo_133 rfl ?_
  refine ev_iconst (v := 1) dX12_part__142 ki_1 ?_
  refine ev_iadd dX12_part__143 ?_
  refine ev_putI dX12_part__144 fo_12_172 (by omega) lo_133 rfl rfl rfl ?_
  have hX1 : Sh _ (lx_up X 133 19 ((X 133 19) + 1)) := Sh.upF hX (by rw [lo_133]; decide) (by decide)
  refine ev_aload_n dX12_part__147 rfl ?_
  exact k
theorem bX12_part__151_0 {g : GG} {d n0 nf : Nat} {post : Option Value → LX → Prop} {n : Nat} {X : LX} (hn : 146 ≤ nf) (hX : Sh nf X)  (hp : post none X) : Ev g mX12_part_ d n0 nf post nf 151 [some (.ref 133), none, none] [] X := by
  refine ev_goto (tgt := 273) dX12_part__151 (by decide) ?_
  exact ev_ret dX12_part__273 rfl hp
theorem bX12_part__160_0 {g : GG} {d n0 nf : Nat} {post : Option Value → LX → Prop} {n : Nat} {X : LX} (hn : 146 ≤ n) (hX : Sh n X) {s0 : Int32} (c0 : ¬ s0 = 0) (c1 : ¬ 8 ≤ X 133 15) (k : Ev g mX12_part_ d n0 nf post n 183 [some (.ref 133), none, none] [.ref 133] (lx_up X 133 15 ((X 133 15) + 1))) : Ev g mX12_part_ d n0 nf post n 160 [some (.ref 133), none, none] [.int s0] X := by
  refine ev_ifF (tgt := 209) dX12_part__160 (by decide) c0 ?_
  refine ev_aload_n dX12_part__163 rfl ?_
  refine ev_getI dX12_part__164 fo_12_179 (by omega) lo_133 rfl ?_
  refine ev_bipush (v := 8) dX12_part__167 kb_8 ?_
  refine ev_icmpF (tgt := 209) dX12_part__169 (by decide) c1 ?_
  refine ev_aload_n dX12_part__172 rfl ?_
  refine ev_dup dX12_part__173 rfl ?_
  refine ev_getI dX12_part__174 fo_12_179 (by omega) lo_133 rfl ?_
  refine ev_iconst (v := 1) dX12_part__177 ki_1 ?_
  refine ev_iadd dX12_part__178 ?_
  refine ev_putI dX12_part__179 fo_12_179 (by omega) lo_133 rfl rfl rfl ?_
  have hX1 : Sh _ (lx_up X 133 15 ((X 133 15) + 1)) := Sh.upF hX (by rw [lo_133]; decide) (by decide)
  refine ev_aload_n dX12_part__182 rfl ?_
  exact k
theorem bX12_part__160_1 {g : GG} {d n0 nf : Nat} {post : Option Value → LX → Prop} {n : Nat} {X : LX} (hn : 146 ≤ n) (hX : Sh n X) {s0 : Int32} (c0 : ¬ s0 = 0) (c1 : 8 ≤ X 133 15) (k : Ev g mX12_part_ d n0 nf post n 212 [some (.ref 133), none, none] [.int 40, .ref 133] X) : Ev g mX12_part_ d n0 nf post n 160 [some (.ref 133), none, none] [.int s0] X := by
  refine ev_ifF (tgt := 209) dX12_part__160 (by decide) c0 ?_
  refine ev_aload_n dX12_part__163 rfl ?_
  refine ev_getI dX12_part__164 fo_12_179 (by omega) lo_133 rfl ?_
  refine ev_bipush (v := 8) dX12_part__167 kb_8 ?_
  refine ev_icmpT (tgt := 209) dX12_part__169 (by decide) c1 ?_
  refine ev_aload_n dX12_part__209 rfl ?_
  refine ev_bipush (v := 40) dX12_part__210 kb_40 ?_
  exact k
theorem bX12_part__160_2 {g : GG} {d n0 nf : Nat} {post : Option Value → LX → Prop} {n : Nat} {X : LX} (hn : 146 ≤ n) (hX : Sh n X) {s0 : Int32} (c0 : s0 = 0) (k : Ev g mX12_part_ d n0 nf post n 212 [some (.ref 133), none, none] [.int 40, .ref 133] X) : Ev g mX12_part_ d n0 nf post n 160 [some (.ref 133), none, none] [.int s0] X := by
  refine ev_ifT (tgt := 209) dX12_part__160 (by decide) c0 ?_
  refine ev_aload_n dX12_part__209 rfl ?_
  refine ev_bipush (v := 40) dX12_part__210 kb_40 ?_
  exact k
theorem bX12_part__186_0 {g : GG} {d n0 nf : Nat} {post : Option Value → LX → Prop} {n : Nat} {X : LX} (hn : 146 ≤ n) (hX : Sh n X)  (k : Ev g mX12_part_ d n0 nf post n 187 [some (.ref 133), none, none] [.ref 133] X) : Ev g mX12_part_ d n0 nf post n 186 [some (.ref 133), none, none] [] X := by
  refine ev_aload_n dX12_part__186 rfl ?_
  exact k
theorem bX12_part__190_0 {g : GG} {d n0 nf : Nat} {post : Option Value → LX → Prop} {n : Nat} {X : LX} (hn : 146 ≤ n) (hX : Sh n X)  (k : Ev g mX12_part_ d n0 nf post n 203 [some (.ref 133), none, none] [.int 200009, .ref 133] (lx_up X 133 15 ((X 133 15) - 1))) : Ev g mX12_part_ d n0 nf post n 190 [some (.ref 133), none, none] [] X := by
  refine ev_aload_n dX12_part__190 rfl ?_
  refine ev_dup dX12_part__191 rfl ?_
  refine ev_getI dX12_part__192 fo_12_179 (by omega) lo_133 rfl ?_
  refine ev_iconst (v := 1) dX12_part__195 ki_1 ?_
  refine ev_isub dX12_part__196 ?_
  refine ev_putI dX12_part__197 fo_12_179 (by omega) lo_133 rfl rfl rfl ?_
  have hX1 : Sh _ (lx_up X 133 15 ((X 133 15) - 1)) := Sh.upF hX (by rw [lo_133]; decide) (by decide)
  refine ev_aload_n dX12_part__200 rfl ?_
  refine ev_ldc (v := 200009) dX12_part__201 kw_12_185 ?_
  exact k
theorem bX12_part__206_0 {g : GG} {d n0 nf : Nat} {post : Option Value → LX → Prop} {n : Nat} {X : LX} (hn : 146 ≤ nf) (hX : Sh nf X)  (hp : post none X) : Ev g mX12_part_ d n0 nf post nf 206 [some (.ref 133), none, none] [] X := by
  refine ev_goto (tgt := 273) dX12_part__206 (by decide) ?_
  exact ev_ret dX12_part__273 rfl hp
theorem bX12_part__215_0 {g : GG} {d n0 nf : Nat} {post : Option Value → LX → Prop} {n : Nat} {X : LX} (hn : 146 ≤ n) (hX : Sh n X) {s0 : Int32} (c0 : ¬ s0 = 0) (c1 : ¬ 8 ≤ X 133 14) (k : Ev g mX12_part_ d n0 nf post n 238 [some (.ref 133), none, none] [.ref 133] (lx_up X 133 14 ((X 133 14) + 1))) : Ev g mX12_part_ d n0 nf post n 215 [some (.ref 133), none, none] [.int s0] X := by
  refine ev_ifF (tgt := 268) dX12_part__215 (by decide) c0 ?_
  refine ev_aload_n dX12_part__218 rfl ?_
  refine ev_getI dX12_part__219 fo_12_186 (by omega) lo_133 rfl ?_
  refine ev_bipush (v := 8) dX12_part__222 kb_8 ?_
  refine ev_icmpF (tgt := 268) dX12_part__224 (by decide) c1 ?_
  refine ev_aload_n dX12_part__227 rfl ?_
  refine ev_dup dX12_part__228 rfl ?_
  refine ev_getI dX12_part__229 fo_12_186 (by omega) lo_133 rfl ?_
  refine ev_iconst (v := 1) dX12_part__232 ki_1 ?_
  refine ev_iadd dX12_part__233 ?_
  refine ev_putI dX12_part__234 fo_12_186 (by omega) lo_133 rfl rfl rfl ?_
  have hX1 : Sh _ (lx_up X 133 14 ((X 133 14) + 1)) := Sh.upF hX (by rw [lo_133]; decide) (by decide)
  refine ev_aload_n dX12_part__237 rfl ?_
  exact k
theorem bX12_part__215_1 {g : GG} {d n0 nf : Nat} {post : Option Value → LX → Prop} {n : Nat} {X : LX} (hn : 146 ≤ nf) (hX : Sh nf X) {s0 : Int32} (c0 : ¬ s0 = 0) (c1 : 8 ≤ X 133 14) (hp : post none (lx_up X 133 13 1)) : Ev g mX12_part_ d n0 nf post nf 215 [some (.ref 133), none, none] [.int s0] X := by
  refine ev_ifF (tgt := 268) dX12_part__215 (by decide) c0 ?_
  refine ev_aload_n dX12_part__218 rfl ?_
  refine ev_getI dX12_part__219 fo_12_186 (by omega) lo_133 rfl ?_
  refine ev_bipush (v := 8) dX12_part__222 kb_8 ?_
  refine ev_icmpT (tgt := 268) dX12_part__224 (by decide) c1 ?_
  refine ev_aload_n dX12_part__268 rfl ?_
  refine ev_iconst (v := 1) dX12_part__269 ki_1 ?_
  refine ev_putZ dX12_part__270 fo_12_140 (by omega) lo_133 rfl rfl rfl (by decide) ?_
  have hX1 : Sh _ (lx_up X 133 13 1) := Sh.upF hX (by rw [lo_133]; decide) (by decide)
  exact ev_ret dX12_part__273 rfl hp
theorem bX12_part__215_2 {g : GG} {d n0 nf : Nat} {post : Option Value → LX → Prop} {n : Nat} {X : LX} (hn : 146 ≤ nf) (hX : Sh nf X) {s0 : Int32} (c0 : s0 = 0) (hp : post none (lx_up X 133 13 1)) : Ev g mX12_part_ d n0 nf post nf 215 [some (.ref 133), none, none] [.int s0] X := by
  refine ev_ifT (tgt := 268) dX12_part__215 (by decide) c0 ?_
  refine ev_aload_n dX12_part__268 rfl ?_
  refine ev_iconst (v := 1) dX12_part__269 ki_1 ?_
  refine ev_putZ dX12_part__270 fo_12_140 (by omega) lo_133 rfl rfl rfl (by decide) ?_
  have hX1 : Sh _ (lx_up X 133 13 1) := Sh.upF hX (by rw [lo_133]; decide) (by decide)
  exact ev_ret dX12_part__273 rfl hp
theorem bX12_part__241_0 {g : GG} {d n0 nf : Nat} {post : Option Value → LX → Prop} {n : Nat} {X : LX} (hn : 146 ≤ n) (hX : Sh n X)  (k : Ev g mX12_part_ d n0 nf post n 242 [some (.ref 133), none, none] [.ref 133] X) : Ev g mX12_part_ d n0 nf post n 241 [some (.ref 133), none, none] [] X := by
  refine ev_aload_n dX12_part__241 rfl ?_
  exact k
theorem bX12_part__245_0 {g : GG} {d n0 nf : Nat} {post : Option Value → LX → Prop} {n : Nat} {X : LX} (hn : 146 ≤ n) (hX : Sh n X)  (k : Ev g mX12_part_ d n0 nf post n 249 [some (.ref 133), none, none] [.int 41, .ref 133, .ref 133] X) : Ev g mX12_part_ d n0 nf post n 245 [some (.ref 133), none, none] [] X := by
  refine ev_aload_n dX12_part__245 rfl ?_
  refine ev_aload_n dX12_part__246 rfl ?_
  refine ev_bipush (v := 41) dX12_part__247 kb_41 ?_
  exact k
theorem bX12_part__252_0 {g : GG} {d n0 nf : Nat} {post : Option Value → LX → Prop} {n : Nat} {X : LX} (hn : 146 ≤ n) (hX : Sh n X) {s1 : Int32} (k : Ev g mX12_part_ d n0 nf post n 252 [some (.ref 133), none, none] [.int s1, .ref 133] X) : Ev g mX12_part_ d n0 nf post n 252 [some (.ref 133), none, none] [.int s1, .ref 133] X := by
  exact k
theorem bX12_part__255_0 {g : GG} {d n0 nf : Nat} {post : Option Value → LX → Prop} {n : Nat} {X : LX} (hn : 146 ≤ nf) (hX : Sh nf X)  (hp : post none (lx_up X 133 14 ((X 133 14) - 1))) : Ev g mX12_part_ d n0 nf post nf 255 [some (.ref 133), none, none] [] X := by
  refine ev_aload_n dX12_part__255 rfl ?_
  refine ev_dup dX12_part__256 rfl ?_
  refine ev_getI dX12_part__257 fo_12_186 (by omega) lo_133 rfl ?_
  refine ev_iconst (v := 1) dX12_part__260 ki_1 ?_
  refine ev_isub dX12_part__261 ?_
  refine ev_putI dX12_part__262 fo_12_186 (by omega) lo_133 rfl rfl rfl ?_
  have hX1 : Sh _ (lx_up X 133 14 ((X 133 14) - 1)) := Sh.upF hX (by rw [lo_133]; decide) (by decide)
  refine ev_goto (tgt := 273) dX12_part__265 (by decide) ?_
  exact ev_ret dX12_part__273 rfl hp
theorem bX12_term_0_0 {g : GG} {d n0 nf : Nat} {post : Option Value → LX → Prop} {n : Nat} {X : LX} (hn : 146 ≤ n) (hX : Sh n X)  (k : Ev g mX12_term d n0 nf post n 1 [some (.ref 133), none] [.ref 133] X) : Ev g mX12_term d n0 nf post n 0 [some (.ref 133), none] [] X := by
  refine ev_aload_n dX12_term_0 rfl ?_
  exact k
theorem bX12_term_4_0 {g : GG} {d n0 nf : Nat} {post : Option Value → LX → Prop} {n : Nat} {X : LX} (hn : 146 ≤ n) (hX : Sh n X)  (k : Ev g mX12_term d n0 nf post n 9 [some (.ref 133), none] [.int 8, .int 7, .ref 133] X) : Ev g mX12_term d n0 nf post n 4 [some (.ref 133), none] [] X := by
  refine ev_aload_n dX12_term_4 rfl ?_
  refine ev_bipush (v := 7) dX12_term_5 kb_7 ?_
  refine ev_bipush (v := 8) dX12_term_7 kb_8 ?_
  exact k
theorem bX12_term_12_0 {g : GG} {d n0 nf : Nat} {post : Option Value → LX → Prop} {n : Nat} {X : LX} (hn : 146 ≤ n) (hX : Sh n X) {s0 : Int32} (k : Ev g mX12_term d n0 nf post n 13 [some (.ref 133), some (.int s0)] [] X) : Ev g mX12_term d n0 nf post n 12 [some (.ref 133), none] [.int s0] X := by
  refine ev_istore_n dX12_term_12 (by decide) ?_
  exact k
theorem bX12_term_13_0 {g : GG} {d n0 nf : Nat} {post : Option Value → LX → Prop} {n : Nat} {X : LX} (hn : 146 ≤ n) (hX : Sh n X) {v1 : Int32} (c0 : ¬ v1 < 0) (k : Ev g mX12_term d n0 nf post n 18 [some (.ref 133), some (.int v1)] [.ref 133] X) : Ev g mX12_term d n0 nf post n 13 [some (.ref 133), some (.int v1)] [] X := by
  refine ev_iload_n dX12_term_13 rfl ?_
  refine ev_ifF (tgt := 45) dX12_term_14 (by decide) c0 ?_
  refine ev_aload_n dX12_term_17 rfl ?_
  exact k
theorem bX12_term_13_1 {g : GG} {d n0 nf : Nat} {post : Option Value → LX → Prop} {n : Nat} {X : LX} (hn : 146 ≤ nf) (hX : Sh nf X) {v1 : Int32} (c0 : v1 < 0) (hp : post none X) : Ev g mX12_term d n0 nf post nf 13 [some (.ref 133), some (.int v1)] [] X := by
  refine ev_iload_n dX12_term_13 rfl ?_
  refine ev_ifT (tgt := 45) dX12_term_14 (by decide) c0 ?_
  exact ev_ret dX12_term_45 rfl hp
theorem bX12_term_21_0 {g : GG} {d n0 nf : Nat} {post : Option Value → LX → Prop} {n : Nat} {X : LX} (hn : 146 ≤ n) (hX : Sh n X) {v1 : Int32} (k : Ev g mX12_term d n0 nf post n 22 [some (.ref 133), some (.int v1)] [.ref 133] X) : Ev g mX12_term d n0 nf post n 21 [some (.ref 133), some (.int v1)] [] X := by
  refine ev_aload_n dX12_term_21 rfl ?_
  exact k
theorem bX12_term_25_0 {g : GG} {d n0 nf : Nat} {post : Option Value → LX → Prop} {n : Nat} {X : LX} (hn : 146 ≤ n) (hX : Sh n X) {v1 : Int32} (k : Ev g mX12_term d n0 nf post n 30 [some (.ref 133), some (.int v1)] [.int (200000 + v1), .ref 133] X) : Ev g mX12_term d n0 nf post n 25 [some (.ref 133), some (.int v1)] [] X := by
  refine ev_aload_n dX12_term_25 rfl ?_
  refine ev_ldc (v := 200000) dX12_term_26 kw_12_195 ?_
  refine ev_iload_n dX12_term_28 rfl ?_
  refine ev_iadd dX12_term_29 ?_
  exact k
theorem bX12_term_33_0 {g : GG} {d n0 nf : Nat} {post : Option Value → LX → Prop} {n : Nat} {X : LX} (hn : 146 ≤ n) (hX : Sh n X) {v1 : Int32} (k : Ev g mX12_term d n0 nf post n 38 [some (.ref 133), some (.int v1)] [.int 8, .int 7, .ref 133] X) : Ev g mX12_term d n0 nf post n 33 [some (.ref 133), some (.int v1)] [] X := by
  refine ev_aload_n dX12_term_33 rfl ?_
  refine ev_bipush (v := 7) dX12_term_34 kb_7 ?_
  refine ev_bipush (v := 8) dX12_term_36 kb_8 ?_
  exact k
theorem bX12_term_41_0 {g : GG} {d n0 nf : Nat} {post : Option Value → LX → Prop} {n : Nat} {X : LX} (hn : 146 ≤ n) (hX : Sh n X) {v1 : Int32} {s0 : Int32} (k : Ev g mX12_term d n0 nf post n 13 [some (.ref 133), some (.int s0)] [] X) : Ev g mX12_term d n0 nf post n 41 [some (.ref 133), some (.int v1)] [.int s0] X := by
  refine ev_istore_n dX12_term_41 (by decide) ?_
  refine ev_goto (tgt := 13) dX12_term_42 (by decide) ?_
  exact k
theorem bX12_sum_0_0 {g : GG} {d n0 nf : Nat} {post : Option Value → LX → Prop} {n : Nat} {X : LX} (hn : 146 ≤ n) (hX : Sh n X)  (k : Ev g mX12_sum d n0 nf post n 1 [some (.ref 133), none] [.ref 133] X) : Ev g mX12_sum d n0 nf post n 0 [some (.ref 133), none] [] X := by
  refine ev_aload_n dX12_sum_0 rfl ?_
  exact k
theorem bX12_sum_4_0 {g : GG} {d n0 nf : Nat} {post : Option Value → LX → Prop} {n : Nat} {X : LX} (hn : 146 ≤ n) (hX : Sh n X)  (k : Ev g mX12_sum d n0 nf post n 8 [some (.ref 133), none] [.int 6, .int 5, .ref 133] X) : Ev g mX12_sum d n0 nf post n 4 [some (.ref 133), none] [] X := by
  refine ev_aload_n dX12_sum_4 rfl ?_
  refine ev_iconst (v := 5) dX12_sum_5 ki_5 ?_
  refine ev_bipush (v := 6) dX12_sum_6 kb_6 ?_
  exact k
theorem bX12_sum_11_0 {g : GG} {d n0 nf : Nat} {post : Option Value → LX → Prop} {n : Nat} {X : LX} (hn : 146 ≤ n) (hX : Sh n X) {s0 : Int32} (k : Ev g mX12_sum d n0 nf post n 12 [some (.ref 133), some (.int s0)] [] X) : Ev g mX12_sum d n0 nf post n 11 [some (.ref 133), none] [.int s0] X := by
  refine ev_istore_n dX12_sum_11 (by decide) ?_
  exact k
theorem bX12_sum_12_0 {g : GG} {d n0 nf : Nat} {post : Option Value → LX → Prop} {n : Nat} {X : LX} (hn : 146 ≤ n) (hX : Sh n X) {v1 : Int32} (c0 : ¬ v1 < 0) (k : Ev g mX12_sum d n0 nf post n 17 [some (.ref 133), some (.int v1)] [.ref 133] X) : Ev g mX12_sum d n0 nf post n 12 [some (.ref 133), some (.int v1)] [] X := by
  refine ev_iload_n dX12_sum_12 rfl ?_
  refine ev_ifF (tgt := 43) dX12_sum_13 (by decide) c0 ?_
  refine ev_aload_n dX12_sum_16 rfl ?_
  exact k
theorem bX12_sum_12_1 {g : GG} {d n0 nf : Nat} {post : Option Value → LX → Prop} {n : Nat} {X : LX} (hn : 146 ≤ nf) (hX : Sh nf X) {v1 : Int32} (c0 : v1 < 0) (hp : post none X) : Ev g mX12_sum d n0 nf post nf 12 [some (.ref 133), some (.int v1)] [] X := by
  refine ev_iload_n dX12_sum_12 rfl ?_
  refine ev_ifT (tgt := 43) dX12_sum_13 (by decide) c0 ?_
  exact ev_ret dX12_sum_43 rfl hp
theorem bX12_sum_20_0 {g : GG} {d n0 nf : Nat} {post : Option Value → LX → Prop} {n : Nat} {X : LX} (hn : 146 ≤ n) (hX : Sh n X) {v1 : Int32} (k : Ev g mX12_sum d n0 nf post n 21 [some (.ref 133), some (.int v1)] [.ref 133] X) : Ev g mX12_sum d n0 nf post n 20 [some (.ref 133), some (.int v1)] [] X := by
  refine ev_aload_n dX12_sum_20 rfl ?_
  exact k
theorem bX12_sum_24_0 {g : GG} {d n0 nf : Nat} {post : Option Value → LX → Prop} {n : Nat} {X : LX} (hn : 146 ≤ n) (hX : Sh n X) {v1 : Int32} (k : Ev g mX12_sum d n0 nf post n 29 [some (.ref 133), some (.int v1)] [.int (200000 + v1), .ref 133] X) : Ev g mX12_sum d n0 nf post n 24 [some (.ref 133), some (.int v1)] [] X := by
  refine ev_aload_n dX12_sum_24 rfl ?_
  refine ev_ldc (v := 200000) dX12_sum_25 kw_12_195 ?_
  refine ev_iload_n dX12_sum_27 rfl ?_
  refine ev_iadd dX12_sum_28 ?_
  exact k
theorem bX12_sum_32_0 {g : GG} {d n0 nf : Nat} {post : Option Value → LX → Prop} {n : Nat} {X : LX} (hn : 146 ≤ n) (hX : Sh n X) {v1 : Int32} (k : Ev g mX12_sum d n0 nf post n 36 [some (.ref 133), some (.int v1)] [.int 6, .int 5, .ref 133] X) : Ev g mX12_sum d n0 nf post n 32 [some (.ref 133), some (.int v1)] [] X := by
  refine ev_aload_n dX12_sum_32 rfl ?_
  refine ev_iconst (v := 5) dX12_sum_33 ki_5 ?_
  refine ev_bipush (v := 6) dX12_sum_34 kb_6 ?_
  exact k
theorem bX12_sum_39_0 {g : GG} {d n0 nf : Nat} {post : Option Value → LX → Prop} {n : Nat} {X : LX} (hn : 146 ≤ n) (hX : Sh n X) {v1 : Int32} {s0 : Int32} (k : Ev g mX12_sum d n0 nf post n 12 [some (.ref 133), some (.int s0)] [] X) : Ev g mX12_sum d n0 nf post n 39 [some (.ref 133), some (.int v1)] [.int s0] X := by
  refine ev_istore_n dX12_sum_39 (by decide) ?_
  refine ev_goto (tgt := 12) dX12_sum_40 (by decide) ?_
  exact k
theorem bX12_test_0_0 {g : GG} {d n0 nf : Nat} {post : Option Value → LX → Prop} {n : Nat} {X : LX} (hn : 146 ≤ n) (hX : Sh n X)  (k : Ev g mX12_test d n0 nf post n 1 [some (.ref 133), none] [.ref 133] X) : Ev g mX12_test d n0 nf post n 0 [some (.ref 133), none] [] X := by
  refine ev_aload_n dX12_test_0 rfl ?_
  exact k
theorem bX12_test_4_0 {g : GG} {d n0 nf : Nat} {post : Option Value → LX → Prop} {n : Nat} {X : LX} (hn : 146 ≤ n) (hX : Sh n X)  (k : Ev g mX12_test d n0 nf post n 7 [some (.ref 133), none] [.int 4, .int 2, .ref 133] X) : Ev g mX12_test d n0 nf post n 4 [some (.ref 133), none] [] X := by
  refine ev_aload_n dX12_test_4 rfl ?_
  refine ev_iconst (v := 2) dX12_test_5 ki_2 ?_
  refine ev_iconst (v := 4) dX12_test_6 ki_4 ?_
  exact k
theorem bX12_test_10_0 {g : GG} {d n0 nf : Nat} {post : Option Value → LX → Prop} {n : Nat} {X : LX} (hn : 146 ≤ n) (hX : Sh n X) {s0 : Int32} (c0 : ¬ s0 < 0) (k : Ev g mX12_test d n0 nf post n 16 [some (.ref 133), some (.int s0)] [.ref 133] X) : Ev g mX12_test d n0 nf post n 10 [some (.ref 133), none] [.int s0] X := by
  refine ev_istore_n dX12_test_10 (by decide) ?_
  refine ev_iload_n dX12_test_11 rfl ?_
  refine ev_ifF (tgt := 31) dX12_test_12 (by decide) c0 ?_
  refine ev_aload_n dX12_test_15 rfl ?_
  exact k
theorem bX12_test_10_1 {g : GG} {d n0 nf : Nat} {post : Option Value → LX → Prop} {n : Nat} {X : LX} (hn : 146 ≤ nf) (hX : Sh nf X) {s0 : Int32} (c0 : s0 < 0) (hp : post none X) : Ev g mX12_test d n0 nf post nf 10 [some (.ref 133), none] [.int s0] X := by
  refine ev_istore_n dX12_test_10 (by decide) ?_
  refine ev_iload_n dX12_test_11 rfl ?_
  refine ev_ifT (tgt := 31) dX12_test_12 (by decide) c0 ?_
  exact ev_ret dX12_test_31 rfl hp
theorem bX12_test_19_0 {g : GG} {d n0 nf : Nat} {post : Option Value → LX → Prop} {n : Nat} {X : LX} (hn : 146 ≤ n) (hX : Sh n X) {v1 : Int32} (k : Ev g mX12_test d n0 nf post n 20 [some (.ref 133), some (.int v1)] [.ref 133] X) : Ev g mX12_test d n0 nf post n 19 [some (.ref 133), some (.int v1)] [] X := by
  refine ev_aload_n dX12_test_19 rfl ?_
  exact k
theorem bX12_test_23_0 {g : GG} {d n0 nf : Nat} {post : Option Value → LX → Prop} {n : Nat} {X : LX} (hn : 146 ≤ n) (hX : Sh n X) {v1 : Int32} (k : Ev g mX12_test d n0 nf post n 28 [some (.ref 133), some (.int v1)] [.int (200000 + v1), .ref 133] X) : Ev g mX12_test d n0 nf post n 23 [some (.ref 133), some (.int v1)] [] X := by
  refine ev_aload_n dX12_test_23 rfl ?_
  refine ev_ldc (v := 200000) dX12_test_24 kw_12_195 ?_
  refine ev_iload_n dX12_test_26 rfl ?_
  refine ev_iadd dX12_test_27 ?_
  exact k
theorem bX12_test_31_0 {g : GG} {d n0 nf : Nat} {post : Option Value → LX → Prop} {n : Nat} {X : LX} (hn : 146 ≤ nf) (hX : Sh nf X) {v1 : Int32} (hp : post none X) : Ev g mX12_test d n0 nf post nf 31 [some (.ref 133), some (.int v1)] [] X := by
  exact ev_ret dX12_test_31 rfl hp
theorem bX12_both_0_0 {g : GG} {d n0 nf : Nat} {post : Option Value → LX → Prop} {n : Nat} {X : LX} (hn : 146 ≤ n) (hX : Sh n X)  (k : Ev g mX12_both d n0 nf post n 1 [some (.ref 133)] [.ref 133] X) : Ev g mX12_both d n0 nf post n 0 [some (.ref 133)] [] X := by
  refine ev_aload_n dX12_both_0 rfl ?_
  exact k
theorem bX12_both_4_0 {g : GG} {d n0 nf : Nat} {post : Option Value → LX → Prop} {n : Nat} {X : LX} (hn : 146 ≤ n) (hX : Sh n X)  (k : Ev g mX12_both d n0 nf post n 7 [some (.ref 133)] [.int 1, .int 1, .ref 133] X) : Ev g mX12_both d n0 nf post n 4 [some (.ref 133)] [] X := by
  refine ev_aload_n dX12_both_4 rfl ?_
  refine ev_iconst (v := 1) dX12_both_5 ki_1 ?_
  refine ev_iconst (v := 1) dX12_both_6 ki_1 ?_
  exact k
theorem bX12_both_10_0 {g : GG} {d n0 nf : Nat} {post : Option Value → LX → Prop} {n : Nat} {X : LX} (hn : 146 ≤ n) (hX : Sh n X) {s0 : Int32} (c0 : ¬ s0 < 0) (k : Ev g mX12_both d n0 nf post n 14 [some (.ref 133)] [.ref 133] X) : Ev g mX12_both d n0 nf post n 10 [some (.ref 133)] [.int s0] X := by
  refine ev_ifF (tgt := 30) dX12_both_10 (by decide) c0 ?_
  refine ev_aload_n dX12_both_13 rfl ?_
  exact k
theorem bX12_both_10_1 {g : GG} {d n0 nf : Nat} {post : Option Value → LX → Prop} {n : Nat} {X : LX} (hn : 146 ≤ nf) (hX : Sh nf X) {s0 : Int32} (c0 : s0 < 0) (hp : post none X) : Ev g mX12_both d n0 nf post nf 10 [some (.ref 133)] [.int s0] X := by
  refine ev_ifT (tgt := 30) dX12_both_10 (by decide) c0 ?_
  exact ev_ret dX12_both_30 rfl hp
theorem bX12_both_17_0 {g : GG} {d n0 nf : Nat} {post : Option Value → LX → Prop} {n : Nat} {X : LX} (hn : 146 ≤ n) (hX : Sh n X)  (k : Ev g mX12_both d n0 nf post n 18 [some (.ref 133)] [.ref 133] X) : Ev g mX12_both d n0 nf post n 17 [some (.ref 133)] [] X := by
  refine ev_aload_n dX12_both_17 rfl ?_
  exact k
theorem bX12_both_21_0 {g : GG} {d n0 nf : Nat} {post : Option Value → LX → Prop} {n : Nat} {X : LX} (hn : 146 ≤ n) (hX : Sh n X)  (k : Ev g mX12_both d n0 nf post n 24 [some (.ref 133)] [.int 200001, .ref 133] X) : Ev g mX12_both d n0 nf post n 21 [some (.ref 133)] [] X := by
  refine ev_aload_n dX12_both_21 rfl ?_
  refine ev_ldc (v := 200001) dX12_both_22 kw_12_205 ?_
  exact k
theorem bX12_both_27_0 {g : GG} {d n0 nf : Nat} {post : Option Value → LX → Prop} {n : Nat} {X : LX} (hn : 146 ≤ n) (hX : Sh n X)  (k : Ev g mX12_both d n0 nf post n 4 [some (.ref 133)] [] X) : Ev g mX12_both d n0 nf post n 27 [some (.ref 133)] [] X := by
  refine ev_goto (tgt := 4) dX12_both_27 (by decide) ?_
  exact k
theorem bX12_either_0_0 {g : GG} {d n0 nf : Nat} {post : Option Value → LX → Prop} {n : Nat} {X : LX} (hn : 146 ≤ n) (hX : Sh n X)  (k : Ev g mX12_either d n0 nf post n 1 [some (.ref 133)] [.ref 133] X) : Ev g mX12_either d n0 nf post n 0 [some (.ref 133)] [] X := by
  refine ev_aload_n dX12_either_0 rfl ?_
  exact k
theorem bX12_either_4_0 {g : GG} {d n0 nf : Nat} {post : Option Value → LX → Prop} {n : Nat} {X : LX} (hn : 146 ≤ n) (hX : Sh n X)  (k : Ev g mX12_either d n0 nf post n 7 [some (.ref 133)] [.int 0, .int 0, .ref 133] X) : Ev g mX12_either d n0 nf post n 4 [some (.ref 133)] [] X := by
  refine ev_aload_n dX12_either_4 rfl ?_
  refine ev_iconst (v := 0) dX12_either_5 ki_0 ?_
  refine ev_iconst (v := 0) dX12_either_6 ki_0 ?_
  exact k
theorem bX12_either_10_0 {g : GG} {d n0 nf : Nat} {post : Option Value → LX → Prop} {n : Nat} {X : LX} (hn : 146 ≤ n) (hX : Sh n X) {s0 : Int32} (c0 : ¬ s0 < 0) (k : Ev g mX12_either d n0 nf post n 14 [some (.ref 133)] [.ref 133] X) : Ev g mX12_either d n0 nf post n 10 [some (.ref 133)] [.int s0] X := by
  refine ev_ifF (tgt := 30) dX12_either_10 (by decide) c0 ?_
  refine ev_aload_n dX12_either_13 rfl ?_
  exact k
theorem bX12_either_10_1 {g : GG} {d n0 nf : Nat} {post : Option Value → LX → Prop} {n : Nat} {X : LX} (hn : 146 ≤ nf) (hX : Sh nf X) {s0 : Int32} (c0 : s0 < 0) (hp : post none X) : Ev g mX12_either d n0 nf post nf 10 [some (.ref 133)] [.int s0] X := by
  refine ev_ifT (tgt := 30) dX12_either_10 (by decide) c0 ?_
  exact ev_ret dX12_either_30 rfl hp
theorem bX12_either_17_0 {g : GG} {d n0 nf : Nat} {post : Option Value → LX → Prop} {n : Nat} {X : LX} (hn : 146 ≤ n) (hX : Sh n X)  (k : Ev g mX12_either d n0 nf post n 18 [some (.ref 133)] [.ref 133] X) : Ev g mX12_either d n0 nf post n 17 [some (.ref 133)] [] X := by
  refine ev_aload_n dX12_either_17 rfl ?_
  exact k
theorem bX12_either_21_0 {g : GG} {d n0 nf : Nat} {post : Option Value → LX → Prop} {n : Nat} {X : LX} (hn : 146 ≤ n) (hX : Sh n X)  (k : Ev g mX12_either d n0 nf post n 24 [some (.ref 133)] [.int 200000, .ref 133] X) : Ev g mX12_either d n0 nf post n 21 [some (.ref 133)] [] X := by
  refine ev_aload_n dX12_either_21 rfl ?_
  refine ev_ldc (v := 200000) dX12_either_22 kw_12_195 ?_
  exact k
theorem bX12_either_27_0 {g : GG} {d n0 nf : Nat} {post : Option Value → LX → Prop} {n : Nat} {X : LX} (hn : 146 ≤ n) (hX : Sh n X)  (k : Ev g mX12_either d n0 nf post n 4 [some (.ref 133)] [] X) : Ev g mX12_either d n0 nf post n 27 [some (.ref 133)] [] X := by
  refine ev_goto (tgt := 4) dX12_either_27 (by decide) ?_
  exact k
theorem bX12_law_0_0 {g : GG} {d n0 nf : Nat} {post : Option Value → LX → Prop} {n : Nat} {X : LX} (hn : 146 ≤ n) (hX : Sh n X)  (k : Ev g mX12_law d n0 nf post n 36 [some (.ref 133), none, none] [.ref 133] (lx_up (lx_up (lx_up (lx_up (lx_up (lx_up (lx_up X 133 11 0) 133 12 0) 133 13 0) 133 14 0) 133 15 0) 133 18 0) 133 19 0)) : Ev g mX12_law d n0 nf post n 0 [some (.ref 133), none, none] [] X := by
  refine ev_aload_n dX12_law_0 rfl ?_
  refine ev_iconst (v := 0) dX12_law_1 ki_0 ?_
  refine ev_putI dX12_law_2 fo_12_128 (by omega) lo_133 rfl rfl rfl ?_
  have hX1 : Sh _ (lx_up X 133 11 0) := Sh.upF hX (by rw [lo_133]; decide) (by decide)
  refine ev_aload_n dX12_law_5 rfl ?_
  refine ev_iconst (v := 0) dX12_law_6 ki_0 ?_
  refine ev_putI dX12_law_7 fo_12_125 (by omega) lo_133 rfl rfl rfl ?_
  have hX2 : Sh _ (lx_up (lx_up X 133 11 0) 133 12 0) := Sh.upF hX1 (by rw [lo_133]; decide) (by decide)
  refine ev_aload_n dX12_law_10 rfl ?_
  refine ev_iconst (v := 0) dX12_law_11 ki_0 ?_
  refine ev_putZ dX12_law_12 fo_12_140 (by omega) lo_133 rfl rfl rfl (by decide) ?_
  have hX3 : Sh _ (lx_up (lx_up (lx_up X 133 11 0) 133 12 0) 133 13 0) := Sh.upF hX2 (by rw [lo_133]; decide) (by decide)
  refine ev_aload_n dX12_law_15 rfl ?_
  refine ev_iconst (v := 0) dX12_law_16 ki_0 ?_
  refine ev_putI dX12_law_17 fo_12_186 (by omega) lo_133 rfl rfl rfl ?_
  have hX4 : Sh _ (lx_up (lx_up (lx_up (lx_up X 133 11 0) 133 12 0) 133 13 0) 133 14 0) := Sh.upF hX3 (by rw [lo_133]; decide) (by decide)
  refine ev_aload_n dX12_law_20 rfl ?_
  refine ev_iconst (v := 0) dX12_law_21 ki_0 ?_
  refine ev_putI dX12_law_22 fo_12_179 (by omega) lo_133 rfl rfl rfl ?_
  have hX5 : Sh _ (lx_up (lx_up (lx_up (lx_up (lx_up X 133 11 0) 133 12 0) 133 13 0) 133 14 0) 133 15 0) := Sh.upF hX4 (by rw [lo_133]; decide) (by decide)
  refine ev_aload_n dX12_law_25 rfl ?_
  refine ev_iconst (v := 0) dX12_law_26 ki_0 ?_
  refine ev_putI dX12_law_27 fo_12_160 (by omega) lo_133 rfl rfl rfl ?_
  have hX6 : Sh _ (lx_up (lx_up (lx_up (lx_up (lx_up (lx_up X 133 11 0) 133 12 0) 133 13 0) 133 14 0) 133 15 0) 133 18 0) := Sh.upF hX5 (by rw [lo_133]; decide) (by decide)
  refine ev_aload_n dX12_law_30 rfl ?_
  refine ev_iconst (v := 0) dX12_law_31 ki_0 ?_
  refine ev_putI dX12_law_32 fo_12_172 (by omega) lo_133 rfl rfl rfl ?_
  have hX7 : Sh _ (lx_up (lx_up (lx_up (lx_up (lx_up (lx_up (lx_up X 133 11 0) 133 12 0) 133 13 0) 133 14 0) 133 15 0) 133 18 0) 133 19 0) := Sh.upF hX6 (by rw [lo_133]; decide) (by decide)
  refine ev_aload_n dX12_law_35 rfl ?_
  exact k
theorem bX12_law_39_0 {g : GG} {d n0 nf : Nat} {post : Option Value → LX → Prop} {n : Nat} {X : LX} (hn : 146 ≤ n) (hX : Sh n X)  (k : Ev g mX12_law d n0 nf post n 48 [some (.ref 133), none, none] [.ref 1001, .ref 133] (lx_up X 133 16 (rE 1000))) : Ev g mX12_law d n0 nf post n 39 [some (.ref 133), none, none] [] X := by
  refine ev_aload_n dX12_law_39 rfl ?_
  refine ev_ldcS (t := 0) dX12_law_40 sw_12_209 rfl rfl rfl ?_
  refine ev_putR dX12_law_42 fo_12_33 (by omega) lo_133 rfl (Or.inl ⟨_, rfl⟩) (Or.inl rfl) (by omega) ?_
  have hX1 : Sh _ (lx_up X 133 16 (rE 1000)) := Sh.upF hX (by rw [lo_133]; decide) (by decide)
  refine ev_aload_n dX12_law_45 rfl ?_
  refine ev_ldcS (t := 1) dX12_law_46 sw_12_211 rfl rfl rfl ?_
  exact k
theorem bX12_law_51_0 {g : GG} {d n0 nf : Nat} {post : Option Value → LX → Prop} {n : Nat} {X : LX} (hn : 146 ≤ n) (hX : Sh n X)  (k : Ev g mX12_law d n0 nf post n 52 [some (.ref 133), none, none] [.ref 133] X) : Ev g mX12_law d n0 nf post n 51 [some (.ref 133), none, none] [] X := by
  refine ev_aload_n dX12_law_51 rfl ?_
  exact k
theorem bX12_law_55_0 {g : GG} {d n0 nf : Nat} {post : Option Value → LX → Prop} {n : Nat} {X : LX} (hn : 146 ≤ n) (hX : Sh n X)  (k : Ev g mX12_law d n0 nf post n 58 [some (.ref 133), none, none] [.int 300000, .ref 133] X) : Ev g mX12_law d n0 nf post n 55 [some (.ref 133), none, none] [] X := by
  refine ev_aload_n dX12_law_55 rfl ?_
  refine ev_ldc (v := 300000) dX12_law_56 kw_12_217 ?_
  exact k
theorem bX12_law_61_0 {g : GG} {d n0 nf : Nat} {post : Option Value → LX → Prop} {n : Nat} {X : LX} (hn : 146 ≤ n) (hX : Sh n X)  (k : Ev g mX12_law d n0 nf post n 70 [some (.ref 133), none, none] [.ref 1011, .ref 133] (lx_up X 133 16 (rE 1010))) : Ev g mX12_law d n0 nf post n 61 [some (.ref 133), none, none] [] X := by
  refine ev_aload_n dX12_law_61 rfl ?_
  refine ev_ldcS (t := 10) dX12_law_62 sw_12_218 rfl rfl rfl ?_
  refine ev_putR dX12_law_64 fo_12_33 (by omega) lo_133 rfl (Or.inl ⟨_, rfl⟩) (Or.inl rfl) (by omega) ?_
  have hX1 : Sh _ (lx_up X 133 16 (rE 1010)) := Sh.upF hX (by rw [lo_133]; decide) (by decide)
  refine ev_aload_n dX12_law_67 rfl ?_
  refine ev_ldcS (t := 11) dX12_law_68 sw_12_220 rfl rfl rfl ?_
  exact k
theorem bX12_law_73_0 {g : GG} {d n0 nf : Nat} {post : Option Value → LX → Prop} {n : Nat} {X : LX} (hn : 146 ≤ n) (hX : Sh n X)  (k : Ev g mX12_law d n0 nf post n 74 [some (.ref 133), none, none] [.ref 133] X) : Ev g mX12_law d n0 nf post n 73 [some (.ref 133), none, none] [] X := by
  refine ev_aload_n dX12_law_73 rfl ?_
  exact k
theorem bX12_law_77_0 {g : GG} {d n0 nf : Nat} {post : Option Value → LX → Prop} {n : Nat} {X : LX} (hn : 146 ≤ n) (hX : Sh n X)  (k : Ev g mX12_law d n0 nf post n 80 [some (.ref 133), none, none] [.int 300000, .ref 133] X) : Ev g mX12_law d n0 nf post n 77 [some (.ref 133), none, none] [] X := by
  refine ev_aload_n dX12_law_77 rfl ?_
  refine ev_ldc (v := 300000) dX12_law_78 kw_12_217 ?_
  exact k
theorem bX12_law_83_0 {g : GG} {d n0 nf : Nat} {post : Option Value → LX → Prop} {n : Nat} {X : LX} (hn : 146 ≤ nf) (hX : Sh nf X)  (c0 : X 133 13 = 0) (c1 : ¬ X 133 12 = 0) (hp : post (some (.int ((-100) - (X 133 10)))) (lx_up (lx_up X 133 13 1) 133 4 0)) : Ev g mX12_law d n0 nf post nf 83 [some (.ref 133), none, none] [] X := by
  refine ev_aload_n dX12_law_83 rfl ?_
  refine ev_aload_n dX12_law_84 rfl ?_
  refine ev_getI dX12_law_85 fo_12_140 (by omega) lo_133 rfl ?_
  refine ev_ifF (tgt := 98) dX12_law_88 (by decide) c0 ?_
  refine ev_aload_n dX12_law_91 rfl ?_
  refine ev_getI dX12_law_92 fo_12_125 (by omega) lo_133 rfl ?_
  refine ev_ifF (tgt := 102) dX12_law_95 (by decide) c1 ?_
  refine ev_iconst (v := 1) dX12_law_98 ki_1 ?_
  refine ev_goto (tgt := 103) dX12_law_99 (by decide) ?_
  refine ev_putZ dX12_law_103 fo_12_140 (by omega) lo_133 rfl rfl rfl (by decide) ?_
  have hX1 : Sh _ (lx_up X 133 13 1) := Sh.upF hX (by rw [lo_133]; decide) (by decide)
  refine ev_aload_n dX12_law_106 rfl ?_
  refine ev_getI dX12_law_107 fo_12_131 (by omega) lo_133 rfl ?_
  refine ev_istore_n dX12_law_110 (by decide) ?_
  refine ev_aload_n dX12_law_111 rfl ?_
  refine ev_iconst (v := 0) dX12_law_112 ki_0 ?_
  refine ev_putI dX12_law_113 fo_12_121 (by omega) lo_133 rfl rfl rfl ?_
  have hX2 : Sh _ (lx_up (lx_up X 133 13 1) 133 4 0) := Sh.upF hX1 (by rw [lo_133]; decide) (by decide)
  refine ev_aload_n dX12_law_116 rfl ?_
  refine ev_getI dX12_law_117 fo_12_140 (by omega) lo_133 rfl ?_
  refine ev_ifF (tgt := 128) dX12_law_120 (by decide) (by show ¬ (1 : Int32) = 0; decide) ?_
  refine ev_bipush (v := (-100)) dX12_law_123 kb_m100 ?_
  refine ev_iload_n dX12_law_125 rfl ?_
  refine ev_isub dX12_law_126 ?_
  exact ev_iret dX12_law_127 rfl rfl hp
theorem bX12_law_83_1 {g : GG} {d n0 nf : Nat} {post : Option Value → LX → Prop} {n : Nat} {X : LX} (hn : 146 ≤ n) (hX : Sh n X)  (c0 : X 133 13 = 0) (c1 : X 133 12 = 0) (k : Ev g mX12_law d n0 nf post n 130 [some (.ref 133), some (.int (X 133 10)), some (.int 0)] [] (lx_up (lx_up X 133 13 0) 133 4 0)) : Ev g mX12_law d n0 nf post n 83 [some (.ref 133), none, none] [] X := by
  refine ev_aload_n dX12_law_83 rfl ?_
  refine ev_aload_n dX12_law_84 rfl ?_
  refine ev_getI dX12_law_85 fo_12_140 (by omega) lo_133 rfl ?_
  refine ev_ifF (tgt := 98) dX12_law_88 (by decide) c0 ?_
  refine ev_aload_n dX12_law_91 rfl ?_
  refine ev_getI dX12_law_92 fo_12_125 (by omega) lo_133 rfl ?_
  refine ev_ifT (tgt := 102) dX12_law_95 (by decide) c1 ?_
  refine ev_iconst (v := 0) dX12_law_102 ki_0 ?_
  refine ev_putZ dX12_law_103 fo_12_140 (by omega) lo_133 rfl rfl rfl (by decide) ?_
  have hX1 : Sh _ (lx_up X 133 13 0) := Sh.upF hX (by rw [lo_133]; decide) (by decide)
  refine ev_aload_n dX12_law_106 rfl ?_
  refine ev_getI dX12_law_107 fo_12_131 (by omega) lo_133 rfl ?_
  refine ev_istore_n dX12_law_110 (by decide) ?_
  refine ev_aload_n dX12_law_111 rfl ?_
  refine ev_iconst (v := 0) dX12_law_112 ki_0 ?_
  refine ev_putI dX12_law_113 fo_12_121 (by omega) lo_133 rfl rfl rfl ?_
  have hX2 : Sh _ (lx_up (lx_up X 133 13 0) 133 4 0) := Sh.upF hX1 (by rw [lo_133]; decide) (by decide)
  refine ev_aload_n dX12_law_116 rfl ?_
  refine ev_getI dX12_law_117 fo_12_140 (by omega) lo_133 rfl ?_
  refine ev_ifT (tgt := 128) dX12_law_120 (by decide) (by show (0 : Int32) = 0; decide) ?_
  refine ev_iconst (v := 0) dX12_law_128 ki_0 ?_
  refine ev_istore_n dX12_law_129 (by decide) ?_
  exact k
theorem bX12_law_83_2 {g : GG} {d n0 nf : Nat} {post : Option Value → LX → Prop} {n : Nat} {X : LX} (hn : 146 ≤ nf) (hX : Sh nf X)  (c0 : ¬ X 133 13 = 0) (hp : post (some (.int ((-100) - (X 133 10)))) (lx_up (lx_up X 133 13 1) 133 4 0)) : Ev g mX12_law d n0 nf post nf 83 [some (.ref 133), none, none] [] X := by
  refine ev_aload_n dX12_law_83 rfl ?_
  refine ev_aload_n dX12_law_84 rfl ?_
  refine ev_getI dX12_law_85 fo_12_140 (by omega) lo_133 rfl ?_
  refine ev_ifT (tgt := 98) dX12_law_88 (by decide) c0 ?_
  refine ev_iconst (v := 1) dX12_law_98 ki_1 ?_
  refine ev_goto (tgt := 103) dX12_law_99 (by decide) ?_
  refine ev_putZ dX12_law_103 fo_12_140 (by omega) lo_133 rfl rfl rfl (by decide) ?_
  have hX1 : Sh _ (lx_up X 133 13 1) := Sh.upF hX (by rw [lo_133]; decide) (by decide)
  refine ev_aload_n dX12_law_106 rfl ?_
  refine ev_getI dX12_law_107 fo_12_131 (by omega) lo_133 rfl ?_
  refine ev_istore_n dX12_law_110 (by decide) ?_
  refine ev_aload_n dX12_law_111 rfl ?_
  refine ev_iconst (v := 0) dX12_law_112 ki_0 ?_
  refine ev_putI dX12_law_113 fo_12_121 (by omega) lo_133 rfl rfl rfl ?_
  have hX2 : Sh _ (lx_up (lx_up X 133 13 1) 133 4 0) := Sh.upF hX1 (by rw [lo_133]; decide) (by decide)
  refine ev_aload_n dX12_law_116 rfl ?_
  refine ev_getI dX12_law_117 fo_12_140 (by omega) lo_133 rfl ?_
  refine ev_ifF (tgt := 128) dX12_law_120 (by decide) (by show ¬ (1 : Int32) = 0; decide) ?_
  refine ev_bipush (v := (-100)) dX12_law_123 kb_m100 ?_
  refine ev_iload_n dX12_law_125 rfl ?_
  refine ev_isub dX12_law_126 ?_
  exact ev_iret dX12_law_127 rfl rfl hp
theorem bX12_law_130_0 {g : GG} {d n0 nf : Nat} {post : Option Value → LX → Prop} {n : Nat} {X : LX} (hn : 146 ≤ n) (hX : Sh n X) {v1 : Int32} {v2 : Nat} {j1 : Nat} (c0 : ¬ X 133 18 ≤ nI v2) (b0 : v2 < 128) (hj1 : 2028 + (nI v2) = nI j1) (b1 : j1 < 2156) (k : Ev g mX12_law d n0 nf post n 130 [some (.ref 133), some (.int v1), some (.int ((nI v2) + 1))] [] (lx_up X 134 j1 (X 141 v2))) : Ev g mX12_law d n0 nf post n 130 [some (.ref 133), some (.int v1), some (.int (nI v2))] [] X := by
  refine ev_iload_n dX12_law_130 rfl ?_
  refine ev_aload_n dX12_law_131 rfl ?_
  refine ev_getI dX12_law_132 fo_12_160 (by omega) lo_133 rfl ?_
  refine ev_icmpF (tgt := 160) dX12_law_135 (by decide) c0 ?_
  refine ev_aload_n dX12_law_138 rfl ?_
  refine ev_getS (q := 134) dX12_law_139 fo_12_9 (by omega) lo_133 rfl (sh_133_0 hX (by omega)) (by decide) ?_
  refine ev_sipush (v := 2028) dX12_law_142 ks_2028 ?_
  refine ev_iload_n dX12_law_145 rfl ?_
  refine ev_iadd dX12_law_146 ?_
  refine ev_aload_n dX12_law_147 rfl ?_
  refine ev_getS (q := 141) dX12_law_148 fo_12_37 (by omega) lo_133 rfl (sh_133_17 hX (by omega)) (by decide) ?_
  refine ev_iload_n dX12_law_151 rfl ?_
  refine ev_iald dX12_law_152 (by omega) ly_141 rfl b0 ?_
  refine ev_iast dX12_law_153 (by omega) ly_134 hj1 b1 ?_
  have hX1 : Sh _ (lx_up X 134 j1 (X 141 v2)) := Sh.upA hX (by rw [ly_134]; exact (by decide : 0 < 2))
  refine ev_iinc (v := (nI v2) + 1) dX12_law_154 rfl (by rw [show Int32.ofInt 1 = 1 from ki_1]) (by decide) ?_
  refine ev_goto (tgt := 130) dX12_law_157 (by decide) ?_
  exact k
theorem bX12_law_130_1 {g : GG} {d n0 nf : Nat} {post : Option Value → LX → Prop} {n : Nat} {X : LX} (hn : 146 ≤ nf) (hX : Sh nf X) {v1 : Int32} {v2 : Nat} (c0 : X 133 18 ≤ nI v2) (hp : post (some (.int (X 133 19))) (lx_up X 134 2 1)) : Ev g mX12_law d n0 nf post nf 130 [some (.ref 133), some (.int v1), some (.int (nI v2))] [] X := by
  refine ev_iload_n dX12_law_130 rfl ?_
  refine ev_aload_n dX12_law_131 rfl ?_
  refine ev_getI dX12_law_132 fo_12_160 (by omega) lo_133 rfl ?_
  refine ev_icmpT (tgt := 160) dX12_law_135 (by decide) c0 ?_
  refine ev_aload_n dX12_law_160 rfl ?_
  refine ev_getS (q := 134) dX12_law_161 fo_12_9 (by omega) lo_133 rfl (sh_133_0 hX (by omega)) (by decide) ?_
  refine ev_iconst (v := 2) dX12_law_164 ki_2 ?_
  refine ev_iconst (v := 1) dX12_law_165 ki_1 ?_
  refine ev_iast dX12_law_166 (by omega) ly_134 nIl_2 (by decide) ?_
  have hX1 : Sh _ (lx_up X 134 2 1) := Sh.upA hX (by rw [ly_134]; exact (by decide : 0 < 2))
  refine ev_aload_n dX12_law_167 rfl ?_
  refine ev_getI dX12_law_168 fo_12_172 (by omega) lo_133 rfl ?_
  exact ev_iret dX12_law_171 rfl rfl hp
theorem bX12_ofMark_0_0 {g : GG} {d n0 nf : Nat} {post : Option Value → LX → Prop} {n : Nat} {X : LX} (hn : 146 ≤ n) (hX : Sh n X) {v1 : Int32} {v2 : Int32} (c0 : v1 = 0) (k : Ev g mX12_ofMark d n0 nf post n 6 [some (.ref 133), some (.int v1), some (.int v2)] [.int v2, .ref 133] X) : Ev g mX12_ofMark d n0 nf post n 0 [some (.ref 133), some (.int v1), some (.int v2)] [] X := by
  refine ev_iload_n dX12_ofMark_0 rfl ?_
  refine ev_ifF (tgt := 12) dX12_ofMark_1 (by decide) c0 ?_
  refine ev_aload_n dX12_ofMark_4 rfl ?_
  refine ev_iload_n dX12_ofMark_5 rfl ?_
  exact k
theorem bX12_ofMark_0_1 {g : GG} {d n0 nf : Nat} {post : Option Value → LX → Prop} {n : Nat} {X : LX} (hn : 146 ≤ n) (hX : Sh n X) {v1 : Int32} {v2 : Int32} (c0 : ¬ v1 = 0) (c1 : v1 = 1) (k : Ev g mX12_ofMark d n0 nf post n 23 [some (.ref 133), some (.int v1), some (.int v2)] [.int 2, .int v2, .ref 134] X) : Ev g mX12_ofMark d n0 nf post n 0 [some (.ref 133), some (.int v1), some (.int v2)] [] X := by
  refine ev_iload_n dX12_ofMark_0 rfl ?_
  refine ev_ifT (tgt := 12) dX12_ofMark_1 (by decide) c0 ?_
  refine ev_iload_n dX12_ofMark_12 rfl ?_
  refine ev_iconst (v := 1) dX12_ofMark_13 ki_1 ?_
  refine ev_icmpF (tgt := 30) dX12_ofMark_14 (by decide) c1 ?_
  refine ev_aload_n dX12_ofMark_17 rfl ?_
  refine ev_getS (q := 134) dX12_ofMark_18 fo_12_9 (by omega) lo_133 rfl (sh_133_0 hX (by omega)) (by decide) ?_
  refine ev_iload_n dX12_ofMark_21 rfl ?_
  refine ev_iconst (v := 2) dX12_ofMark_22 ki_2 ?_
  exact k
theorem bX12_ofMark_0_2 {g : GG} {d n0 nf : Nat} {post : Option Value → LX → Prop} {n : Nat} {X : LX} (hn : 146 ≤ n) (hX : Sh n X) {v1 : Int32} {v2 : Int32} (c0 : ¬ v1 = 0) (c1 : ¬ v1 = 1) (c2 : v1 = 2) (k : Ev g mX12_ofMark d n0 nf post n 37 [some (.ref 133), some (.int v1), some (.int v2)] [.int v2, .ref 133] X) : Ev g mX12_ofMark d n0 nf post n 0 [some (.ref 133), some (.int v1), some (.int v2)] [] X := by
  refine ev_iload_n dX12_ofMark_0 rfl ?_
  refine ev_ifT (tgt := 12) dX12_ofMark_1 (by decide) c0 ?_
  refine ev_iload_n dX12_ofMark_12 rfl ?_
  refine ev_iconst (v := 1) dX12_ofMark_13 ki_1 ?_
  refine ev_icmpT (tgt := 30) dX12_ofMark_14 (by decide) c1 ?_
  refine ev_iload_n dX12_ofMark_30 rfl ?_
  refine ev_iconst (v := 2) dX12_ofMark_31 ki_2 ?_
  refine ev_icmpF (tgt := 46) dX12_ofMark_32 (by decide) c2 ?_
  refine ev_aload_n dX12_ofMark_35 rfl ?_
  refine ev_iload_n dX12_ofMark_36 rfl ?_
  exact k
theorem bX12_ofMark_0_3 {g : GG} {d n0 nf : Nat} {post : Option Value → LX → Prop} {n : Nat} {X : LX} (hn : 146 ≤ n) (hX : Sh n X) {v1 : Int32} {v2 : Int32} (c0 : ¬ v1 = 0) (c1 : ¬ v1 = 1) (c2 : ¬ v1 = 2) (c3 : v1 = 3) (k : Ev g mX12_ofMark d n0 nf post n 57 [some (.ref 133), some (.int v1), some (.int v2)] [.int 0, .int v2, .ref 134] X) : Ev g mX12_ofMark d n0 nf post n 0 [some (.ref 133), some (.int v1), some (.int v2)] [] X := by
  refine ev_iload_n dX12_ofMark_0 rfl ?_
  refine ev_ifT (tgt := 12) dX12_ofMark_1 (by decide) c0 ?_
  refine ev_iload_n dX12_ofMark_12 rfl ?_
  refine ev_iconst (v := 1) dX12_ofMark_13 ki_1 ?_
  refine ev_icmpT (tgt := 30) dX12_ofMark_14 (by decide) c1 ?_
  refine ev_iload_n dX12_ofMark_30 rfl ?_
  refine ev_iconst (v := 2) dX12_ofMark_31 ki_2 ?_
  refine ev_icmpT (tgt := 46) dX12_ofMark_32 (by decide) c2 ?_
  refine ev_iload_n dX12_ofMark_46 rfl ?_
  refine ev_iconst (v := 3) dX12_ofMark_47 ki_3 ?_
  refine ev_icmpF (tgt := 64) dX12_ofMark_48 (by decide) c3 ?_
  refine ev_aload_n dX12_ofMark_51 rfl ?_
  refine ev_getS (q := 134) dX12_ofMark_52 fo_12_9 (by omega) lo_133 rfl (sh_133_0 hX (by omega)) (by decide) ?_
  refine ev_iload_n dX12_ofMark_55 rfl ?_
  refine ev_iconst (v := 0) dX12_ofMark_56 ki_0 ?_
  exact k
theorem bX12_ofMark_0_4 {g : GG} {d n0 nf : Nat} {post : Option Value → LX → Prop} {n : Nat} {X : LX} (hn : 146 ≤ n) (hX : Sh n X) {v1 : Int32} {v2 : Int32} (c0 : ¬ v1 = 0) (c1 : ¬ v1 = 1) (c2 : ¬ v1 = 2) (c3 : ¬ v1 = 3) (k : Ev g mX12_ofMark d n0 nf post n 66 [some (.ref 133), some (.int v1), some (.int v2)] [.int v2, .ref 133] X) : Ev g mX12_ofMark d n0 nf post n 0 [some (.ref 133), some (.int v1), some (.int v2)] [] X := by
  refine ev_iload_n dX12_ofMark_0 rfl ?_
  refine ev_ifT (tgt := 12) dX12_ofMark_1 (by decide) c0 ?_
  refine ev_iload_n dX12_ofMark_12 rfl ?_
  refine ev_iconst (v := 1) dX12_ofMark_13 ki_1 ?_
  refine ev_icmpT (tgt := 30) dX12_ofMark_14 (by decide) c1 ?_
  refine ev_iload_n dX12_ofMark_30 rfl ?_
  refine ev_iconst (v := 2) dX12_ofMark_31 ki_2 ?_
  refine ev_icmpT (tgt := 46) dX12_ofMark_32 (by decide) c2 ?_
  refine ev_iload_n dX12_ofMark_46 rfl ?_
  refine ev_iconst (v := 3) dX12_ofMark_47 ki_3 ?_
  refine ev_icmpT (tgt := 64) dX12_ofMark_48 (by decide) c3 ?_
  refine ev_aload_n dX12_ofMark_64 rfl ?_
  refine ev_iload_n dX12_ofMark_65 rfl ?_
  exact k
theorem bX12_ofMark_9_0 {g : GG} {d n0 nf : Nat} {post : Option Value → LX → Prop} {n : Nat} {X : LX} (hn : 146 ≤ nf) (hX : Sh nf X) {v1 : Int32} {v2 : Int32} {s0 : Int32} (hp : post (some (.int s0)) X) : Ev g mX12_ofMark d n0 nf post nf 9 [some (.ref 133), some (.int v1), some (.int v2)] [.int s0] X := by
  refine ev_goto (tgt := 69) dX12_ofMark_9 (by decide) ?_
  exact ev_iret dX12_ofMark_69 rfl rfl hp
theorem bX12_ofMark_26_0 {g : GG} {d n0 nf : Nat} {post : Option Value → LX → Prop} {n : Nat} {X : LX} (hn : 146 ≤ nf) (hX : Sh nf X) {v1 : Int32} {v2 : Int32} {s1 : Nat} (b0 : s1 < 2156) (hp : post (some (.int (X 134 s1))) X) : Ev g mX12_ofMark d n0 nf post nf 26 [some (.ref 133), some (.int v1), some (.int v2)] [.int (nI s1), .ref 134] X := by
  refine ev_iald dX12_ofMark_26 (by omega) ly_134 rfl b0 ?_
  refine ev_goto (tgt := 69) dX12_ofMark_27 (by decide) ?_
  exact ev_iret dX12_ofMark_69 rfl rfl hp
theorem bX12_ofMark_40_0 {g : GG} {d n0 nf : Nat} {post : Option Value → LX → Prop} {n : Nat} {X : LX} (hn : 146 ≤ n) (hX : Sh n X) {v1 : Int32} {v2 : Int32} {s0 : Int32} (k : Ev g mX12_ofMark d n0 nf post n 40 [some (.ref 133), some (.int v1), some (.int v2)] [.int s0] X) : Ev g mX12_ofMark d n0 nf post n 40 [some (.ref 133), some (.int v1), some (.int v2)] [.int s0] X := by
  exact k
theorem bX12_ofMark_43_0 {g : GG} {d n0 nf : Nat} {post : Option Value → LX → Prop} {n : Nat} {X : LX} (hn : 146 ≤ nf) (hX : Sh nf X) {v1 : Int32} {v2 : Int32} {s0 : Int32} (hp : post (some (.int s0)) X) : Ev g mX12_ofMark d n0 nf post nf 43 [some (.ref 133), some (.int v1), some (.int v2)] [.int s0] X := by
  refine ev_goto (tgt := 69) dX12_ofMark_43 (by decide) ?_
  exact ev_iret dX12_ofMark_69 rfl rfl hp
theorem bX12_ofMark_60_0 {g : GG} {d n0 nf : Nat} {post : Option Value → LX → Prop} {n : Nat} {X : LX} (hn : 146 ≤ nf) (hX : Sh nf X) {v1 : Int32} {v2 : Int32} {s1 : Nat} (b0 : s1 < 2156) (hp : post (some (.int (X 134 s1))) X) : Ev g mX12_ofMark d n0 nf post nf 60 [some (.ref 133), some (.int v1), some (.int v2)] [.int (nI s1), .ref 134] X := by
  refine ev_iald dX12_ofMark_60 (by omega) ly_134 rfl b0 ?_
  refine ev_goto (tgt := 69) dX12_ofMark_61 (by decide) ?_
  exact ev_iret dX12_ofMark_69 rfl rfl hp
theorem bX12_ofMark_69_0 {g : GG} {d n0 nf : Nat} {post : Option Value → LX → Prop} {n : Nat} {X : LX} (hn : 146 ≤ nf) (hX : Sh nf X) {v1 : Int32} {v2 : Int32} {s0 : Int32} (hp : post (some (.int s0)) X) : Ev g mX12_ofMark d n0 nf post nf 69 [some (.ref 133), some (.int v1), some (.int v2)] [.int s0] X := by
  exact ev_iret dX12_ofMark_69 rfl rfl hp
theorem bX12_ofIce_0_0 {g : GG} {d n0 nf : Nat} {post : Option Value → LX → Prop} {n : Nat} {X : LX} (hn : 146 ≤ n) (hX : Sh n X) {v1 : Int32} {v2 : Int32} (k : Ev g mX12_ofIce d n0 nf post n 2 [some (.ref 133), some (.int v1), some (.int v2), none, none, none, none] [.int v2, .ref 133] X) : Ev g mX12_ofIce d n0 nf post n 0 [some (.ref 133), some (.int v1), some (.int v2), none, none, none, none] [] X := by
  refine ev_aload_n dX12_ofIce_0 rfl ?_
  refine ev_iload_n dX12_ofIce_1 rfl ?_
  exact k
theorem bX12_ofIce_5_0 {g : GG} {d n0 nf : Nat} {post : Option Value → LX → Prop} {n : Nat} {X : LX} (hn : 146 ≤ n) (hX : Sh n X) {v1 : Int32} {v2 : Int32} {s0 : Int32} (k : Ev g mX12_ofIce d n0 nf post n 15 [some (.ref 133), some (.int v1), some (.int v2), some (.int s0), some (.int 0), some (.int 0), some (.int 0)] [] X) : Ev g mX12_ofIce d n0 nf post n 5 [some (.ref 133), some (.int v1), some (.int v2), none, none, none, none] [.int s0] X := by
  refine ev_istore_n dX12_ofIce_5 (by decide) ?_
  refine ev_iconst (v := 0) dX12_ofIce_6 ki_0 ?_
  refine ev_istore dX12_ofIce_7 (by decide) ?_
  refine ev_iconst (v := 0) dX12_ofIce_9 ki_0 ?_
  refine ev_istore dX12_ofIce_10 (by decide) ?_
  refine ev_iconst (v := 0) dX12_ofIce_12 ki_0 ?_
  refine ev_istore dX12_ofIce_13 (by decide) ?_
  exact k
theorem bX12_ofIce_15_0 {g : GG} {d n0 nf : Nat} {post : Option Value → LX → Prop} {n : Nat} {X : LX} (hn : 146 ≤ n) (hX : Sh n X) {v1 : Int32} {v2 : Int32} {v3 : Int32} {v4 : Int32} {v5 : Int32} {v6 : Int32} (c0 : ¬ 10 ≤ v6) (k : Ev g mX12_ofIce d n0 nf post n 27 [some (.ref 133), some (.int v1), some (.int v2), some (.int v3), some (.int v4), some (.int v5), some (.int v6)] [.int v6, .int v3, .int v4] X) : Ev g mX12_ofIce d n0 nf post n 15 [some (.ref 133), some (.int v1), some (.int v2), some (.int v3), some (.int v4), some (.int v5), some (.int v6)] [] X := by
  refine ev_iload dX12_ofIce_15 rfl ?_
  refine ev_bipush (v := 10) dX12_ofIce_17 kb_10 ?_
  refine ev_icmpF (tgt := 95) dX12_ofIce_19 (by decide) c0 ?_
  refine ev_iload dX12_ofIce_22 rfl ?_
  refine ev_iload_n dX12_ofIce_24 rfl ?_
  refine ev_iload dX12_ofIce_25 rfl ?_
  exact k
theorem bX12_ofIce_15_1 {g : GG} {d n0 nf : Nat} {post : Option Value → LX → Prop} {n : Nat} {X : LX} (hn : 146 ≤ nf) (hX : Sh nf X) {v1 : Int32} {v2 : Int32} {v3 : Int32} {v4 : Int32} {v5 : Int32} {v6 : Int32} (c0 : 10 ≤ v6) (c1 : v1 = 0) (hp : post (some (.int v4)) X) : Ev g mX12_ofIce d n0 nf post nf 15 [some (.ref 133), some (.int v1), some (.int v2), some (.int v3), some (.int v4), some (.int v5), some (.int v6)] [] X := by
  refine ev_iload dX12_ofIce_15 rfl ?_
  refine ev_bipush (v := 10) dX12_ofIce_17 kb_10 ?_
  refine ev_icmpT (tgt := 95) dX12_ofIce_19 (by decide) c0 ?_
  refine ev_iload_n dX12_ofIce_95 rfl ?_
  refine ev_ifF (tgt := 104) dX12_ofIce_96 (by decide) c1 ?_
  refine ev_iload dX12_ofIce_99 rfl ?_
  refine ev_goto (tgt := 138) dX12_ofIce_101 (by decide) ?_
  exact ev_iret dX12_ofIce_138 rfl rfl hp
theorem bX12_ofIce_15_2 {g : GG} {d n0 nf : Nat} {post : Option Value → LX → Prop} {n : Nat} {X : LX} (hn : 146 ≤ n) (hX : Sh n X) {v1 : Int32} {v2 : Int32} {v3 : Int32} {v4 : Int32} {v5 : Int32} {v6 : Int32} (c0 : 10 ≤ v6) (c1 : ¬ v1 = 0) (c2 : v1 = 1) (k : Ev g mX12_ofIce d n0 nf post n 115 [some (.ref 133), some (.int v1), some (.int v2), some (.int v3), some (.int v4), some (.int v5), some (.int v6)] [.int 3, .int v2, .ref 134] X) : Ev g mX12_ofIce d n0 nf post n 15 [some (.ref 133), some (.int v1), some (.int v2), some (.int v3), some (.int v4), some (.int v5), some (.int v6)] [] X := by
  refine ev_iload dX12_ofIce_15 rfl ?_
  refine ev_bipush (v := 10) dX12_ofIce_17 kb_10 ?_
  refine ev_icmpT (tgt := 95) dX12_ofIce_19 (by decide) c0 ?_
  refine ev_iload_n dX12_ofIce_95 rfl ?_
  refine ev_ifT (tgt := 104) dX12_ofIce_96 (by decide) c1 ?_
  refine ev_iload_n dX12_ofIce_104 rfl ?_
  refine ev_iconst (v := 1) dX12_ofIce_105 ki_1 ?_
  refine ev_icmpF (tgt := 122) dX12_ofIce_106 (by decide) c2 ?_
  refine ev_aload_n dX12_ofIce_109 rfl ?_
  refine ev_getS (q := 134) dX12_ofIce_110 fo_12_9 (by omega) lo_133 rfl (sh_133_0 hX (by omega)) (by decide) ?_
  refine ev_iload_n dX12_ofIce_113 rfl ?_
  refine ev_iconst (v := 3) dX12_ofIce_114 ki_3 ?_
  exact k
theorem bX12_ofIce_15_3 {g : GG} {d n0 nf : Nat} {post : Option Value → LX → Prop} {n : Nat} {X : LX} (hn : 146 ≤ nf) (hX : Sh nf X) {v1 : Int32} {v2 : Int32} {v3 : Int32} {v4 : Int32} {v5 : Int32} {v6 : Int32} (c0 : 10 ≤ v6) (c1 : ¬ v1 = 0) (c2 : ¬ v1 = 1) (c3 : v1 = 2) (hp : post (some (.int (X 134 1))) X) : Ev g mX12_ofIce d n0 nf post nf 15 [some (.ref 133), some (.int v1), some (.int v2), some (.int v3), some (.int v4), some (.int v5), some (.int v6)] [] X := by
  refine ev_iload dX12_ofIce_15 rfl ?_
  refine ev_bipush (v := 10) dX12_ofIce_17 kb_10 ?_
  refine ev_icmpT (tgt := 95) dX12_ofIce_19 (by decide) c0 ?_
  refine ev_iload_n dX12_ofIce_95 rfl ?_
  refine ev_ifT (tgt := 104) dX12_ofIce_96 (by decide) c1 ?_
  refine ev_iload_n dX12_ofIce_104 rfl ?_
  refine ev_iconst (v := 1) dX12_ofIce_105 ki_1 ?_
  refine ev_icmpT (tgt := 122) dX12_ofIce_106 (by decide) c2 ?_
  refine ev_iload_n dX12_ofIce_122 rfl ?_
  refine ev_iconst (v := 2) dX12_ofIce_123 ki_2 ?_
  refine ev_icmpF (tgt := 136) dX12_ofIce_124 (by decide) c3 ?_
  refine ev_aload_n dX12_ofIce_127 rfl ?_
  refine ev_getS (q := 134) dX12_ofIce_128 fo_12_9 (by omega) lo_133 rfl (sh_133_0 hX (by omega)) (by decide) ?_
  refine ev_iconst (v := 1) dX12_ofIce_131 ki_1 ?_
  refine ev_iald dX12_ofIce_132 (by omega) ly_134 nIl_1 (by decide) ?_
  refine ev_goto (tgt := 138) dX12_ofIce_133 (by decide) ?_
  exact ev_iret dX12_ofIce_138 rfl rfl hp
theorem bX12_ofIce_15_4 {g : GG} {d n0 nf : Nat} {post : Option Value → LX → Prop} {n : Nat} {X : LX} (hn : 146 ≤ nf) (hX : Sh nf X) {v1 : Int32} {v2 : Int32} {v3 : Int32} {v4 : Int32} {v5 : Int32} {v6 : Int32} (c0 : 10 ≤ v6) (c1 : ¬ v1 = 0) (c2 : ¬ v1 = 1) (c3 : ¬ v1 = 2) (hp : post (some (.int v5)) X) : Ev g mX12_ofIce d n0 nf post nf 15 [some (.ref 133), some (.int v1), some (.int v2), some (.int v3), some (.int v4), some (.int v5), some (.int v6)] [] X := by
  refine ev_iload dX12_ofIce_15 rfl ?_
  refine ev_bipush (v := 10) dX12_ofIce_17 kb_10 ?_
  refine ev_icmpT (tgt := 95) dX12_ofIce_19 (by decide) c0 ?_
  refine ev_iload_n dX12_ofIce_95 rfl ?_
  refine ev_ifT (tgt := 104) dX12_ofIce_96 (by decide) c1 ?_
  refine ev_iload_n dX12_ofIce_104 rfl ?_
  refine ev_iconst (v := 1) dX12_ofIce_105 ki_1 ?_
  refine ev_icmpT (tgt := 122) dX12_ofIce_106 (by decide) c2 ?_
  refine ev_iload_n dX12_ofIce_122 rfl ?_
  refine ev_iconst (v := 2) dX12_ofIce_123 ki_2 ?_
  refine ev_icmpT (tgt := 136) dX12_ofIce_124 (by decide) c3 ?_
  refine ev_iload dX12_ofIce_136 rfl ?_
  exact ev_iret dX12_ofIce_138 rfl rfl hp
theorem bX12_ofIce_30_0 {g : GG} {d n0 nf : Nat} {post : Option Value → LX → Prop} {n : Nat} {X : LX} (hn : 146 ≤ n) (hX : Sh n X) {v1 : Int32} {v2 : Int32} {v3 : Int32} {v4 : Int32} {v5 : Int32} {v6 : Int32} {s0 : Int32} {s1 : Int32} (c0 : ¬ s1 = 0) (k : Ev g mX12_ofIce d n0 nf post n 36 [some (.ref 133), some (.int v1), some (.int v2), some (.int v3), some (.int v4), some (.int v5), some (.int v6)] [.int v6, .ref 133, .int s0] X) : Ev g mX12_ofIce d n0 nf post n 30 [some (.ref 133), some (.int v1), some (.int v2), some (.int v3), some (.int v4), some (.int v5), some (.int v6)] [.int s1, .int s0] X := by
  refine ev_ifF (tgt := 53) dX12_ofIce_30 (by decide) c0 ?_
  refine ev_aload_n dX12_ofIce_33 rfl ?_
  refine ev_iload dX12_ofIce_34 rfl ?_
  exact k
theorem bX12_ofIce_30_1 {g : GG} {d n0 nf : Nat} {post : Option Value → LX → Prop} {n : Nat} {X : LX} (hn : 146 ≤ n) (hX : Sh n X) {v1 : Int32} {v2 : Int32} {v3 : Int32} {v4 : Int32} {v5 : Int32} {v6 : Int32} {s0 : Int32} {s1 : Int32} (c0 : s1 = 0) (k : Ev g mX12_ofIce d n0 nf post n 60 [some (.ref 133), some (.int v1), some (.int v2), some (.int v3), some (.int (s0 + 0)), some (.int v5), some (.int v6)] [.int v6, .int v3] X) : Ev g mX12_ofIce d n0 nf post n 30 [some (.ref 133), some (.int v1), some (.int v2), some (.int v3), some (.int v4), some (.int v5), some (.int v6)] [.int s1, .int s0] X := by
  refine ev_ifT (tgt := 53) dX12_ofIce_30 (by decide) c0 ?_
  refine ev_iconst (v := 0) dX12_ofIce_53 ki_0 ?_
  refine ev_iadd dX12_ofIce_54 ?_
  refine ev_istore dX12_ofIce_55 (by decide) ?_
  refine ev_iload_n dX12_ofIce_57 rfl ?_
  refine ev_iload dX12_ofIce_58 rfl ?_
  exact k
theorem bX12_ofIce_39_0 {g : GG} {d n0 nf : Nat} {post : Option Value → LX → Prop} {n : Nat} {X : LX} (hn : 146 ≤ n) (hX : Sh n X) {v1 : Int32} {v2 : Int32} {v3 : Int32} {v4 : Int32} {v5 : Int32} {v6 : Int32} {s0 : Int32} {s1 : Int32} (k : Ev g mX12_ofIce d n0 nf post n 45 [some (.ref 133), some (.int v1), some (.int v2), some (.int v3), some (.int v4), some (.int v5), some (.int v6)] [.int 1, .int v2, .ref 134, .int s1, .int s0] X) : Ev g mX12_ofIce d n0 nf post n 39 [some (.ref 133), some (.int v1), some (.int v2), some (.int v3), some (.int v4), some (.int v5), some (.int v6)] [.int s1, .int s0] X := by
  refine ev_aload_n dX12_ofIce_39 rfl ?_
  refine ev_getS (q := 134) dX12_ofIce_40 fo_12_9 (by omega) lo_133 rfl (sh_133_0 hX (by omega)) (by decide) ?_
  refine ev_iload_n dX12_ofIce_43 rfl ?_
  refine ev_iconst (v := 1) dX12_ofIce_44 ki_1 ?_
  exact k
theorem bX12_ofIce_48_0 {g : GG} {d n0 nf : Nat} {post : Option Value → LX → Prop} {n : Nat} {X : LX} (hn : 146 ≤ n) (hX : Sh n X) {v1 : Int32} {v2 : Int32} {v3 : Int32} {v4 : Int32} {v5 : Int32} {v6 : Int32} {s0 : Int32} {s1 : Int32} {s3 : Nat} (b0 : s3 < 2156) (k : Ev g mX12_ofIce d n0 nf post n 60 [some (.ref 133), some (.int v1), some (.int v2), some (.int v3), some (.int (s0 + (s1 * (X 134 s3)))), some (.int v5), some (.int v6)] [.int v6, .int v3] X) : Ev g mX12_ofIce d n0 nf post n 48 [some (.ref 133), some (.int v1), some (.int v2), some (.int v3), some (.int v4), some (.int v5), some (.int v6)] [.int (nI s3), .ref 134, .int s1, .int s0] X := by
  refine ev_iald dX12_ofIce_48 (by omega) ly_134 rfl b0 ?_
  refine ev_imul dX12_ofIce_49 ?_
  refine ev_goto (tgt := 54) dX12_ofIce_50 (by decide) ?_
  refine ev_iadd dX12_ofIce_54 ?_
  refine ev_istore dX12_ofIce_55 (by decide) ?_
  refine ev_iload_n dX12_ofIce_57 rfl ?_
  refine ev_iload dX12_ofIce_58 rfl ?_
  exact k
theorem bX12_ofIce_63_0 {g : GG} {d n0 nf : Nat} {post : Option Value → LX → Prop} {n : Nat} {X : LX} (hn : 146 ≤ n) (hX : Sh n X) {v1 : Int32} {v2 : Int32} {v3 : Int32} {v4 : Int32} {v5 : Int32} {v6 : Int32} {s0 : Int32} (c0 : ¬ s0 = 0) (k : Ev g mX12_ofIce d n0 nf post n 73 [some (.ref 133), some (.int v1), some (.int v2), some (.int v3), some (.int v4), some (.int v5), some (.int v6)] [.int 0, .int v6, .ref 134] X) : Ev g mX12_ofIce d n0 nf post n 63 [some (.ref 133), some (.int v1), some (.int v2), some (.int v3), some (.int v4), some (.int v5), some (.int v6)] [.int s0] X := by
  refine ev_ifF (tgt := 85) dX12_ofIce_63 (by decide) c0 ?_
  refine ev_aload_n dX12_ofIce_66 rfl ?_
  refine ev_getS (q := 134) dX12_ofIce_67 fo_12_9 (by omega) lo_133 rfl (sh_133_0 hX (by omega)) (by decide) ?_
  refine ev_iload dX12_ofIce_70 rfl ?_
  refine ev_iconst (v := 0) dX12_ofIce_72 ki_0 ?_
  exact k
theorem bX12_ofIce_63_1 {g : GG} {d n0 nf : Nat} {post : Option Value → LX → Prop} {n : Nat} {X : LX} (hn : 146 ≤ n) (hX : Sh n X) {v1 : Int32} {v2 : Int32} {v3 : Int32} {v4 : Int32} {v5 : Int32} {v6 : Int32} {s0 : Int32} (c0 : s0 = 0) (k : Ev g mX12_ofIce d n0 nf post n 15 [some (.ref 133), some (.int v1), some (.int v2), some (.int v3), some (.int v4), some (.int v5), some (.int (v6 + 1))] [] X) : Ev g mX12_ofIce d n0 nf post n 63 [some (.ref 133), some (.int v1), some (.int v2), some (.int v3), some (.int v4), some (.int v5), some (.int v6)] [.int s0] X := by
  refine ev_ifT (tgt := 85) dX12_ofIce_63 (by decide) c0 ?_
  refine ev_iload dX12_ofIce_85 rfl ?_
  refine ev_istore dX12_ofIce_87 (by decide) ?_
  refine ev_iinc (v := v6 + 1) dX12_ofIce_89 rfl (by rw [show Int32.ofInt 1 = 1 from ki_1]) (by decide) ?_
  refine ev_goto (tgt := 15) dX12_ofIce_92 (by decide) ?_
  exact k
theorem bX12_ofIce_76_0 {g : GG} {d n0 nf : Nat} {post : Option Value → LX → Prop} {n : Nat} {X : LX} (hn : 146 ≤ n) (hX : Sh n X) {v1 : Int32} {v2 : Int32} {v3 : Int32} {v4 : Int32} {v5 : Int32} {v6 : Int32} {s1 : Nat} (b0 : s1 < 2156) (c0 : X 134 s1 = 3) (k : Ev g mX12_ofIce d n0 nf post n 15 [some (.ref 133), some (.int v1), some (.int v2), some (.int v3), some (.int v4), some (.int 1), some (.int (v6 + 1))] [] X) : Ev g mX12_ofIce d n0 nf post n 76 [some (.ref 133), some (.int v1), some (.int v2), some (.int v3), some (.int v4), some (.int v5), some (.int v6)] [.int (nI s1), .ref 134] X := by
  refine ev_iald dX12_ofIce_76 (by omega) ly_134 rfl b0 ?_
  refine ev_iconst (v := 3) dX12_ofIce_77 ki_3 ?_
  refine ev_icmpF (tgt := 85) dX12_ofIce_78 (by decide) c0 ?_
  refine ev_iconst (v := 1) dX12_ofIce_81 ki_1 ?_
  refine ev_goto (tgt := 87) dX12_ofIce_82 (by decide) ?_
  refine ev_istore dX12_ofIce_87 (by decide) ?_
  refine ev_iinc (v := v6 + 1) dX12_ofIce_89 rfl (by rw [show Int32.ofInt 1 = 1 from ki_1]) (by decide) ?_
  refine ev_goto (tgt := 15) dX12_ofIce_92 (by decide) ?_
  exact k
theorem bX12_ofIce_76_1 {g : GG} {d n0 nf : Nat} {post : Option Value → LX → Prop} {n : Nat} {X : LX} (hn : 146 ≤ n) (hX : Sh n X) {v1 : Int32} {v2 : Int32} {v3 : Int32} {v4 : Int32} {v5 : Int32} {v6 : Int32} {s1 : Nat} (b0 : s1 < 2156) (c0 : ¬ X 134 s1 = 3) (k : Ev g mX12_ofIce d n0 nf post n 15 [some (.ref 133), some (.int v1), some (.int v2), some (.int v3), some (.int v4), some (.int v5), some (.int (v6 + 1))] [] X) : Ev g mX12_ofIce d n0 nf post n 76 [some (.ref 133), some (.int v1), some (.int v2), some (.int v3), some (.int v4), some (.int v5), some (.int v6)] [.int (nI s1), .ref 134] X := by
  refine ev_iald dX12_ofIce_76 (by omega) ly_134 rfl b0 ?_
  refine ev_iconst (v := 3) dX12_ofIce_77 ki_3 ?_
  refine ev_icmpT (tgt := 85) dX12_ofIce_78 (by decide) c0 ?_
  refine ev_iload dX12_ofIce_85 rfl ?_
  refine ev_istore dX12_ofIce_87 (by decide) ?_
  refine ev_iinc (v := v6 + 1) dX12_ofIce_89 rfl (by rw [show Int32.ofInt 1 = 1 from ki_1]) (by decide) ?_
  refine ev_goto (tgt := 15) dX12_ofIce_92 (by decide) ?_
  exact k
theorem bX12_ofIce_118_0 {g : GG} {d n0 nf : Nat} {post : Option Value → LX → Prop} {n : Nat} {X : LX} (hn : 146 ≤ nf) (hX : Sh nf X) {v1 : Int32} {v2 : Int32} {v3 : Int32} {v4 : Int32} {v5 : Int32} {v6 : Int32} {s1 : Nat} (b0 : s1 < 2156) (hp : post (some (.int (X 134 s1))) X) : Ev g mX12_ofIce d n0 nf post nf 118 [some (.ref 133), some (.int v1), some (.int v2), some (.int v3), some (.int v4), some (.int v5), some (.int v6)] [.int (nI s1), .ref 134] X := by
  refine ev_iald dX12_ofIce_118 (by omega) ly_134 rfl b0 ?_
  refine ev_goto (tgt := 138) dX12_ofIce_119 (by decide) ?_
  exact ev_iret dX12_ofIce_138 rfl rfl hp
theorem bX12_done_0_0 {g : GG} {d n0 nf : Nat} {post : Option Value → LX → Prop} {n : Nat} {X : LX} (hn : 146 ≤ nf) (hX : Sh nf X) {v0 : Int32} {v1 : Int32} {v2 : Int32} (c0 : v0.toInt < 0 ∨ 7 < v0.toInt) (c1 : v2 = 0) (hp : post (some (.int 0)) X) : Ev g mX12_done d n0 nf post nf 0 [some (.int v0), some (.int v1), some (.int v2)] [] X := by
  refine ev_iload_n dX12_done_0 rfl ?_
  refine ev_tabO (tgt := 121) dX12_done_1 c0 (by decide) ?_
  refine ev_iload_n dX12_done_121 rfl ?_
  refine ev_ifF (tgt := 129) dX12_done_122 (by decide) c1 ?_
  refine ev_iconst (v := 0) dX12_done_125 ki_0 ?_
  refine ev_goto (tgt := 132) dX12_done_126 (by decide) ?_
  exact ev_iret dX12_done_132 rfl rfl hp
theorem bX12_done_0_1 {g : GG} {d n0 nf : Nat} {post : Option Value → LX → Prop} {n : Nat} {X : LX} (hn : 146 ≤ nf) (hX : Sh nf X) {v0 : Int32} {v1 : Int32} {v2 : Int32} (c0 : v0.toInt < 0 ∨ 7 < v0.toInt) (c1 : ¬ v2 = 0) (c2 : ¬ v2 = 0) (hp : post (some (.int (v1 / v2))) X) : Ev g mX12_done d n0 nf post nf 0 [some (.int v0), some (.int v1), some (.int v2)] [] X := by
  refine ev_iload_n dX12_done_0 rfl ?_
  refine ev_tabO (tgt := 121) dX12_done_1 c0 (by decide) ?_
  refine ev_iload_n dX12_done_121 rfl ?_
  refine ev_ifT (tgt := 129) dX12_done_122 (by decide) c1 ?_
  refine ev_iload_n dX12_done_129 rfl ?_
  refine ev_iload_n dX12_done_130 rfl ?_
  refine ev_idiv dX12_done_131 c2 ?_
  exact ev_iret dX12_done_132 rfl rfl hp
theorem bX12_done_0_2 {g : GG} {d n0 nf : Nat} {post : Option Value → LX → Prop} {n : Nat} {X : LX} (hn : 146 ≤ nf) (hX : Sh nf X) {v0 : Int32} {v1 : Int32} {v2 : Int32} (c0 : v0 = 0) (c1 : v1 = 0) (c2 : ¬ v2 = 0) (hp : post (some (.int 1)) X) : Ev g mX12_done d n0 nf post nf 0 [some (.int v0), some (.int v1), some (.int v2)] [] X := by
  refine ev_iload_n dX12_done_0 rfl ?_
  refine ev_tabI (tgt := 48) (off := 47) dX12_done_1 (by rw [c0]; decide) (by rw [c0]; decide) (by rw [c0]; rfl) (by decide) ?_
  refine ev_iload_n dX12_done_48 rfl ?_
  refine ev_ifF (tgt := 56) dX12_done_49 (by decide) c1 ?_
  refine ev_iload_n dX12_done_52 rfl ?_
  refine ev_ifF (tgt := 60) dX12_done_53 (by decide) c2 ?_
  refine ev_iconst (v := 1) dX12_done_56 ki_1 ?_
  refine ev_goto (tgt := 61) dX12_done_57 (by decide) ?_
  exact ev_iret dX12_done_61 rfl rfl hp
theorem bX12_done_0_3 {g : GG} {d n0 nf : Nat} {post : Option Value → LX → Prop} {n : Nat} {X : LX} (hn : 146 ≤ nf) (hX : Sh nf X) {v0 : Int32} {v1 : Int32} {v2 : Int32} (c0 : v0 = 0) (c1 : v1 = 0) (c2 : v2 = 0) (hp : post (some (.int 0)) X) : Ev g mX12_done d n0 nf post nf 0 [some (.int v0), some (.int v1), some (.int v2)] [] X := by
  refine ev_iload_n dX12_done_0 rfl ?_
  refine ev_tabI (tgt := 48) (off := 47) dX12_done_1 (by rw [c0]; decide) (by rw [c0]; decide) (by rw [c0]; rfl) (by decide) ?_
  refine ev_iload_n dX12_done_48 rfl ?_
  refine ev_ifF (tgt := 56) dX12_done_49 (by decide) c1 ?_
  refine ev_iload_n dX12_done_52 rfl ?_
  refine ev_ifT (tgt := 60) dX12_done_53 (by decide) c2 ?_
  refine ev_iconst (v := 0) dX12_done_60 ki_0 ?_
  exact ev_iret dX12_done_61 rfl rfl hp
theorem bX12_done_0_4 {g : GG} {d n0 nf : Nat} {post : Option Value → LX → Prop} {n : Nat} {X : LX} (hn : 146 ≤ nf) (hX : Sh nf X) {v0 : Int32} {v1 : Int32} {v2 : Int32} (c0 : v0 = 0) (c1 : ¬ v1 = 0) (hp : post (some (.int 1)) X) : Ev g mX12_done d n0 nf post nf 0 [some (.int v0), some (.int v1), some (.int v2)] [] X := by
  refine ev_iload_n dX12_done_0 rfl ?_
  refine ev_tabI (tgt := 48) (off := 47) dX12_done_1 (by rw [c0]; decide) (by rw [c0]; decide) (by rw [c0]; rfl) (by decide) ?_
  refine ev_iload_n dX12_done_48 rfl ?_
  refine ev_ifT (tgt := 56) dX12_done_49 (by decide) c1 ?_
  refine ev_iconst (v := 1) dX12_done_56 ki_1 ?_
  refine ev_goto (tgt := 61) dX12_done_57 (by decide) ?_
  exact ev_iret dX12_done_61 rfl rfl hp
theorem bX12_done_0_5 {g : GG} {d n0 nf : Nat} {post : Option Value → LX → Prop} {n : Nat} {X : LX} (hn : 146 ≤ nf) (hX : Sh nf X) {v0 : Int32} {v1 : Int32} {v2 : Int32} (c0 : v0 = 1) (c1 : ¬ v1 = 0) (c2 : ¬ v2 = 0) (hp : post (some (.int 1)) X) : Ev g mX12_done d n0 nf post nf 0 [some (.int v0), some (.int v1), some (.int v2)] [] X := by
  refine ev_iload_n dX12_done_0 rfl ?_
  refine ev_tabI (tgt := 62) (off := 61) dX12_done_1 (by rw [c0]; decide) (by rw [c0]; decide) (by rw [c0]; rfl) (by decide) ?_
  refine ev_iload_n dX12_done_62 rfl ?_
  refine ev_ifF (tgt := 74) dX12_done_63 (by decide) c1 ?_
  refine ev_iload_n dX12_done_66 rfl ?_
  refine ev_ifF (tgt := 74) dX12_done_67 (by decide) c2 ?_
  refine ev_iconst (v := 1) dX12_done_70 ki_1 ?_
  refine ev_goto (tgt := 75) dX12_done_71 (by decide) ?_
  exact ev_iret dX12_done_75 rfl rfl hp
theorem bX12_done_0_6 {g : GG} {d n0 nf : Nat} {post : Option Value → LX → Prop} {n : Nat} {X : LX} (hn : 146 ≤ nf) (hX : Sh nf X) {v0 : Int32} {v1 : Int32} {v2 : Int32} (c0 : v0 = 1) (c1 : ¬ v1 = 0) (c2 : v2 = 0) (hp : post (some (.int 0)) X) : Ev g mX12_done d n0 nf post nf 0 [some (.int v0), some (.int v1), some (.int v2)] [] X := by
  refine ev_iload_n dX12_done_0 rfl ?_
  refine ev_tabI (tgt := 62) (off := 61) dX12_done_1 (by rw [c0]; decide) (by rw [c0]; decide) (by rw [c0]; rfl) (by decide) ?_
  refine ev_iload_n dX12_done_62 rfl ?_
  refine ev_ifF (tgt := 74) dX12_done_63 (by decide) c1 ?_
  refine ev_iload_n dX12_done_66 rfl ?_
  refine ev_ifT (tgt := 74) dX12_done_67 (by decide) c2 ?_
  refine ev_iconst (v := 0) dX12_done_74 ki_0 ?_
  exact ev_iret dX12_done_75 rfl rfl hp
theorem bX12_done_0_7 {g : GG} {d n0 nf : Nat} {post : Option Value → LX → Prop} {n : Nat} {X : LX} (hn : 146 ≤ nf) (hX : Sh nf X) {v0 : Int32} {v1 : Int32} {v2 : Int32} (c0 : v0 = 1) (c1 : v1 = 0) (hp : post (some (.int 0)) X) : Ev g mX12_done d n0 nf post nf 0 [some (.int v0), some (.int v1), some (.int v2)] [] X := by
  refine ev_iload_n dX12_done_0 rfl ?_
  refine ev_tabI (tgt := 62) (off := 61) dX12_done_1 (by rw [c0]; decide) (by rw [c0]; decide) (by rw [c0]; rfl) (by decide) ?_
  refine ev_iload_n dX12_done_62 rfl ?_
  refine ev_ifT (tgt := 74) dX12_done_63 (by decide) c1 ?_
  refine ev_iconst (v := 0) dX12_done_74 ki_0 ?_
  exact ev_iret dX12_done_75 rfl rfl hp
theorem bX12_done_0_8 {g : GG} {d n0 nf : Nat} {post : Option Value → LX → Prop} {n : Nat} {X : LX} (hn : 146 ≤ nf) (hX : Sh nf X) {v0 : Int32} {v1 : Int32} {v2 : Int32} (c0 : v0 = 2) (c1 : ¬ v2 ≤ v1) (hp : post (some (.int 1)) X) : Ev g mX12_done d n0 nf post nf 0 [some (.int v0), some (.int v1), some (.int v2)] [] X := by
  refine ev_iload_n dX12_done_0 rfl ?_
  refine ev_tabI (tgt := 76) (off := 75) dX12_done_1 (by rw [c0]; decide) (by rw [c0]; decide) (by rw [c0]; rfl) (by decide) ?_
  refine ev_iload_n dX12_done_76 rfl ?_
  refine ev_iload_n dX12_done_77 rfl ?_
  refine ev_icmpF (tgt := 85) dX12_done_78 (by decide) c1 ?_
  refine ev_iconst (v := 1) dX12_done_81 ki_1 ?_
  refine ev_goto (tgt := 86) dX12_done_82 (by decide) ?_
  exact ev_iret dX12_done_86 rfl rfl hp
theorem bX12_done_0_9 {g : GG} {d n0 nf : Nat} {post : Option Value → LX → Prop} {n : Nat} {X : LX} (hn : 146 ≤ nf) (hX : Sh nf X) {v0 : Int32} {v1 : Int32} {v2 : Int32} (c0 : v0 = 2) (c1 : v2 ≤ v1) (hp : post (some (.int 0)) X) : Ev g mX12_done d n0 nf post nf 0 [some (.int v0), some (.int v1), some (.int v2)] [] X := by
  refine ev_iload_n dX12_done_0 rfl ?_
  refine ev_tabI (tgt := 76) (off := 75) dX12_done_1 (by rw [c0]; decide) (by rw [c0]; decide) (by rw [c0]; rfl) (by decide) ?_
  refine ev_iload_n dX12_done_76 rfl ?_
  refine ev_iload_n dX12_done_77 rfl ?_
  refine ev_icmpT (tgt := 85) dX12_done_78 (by decide) c1 ?_
  refine ev_iconst (v := 0) dX12_done_85 ki_0 ?_
  exact ev_iret dX12_done_86 rfl rfl hp
theorem bX12_done_0_10 {g : GG} {d n0 nf : Nat} {post : Option Value → LX → Prop} {n : Nat} {X : LX} (hn : 146 ≤ nf) (hX : Sh nf X) {v0 : Int32} {v1 : Int32} {v2 : Int32} (c0 : v0 = 3) (c1 : v1 = v2) (hp : post (some (.int 1)) X) : Ev g mX12_done d n0 nf post nf 0 [some (.int v0), some (.int v1), some (.int v2)] [] X := by
  refine ev_iload_n dX12_done_0 rfl ?_
  refine ev_tabI (tgt := 87) (off := 86) dX12_done_1 (by rw [c0]; decide) (by rw [c0]; decide) (by rw [c0]; rfl) (by decide) ?_
  refine ev_iload_n dX12_done_87 rfl ?_
  refine ev_iload_n dX12_done_88 rfl ?_
  refine ev_icmpF (tgt := 96) dX12_done_89 (by decide) c1 ?_
  refine ev_iconst (v := 1) dX12_done_92 ki_1 ?_
  refine ev_goto (tgt := 97) dX12_done_93 (by decide) ?_
  exact ev_iret dX12_done_97 rfl rfl hp
theorem bX12_done_0_11 {g : GG} {d n0 nf : Nat} {post : Option Value → LX → Prop} {n : Nat} {X : LX} (hn : 146 ≤ nf) (hX : Sh nf X) {v0 : Int32} {v1 : Int32} {v2 : Int32} (c0 : v0 = 3) (c1 : ¬ v1 = v2) (hp : post (some (.int 0)) X) : Ev g mX12_done d n0 nf post nf 0 [some (.int v0), some (.int v1), some (.int v2)] [] X := by
  refine ev_iload_n dX12_done_0 rfl ?_
  refine ev_tabI (tgt := 87) (off := 86) dX12_done_1 (by rw [c0]; decide) (by rw [c0]; decide) (by rw [c0]; rfl) (by decide) ?_
  refine ev_iload_n dX12_done_87 rfl ?_
  refine ev_iload_n dX12_done_88 rfl ?_
  refine ev_icmpT (tgt := 96) dX12_done_89 (by decide) c1 ?_
  refine ev_iconst (v := 0) dX12_done_96 ki_0 ?_
  exact ev_iret dX12_done_97 rfl rfl hp
theorem bX12_done_0_12 {g : GG} {d n0 nf : Nat} {post : Option Value → LX → Prop} {n : Nat} {X : LX} (hn : 146 ≤ nf) (hX : Sh nf X) {v0 : Int32} {v1 : Int32} {v2 : Int32} (c0 : v0 = 4) (c1 : ¬ v1 ≤ v2) (hp : post (some (.int 1)) X) : Ev g mX12_done d n0 nf post nf 0 [some (.int v0), some (.int v1), some (.int v2)] [] X := by
  refine ev_iload_n dX12_done_0 rfl ?_
  refine ev_tabI (tgt := 98) (off := 97) dX12_done_1 (by rw [c0]; decide) (by rw [c0]; decide) (by rw [c0]; rfl) (by decide) ?_
  refine ev_iload_n dX12_done_98 rfl ?_
  refine ev_iload_n dX12_done_99 rfl ?_
  refine ev_icmpF (tgt := 107) dX12_done_100 (by decide) c1 ?_
  refine ev_iconst (v := 1) dX12_done_103 ki_1 ?_
  refine ev_goto (tgt := 108) dX12_done_104 (by decide) ?_
  exact ev_iret dX12_done_108 rfl rfl hp
theorem bX12_done_0_13 {g : GG} {d n0 nf : Nat} {post : Option Value → LX → Prop} {n : Nat} {X : LX} (hn : 146 ≤ nf) (hX : Sh nf X) {v0 : Int32} {v1 : Int32} {v2 : Int32} (c0 : v0 = 4) (c1 : v1 ≤ v2) (hp : post (some (.int 0)) X) : Ev g mX12_done d n0 nf post nf 0 [some (.int v0), some (.int v1), some (.int v2)] [] X := by
  refine ev_iload_n dX12_done_0 rfl ?_
  refine ev_tabI (tgt := 98) (off := 97) dX12_done_1 (by rw [c0]; decide) (by rw [c0]; decide) (by rw [c0]; rfl) (by decide) ?_
  refine ev_iload_n dX12_done_98 rfl ?_
  refine ev_iload_n dX12_done_99 rfl ?_
  refine ev_icmpT (tgt := 107) dX12_done_100 (by decide) c1 ?_
  refine ev_iconst (v := 0) dX12_done_107 ki_0 ?_
  exact ev_iret dX12_done_108 rfl rfl hp
theorem bX12_done_0_14 {g : GG} {d n0 nf : Nat} {post : Option Value → LX → Prop} {n : Nat} {X : LX} (hn : 146 ≤ nf) (hX : Sh nf X) {v0 : Int32} {v1 : Int32} {v2 : Int32} (c0 : v0 = 5) (hp : post (some (.int (v1 + v2))) X) : Ev g mX12_done d n0 nf post nf 0 [some (.int v0), some (.int v1), some (.int v2)] [] X := by
  refine ev_iload_n dX12_done_0 rfl ?_
  refine ev_tabI (tgt := 109) (off := 108) dX12_done_1 (by rw [c0]; decide) (by rw [c0]; decide) (by rw [c0]; rfl) (by decide) ?_
  refine ev_iload_n dX12_done_109 rfl ?_
  refine ev_iload_n dX12_done_110 rfl ?_
  refine ev_iadd dX12_done_111 ?_
  exact ev_iret dX12_done_112 rfl rfl hp
theorem bX12_done_0_15 {g : GG} {d n0 nf : Nat} {post : Option Value → LX → Prop} {n : Nat} {X : LX} (hn : 146 ≤ nf) (hX : Sh nf X) {v0 : Int32} {v1 : Int32} {v2 : Int32} (c0 : v0 = 6) (hp : post (some (.int (v1 - v2))) X) : Ev g mX12_done d n0 nf post nf 0 [some (.int v0), some (.int v1), some (.int v2)] [] X := by
  refine ev_iload_n dX12_done_0 rfl ?_
  refine ev_tabI (tgt := 113) (off := 112) dX12_done_1 (by rw [c0]; decide) (by rw [c0]; decide) (by rw [c0]; rfl) (by decide) ?_
  refine ev_iload_n dX12_done_113 rfl ?_
  refine ev_iload_n dX12_done_114 rfl ?_
  refine ev_isub dX12_done_115 ?_
  exact ev_iret dX12_done_116 rfl rfl hp
theorem bX12_done_0_16 {g : GG} {d n0 nf : Nat} {post : Option Value → LX → Prop} {n : Nat} {X : LX} (hn : 146 ≤ nf) (hX : Sh nf X) {v0 : Int32} {v1 : Int32} {v2 : Int32} (c0 : v0 = 7) (hp : post (some (.int (v1 * v2))) X) : Ev g mX12_done d n0 nf post nf 0 [some (.int v0), some (.int v1), some (.int v2)] [] X := by
  refine ev_iload_n dX12_done_0 rfl ?_
  refine ev_tabI (tgt := 117) (off := 116) dX12_done_1 (by rw [c0]; decide) (by rw [c0]; decide) (by rw [c0]; rfl) (by decide) ?_
  refine ev_iload_n dX12_done_117 rfl ?_
  refine ev_iload_n dX12_done_118 rfl ?_
  refine ev_imul dX12_done_119 ?_
  exact ev_iret dX12_done_120 rfl rfl hp
theorem bX12_worked_0_0 {g : GG} {d n0 nf : Nat} {post : Option Value → LX → Prop} {n : Nat} {X : LX} (hn : 146 ≤ n) (hX : Sh n X) {v1 : Int32} {v2 : Int32} (k : Ev g mX12_worked d n0 nf post n 7 [some (.ref 133), some (.int v1), some (.int v2), some (.int 2028), some (.int v1), none, none] [] X) : Ev g mX12_worked d n0 nf post n 0 [some (.ref 133), some (.int v1), some (.int v2), none, none, none, none] [] X := by
  refine ev_sipush (v := 2028) dX12_worked_0 ks_2028 ?_
  refine ev_istore_n dX12_worked_3 (by decide) ?_
  refine ev_iload_n dX12_worked_4 rfl ?_
  refine ev_istore dX12_worked_5 (by decide) ?_
  exact k
theorem bX12_worked_7_0 {g : GG} {d n0 nf : Nat} {post : Option Value → LX → Prop} {n : Nat} {X : LX} (hn : 146 ≤ n) (hX : Sh n X) {v1 : Int32} {v2 : Int32} {v3 : Nat} {v4 : Int32} (c0 : ¬ v4 ≤ 0) (b0 : v3 < 2156) (c1 : X 134 v3 = 300000) (k : Ev g mX12_worked d n0 nf post n 7 [some (.ref 133), some (.int v1), some (.int v2), some (.int ((nI v3) + 1)), some (.int (v4 - 1)), none, none] [] X) : Ev g mX12_worked d n0 nf post n 7 [some (.ref 133), some (.int v1), some (.int v2), some (.int (nI v3)), some (.int v4), none, none] [] X := by
  refine ev_iload dX12_worked_7 rfl ?_
  refine ev_ifF (tgt := 39) dX12_worked_9 (by decide) c0 ?_
  refine ev_iload dX12_worked_12 rfl ?_
  refine ev_aload_n dX12_worked_14 rfl ?_
  refine ev_getS (q := 134) dX12_worked_15 fo_12_9 (by omega) lo_133 rfl (sh_133_0 hX (by omega)) (by decide) ?_
  refine ev_iload_n dX12_worked_18 rfl ?_
  refine ev_iald dX12_worked_19 (by omega) ly_134 rfl b0 ?_
  refine ev_ldc (v := 300000) dX12_worked_20 kw_12_217 ?_
  refine ev_icmpF (tgt := 29) dX12_worked_22 (by decide) c1 ?_
  refine ev_iconst (v := 1) dX12_worked_25 ki_1 ?_
  refine ev_goto (tgt := 30) dX12_worked_26 (by decide) ?_
  refine ev_isub dX12_worked_30 ?_
  refine ev_istore dX12_worked_31 (by decide) ?_
  refine ev_iinc (v := (nI v3) + 1) dX12_worked_33 rfl (by rw [show Int32.ofInt 1 = 1 from ki_1]) (by decide) ?_
  refine ev_goto (tgt := 7) dX12_worked_36 (by decide) ?_
  exact k
theorem bX12_worked_7_1 {g : GG} {d n0 nf : Nat} {post : Option Value → LX → Prop} {n : Nat} {X : LX} (hn : 146 ≤ n) (hX : Sh n X) {v1 : Int32} {v2 : Int32} {v3 : Nat} {v4 : Int32} (c0 : ¬ v4 ≤ 0) (b0 : v3 < 2156) (c1 : ¬ X 134 v3 = 300000) (k : Ev g mX12_worked d n0 nf post n 7 [some (.ref 133), some (.int v1), some (.int v2), some (.int ((nI v3) + 1)), some (.int (v4 - 0)), none, none] [] X) : Ev g mX12_worked d n0 nf post n 7 [some (.ref 133), some (.int v1), some (.int v2), some (.int (nI v3)), some (.int v4), none, none] [] X := by
  refine ev_iload dX12_worked_7 rfl ?_
  refine ev_ifF (tgt := 39) dX12_worked_9 (by decide) c0 ?_
  refine ev_iload dX12_worked_12 rfl ?_
  refine ev_aload_n dX12_worked_14 rfl ?_
  refine ev_getS (q := 134) dX12_worked_15 fo_12_9 (by omega) lo_133 rfl (sh_133_0 hX (by omega)) (by decide) ?_
  refine ev_iload_n dX12_worked_18 rfl ?_
  refine ev_iald dX12_worked_19 (by omega) ly_134 rfl b0 ?_
  refine ev_ldc (v := 300000) dX12_worked_20 kw_12_217 ?_
  refine ev_icmpT (tgt := 29) dX12_worked_22 (by decide) c1 ?_
  refine ev_iconst (v := 0) dX12_worked_29 ki_0 ?_
  refine ev_isub dX12_worked_30 ?_
  refine ev_istore dX12_worked_31 (by decide) ?_
  refine ev_iinc (v := (nI v3) + 1) dX12_worked_33 rfl (by rw [show Int32.ofInt 1 = 1 from ki_1]) (by decide) ?_
  refine ev_goto (tgt := 7) dX12_worked_36 (by decide) ?_
  exact k
theorem bX12_worked_7_2 {g : GG} {d n0 nf : Nat} {post : Option Value → LX → Prop} {n : Nat} {X : LX} (hn : 146 ≤ n) (hX : Sh n X) {v1 : Int32} {v2 : Int32} {v3 : Nat} {v4 : Int32} (c0 : v4 ≤ 0) (k : Ev g mX12_worked d n0 nf post n 42 [some (.ref 133), some (.int v1), some (.int v2), some (.int (nI v3)), some (.int v4), some (.int 0), none] [] X) : Ev g mX12_worked d n0 nf post n 7 [some (.ref 133), some (.int v1), some (.int v2), some (.int (nI v3)), some (.int v4), none, none] [] X := by
  refine ev_iload dX12_worked_7 rfl ?_
  refine ev_ifT (tgt := 39) dX12_worked_9 (by decide) c0 ?_
  refine ev_iconst (v := 0) dX12_worked_39 ki_0 ?_
  refine ev_istore dX12_worked_40 (by decide) ?_
  exact k
theorem bX12_worked_42_0 {g : GG} {d n0 nf : Nat} {post : Option Value → LX → Prop} {n : Nat} {X : LX} (hn : 146 ≤ n) (hX : Sh n X) {v1 : Int32} {v2 : Int32} {v3 : Nat} {v4 : Int32} {v5 : Nat} (b0 : v3 < 2156) (c0 : ¬ X 134 v3 = 300000) (b1 : v3 < 2156) (c1 : ¬ 200000 ≤ X 134 v3) (c2 : ¬ 100000 ≤ X 134 v3) (b2 : v5 < 128) (k : Ev g mX12_worked d n0 nf post n 42 [some (.ref 133), some (.int v1), some (.int v2), some (.int ((nI v3) + 1)), some (.int v4), some (.int ((nI v5) + 1)), some (.int (X 134 v3))] [] (lx_up X 142 v5 (X 134 v3))) : Ev g mX12_worked d n0 nf post n 42 [some (.ref 133), some (.int v1), some (.int v2), some (.int (nI v3)), some (.int v4), some (.int (nI v5)), none] [] X := by
  refine ev_aload_n dX12_worked_42 rfl ?_
  refine ev_getS (q := 134) dX12_worked_43 fo_12_9 (by omega) lo_133 rfl (sh_133_0 hX (by omega)) (by decide) ?_
  refine ev_iload_n dX12_worked_46 rfl ?_
  refine ev_iald dX12_worked_47 (by omega) ly_134 rfl b0 ?_
  refine ev_ldc (v := 300000) dX12_worked_48 kw_12_217 ?_
  refine ev_icmpF (tgt := 198) dX12_worked_50 (by decide) c0 ?_
  refine ev_aload_n dX12_worked_53 rfl ?_
  refine ev_getS (q := 134) dX12_worked_54 fo_12_9 (by omega) lo_133 rfl (sh_133_0 hX (by omega)) (by decide) ?_
  refine ev_iload_n dX12_worked_57 rfl ?_
  refine ev_iald dX12_worked_58 (by omega) ly_134 rfl b1 ?_
  refine ev_istore dX12_worked_59 (by decide) ?_
  refine ev_iinc (v := (nI v3) + 1) dX12_worked_61 rfl (by rw [show Int32.ofInt 1 = 1 from ki_1]) (by decide) ?_
  refine ev_iload dX12_worked_64 rfl ?_
  refine ev_ldc (v := 200000) dX12_worked_66 kw_12_195 ?_
  refine ev_icmpF (tgt := 123) dX12_worked_68 (by decide) c1 ?_
  refine ev_aload_n dX12_worked_71 rfl ?_
  refine ev_getS (q := 142) dX12_worked_72 fo_12_40 (by omega) lo_133 rfl (sh_133_20 hX (by omega)) (by decide) ?_
  refine ev_iload dX12_worked_75 rfl ?_
  refine ev_iload dX12_worked_77 rfl ?_
  refine ev_ldc (v := 100000) dX12_worked_79 kw_12_178 ?_
  refine ev_icmpF (tgt := 89) dX12_worked_81 (by decide) c2 ?_
  refine ev_iload dX12_worked_84 rfl ?_
  refine ev_goto (tgt := 116) dX12_worked_86 (by decide) ?_
  refine ev_iast dX12_worked_116 (by omega) ly_142 rfl b2 ?_
  have hX1 : Sh _ (lx_up X 142 v5 (X 134 v3)) := Sh.upA hX (by rw [ly_142]; exact (by decide : 0 < 2))
  refine ev_iinc (v := (nI v5) + 1) dX12_worked_117 rfl (by rw [show Int32.ofInt 1 = 1 from ki_1]) (by decide) ?_
  refine ev_goto (tgt := 195) dX12_worked_120 (by decide) ?_
  refine ev_goto (tgt := 42) dX12_worked_195 (by decide) ?_
  exact k
theorem bX12_worked_42_1 {g : GG} {d n0 nf : Nat} {post : Option Value → LX → Prop} {n : Nat} {X : LX} (hn : 146 ≤ n) (hX : Sh n X) {v1 : Int32} {v2 : Int32} {v3 : Nat} {v4 : Int32} {v5 : Nat} (b0 : v3 < 2156) (c0 : ¬ X 134 v3 = 300000) (b1 : v3 < 2156) (c1 : ¬ 200000 ≤ X 134 v3) (c2 : 100000 ≤ X 134 v3) (c3 : v1 = 0) (k : Ev g mX12_worked d n0 nf post n 100 [some (.ref 133), some (.int v1), some (.int v2), some (.int ((nI v3) + 1)), some (.int v4), some (.int (nI v5)), some (.int (X 134 v3))] [.int v2, .int ((X 134 v3) - 100000), .ref 133, .int (nI v5), .ref 142] X) : Ev g mX12_worked d n0 nf post n 42 [some (.ref 133), some (.int v1), some (.int v2), some (.int (nI v3)), some (.int v4), some (.int (nI v5)), none] [] X := by
  refine ev_aload_n dX12_worked_42 rfl ?_
  refine ev_getS (q := 134) dX12_worked_43 fo_12_9 (by omega) lo_133 rfl (sh_133_0 hX (by omega)) (by decide) ?_
  refine ev_iload_n dX12_worked_46 rfl ?_
  refine ev_iald dX12_worked_47 (by omega) ly_134 rfl b0 ?_
  refine ev_ldc (v := 300000) dX12_worked_48 kw_12_217 ?_
  refine ev_icmpF (tgt := 198) dX12_worked_50 (by decide) c0 ?_
  refine ev_aload_n dX12_worked_53 rfl ?_
  refine ev_getS (q := 134) dX12_worked_54 fo_12_9 (by omega) lo_133 rfl (sh_133_0 hX (by omega)) (by decide) ?_
  refine ev_iload_n dX12_worked_57 rfl ?_
  refine ev_iald dX12_worked_58 (by omega) ly_134 rfl b1 ?_
  refine ev_istore dX12_worked_59 (by decide) ?_
  refine ev_iinc (v := (nI v3) + 1) dX12_worked_61 rfl (by rw [show Int32.ofInt 1 = 1 from ki_1]) (by decide) ?_
  refine ev_iload dX12_worked_64 rfl ?_
  refine ev_ldc (v := 200000) dX12_worked_66 kw_12_195 ?_
  refine ev_icmpF (tgt := 123) dX12_worked_68 (by decide) c1 ?_
  refine ev_aload_n dX12_worked_71 rfl ?_
  refine ev_getS (q := 142) dX12_worked_72 fo_12_40 (by omega) lo_133 rfl (sh_133_20 hX (by omega)) (by decide) ?_
  refine ev_iload dX12_worked_75 rfl ?_
  refine ev_iload dX12_worked_77 rfl ?_
  refine ev_ldc (v := 100000) dX12_worked_79 kw_12_178 ?_
  refine ev_icmpT (tgt := 89) dX12_worked_81 (by decide) c2 ?_
  refine ev_iload_n dX12_worked_89 rfl ?_
  refine ev_ifF (tgt := 106) dX12_worked_90 (by decide) c3 ?_
  refine ev_aload_n dX12_worked_93 rfl ?_
  refine ev_iload dX12_worked_94 rfl ?_
  refine ev_ldc (v := 100000) dX12_worked_96 kw_12_178 ?_
  refine ev_isub dX12_worked_98 ?_
  refine ev_iload_n dX12_worked_99 rfl ?_
  exact k
theorem bX12_worked_42_2 {g : GG} {d n0 nf : Nat} {post : Option Value → LX → Prop} {n : Nat} {X : LX} (hn : 146 ≤ n) (hX : Sh n X) {v1 : Int32} {v2 : Int32} {v3 : Nat} {v4 : Int32} {v5 : Nat} (b0 : v3 < 2156) (c0 : ¬ X 134 v3 = 300000) (b1 : v3 < 2156) (c1 : ¬ 200000 ≤ X 134 v3) (c2 : 100000 ≤ X 134 v3) (c3 : ¬ v1 = 0) (k : Ev g mX12_worked d n0 nf post n 113 [some (.ref 133), some (.int v1), some (.int v2), some (.int ((nI v3) + 1)), some (.int v4), some (.int (nI v5)), some (.int (X 134 v3))] [.int v2, .int ((X 134 v3) - 100000), .ref 133, .int (nI v5), .ref 142] X) : Ev g mX12_worked d n0 nf post n 42 [some (.ref 133), some (.int v1), some (.int v2), some (.int (nI v3)), some (.int v4), some (.int (nI v5)), none] [] X := by
  refine ev_aload_n dX12_worked_42 rfl ?_
  refine ev_getS (q := 134) dX12_worked_43 fo_12_9 (by omega) lo_133 rfl (sh_133_0 hX (by omega)) (by decide) ?_
  refine ev_iload_n dX12_worked_46 rfl ?_
  refine ev_iald dX12_worked_47 (by omega) ly_134 rfl b0 ?_
  refine ev_ldc (v := 300000) dX12_worked_48 kw_12_217 ?_
  refine ev_icmpF (tgt := 198) dX12_worked_50 (by decide) c0 ?_
  refine ev_aload_n dX12_worked_53 rfl ?_
  refine ev_getS (q := 134) dX12_worked_54 fo_12_9 (by omega) lo_133 rfl (sh_133_0 hX (by omega)) (by decide) ?_
  refine ev_iload_n dX12_worked_57 rfl ?_
  refine ev_iald dX12_worked_58 (by omega) ly_134 rfl b1 ?_
  refine ev_istore dX12_worked_59 (by decide) ?_
  refine ev_iinc (v := (nI v3) + 1) dX12_worked_61 rfl (by rw [show Int32.ofInt 1 = 1 from ki_1]) (by decide) ?_
  refine ev_iload dX12_worked_64 rfl ?_
  refine ev_ldc (v := 200000) dX12_worked_66 kw_12_195 ?_
  refine ev_icmpF (tgt := 123) dX12_worked_68 (by decide) c1 ?_
  refine ev_aload_n dX12_worked_71 rfl ?_
  refine ev_getS (q := 142) dX12_worked_72 fo_12_40 (by omega) lo_133 rfl (sh_133_20 hX (by omega)) (by decide) ?_
  refine ev_iload dX12_worked_75 rfl ?_
  refine ev_iload dX12_worked_77 rfl ?_
  refine ev_ldc (v := 100000) dX12_worked_79 kw_12_178 ?_
  refine ev_icmpT (tgt := 89) dX12_worked_81 (by decide) c2 ?_
  refine ev_iload_n dX12_worked_89 rfl ?_
  refine ev_ifT (tgt := 106) dX12_worked_90 (by decide) c3 ?_
  refine ev_aload_n dX12_worked_106 rfl ?_
  refine ev_iload dX12_worked_107 rfl ?_
  refine ev_ldc (v := 100000) dX12_worked_109 kw_12_178 ?_
  refine ev_isub dX12_worked_111 ?_
  refine ev_iload_n dX12_worked_112 rfl ?_
  exact k
theorem bX12_worked_42_3 {g : GG} {d n0 nf : Nat} {post : Option Value → LX → Prop} {n : Nat} {X : LX} (hn : 146 ≤ n) (hX : Sh n X) {v1 : Int32} {v2 : Int32} {v3 : Nat} {v4 : Int32} {v5 : Nat} {j1 : Nat} {j2 : Nat} (b0 : v3 < 2156) (c0 : ¬ X 134 v3 = 300000) (b1 : v3 < 2156) (c1 : 200000 ≤ X 134 v3) (c2 : X 134 v3 = 200009) (hj1 : (nI v5) - 1 = nI j1) (b2 : j1 < 128) (c3 : X 142 j1 = 0) (hj2 : (nI v5) - 1 = nI j2) (b3 : j2 < 128) (k : Ev g mX12_worked d n0 nf post n 42 [some (.ref 133), some (.int v1), some (.int v2), some (.int ((nI v3) + 1)), some (.int v4), some (.int (nI v5)), some (.int (X 134 v3))] [] (lx_up X 142 j2 1)) : Ev g mX12_worked d n0 nf post n 42 [some (.ref 133), some (.int v1), some (.int v2), some (.int (nI v3)), some (.int v4), some (.int (nI v5)), none] [] X := by
  refine ev_aload_n dX12_worked_42 rfl ?_
  refine ev_getS (q := 134) dX12_worked_43 fo_12_9 (by omega) lo_133 rfl (sh_133_0 hX (by omega)) (by decide) ?_
  refine ev_iload_n dX12_worked_46 rfl ?_
  refine ev_iald dX12_worked_47 (by omega) ly_134 rfl b0 ?_
  refine ev_ldc (v := 300000) dX12_worked_48 kw_12_217 ?_
  refine ev_icmpF (tgt := 198) dX12_worked_50 (by decide) c0 ?_
  refine ev_aload_n dX12_worked_53 rfl ?_
  refine ev_getS (q := 134) dX12_worked_54 fo_12_9 (by omega) lo_133 rfl (sh_133_0 hX (by omega)) (by decide) ?_
  refine ev_iload_n dX12_worked_57 rfl ?_
  refine ev_iald dX12_worked_58 (by omega) ly_134 rfl b1 ?_
  refine ev_istore dX12_worked_59 (by decide) ?_
  refine ev_iinc (v := (nI v3) + 1) dX12_worked_61 rfl (by rw [show Int32.ofInt 1 = 1 from ki_1]) (by decide) ?_
  refine ev_iload dX12_worked_64 rfl ?_
  refine ev_ldc (v := 200000) dX12_worked_66 kw_12_195 ?_
  refine ev_icmpT (tgt := 123) dX12_worked_68 (by decide) c1 ?_
  refine ev_iload dX12_worked_123 rfl ?_
  refine ev_ldc (v := 200009) dX12_worked_125 kw_12_185 ?_
  refine ev_icmpF (tgt := 159) dX12_worked_127 (by decide) c2 ?_
  refine ev_aload_n dX12_worked_130 rfl ?_
  refine ev_getS (q := 142) dX12_worked_131 fo_12_40 (by omega) lo_133 rfl (sh_133_20 hX (by omega)) (by decide) ?_
  refine ev_iload dX12_worked_134 rfl ?_
  refine ev_iconst (v := 1) dX12_worked_136 ki_1 ?_
  refine ev_isub dX12_worked_137 ?_
  refine ev_aload_n dX12_worked_138 rfl ?_
  refine ev_getS (q := 142) dX12_worked_139 fo_12_40 (by omega) lo_133 rfl (sh_133_20 hX (by omega)) (by decide) ?_
  refine ev_iload dX12_worked_142 rfl ?_
  refine ev_iconst (v := 1) dX12_worked_144 ki_1 ?_
  refine ev_isub dX12_worked_145 ?_
  refine ev_iald dX12_worked_146 (by omega) ly_142 hj1 b2 ?_
  refine ev_ifF (tgt := 154) dX12_worked_147 (by decide) c3 ?_
  refine ev_iconst (v := 1) dX12_worked_150 ki_1 ?_
  refine ev_goto (tgt := 155) dX12_worked_151 (by decide) ?_
  refine ev_iast dX12_worked_155 (by omega) ly_142 hj2 b3 ?_
  have hX1 : Sh _ (lx_up X 142 j2 1) := Sh.upA hX (by rw [ly_142]; exact (by decide : 0 < 2))
  refine ev_goto (tgt := 195) dX12_worked_156 (by decide) ?_
  refine ev_goto (tgt := 42) dX12_worked_195 (by decide) ?_
  exact k
theorem bX12_worked_42_4 {g : GG} {d n0 nf : Nat} {post : Option Value → LX → Prop} {n : Nat} {X : LX} (hn : 146 ≤ n) (hX : Sh n X) {v1 : Int32} {v2 : Int32} {v3 : Nat} {v4 : Int32} {v5 : Nat} {j1 : Nat} {j2 : Nat} (b0 : v3 < 2156) (c0 : ¬ X 134 v3 = 300000) (b1 : v3 < 2156) (c1 : 200000 ≤ X 134 v3) (c2 : X 134 v3 = 200009) (hj1 : (nI v5) - 1 = nI j1) (b2 : j1 < 128) (c3 : ¬ X 142 j1 = 0) (hj2 : (nI v5) - 1 = nI j2) (b3 : j2 < 128) (k : Ev g mX12_worked d n0 nf post n 42 [some (.ref 133), some (.int v1), some (.int v2), some (.int ((nI v3) + 1)), some (.int v4), some (.int (nI v5)), some (.int (X 134 v3))] [] (lx_up X 142 j2 0)) : Ev g mX12_worked d n0 nf post n 42 [some (.ref 133), some (.int v1), some (.int v2), some (.int (nI v3)), some (.int v4), some (.int (nI v5)), none] [] X := by
  refine ev_aload_n dX12_worked_42 rfl ?_
  refine ev_getS (q := 134) dX12_worked_43 fo_12_9 (by omega) lo_133 rfl (sh_133_0 hX (by omega)) (by decide) ?_
  refine ev_iload_n dX12_worked_46 rfl ?_
  refine ev_iald dX12_worked_47 (by omega) ly_134 rfl b0 ?_
  refine ev_ldc (v := 300000) dX12_worked_48 kw_12_217 ?_
  refine ev_icmpF (tgt := 198) dX12_worked_50 (by decide) c0 ?_
  refine ev_aload_n dX12_worked_53 rfl ?_
  refine ev_getS (q := 134) dX12_worked_54 fo_12_9 (by omega) lo_133 rfl (sh_133_0 hX (by omega)) (by decide) ?_
  refine ev_iload_n dX12_worked_57 rfl ?_
  refine ev_iald dX12_worked_58 (by omega) ly_134 rfl b1 ?_
  refine ev_istore dX12_worked_59 (by decide) ?_
  refine ev_iinc (v := (nI v3) + 1) dX12_worked_61 rfl (by rw [show Int32.ofInt 1 = 1 from ki_1]) (by decide) ?_
  refine ev_iload dX12_worked_64 rfl ?_
  refine ev_ldc (v := 200000) dX12_worked_66 kw_12_195 ?_
  refine ev_icmpT (tgt := 123) dX12_worked_68 (by decide) c1 ?_
  refine ev_iload dX12_worked_123 rfl ?_
  refine ev_ldc (v := 200009) dX12_worked_125 kw_12_185 ?_
  refine ev_icmpF (tgt := 159) dX12_worked_127 (by decide) c2 ?_
  refine ev_aload_n dX12_worked_130 rfl ?_
  refine ev_getS (q := 142) dX12_worked_131 fo_12_40 (by omega) lo_133 rfl (sh_133_20 hX (by omega)) (by decide) ?_
  refine ev_iload dX12_worked_134 rfl ?_
  refine ev_iconst (v := 1) dX12_worked_136 ki_1 ?_
  refine ev_isub dX12_worked_137 ?_
  refine ev_aload_n dX12_worked_138 rfl ?_
  refine ev_getS (q := 142) dX12_worked_139 fo_12_40 (by omega) lo_133 rfl (sh_133_20 hX (by omega)) (by decide) ?_
  refine ev_iload dX12_worked_142 rfl ?_
  refine ev_iconst (v := 1) dX12_worked_144 ki_1 ?_
  refine ev_isub dX12_worked_145 ?_
  refine ev_iald dX12_worked_146 (by omega) ly_142 hj1 b2 ?_
  refine ev_ifT (tgt := 154) dX12_worked_147 (by decide) c3 ?_
  refine ev_iconst (v := 0) dX12_worked_154 ki_0 ?_
  refine ev_iast dX12_worked_155 (by omega) ly_142 hj2 b3 ?_
  have hX1 : Sh _ (lx_up X 142 j2 0) := Sh.upA hX (by rw [ly_142]; exact (by decide : 0 < 2))
  refine ev_goto (tgt := 195) dX12_worked_156 (by decide) ?_
  refine ev_goto (tgt := 42) dX12_worked_195 (by decide) ?_
  exact k
theorem bX12_worked_42_5 {g : GG} {d n0 nf : Nat} {post : Option Value → LX → Prop} {n : Nat} {X : LX} (hn : 146 ≤ n) (hX : Sh n X) {v1 : Int32} {v2 : Int32} {v3 : Nat} {v4 : Int32} {v5 : Nat} {j1 : Nat} {j2 : Nat} (b0 : v3 < 2156) (c0 : ¬ X 134 v3 = 300000) (b1 : v3 < 2156) (c1 : 200000 ≤ X 134 v3) (c2 : ¬ X 134 v3 = 200009) (hj1 : ((nI v5) + (-1)) - 1 = nI j1) (b2 : j1 < 128) (hj2 : (nI v5) + (-1) = nI j2) (b3 : j2 < 128) (k : Ev g mX12_worked d n0 nf post n 191 [some (.ref 133), some (.int v1), some (.int v2), some (.int ((nI v3) + 1)), some (.int v4), some (.int ((nI v5) + (-1))), some (.int (X 134 v3))] [.int (X 142 j2), .int (X 142 j1), .int ((X 134 v3) - 200000), .int (((nI v5) + (-1)) - 1), .ref 142] X) : Ev g mX12_worked d n0 nf post n 42 [some (.ref 133), some (.int v1), some (.int v2), some (.int (nI v3)), some (.int v4), some (.int (nI v5)), none] [] X := by
  refine ev_aload_n dX12_worked_42 rfl ?_
  refine ev_getS (q := 134) dX12_worked_43 fo_12_9 (by omega) lo_133 rfl (sh_133_0 hX (by omega)) (by decide) ?_
  refine ev_iload_n dX12_worked_46 rfl ?_
  refine ev_iald dX12_worked_47 (by omega) ly_134 rfl b0 ?_
  refine ev_ldc (v := 300000) dX12_worked_48 kw_12_217 ?_
  refine ev_icmpF (tgt := 198) dX12_worked_50 (by decide) c0 ?_
  refine ev_aload_n dX12_worked_53 rfl ?_
  refine ev_getS (q := 134) dX12_worked_54 fo_12_9 (by omega) lo_133 rfl (sh_133_0 hX (by omega)) (by decide) ?_
  refine ev_iload_n dX12_worked_57 rfl ?_
  refine ev_iald dX12_worked_58 (by omega) ly_134 rfl b1 ?_
  refine ev_istore dX12_worked_59 (by decide) ?_
  refine ev_iinc (v := (nI v3) + 1) dX12_worked_61 rfl (by rw [show Int32.ofInt 1 = 1 from ki_1]) (by decide) ?_
  refine ev_iload dX12_worked_64 rfl ?_
  refine ev_ldc (v := 200000) dX12_worked_66 kw_12_195 ?_
  refine ev_icmpT (tgt := 123) dX12_worked_68 (by decide) c1 ?_
  refine ev_iload dX12_worked_123 rfl ?_
  refine ev_ldc (v := 200009) dX12_worked_125 kw_12_185 ?_
  refine ev_icmpT (tgt := 159) dX12_worked_127 (by decide) c2 ?_
  refine ev_iinc (v := (nI v5) + (-1)) dX12_worked_159 rfl (by rw [show Int32.ofInt (-1) = (-1) from ki_m1]) (by decide) ?_
  refine ev_aload_n dX12_worked_162 rfl ?_
  refine ev_getS (q := 142) dX12_worked_163 fo_12_40 (by omega) lo_133 rfl (sh_133_20 hX (by omega)) (by decide) ?_
  refine ev_iload dX12_worked_166 rfl ?_
  refine ev_iconst (v := 1) dX12_worked_168 ki_1 ?_
  refine ev_isub dX12_worked_169 ?_
  refine ev_iload dX12_worked_170 rfl ?_
  refine ev_ldc (v := 200000) dX12_worked_172 kw_12_195 ?_
  refine ev_isub dX12_worked_174 ?_
  refine ev_aload_n dX12_worked_175 rfl ?_
  refine ev_getS (q := 142) dX12_worked_176 fo_12_40 (by omega) lo_133 rfl (sh_133_20 hX (by omega)) (by decide) ?_
  refine ev_iload dX12_worked_179 rfl ?_
  refine ev_iconst (v := 1) dX12_worked_181 ki_1 ?_
  refine ev_isub dX12_worked_182 ?_
  refine ev_iald dX12_worked_183 (by omega) ly_142 hj1 b2 ?_
  refine ev_aload_n dX12_worked_184 rfl ?_
  refine ev_getS (q := 142) dX12_worked_185 fo_12_40 (by omega) lo_133 rfl (sh_133_20 hX (by omega)) (by decide) ?_
  refine ev_iload dX12_worked_188 rfl ?_
  refine ev_iald dX12_worked_190 (by omega) ly_142 hj2 b3 ?_
  exact k
theorem bX12_worked_42_6 {g : GG} {d n0 nf : Nat} {post : Option Value → LX → Prop} {n : Nat} {X : LX} (hn : 146 ≤ nf) (hX : Sh nf X) {v1 : Int32} {v2 : Int32} {v3 : Nat} {v4 : Int32} {v5 : Nat} (b0 : v3 < 2156) (c0 : X 134 v3 = 300000) (hp : post (some (.int (X 142 0))) X) : Ev g mX12_worked d n0 nf post nf 42 [some (.ref 133), some (.int v1), some (.int v2), some (.int (nI v3)), some (.int v4), some (.int (nI v5)), none] [] X := by
  refine ev_aload_n dX12_worked_42 rfl ?_
  refine ev_getS (q := 134) dX12_worked_43 fo_12_9 (by omega) lo_133 rfl (sh_133_0 hX (by omega)) (by decide) ?_
  refine ev_iload_n dX12_worked_46 rfl ?_
  refine ev_iald dX12_worked_47 (by omega) ly_134 rfl b0 ?_
  refine ev_ldc (v := 300000) dX12_worked_48 kw_12_217 ?_
  refine ev_icmpT (tgt := 198) dX12_worked_50 (by decide) c0 ?_
  refine ev_aload_n dX12_worked_198 rfl ?_
  refine ev_getS (q := 142) dX12_worked_199 fo_12_40 (by omega) lo_133 rfl (sh_133_20 hX (by omega)) (by decide) ?_
  refine ev_iconst (v := 0) dX12_worked_202 ki_0 ?_
  refine ev_iald dX12_worked_203 (by omega) ly_142 nIl_0 (by decide) ?_
  exact ev_iret dX12_worked_204 rfl rfl hp
theorem bX12_worked_103_0 {g : GG} {d n0 nf : Nat} {post : Option Value → LX → Prop} {n : Nat} {X : LX} (hn : 146 ≤ n) (hX : Sh n X) {v1 : Int32} {v2 : Int32} {v3 : Int32} {v4 : Int32} {v5 : Int32} {v6 : Int32} {s1 : Nat} {s2 : Int32} (b0 : s1 < 128) (k : Ev g mX12_worked d n0 nf post n 42 [some (.ref 133), some (.int v1), some (.int v2), some (.int v3), some (.int v4), some (.int (v5 + 1)), some (.int v6)] [] (lx_up X 142 s1 s2)) : Ev g mX12_worked d n0 nf post n 103 [some (.ref 133), some (.int v1), some (.int v2), some (.int v3), some (.int v4), some (.int v5), some (.int v6)] [.int s2, .int (nI s1), .ref 142] X := by
  refine ev_goto (tgt := 116) dX12_worked_103 (by decide) ?_
  refine ev_iast dX12_worked_116 (by omega) ly_142 rfl b0 ?_
  have hX1 : Sh _ (lx_up X 142 s1 s2) := Sh.upA hX (by rw [ly_142]; exact (by decide : 0 < 2))
  refine ev_iinc (v := v5 + 1) dX12_worked_117 rfl (by rw [show Int32.ofInt 1 = 1 from ki_1]) (by decide) ?_
  refine ev_goto (tgt := 195) dX12_worked_120 (by decide) ?_
  refine ev_goto (tgt := 42) dX12_worked_195 (by decide) ?_
  exact k
theorem bX12_worked_116_0 {g : GG} {d n0 nf : Nat} {post : Option Value → LX → Prop} {n : Nat} {X : LX} (hn : 146 ≤ n) (hX : Sh n X) {v1 : Int32} {v2 : Int32} {v3 : Int32} {v4 : Int32} {v5 : Int32} {v6 : Int32} {s1 : Nat} {s2 : Int32} (b0 : s1 < 128) (k : Ev g mX12_worked d n0 nf post n 42 [some (.ref 133), some (.int v1), some (.int v2), some (.int v3), some (.int v4), some (.int (v5 + 1)), some (.int v6)] [] (lx_up X 142 s1 s2)) : Ev g mX12_worked d n0 nf post n 116 [some (.ref 133), some (.int v1), some (.int v2), some (.int v3), some (.int v4), some (.int v5), some (.int v6)] [.int s2, .int (nI s1), .ref 142] X := by
  refine ev_iast dX12_worked_116 (by omega) ly_142 rfl b0 ?_
  have hX1 : Sh _ (lx_up X 142 s1 s2) := Sh.upA hX (by rw [ly_142]; exact (by decide : 0 < 2))
  refine ev_iinc (v := v5 + 1) dX12_worked_117 rfl (by rw [show Int32.ofInt 1 = 1 from ki_1]) (by decide) ?_
  refine ev_goto (tgt := 195) dX12_worked_120 (by decide) ?_
  refine ev_goto (tgt := 42) dX12_worked_195 (by decide) ?_
  exact k
theorem bX12_worked_194_0 {g : GG} {d n0 nf : Nat} {post : Option Value → LX → Prop} {n : Nat} {X : LX} (hn : 146 ≤ n) (hX : Sh n X) {v1 : Int32} {v2 : Int32} {v3 : Int32} {v4 : Int32} {v5 : Int32} {v6 : Int32} {s1 : Nat} {s2 : Int32} (b0 : s1 < 128) (k : Ev g mX12_worked d n0 nf post n 42 [some (.ref 133), some (.int v1), some (.int v2), some (.int v3), some (.int v4), some (.int v5), some (.int v6)] [] (lx_up X 142 s1 s2)) : Ev g mX12_worked d n0 nf post n 194 [some (.ref 133), some (.int v1), some (.int v2), some (.int v3), some (.int v4), some (.int v5), some (.int v6)] [.int s2, .int (nI s1), .ref 142] X := by
  refine ev_iast dX12_worked_194 (by omega) ly_142 rfl b0 ?_
  have hX1 : Sh _ (lx_up X 142 s1 s2) := Sh.upA hX (by rw [ly_142]; exact (by decide : 0 < 2))
  refine ev_goto (tgt := 42) dX12_worked_195 (by decide) ?_
  exact k
theorem bX12_heat_0_0 {g : GG} {d n0 nf : Nat} {post : Option Value → LX → Prop} {n : Nat} {X : LX} (hn : 146 ≤ n) (hX : Sh n X) {v1 : Int32} (k : Ev g mX12_heat d n0 nf post n 4 [some (.ref 133), some (.int v1), none] [.int 60, .int 0, .int v1] X) : Ev g mX12_heat d n0 nf post n 0 [some (.ref 133), some (.int v1), none] [] X := by
  refine ev_iload_n dX12_heat_0 rfl ?_
  refine ev_iconst (v := 0) dX12_heat_1 ki_0 ?_
  refine ev_bipush (v := 60) dX12_heat_2 kb_60 ?_
  exact k
theorem bX12_heat_7_0 {g : GG} {d n0 nf : Nat} {post : Option Value → LX → Prop} {n : Nat} {X : LX} (hn : 146 ≤ nf) (hX : Sh nf X) {v1 : Int32} {s0 : Int32} (c0 : s0 = 0) (hp : post (some (.int (-1000000001))) X) : Ev g mX12_heat d n0 nf post nf 7 [some (.ref 133), some (.int v1), none] [.int s0] X := by
  refine ev_ifF (tgt := 13) dX12_heat_7 (by decide) c0 ?_
  refine ev_ldc (v := (-1000000001)) dX12_heat_10 kw_12_57 ?_
  exact ev_iret dX12_heat_12 rfl rfl hp
theorem bX12_heat_7_1 {g : GG} {d n0 nf : Nat} {post : Option Value → LX → Prop} {n : Nat} {X : LX} (hn : 146 ≤ nf) (hX : Sh nf X) {v1 : Int32} {s0 : Int32} (c0 : ¬ s0 = 0) (hp : post (some (.int (X 134 1))) (lx_up X 134 1 v1)) : Ev g mX12_heat d n0 nf post nf 7 [some (.ref 133), some (.int v1), none] [.int s0] X := by
  refine ev_ifT (tgt := 13) dX12_heat_7 (by decide) c0 ?_
  refine ev_aload_n dX12_heat_13 rfl ?_
  refine ev_getS (q := 134) dX12_heat_14 fo_12_9 (by omega) lo_133 rfl (sh_133_0 hX (by omega)) (by decide) ?_
  refine ev_iconst (v := 1) dX12_heat_17 ki_1 ?_
  refine ev_iald dX12_heat_18 (by omega) ly_134 nIl_1 (by decide) ?_
  refine ev_istore_n dX12_heat_19 (by decide) ?_
  refine ev_aload_n dX12_heat_20 rfl ?_
  refine ev_getS (q := 134) dX12_heat_21 fo_12_9 (by omega) lo_133 rfl (sh_133_0 hX (by omega)) (by decide) ?_
  refine ev_iconst (v := 1) dX12_heat_24 ki_1 ?_
  refine ev_iload_n dX12_heat_25 rfl ?_
  refine ev_iast dX12_heat_26 (by omega) ly_134 nIl_1 (by decide) ?_
  have hX1 : Sh _ (lx_up X 134 1 v1) := Sh.upA hX (by rw [ly_134]; exact (by decide : 0 < 2))
  refine ev_iload_n dX12_heat_27 rfl ?_
  exact ev_iret dX12_heat_28 rfl rfl hp
theorem bX12_areMeals_0_0 {g : GG} {d n0 nf : Nat} {post : Option Value → LX → Prop} {n : Nat} {X : LX} (hn : 146 ≤ nf) (hX : Sh nf X) {v1 : Int32} (c0 : ¬ v1 < 0) (c1 : ¬ 1 <<< ((X 134 5) &&& 31) ≤ v1) (hp : post (some (.int 1)) X) : Ev g mX12_areMeals d n0 nf post nf 0 [some (.ref 133), some (.int v1)] [] X := by
  refine ev_iload_n dX12_areMeals_0 rfl ?_
  refine ev_ifF (tgt := 20) dX12_areMeals_1 (by decide) c0 ?_
  refine ev_iload_n dX12_areMeals_4 rfl ?_
  refine ev_iconst (v := 1) dX12_areMeals_5 ki_1 ?_
  refine ev_aload_n dX12_areMeals_6 rfl ?_
  refine ev_getS (q := 134) dX12_areMeals_7 fo_12_9 (by omega) lo_133 rfl (sh_133_0 hX (by omega)) (by decide) ?_
  refine ev_iconst (v := 5) dX12_areMeals_10 ki_5 ?_
  refine ev_iald dX12_areMeals_11 (by omega) ly_134 nIl_5 (by decide) ?_
  refine ev_ishl dX12_areMeals_12 ?_
  refine ev_icmpF (tgt := 20) dX12_areMeals_13 (by decide) c1 ?_
  refine ev_iconst (v := 1) dX12_areMeals_16 ki_1 ?_
  refine ev_goto (tgt := 21) dX12_areMeals_17 (by decide) ?_
  exact ev_iret dX12_areMeals_21 rfl (by decide) hp
theorem bX12_areMeals_0_1 {g : GG} {d n0 nf : Nat} {post : Option Value → LX → Prop} {n : Nat} {X : LX} (hn : 146 ≤ nf) (hX : Sh nf X) {v1 : Int32} (c0 : ¬ v1 < 0) (c1 : 1 <<< ((X 134 5) &&& 31) ≤ v1) (hp : post (some (.int 0)) X) : Ev g mX12_areMeals d n0 nf post nf 0 [some (.ref 133), some (.int v1)] [] X := by
  refine ev_iload_n dX12_areMeals_0 rfl ?_
  refine ev_ifF (tgt := 20) dX12_areMeals_1 (by decide) c0 ?_
  refine ev_iload_n dX12_areMeals_4 rfl ?_
  refine ev_iconst (v := 1) dX12_areMeals_5 ki_1 ?_
  refine ev_aload_n dX12_areMeals_6 rfl ?_
  refine ev_getS (q := 134) dX12_areMeals_7 fo_12_9 (by omega) lo_133 rfl (sh_133_0 hX (by omega)) (by decide) ?_
  refine ev_iconst (v := 5) dX12_areMeals_10 ki_5 ?_
  refine ev_iald dX12_areMeals_11 (by omega) ly_134 nIl_5 (by decide) ?_
  refine ev_ishl dX12_areMeals_12 ?_
  refine ev_icmpT (tgt := 20) dX12_areMeals_13 (by decide) c1 ?_
  refine ev_iconst (v := 0) dX12_areMeals_20 ki_0 ?_
  exact ev_iret dX12_areMeals_21 rfl (by decide) hp
theorem bX12_areMeals_0_2 {g : GG} {d n0 nf : Nat} {post : Option Value → LX → Prop} {n : Nat} {X : LX} (hn : 146 ≤ nf) (hX : Sh nf X) {v1 : Int32} (c0 : v1 < 0) (hp : post (some (.int 0)) X) : Ev g mX12_areMeals d n0 nf post nf 0 [some (.ref 133), some (.int v1)] [] X := by
  refine ev_iload_n dX12_areMeals_0 rfl ?_
  refine ev_ifT (tgt := 20) dX12_areMeals_1 (by decide) c0 ?_
  refine ev_iconst (v := 0) dX12_areMeals_20 ki_0 ?_
  exact ev_iret dX12_areMeals_21 rfl (by decide) hp
theorem bX12_menu_0_0 {g : GG} {d n0 nf : Nat} {post : Option Value → LX → Prop} {n : Nat} {X : LX} (hn : 146 ≤ n) (hX : Sh n X) {v1 : Int32} (k : Ev g mX12_menu d n0 nf post n 2 [some (.ref 133), some (.int v1), none] [.int v1, .ref 133] X) : Ev g mX12_menu d n0 nf post n 0 [some (.ref 133), some (.int v1), none] [] X := by
  refine ev_aload_n dX12_menu_0 rfl ?_
  refine ev_iload_n dX12_menu_1 rfl ?_
  exact k
theorem bX12_menu_5_0 {g : GG} {d n0 nf : Nat} {post : Option Value → LX → Prop} {n : Nat} {X : LX} (hn : 146 ≤ nf) (hX : Sh nf X) {v1 : Int32} {s0 : Int32} (c0 : s0 = 0) (hp : post (some (.int (-1000000001))) X) : Ev g mX12_menu d n0 nf post nf 5 [some (.ref 133), some (.int v1), none] [.int s0] X := by
  refine ev_ifF (tgt := 11) dX12_menu_5 (by decide) c0 ?_
  refine ev_ldc (v := (-1000000001)) dX12_menu_8 kw_12_57 ?_
  exact ev_iret dX12_menu_10 rfl rfl hp
theorem bX12_menu_5_1 {g : GG} {d n0 nf : Nat} {post : Option Value → LX → Prop} {n : Nat} {X : LX} (hn : 146 ≤ nf) (hX : Sh nf X) {v1 : Int32} {s0 : Int32} (c0 : ¬ s0 = 0) (c1 : X 134 3 = 1) (hp : post (some (.int (-1000000002))) X) : Ev g mX12_menu d n0 nf post nf 5 [some (.ref 133), some (.int v1), none] [.int s0] X := by
  refine ev_ifT (tgt := 11) dX12_menu_5 (by decide) c0 ?_
  refine ev_aload_n dX12_menu_11 rfl ?_
  refine ev_getS (q := 134) dX12_menu_12 fo_12_9 (by omega) lo_133 rfl (sh_133_0 hX (by omega)) (by decide) ?_
  refine ev_iconst (v := 3) dX12_menu_15 ki_3 ?_
  refine ev_iald dX12_menu_16 (by omega) ly_134 nIl_3 (by decide) ?_
  refine ev_iconst (v := 1) dX12_menu_17 ki_1 ?_
  refine ev_icmpF (tgt := 24) dX12_menu_18 (by decide) c1 ?_
  refine ev_ldc (v := (-1000000002)) dX12_menu_21 kw_12_80 ?_
  exact ev_iret dX12_menu_23 rfl rfl hp
theorem bX12_menu_5_2 {g : GG} {d n0 nf : Nat} {post : Option Value → LX → Prop} {n : Nat} {X : LX} (hn : 146 ≤ n) (hX : Sh n X) {v1 : Int32} {s0 : Int32} (c0 : ¬ s0 = 0) (c1 : ¬ X 134 3 = 1) (k : Ev g mX12_menu d n0 nf post n 34 [some (.ref 133), some (.int v1), some (.int 0)] [] (lx_up X 134 8 v1)) : Ev g mX12_menu d n0 nf post n 5 [some (.ref 133), some (.int v1), none] [.int s0] X := by
  refine ev_ifT (tgt := 11) dX12_menu_5 (by decide) c0 ?_
  refine ev_aload_n dX12_menu_11 rfl ?_
  refine ev_getS (q := 134) dX12_menu_12 fo_12_9 (by omega) lo_133 rfl (sh_133_0 hX (by omega)) (by decide) ?_
  refine ev_iconst (v := 3) dX12_menu_15 ki_3 ?_
  refine ev_iald dX12_menu_16 (by omega) ly_134 nIl_3 (by decide) ?_
  refine ev_iconst (v := 1) dX12_menu_17 ki_1 ?_
  refine ev_icmpT (tgt := 24) dX12_menu_18 (by decide) c1 ?_
  refine ev_aload_n dX12_menu_24 rfl ?_
  refine ev_getS (q := 134) dX12_menu_25 fo_12_9 (by omega) lo_133 rfl (sh_133_0 hX (by omega)) (by decide) ?_
  refine ev_bipush (v := 8) dX12_menu_28 kb_8 ?_
  refine ev_iload_n dX12_menu_30 rfl ?_
  refine ev_iast dX12_menu_31 (by omega) ly_134 nIl_8 (by decide) ?_
  have hX1 : Sh _ (lx_up X 134 8 v1) := Sh.upA hX (by rw [ly_134]; exact (by decide : 0 < 2))
  refine ev_iconst (v := 0) dX12_menu_32 ki_0 ?_
  refine ev_istore_n dX12_menu_33 (by decide) ?_
  exact k
theorem bX12_menu_34_0 {g : GG} {d n0 nf : Nat} {post : Option Value → LX → Prop} {n : Nat} {X : LX} (hn : 146 ≤ n) (hX : Sh n X) {v1 : Int32} {v2 : Int32} (c0 : ¬ X 134 6 ≤ v2) (k : Ev g mX12_menu d n0 nf post n 51 [some (.ref 133), some (.int v1), some (.int v2)] [.int 4, .int v2, .ref 134] X) : Ev g mX12_menu d n0 nf post n 34 [some (.ref 133), some (.int v1), some (.int v2)] [] X := by
  refine ev_iload_n dX12_menu_34 rfl ?_
  refine ev_aload_n dX12_menu_35 rfl ?_
  refine ev_getS (q := 134) dX12_menu_36 fo_12_9 (by omega) lo_133 rfl (sh_133_0 hX (by omega)) (by decide) ?_
  refine ev_bipush (v := 6) dX12_menu_39 kb_6 ?_
  refine ev_iald dX12_menu_41 (by omega) ly_134 nIl_6 (by decide) ?_
  refine ev_icmpF (tgt := 62) dX12_menu_42 (by decide) c0 ?_
  refine ev_aload_n dX12_menu_45 rfl ?_
  refine ev_getS (q := 134) dX12_menu_46 fo_12_9 (by omega) lo_133 rfl (sh_133_0 hX (by omega)) (by decide) ?_
  refine ev_iload_n dX12_menu_49 rfl ?_
  refine ev_iconst (v := 4) dX12_menu_50 ki_4 ?_
  exact k
theorem bX12_menu_34_1 {g : GG} {d n0 nf : Nat} {post : Option Value → LX → Prop} {n : Nat} {X : LX} (hn : 146 ≤ n) (hX : Sh n X) {v1 : Int32} {v2 : Int32} (c0 : X 134 6 ≤ v2) (k : Ev g mX12_menu d n0 nf post n 63 [some (.ref 133), some (.int v1), some (.int v2)] [.int v1] X) : Ev g mX12_menu d n0 nf post n 34 [some (.ref 133), some (.int v1), some (.int v2)] [] X := by
  refine ev_iload_n dX12_menu_34 rfl ?_
  refine ev_aload_n dX12_menu_35 rfl ?_
  refine ev_getS (q := 134) dX12_menu_36 fo_12_9 (by omega) lo_133 rfl (sh_133_0 hX (by omega)) (by decide) ?_
  refine ev_bipush (v := 6) dX12_menu_39 kb_6 ?_
  refine ev_iald dX12_menu_41 (by omega) ly_134 nIl_6 (by decide) ?_
  refine ev_icmpT (tgt := 62) dX12_menu_42 (by decide) c0 ?_
  refine ev_iload_n dX12_menu_62 rfl ?_
  exact k
theorem bX12_menu_54_0 {g : GG} {d n0 nf : Nat} {post : Option Value → LX → Prop} {n : Nat} {X : LX} (hn : 146 ≤ n) (hX : Sh n X) {v1 : Int32} {v2 : Int32} {s1 : Nat} (b0 : s1 < 2156) (k : Ev g mX12_menu d n0 nf post n 34 [some (.ref 133), some (.int v1), some (.int (v2 + 1))] [] (lx_up X 134 s1 0)) : Ev g mX12_menu d n0 nf post n 54 [some (.ref 133), some (.int v1), some (.int v2)] [.int (nI s1), .ref 134] X := by
  refine ev_iconst (v := 0) dX12_menu_54 ki_0 ?_
  refine ev_iast dX12_menu_55 (by omega) ly_134 rfl b0 ?_
  have hX1 : Sh _ (lx_up X 134 s1 0) := Sh.upA hX (by rw [ly_134]; exact (by decide : 0 < 2))
  refine ev_iinc (v := v2 + 1) dX12_menu_56 rfl (by rw [show Int32.ofInt 1 = 1 from ki_1]) (by decide) ?_
  refine ev_goto (tgt := 34) dX12_menu_59 (by decide) ?_
  exact k
theorem bX12_menu_66_0 {g : GG} {d n0 nf : Nat} {post : Option Value → LX → Prop} {n : Nat} {X : LX} (hn : 146 ≤ nf) (hX : Sh nf X) {v1 : Int32} {v2 : Int32} {s0 : Int32} (hp : post (some (.int s0)) X) : Ev g mX12_menu d n0 nf post nf 66 [some (.ref 133), some (.int v1), some (.int v2)] [.int s0] X := by
  exact ev_iret dX12_menu_66 rfl rfl hp
theorem bX12_keptBy_0_0 {g : GG} {d n0 nf : Nat} {post : Option Value → LX → Prop} {n : Nat} {X : LX} (hn : 146 ≤ n) (hX : Sh n X) {v1 : Int32} (k : Ev g mX12_keptBy d n0 nf post n 1 [some (.ref 133), some (.int v1), none, none, none, none, none] [.int v1] X) : Ev g mX12_keptBy d n0 nf post n 0 [some (.ref 133), some (.int v1), none, none, none, none, none] [] X := by
  refine ev_iload_n dX12_keptBy_0 rfl ?_
  exact k
theorem bX12_keptBy_4_0 {g : GG} {d n0 nf : Nat} {post : Option Value → LX → Prop} {n : Nat} {X : LX} (hn : 146 ≤ n) (hX : Sh n X) {v1 : Int32} {s0 : Int32} (c0 : s0 = 1) (k : Ev g mX12_keptBy d n0 nf post n 19 [some (.ref 133), some (.int v1), some (.int 1), some (.int 0), some (.int 0), none, none] [] X) : Ev g mX12_keptBy d n0 nf post n 4 [some (.ref 133), some (.int v1), none, none, none, none, none] [.int s0] X := by
  refine ev_iconst (v := 1) dX12_keptBy_4 ki_1 ?_
  refine ev_icmpF (tgt := 12) dX12_keptBy_5 (by decide) c0 ?_
  refine ev_iconst (v := 1) dX12_keptBy_8 ki_1 ?_
  refine ev_goto (tgt := 13) dX12_keptBy_9 (by decide) ?_
  refine ev_istore_n dX12_keptBy_13 (by decide) ?_
  refine ev_iconst (v := 0) dX12_keptBy_14 ki_0 ?_
  refine ev_istore_n dX12_keptBy_15 (by decide) ?_
  refine ev_iconst (v := 0) dX12_keptBy_16 ki_0 ?_
  refine ev_istore dX12_keptBy_17 (by decide) ?_
  exact k
theorem bX12_keptBy_4_1 {g : GG} {d n0 nf : Nat} {post : Option Value → LX → Prop} {n : Nat} {X : LX} (hn : 146 ≤ n) (hX : Sh n X) {v1 : Int32} {s0 : Int32} (c0 : ¬ s0 = 1) (k : Ev g mX12_keptBy d n0 nf post n 19 [some (.ref 133), some (.int v1), some (.int 2), some (.int 0), some (.int 0), none, none] [] X) : Ev g mX12_keptBy d n0 nf post n 4 [some (.ref 133), some (.int v1), none, none, none, none, none] [.int s0] X := by
  refine ev_iconst (v := 1) dX12_keptBy_4 ki_1 ?_
  refine ev_icmpT (tgt := 12) dX12_keptBy_5 (by decide) c0 ?_
  refine ev_iconst (v := 2) dX12_keptBy_12 ki_2 ?_
  refine ev_istore_n dX12_keptBy_13 (by decide) ?_
  refine ev_iconst (v := 0) dX12_keptBy_14 ki_0 ?_
  refine ev_istore_n dX12_keptBy_15 (by decide) ?_
  refine ev_iconst (v := 0) dX12_keptBy_16 ki_0 ?_
  refine ev_istore dX12_keptBy_17 (by decide) ?_
  exact k
theorem bX12_keptBy_19_0 {g : GG} {d n0 nf : Nat} {post : Option Value → LX → Prop} {n : Nat} {X : LX} (hn : 146 ≤ n) (hX : Sh n X) {v1 : Int32} {v2 : Int32} {v3 : Int32} {v4 : Int32} (c0 : ¬ X 134 6 ≤ v4) (k : Ev g mX12_keptBy d n0 nf post n 37 [some (.ref 133), some (.int v1), some (.int v2), some (.int v3), some (.int v4), some (.int 0), some (.int 0)] [] X) : Ev g mX12_keptBy d n0 nf post n 19 [some (.ref 133), some (.int v1), some (.int v2), some (.int v3), some (.int v4), none, none] [] X := by
  refine ev_iload dX12_keptBy_19 rfl ?_
  refine ev_aload_n dX12_keptBy_21 rfl ?_
  refine ev_getS (q := 134) dX12_keptBy_22 fo_12_9 (by omega) lo_133 rfl (sh_133_0 hX (by omega)) (by decide) ?_
  refine ev_bipush (v := 6) dX12_keptBy_25 kb_6 ?_
  refine ev_iald dX12_keptBy_27 (by omega) ly_134 nIl_6 (by decide) ?_
  refine ev_icmpF (tgt := 118) dX12_keptBy_28 (by decide) c0 ?_
  refine ev_iconst (v := 0) dX12_keptBy_31 ki_0 ?_
  refine ev_istore dX12_keptBy_32 (by decide) ?_
  refine ev_iconst (v := 0) dX12_keptBy_34 ki_0 ?_
  refine ev_istore dX12_keptBy_35 (by decide) ?_
  exact k
theorem bX12_keptBy_19_1 {g : GG} {d n0 nf : Nat} {post : Option Value → LX → Prop} {n : Nat} {X : LX} (hn : 146 ≤ nf) (hX : Sh nf X) {v1 : Int32} {v2 : Int32} {v3 : Int32} {v4 : Int32} (c0 : X 134 6 ≤ v4) (hp : post (some (.int v3)) X) : Ev g mX12_keptBy d n0 nf post nf 19 [some (.ref 133), some (.int v1), some (.int v2), some (.int v3), some (.int v4), none, none] [] X := by
  refine ev_iload dX12_keptBy_19 rfl ?_
  refine ev_aload_n dX12_keptBy_21 rfl ?_
  refine ev_getS (q := 134) dX12_keptBy_22 fo_12_9 (by omega) lo_133 rfl (sh_133_0 hX (by omega)) (by decide) ?_
  refine ev_bipush (v := 6) dX12_keptBy_25 kb_6 ?_
  refine ev_iald dX12_keptBy_27 (by omega) ly_134 nIl_6 (by decide) ?_
  refine ev_icmpT (tgt := 118) dX12_keptBy_28 (by decide) c0 ?_
  refine ev_iload_n dX12_keptBy_118 rfl ?_
  exact ev_iret dX12_keptBy_119 rfl rfl hp
theorem bX12_keptBy_37_0 {g : GG} {d n0 nf : Nat} {post : Option Value → LX → Prop} {n : Nat} {X : LX} (hn : 146 ≤ n) (hX : Sh n X) {v1 : Int32} {v2 : Int32} {v3 : Int32} {v4 : Int32} {v5 : Int32} {v6 : Int32} (c0 : ¬ 10 ≤ v6) (k : Ev g mX12_keptBy d n0 nf post n 49 [some (.ref 133), some (.int v1), some (.int v2), some (.int v3), some (.int v4), some (.int v5), some (.int v6)] [.int v6, .int v1, .int v5] X) : Ev g mX12_keptBy d n0 nf post n 37 [some (.ref 133), some (.int v1), some (.int v2), some (.int v3), some (.int v4), some (.int v5), some (.int v6)] [] X := by
  refine ev_iload dX12_keptBy_37 rfl ?_
  refine ev_bipush (v := 10) dX12_keptBy_39 kb_10 ?_
  refine ev_icmpF (tgt := 98) dX12_keptBy_41 (by decide) c0 ?_
  refine ev_iload dX12_keptBy_44 rfl ?_
  refine ev_iload_n dX12_keptBy_46 rfl ?_
  refine ev_iload dX12_keptBy_47 rfl ?_
  exact k
theorem bX12_keptBy_37_1 {g : GG} {d n0 nf : Nat} {post : Option Value → LX → Prop} {n : Nat} {X : LX} (hn : 146 ≤ n) (hX : Sh n X) {v1 : Int32} {v2 : Int32} {v3 : Int32} {v4 : Int32} {v5 : Int32} {v6 : Int32} (c0 : 10 ≤ v6) (c1 : ¬ v5 < v2) (k : Ev g mX12_keptBy d n0 nf post n 19 [some (.ref 133), some (.int v1), some (.int v2), some (.int (v3 + 1)), some (.int (v4 + 1)), some (.int v5), some (.int v6)] [] X) : Ev g mX12_keptBy d n0 nf post n 37 [some (.ref 133), some (.int v1), some (.int v2), some (.int v3), some (.int v4), some (.int v5), some (.int v6)] [] X := by
  refine ev_iload dX12_keptBy_37 rfl ?_
  refine ev_bipush (v := 10) dX12_keptBy_39 kb_10 ?_
  refine ev_icmpT (tgt := 98) dX12_keptBy_41 (by decide) c0 ?_
  refine ev_iload_n dX12_keptBy_98 rfl ?_
  refine ev_iload dX12_keptBy_99 rfl ?_
  refine ev_iload_n dX12_keptBy_101 rfl ?_
  refine ev_icmpF (tgt := 109) dX12_keptBy_102 (by decide) c1 ?_
  refine ev_iconst (v := 1) dX12_keptBy_105 ki_1 ?_
  refine ev_goto (tgt := 110) dX12_keptBy_106 (by decide) ?_
  refine ev_iadd dX12_keptBy_110 ?_
  refine ev_istore_n dX12_keptBy_111 (by decide) ?_
  refine ev_iinc (v := v4 + 1) dX12_keptBy_112 rfl (by rw [show Int32.ofInt 1 = 1 from ki_1]) (by decide) ?_
  refine ev_goto (tgt := 19) dX12_keptBy_115 (by decide) ?_
  exact k
theorem bX12_keptBy_37_2 {g : GG} {d n0 nf : Nat} {post : Option Value → LX → Prop} {n : Nat} {X : LX} (hn : 146 ≤ n) (hX : Sh n X) {v1 : Int32} {v2 : Int32} {v3 : Int32} {v4 : Int32} {v5 : Int32} {v6 : Int32} (c0 : 10 ≤ v6) (c1 : v5 < v2) (k : Ev g mX12_keptBy d n0 nf post n 19 [some (.ref 133), some (.int v1), some (.int v2), some (.int (v3 + 0)), some (.int (v4 + 1)), some (.int v5), some (.int v6)] [] X) : Ev g mX12_keptBy d n0 nf post n 37 [some (.ref 133), some (.int v1), some (.int v2), some (.int v3), some (.int v4), some (.int v5), some (.int v6)] [] X := by
  refine ev_iload dX12_keptBy_37 rfl ?_
  refine ev_bipush (v := 10) dX12_keptBy_39 kb_10 ?_
  refine ev_icmpT (tgt := 98) dX12_keptBy_41 (by decide) c0 ?_
  refine ev_iload_n dX12_keptBy_98 rfl ?_
  refine ev_iload dX12_keptBy_99 rfl ?_
  refine ev_iload_n dX12_keptBy_101 rfl ?_
  refine ev_icmpT (tgt := 109) dX12_keptBy_102 (by decide) c1 ?_
  refine ev_iconst (v := 0) dX12_keptBy_109 ki_0 ?_
  refine ev_iadd dX12_keptBy_110 ?_
  refine ev_istore_n dX12_keptBy_111 (by decide) ?_
  refine ev_iinc (v := v4 + 1) dX12_keptBy_112 rfl (by rw [show Int32.ofInt 1 = 1 from ki_1]) (by decide) ?_
  refine ev_goto (tgt := 19) dX12_keptBy_115 (by decide) ?_
  exact k
theorem bX12_keptBy_52_0 {g : GG} {d n0 nf : Nat} {post : Option Value → LX → Prop} {n : Nat} {X : LX} (hn : 146 ≤ n) (hX : Sh n X) {v1 : Int32} {v2 : Int32} {v3 : Int32} {v4 : Int32} {v5 : Int32} {v6 : Int32} {s0 : Int32} {s1 : Int32} (c0 : ¬ s1 = 0) (k : Ev g mX12_keptBy d n0 nf post n 60 [some (.ref 133), some (.int v1), some (.int v2), some (.int v3), some (.int v4), some (.int v5), some (.int v6)] [.int v6, .int v4, .ref 133, .int s0] X) : Ev g mX12_keptBy d n0 nf post n 52 [some (.ref 133), some (.int v1), some (.int v2), some (.int v3), some (.int v4), some (.int v5), some (.int v6)] [.int s1, .int s0] X := by
  refine ev_ifF (tgt := 88) dX12_keptBy_52 (by decide) c0 ?_
  refine ev_aload_n dX12_keptBy_55 rfl ?_
  refine ev_iload dX12_keptBy_56 rfl ?_
  refine ev_iload dX12_keptBy_58 rfl ?_
  exact k
theorem bX12_keptBy_52_1 {g : GG} {d n0 nf : Nat} {post : Option Value → LX → Prop} {n : Nat} {X : LX} (hn : 146 ≤ n) (hX : Sh n X) {v1 : Int32} {v2 : Int32} {v3 : Int32} {v4 : Int32} {v5 : Int32} {v6 : Int32} {s0 : Int32} {s1 : Int32} (c0 : s1 = 0) (k : Ev g mX12_keptBy d n0 nf post n 37 [some (.ref 133), some (.int v1), some (.int v2), some (.int v3), some (.int v4), some (.int (s0 + 0)), some (.int (v6 + 1))] [] X) : Ev g mX12_keptBy d n0 nf post n 52 [some (.ref 133), some (.int v1), some (.int v2), some (.int v3), some (.int v4), some (.int v5), some (.int v6)] [.int s1, .int s0] X := by
  refine ev_ifT (tgt := 88) dX12_keptBy_52 (by decide) c0 ?_
  refine ev_iconst (v := 0) dX12_keptBy_88 ki_0 ?_
  refine ev_iadd dX12_keptBy_89 ?_
  refine ev_istore dX12_keptBy_90 (by decide) ?_
  refine ev_iinc (v := v6 + 1) dX12_keptBy_92 rfl (by rw [show Int32.ofInt 1 = 1 from ki_1]) (by decide) ?_
  refine ev_goto (tgt := 37) dX12_keptBy_95 (by decide) ?_
  exact k
theorem bX12_keptBy_63_0 {g : GG} {d n0 nf : Nat} {post : Option Value → LX → Prop} {n : Nat} {X : LX} (hn : 146 ≤ n) (hX : Sh n X) {v1 : Int32} {v2 : Int32} {v3 : Int32} {v4 : Int32} {v5 : Int32} {v6 : Int32} {s0 : Int32} {s1 : Int32} (c0 : ¬ s1 = 0) (k : Ev g mX12_keptBy d n0 nf post n 76 [some (.ref 133), some (.int v1), some (.int v2), some (.int v3), some (.int v4), some (.int v5), some (.int v6)] [.int (5 + v6), .int v4, .ref 134, .int s0] X) : Ev g mX12_keptBy d n0 nf post n 63 [some (.ref 133), some (.int v1), some (.int v2), some (.int v3), some (.int v4), some (.int v5), some (.int v6)] [.int s1, .int s0] X := by
  refine ev_ifF (tgt := 88) dX12_keptBy_63 (by decide) c0 ?_
  refine ev_aload_n dX12_keptBy_66 rfl ?_
  refine ev_getS (q := 134) dX12_keptBy_67 fo_12_9 (by omega) lo_133 rfl (sh_133_0 hX (by omega)) (by decide) ?_
  refine ev_iload dX12_keptBy_70 rfl ?_
  refine ev_iconst (v := 5) dX12_keptBy_72 ki_5 ?_
  refine ev_iload dX12_keptBy_73 rfl ?_
  refine ev_iadd dX12_keptBy_75 ?_
  exact k
theorem bX12_keptBy_63_1 {g : GG} {d n0 nf : Nat} {post : Option Value → LX → Prop} {n : Nat} {X : LX} (hn : 146 ≤ n) (hX : Sh n X) {v1 : Int32} {v2 : Int32} {v3 : Int32} {v4 : Int32} {v5 : Int32} {v6 : Int32} {s0 : Int32} {s1 : Int32} (c0 : s1 = 0) (k : Ev g mX12_keptBy d n0 nf post n 37 [some (.ref 133), some (.int v1), some (.int v2), some (.int v3), some (.int v4), some (.int (s0 + 0)), some (.int (v6 + 1))] [] X) : Ev g mX12_keptBy d n0 nf post n 63 [some (.ref 133), some (.int v1), some (.int v2), some (.int v3), some (.int v4), some (.int v5), some (.int v6)] [.int s1, .int s0] X := by
  refine ev_ifT (tgt := 88) dX12_keptBy_63 (by decide) c0 ?_
  refine ev_iconst (v := 0) dX12_keptBy_88 ki_0 ?_
  refine ev_iadd dX12_keptBy_89 ?_
  refine ev_istore dX12_keptBy_90 (by decide) ?_
  refine ev_iinc (v := v6 + 1) dX12_keptBy_92 rfl (by rw [show Int32.ofInt 1 = 1 from ki_1]) (by decide) ?_
  refine ev_goto (tgt := 37) dX12_keptBy_95 (by decide) ?_
  exact k
theorem bX12_keptBy_79_0 {g : GG} {d n0 nf : Nat} {post : Option Value → LX → Prop} {n : Nat} {X : LX} (hn : 146 ≤ n) (hX : Sh n X) {v1 : Int32} {v2 : Int32} {v3 : Int32} {v4 : Int32} {v5 : Int32} {v6 : Int32} {s0 : Int32} {s2 : Nat} (b0 : s2 < 2156) (c0 : ¬ X 134 s2 < 5) (k : Ev g mX12_keptBy d n0 nf post n 37 [some (.ref 133), some (.int v1), some (.int v2), some (.int v3), some (.int v4), some (.int (s0 + 1)), some (.int (v6 + 1))] [] X) : Ev g mX12_keptBy d n0 nf post n 79 [some (.ref 133), some (.int v1), some (.int v2), some (.int v3), some (.int v4), some (.int v5), some (.int v6)] [.int (nI s2), .ref 134, .int s0] X := by
  refine ev_iald dX12_keptBy_79 (by omega) ly_134 rfl b0 ?_
  refine ev_iconst (v := 5) dX12_keptBy_80 ki_5 ?_
  refine ev_icmpF (tgt := 88) dX12_keptBy_81 (by decide) c0 ?_
  refine ev_iconst (v := 1) dX12_keptBy_84 ki_1 ?_
  refine ev_goto (tgt := 89) dX12_keptBy_85 (by decide) ?_
  refine ev_iadd dX12_keptBy_89 ?_
  refine ev_istore dX12_keptBy_90 (by decide) ?_
  refine ev_iinc (v := v6 + 1) dX12_keptBy_92 rfl (by rw [show Int32.ofInt 1 = 1 from ki_1]) (by decide) ?_
  refine ev_goto (tgt := 37) dX12_keptBy_95 (by decide) ?_
  exact k
theorem bX12_keptBy_79_1 {g : GG} {d n0 nf : Nat} {post : Option Value → LX → Prop} {n : Nat} {X : LX} (hn : 146 ≤ n) (hX : Sh n X) {v1 : Int32} {v2 : Int32} {v3 : Int32} {v4 : Int32} {v5 : Int32} {v6 : Int32} {s0 : Int32} {s2 : Nat} (b0 : s2 < 2156) (c0 : X 134 s2 < 5) (k : Ev g mX12_keptBy d n0 nf post n 37 [some (.ref 133), some (.int v1), some (.int v2), some (.int v3), some (.int v4), some (.int (s0 + 0)), some (.int (v6 + 1))] [] X) : Ev g mX12_keptBy d n0 nf post n 79 [some (.ref 133), some (.int v1), some (.int v2), some (.int v3), some (.int v4), some (.int v5), some (.int v6)] [.int (nI s2), .ref 134, .int s0] X := by
  refine ev_iald dX12_keptBy_79 (by omega) ly_134 rfl b0 ?_
  refine ev_iconst (v := 5) dX12_keptBy_80 ki_5 ?_
  refine ev_icmpT (tgt := 88) dX12_keptBy_81 (by decide) c0 ?_
  refine ev_iconst (v := 0) dX12_keptBy_88 ki_0 ?_
  refine ev_iadd dX12_keptBy_89 ?_
  refine ev_istore dX12_keptBy_90 (by decide) ?_
  refine ev_iinc (v := v6 + 1) dX12_keptBy_92 rfl (by rw [show Int32.ofInt 1 = 1 from ki_1]) (by decide) ?_
  refine ev_goto (tgt := 37) dX12_keptBy_95 (by decide) ?_
  exact k
theorem bX12_kept_0_0 {g : GG} {d n0 nf : Nat} {post : Option Value → LX → Prop} {n : Nat} {X : LX} (hn : 146 ≤ n) (hX : Sh n X) {v1 : Int32} (k : Ev g mX12_kept d n0 nf post n 2 [some (.ref 133), some (.int v1)] [.int v1, .ref 133] X) : Ev g mX12_kept d n0 nf post n 0 [some (.ref 133), some (.int v1)] [] X := by
  refine ev_aload_n dX12_kept_0 rfl ?_
  refine ev_iload_n dX12_kept_1 rfl ?_
  exact k
theorem bX12_kept_5_0 {g : GG} {d n0 nf : Nat} {post : Option Value → LX → Prop} {n : Nat} {X : LX} (hn : 146 ≤ n) (hX : Sh n X) {v1 : Int32} {s0 : Int32} (c0 : ¬ s0 = 0) (k : Ev g mX12_kept d n0 nf post n 9 [some (.ref 133), some (.int v1)] [.int v1] X) : Ev g mX12_kept d n0 nf post n 5 [some (.ref 133), some (.int v1)] [.int s0] X := by
  refine ev_ifF (tgt := 20) dX12_kept_5 (by decide) c0 ?_
  refine ev_iload_n dX12_kept_8 rfl ?_
  exact k
theorem bX12_kept_5_1 {g : GG} {d n0 nf : Nat} {post : Option Value → LX → Prop} {n : Nat} {X : LX} (hn : 146 ≤ nf) (hX : Sh nf X) {v1 : Int32} {s0 : Int32} (c0 : s0 = 0) (hp : post (some (.int (-1000000001))) X) : Ev g mX12_kept d n0 nf post nf 5 [some (.ref 133), some (.int v1)] [.int s0] X := by
  refine ev_ifT (tgt := 20) dX12_kept_5 (by decide) c0 ?_
  refine ev_ldc (v := (-1000000001)) dX12_kept_20 kw_12_57 ?_
  refine ev_goto (tgt := 30) dX12_kept_22 (by decide) ?_
  exact ev_iret dX12_kept_30 rfl rfl hp
theorem bX12_kept_12_0 {g : GG} {d n0 nf : Nat} {post : Option Value → LX → Prop} {n : Nat} {X : LX} (hn : 146 ≤ n) (hX : Sh n X) {v1 : Int32} {s0 : Int32} (k : Ev g mX12_kept d n0 nf post n 14 [some (.ref 133), some (.int v1)] [.int 4, .int 1, .int s0] X) : Ev g mX12_kept d n0 nf post n 12 [some (.ref 133), some (.int v1)] [.int s0] X := by
  refine ev_iconst (v := 1) dX12_kept_12 ki_1 ?_
  refine ev_iconst (v := 4) dX12_kept_13 ki_4 ?_
  exact k
theorem bX12_kept_17_0 {g : GG} {d n0 nf : Nat} {post : Option Value → LX → Prop} {n : Nat} {X : LX} (hn : 146 ≤ nf) (hX : Sh nf X) {v1 : Int32} {s0 : Int32} (c0 : s0 = 0) (hp : post (some (.int (-1000000001))) X) : Ev g mX12_kept d n0 nf post nf 17 [some (.ref 133), some (.int v1)] [.int s0] X := by
  refine ev_ifF (tgt := 25) dX12_kept_17 (by decide) c0 ?_
  refine ev_ldc (v := (-1000000001)) dX12_kept_20 kw_12_57 ?_
  refine ev_goto (tgt := 30) dX12_kept_22 (by decide) ?_
  exact ev_iret dX12_kept_30 rfl rfl hp
theorem bX12_kept_17_1 {g : GG} {d n0 nf : Nat} {post : Option Value → LX → Prop} {n : Nat} {X : LX} (hn : 146 ≤ n) (hX : Sh n X) {v1 : Int32} {s0 : Int32} (c0 : ¬ s0 = 0) (k : Ev g mX12_kept d n0 nf post n 27 [some (.ref 133), some (.int v1)] [.int v1, .ref 133] X) : Ev g mX12_kept d n0 nf post n 17 [some (.ref 133), some (.int v1)] [.int s0] X := by
  refine ev_ifT (tgt := 25) dX12_kept_17 (by decide) c0 ?_
  refine ev_aload_n dX12_kept_25 rfl ?_
  refine ev_iload_n dX12_kept_26 rfl ?_
  exact k
theorem bX12_kept_30_0 {g : GG} {d n0 nf : Nat} {post : Option Value → LX → Prop} {n : Nat} {X : LX} (hn : 146 ≤ nf) (hX : Sh nf X) {v1 : Int32} {s0 : Int32} (hp : post (some (.int s0)) X) : Ev g mX12_kept d n0 nf post nf 30 [some (.ref 133), some (.int v1)] [.int s0] X := by
  exact ev_iret dX12_kept_30 rfl rfl hp
theorem bX12_takeMenu_0_0 {g : GG} {d n0 nf : Nat} {post : Option Value → LX → Prop} {n : Nat} {X : LX} (hn : 146 ≤ n) (hX : Sh n X) {v1 : Int32} (k : Ev g mX12_takeMenu d n0 nf post n 7 [some (.ref 133), some (.int v1), some (.int 0), some (.int 0), some (.int 0)] [] X) : Ev g mX12_takeMenu d n0 nf post n 0 [some (.ref 133), some (.int v1), none, none, none] [] X := by
  refine ev_iconst (v := 0) dX12_takeMenu_0 ki_0 ?_
  refine ev_istore_n dX12_takeMenu_1 (by decide) ?_
  refine ev_iconst (v := 0) dX12_takeMenu_2 ki_0 ?_
  refine ev_istore_n dX12_takeMenu_3 (by decide) ?_
  refine ev_iconst (v := 0) dX12_takeMenu_4 ki_0 ?_
  refine ev_istore dX12_takeMenu_5 (by decide) ?_
  exact k
theorem bX12_takeMenu_7_0 {g : GG} {d n0 nf : Nat} {post : Option Value → LX → Prop} {n : Nat} {X : LX} (hn : 146 ≤ n) (hX : Sh n X) {v1 : Int32} {v2 : Int32} {v3 : Int32} {v4 : Int32} (c0 : ¬ 10 ≤ v4) (c1 : v2 = 0) (k : Ev g mX12_takeMenu d n0 nf post n 21 [some (.ref 133), some (.int v1), some (.int v2), some (.int v3), some (.int v4)] [.int v4, .int v1] X) : Ev g mX12_takeMenu d n0 nf post n 7 [some (.ref 133), some (.int v1), some (.int v2), some (.int v3), some (.int v4)] [] X := by
  refine ev_iload dX12_takeMenu_7 rfl ?_
  refine ev_bipush (v := 10) dX12_takeMenu_9 kb_10 ?_
  refine ev_icmpF (tgt := 70) dX12_takeMenu_11 (by decide) c0 ?_
  refine ev_iload_n dX12_takeMenu_14 rfl ?_
  refine ev_ifF (tgt := 36) dX12_takeMenu_15 (by decide) c1 ?_
  refine ev_iload_n dX12_takeMenu_18 rfl ?_
  refine ev_iload dX12_takeMenu_19 rfl ?_
  exact k
theorem bX12_takeMenu_7_1 {g : GG} {d n0 nf : Nat} {post : Option Value → LX → Prop} {n : Nat} {X : LX} (hn : 146 ≤ n) (hX : Sh n X) {v1 : Int32} {v2 : Int32} {v3 : Int32} {v4 : Int32} (c0 : ¬ 10 ≤ v4) (c1 : ¬ v2 = 0) (k : Ev g mX12_takeMenu d n0 nf post n 46 [some (.ref 133), some (.int v1), some (.int 1), some (.int v3), some (.int v4)] [.int v4, .int v1, .int v3] X) : Ev g mX12_takeMenu d n0 nf post n 7 [some (.ref 133), some (.int v1), some (.int v2), some (.int v3), some (.int v4)] [] X := by
  refine ev_iload dX12_takeMenu_7 rfl ?_
  refine ev_bipush (v := 10) dX12_takeMenu_9 kb_10 ?_
  refine ev_icmpF (tgt := 70) dX12_takeMenu_11 (by decide) c0 ?_
  refine ev_iload_n dX12_takeMenu_14 rfl ?_
  refine ev_ifT (tgt := 36) dX12_takeMenu_15 (by decide) c1 ?_
  refine ev_iconst (v := 1) dX12_takeMenu_36 ki_1 ?_
  refine ev_goto (tgt := 41) dX12_takeMenu_37 (by decide) ?_
  refine ev_istore_n dX12_takeMenu_41 (by decide) ?_
  refine ev_iload_n dX12_takeMenu_42 rfl ?_
  refine ev_iload_n dX12_takeMenu_43 rfl ?_
  refine ev_iload dX12_takeMenu_44 rfl ?_
  exact k
theorem bX12_takeMenu_7_2 {g : GG} {d n0 nf : Nat} {post : Option Value → LX → Prop} {n : Nat} {X : LX} (hn : 146 ≤ n) (hX : Sh n X) {v1 : Int32} {v2 : Int32} {v3 : Int32} {v4 : Int32} (c0 : 10 ≤ v4) (k : Ev g mX12_takeMenu d n0 nf post n 72 [some (.ref 133), some (.int v1), some (.int v2), some (.int v3), some (.int v4)] [.int v1, .ref 133] X) : Ev g mX12_takeMenu d n0 nf post n 7 [some (.ref 133), some (.int v1), some (.int v2), some (.int v3), some (.int v4)] [] X := by
  refine ev_iload dX12_takeMenu_7 rfl ?_
  refine ev_bipush (v := 10) dX12_takeMenu_9 kb_10 ?_
  refine ev_icmpT (tgt := 70) dX12_takeMenu_11 (by decide) c0 ?_
  refine ev_aload_n dX12_takeMenu_70 rfl ?_
  refine ev_iload_n dX12_takeMenu_71 rfl ?_
  exact k
theorem bX12_takeMenu_24_0 {g : GG} {d n0 nf : Nat} {post : Option Value → LX → Prop} {n : Nat} {X : LX} (hn : 146 ≤ n) (hX : Sh n X) {v1 : Int32} {v2 : Int32} {v3 : Int32} {v4 : Int32} {s0 : Int32} (c0 : ¬ s0 = 0) (k : Ev g mX12_takeMenu d n0 nf post n 30 [some (.ref 133), some (.int v1), some (.int v2), some (.int v3), some (.int v4)] [.int v4, .ref 133] X) : Ev g mX12_takeMenu d n0 nf post n 24 [some (.ref 133), some (.int v1), some (.int v2), some (.int v3), some (.int v4)] [.int s0] X := by
  refine ev_ifF (tgt := 40) dX12_takeMenu_24 (by decide) c0 ?_
  refine ev_aload_n dX12_takeMenu_27 rfl ?_
  refine ev_iload dX12_takeMenu_28 rfl ?_
  exact k
theorem bX12_takeMenu_24_1 {g : GG} {d n0 nf : Nat} {post : Option Value → LX → Prop} {n : Nat} {X : LX} (hn : 146 ≤ n) (hX : Sh n X) {v1 : Int32} {v2 : Int32} {v3 : Int32} {v4 : Int32} {s0 : Int32} (c0 : s0 = 0) (k : Ev g mX12_takeMenu d n0 nf post n 46 [some (.ref 133), some (.int v1), some (.int 0), some (.int v3), some (.int v4)] [.int v4, .int v1, .int v3] X) : Ev g mX12_takeMenu d n0 nf post n 24 [some (.ref 133), some (.int v1), some (.int v2), some (.int v3), some (.int v4)] [.int s0] X := by
  refine ev_ifT (tgt := 40) dX12_takeMenu_24 (by decide) c0 ?_
  refine ev_iconst (v := 0) dX12_takeMenu_40 ki_0 ?_
  refine ev_istore_n dX12_takeMenu_41 (by decide) ?_
  refine ev_iload_n dX12_takeMenu_42 rfl ?_
  refine ev_iload_n dX12_takeMenu_43 rfl ?_
  refine ev_iload dX12_takeMenu_44 rfl ?_
  exact k
theorem bX12_takeMenu_33_0 {g : GG} {d n0 nf : Nat} {post : Option Value → LX → Prop} {n : Nat} {X : LX} (hn : 146 ≤ n) (hX : Sh n X) {v1 : Int32} {v2 : Int32} {v3 : Int32} {v4 : Int32} {s0 : Int32} (c0 : ¬ s0 = 0) (k : Ev g mX12_takeMenu d n0 nf post n 46 [some (.ref 133), some (.int v1), some (.int 1), some (.int v3), some (.int v4)] [.int v4, .int v1, .int v3] X) : Ev g mX12_takeMenu d n0 nf post n 33 [some (.ref 133), some (.int v1), some (.int v2), some (.int v3), some (.int v4)] [.int s0] X := by
  refine ev_ifF (tgt := 40) dX12_takeMenu_33 (by decide) c0 ?_
  refine ev_iconst (v := 1) dX12_takeMenu_36 ki_1 ?_
  refine ev_goto (tgt := 41) dX12_takeMenu_37 (by decide) ?_
  refine ev_istore_n dX12_takeMenu_41 (by decide) ?_
  refine ev_iload_n dX12_takeMenu_42 rfl ?_
  refine ev_iload_n dX12_takeMenu_43 rfl ?_
  refine ev_iload dX12_takeMenu_44 rfl ?_
  exact k
theorem bX12_takeMenu_33_1 {g : GG} {d n0 nf : Nat} {post : Option Value → LX → Prop} {n : Nat} {X : LX} (hn : 146 ≤ n) (hX : Sh n X) {v1 : Int32} {v2 : Int32} {v3 : Int32} {v4 : Int32} {s0 : Int32} (c0 : s0 = 0) (k : Ev g mX12_takeMenu d n0 nf post n 46 [some (.ref 133), some (.int v1), some (.int 0), some (.int v3), some (.int v4)] [.int v4, .int v1, .int v3] X) : Ev g mX12_takeMenu d n0 nf post n 33 [some (.ref 133), some (.int v1), some (.int v2), some (.int v3), some (.int v4)] [.int s0] X := by
  refine ev_ifT (tgt := 40) dX12_takeMenu_33 (by decide) c0 ?_
  refine ev_iconst (v := 0) dX12_takeMenu_40 ki_0 ?_
  refine ev_istore_n dX12_takeMenu_41 (by decide) ?_
  refine ev_iload_n dX12_takeMenu_42 rfl ?_
  refine ev_iload_n dX12_takeMenu_43 rfl ?_
  refine ev_iload dX12_takeMenu_44 rfl ?_
  exact k
theorem bX12_takeMenu_49_0 {g : GG} {d n0 nf : Nat} {post : Option Value → LX → Prop} {n : Nat} {X : LX} (hn : 146 ≤ n) (hX : Sh n X) {v1 : Int32} {v2 : Int32} {v3 : Int32} {v4 : Int32} {s0 : Int32} {s1 : Int32} (c0 : ¬ s1 = 0) (k : Ev g mX12_takeMenu d n0 nf post n 55 [some (.ref 133), some (.int v1), some (.int v2), some (.int v3), some (.int v4)] [.int v4, .ref 133, .int s0] X) : Ev g mX12_takeMenu d n0 nf post n 49 [some (.ref 133), some (.int v1), some (.int v2), some (.int v3), some (.int v4)] [.int s1, .int s0] X := by
  refine ev_ifF (tgt := 61) dX12_takeMenu_49 (by decide) c0 ?_
  refine ev_aload_n dX12_takeMenu_52 rfl ?_
  refine ev_iload dX12_takeMenu_53 rfl ?_
  exact k
theorem bX12_takeMenu_49_1 {g : GG} {d n0 nf : Nat} {post : Option Value → LX → Prop} {n : Nat} {X : LX} (hn : 146 ≤ n) (hX : Sh n X) {v1 : Int32} {v2 : Int32} {v3 : Int32} {v4 : Int32} {s0 : Int32} {s1 : Int32} (c0 : s1 = 0) (k : Ev g mX12_takeMenu d n0 nf post n 7 [some (.ref 133), some (.int v1), some (.int v2), some (.int (s0 + 0)), some (.int (v4 + 1))] [] X) : Ev g mX12_takeMenu d n0 nf post n 49 [some (.ref 133), some (.int v1), some (.int v2), some (.int v3), some (.int v4)] [.int s1, .int s0] X := by
  refine ev_ifT (tgt := 61) dX12_takeMenu_49 (by decide) c0 ?_
  refine ev_iconst (v := 0) dX12_takeMenu_61 ki_0 ?_
  refine ev_iadd dX12_takeMenu_62 ?_
  refine ev_istore_n dX12_takeMenu_63 (by decide) ?_
  refine ev_iinc (v := v4 + 1) dX12_takeMenu_64 rfl (by rw [show Int32.ofInt 1 = 1 from ki_1]) (by decide) ?_
  refine ev_goto (tgt := 7) dX12_takeMenu_67 (by decide) ?_
  exact k
theorem bX12_takeMenu_58_0 {g : GG} {d n0 nf : Nat} {post : Option Value → LX → Prop} {n : Nat} {X : LX} (hn : 146 ≤ n) (hX : Sh n X) {v1 : Int32} {v2 : Int32} {v3 : Int32} {v4 : Int32} {s0 : Int32} {s1 : Int32} (k : Ev g mX12_takeMenu d n0 nf post n 7 [some (.ref 133), some (.int v1), some (.int v2), some (.int (s0 + s1)), some (.int (v4 + 1))] [] X) : Ev g mX12_takeMenu d n0 nf post n 58 [some (.ref 133), some (.int v1), some (.int v2), some (.int v3), some (.int v4)] [.int s1, .int s0] X := by
  refine ev_goto (tgt := 62) dX12_takeMenu_58 (by decide) ?_
  refine ev_iadd dX12_takeMenu_62 ?_
  refine ev_istore_n dX12_takeMenu_63 (by decide) ?_
  refine ev_iinc (v := v4 + 1) dX12_takeMenu_64 rfl (by rw [show Int32.ofInt 1 = 1 from ki_1]) (by decide) ?_
  refine ev_goto (tgt := 7) dX12_takeMenu_67 (by decide) ?_
  exact k
theorem bX12_takeMenu_75_0 {g : GG} {d n0 nf : Nat} {post : Option Value → LX → Prop} {n : Nat} {X : LX} (hn : 146 ≤ nf) (hX : Sh nf X) {v1 : Int32} {v2 : Int32} {v3 : Int32} {v4 : Int32} {s0 : Int32} (c0 : ¬ v2 = 0) (c1 : ¬ X 133 23 < 0) (c2 : ¬ X 133 24 < s0) (c3 : s0 = X 133 24) (c4 : ¬ X 133 25 ≤ v3) (hp : post none (lx_up (lx_up (lx_up X 133 23 v1) 133 24 s0) 133 25 v3)) : Ev g mX12_takeMenu d n0 nf post nf 75 [some (.ref 133), some (.int v1), some (.int v2), some (.int v3), some (.int v4)] [.int s0] X := by
  refine ev_istore dX12_takeMenu_75 (by decide) ?_
  refine ev_iload_n dX12_takeMenu_77 rfl ?_
  refine ev_ifF (tgt := 130) dX12_takeMenu_78 (by decide) c0 ?_
  refine ev_aload_n dX12_takeMenu_81 rfl ?_
  refine ev_getI dX12_takeMenu_82 fo_12_238 (by omega) lo_133 rfl ?_
  refine ev_ifF (tgt := 114) dX12_takeMenu_85 (by decide) c1 ?_
  refine ev_iload dX12_takeMenu_88 rfl ?_
  refine ev_aload_n dX12_takeMenu_90 rfl ?_
  refine ev_getI dX12_takeMenu_91 fo_12_241 (by omega) lo_133 rfl ?_
  refine ev_icmpF (tgt := 114) dX12_takeMenu_94 (by decide) c2 ?_
  refine ev_iload dX12_takeMenu_97 rfl ?_
  refine ev_aload_n dX12_takeMenu_99 rfl ?_
  refine ev_getI dX12_takeMenu_100 fo_12_241 (by omega) lo_133 rfl ?_
  refine ev_icmpF (tgt := 130) dX12_takeMenu_103 (by decide) c3 ?_
  refine ev_iload_n dX12_takeMenu_106 rfl ?_
  refine ev_aload_n dX12_takeMenu_107 rfl ?_
  refine ev_getI dX12_takeMenu_108 fo_12_244 (by omega) lo_133 rfl ?_
  refine ev_icmpF (tgt := 130) dX12_takeMenu_111 (by decide) c4 ?_
  refine ev_aload_n dX12_takeMenu_114 rfl ?_
  refine ev_iload_n dX12_takeMenu_115 rfl ?_
  refine ev_putI dX12_takeMenu_116 fo_12_238 (by omega) lo_133 rfl rfl rfl ?_
  have hX1 : Sh _ (lx_up X 133 23 v1) := Sh.upF hX (by rw [lo_133]; decide) (by decide)
  refine ev_aload_n dX12_takeMenu_119 rfl ?_
  refine ev_iload dX12_takeMenu_120 rfl ?_
  refine ev_putI dX12_takeMenu_122 fo_12_241 (by omega) lo_133 rfl rfl rfl ?_
  have hX2 : Sh _ (lx_up (lx_up X 133 23 v1) 133 24 s0) := Sh.upF hX1 (by rw [lo_133]; decide) (by decide)
  refine ev_aload_n dX12_takeMenu_125 rfl ?_
  refine ev_iload_n dX12_takeMenu_126 rfl ?_
  refine ev_putI dX12_takeMenu_127 fo_12_244 (by omega) lo_133 rfl rfl rfl ?_
  have hX3 : Sh _ (lx_up (lx_up (lx_up X 133 23 v1) 133 24 s0) 133 25 v3) := Sh.upF hX2 (by rw [lo_133]; decide) (by decide)
  exact ev_ret dX12_takeMenu_130 rfl hp
theorem bX12_takeMenu_75_1 {g : GG} {d n0 nf : Nat} {post : Option Value → LX → Prop} {n : Nat} {X : LX} (hn : 146 ≤ nf) (hX : Sh nf X) {v1 : Int32} {v2 : Int32} {v3 : Int32} {v4 : Int32} {s0 : Int32} (c0 : ¬ v2 = 0) (c1 : ¬ X 133 23 < 0) (c2 : ¬ X 133 24 < s0) (c3 : s0 = X 133 24) (c4 : X 133 25 ≤ v3) (hp : post none X) : Ev g mX12_takeMenu d n0 nf post nf 75 [some (.ref 133), some (.int v1), some (.int v2), some (.int v3), some (.int v4)] [.int s0] X := by
  refine ev_istore dX12_takeMenu_75 (by decide) ?_
  refine ev_iload_n dX12_takeMenu_77 rfl ?_
  refine ev_ifF (tgt := 130) dX12_takeMenu_78 (by decide) c0 ?_
  refine ev_aload_n dX12_takeMenu_81 rfl ?_
  refine ev_getI dX12_takeMenu_82 fo_12_238 (by omega) lo_133 rfl ?_
  refine ev_ifF (tgt := 114) dX12_takeMenu_85 (by decide) c1 ?_
  refine ev_iload dX12_takeMenu_88 rfl ?_
  refine ev_aload_n dX12_takeMenu_90 rfl ?_
  refine ev_getI dX12_takeMenu_91 fo_12_241 (by omega) lo_133 rfl ?_
  refine ev_icmpF (tgt := 114) dX12_takeMenu_94 (by decide) c2 ?_
  refine ev_iload dX12_takeMenu_97 rfl ?_
  refine ev_aload_n dX12_takeMenu_99 rfl ?_
  refine ev_getI dX12_takeMenu_100 fo_12_241 (by omega) lo_133 rfl ?_
  refine ev_icmpF (tgt := 130) dX12_takeMenu_103 (by decide) c3 ?_
  refine ev_iload_n dX12_takeMenu_106 rfl ?_
  refine ev_aload_n dX12_takeMenu_107 rfl ?_
  refine ev_getI dX12_takeMenu_108 fo_12_244 (by omega) lo_133 rfl ?_
  refine ev_icmpT (tgt := 130) dX12_takeMenu_111 (by decide) c4 ?_
  exact ev_ret dX12_takeMenu_130 rfl hp
theorem bX12_takeMenu_75_2 {g : GG} {d n0 nf : Nat} {post : Option Value → LX → Prop} {n : Nat} {X : LX} (hn : 146 ≤ nf) (hX : Sh nf X) {v1 : Int32} {v2 : Int32} {v3 : Int32} {v4 : Int32} {s0 : Int32} (c0 : ¬ v2 = 0) (c1 : ¬ X 133 23 < 0) (c2 : ¬ X 133 24 < s0) (c3 : ¬ s0 = X 133 24) (hp : post none X) : Ev g mX12_takeMenu d n0 nf post nf 75 [some (.ref 133), some (.int v1), some (.int v2), some (.int v3), some (.int v4)] [.int s0] X := by
  refine ev_istore dX12_takeMenu_75 (by decide) ?_
  refine ev_iload_n dX12_takeMenu_77 rfl ?_
  refine ev_ifF (tgt := 130) dX12_takeMenu_78 (by decide) c0 ?_
  refine ev_aload_n dX12_takeMenu_81 rfl ?_
  refine ev_getI dX12_takeMenu_82 fo_12_238 (by omega) lo_133 rfl ?_
  refine ev_ifF (tgt := 114) dX12_takeMenu_85 (by decide) c1 ?_
  refine ev_iload dX12_takeMenu_88 rfl ?_
  refine ev_aload_n dX12_takeMenu_90 rfl ?_
  refine ev_getI dX12_takeMenu_91 fo_12_241 (by omega) lo_133 rfl ?_
  refine ev_icmpF (tgt := 114) dX12_takeMenu_94 (by decide) c2 ?_
  refine ev_iload dX12_takeMenu_97 rfl ?_
  refine ev_aload_n dX12_takeMenu_99 rfl ?_
  refine ev_getI dX12_takeMenu_100 fo_12_241 (by omega) lo_133 rfl ?_
  refine ev_icmpT (tgt := 130) dX12_takeMenu_103 (by decide) c3 ?_
  exact ev_ret dX12_takeMenu_130 rfl hp
theorem bX12_takeMenu_75_3 {g : GG} {d n0 nf : Nat} {post : Option Value → LX → Prop} {n : Nat} {X : LX} (hn : 146 ≤ nf) (hX : Sh nf X) {v1 : Int32} {v2 : Int32} {v3 : Int32} {v4 : Int32} {s0 : Int32} (c0 : ¬ v2 = 0) (c1 : ¬ X 133 23 < 0) (c2 : X 133 24 < s0) (hp : post none (lx_up (lx_up (lx_up X 133 23 v1) 133 24 s0) 133 25 v3)) : Ev g mX12_takeMenu d n0 nf post nf 75 [some (.ref 133), some (.int v1), some (.int v2), some (.int v3), some (.int v4)] [.int s0] X := by
  refine ev_istore dX12_takeMenu_75 (by decide) ?_
  refine ev_iload_n dX12_takeMenu_77 rfl ?_
  refine ev_ifF (tgt := 130) dX12_takeMenu_78 (by decide) c0 ?_
  refine ev_aload_n dX12_takeMenu_81 rfl ?_
  refine ev_getI dX12_takeMenu_82 fo_12_238 (by omega) lo_133 rfl ?_
  refine ev_ifF (tgt := 114) dX12_takeMenu_85 (by decide) c1 ?_
  refine ev_iload dX12_takeMenu_88 rfl ?_
  refine ev_aload_n dX12_takeMenu_90 rfl ?_
  refine ev_getI dX12_takeMenu_91 fo_12_241 (by omega) lo_133 rfl ?_
  refine ev_icmpT (tgt := 114) dX12_takeMenu_94 (by decide) c2 ?_
  refine ev_aload_n dX12_takeMenu_114 rfl ?_
  refine ev_iload_n dX12_takeMenu_115 rfl ?_
  refine ev_putI dX12_takeMenu_116 fo_12_238 (by omega) lo_133 rfl rfl rfl ?_
  have hX1 : Sh _ (lx_up X 133 23 v1) := Sh.upF hX (by rw [lo_133]; decide) (by decide)
  refine ev_aload_n dX12_takeMenu_119 rfl ?_
  refine ev_iload dX12_takeMenu_120 rfl ?_
  refine ev_putI dX12_takeMenu_122 fo_12_241 (by omega) lo_133 rfl rfl rfl ?_
  have hX2 : Sh _ (lx_up (lx_up X 133 23 v1) 133 24 s0) := Sh.upF hX1 (by rw [lo_133]; decide) (by decide)
  refine ev_aload_n dX12_takeMenu_125 rfl ?_
  refine ev_iload_n dX12_takeMenu_126 rfl ?_
  refine ev_putI dX12_takeMenu_127 fo_12_244 (by omega) lo_133 rfl rfl rfl ?_
  have hX3 : Sh _ (lx_up (lx_up (lx_up X 133 23 v1) 133 24 s0) 133 25 v3) := Sh.upF hX2 (by rw [lo_133]; decide) (by decide)
  exact ev_ret dX12_takeMenu_130 rfl hp
theorem bX12_takeMenu_75_4 {g : GG} {d n0 nf : Nat} {post : Option Value → LX → Prop} {n : Nat} {X : LX} (hn : 146 ≤ nf) (hX : Sh nf X) {v1 : Int32} {v2 : Int32} {v3 : Int32} {v4 : Int32} {s0 : Int32} (c0 : ¬ v2 = 0) (c1 : X 133 23 < 0) (hp : post none (lx_up (lx_up (lx_up X 133 23 v1) 133 24 s0) 133 25 v3)) : Ev g mX12_takeMenu d n0 nf post nf 75 [some (.ref 133), some (.int v1), some (.int v2), some (.int v3), some (.int v4)] [.int s0] X := by
  refine ev_istore dX12_takeMenu_75 (by decide) ?_
  refine ev_iload_n dX12_takeMenu_77 rfl ?_
  refine ev_ifF (tgt := 130) dX12_takeMenu_78 (by decide) c0 ?_
  refine ev_aload_n dX12_takeMenu_81 rfl ?_
  refine ev_getI dX12_takeMenu_82 fo_12_238 (by omega) lo_133 rfl ?_
  refine ev_ifT (tgt := 114) dX12_takeMenu_85 (by decide) c1 ?_
  refine ev_aload_n dX12_takeMenu_114 rfl ?_
  refine ev_iload_n dX12_takeMenu_115 rfl ?_
  refine ev_putI dX12_takeMenu_116 fo_12_238 (by omega) lo_133 rfl rfl rfl ?_
  have hX1 : Sh _ (lx_up X 133 23 v1) := Sh.upF hX (by rw [lo_133]; decide) (by decide)
  refine ev_aload_n dX12_takeMenu_119 rfl ?_
  refine ev_iload dX12_takeMenu_120 rfl ?_
  refine ev_putI dX12_takeMenu_122 fo_12_241 (by omega) lo_133 rfl rfl rfl ?_
  have hX2 : Sh _ (lx_up (lx_up X 133 23 v1) 133 24 s0) := Sh.upF hX1 (by rw [lo_133]; decide) (by decide)
  refine ev_aload_n dX12_takeMenu_125 rfl ?_
  refine ev_iload_n dX12_takeMenu_126 rfl ?_
  refine ev_putI dX12_takeMenu_127 fo_12_244 (by omega) lo_133 rfl rfl rfl ?_
  have hX3 : Sh _ (lx_up (lx_up (lx_up X 133 23 v1) 133 24 s0) 133 25 v3) := Sh.upF hX2 (by rw [lo_133]; decide) (by decide)
  exact ev_ret dX12_takeMenu_130 rfl hp
theorem bX12_takeMenu_75_5 {g : GG} {d n0 nf : Nat} {post : Option Value → LX → Prop} {n : Nat} {X : LX} (hn : 146 ≤ nf) (hX : Sh nf X) {v1 : Int32} {v2 : Int32} {v3 : Int32} {v4 : Int32} {s0 : Int32} (c0 : v2 = 0) (hp : post none X) : Ev g mX12_takeMenu d n0 nf post nf 75 [some (.ref 133), some (.int v1), some (.int v2), some (.int v3), some (.int v4)] [.int s0] X := by
  refine ev_istore dX12_takeMenu_75 (by decide) ?_
  refine ev_iload_n dX12_takeMenu_77 rfl ?_
  refine ev_ifT (tgt := 130) dX12_takeMenu_78 (by decide) c0 ?_
  exact ev_ret dX12_takeMenu_130 rfl hp
theorem bX12_menuFrom_0_0 {g : GG} {d n0 nf : Nat} {post : Option Value → LX → Prop} {n : Nat} {X : LX} (hn : 146 ≤ n) (hX : Sh n X) {v1 : Int32} {v2 : Int32} {v3 : Int32} {v4 : Int32} (c0 : v2 = 0) (k : Ev g mX12_menuFrom d n0 nf post n 6 [some (.ref 133), some (.int v1), some (.int v2), some (.int v3), some (.int v4), none, none] [.int v3, .ref 133] X) : Ev g mX12_menuFrom d n0 nf post n 0 [some (.ref 133), some (.int v1), some (.int v2), some (.int v3), some (.int v4), none, none] [] X := by
  refine ev_iload_n dX12_menuFrom_0 rfl ?_
  refine ev_ifF (tgt := 10) dX12_menuFrom_1 (by decide) c0 ?_
  refine ev_aload_n dX12_menuFrom_4 rfl ?_
  refine ev_iload_n dX12_menuFrom_5 rfl ?_
  exact k
theorem bX12_menuFrom_0_1 {g : GG} {d n0 nf : Nat} {post : Option Value → LX → Prop} {n : Nat} {X : LX} (hn : 146 ≤ n) (hX : Sh n X) {v1 : Int32} {v2 : Int32} {v3 : Int32} {v4 : Int32} (c0 : ¬ v2 = 0) (k : Ev g mX12_menuFrom d n0 nf post n 13 [some (.ref 133), some (.int v1), some (.int v2), some (.int v3), some (.int v4), some (.int v1), none] [] X) : Ev g mX12_menuFrom d n0 nf post n 0 [some (.ref 133), some (.int v1), some (.int v2), some (.int v3), some (.int v4), none, none] [] X := by
  refine ev_iload_n dX12_menuFrom_0 rfl ?_
  refine ev_ifT (tgt := 10) dX12_menuFrom_1 (by decide) c0 ?_
  refine ev_iload_n dX12_menuFrom_10 rfl ?_
  refine ev_istore dX12_menuFrom_11 (by decide) ?_
  exact k
theorem bX12_menuFrom_9_0 {g : GG} {d n0 nf : Nat} {post : Option Value → LX → Prop} {n : Nat} {X : LX} (hn : 146 ≤ nf) (hX : Sh nf X) {v1 : Int32} {v2 : Int32} {v3 : Int32} {v4 : Int32} (hp : post none X) : Ev g mX12_menuFrom d n0 nf post nf 9 [some (.ref 133), some (.int v1), some (.int v2), some (.int v3), some (.int v4), none, none] [] X := by
  exact ev_ret dX12_menuFrom_9 rfl hp
theorem bX12_menuFrom_13_0 {g : GG} {d n0 nf : Nat} {post : Option Value → LX → Prop} {n : Nat} {X : LX} (hn : 146 ≤ n) (hX : Sh n X) {v1 : Int32} {v2 : Int32} {v3 : Int32} {v4 : Int32} {v5 : Int32} (c0 : ¬ X 134 5 ≤ v5) (c1 : X 133 22 = 0) (k : Ev g mX12_menuFrom d n0 nf post n 38 [some (.ref 133), some (.int v1), some (.int v2), some (.int v3), some (.int v4), some (.int v5), none] [.int 1, .int v5, .ref 134] X) : Ev g mX12_menuFrom d n0 nf post n 13 [some (.ref 133), some (.int v1), some (.int v2), some (.int v3), some (.int v4), some (.int v5), none] [] X := by
  refine ev_iload dX12_menuFrom_13 rfl ?_
  refine ev_aload_n dX12_menuFrom_15 rfl ?_
  refine ev_getS (q := 134) dX12_menuFrom_16 fo_12_9 (by omega) lo_133 rfl (sh_133_0 hX (by omega)) (by decide) ?_
  refine ev_iconst (v := 5) dX12_menuFrom_19 ki_5 ?_
  refine ev_iald dX12_menuFrom_20 (by omega) ly_134 nIl_5 (by decide) ?_
  refine ev_icmpF (tgt := 120) dX12_menuFrom_21 (by decide) c0 ?_
  refine ev_aload_n dX12_menuFrom_24 rfl ?_
  refine ev_getI dX12_menuFrom_25 fo_12_250 (by omega) lo_133 rfl ?_
  refine ev_ifF (tgt := 120) dX12_menuFrom_28 (by decide) c1 ?_
  refine ev_aload_n dX12_menuFrom_31 rfl ?_
  refine ev_getS (q := 134) dX12_menuFrom_32 fo_12_9 (by omega) lo_133 rfl (sh_133_0 hX (by omega)) (by decide) ?_
  refine ev_iload dX12_menuFrom_35 rfl ?_
  refine ev_iconst (v := 1) dX12_menuFrom_37 ki_1 ?_
  exact k
theorem bX12_menuFrom_13_1 {g : GG} {d n0 nf : Nat} {post : Option Value → LX → Prop} {n : Nat} {X : LX} (hn : 146 ≤ nf) (hX : Sh nf X) {v1 : Int32} {v2 : Int32} {v3 : Int32} {v4 : Int32} {v5 : Int32} (c0 : ¬ X 134 5 ≤ v5) (c1 : ¬ X 133 22 = 0) (hp : post none X) : Ev g mX12_menuFrom d n0 nf post nf 13 [some (.ref 133), some (.int v1), some (.int v2), some (.int v3), some (.int v4), some (.int v5), none] [] X := by
  refine ev_iload dX12_menuFrom_13 rfl ?_
  refine ev_aload_n dX12_menuFrom_15 rfl ?_
  refine ev_getS (q := 134) dX12_menuFrom_16 fo_12_9 (by omega) lo_133 rfl (sh_133_0 hX (by omega)) (by decide) ?_
  refine ev_iconst (v := 5) dX12_menuFrom_19 ki_5 ?_
  refine ev_iald dX12_menuFrom_20 (by omega) ly_134 nIl_5 (by decide) ?_
  refine ev_icmpF (tgt := 120) dX12_menuFrom_21 (by decide) c0 ?_
  refine ev_aload_n dX12_menuFrom_24 rfl ?_
  refine ev_getI dX12_menuFrom_25 fo_12_250 (by omega) lo_133 rfl ?_
  refine ev_ifT (tgt := 120) dX12_menuFrom_28 (by decide) c1 ?_
  exact ev_ret dX12_menuFrom_120 rfl hp
theorem bX12_menuFrom_13_2 {g : GG} {d n0 nf : Nat} {post : Option Value → LX → Prop} {n : Nat} {X : LX} (hn : 146 ≤ nf) (hX : Sh nf X) {v1 : Int32} {v2 : Int32} {v3 : Int32} {v4 : Int32} {v5 : Int32} (c0 : X 134 5 ≤ v5) (hp : post none X) : Ev g mX12_menuFrom d n0 nf post nf 13 [some (.ref 133), some (.int v1), some (.int v2), some (.int v3), some (.int v4), some (.int v5), none] [] X := by
  refine ev_iload dX12_menuFrom_13 rfl ?_
  refine ev_aload_n dX12_menuFrom_15 rfl ?_
  refine ev_getS (q := 134) dX12_menuFrom_16 fo_12_9 (by omega) lo_133 rfl (sh_133_0 hX (by omega)) (by decide) ?_
  refine ev_iconst (v := 5) dX12_menuFrom_19 ki_5 ?_
  refine ev_iald dX12_menuFrom_20 (by omega) ly_134 nIl_5 (by decide) ?_
  refine ev_icmpT (tgt := 120) dX12_menuFrom_21 (by decide) c0 ?_
  exact ev_ret dX12_menuFrom_120 rfl hp
theorem bX12_menuFrom_41_0 {g : GG} {d n0 nf : Nat} {post : Option Value → LX → Prop} {n : Nat} {X : LX} (hn : 146 ≤ n) (hX : Sh n X) {v1 : Int32} {v2 : Int32} {v3 : Int32} {v4 : Int32} {v5 : Int32} {s1 : Nat} (b0 : s1 < 2156) (k : Ev g mX12_menuFrom d n0 nf post n 48 [some (.ref 133), some (.int v1), some (.int v2), some (.int v3), some (.int v4), some (.int v5), some (.int (X 134 s1))] [.int (X 134 s1), .int v4] X) : Ev g mX12_menuFrom d n0 nf post n 41 [some (.ref 133), some (.int v1), some (.int v2), some (.int v3), some (.int v4), some (.int v5), none] [.int (nI s1), .ref 134] X := by
  refine ev_iald dX12_menuFrom_41 (by omega) ly_134 rfl b0 ?_
  refine ev_istore dX12_menuFrom_42 (by decide) ?_
  refine ev_iload dX12_menuFrom_44 rfl ?_
  refine ev_iload dX12_menuFrom_46 rfl ?_
  exact k
theorem bX12_menuFrom_51_0 {g : GG} {d n0 nf : Nat} {post : Option Value → LX → Prop} {n : Nat} {X : LX} (hn : 146 ≤ n) (hX : Sh n X) {v1 : Int32} {v2 : Int32} {v3 : Int32} {v4 : Int32} {v5 : Int32} {v6 : Int32} {s0 : Int32} (c0 : ¬ s0 = 0) (k : Ev g mX12_menuFrom d n0 nf post n 13 [some (.ref 133), some (.int v1), some (.int v2), some (.int v3), some (.int v4), some (.int (v5 + 1)), some (.int v6)] [] X) : Ev g mX12_menuFrom d n0 nf post n 51 [some (.ref 133), some (.int v1), some (.int v2), some (.int v3), some (.int v4), some (.int v5), some (.int v6)] [.int s0] X := by
  refine ev_ifF (tgt := 57) dX12_menuFrom_51 (by decide) c0 ?_
  refine ev_goto (tgt := 114) dX12_menuFrom_54 (by decide) ?_
  refine ev_iinc (v := v5 + 1) dX12_menuFrom_114 rfl (by rw [show Int32.ofInt 1 = 1 from ki_1]) (by decide) ?_
  refine ev_goto (tgt := 13) dX12_menuFrom_117 (by decide) ?_
  exact k
theorem bX12_menuFrom_51_1 {g : GG} {d n0 nf : Nat} {post : Option Value → LX → Prop} {n : Nat} {X : LX} (hn : 146 ≤ n) (hX : Sh n X) {v1 : Int32} {v2 : Int32} {v3 : Int32} {v4 : Int32} {v5 : Int32} {v6 : Int32} {s0 : Int32} (c0 : s0 = 0) (c1 : X 133 21 = 0) (k : Ev g mX12_menuFrom d n0 nf post n 13 [some (.ref 133), some (.int v1), some (.int v2), some (.int v3), some (.int v4), some (.int (v5 + 1)), some (.int v6)] [] (lx_up X 133 22 1)) : Ev g mX12_menuFrom d n0 nf post n 51 [some (.ref 133), some (.int v1), some (.int v2), some (.int v3), some (.int v4), some (.int v5), some (.int v6)] [.int s0] X := by
  refine ev_ifT (tgt := 57) dX12_menuFrom_51 (by decide) c0 ?_
  refine ev_aload_n dX12_menuFrom_57 rfl ?_
  refine ev_aload_n dX12_menuFrom_58 rfl ?_
  refine ev_getI dX12_menuFrom_59 fo_12_253 (by omega) lo_133 rfl ?_
  refine ev_ifF (tgt := 69) dX12_menuFrom_62 (by decide) c1 ?_
  refine ev_iconst (v := 1) dX12_menuFrom_65 ki_1 ?_
  refine ev_goto (tgt := 70) dX12_menuFrom_66 (by decide) ?_
  refine ev_putZ dX12_menuFrom_70 fo_12_250 (by omega) lo_133 rfl rfl rfl (by decide) ?_
  have hX1 : Sh _ (lx_up X 133 22 1) := Sh.upF hX (by rw [lo_133]; decide) (by decide)
  refine ev_aload_n dX12_menuFrom_73 rfl ?_
  refine ev_getI dX12_menuFrom_74 fo_12_250 (by omega) lo_133 rfl ?_
  refine ev_ifT (tgt := 114) dX12_menuFrom_77 (by decide) (by show ¬ (1 : Int32) = 0; decide) ?_
  refine ev_iinc (v := v5 + 1) dX12_menuFrom_114 rfl (by rw [show Int32.ofInt 1 = 1 from ki_1]) (by decide) ?_
  refine ev_goto (tgt := 13) dX12_menuFrom_117 (by decide) ?_
  exact k
theorem bX12_menuFrom_51_2 {g : GG} {d n0 nf : Nat} {post : Option Value → LX → Prop} {n : Nat} {X : LX} (hn : 146 ≤ n) (hX : Sh n X) {v1 : Int32} {v2 : Int32} {v3 : Int32} {v4 : Int32} {v5 : Int32} {v6 : Int32} {s0 : Int32} (c0 : s0 = 0) (c1 : ¬ X 133 21 = 0) (k : Ev g mX12_menuFrom d n0 nf post n 111 [some (.ref 133), some (.int v1), some (.int v2), some (.int v3), some (.int v4), some (.int v5), some (.int v6)] [.int (v4 ||| (1 <<< (v6 &&& 31))), .int (v3 ||| (1 <<< (v5 &&& 31))), .int (v2 - 1), .int (v5 + 1), .ref 133] (lx_up (lx_up X 133 22 0) 133 21 ((X 133 21) - 1))) : Ev g mX12_menuFrom d n0 nf post n 51 [some (.ref 133), some (.int v1), some (.int v2), some (.int v3), some (.int v4), some (.int v5), some (.int v6)] [.int s0] X := by
  refine ev_ifT (tgt := 57) dX12_menuFrom_51 (by decide) c0 ?_
  refine ev_aload_n dX12_menuFrom_57 rfl ?_
  refine ev_aload_n dX12_menuFrom_58 rfl ?_
  refine ev_getI dX12_menuFrom_59 fo_12_253 (by omega) lo_133 rfl ?_
  refine ev_ifT (tgt := 69) dX12_menuFrom_62 (by decide) c1 ?_
  refine ev_iconst (v := 0) dX12_menuFrom_69 ki_0 ?_
  refine ev_putZ dX12_menuFrom_70 fo_12_250 (by omega) lo_133 rfl rfl rfl (by decide) ?_
  have hX1 : Sh _ (lx_up X 133 22 0) := Sh.upF hX (by rw [lo_133]; decide) (by decide)
  refine ev_aload_n dX12_menuFrom_73 rfl ?_
  refine ev_getI dX12_menuFrom_74 fo_12_250 (by omega) lo_133 rfl ?_
  refine ev_ifF (tgt := 114) dX12_menuFrom_77 (by decide) (by show (0 : Int32) = 0; decide) ?_
  refine ev_aload_n dX12_menuFrom_80 rfl ?_
  refine ev_dup dX12_menuFrom_81 rfl ?_
  refine ev_getI dX12_menuFrom_82 fo_12_253 (by omega) lo_133 rfl ?_
  refine ev_iconst (v := 1) dX12_menuFrom_85 ki_1 ?_
  refine ev_isub dX12_menuFrom_86 ?_
  refine ev_putI dX12_menuFrom_87 fo_12_253 (by omega) lo_133 rfl rfl rfl ?_
  have hX2 : Sh _ (lx_up (lx_up X 133 22 0) 133 21 ((X 133 21) - 1)) := Sh.upF hX1 (by rw [lo_133]; decide) (by decide)
  refine ev_aload_n dX12_menuFrom_90 rfl ?_
  refine ev_iload dX12_menuFrom_91 rfl ?_
  refine ev_iconst (v := 1) dX12_menuFrom_93 ki_1 ?_
  refine ev_iadd dX12_menuFrom_94 ?_
  refine ev_iload_n dX12_menuFrom_95 rfl ?_
  refine ev_iconst (v := 1) dX12_menuFrom_96 ki_1 ?_
  refine ev_isub dX12_menuFrom_97 ?_
  refine ev_iload_n dX12_menuFrom_98 rfl ?_
  refine ev_iconst (v := 1) dX12_menuFrom_99 ki_1 ?_
  refine ev_iload dX12_menuFrom_100 rfl ?_
  refine ev_ishl dX12_menuFrom_102 ?_
  refine ev_ior dX12_menuFrom_103 ?_
  refine ev_iload dX12_menuFrom_104 rfl ?_
  refine ev_iconst (v := 1) dX12_menuFrom_106 ki_1 ?_
  refine ev_iload dX12_menuFrom_107 rfl ?_
  refine ev_ishl dX12_menuFrom_109 ?_
  refine ev_ior dX12_menuFrom_110 ?_
  exact k
theorem bX12_menuFrom_114_0 {g : GG} {d n0 nf : Nat} {post : Option Value → LX → Prop} {n : Nat} {X : LX} (hn : 146 ≤ n) (hX : Sh n X) {v1 : Int32} {v2 : Int32} {v3 : Int32} {v4 : Int32} {v5 : Int32} {v6 : Int32} (k : Ev g mX12_menuFrom d n0 nf post n 13 [some (.ref 133), some (.int v1), some (.int v2), some (.int v3), some (.int v4), some (.int (v5 + 1)), some (.int v6)] [] X) : Ev g mX12_menuFrom d n0 nf post n 114 [some (.ref 133), some (.int v1), some (.int v2), some (.int v3), some (.int v4), some (.int v5), some (.int v6)] [] X := by
  refine ev_iinc (v := v5 + 1) dX12_menuFrom_114 rfl (by rw [show Int32.ofInt 1 = 1 from ki_1]) (by decide) ?_
  refine ev_goto (tgt := 13) dX12_menuFrom_117 (by decide) ?_
  exact k
theorem bX12_best_0_0 {g : GG} {d n0 nf : Nat} {post : Option Value → LX → Prop} {n : Nat} {X : LX} (hn : 146 ≤ n) (hX : Sh n X) {v1 : Int32} {v2 : Int32} (k : Ev g mX12_best d n0 nf post n 3 [some (.ref 133), some (.int v1), some (.int v2)] [.int 4, .int 1, .int v1] X) : Ev g mX12_best d n0 nf post n 0 [some (.ref 133), some (.int v1), some (.int v2)] [] X := by
  refine ev_iload_n dX12_best_0 rfl ?_
  refine ev_iconst (v := 1) dX12_best_1 ki_1 ?_
  refine ev_iconst (v := 4) dX12_best_2 ki_4 ?_
  exact k
theorem bX12_best_6_0 {g : GG} {d n0 nf : Nat} {post : Option Value → LX → Prop} {n : Nat} {X : LX} (hn : 146 ≤ n) (hX : Sh n X) {v1 : Int32} {v2 : Int32} {s0 : Int32} (c0 : ¬ s0 = 0) (k : Ev g mX12_best d n0 nf post n 14 [some (.ref 133), some (.int v1), some (.int v2)] [.int 2000, .int 1, .int v2] X) : Ev g mX12_best d n0 nf post n 6 [some (.ref 133), some (.int v1), some (.int v2)] [.int s0] X := by
  refine ev_ifF (tgt := 20) dX12_best_6 (by decide) c0 ?_
  refine ev_iload_n dX12_best_9 rfl ?_
  refine ev_iconst (v := 1) dX12_best_10 ki_1 ?_
  refine ev_sipush (v := 2000) dX12_best_11 ks_2000 ?_
  exact k
theorem bX12_best_6_1 {g : GG} {d n0 nf : Nat} {post : Option Value → LX → Prop} {n : Nat} {X : LX} (hn : 146 ≤ nf) (hX : Sh nf X) {v1 : Int32} {v2 : Int32} {s0 : Int32} (c0 : s0 = 0) (hp : post (some (.int (-1000000001))) X) : Ev g mX12_best d n0 nf post nf 6 [some (.ref 133), some (.int v1), some (.int v2)] [.int s0] X := by
  refine ev_ifT (tgt := 20) dX12_best_6 (by decide) c0 ?_
  refine ev_ldc (v := (-1000000001)) dX12_best_20 kw_12_57 ?_
  exact ev_iret dX12_best_22 rfl rfl hp
theorem bX12_best_17_0 {g : GG} {d n0 nf : Nat} {post : Option Value → LX → Prop} {n : Nat} {X : LX} (hn : 146 ≤ nf) (hX : Sh nf X) {v1 : Int32} {v2 : Int32} {s0 : Int32} (c0 : s0 = 0) (hp : post (some (.int (-1000000001))) X) : Ev g mX12_best d n0 nf post nf 17 [some (.ref 133), some (.int v1), some (.int v2)] [.int s0] X := by
  refine ev_ifF (tgt := 23) dX12_best_17 (by decide) c0 ?_
  refine ev_ldc (v := (-1000000001)) dX12_best_20 kw_12_57 ?_
  exact ev_iret dX12_best_22 rfl rfl hp
theorem bX12_best_17_1 {g : GG} {d n0 nf : Nat} {post : Option Value → LX → Prop} {n : Nat} {X : LX} (hn : 146 ≤ n) (hX : Sh n X) {v1 : Int32} {v2 : Int32} {s0 : Int32} (c0 : ¬ s0 = 0) (k : Ev g mX12_best d n0 nf post n 43 [some (.ref 133), some (.int v1), some (.int v2)] [.int 0, .int 0, .int v1, .int 0, .ref 133] (lx_up (lx_up (lx_up X 133 23 (-1)) 133 21 v2) 133 22 0)) : Ev g mX12_best d n0 nf post n 17 [some (.ref 133), some (.int v1), some (.int v2)] [.int s0] X := by
  refine ev_ifT (tgt := 23) dX12_best_17 (by decide) c0 ?_
  refine ev_aload_n dX12_best_23 rfl ?_
  refine ev_iconst (v := (-1)) dX12_best_24 ki_m1 ?_
  refine ev_putI dX12_best_25 fo_12_238 (by omega) lo_133 rfl rfl rfl ?_
  have hX1 : Sh _ (lx_up X 133 23 (-1)) := Sh.upF hX (by rw [lo_133]; decide) (by decide)
  refine ev_aload_n dX12_best_28 rfl ?_
  refine ev_iload_n dX12_best_29 rfl ?_
  refine ev_putI dX12_best_30 fo_12_253 (by omega) lo_133 rfl rfl rfl ?_
  have hX2 : Sh _ (lx_up (lx_up X 133 23 (-1)) 133 21 v2) := Sh.upF hX1 (by rw [lo_133]; decide) (by decide)
  refine ev_aload_n dX12_best_33 rfl ?_
  refine ev_iconst (v := 0) dX12_best_34 ki_0 ?_
  refine ev_putZ dX12_best_35 fo_12_250 (by omega) lo_133 rfl rfl rfl (by decide) ?_
  have hX3 : Sh _ (lx_up (lx_up (lx_up X 133 23 (-1)) 133 21 v2) 133 22 0) := Sh.upF hX2 (by rw [lo_133]; decide) (by decide)
  refine ev_aload_n dX12_best_38 rfl ?_
  refine ev_iconst (v := 0) dX12_best_39 ki_0 ?_
  refine ev_iload_n dX12_best_40 rfl ?_
  refine ev_iconst (v := 0) dX12_best_41 ki_0 ?_
  refine ev_iconst (v := 0) dX12_best_42 ki_0 ?_
  exact k
theorem bX12_best_46_0 {g : GG} {d n0 nf : Nat} {post : Option Value → LX → Prop} {n : Nat} {X : LX} (hn : 146 ≤ nf) (hX : Sh nf X) {v1 : Int32} {v2 : Int32} (c0 : ¬ X 133 22 = 0) (hp : post (some (.int (-1000000004))) X) : Ev g mX12_best d n0 nf post nf 46 [some (.ref 133), some (.int v1), some (.int v2)] [] X := by
  refine ev_aload_n dX12_best_46 rfl ?_
  refine ev_getI dX12_best_47 fo_12_250 (by omega) lo_133 rfl ?_
  refine ev_ifF (tgt := 59) dX12_best_50 (by decide) c0 ?_
  refine ev_ldcw (v := (-1000000004)) dX12_best_53 kw_12_260 ?_
  refine ev_goto (tgt := 75) dX12_best_56 (by decide) ?_
  exact ev_iret dX12_best_75 rfl rfl hp
theorem bX12_best_46_1 {g : GG} {d n0 nf : Nat} {post : Option Value → LX → Prop} {n : Nat} {X : LX} (hn : 146 ≤ nf) (hX : Sh nf X) {v1 : Int32} {v2 : Int32} (c0 : X 133 22 = 0) (c1 : ¬ 0 ≤ X 133 23) (hp : post (some (.int (-1000000002))) X) : Ev g mX12_best d n0 nf post nf 46 [some (.ref 133), some (.int v1), some (.int v2)] [] X := by
  refine ev_aload_n dX12_best_46 rfl ?_
  refine ev_getI dX12_best_47 fo_12_250 (by omega) lo_133 rfl ?_
  refine ev_ifT (tgt := 59) dX12_best_50 (by decide) c0 ?_
  refine ev_aload_n dX12_best_59 rfl ?_
  refine ev_getI dX12_best_60 fo_12_238 (by omega) lo_133 rfl ?_
  refine ev_ifF (tgt := 71) dX12_best_63 (by decide) c1 ?_
  refine ev_ldc (v := (-1000000002)) dX12_best_66 kw_12_80 ?_
  refine ev_goto (tgt := 75) dX12_best_68 (by decide) ?_
  exact ev_iret dX12_best_75 rfl rfl hp
theorem bX12_best_46_2 {g : GG} {d n0 nf : Nat} {post : Option Value → LX → Prop} {n : Nat} {X : LX} (hn : 146 ≤ nf) (hX : Sh nf X) {v1 : Int32} {v2 : Int32} (c0 : X 133 22 = 0) (c1 : 0 ≤ X 133 23) (hp : post (some (.int (X 133 23))) X) : Ev g mX12_best d n0 nf post nf 46 [some (.ref 133), some (.int v1), some (.int v2)] [] X := by
  refine ev_aload_n dX12_best_46 rfl ?_
  refine ev_getI dX12_best_47 fo_12_250 (by omega) lo_133 rfl ?_
  refine ev_ifT (tgt := 59) dX12_best_50 (by decide) c0 ?_
  refine ev_aload_n dX12_best_59 rfl ?_
  refine ev_getI dX12_best_60 fo_12_238 (by omega) lo_133 rfl ?_
  refine ev_ifT (tgt := 71) dX12_best_63 (by decide) c1 ?_
  refine ev_aload_n dX12_best_71 rfl ?_
  refine ev_getI dX12_best_72 fo_12_238 (by omega) lo_133 rfl ?_
  exact ev_iret dX12_best_75 rfl rfl hp
