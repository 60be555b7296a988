theorem bX0_has_0_0 {g : GG} {d n0 nf : Nat} {post : Option Value → LX → Prop} {n : Nat} {X : LX} (hn : 146 ≤ nf) (hX : Sh nf X) {v1 : Int32} (c0 : ¬ v1 < 0) (c1 : ¬ X 37 0 ≤ v1) (hp : post (some (.int 1)) X) : Ev g mX0_has d n0 nf post nf 0 [some (.ref 37), some (.int v1)] [] X := by
  refine ev_iload_n dX0_has_0 rfl ?_
  refine ev_ifF (tgt := 16) dX0_has_1 (by decide) c0 ?_
  refine ev_iload_n dX0_has_4 rfl ?_
  refine ev_aload_n dX0_has_5 rfl ?_
  refine ev_getI dX0_has_6 fo_0_41 (by omega) lo_37 rfl ?_
  refine ev_icmpF (tgt := 16) dX0_has_9 (by decide) c1 ?_
  refine ev_iconst (v := 1) dX0_has_12 ki_1 ?_
  refine ev_goto (tgt := 17) dX0_has_13 (by decide) ?_
  exact ev_iret dX0_has_17 rfl (by decide) hp
theorem bX0_has_0_1 {g : GG} {d n0 nf : Nat} {post : Option Value → LX → Prop} {n : Nat} {X : LX} (hn : 146 ≤ nf) (hX : Sh nf X) {v1 : Int32} (c0 : ¬ v1 < 0) (c1 : X 37 0 ≤ v1) (hp : post (some (.int 0)) X) : Ev g mX0_has d n0 nf post nf 0 [some (.ref 37), some (.int v1)] [] X := by
  refine ev_iload_n dX0_has_0 rfl ?_
  refine ev_ifF (tgt := 16) dX0_has_1 (by decide) c0 ?_
  refine ev_iload_n dX0_has_4 rfl ?_
  refine ev_aload_n dX0_has_5 rfl ?_
  refine ev_getI dX0_has_6 fo_0_41 (by omega) lo_37 rfl ?_
  refine ev_icmpT (tgt := 16) dX0_has_9 (by decide) c1 ?_
  refine ev_iconst (v := 0) dX0_has_16 ki_0 ?_
  exact ev_iret dX0_has_17 rfl (by decide) hp
theorem bX0_has_0_2 {g : GG} {d n0 nf : Nat} {post : Option Value → LX → Prop} {n : Nat} {X : LX} (hn : 146 ≤ nf) (hX : Sh nf X) {v1 : Int32} (c0 : v1 < 0) (hp : post (some (.int 0)) X) : Ev g mX0_has d n0 nf post nf 0 [some (.ref 37), some (.int v1)] [] X := by
  refine ev_iload_n dX0_has_0 rfl ?_
  refine ev_ifT (tgt := 16) dX0_has_1 (by decide) c0 ?_
  refine ev_iconst (v := 0) dX0_has_16 ki_0 ?_
  exact ev_iret dX0_has_17 rfl (by decide) hp
theorem bX0_takeFromN_0_0 {g : GG} {d n0 nf : Nat} {post : Option Value → LX → Prop} {n : Nat} {X : LX} (hn : 226 ≤ n) (hX : Sh n X)  (k : Ev g mX0_takeFrom d n0 nf post n 16 [some (.ref 37), some (.ref 182)] [.ref 38, .ref 183] (lx_up X 37 0 (X 182 0))) : Ev g mX0_takeFrom d n0 nf post n 0 [some (.ref 37), some (.ref 182)] [] X := by
  refine ev_aload_n dX0_takeFrom_0 rfl ?_
  refine ev_aload_n dX0_takeFrom_1 rfl ?_
  refine ev_getI dX0_takeFrom_2 fo_0_41 (by omega) lo_182 rfl ?_
  refine ev_putI dX0_takeFrom_5 fo_0_41 (by omega) lo_37 rfl rfl rfl ?_
  have hX1 : Sh _ (lx_up X 37 0 (X 182 0)) := Sh.upF hX (by rw [lo_37]; decide) (by decide)
  refine ev_aload_n dX0_takeFrom_8 rfl ?_
  refine ev_getS (q := 183) dX0_takeFrom_9 fo_0_9 (by omega) lo_182 rfl (sh_182_1 hX1 (by omega)) (by decide) ?_
  refine ev_aload_n dX0_takeFrom_12 rfl ?_
  refine ev_getS (q := 38) dX0_takeFrom_13 fo_0_9 (by omega) lo_37 rfl (sh_37_1 hX1 (by omega)) (by decide) ?_
  exact k
theorem bX0_takeFromN_19_0 {g : GG} {d n0 nf : Nat} {post : Option Value → LX → Prop} {n : Nat} {X : LX} (hn : 226 ≤ n) (hX : Sh n X)  (k : Ev g mX0_takeFrom d n0 nf post n 27 [some (.ref 37), some (.ref 182)] [.ref 39, .ref 184] X) : Ev g mX0_takeFrom d n0 nf post n 19 [some (.ref 37), some (.ref 182)] [] X := by
  refine ev_aload_n dX0_takeFrom_19 rfl ?_
  refine ev_getS (q := 184) dX0_takeFrom_20 fo_0_15 (by omega) lo_182 rfl (sh_182_2 hX (by omega)) (by decide) ?_
  refine ev_aload_n dX0_takeFrom_23 rfl ?_
  refine ev_getS (q := 39) dX0_takeFrom_24 fo_0_15 (by omega) lo_37 rfl (sh_37_2 hX (by omega)) (by decide) ?_
  exact k
theorem bX0_takeFromN_30_0 {g : GG} {d n0 nf : Nat} {post : Option Value → LX → Prop} {n : Nat} {X : LX} (hn : 226 ≤ n) (hX : Sh n X)  (k : Ev g mX0_takeFrom d n0 nf post n 38 [some (.ref 37), some (.ref 182)] [.ref 40, .ref 185] X) : Ev g mX0_takeFrom d n0 nf post n 30 [some (.ref 37), some (.ref 182)] [] X := by
  refine ev_aload_n dX0_takeFrom_30 rfl ?_
  refine ev_getS (q := 185) dX0_takeFrom_31 fo_0_18 (by omega) lo_182 rfl (sh_182_3 hX (by omega)) (by decide) ?_
  refine ev_aload_n dX0_takeFrom_34 rfl ?_
  refine ev_getS (q := 40) dX0_takeFrom_35 fo_0_18 (by omega) lo_37 rfl (sh_37_3 hX (by omega)) (by decide) ?_
  exact k
theorem bX0_takeFromN_41_0 {g : GG} {d n0 nf : Nat} {post : Option Value → LX → Prop} {n : Nat} {X : LX} (hn : 226 ≤ n) (hX : Sh n X)  (k : Ev g mX0_takeFrom d n0 nf post n 49 [some (.ref 37), some (.ref 182)] [.ref 41, .ref 186] X) : Ev g mX0_takeFrom d n0 nf post n 41 [some (.ref 37), some (.ref 182)] [] X := by
  refine ev_aload_n dX0_takeFrom_41 rfl ?_
  refine ev_getS (q := 186) dX0_takeFrom_42 fo_0_21 (by omega) lo_182 rfl (sh_182_4 hX (by omega)) (by decide) ?_
  refine ev_aload_n dX0_takeFrom_45 rfl ?_
  refine ev_getS (q := 41) dX0_takeFrom_46 fo_0_21 (by omega) lo_37 rfl (sh_37_4 hX (by omega)) (by decide) ?_
  exact k
theorem bX0_takeFromN_52_0 {g : GG} {d n0 nf : Nat} {post : Option Value → LX → Prop} {n : Nat} {X : LX} (hn : 226 ≤ n) (hX : Sh n X)  (k : Ev g mX0_takeFrom d n0 nf post n 60 [some (.ref 37), some (.ref 182)] [.ref 42, .ref 187] X) : Ev g mX0_takeFrom d n0 nf post n 52 [some (.ref 37), some (.ref 182)] [] X := by
  refine ev_aload_n dX0_takeFrom_52 rfl ?_
  refine ev_getS (q := 187) dX0_takeFrom_53 fo_0_24 (by omega) lo_182 rfl (sh_182_5 hX (by omega)) (by decide) ?_
  refine ev_aload_n dX0_takeFrom_56 rfl ?_
  refine ev_getS (q := 42) dX0_takeFrom_57 fo_0_24 (by omega) lo_37 rfl (sh_37_5 hX (by omega)) (by decide) ?_
  exact k
theorem bX0_takeFromN_63_0 {g : GG} {d n0 nf : Nat} {post : Option Value → LX → Prop} {n : Nat} {X : LX} (hn : 226 ≤ n) (hX : Sh n X)  (k : Ev g mX0_takeFrom d n0 nf post n 71 [some (.ref 37), some (.ref 182)] [.ref 43, .ref 188] X) : Ev g mX0_takeFrom d n0 nf post n 63 [some (.ref 37), some (.ref 182)] [] X := by
  refine ev_aload_n dX0_takeFrom_63 rfl ?_
  refine ev_getS (q := 188) dX0_takeFrom_64 fo_0_29 (by omega) lo_182 rfl (sh_182_6 hX (by omega)) (by decide) ?_
  refine ev_aload_n dX0_takeFrom_67 rfl ?_
  refine ev_getS (q := 43) dX0_takeFrom_68 fo_0_29 (by omega) lo_37 rfl (sh_37_6 hX (by omega)) (by decide) ?_
  exact k
theorem bX0_takeFromN_74_0 {g : GG} {d n0 nf : Nat} {post : Option Value → LX → Prop} {n : Nat} {X : LX} (hn : 226 ≤ n) (hX : Sh n X)  (k : Ev g mX0_takeFrom d n0 nf post n 82 [some (.ref 37), some (.ref 182)] [.ref 56, .ref 201] X) : Ev g mX0_takeFrom d n0 nf post n 74 [some (.ref 37), some (.ref 182)] [] X := by
  refine ev_aload_n dX0_takeFrom_74 rfl ?_
  refine ev_getS (q := 201) dX0_takeFrom_75 fo_0_32 (by omega) lo_182 rfl (sh_182_7 hX (by omega)) (by decide) ?_
  refine ev_aload_n dX0_takeFrom_78 rfl ?_
  refine ev_getS (q := 56) dX0_takeFrom_79 fo_0_32 (by omega) lo_37 rfl (sh_37_7 hX (by omega)) (by decide) ?_
  exact k
theorem bX0_takeFromN_85_0 {g : GG} {d n0 nf : Nat} {post : Option Value → LX → Prop} {n : Nat} {X : LX} (hn : 226 ≤ nf) (hX : Sh nf X)  (hp : post none X) : Ev g mX0_takeFrom d n0 nf post nf 85 [some (.ref 37), some (.ref 182)] [] X := by
  exact ev_ret dX0_takeFrom_85 rfl hp
theorem bX0_takeFromI_0_0 {g : GG} {d n0 nf : Nat} {post : Option Value → LX → Prop} {n : Nat} {X : LX} (hn : 226 ≤ n) (hX : Sh n X)  (k : Ev g mX0_takeFrom d n0 nf post n 16 [some (.ref 182), some (.ref 37)] [.ref 183, .ref 38] (lx_up X 182 0 (X 37 0))) : Ev g mX0_takeFrom d n0 nf post n 0 [some (.ref 182), some (.ref 37)] [] X := by
  refine ev_aload_n dX0_takeFrom_0 rfl ?_
  refine ev_aload_n dX0_takeFrom_1 rfl ?_
  refine ev_getI dX0_takeFrom_2 fo_0_41 (by omega) lo_37 rfl ?_
  refine ev_putI dX0_takeFrom_5 fo_0_41 (by omega) lo_182 rfl rfl rfl ?_
  have hX1 : Sh _ (lx_up X 182 0 (X 37 0)) := Sh.upF hX (by rw [lo_182]; decide) (by decide)
  refine ev_aload_n dX0_takeFrom_8 rfl ?_
  refine ev_getS (q := 38) dX0_takeFrom_9 fo_0_9 (by omega) lo_37 rfl (sh_37_1 hX1 (by omega)) (by decide) ?_
  refine ev_aload_n dX0_takeFrom_12 rfl ?_
  refine ev_getS (q := 183) dX0_takeFrom_13 fo_0_9 (by omega) lo_182 rfl (sh_182_1 hX1 (by omega)) (by decide) ?_
  exact k
theorem bX0_takeFromI_19_0 {g : GG} {d n0 nf : Nat} {post : Option Value → LX → Prop} {n : Nat} {X : LX} (hn : 226 ≤ n) (hX : Sh n X)  (k : Ev g mX0_takeFrom d n0 nf post n 27 [some (.ref 182), some (.ref 37)] [.ref 184, .ref 39] X) : Ev g mX0_takeFrom d n0 nf post n 19 [some (.ref 182), some (.ref 37)] [] X := by
  refine ev_aload_n dX0_takeFrom_19 rfl ?_
  refine ev_getS (q := 39) dX0_takeFrom_20 fo_0_15 (by omega) lo_37 rfl (sh_37_2 hX (by omega)) (by decide) ?_
  refine ev_aload_n dX0_takeFrom_23 rfl ?_
  refine ev_getS (q := 184) dX0_takeFrom_24 fo_0_15 (by omega) lo_182 rfl (sh_182_2 hX (by omega)) (by decide) ?_
  exact k
theorem bX0_takeFromI_30_0 {g : GG} {d n0 nf : Nat} {post : Option Value → LX → Prop} {n : Nat} {X : LX} (hn : 226 ≤ n) (hX : Sh n X)  (k : Ev g mX0_takeFrom d n0 nf post n 38 [some (.ref 182), some (.ref 37)] [.ref 185, .ref 40] X) : Ev g mX0_takeFrom d n0 nf post n 30 [some (.ref 182), some (.ref 37)] [] X := by
  refine ev_aload_n dX0_takeFrom_30 rfl ?_
  refine ev_getS (q := 40) dX0_takeFrom_31 fo_0_18 (by omega) lo_37 rfl (sh_37_3 hX (by omega)) (by decide) ?_
  refine ev_aload_n dX0_takeFrom_34 rfl ?_
  refine ev_getS (q := 185) dX0_takeFrom_35 fo_0_18 (by omega) lo_182 rfl (sh_182_3 hX (by omega)) (by decide) ?_
  exact k
theorem bX0_takeFromI_41_0 {g : GG} {d n0 nf : Nat} {post : Option Value → LX → Prop} {n : Nat} {X : LX} (hn : 226 ≤ n) (hX : Sh n X)  (k : Ev g mX0_takeFrom d n0 nf post n 49 [some (.ref 182), some (.ref 37)] [.ref 186, .ref 41] X) : Ev g mX0_takeFrom d n0 nf post n 41 [some (.ref 182), some (.ref 37)] [] X := by
  refine ev_aload_n dX0_takeFrom_41 rfl ?_
  refine ev_getS (q := 41) dX0_takeFrom_42 fo_0_21 (by omega) lo_37 rfl (sh_37_4 hX (by omega)) (by decide) ?_
  refine ev_aload_n dX0_takeFrom_45 rfl ?_
  refine ev_getS (q := 186) dX0_takeFrom_46 fo_0_21 (by omega) lo_182 rfl (sh_182_4 hX (by omega)) (by decide) ?_
  exact k
theorem bX0_takeFromI_52_0 {g : GG} {d n0 nf : Nat} {post : Option Value → LX → Prop} {n : Nat} {X : LX} (hn : 226 ≤ n) (hX : Sh n X)  (k : Ev g mX0_takeFrom d n0 nf post n 60 [some (.ref 182), some (.ref 37)] [.ref 187, .ref 42] X) : Ev g mX0_takeFrom d n0 nf post n 52 [some (.ref 182), some (.ref 37)] [] X := by
  refine ev_aload_n dX0_takeFrom_52 rfl ?_
  refine ev_getS (q := 42) dX0_takeFrom_53 fo_0_24 (by omega) lo_37 rfl (sh_37_5 hX (by omega)) (by decide) ?_
  refine ev_aload_n dX0_takeFrom_56 rfl ?_
  refine ev_getS (q := 187) dX0_takeFrom_57 fo_0_24 (by omega) lo_182 rfl (sh_182_5 hX (by omega)) (by decide) ?_
  exact k
theorem bX0_takeFromI_63_0 {g : GG} {d n0 nf : Nat} {post : Option Value → LX → Prop} {n : Nat} {X : LX} (hn : 226 ≤ n) (hX : Sh n X)  (k : Ev g mX0_takeFrom d n0 nf post n 71 [some (.ref 182), some (.ref 37)] [.ref 188, .ref 43] X) : Ev g mX0_takeFrom d n0 nf post n 63 [some (.ref 182), some (.ref 37)] [] X := by
  refine ev_aload_n dX0_takeFrom_63 rfl ?_
  refine ev_getS (q := 43) dX0_takeFrom_64 fo_0_29 (by omega) lo_37 rfl (sh_37_6 hX (by omega)) (by decide) ?_
  refine ev_aload_n dX0_takeFrom_67 rfl ?_
  refine ev_getS (q := 188) dX0_takeFrom_68 fo_0_29 (by omega) lo_182 rfl (sh_182_6 hX (by omega)) (by decide) ?_
  exact k
theorem bX0_takeFromI_74_0 {g : GG} {d n0 nf : Nat} {post : Option Value → LX → Prop} {n : Nat} {X : LX} (hn : 226 ≤ n) (hX : Sh n X)  (k : Ev g mX0_takeFrom d n0 nf post n 82 [some (.ref 182), some (.ref 37)] [.ref 201, .ref 56] X) : Ev g mX0_takeFrom d n0 nf post n 74 [some (.ref 182), some (.ref 37)] [] X := by
  refine ev_aload_n dX0_takeFrom_74 rfl ?_
  refine ev_getS (q := 56) dX0_takeFrom_75 fo_0_32 (by omega) lo_37 rfl (sh_37_7 hX (by omega)) (by decide) ?_
  refine ev_aload_n dX0_takeFrom_78 rfl ?_
  refine ev_getS (q := 201) dX0_takeFrom_79 fo_0_32 (by omega) lo_182 rfl (sh_182_7 hX (by omega)) (by decide) ?_
  exact k
theorem bX0_takeFromI_85_0 {g : GG} {d n0 nf : Nat} {post : Option Value → LX → Prop} {n : Nat} {X : LX} (hn : 226 ≤ nf) (hX : Sh nf X)  (hp : post none X) : Ev g mX0_takeFrom d n0 nf post nf 85 [some (.ref 182), some (.ref 37)] [] X := by
  exact ev_ret dX0_takeFrom_85 rfl hp
theorem bX2_takeCodeN_0_0 {g : GG} {d n0 nf : Nat} {post : Option Value → LX → Prop} {n : Nat} {X : LX} (hn : 146 ≤ n) (hX : Sh n X) {r1 lr1 : Nat} {v2 : Int32} {v3 : Int32} (hrr1 : r1 < n) (hlr1 : LY r1 = (0, lr1)) (k : Ev g mX2_takeCode d n0 nf post n 5 [some (.ref 77), some (.ref r1), some (.int v2), some (.int v3)] [.ref 78, .ref r1] X) : Ev g mX2_takeCode d n0 nf post n 0 [some (.ref 77), some (.ref r1), some (.int v2), some (.int v3)] [] X := by
  refine ev_aload_n dX2_takeCode_0 rfl ?_
  refine ev_aload_n dX2_takeCode_1 rfl ?_
  refine ev_getS (q := 78) dX2_takeCode_2 fo_2_9 (by omega) lo_77 rfl (sh_77_3 hX (by omega)) (by decide) ?_
  exact k
theorem bX2_takeCodeN_8_0 {g : GG} {d n0 nf : Nat} {post : Option Value → LX → Prop} {n : Nat} {X : LX} (hn : 146 ≤ n) (hX : Sh n X) {r1 lr1 : Nat} {v2 : Int32} {v3 : Int32} (hrr1 : r1 < n) (hlr1 : LY r1 = (0, lr1)) (k : Ev g mX2_takeCode d n0 nf post n 12 [some (.ref 77), some (.ref r1), some (.int v2), some (.int v3)] [.int 120, .int v2, .ref 77] X) : Ev g mX2_takeCode d n0 nf post n 8 [some (.ref 77), some (.ref r1), some (.int v2), some (.int v3)] [] X := by
  refine ev_aload_n dX2_takeCode_8 rfl ?_
  refine ev_iload_n dX2_takeCode_9 rfl ?_
  refine ev_bipush (v := 120) dX2_takeCode_10 kb_120 ?_
  exact k
theorem bX2_takeCodeN_15_0 {g : GG} {d n0 nf : Nat} {post : Option Value → LX → Prop} {n : Nat} {X : LX} (hn : 146 ≤ n) (hX : Sh n X) {r1 lr1 : Nat} {v2 : Int32} {v3 : Int32} {s1 : Int32} (hrr1 : r1 < n) (hlr1 : LY r1 = (0, lr1)) (k : Ev g mX2_takeCode d n0 nf post n 24 [some (.ref 77), some (.ref r1), some (.int v2), some (.int v3)] [.int s1, .int v3, .ref 77] (lx_up X 77 1 s1)) : Ev g mX2_takeCode d n0 nf post n 15 [some (.ref 77), some (.ref r1), some (.int v2), some (.int v3)] [.int s1, .ref 77] X := by
  refine ev_putI dX2_takeCode_15 fo_2_31 (by omega) lo_77 rfl rfl rfl ?_
  have hX1 : Sh _ (lx_up X 77 1 s1) := Sh.upF hX (by rw [lo_77]; decide) (by decide)
  refine ev_aload_n dX2_takeCode_18 rfl ?_
  refine ev_iload_n dX2_takeCode_19 rfl ?_
  refine ev_aload_n dX2_takeCode_20 rfl ?_
  refine ev_getI dX2_takeCode_21 fo_2_31 (by omega) lo_77 rfl ?_
  exact k
theorem bX2_takeCodeN_27_0 {g : GG} {d n0 nf : Nat} {post : Option Value → LX → Prop} {n : Nat} {X : LX} (hn : 146 ≤ nf) (hX : Sh nf X) {r1 lr1 : Nat} {v2 : Int32} {v3 : Int32} {s1 : Int32} (hrr1 : r1 < nf) (hlr1 : LY r1 = (0, lr1)) (hp : post none (lx_up (lx_up X 77 2 s1) 77 0 1)) : Ev g mX2_takeCode d n0 nf post nf 27 [some (.ref 77), some (.ref r1), some (.int v2), some (.int v3)] [.int s1, .ref 77] X := by
  refine ev_putI dX2_takeCode_27 fo_2_35 (by omega) lo_77 rfl rfl rfl ?_
  have hX1 : Sh _ (lx_up X 77 2 s1) := Sh.upF hX (by rw [lo_77]; decide) (by decide)
  refine ev_aload_n dX2_takeCode_30 rfl ?_
  refine ev_iconst (v := 1) dX2_takeCode_31 ki_1 ?_
  refine ev_putZ dX2_takeCode_32 fo_2_38 (by omega) lo_77 rfl rfl rfl (by decide) ?_
  have hX2 : Sh _ (lx_up (lx_up X 77 2 s1) 77 0 1) := Sh.upF hX1 (by rw [lo_77]; decide) (by decide)
  exact ev_ret dX2_takeCode_35 rfl hp
theorem bX2_takeCodeI_0_0 {g : GG} {d n0 nf : Nat} {post : Option Value → LX → Prop} {n : Nat} {X : LX} (hn : 226 ≤ n) (hX : Sh n X) {r1 lr1 : Nat} {v2 : Int32} {v3 : Int32} (hrr1 : r1 < n) (hlr1 : LY r1 = (0, lr1)) (k : Ev g mX2_takeCode d n0 nf post n 5 [some (.ref 222), some (.ref r1), some (.int v2), some (.int v3)] [.ref 223, .ref r1] X) : Ev g mX2_takeCode d n0 nf post n 0 [some (.ref 222), some (.ref r1), some (.int v2), some (.int v3)] [] X := by
  refine ev_aload_n dX2_takeCode_0 rfl ?_
  refine ev_aload_n dX2_takeCode_1 rfl ?_
  refine ev_getS (q := 223) dX2_takeCode_2 fo_2_9 (by omega) lo_222 rfl (sh_222_3 hX (by omega)) (by decide) ?_
  exact k
theorem bX2_takeCodeI_8_0 {g : GG} {d n0 nf : Nat} {post : Option Value → LX → Prop} {n : Nat} {X : LX} (hn : 226 ≤ n) (hX : Sh n X) {r1 lr1 : Nat} {v2 : Int32} {v3 : Int32} (hrr1 : r1 < n) (hlr1 : LY r1 = (0, lr1)) (k : Ev g mX2_takeCode d n0 nf post n 12 [some (.ref 222), some (.ref r1), some (.int v2), some (.int v3)] [.int 120, .int v2, .ref 222] X) : Ev g mX2_takeCode d n0 nf post n 8 [some (.ref 222), some (.ref r1), some (.int v2), some (.int v3)] [] X := by
  refine ev_aload_n dX2_takeCode_8 rfl ?_
  refine ev_iload_n dX2_takeCode_9 rfl ?_
  refine ev_bipush (v := 120) dX2_takeCode_10 kb_120 ?_
  exact k
theorem bX2_takeCodeI_15_0 {g : GG} {d n0 nf : Nat} {post : Option Value → LX → Prop} {n : Nat} {X : LX} (hn : 226 ≤ n) (hX : Sh n X) {r1 lr1 : Nat} {v2 : Int32} {v3 : Int32} {s1 : Int32} (hrr1 : r1 < n) (hlr1 : LY r1 = (0, lr1)) (k : Ev g mX2_takeCode d n0 nf post n 24 [some (.ref 222), some (.ref r1), some (.int v2), some (.int v3)] [.int s1, .int v3, .ref 222] (lx_up X 222 1 s1)) : Ev g mX2_takeCode d n0 nf post n 15 [some (.ref 222), some (.ref r1), some (.int v2), some (.int v3)] [.int s1, .ref 222] X := by
  refine ev_putI dX2_takeCode_15 fo_2_31 (by omega) lo_222 rfl rfl rfl ?_
  have hX1 : Sh _ (lx_up X 222 1 s1) := Sh.upF hX (by rw [lo_222]; decide) (by decide)
  refine ev_aload_n dX2_takeCode_18 rfl ?_
  refine ev_iload_n dX2_takeCode_19 rfl ?_
  refine ev_aload_n dX2_takeCode_20 rfl ?_
  refine ev_getI dX2_takeCode_21 fo_2_31 (by omega) lo_222 rfl ?_
  exact k
theorem bX2_takeCodeI_27_0 {g : GG} {d n0 nf : Nat} {post : Option Value → LX → Prop} {n : Nat} {X : LX} (hn : 226 ≤ nf) (hX : Sh nf X) {r1 lr1 : Nat} {v2 : Int32} {v3 : Int32} {s1 : Int32} (hrr1 : r1 < nf) (hlr1 : LY r1 = (0, lr1)) (hp : post none (lx_up (lx_up X 222 2 s1) 222 0 1)) : Ev g mX2_takeCode d n0 nf post nf 27 [some (.ref 222), some (.ref r1), some (.int v2), some (.int v3)] [.int s1, .ref 222] X := by
  refine ev_putI dX2_takeCode_27 fo_2_35 (by omega) lo_222 rfl rfl rfl ?_
  have hX1 : Sh _ (lx_up X 222 2 s1) := Sh.upF hX (by rw [lo_222]; decide) (by decide)
  refine ev_aload_n dX2_takeCode_30 rfl ?_
  refine ev_iconst (v := 1) dX2_takeCode_31 ki_1 ?_
  refine ev_putZ dX2_takeCode_32 fo_2_38 (by omega) lo_222 rfl rfl rfl (by decide) ?_
  have hX2 : Sh _ (lx_up (lx_up X 222 2 s1) 222 0 1) := Sh.upF hX1 (by rw [lo_222]; decide) (by decide)
  exact ev_ret dX2_takeCode_35 rfl hp
theorem bX2_takeFromN_0_0 {g : GG} {d n0 nf : Nat} {post : Option Value → LX → Prop} {n : Nat} {X : LX} (hn : 226 ≤ n) (hX : Sh n X)  (k : Ev g mX2_takeFrom d n0 nf post n 13 [some (.ref 77), some (.ref 222)] [.int (X 222 2), .int (X 222 1), .ref 223, .ref 77] X) : Ev g mX2_takeFrom d n0 nf post n 0 [some (.ref 77), some (.ref 222)] [] X := by
  refine ev_aload_n dX2_takeFrom_0 rfl ?_
  refine ev_aload_n dX2_takeFrom_1 rfl ?_
  refine ev_getS (q := 223) dX2_takeFrom_2 fo_2_9 (by omega) lo_222 rfl (sh_222_3 hX (by omega)) (by decide) ?_
  refine ev_aload_n dX2_takeFrom_5 rfl ?_
  refine ev_getI dX2_takeFrom_6 fo_2_31 (by omega) lo_222 rfl ?_
  refine ev_aload_n dX2_takeFrom_9 rfl ?_
  refine ev_getI dX2_takeFrom_10 fo_2_35 (by omega) lo_222 rfl ?_
  exact k
theorem bX2_takeFromN_16_0 {g : GG} {d n0 nf : Nat} {post : Option Value → LX → Prop} {n : Nat} {X : LX} (hn : 226 ≤ nf) (hX : Sh nf X)  (z0 : X 222 0 = 0 ∨ X 222 0 = 1) (hp : post none (lx_up X 77 0 (X 222 0))) : Ev g mX2_takeFrom d n0 nf post nf 16 [some (.ref 77), some (.ref 222)] [] X := by
  refine ev_aload_n dX2_takeFrom_16 rfl ?_
  refine ev_aload_n dX2_takeFrom_17 rfl ?_
  refine ev_getI dX2_takeFrom_18 fo_2_38 (by omega) lo_222 rfl ?_
  refine ev_putZ dX2_takeFrom_21 fo_2_38 (by omega) lo_77 rfl rfl rfl z0 ?_
  have hX1 : Sh _ (lx_up X 77 0 (X 222 0)) := Sh.upF hX (by rw [lo_77]; decide) (by decide)
  exact ev_ret dX2_takeFrom_24 rfl hp
theorem bX2_takeFromI_0_0 {g : GG} {d n0 nf : Nat} {post : Option Value → LX → Prop} {n : Nat} {X : LX} (hn : 226 ≤ n) (hX : Sh n X)  (k : Ev g mX2_takeFrom d n0 nf post n 13 [some (.ref 222), some (.ref 77)] [.int (X 77 2), .int (X 77 1), .ref 78, .ref 222] X) : Ev g mX2_takeFrom d n0 nf post n 0 [some (.ref 222), some (.ref 77)] [] X := by
  refine ev_aload_n dX2_takeFrom_0 rfl ?_
  refine ev_aload_n dX2_takeFrom_1 rfl ?_
  refine ev_getS (q := 78) dX2_takeFrom_2 fo_2_9 (by omega) lo_77 rfl (sh_77_3 hX (by omega)) (by decide) ?_
  refine ev_aload_n dX2_takeFrom_5 rfl ?_
  refine ev_getI dX2_takeFrom_6 fo_2_31 (by omega) lo_77 rfl ?_
  refine ev_aload_n dX2_takeFrom_9 rfl ?_
  refine ev_getI dX2_takeFrom_10 fo_2_35 (by omega) lo_77 rfl ?_
  exact k
theorem bX2_takeFromI_16_0 {g : GG} {d n0 nf : Nat} {post : Option Value → LX → Prop} {n : Nat} {X : LX} (hn : 226 ≤ nf) (hX : Sh nf X)  (z0 : X 77 0 = 0 ∨ X 77 0 = 1) (hp : post none (lx_up X 222 0 (X 77 0))) : Ev g mX2_takeFrom d n0 nf post nf 16 [some (.ref 222), some (.ref 77)] [] X := by
  refine ev_aload_n dX2_takeFrom_16 rfl ?_
  refine ev_aload_n dX2_takeFrom_17 rfl ?_
  refine ev_getI dX2_takeFrom_18 fo_2_38 (by omega) lo_77 rfl ?_
  refine ev_putZ dX2_takeFrom_21 fo_2_38 (by omega) lo_222 rfl rfl rfl z0 ?_
  have hX1 : Sh _ (lx_up X 222 0 (X 77 0)) := Sh.upF hX (by rw [lo_222]; decide) (by decide)
  exact ev_ret dX2_takeFrom_24 rfl hp
theorem bX2_worthOfMark_0_0 {g : GG} {d n0 nf : Nat} {post : Option Value → LX → Prop} {n : Nat} {X : LX} (hn : 146 ≤ n) (hX : Sh n X)  (k : Ev g mX2_worthOfMark d n0 nf post n 6 [some (.ref 77)] [.int (X 77 2), .int 0, .ref 77] X) : Ev g mX2_worthOfMark d n0 nf post n 0 [some (.ref 77)] [] X := by
  refine ev_aload_n dX2_worthOfMark_0 rfl ?_
  refine ev_iconst (v := 0) dX2_worthOfMark_1 ki_0 ?_
  refine ev_aload_n dX2_worthOfMark_2 rfl ?_
  refine ev_getI dX2_worthOfMark_3 fo_2_35 (by omega) lo_77 rfl ?_
  exact k
theorem bX2_worthOfMark_9_0 {g : GG} {d n0 nf : Nat} {post : Option Value → LX → Prop} {n : Nat} {X : LX} (hn : 146 ≤ nf) (hX : Sh nf X) {s0 : Int32} (hp : post (some (.int s0)) X) : Ev g mX2_worthOfMark d n0 nf post nf 9 [some (.ref 77)] [.int s0] X := by
  exact ev_iret dX2_worthOfMark_9 rfl rfl hp
theorem bX2_worthOfIce_0_0 {g : GG} {d n0 nf : Nat} {post : Option Value → LX → Prop} {n : Nat} {X : LX} (hn : 146 ≤ n) (hX : Sh n X)  (k : Ev g mX2_worthOfIce d n0 nf post n 9 [some (.ref 77)] [.int (X 77 1), .int (X 77 2), .ref 77] X) : Ev g mX2_worthOfIce d n0 nf post n 0 [some (.ref 77)] [] X := by
  refine ev_aload_n dX2_worthOfIce_0 rfl ?_
  refine ev_aload_n dX2_worthOfIce_1 rfl ?_
  refine ev_getI dX2_worthOfIce_2 fo_2_35 (by omega) lo_77 rfl ?_
  refine ev_aload_n dX2_worthOfIce_5 rfl ?_
  refine ev_getI dX2_worthOfIce_6 fo_2_31 (by omega) lo_77 rfl ?_
  exact k
theorem bX2_worthOfIce_12_0 {g : GG} {d n0 nf : Nat} {post : Option Value → LX → Prop} {n : Nat} {X : LX} (hn : 146 ≤ nf) (hX : Sh nf X) {s0 : Int32} (hp : post (some (.int s0)) X) : Ev g mX2_worthOfIce d n0 nf post nf 12 [some (.ref 77)] [.int s0] X := by
  exact ev_iret dX2_worthOfIce_12 rfl rfl hp
theorem bX2_worth_0_0 {g : GG} {d n0 nf : Nat} {post : Option Value → LX → Prop} {n : Nat} {X : LX} (hn : 146 ≤ n) (hX : Sh n X) {v1 : Int32} {v2 : Int32} (k : Ev g mX2_worth d n0 nf post n 5 [some (.ref 77), some (.int v1), some (.int v2), some (.int 0), some (.int v1), none] [] X) : Ev g mX2_worth d n0 nf post n 0 [some (.ref 77), some (.int v1), some (.int v2), none, none, none] [] X := by
  refine ev_iconst (v := 0) dX2_worth_0 ki_0 ?_
  refine ev_istore_n dX2_worth_1 (by decide) ?_
  refine ev_iload_n dX2_worth_2 rfl ?_
  refine ev_istore dX2_worth_3 (by decide) ?_
  exact k
theorem bX2_worth_5_0 {g : GG} {d n0 nf : Nat} {post : Option Value → LX → Prop} {n : Nat} {X : LX} (hn : 146 ≤ n) (hX : Sh n X) {v1 : Int32} {v2 : Int32} {v3 : Nat} {v4 : Nat} (c0 : ¬ v2 ≤ nI v4) (b0 : v4 < 120) (c1 : ¬ 0 ≤ X 78 v4) (c2 : ¬ (-1000) < X 78 v4) (c3 : ¬ nI 120 ≤ nI v3) (c4 : ¬ X 78 v4 < 0) (b1 : v3 < 120) (k : Ev g mX2_worth d n0 nf post n 5 [some (.ref 77), some (.int v1), some (.int v2), some (.int ((nI v3) + 1)), some (.int ((nI v4) + 1)), some (.int (X 78 v4))] [] (lx_up X 79 v3 (X 78 v4))) : Ev g mX2_worth d n0 nf post n 5 [some (.ref 77), some (.int v1), some (.int v2), some (.int (nI v3)), some (.int (nI v4)), none] [] X := by
  refine ev_iload dX2_worth_5 rfl ?_
  refine ev_iload_n dX2_worth_7 rfl ?_
  refine ev_icmpF (tgt := 157) dX2_worth_8 (by decide) c0 ?_
  refine ev_aload_n dX2_worth_11 rfl ?_
  refine ev_getS (q := 78) dX2_worth_12 fo_2_9 (by omega) lo_77 rfl (sh_77_3 hX (by omega)) (by decide) ?_
  refine ev_iload dX2_worth_15 rfl ?_
  refine ev_iald dX2_worth_17 (by omega) ly_78 rfl b0 ?_
  refine ev_istore dX2_worth_18 (by decide) ?_
  refine ev_iload dX2_worth_20 rfl ?_
  refine ev_ifF (tgt := 33) dX2_worth_22 (by decide) c1 ?_
  refine ev_iload dX2_worth_25 rfl ?_
  refine ev_sipush (v := (-1000)) dX2_worth_27 ks_m1000 ?_
  refine ev_icmpF (tgt := 74) dX2_worth_30 (by decide) c2 ?_
  refine ev_iload_n dX2_worth_33 rfl ?_
  refine ev_aload_n dX2_worth_34 rfl ?_
  refine ev_getS (q := 79) dX2_worth_35 fo_2_15 (by omega) lo_77 rfl (sh_77_4 hX (by omega)) (by decide) ?_
  refine ev_alen dX2_worth_38 (by omega) ly_79 (by decide) ?_
  refine ev_icmpF (tgt := 151) dX2_worth_39 (by decide) c3 ?_
  refine ev_aload_n dX2_worth_42 rfl ?_
  refine ev_getS (q := 79) dX2_worth_43 fo_2_15 (by omega) lo_77 rfl (sh_77_4 hX (by omega)) (by decide) ?_
  refine ev_iload_n dX2_worth_46 rfl ?_
  refine ev_iinc (v := (nI v3) + 1) dX2_worth_47 rfl (by rw [show Int32.ofInt 1 = 1 from ki_1]) (by decide) ?_
  refine ev_iload dX2_worth_50 rfl ?_
  refine ev_ifF (tgt := 60) dX2_worth_52 (by decide) c4 ?_
  refine ev_iload dX2_worth_55 rfl ?_
  refine ev_goto (tgt := 70) dX2_worth_57 (by decide) ?_
  refine ev_iast dX2_worth_70 (by omega) ly_79 rfl b1 ?_
  have hX1 : Sh _ (lx_up X 79 v3 (X 78 v4)) := Sh.upA hX (by rw [ly_79]; exact (by decide : 0 < 2))
  refine ev_goto (tgt := 151) dX2_worth_71 (by decide) ?_
  refine ev_iinc (v := (nI v4) + 1) dX2_worth_151 rfl (by rw [show Int32.ofInt 1 = 1 from ki_1]) (by decide) ?_
  refine ev_goto (tgt := 5) dX2_worth_154 (by decide) ?_
  exact k
theorem bX2_worth_5_1 {g : GG} {d n0 nf : Nat} {post : Option Value → LX → Prop} {n : Nat} {X : LX} (hn : 146 ≤ n) (hX : Sh n X) {v1 : Int32} {v2 : Int32} {v3 : Nat} {v4 : Nat} (c0 : ¬ v2 ≤ nI v4) (b0 : v4 < 120) (c1 : ¬ 0 ≤ X 78 v4) (c2 : ¬ (-1000) < X 78 v4) (c3 : ¬ nI 120 ≤ nI v3) (c4 : X 78 v4 < 0) (k : Ev g mX2_worth d n0 nf post n 67 [some (.ref 77), some (.int v1), some (.int v2), some (.int ((nI v3) + 1)), some (.int (nI v4)), some (.int (X 78 v4))] [.int ((-1000) - (X 78 v4)), .ref 77, .int (nI v3), .ref 79] X) : Ev g mX2_worth d n0 nf post n 5 [some (.ref 77), some (.int v1), some (.int v2), some (.int (nI v3)), some (.int (nI v4)), none] [] X := by
  refine ev_iload dX2_worth_5 rfl ?_
  refine ev_iload_n dX2_worth_7 rfl ?_
  refine ev_icmpF (tgt := 157) dX2_worth_8 (by decide) c0 ?_
  refine ev_aload_n dX2_worth_11 rfl ?_
  refine ev_getS (q := 78) dX2_worth_12 fo_2_9 (by omega) lo_77 rfl (sh_77_3 hX (by omega)) (by decide) ?_
  refine ev_iload dX2_worth_15 rfl ?_
  refine ev_iald dX2_worth_17 (by omega) ly_78 rfl b0 ?_
  refine ev_istore dX2_worth_18 (by decide) ?_
  refine ev_iload dX2_worth_20 rfl ?_
  refine ev_ifF (tgt := 33) dX2_worth_22 (by decide) c1 ?_
  refine ev_iload dX2_worth_25 rfl ?_
  refine ev_sipush (v := (-1000)) dX2_worth_27 ks_m1000 ?_
  refine ev_icmpF (tgt := 74) dX2_worth_30 (by decide) c2 ?_
  refine ev_iload_n dX2_worth_33 rfl ?_
  refine ev_aload_n dX2_worth_34 rfl ?_
  refine ev_getS (q := 79) dX2_worth_35 fo_2_15 (by omega) lo_77 rfl (sh_77_4 hX (by omega)) (by decide) ?_
  refine ev_alen dX2_worth_38 (by omega) ly_79 (by decide) ?_
  refine ev_icmpF (tgt := 151) dX2_worth_39 (by decide) c3 ?_
  refine ev_aload_n dX2_worth_42 rfl ?_
  refine ev_getS (q := 79) dX2_worth_43 fo_2_15 (by omega) lo_77 rfl (sh_77_4 hX (by omega)) (by decide) ?_
  refine ev_iload_n dX2_worth_46 rfl ?_
  refine ev_iinc (v := (nI v3) + 1) dX2_worth_47 rfl (by rw [show Int32.ofInt 1 = 1 from ki_1]) (by decide) ?_
  refine ev_iload dX2_worth_50 rfl ?_
  refine ev_ifT (tgt := 60) dX2_worth_52 (by decide) c4 ?_
  refine ev_aload_n dX2_worth_60 rfl ?_
  refine ev_sipush (v := (-1000)) dX2_worth_61 ks_m1000 ?_
  refine ev_iload dX2_worth_64 rfl ?_
  refine ev_isub dX2_worth_66 ?_
  exact k
theorem bX2_worth_5_2 {g : GG} {d n0 nf : Nat} {post : Option Value → LX → Prop} {n : Nat} {X : LX} (hn : 146 ≤ n) (hX : Sh n X) {v1 : Int32} {v2 : Int32} {v3 : Nat} {v4 : Nat} (c0 : ¬ v2 ≤ nI v4) (b0 : v4 < 120) (c1 : ¬ 0 ≤ X 78 v4) (c2 : ¬ (-1000) < X 78 v4) (c3 : nI 120 ≤ nI v3) (k : Ev g mX2_worth d n0 nf post n 5 [some (.ref 77), some (.int v1), some (.int v2), some (.int (nI v3)), some (.int ((nI v4) + 1)), some (.int (X 78 v4))] [] X) : Ev g mX2_worth d n0 nf post n 5 [some (.ref 77), some (.int v1), some (.int v2), some (.int (nI v3)), some (.int (nI v4)), none] [] X := by
  refine ev_iload dX2_worth_5 rfl ?_
  refine ev_iload_n dX2_worth_7 rfl ?_
  refine ev_icmpF (tgt := 157) dX2_worth_8 (by decide) c0 ?_
  refine ev_aload_n dX2_worth_11 rfl ?_
  refine ev_getS (q := 78) dX2_worth_12 fo_2_9 (by omega) lo_77 rfl (sh_77_3 hX (by omega)) (by decide) ?_
  refine ev_iload dX2_worth_15 rfl ?_
  refine ev_iald dX2_worth_17 (by omega) ly_78 rfl b0 ?_
  refine ev_istore dX2_worth_18 (by decide) ?_
  refine ev_iload dX2_worth_20 rfl ?_
  refine ev_ifF (tgt := 33) dX2_worth_22 (by decide) c1 ?_
  refine ev_iload dX2_worth_25 rfl ?_
  refine ev_sipush (v := (-1000)) dX2_worth_27 ks_m1000 ?_
  refine ev_icmpF (tgt := 74) dX2_worth_30 (by decide) c2 ?_
  refine ev_iload_n dX2_worth_33 rfl ?_
  refine ev_aload_n dX2_worth_34 rfl ?_
  refine ev_getS (q := 79) dX2_worth_35 fo_2_15 (by omega) lo_77 rfl (sh_77_4 hX (by omega)) (by decide) ?_
  refine ev_alen dX2_worth_38 (by omega) ly_79 (by decide) ?_
  refine ev_icmpT (tgt := 151) dX2_worth_39 (by decide) c3 ?_
  refine ev_iinc (v := (nI v4) + 1) dX2_worth_151 rfl (by rw [show Int32.ofInt 1 = 1 from ki_1]) (by decide) ?_
  refine ev_goto (tgt := 5) dX2_worth_154 (by decide) ?_
  exact k
theorem bX2_worth_5_3 {g : GG} {d n0 nf : Nat} {post : Option Value → LX → Prop} {n : Nat} {X : LX} (hn : 146 ≤ n) (hX : Sh n X) {v1 : Int32} {v2 : Int32} {v3 : Nat} {v4 : Nat} {j1 : Nat} (c0 : ¬ v2 ≤ nI v4) (b0 : v4 < 120) (c1 : ¬ 0 ≤ X 78 v4) (c2 : (-1000) < X 78 v4) (c3 : X 78 v4 = (-33)) (c4 : ¬ nI v3 ≤ 0) (hj1 : (nI v3) - 1 = nI j1) (b1 : j1 < 120) (c5 : X 79 j1 = 0) (k : Ev g mX2_worth d n0 nf post n 108 [some (.ref 77), some (.int v1), some (.int v2), some (.int (nI v3)), some (.int (nI v4)), some (.int (X 78 v4))] [.int 1, .int ((nI v3) - 1), .ref 79] X) : Ev g mX2_worth d n0 nf post n 5 [some (.ref 77), some (.int v1), some (.int v2), some (.int (nI v3)), some (.int (nI v4)), none] [] X := by
  refine ev_iload dX2_worth_5 rfl ?_
  refine ev_iload_n dX2_worth_7 rfl ?_
  refine ev_icmpF (tgt := 157) dX2_worth_8 (by decide) c0 ?_
  refine ev_aload_n dX2_worth_11 rfl ?_
  refine ev_getS (q := 78) dX2_worth_12 fo_2_9 (by omega) lo_77 rfl (sh_77_3 hX (by omega)) (by decide) ?_
  refine ev_iload dX2_worth_15 rfl ?_
  refine ev_iald dX2_worth_17 (by omega) ly_78 rfl b0 ?_
  refine ev_istore dX2_worth_18 (by decide) ?_
  refine ev_iload dX2_worth_20 rfl ?_
  refine ev_ifF (tgt := 33) dX2_worth_22 (by decide) c1 ?_
  refine ev_iload dX2_worth_25 rfl ?_
  refine ev_sipush (v := (-1000)) dX2_worth_27 ks_m1000 ?_
  refine ev_icmpT (tgt := 74) dX2_worth_30 (by decide) c2 ?_
  refine ev_iload dX2_worth_74 rfl ?_
  refine ev_bipush (v := (-33)) dX2_worth_76 kb_m33 ?_
  refine ev_icmpF (tgt := 115) dX2_worth_78 (by decide) c3 ?_
  refine ev_iload_n dX2_worth_81 rfl ?_
  refine ev_ifF (tgt := 151) dX2_worth_82 (by decide) c4 ?_
  refine ev_aload_n dX2_worth_85 rfl ?_
  refine ev_getS (q := 79) dX2_worth_86 fo_2_15 (by omega) lo_77 rfl (sh_77_4 hX (by omega)) (by decide) ?_
  refine ev_iload_n dX2_worth_89 rfl ?_
  refine ev_iconst (v := 1) dX2_worth_90 ki_1 ?_
  refine ev_isub dX2_worth_91 ?_
  refine ev_aload_n dX2_worth_92 rfl ?_
  refine ev_getS (q := 79) dX2_worth_93 fo_2_15 (by omega) lo_77 rfl (sh_77_4 hX (by omega)) (by decide) ?_
  refine ev_iload_n dX2_worth_96 rfl ?_
  refine ev_iconst (v := 1) dX2_worth_97 ki_1 ?_
  refine ev_isub dX2_worth_98 ?_
  refine ev_iald dX2_worth_99 (by omega) ly_79 hj1 b1 ?_
  refine ev_ifF (tgt := 107) dX2_worth_100 (by decide) c5 ?_
  refine ev_iconst (v := 1) dX2_worth_103 ki_1 ?_
  refine ev_goto (tgt := 108) dX2_worth_104 (by decide) ?_
  exact k
theorem bX2_worth_5_4 {g : GG} {d n0 nf : Nat} {post : Option Value → LX → Prop} {n : Nat} {X : LX} (hn : 146 ≤ n) (hX : Sh n X) {v1 : Int32} {v2 : Int32} {v3 : Nat} {v4 : Nat} {j1 : Nat} (c0 : ¬ v2 ≤ nI v4) (b0 : v4 < 120) (c1 : ¬ 0 ≤ X 78 v4) (c2 : (-1000) < X 78 v4) (c3 : X 78 v4 = (-33)) (c4 : ¬ nI v3 ≤ 0) (hj1 : (nI v3) - 1 = nI j1) (b1 : j1 < 120) (c5 : ¬ X 79 j1 = 0) (k : Ev g mX2_worth d n0 nf post n 108 [some (.ref 77), some (.int v1), some (.int v2), some (.int (nI v3)), some (.int (nI v4)), some (.int (X 78 v4))] [.int 0, .int ((nI v3) - 1), .ref 79] X) : Ev g mX2_worth d n0 nf post n 5 [some (.ref 77), some (.int v1), some (.int v2), some (.int (nI v3)), some (.int (nI v4)), none] [] X := by
  refine ev_iload dX2_worth_5 rfl ?_
  refine ev_iload_n dX2_worth_7 rfl ?_
  refine ev_icmpF (tgt := 157) dX2_worth_8 (by decide) c0 ?_
  refine ev_aload_n dX2_worth_11 rfl ?_
  refine ev_getS (q := 78) dX2_worth_12 fo_2_9 (by omega) lo_77 rfl (sh_77_3 hX (by omega)) (by decide) ?_
  refine ev_iload dX2_worth_15 rfl ?_
  refine ev_iald dX2_worth_17 (by omega) ly_78 rfl b0 ?_
  refine ev_istore dX2_worth_18 (by decide) ?_
  refine ev_iload dX2_worth_20 rfl ?_
  refine ev_ifF (tgt := 33) dX2_worth_22 (by decide) c1 ?_
  refine ev_iload dX2_worth_25 rfl ?_
  refine ev_sipush (v := (-1000)) dX2_worth_27 ks_m1000 ?_
  refine ev_icmpT (tgt := 74) dX2_worth_30 (by decide) c2 ?_
  refine ev_iload dX2_worth_74 rfl ?_
  refine ev_bipush (v := (-33)) dX2_worth_76 kb_m33 ?_
  refine ev_icmpF (tgt := 115) dX2_worth_78 (by decide) c3 ?_
  refine ev_iload_n dX2_worth_81 rfl ?_
  refine ev_ifF (tgt := 151) dX2_worth_82 (by decide) c4 ?_
  refine ev_aload_n dX2_worth_85 rfl ?_
  refine ev_getS (q := 79) dX2_worth_86 fo_2_15 (by omega) lo_77 rfl (sh_77_4 hX (by omega)) (by decide) ?_
  refine ev_iload_n dX2_worth_89 rfl ?_
  refine ev_iconst (v := 1) dX2_worth_90 ki_1 ?_
  refine ev_isub dX2_worth_91 ?_
  refine ev_aload_n dX2_worth_92 rfl ?_
  refine ev_getS (q := 79) dX2_worth_93 fo_2_15 (by omega) lo_77 rfl (sh_77_4 hX (by omega)) (by decide) ?_
  refine ev_iload_n dX2_worth_96 rfl ?_
  refine ev_iconst (v := 1) dX2_worth_97 ki_1 ?_
  refine ev_isub dX2_worth_98 ?_
  refine ev_iald dX2_worth_99 (by omega) ly_79 hj1 b1 ?_
  refine ev_ifT (tgt := 107) dX2_worth_100 (by decide) c5 ?_
  refine ev_iconst (v := 0) dX2_worth_107 ki_0 ?_
  exact k
theorem bX2_worth_5_5 {g : GG} {d n0 nf : Nat} {post : Option Value → LX → Prop} {n : Nat} {X : LX} (hn : 146 ≤ n) (hX : Sh n X) {v1 : Int32} {v2 : Int32} {v3 : Nat} {v4 : Nat} (c0 : ¬ v2 ≤ nI v4) (b0 : v4 < 120) (c1 : ¬ 0 ≤ X 78 v4) (c2 : (-1000) < X 78 v4) (c3 : X 78 v4 = (-33)) (c4 : nI v3 ≤ 0) (k : Ev g mX2_worth d n0 nf post n 5 [some (.ref 77), some (.int v1), some (.int v2), some (.int (nI v3)), some (.int ((nI v4) + 1)), some (.int (X 78 v4))] [] X) : Ev g mX2_worth d n0 nf post n 5 [some (.ref 77), some (.int v1), some (.int v2), some (.int (nI v3)), some (.int (nI v4)), none] [] X := by
  refine ev_iload dX2_worth_5 rfl ?_
  refine ev_iload_n dX2_worth_7 rfl ?_
  refine ev_icmpF (tgt := 157) dX2_worth_8 (by decide) c0 ?_
  refine ev_aload_n dX2_worth_11 rfl ?_
  refine ev_getS (q := 78) dX2_worth_12 fo_2_9 (by omega) lo_77 rfl (sh_77_3 hX (by omega)) (by decide) ?_
  refine ev_iload dX2_worth_15 rfl ?_
  refine ev_iald dX2_worth_17 (by omega) ly_78 rfl b0 ?_
  refine ev_istore dX2_worth_18 (by decide) ?_
  refine ev_iload dX2_worth_20 rfl ?_
  refine ev_ifF (tgt := 33) dX2_worth_22 (by decide) c1 ?_
  refine ev_iload dX2_worth_25 rfl ?_
  refine ev_sipush (v := (-1000)) dX2_worth_27 ks_m1000 ?_
  refine ev_icmpT (tgt := 74) dX2_worth_30 (by decide) c2 ?_
  refine ev_iload dX2_worth_74 rfl ?_
  refine ev_bipush (v := (-33)) dX2_worth_76 kb_m33 ?_
  refine ev_icmpF (tgt := 115) dX2_worth_78 (by decide) c3 ?_
  refine ev_iload_n dX2_worth_81 rfl ?_
  refine ev_ifT (tgt := 151) dX2_worth_82 (by decide) c4 ?_
  refine ev_iinc (v := (nI v4) + 1) dX2_worth_151 rfl (by rw [show Int32.ofInt 1 = 1 from ki_1]) (by decide) ?_
  refine ev_goto (tgt := 5) dX2_worth_154 (by decide) ?_
  exact k
theorem bX2_worth_5_6 {g : GG} {d n0 nf : Nat} {post : Option Value → LX → Prop} {n : Nat} {X : LX} (hn : 146 ≤ n) (hX : Sh n X) {v1 : Int32} {v2 : Int32} {v3 : Nat} {v4 : Nat} {j1 : Nat} {j2 : Nat} (c0 : ¬ v2 ≤ nI v4) (b0 : v4 < 120) (c1 : ¬ 0 ≤ X 78 v4) (c2 : (-1000) < X 78 v4) (c3 : ¬ X 78 v4 = (-33)) (c4 : ¬ nI v3 ≤ 1) (hj1 : ((nI v3) + (-1)) - 1 = nI j1) (b1 : j1 < 120) (hj2 : (nI v3) + (-1) = nI j2) (b2 : j2 < 120) (k : Ev g mX2_worth d n0 nf post n 147 [some (.ref 77), some (.int v1), some (.int v2), some (.int ((nI v3) + (-1))), some (.int (nI v4)), some (.int (X 78 v4))] [.int (X 79 j2), .int (X 79 j1), .int (-(X 78 v4)), .int (((nI v3) + (-1)) - 1), .ref 79] X) : Ev g mX2_worth d n0 nf post n 5 [some (.ref 77), some (.int v1), some (.int v2), some (.int (nI v3)), some (.int (nI v4)), none] [] X := by
  refine ev_iload dX2_worth_5 rfl ?_
  refine ev_iload_n dX2_worth_7 rfl ?_
  refine ev_icmpF (tgt := 157) dX2_worth_8 (by decide) c0 ?_
  refine ev_aload_n dX2_worth_11 rfl ?_
  refine ev_getS (q := 78) dX2_worth_12 fo_2_9 (by omega) lo_77 rfl (sh_77_3 hX (by omega)) (by decide) ?_
  refine ev_iload dX2_worth_15 rfl ?_
  refine ev_iald dX2_worth_17 (by omega) ly_78 rfl b0 ?_
  refine ev_istore dX2_worth_18 (by decide) ?_
  refine ev_iload dX2_worth_20 rfl ?_
  refine ev_ifF (tgt := 33) dX2_worth_22 (by decide) c1 ?_
  refine ev_iload dX2_worth_25 rfl ?_
  refine ev_sipush (v := (-1000)) dX2_worth_27 ks_m1000 ?_
  refine ev_icmpT (tgt := 74) dX2_worth_30 (by decide) c2 ?_
  refine ev_iload dX2_worth_74 rfl ?_
  refine ev_bipush (v := (-33)) dX2_worth_76 kb_m33 ?_
  refine ev_icmpT (tgt := 115) dX2_worth_78 (by decide) c3 ?_
  refine ev_iload_n dX2_worth_115 rfl ?_
  refine ev_iconst (v := 1) dX2_worth_116 ki_1 ?_
  refine ev_icmpF (tgt := 151) dX2_worth_117 (by decide) c4 ?_
  refine ev_iinc (v := (nI v3) + (-1)) dX2_worth_120 rfl (by rw [show Int32.ofInt (-1) = (-1) from ki_m1]) (by decide) ?_
  refine ev_aload_n dX2_worth_123 rfl ?_
  refine ev_getS (q := 79) dX2_worth_124 fo_2_15 (by omega) lo_77 rfl (sh_77_4 hX (by omega)) (by decide) ?_
  refine ev_iload_n dX2_worth_127 rfl ?_
  refine ev_iconst (v := 1) dX2_worth_128 ki_1 ?_
  refine ev_isub dX2_worth_129 ?_
  refine ev_iload dX2_worth_130 rfl ?_
  refine ev_ineg dX2_worth_132 ?_
  refine ev_aload_n dX2_worth_133 rfl ?_
  refine ev_getS (q := 79) dX2_worth_134 fo_2_15 (by omega) lo_77 rfl (sh_77_4 hX (by omega)) (by decide) ?_
  refine ev_iload_n dX2_worth_137 rfl ?_
  refine ev_iconst (v := 1) dX2_worth_138 ki_1 ?_
  refine ev_isub dX2_worth_139 ?_
  refine ev_iald dX2_worth_140 (by omega) ly_79 hj1 b1 ?_
  refine ev_aload_n dX2_worth_141 rfl ?_
  refine ev_getS (q := 79) dX2_worth_142 fo_2_15 (by omega) lo_77 rfl (sh_77_4 hX (by omega)) (by decide) ?_
  refine ev_iload_n dX2_worth_145 rfl ?_
  refine ev_iald dX2_worth_146 (by omega) ly_79 hj2 b2 ?_
  exact k
theorem bX2_worth_5_7 {g : GG} {d n0 nf : Nat} {post : Option Value → LX → Prop} {n : Nat} {X : LX} (hn : 146 ≤ n) (hX : Sh n X) {v1 : Int32} {v2 : Int32} {v3 : Nat} {v4 : Nat} (c0 : ¬ v2 ≤ nI v4) (b0 : v4 < 120) (c1 : ¬ 0 ≤ X 78 v4) (c2 : (-1000) < X 78 v4) (c3 : ¬ X 78 v4 = (-33)) (c4 : nI v3 ≤ 1) (k : Ev g mX2_worth d n0 nf post n 5 [some (.ref 77), some (.int v1), some (.int v2), some (.int (nI v3)), some (.int ((nI v4) + 1)), some (.int (X 78 v4))] [] X) : Ev g mX2_worth d n0 nf post n 5 [some (.ref 77), some (.int v1), some (.int v2), some (.int (nI v3)), some (.int (nI v4)), none] [] X := by
  refine ev_iload dX2_worth_5 rfl ?_
  refine ev_iload_n dX2_worth_7 rfl ?_
  refine ev_icmpF (tgt := 157) dX2_worth_8 (by decide) c0 ?_
  refine ev_aload_n dX2_worth_11 rfl ?_
  refine ev_getS (q := 78) dX2_worth_12 fo_2_9 (by omega) lo_77 rfl (sh_77_3 hX (by omega)) (by decide) ?_
  refine ev_iload dX2_worth_15 rfl ?_
  refine ev_iald dX2_worth_17 (by omega) ly_78 rfl b0 ?_
  refine ev_istore dX2_worth_18 (by decide) ?_
  refine ev_iload dX2_worth_20 rfl ?_
  refine ev_ifF (tgt := 33) dX2_worth_22 (by decide) c1 ?_
  refine ev_iload dX2_worth_25 rfl ?_
  refine ev_sipush (v := (-1000)) dX2_worth_27 ks_m1000 ?_
  refine ev_icmpT (tgt := 74) dX2_worth_30 (by decide) c2 ?_
  refine ev_iload dX2_worth_74 rfl ?_
  refine ev_bipush (v := (-33)) dX2_worth_76 kb_m33 ?_
  refine ev_icmpT (tgt := 115) dX2_worth_78 (by decide) c3 ?_
  refine ev_iload_n dX2_worth_115 rfl ?_
  refine ev_iconst (v := 1) dX2_worth_116 ki_1 ?_
  refine ev_icmpT (tgt := 151) dX2_worth_117 (by decide) c4 ?_
  refine ev_iinc (v := (nI v4) + 1) dX2_worth_151 rfl (by rw [show Int32.ofInt 1 = 1 from ki_1]) (by decide) ?_
  refine ev_goto (tgt := 5) dX2_worth_154 (by decide) ?_
  exact k
theorem bX2_worth_5_8 {g : GG} {d n0 nf : Nat} {post : Option Value → LX → Prop} {n : Nat} {X : LX} (hn : 146 ≤ n) (hX : Sh n X) {v1 : Int32} {v2 : Int32} {v3 : Nat} {v4 : Nat} (c0 : ¬ v2 ≤ nI v4) (b0 : v4 < 120) (c1 : 0 ≤ X 78 v4) (c2 : ¬ nI 120 ≤ nI v3) (c3 : ¬ X 78 v4 < 0) (b1 : v3 < 120) (k : Ev g mX2_worth d n0 nf post n 5 [some (.ref 77), some (.int v1), some (.int v2), some (.int ((nI v3) + 1)), some (.int ((nI v4) + 1)), some (.int (X 78 v4))] [] (lx_up X 79 v3 (X 78 v4))) : Ev g mX2_worth d n0 nf post n 5 [some (.ref 77), some (.int v1), some (.int v2), some (.int (nI v3)), some (.int (nI v4)), none] [] X := by
  refine ev_iload dX2_worth_5 rfl ?_
  refine ev_iload_n dX2_worth_7 rfl ?_
  refine ev_icmpF (tgt := 157) dX2_worth_8 (by decide) c0 ?_
  refine ev_aload_n dX2_worth_11 rfl ?_
  refine ev_getS (q := 78) dX2_worth_12 fo_2_9 (by omega) lo_77 rfl (sh_77_3 hX (by omega)) (by decide) ?_
  refine ev_iload dX2_worth_15 rfl ?_
  refine ev_iald dX2_worth_17 (by omega) ly_78 rfl b0 ?_
  refine ev_istore dX2_worth_18 (by decide) ?_
  refine ev_iload dX2_worth_20 rfl ?_
  refine ev_ifT (tgt := 33) dX2_worth_22 (by decide) c1 ?_
  refine ev_iload_n dX2_worth_33 rfl ?_
  refine ev_aload_n dX2_worth_34 rfl ?_
  refine ev_getS (q := 79) dX2_worth_35 fo_2_15 (by omega) lo_77 rfl (sh_77_4 hX (by omega)) (by decide) ?_
  refine ev_alen dX2_worth_38 (by omega) ly_79 (by decide) ?_
  refine ev_icmpF (tgt := 151) dX2_worth_39 (by decide) c2 ?_
  refine ev_aload_n dX2_worth_42 rfl ?_
  refine ev_getS (q := 79) dX2_worth_43 fo_2_15 (by omega) lo_77 rfl (sh_77_4 hX (by omega)) (by decide) ?_
  refine ev_iload_n dX2_worth_46 rfl ?_
  refine ev_iinc (v := (nI v3) + 1) dX2_worth_47 rfl (by rw [show Int32.ofInt 1 = 1 from ki_1]) (by decide) ?_
  refine ev_iload dX2_worth_50 rfl ?_
  refine ev_ifF (tgt := 60) dX2_worth_52 (by decide) c3 ?_
  refine ev_iload dX2_worth_55 rfl ?_
  refine ev_goto (tgt := 70) dX2_worth_57 (by decide) ?_
  refine ev_iast dX2_worth_70 (by omega) ly_79 rfl b1 ?_
  have hX1 : Sh _ (lx_up X 79 v3 (X 78 v4)) := Sh.upA hX (by rw [ly_79]; exact (by decide : 0 < 2))
  refine ev_goto (tgt := 151) dX2_worth_71 (by decide) ?_
  refine ev_iinc (v := (nI v4) + 1) dX2_worth_151 rfl (by rw [show Int32.ofInt 1 = 1 from ki_1]) (by decide) ?_
  refine ev_goto (tgt := 5) dX2_worth_154 (by decide) ?_
  exact k
theorem bX2_worth_5_9 {g : GG} {d n0 nf : Nat} {post : Option Value → LX → Prop} {n : Nat} {X : LX} (hn : 146 ≤ n) (hX : Sh n X) {v1 : Int32} {v2 : Int32} {v3 : Nat} {v4 : Nat} (c0 : ¬ v2 ≤ nI v4) (b0 : v4 < 120) (c1 : 0 ≤ X 78 v4) (c2 : ¬ nI 120 ≤ nI v3) (c3 : X 78 v4 < 0) (k : Ev g mX2_worth d n0 nf post n 67 [some (.ref 77), some (.int v1), some (.int v2), some (.int ((nI v3) + 1)), some (.int (nI v4)), some (.int (X 78 v4))] [.int ((-1000) - (X 78 v4)), .ref 77, .int (nI v3), .ref 79] X) : Ev g mX2_worth d n0 nf post n 5 [some (.ref 77), some (.int v1), some (.int v2), some (.int (nI v3)), some (.int (nI v4)), none] [] X := by
  refine ev_iload dX2_worth_5 rfl ?_
  refine ev_iload_n dX2_worth_7 rfl ?_
  refine ev_icmpF (tgt := 157) dX2_worth_8 (by decide) c0 ?_
  refine ev_aload_n dX2_worth_11 rfl ?_
  refine ev_getS (q := 78) dX2_worth_12 fo_2_9 (by omega) lo_77 rfl (sh_77_3 hX (by omega)) (by decide) ?_
  refine ev_iload dX2_worth_15 rfl ?_
  refine ev_iald dX2_worth_17 (by omega) ly_78 rfl b0 ?_
  refine ev_istore dX2_worth_18 (by decide) ?_
  refine ev_iload dX2_worth_20 rfl ?_
  refine ev_ifT (tgt := 33) dX2_worth_22 (by decide) c1 ?_
  refine ev_iload_n dX2_worth_33 rfl ?_
  refine ev_aload_n dX2_worth_34 rfl ?_
  refine ev_getS (q := 79) dX2_worth_35 fo_2_15 (by omega) lo_77 rfl (sh_77_4 hX (by omega)) (by decide) ?_
  refine ev_alen dX2_worth_38 (by omega) ly_79 (by decide) ?_
  refine ev_icmpF (tgt := 151) dX2_worth_39 (by decide) c2 ?_
  refine ev_aload_n dX2_worth_42 rfl ?_
  refine ev_getS (q := 79) dX2_worth_43 fo_2_15 (by omega) lo_77 rfl (sh_77_4 hX (by omega)) (by decide) ?_
  refine ev_iload_n dX2_worth_46 rfl ?_
  refine ev_iinc (v := (nI v3) + 1) dX2_worth_47 rfl (by rw [show Int32.ofInt 1 = 1 from ki_1]) (by decide) ?_
  refine ev_iload dX2_worth_50 rfl ?_
  refine ev_ifT (tgt := 60) dX2_worth_52 (by decide) c3 ?_
  refine ev_aload_n dX2_worth_60 rfl ?_
  refine ev_sipush (v := (-1000)) dX2_worth_61 ks_m1000 ?_
  refine ev_iload dX2_worth_64 rfl ?_
  refine ev_isub dX2_worth_66 ?_
  exact k
theorem bX2_worth_5_10 {g : GG} {d n0 nf : Nat} {post : Option Value → LX → Prop} {n : Nat} {X : LX} (hn : 146 ≤ n) (hX : Sh n X) {v1 : Int32} {v2 : Int32} {v3 : Nat} {v4 : Nat} (c0 : ¬ v2 ≤ nI v4) (b0 : v4 < 120) (c1 : 0 ≤ X 78 v4) (c2 : nI 120 ≤ nI v3) (k : Ev g mX2_worth d n0 nf post n 5 [some (.ref 77), some (.int v1), some (.int v2), some (.int (nI v3)), some (.int ((nI v4) + 1)), some (.int (X 78 v4))] [] X) : Ev g mX2_worth d n0 nf post n 5 [some (.ref 77), some (.int v1), some (.int v2), some (.int (nI v3)), some (.int (nI v4)), none] [] X := by
  refine ev_iload dX2_worth_5 rfl ?_
  refine ev_iload_n dX2_worth_7 rfl ?_
  refine ev_icmpF (tgt := 157) dX2_worth_8 (by decide) c0 ?_
  refine ev_aload_n dX2_worth_11 rfl ?_
  refine ev_getS (q := 78) dX2_worth_12 fo_2_9 (by omega) lo_77 rfl (sh_77_3 hX (by omega)) (by decide) ?_
  refine ev_iload dX2_worth_15 rfl ?_
  refine ev_iald dX2_worth_17 (by omega) ly_78 rfl b0 ?_
  refine ev_istore dX2_worth_18 (by decide) ?_
  refine ev_iload dX2_worth_20 rfl ?_
  refine ev_ifT (tgt := 33) dX2_worth_22 (by decide) c1 ?_
  refine ev_iload_n dX2_worth_33 rfl ?_
  refine ev_aload_n dX2_worth_34 rfl ?_
  refine ev_getS (q := 79) dX2_worth_35 fo_2_15 (by omega) lo_77 rfl (sh_77_4 hX (by omega)) (by decide) ?_
  refine ev_alen dX2_worth_38 (by omega) ly_79 (by decide) ?_
  refine ev_icmpT (tgt := 151) dX2_worth_39 (by decide) c2 ?_
  refine ev_iinc (v := (nI v4) + 1) dX2_worth_151 rfl (by rw [show Int32.ofInt 1 = 1 from ki_1]) (by decide) ?_
  refine ev_goto (tgt := 5) dX2_worth_154 (by decide) ?_
  exact k
theorem bX2_worth_5_11 {g : GG} {d n0 nf : Nat} {post : Option Value → LX → Prop} {n : Nat} {X : LX} (hn : 146 ≤ nf) (hX : Sh nf X) {v1 : Int32} {v2 : Int32} {v3 : Nat} {v4 : Nat} (c0 : v2 ≤ nI v4) (c1 : ¬ nI v3 ≤ 0) (hp : post (some (.int (X 79 0))) X) : Ev g mX2_worth d n0 nf post nf 5 [some (.ref 77), some (.int v1), some (.int v2), some (.int (nI v3)), some (.int (nI v4)), none] [] X := by
  refine ev_iload dX2_worth_5 rfl ?_
  refine ev_iload_n dX2_worth_7 rfl ?_
  refine ev_icmpT (tgt := 157) dX2_worth_8 (by decide) c0 ?_
  refine ev_iload_n dX2_worth_157 rfl ?_
  refine ev_ifF (tgt := 170) dX2_worth_158 (by decide) c1 ?_
  refine ev_aload_n dX2_worth_161 rfl ?_
  refine ev_getS (q := 79) dX2_worth_162 fo_2_15 (by omega) lo_77 rfl (sh_77_4 hX (by omega)) (by decide) ?_
  refine ev_iconst (v := 0) dX2_worth_165 ki_0 ?_
  refine ev_iald dX2_worth_166 (by omega) ly_79 nIl_0 (by decide) ?_
  refine ev_goto (tgt := 171) dX2_worth_167 (by decide) ?_
  exact ev_iret dX2_worth_171 rfl rfl hp
theorem bX2_worth_5_12 {g : GG} {d n0 nf : Nat} {post : Option Value → LX → Prop} {n : Nat} {X : LX} (hn : 146 ≤ nf) (hX : Sh nf X) {v1 : Int32} {v2 : Int32} {v3 : Nat} {v4 : Nat} (c0 : v2 ≤ nI v4) (c1 : nI v3 ≤ 0) (hp : post (some (.int 0)) X) : Ev g mX2_worth d n0 nf post nf 5 [some (.ref 77), some (.int v1), some (.int v2), some (.int (nI v3)), some (.int (nI v4)), none] [] X := by
  refine ev_iload dX2_worth_5 rfl ?_
  refine ev_iload_n dX2_worth_7 rfl ?_
  refine ev_icmpT (tgt := 157) dX2_worth_8 (by decide) c0 ?_
  refine ev_iload_n dX2_worth_157 rfl ?_
  refine ev_ifT (tgt := 170) dX2_worth_158 (by decide) c1 ?_
  refine ev_iconst (v := 0) dX2_worth_170 ki_0 ?_
  exact ev_iret dX2_worth_171 rfl rfl hp
theorem bX2_worth_70_0 {g : GG} {d n0 nf : Nat} {post : Option Value → LX → Prop} {n : Nat} {X : LX} (hn : 146 ≤ n) (hX : Sh n X) {v1 : Int32} {v2 : Int32} {v3 : Int32} {v4 : Int32} {v5 : Int32} {s1 : Nat} {s2 : Int32} (b0 : s1 < 120) (k : Ev g mX2_worth d n0 nf post n 5 [some (.ref 77), some (.int v1), some (.int v2), some (.int v3), some (.int (v4 + 1)), some (.int v5)] [] (lx_up X 79 s1 s2)) : Ev g mX2_worth d n0 nf post n 70 [some (.ref 77), some (.int v1), some (.int v2), some (.int v3), some (.int v4), some (.int v5)] [.int s2, .int (nI s1), .ref 79] X := by
  refine ev_iast dX2_worth_70 (by omega) ly_79 rfl b0 ?_
  have hX1 : Sh _ (lx_up X 79 s1 s2) := Sh.upA hX (by rw [ly_79]; exact (by decide : 0 < 2))
  refine ev_goto (tgt := 151) dX2_worth_71 (by decide) ?_
  refine ev_iinc (v := v4 + 1) dX2_worth_151 rfl (by rw [show Int32.ofInt 1 = 1 from ki_1]) (by decide) ?_
  refine ev_goto (tgt := 5) dX2_worth_154 (by decide) ?_
  exact k
theorem bX2_worth_111_0 {g : GG} {d n0 nf : Nat} {post : Option Value → LX → Prop} {n : Nat} {X : LX} (hn : 146 ≤ n) (hX : Sh n X) {v1 : Int32} {v2 : Int32} {v3 : Int32} {v4 : Int32} {v5 : Int32} {s1 : Nat} {s2 : Int32} (b0 : s1 < 120) (k : Ev g mX2_worth d n0 nf post n 5 [some (.ref 77), some (.int v1), some (.int v2), some (.int v3), some (.int (v4 + 1)), some (.int v5)] [] (lx_up X 79 s1 s2)) : Ev g mX2_worth d n0 nf post n 111 [some (.ref 77), some (.int v1), some (.int v2), some (.int v3), some (.int v4), some (.int v5)] [.int s2, .int (nI s1), .ref 79] X := by
  refine ev_iast dX2_worth_111 (by omega) ly_79 rfl b0 ?_
  have hX1 : Sh _ (lx_up X 79 s1 s2) := Sh.upA hX (by rw [ly_79]; exact (by decide : 0 < 2))
  refine ev_goto (tgt := 151) dX2_worth_112 (by decide) ?_
  refine ev_iinc (v := v4 + 1) dX2_worth_151 rfl (by rw [show Int32.ofInt 1 = 1 from ki_1]) (by decide) ?_
  refine ev_goto (tgt := 5) dX2_worth_154 (by decide) ?_
  exact k
theorem bX2_worth_150_0 {g : GG} {d n0 nf : Nat} {post : Option Value → LX → Prop} {n : Nat} {X : LX} (hn : 146 ≤ n) (hX : Sh n X) {v1 : Int32} {v2 : Int32} {v3 : Int32} {v4 : Int32} {v5 : Int32} {s1 : Nat} {s2 : Int32} (b0 : s1 < 120) (k : Ev g mX2_worth d n0 nf post n 5 [some (.ref 77), some (.int v1), some (.int v2), some (.int v3), some (.int (v4 + 1)), some (.int v5)] [] (lx_up X 79 s1 s2)) : Ev g mX2_worth d n0 nf post n 150 [some (.ref 77), some (.int v1), some (.int v2), some (.int v3), some (.int v4), some (.int v5)] [.int s2, .int (nI s1), .ref 79] X := by
  refine ev_iast dX2_worth_150 (by omega) ly_79 rfl b0 ?_
  have hX1 : Sh _ (lx_up X 79 s1 s2) := Sh.upA hX (by rw [ly_79]; exact (by decide : 0 < 2))
  refine ev_iinc (v := v4 + 1) dX2_worth_151 rfl (by rw [show Int32.ofInt 1 = 1 from ki_1]) (by decide) ?_
  refine ev_goto (tgt := 5) dX2_worth_154 (by decide) ?_
  exact k
theorem bX2_nameOf_0_0 {g : GG} {d n0 nf : Nat} {post : Option Value → LX → Prop} {n : Nat} {X : LX} (hn : 146 ≤ nf) (hX : Sh nf X) {v1 : Nat} (c0 : ¬ nI v1 < 0) (c1 : ¬ 5 ≤ nI v1) (b0 : v1 < 5) (hp : post (some (.int (X 80 v1))) X) : Ev g mX2_nameOf d n0 nf post nf 0 [some (.ref 77), some (.int (nI v1))] [] X := by
  refine ev_iload_n dX2_nameOf_0 rfl ?_
  refine ev_ifF (tgt := 18) dX2_nameOf_1 (by decide) c0 ?_
  refine ev_iload_n dX2_nameOf_4 rfl ?_
  refine ev_iconst (v := 5) dX2_nameOf_5 ki_5 ?_
  refine ev_icmpF (tgt := 18) dX2_nameOf_6 (by decide) c1 ?_
  refine ev_aload_n dX2_nameOf_9 rfl ?_
  refine ev_getS (q := 80) dX2_nameOf_10 fo_2_18 (by omega) lo_77 rfl (sh_77_5 hX (by omega)) (by decide) ?_
  refine ev_iload_n dX2_nameOf_13 rfl ?_
  refine ev_iald dX2_nameOf_14 (by omega) ly_80 rfl b0 ?_
  refine ev_goto (tgt := 19) dX2_nameOf_15 (by decide) ?_
  exact ev_iret dX2_nameOf_19 rfl rfl hp
theorem bX2_nameOf_0_1 {g : GG} {d n0 nf : Nat} {post : Option Value → LX → Prop} {n : Nat} {X : LX} (hn : 146 ≤ nf) (hX : Sh nf X) {v1 : Nat} (c0 : ¬ nI v1 < 0) (c1 : 5 ≤ nI v1) (hp : post (some (.int 0)) X) : Ev g mX2_nameOf d n0 nf post nf 0 [some (.ref 77), some (.int (nI v1))] [] X := by
  refine ev_iload_n dX2_nameOf_0 rfl ?_
  refine ev_ifF (tgt := 18) dX2_nameOf_1 (by decide) c0 ?_
  refine ev_iload_n dX2_nameOf_4 rfl ?_
  refine ev_iconst (v := 5) dX2_nameOf_5 ki_5 ?_
  refine ev_icmpT (tgt := 18) dX2_nameOf_6 (by decide) c1 ?_
  refine ev_iconst (v := 0) dX2_nameOf_18 ki_0 ?_
  exact ev_iret dX2_nameOf_19 rfl rfl hp
theorem bX2_nameOf_0_2 {g : GG} {d n0 nf : Nat} {post : Option Value → LX → Prop} {n : Nat} {X : LX} (hn : 146 ≤ nf) (hX : Sh nf X) {v1 : Nat} (c0 : nI v1 < 0) (hp : post (some (.int 0)) X) : Ev g mX2_nameOf d n0 nf post nf 0 [some (.ref 77), some (.int (nI v1))] [] X := by
  refine ev_iload_n dX2_nameOf_0 rfl ?_
  refine ev_ifT (tgt := 18) dX2_nameOf_1 (by decide) c0 ?_
  refine ev_iconst (v := 0) dX2_nameOf_18 ki_0 ?_
  exact ev_iret dX2_nameOf_19 rfl rfl hp
theorem bX2_join_0_0 {g : GG} {d n0 nf : Nat} {post : Option Value → LX → Prop} {n : Nat} {X : LX} (hn : 146 ≤ nf) (hX : Sh nf X) {v0 : Int32} {v1 : Int32} {v2 : Int32} (c0 : ¬ v0 = 38) (c1 : ¬ v0 = 42) (c2 : ¬ v0 = 43) (c3 : ¬ v0 = 45) (c4 : ¬ v0 = 60) (c5 : ¬ v0 = 61) (c6 : ¬ v0 = 62) (c7 : ¬ v0 = 124) (c8 : v2 = 0) (hp : post (some (.int 0)) X) : Ev g mX2_join d n0 nf post nf 0 [some (.int v0), some (.int v1), some (.int v2)] [] X := by
  refine ev_iload_n dX2_join_0 rfl ?_
  refine ev_look (tgt := 164) (off := 163) dX2_join_1 (by decide +kernel) (by show Op.lookupswitch.offset [(38, 92), (42, 159), (43, 151), (45, 155), (60, 109), (61, 123), (62, 137), (124, 75)] 163 v0.toInt = 163; rw [lv_osw (a := 38) c0 (by decide), lv_osw (a := 42) c1 (by decide), lv_osw (a := 43) c2 (by decide), lv_osw (a := 45) c3 (by decide), lv_osw (a := 60) c4 (by decide), lv_osw (a := 61) c5 (by decide), lv_osw (a := 62) c6 (by decide), lv_osw (a := 124) c7 (by decide)]; rfl) (by decide) ?_
  refine ev_iload_n dX2_join_164 rfl ?_
  refine ev_ifF (tgt := 172) dX2_join_165 (by decide) c8 ?_
  refine ev_iconst (v := 0) dX2_join_168 ki_0 ?_
  refine ev_goto (tgt := 175) dX2_join_169 (by decide) ?_
  exact ev_iret dX2_join_175 rfl rfl hp
theorem bX2_join_0_1 {g : GG} {d n0 nf : Nat} {post : Option Value → LX → Prop} {n : Nat} {X : LX} (hn : 146 ≤ nf) (hX : Sh nf X) {v0 : Int32} {v1 : Int32} {v2 : Int32} (c0 : ¬ v0 = 38) (c1 : ¬ v0 = 42) (c2 : ¬ v0 = 43) (c3 : ¬ v0 = 45) (c4 : ¬ v0 = 60) (c5 : ¬ v0 = 61) (c6 : ¬ v0 = 62) (c7 : ¬ v0 = 124) (c8 : ¬ v2 = 0) (c9 : ¬ v2 = 0) (hp : post (some (.int (v1 / v2))) X) : Ev g mX2_join d n0 nf post nf 0 [some (.int v0), some (.int v1), some (.int v2)] [] X := by
  refine ev_iload_n dX2_join_0 rfl ?_
  refine ev_look (tgt := 164) (off := 163) dX2_join_1 (by decide +kernel) (by show Op.lookupswitch.offset [(38, 92), (42, 159), (43, 151), (45, 155), (60, 109), (61, 123), (62, 137), (124, 75)] 163 v0.toInt = 163; rw [lv_osw (a := 38) c0 (by decide), lv_osw (a := 42) c1 (by decide), lv_osw (a := 43) c2 (by decide), lv_osw (a := 45) c3 (by decide), lv_osw (a := 60) c4 (by decide), lv_osw (a := 61) c5 (by decide), lv_osw (a := 62) c6 (by decide), lv_osw (a := 124) c7 (by decide)]; rfl) (by decide) ?_
  refine ev_iload_n dX2_join_164 rfl ?_
  refine ev_ifT (tgt := 172) dX2_join_165 (by decide) c8 ?_
  refine ev_iload_n dX2_join_172 rfl ?_
  refine ev_iload_n dX2_join_173 rfl ?_
  refine ev_idiv dX2_join_174 c9 ?_
  exact ev_iret dX2_join_175 rfl rfl hp
theorem bX2_join_0_2 {g : GG} {d n0 nf : Nat} {post : Option Value → LX → Prop} {n : Nat} {X : LX} (hn : 146 ≤ n) (hX : Sh n X) {v0 : Int32} {v1 : Int32} {v2 : Int32} (c0 : v0 = 38) (c1 : ¬ v1 = 0) (c2 : ¬ v2 = 0) (k : Ev g mX2_join d n0 nf post n 106 [some (.int v0), some (.int v1), some (.int v2)] [.int 1] X) : Ev g mX2_join d n0 nf post n 0 [some (.int v0), some (.int v1), some (.int v2)] [] X := by
  refine ev_iload_n dX2_join_0 rfl ?_
  refine ev_look (tgt := 93) (off := 92) dX2_join_1 (by decide +kernel) (by rw [c0]; decide +kernel) (by decide) ?_
  refine ev_iload_n dX2_join_93 rfl ?_
  refine ev_ifF (tgt := 105) dX2_join_94 (by decide) c1 ?_
  refine ev_iload_n dX2_join_97 rfl ?_
  refine ev_ifF (tgt := 105) dX2_join_98 (by decide) c2 ?_
  refine ev_iconst (v := 1) dX2_join_101 ki_1 ?_
  refine ev_goto (tgt := 106) dX2_join_102 (by decide) ?_
  exact k
theorem bX2_join_0_3 {g : GG} {d n0 nf : Nat} {post : Option Value → LX → Prop} {n : Nat} {X : LX} (hn : 146 ≤ n) (hX : Sh n X) {v0 : Int32} {v1 : Int32} {v2 : Int32} (c0 : v0 = 38) (c1 : ¬ v1 = 0) (c2 : v2 = 0) (k : Ev g mX2_join d n0 nf post n 106 [some (.int v0), some (.int v1), some (.int v2)] [.int 0] X) : Ev g mX2_join d n0 nf post n 0 [some (.int v0), some (.int v1), some (.int v2)] [] X := by
  refine ev_iload_n dX2_join_0 rfl ?_
  refine ev_look (tgt := 93) (off := 92) dX2_join_1 (by decide +kernel) (by rw [c0]; decide +kernel) (by decide) ?_
  refine ev_iload_n dX2_join_93 rfl ?_
  refine ev_ifF (tgt := 105) dX2_join_94 (by decide) c1 ?_
  refine ev_iload_n dX2_join_97 rfl ?_
  refine ev_ifT (tgt := 105) dX2_join_98 (by decide) c2 ?_
  refine ev_iconst (v := 0) dX2_join_105 ki_0 ?_
  exact k
theorem bX2_join_0_4 {g : GG} {d n0 nf : Nat} {post : Option Value → LX → Prop} {n : Nat} {X : LX} (hn : 146 ≤ n) (hX : Sh n X) {v0 : Int32} {v1 : Int32} {v2 : Int32} (c0 : v0 = 38) (c1 : v1 = 0) (k : Ev g mX2_join d n0 nf post n 106 [some (.int v0), some (.int v1), some (.int v2)] [.int 0] X) : Ev g mX2_join d n0 nf post n 0 [some (.int v0), some (.int v1), some (.int v2)] [] X := by
  refine ev_iload_n dX2_join_0 rfl ?_
  refine ev_look (tgt := 93) (off := 92) dX2_join_1 (by decide +kernel) (by rw [c0]; decide +kernel) (by decide) ?_
  refine ev_iload_n dX2_join_93 rfl ?_
  refine ev_ifT (tgt := 105) dX2_join_94 (by decide) c1 ?_
  refine ev_iconst (v := 0) dX2_join_105 ki_0 ?_
  exact k
theorem bX2_join_0_5 {g : GG} {d n0 nf : Nat} {post : Option Value → LX → Prop} {n : Nat} {X : LX} (hn : 146 ≤ nf) (hX : Sh nf X) {v0 : Int32} {v1 : Int32} {v2 : Int32} (c0 : v0 = 42) (hp : post (some (.int (v1 * v2))) X) : Ev g mX2_join d n0 nf post nf 0 [some (.int v0), some (.int v1), some (.int v2)] [] X := by
  refine ev_iload_n dX2_join_0 rfl ?_
  refine ev_look (tgt := 160) (off := 159) dX2_join_1 (by decide +kernel) (by rw [c0]; decide +kernel) (by decide) ?_
  refine ev_iload_n dX2_join_160 rfl ?_
  refine ev_iload_n dX2_join_161 rfl ?_
  refine ev_imul dX2_join_162 ?_
  exact ev_iret dX2_join_163 rfl rfl hp
theorem bX2_join_0_6 {g : GG} {d n0 nf : Nat} {post : Option Value → LX → Prop} {n : Nat} {X : LX} (hn : 146 ≤ nf) (hX : Sh nf X) {v0 : Int32} {v1 : Int32} {v2 : Int32} (c0 : v0 = 43) (hp : post (some (.int (v1 + v2))) X) : Ev g mX2_join d n0 nf post nf 0 [some (.int v0), some (.int v1), some (.int v2)] [] X := by
  refine ev_iload_n dX2_join_0 rfl ?_
  refine ev_look (tgt := 152) (off := 151) dX2_join_1 (by decide +kernel) (by rw [c0]; decide +kernel) (by decide) ?_
  refine ev_iload_n dX2_join_152 rfl ?_
  refine ev_iload_n dX2_join_153 rfl ?_
  refine ev_iadd dX2_join_154 ?_
  exact ev_iret dX2_join_155 rfl rfl hp
theorem bX2_join_0_7 {g : GG} {d n0 nf : Nat} {post : Option Value → LX → Prop} {n : Nat} {X : LX} (hn : 146 ≤ nf) (hX : Sh nf X) {v0 : Int32} {v1 : Int32} {v2 : Int32} (c0 : v0 = 45) (hp : post (some (.int (v1 - v2))) X) : Ev g mX2_join d n0 nf post nf 0 [some (.int v0), some (.int v1), some (.int v2)] [] X := by
  refine ev_iload_n dX2_join_0 rfl ?_
  refine ev_look (tgt := 156) (off := 155) dX2_join_1 (by decide +kernel) (by rw [c0]; decide +kernel) (by decide) ?_
  refine ev_iload_n dX2_join_156 rfl ?_
  refine ev_iload_n dX2_join_157 rfl ?_
  refine ev_isub dX2_join_158 ?_
  exact ev_iret dX2_join_159 rfl rfl hp
theorem bX2_join_0_8 {g : GG} {d n0 nf : Nat} {post : Option Value → LX → Prop} {n : Nat} {X : LX} (hn : 146 ≤ n) (hX : Sh n X) {v0 : Int32} {v1 : Int32} {v2 : Int32} (c0 : v0 = 60) (c1 : ¬ v2 ≤ v1) (k : Ev g mX2_join d n0 nf post n 120 [some (.int v0), some (.int v1), some (.int v2)] [.int 1] X) : Ev g mX2_join d n0 nf post n 0 [some (.int v0), some (.int v1), some (.int v2)] [] X := by
  refine ev_iload_n dX2_join_0 rfl ?_
  refine ev_look (tgt := 110) (off := 109) dX2_join_1 (by decide +kernel) (by rw [c0]; decide +kernel) (by decide) ?_
  refine ev_iload_n dX2_join_110 rfl ?_
  refine ev_iload_n dX2_join_111 rfl ?_
  refine ev_icmpF (tgt := 119) dX2_join_112 (by decide) c1 ?_
  refine ev_iconst (v := 1) dX2_join_115 ki_1 ?_
  refine ev_goto (tgt := 120) dX2_join_116 (by decide) ?_
  exact k
theorem bX2_join_0_9 {g : GG} {d n0 nf : Nat} {post : Option Value → LX → Prop} {n : Nat} {X : LX} (hn : 146 ≤ n) (hX : Sh n X) {v0 : Int32} {v1 : Int32} {v2 : Int32} (c0 : v0 = 60) (c1 : v2 ≤ v1) (k : Ev g mX2_join d n0 nf post n 120 [some (.int v0), some (.int v1), some (.int v2)] [.int 0] X) : Ev g mX2_join d n0 nf post n 0 [some (.int v0), some (.int v1), some (.int v2)] [] X := by
  refine ev_iload_n dX2_join_0 rfl ?_
  refine ev_look (tgt := 110) (off := 109) dX2_join_1 (by decide +kernel) (by rw [c0]; decide +kernel) (by decide) ?_
  refine ev_iload_n dX2_join_110 rfl ?_
  refine ev_iload_n dX2_join_111 rfl ?_
  refine ev_icmpT (tgt := 119) dX2_join_112 (by decide) c1 ?_
  refine ev_iconst (v := 0) dX2_join_119 ki_0 ?_
  exact k
theorem bX2_join_0_10 {g : GG} {d n0 nf : Nat} {post : Option Value → LX → Prop} {n : Nat} {X : LX} (hn : 146 ≤ n) (hX : Sh n X) {v0 : Int32} {v1 : Int32} {v2 : Int32} (c0 : v0 = 61) (c1 : v1 = v2) (k : Ev g mX2_join d n0 nf post n 134 [some (.int v0), some (.int v1), some (.int v2)] [.int 1] X) : Ev g mX2_join d n0 nf post n 0 [some (.int v0), some (.int v1), some (.int v2)] [] X := by
  refine ev_iload_n dX2_join_0 rfl ?_
  refine ev_look (tgt := 124) (off := 123) dX2_join_1 (by decide +kernel) (by rw [c0]; decide +kernel) (by decide) ?_
  refine ev_iload_n dX2_join_124 rfl ?_
  refine ev_iload_n dX2_join_125 rfl ?_
  refine ev_icmpF (tgt := 133) dX2_join_126 (by decide) c1 ?_
  refine ev_iconst (v := 1) dX2_join_129 ki_1 ?_
  refine ev_goto (tgt := 134) dX2_join_130 (by decide) ?_
  exact k
theorem bX2_join_0_11 {g : GG} {d n0 nf : Nat} {post : Option Value → LX → Prop} {n : Nat} {X : LX} (hn : 146 ≤ n) (hX : Sh n X) {v0 : Int32} {v1 : Int32} {v2 : Int32} (c0 : v0 = 61) (c1 : ¬ v1 = v2) (k : Ev g mX2_join d n0 nf post n 134 [some (.int v0), some (.int v1), some (.int v2)] [.int 0] X) : Ev g mX2_join d n0 nf post n 0 [some (.int v0), some (.int v1), some (.int v2)] [] X := by
  refine ev_iload_n dX2_join_0 rfl ?_
  refine ev_look (tgt := 124) (off := 123) dX2_join_1 (by decide +kernel) (by rw [c0]; decide +kernel) (by decide) ?_
  refine ev_iload_n dX2_join_124 rfl ?_
  refine ev_iload_n dX2_join_125 rfl ?_
  refine ev_icmpT (tgt := 133) dX2_join_126 (by decide) c1 ?_
  refine ev_iconst (v := 0) dX2_join_133 ki_0 ?_
  exact k
theorem bX2_join_0_12 {g : GG} {d n0 nf : Nat} {post : Option Value → LX → Prop} {n : Nat} {X : LX} (hn : 146 ≤ n) (hX : Sh n X) {v0 : Int32} {v1 : Int32} {v2 : Int32} (c0 : v0 = 62) (c1 : ¬ v1 ≤ v2) (k : Ev g mX2_join d n0 nf post n 148 [some (.int v0), some (.int v1), some (.int v2)] [.int 1] X) : Ev g mX2_join d n0 nf post n 0 [some (.int v0), some (.int v1), some (.int v2)] [] X := by
  refine ev_iload_n dX2_join_0 rfl ?_
  refine ev_look (tgt := 138) (off := 137) dX2_join_1 (by decide +kernel) (by rw [c0]; decide +kernel) (by decide) ?_
  refine ev_iload_n dX2_join_138 rfl ?_
  refine ev_iload_n dX2_join_139 rfl ?_
  refine ev_icmpF (tgt := 147) dX2_join_140 (by decide) c1 ?_
  refine ev_iconst (v := 1) dX2_join_143 ki_1 ?_
  refine ev_goto (tgt := 148) dX2_join_144 (by decide) ?_
  exact k
theorem bX2_join_0_13 {g : GG} {d n0 nf : Nat} {post : Option Value → LX → Prop} {n : Nat} {X : LX} (hn : 146 ≤ n) (hX : Sh n X) {v0 : Int32} {v1 : Int32} {v2 : Int32} (c0 : v0 = 62) (c1 : v1 ≤ v2) (k : Ev g mX2_join d n0 nf post n 148 [some (.int v0), some (.int v1), some (.int v2)] [.int 0] X) : Ev g mX2_join d n0 nf post n 0 [some (.int v0), some (.int v1), some (.int v2)] [] X := by
  refine ev_iload_n dX2_join_0 rfl ?_
  refine ev_look (tgt := 138) (off := 137) dX2_join_1 (by decide +kernel) (by rw [c0]; decide +kernel) (by decide) ?_
  refine ev_iload_n dX2_join_138 rfl ?_
  refine ev_iload_n dX2_join_139 rfl ?_
  refine ev_icmpT (tgt := 147) dX2_join_140 (by decide) c1 ?_
  refine ev_iconst (v := 0) dX2_join_147 ki_0 ?_
  exact k
theorem bX2_join_0_14 {g : GG} {d n0 nf : Nat} {post : Option Value → LX → Prop} {n : Nat} {X : LX} (hn : 146 ≤ n) (hX : Sh n X) {v0 : Int32} {v1 : Int32} {v2 : Int32} (c0 : v0 = 124) (c1 : v1 = 0) (c2 : ¬ v2 = 0) (k : Ev g mX2_join d n0 nf post n 89 [some (.int v0), some (.int v1), some (.int v2)] [.int 1] X) : Ev g mX2_join d n0 nf post n 0 [some (.int v0), some (.int v1), some (.int v2)] [] X := by
  refine ev_iload_n dX2_join_0 rfl ?_
  refine ev_look (tgt := 76) (off := 75) dX2_join_1 (by decide +kernel) (by rw [c0]; decide +kernel) (by decide) ?_
  refine ev_iload_n dX2_join_76 rfl ?_
  refine ev_ifF (tgt := 84) dX2_join_77 (by decide) c1 ?_
  refine ev_iload_n dX2_join_80 rfl ?_
  refine ev_ifF (tgt := 88) dX2_join_81 (by decide) c2 ?_
  refine ev_iconst (v := 1) dX2_join_84 ki_1 ?_
  refine ev_goto (tgt := 89) dX2_join_85 (by decide) ?_
  exact k
theorem bX2_join_0_15 {g : GG} {d n0 nf : Nat} {post : Option Value → LX → Prop} {n : Nat} {X : LX} (hn : 146 ≤ n) (hX : Sh n X) {v0 : Int32} {v1 : Int32} {v2 : Int32} (c0 : v0 = 124) (c1 : v1 = 0) (c2 : v2 = 0) (k : Ev g mX2_join d n0 nf post n 89 [some (.int v0), some (.int v1), some (.int v2)] [.int 0] X) : Ev g mX2_join d n0 nf post n 0 [some (.int v0), some (.int v1), some (.int v2)] [] X := by
  refine ev_iload_n dX2_join_0 rfl ?_
  refine ev_look (tgt := 76) (off := 75) dX2_join_1 (by decide +kernel) (by rw [c0]; decide +kernel) (by decide) ?_
  refine ev_iload_n dX2_join_76 rfl ?_
  refine ev_ifF (tgt := 84) dX2_join_77 (by decide) c1 ?_
  refine ev_iload_n dX2_join_80 rfl ?_
  refine ev_ifT (tgt := 88) dX2_join_81 (by decide) c2 ?_
  refine ev_iconst (v := 0) dX2_join_88 ki_0 ?_
  exact k
theorem bX2_join_0_16 {g : GG} {d n0 nf : Nat} {post : Option Value → LX → Prop} {n : Nat} {X : LX} (hn : 146 ≤ n) (hX : Sh n X) {v0 : Int32} {v1 : Int32} {v2 : Int32} (c0 : v0 = 124) (c1 : ¬ v1 = 0) (k : Ev g mX2_join d n0 nf post n 89 [some (.int v0), some (.int v1), some (.int v2)] [.int 1] X) : Ev g mX2_join d n0 nf post n 0 [some (.int v0), some (.int v1), some (.int v2)] [] X := by
  refine ev_iload_n dX2_join_0 rfl ?_
  refine ev_look (tgt := 76) (off := 75) dX2_join_1 (by decide +kernel) (by rw [c0]; decide +kernel) (by decide) ?_
  refine ev_iload_n dX2_join_76 rfl ?_
  refine ev_ifT (tgt := 84) dX2_join_77 (by decide) c1 ?_
  refine ev_iconst (v := 1) dX2_join_84 ki_1 ?_
  refine ev_goto (tgt := 89) dX2_join_85 (by decide) ?_
  exact k
theorem bX2_join_92_0 {g : GG} {d n0 nf : Nat} {post : Option Value → LX → Prop} {n : Nat} {X : LX} (hn : 146 ≤ nf) (hX : Sh nf X) {v0 : Int32} {v1 : Int32} {v2 : Int32} {s0 : Int32} (hp : post (some (.int s0)) X) : Ev g mX2_join d n0 nf post nf 92 [some (.int v0), some (.int v1), some (.int v2)] [.int s0] X := by
  exact ev_iret dX2_join_92 rfl rfl hp
theorem bX2_join_109_0 {g : GG} {d n0 nf : Nat} {post : Option Value → LX → Prop} {n : Nat} {X : LX} (hn : 146 ≤ nf) (hX : Sh nf X) {v0 : Int32} {v1 : Int32} {v2 : Int32} {s0 : Int32} (hp : post (some (.int s0)) X) : Ev g mX2_join d n0 nf post nf 109 [some (.int v0), some (.int v1), some (.int v2)] [.int s0] X := by
  exact ev_iret dX2_join_109 rfl rfl hp
theorem bX2_join_123_0 {g : GG} {d n0 nf : Nat} {post : Option Value → LX → Prop} {n : Nat} {X : LX} (hn : 146 ≤ nf) (hX : Sh nf X) {v0 : Int32} {v1 : Int32} {v2 : Int32} {s0 : Int32} (hp : post (some (.int s0)) X) : Ev g mX2_join d n0 nf post nf 123 [some (.int v0), some (.int v1), some (.int v2)] [.int s0] X := by
  exact ev_iret dX2_join_123 rfl rfl hp
theorem bX2_join_137_0 {g : GG} {d n0 nf : Nat} {post : Option Value → LX → Prop} {n : Nat} {X : LX} (hn : 146 ≤ nf) (hX : Sh nf X) {v0 : Int32} {v1 : Int32} {v2 : Int32} {s0 : Int32} (hp : post (some (.int s0)) X) : Ev g mX2_join d n0 nf post nf 137 [some (.int v0), some (.int v1), some (.int v2)] [.int s0] X := by
  exact ev_iret dX2_join_137 rfl rfl hp
theorem bX2_join_151_0 {g : GG} {d n0 nf : Nat} {post : Option Value → LX → Prop} {n : Nat} {X : LX} (hn : 146 ≤ nf) (hX : Sh nf X) {v0 : Int32} {v1 : Int32} {v2 : Int32} {s0 : Int32} (hp : post (some (.int s0)) X) : Ev g mX2_join d n0 nf post nf 151 [some (.int v0), some (.int v1), some (.int v2)] [.int s0] X := by
  exact ev_iret dX2_join_151 rfl rfl hp
theorem bX4_has_0_0 {g : GG} {d n0 nf : Nat} {post : Option Value → LX → Prop} {n : Nat} {X : LX} (hn : 146 ≤ nf) (hX : Sh nf X) {v1 : Int32} (c0 : ¬ v1 < 0) (c1 : ¬ X 69 0 ≤ v1) (hp : post (some (.int 1)) X) : Ev g mX4_has d n0 nf post nf 0 [some (.ref 69), some (.int v1)] [] X := by
  refine ev_iload_n dX4_has_0 rfl ?_
  refine ev_ifF (tgt := 16) dX4_has_1 (by decide) c0 ?_
  refine ev_iload_n dX4_has_4 rfl ?_
  refine ev_aload_n dX4_has_5 rfl ?_
  refine ev_getI dX4_has_6 fo_4_33 (by omega) lo_69 rfl ?_
  refine ev_icmpF (tgt := 16) dX4_has_9 (by decide) c1 ?_
  refine ev_iconst (v := 1) dX4_has_12 ki_1 ?_
  refine ev_goto (tgt := 17) dX4_has_13 (by decide) ?_
  exact ev_iret dX4_has_17 rfl (by decide) hp
theorem bX4_has_0_1 {g : GG} {d n0 nf : Nat} {post : Option Value → LX → Prop} {n : Nat} {X : LX} (hn : 146 ≤ nf) (hX : Sh nf X) {v1 : Int32} (c0 : ¬ v1 < 0) (c1 : X 69 0 ≤ v1) (hp : post (some (.int 0)) X) : Ev g mX4_has d n0 nf post nf 0 [some (.ref 69), some (.int v1)] [] X := by
  refine ev_iload_n dX4_has_0 rfl ?_
  refine ev_ifF (tgt := 16) dX4_has_1 (by decide) c0 ?_
  refine ev_iload_n dX4_has_4 rfl ?_
  refine ev_aload_n dX4_has_5 rfl ?_
  refine ev_getI dX4_has_6 fo_4_33 (by omega) lo_69 rfl ?_
  refine ev_icmpT (tgt := 16) dX4_has_9 (by decide) c1 ?_
  refine ev_iconst (v := 0) dX4_has_16 ki_0 ?_
  exact ev_iret dX4_has_17 rfl (by decide) hp
theorem bX4_has_0_2 {g : GG} {d n0 nf : Nat} {post : Option Value → LX → Prop} {n : Nat} {X : LX} (hn : 146 ≤ nf) (hX : Sh nf X) {v1 : Int32} (c0 : v1 < 0) (hp : post (some (.int 0)) X) : Ev g mX4_has d n0 nf post nf 0 [some (.ref 69), some (.int v1)] [] X := by
  refine ev_iload_n dX4_has_0 rfl ?_
  refine ev_ifT (tgt := 16) dX4_has_1 (by decide) c0 ?_
  refine ev_iconst (v := 0) dX4_has_16 ki_0 ?_
  exact ev_iret dX4_has_17 rfl (by decide) hp
theorem bX4_leftOf_0_0 {g : GG} {d n0 nf : Nat} {post : Option Value → LX → Prop} {n : Nat} {X : LX} (hn : 146 ≤ n) (hX : Sh n X) {v1 : Int32} (k : Ev g mX4_leftOf d n0 nf post n 4 [some (.ref 69), some (.int v1), some (.int 0), some (.int 0)] [] X) : Ev g mX4_leftOf d n0 nf post n 0 [some (.ref 69), some (.int v1), none, none] [] X := by
  refine ev_iconst (v := 0) dX4_leftOf_0 ki_0 ?_
  refine ev_istore_n dX4_leftOf_1 (by decide) ?_
  refine ev_iconst (v := 0) dX4_leftOf_2 ki_0 ?_
  refine ev_istore_n dX4_leftOf_3 (by decide) ?_
  exact k
theorem bX4_leftOf_4_0 {g : GG} {d n0 nf : Nat} {post : Option Value → LX → Prop} {n : Nat} {X : LX} (hn : 146 ≤ n) (hX : Sh n X) {v1 : Int32} {v2 : Int32} {v3 : Nat} (c0 : ¬ X 69 0 ≤ nI v3) (b0 : v3 < 40) (c1 : X 70 v3 = v1) (b1 : v3 < 40) (k : Ev g mX4_leftOf d n0 nf post n 4 [some (.ref 69), some (.int v1), some (.int (v2 + (X 73 v3))), some (.int ((nI v3) + 1))] [] X) : Ev g mX4_leftOf d n0 nf post n 4 [some (.ref 69), some (.int v1), some (.int v2), some (.int (nI v3))] [] X := by
  refine ev_iload_n dX4_leftOf_4 rfl ?_
  refine ev_aload_n dX4_leftOf_5 rfl ?_
  refine ev_getI dX4_leftOf_6 fo_4_33 (by omega) lo_69 rfl ?_
  refine ev_icmpF (tgt := 37) dX4_leftOf_9 (by decide) c0 ?_
  refine ev_aload_n dX4_leftOf_12 rfl ?_
  refine ev_getS (q := 70) dX4_leftOf_13 fo_4_9 (by omega) lo_69 rfl (sh_69_1 hX (by omega)) (by decide) ?_
  refine ev_iload_n dX4_leftOf_16 rfl ?_
  refine ev_iald dX4_leftOf_17 (by omega) ly_70 rfl b0 ?_
  refine ev_iload_n dX4_leftOf_18 rfl ?_
  refine ev_icmpF (tgt := 31) dX4_leftOf_19 (by decide) c1 ?_
  refine ev_iload_n dX4_leftOf_22 rfl ?_
  refine ev_aload_n dX4_leftOf_23 rfl ?_
  refine ev_getS (q := 73) dX4_leftOf_24 fo_4_21 (by omega) lo_69 rfl (sh_69_4 hX (by omega)) (by decide) ?_
  refine ev_iload_n dX4_leftOf_27 rfl ?_
  refine ev_iald dX4_leftOf_28 (by omega) ly_73 rfl b1 ?_
  refine ev_iadd dX4_leftOf_29 ?_
  refine ev_istore_n dX4_leftOf_30 (by decide) ?_
  refine ev_iinc (v := (nI v3) + 1) dX4_leftOf_31 rfl (by rw [show Int32.ofInt 1 = 1 from ki_1]) (by decide) ?_
  refine ev_goto (tgt := 4) dX4_leftOf_34 (by decide) ?_
  exact k
theorem bX4_leftOf_4_1 {g : GG} {d n0 nf : Nat} {post : Option Value → LX → Prop} {n : Nat} {X : LX} (hn : 146 ≤ n) (hX : Sh n X) {v1 : Int32} {v2 : Int32} {v3 : Nat} (c0 : ¬ X 69 0 ≤ nI v3) (b0 : v3 < 40) (c1 : ¬ X 70 v3 = v1) (k : Ev g mX4_leftOf d n0 nf post n 4 [some (.ref 69), some (.int v1), some (.int v2), some (.int ((nI v3) + 1))] [] X) : Ev g mX4_leftOf d n0 nf post n 4 [some (.ref 69), some (.int v1), some (.int v2), some (.int (nI v3))] [] X := by
  refine ev_iload_n dX4_leftOf_4 rfl ?_
  refine ev_aload_n dX4_leftOf_5 rfl ?_
  refine ev_getI dX4_leftOf_6 fo_4_33 (by omega) lo_69 rfl ?_
  refine ev_icmpF (tgt := 37) dX4_leftOf_9 (by decide) c0 ?_
  refine ev_aload_n dX4_leftOf_12 rfl ?_
  refine ev_getS (q := 70) dX4_leftOf_13 fo_4_9 (by omega) lo_69 rfl (sh_69_1 hX (by omega)) (by decide) ?_
  refine ev_iload_n dX4_leftOf_16 rfl ?_
  refine ev_iald dX4_leftOf_17 (by omega) ly_70 rfl b0 ?_
  refine ev_iload_n dX4_leftOf_18 rfl ?_
  refine ev_icmpT (tgt := 31) dX4_leftOf_19 (by decide) c1 ?_
  refine ev_iinc (v := (nI v3) + 1) dX4_leftOf_31 rfl (by rw [show Int32.ofInt 1 = 1 from ki_1]) (by decide) ?_
  refine ev_goto (tgt := 4) dX4_leftOf_34 (by decide) ?_
  exact k
theorem bX4_leftOf_4_2 {g : GG} {d n0 nf : Nat} {post : Option Value → LX → Prop} {n : Nat} {X : LX} (hn : 146 ≤ nf) (hX : Sh nf X) {v1 : Int32} {v2 : Int32} {v3 : Nat} (c0 : X 69 0 ≤ nI v3) (hp : post (some (.int v2)) X) : Ev g mX4_leftOf d n0 nf post nf 4 [some (.ref 69), some (.int v1), some (.int v2), some (.int (nI v3))] [] X := by
  refine ev_iload_n dX4_leftOf_4 rfl ?_
  refine ev_aload_n dX4_leftOf_5 rfl ?_
  refine ev_getI dX4_leftOf_6 fo_4_33 (by omega) lo_69 rfl ?_
  refine ev_icmpT (tgt := 37) dX4_leftOf_9 (by decide) c0 ?_
  refine ev_iload_n dX4_leftOf_37 rfl ?_
  exact ev_iret dX4_leftOf_38 rfl rfl hp
theorem bX4_cameOf_0_0 {g : GG} {d n0 nf : Nat} {post : Option Value → LX → Prop} {n : Nat} {X : LX} (hn : 146 ≤ n) (hX : Sh n X) {v1 : Int32} (k : Ev g mX4_cameOf d n0 nf post n 4 [some (.ref 69), some (.int v1), some (.int 0), some (.int 0)] [] X) : Ev g mX4_cameOf d n0 nf post n 0 [some (.ref 69), some (.int v1), none, none] [] X := by
  refine ev_iconst (v := 0) dX4_cameOf_0 ki_0 ?_
  refine ev_istore_n dX4_cameOf_1 (by decide) ?_
  refine ev_iconst (v := 0) dX4_cameOf_2 ki_0 ?_
  refine ev_istore_n dX4_cameOf_3 (by decide) ?_
  exact k
theorem bX4_cameOf_4_0 {g : GG} {d n0 nf : Nat} {post : Option Value → LX → Prop} {n : Nat} {X : LX} (hn : 146 ≤ n) (hX : Sh n X) {v1 : Int32} {v2 : Int32} {v3 : Nat} (c0 : ¬ X 69 0 ≤ nI v3) (b0 : v3 < 40) (c1 : X 70 v3 = v1) (b1 : v3 < 40) (k : Ev g mX4_cameOf d n0 nf post n 4 [some (.ref 69), some (.int v1), some (.int (v2 + (X 71 v3))), some (.int ((nI v3) + 1))] [] X) : Ev g mX4_cameOf d n0 nf post n 4 [some (.ref 69), some (.int v1), some (.int v2), some (.int (nI v3))] [] X := by
  refine ev_iload_n dX4_cameOf_4 rfl ?_
  refine ev_aload_n dX4_cameOf_5 rfl ?_
  refine ev_getI dX4_cameOf_6 fo_4_33 (by omega) lo_69 rfl ?_
  refine ev_icmpF (tgt := 37) dX4_cameOf_9 (by decide) c0 ?_
  refine ev_aload_n dX4_cameOf_12 rfl ?_
  refine ev_getS (q := 70) dX4_cameOf_13 fo_4_9 (by omega) lo_69 rfl (sh_69_1 hX (by omega)) (by decide) ?_
  refine ev_iload_n dX4_cameOf_16 rfl ?_
  refine ev_iald dX4_cameOf_17 (by omega) ly_70 rfl b0 ?_
  refine ev_iload_n dX4_cameOf_18 rfl ?_
  refine ev_icmpF (tgt := 31) dX4_cameOf_19 (by decide) c1 ?_
  refine ev_iload_n dX4_cameOf_22 rfl ?_
  refine ev_aload_n dX4_cameOf_23 rfl ?_
  refine ev_getS (q := 71) dX4_cameOf_24 fo_4_15 (by omega) lo_69 rfl (sh_69_2 hX (by omega)) (by decide) ?_
  refine ev_iload_n dX4_cameOf_27 rfl ?_
  refine ev_iald dX4_cameOf_28 (by omega) ly_71 rfl b1 ?_
  refine ev_iadd dX4_cameOf_29 ?_
  refine ev_istore_n dX4_cameOf_30 (by decide) ?_
  refine ev_iinc (v := (nI v3) + 1) dX4_cameOf_31 rfl (by rw [show Int32.ofInt 1 = 1 from ki_1]) (by decide) ?_
  refine ev_goto (tgt := 4) dX4_cameOf_34 (by decide) ?_
  exact k
theorem bX4_cameOf_4_1 {g : GG} {d n0 nf : Nat} {post : Option Value → LX → Prop} {n : Nat} {X : LX} (hn : 146 ≤ n) (hX : Sh n X) {v1 : Int32} {v2 : Int32} {v3 : Nat} (c0 : ¬ X 69 0 ≤ nI v3) (b0 : v3 < 40) (c1 : ¬ X 70 v3 = v1) (k : Ev g mX4_cameOf d n0 nf post n 4 [some (.ref 69), some (.int v1), some (.int v2), some (.int ((nI v3) + 1))] [] X) : Ev g mX4_cameOf d n0 nf post n 4 [some (.ref 69), some (.int v1), some (.int v2), some (.int (nI v3))] [] X := by
  refine ev_iload_n dX4_cameOf_4 rfl ?_
  refine ev_aload_n dX4_cameOf_5 rfl ?_
  refine ev_getI dX4_cameOf_6 fo_4_33 (by omega) lo_69 rfl ?_
  refine ev_icmpF (tgt := 37) dX4_cameOf_9 (by decide) c0 ?_
  refine ev_aload_n dX4_cameOf_12 rfl ?_
  refine ev_getS (q := 70) dX4_cameOf_13 fo_4_9 (by omega) lo_69 rfl (sh_69_1 hX (by omega)) (by decide) ?_
  refine ev_iload_n dX4_cameOf_16 rfl ?_
  refine ev_iald dX4_cameOf_17 (by omega) ly_70 rfl b0 ?_
  refine ev_iload_n dX4_cameOf_18 rfl ?_
  refine ev_icmpT (tgt := 31) dX4_cameOf_19 (by decide) c1 ?_
  refine ev_iinc (v := (nI v3) + 1) dX4_cameOf_31 rfl (by rw [show Int32.ofInt 1 = 1 from ki_1]) (by decide) ?_
  refine ev_goto (tgt := 4) dX4_cameOf_34 (by decide) ?_
  exact k
theorem bX4_cameOf_4_2 {g : GG} {d n0 nf : Nat} {post : Option Value → LX → Prop} {n : Nat} {X : LX} (hn : 146 ≤ nf) (hX : Sh nf X) {v1 : Int32} {v2 : Int32} {v3 : Nat} (c0 : X 69 0 ≤ nI v3) (hp : post (some (.int v2)) X) : Ev g mX4_cameOf d n0 nf post nf 4 [some (.ref 69), some (.int v1), some (.int v2), some (.int (nI v3))] [] X := by
  refine ev_iload_n dX4_cameOf_4 rfl ?_
  refine ev_aload_n dX4_cameOf_5 rfl ?_
  refine ev_getI dX4_cameOf_6 fo_4_33 (by omega) lo_69 rfl ?_
  refine ev_icmpT (tgt := 37) dX4_cameOf_9 (by decide) c0 ?_
  refine ev_iload_n dX4_cameOf_37 rfl ?_
  exact ev_iret dX4_cameOf_38 rfl rfl hp
theorem bX4_throwLeft_0_0 {g : GG} {d n0 nf : Nat} {post : Option Value → LX → Prop} {n : Nat} {X : LX} (hn : 146 ≤ nf) (hX : Sh nf X) {v1 : Nat} {j1 : Nat} {j2 : Nat} (b0 : v1 < 40) (hj1 : X 70 v1 = nI j1) (b1 : j1 < 14) (b2 : v1 < 40) (hj2 : X 70 v1 = nI j2) (b3 : j2 < 14) (b4 : v1 < 40) (hp : post none (lx_up (lx_up X 76 j2 ((X 76 j1) + (X 73 v1))) 73 v1 0)) : Ev g mX4_throwLeft d n0 nf post nf 0 [some (.ref 69), some (.int (nI v1))] [] X := by
  refine ev_aload_n dX4_throwLeft_0 rfl ?_
  refine ev_getS (q := 76) dX4_throwLeft_1 fo_4_30 (by omega) lo_69 rfl (sh_69_7 hX (by omega)) (by decide) ?_
  refine ev_aload_n dX4_throwLeft_4 rfl ?_
  refine ev_getS (q := 70) dX4_throwLeft_5 fo_4_9 (by omega) lo_69 rfl (sh_69_1 hX (by omega)) (by decide) ?_
  refine ev_iload_n dX4_throwLeft_8 rfl ?_
  refine ev_iald dX4_throwLeft_9 (by omega) ly_70 rfl b0 ?_
  refine ev_dup2 dX4_throwLeft_10 rfl rfl ?_
  refine ev_iald dX4_throwLeft_11 (by omega) ly_76 hj1 b1 ?_
  refine ev_aload_n dX4_throwLeft_12 rfl ?_
  refine ev_getS (q := 73) dX4_throwLeft_13 fo_4_21 (by omega) lo_69 rfl (sh_69_4 hX (by omega)) (by decide) ?_
  refine ev_iload_n dX4_throwLeft_16 rfl ?_
  refine ev_iald dX4_throwLeft_17 (by omega) ly_73 rfl b2 ?_
  refine ev_iadd dX4_throwLeft_18 ?_
  refine ev_iast dX4_throwLeft_19 (by omega) ly_76 hj2 b3 ?_
  have hX1 : Sh _ (lx_up X 76 j2 ((X 76 j1) + (X 73 v1))) := Sh.upA hX (by rw [ly_76]; exact (by decide : 0 < 2))
  refine ev_aload_n dX4_throwLeft_20 rfl ?_
  refine ev_getS (q := 73) dX4_throwLeft_21 fo_4_21 (by omega) lo_69 rfl (sh_69_4 hX1 (by omega)) (by decide) ?_
  refine ev_iload_n dX4_throwLeft_24 rfl ?_
  refine ev_iconst (v := 0) dX4_throwLeft_25 ki_0 ?_
  refine ev_iast dX4_throwLeft_26 (by omega) ly_73 rfl b4 ?_
  have hX2 : Sh _ (lx_up (lx_up X 76 j2 ((X 76 j1) + (X 73 v1))) 73 v1 0) := Sh.upA hX1 (by rw [ly_73]; exact (by decide : 0 < 2))
  exact ev_ret dX4_throwLeft_27 rfl hp
theorem bX4_draw_0_0 {g : GG} {d n0 nf : Nat} {post : Option Value → LX → Prop} {n : Nat} {X : LX} (hn : 146 ≤ n) (hX : Sh n X) {v1 : Int32} {v2 : Int32} {v3 : Int32} (k : Ev g mX4_draw d n0 nf post n 6 [some (.ref 69), some (.int v1), some (.int v2), some (.int v3), some (.int v2), some (.int 0), none] [] X) : Ev g mX4_draw d n0 nf post n 0 [some (.ref 69), some (.int v1), some (.int v2), some (.int v3), none, none, none] [] X := by
  refine ev_iload_n dX4_draw_0 rfl ?_
  refine ev_istore dX4_draw_1 (by decide) ?_
  refine ev_iconst (v := 0) dX4_draw_3 ki_0 ?_
  refine ev_istore dX4_draw_4 (by decide) ?_
  exact k
theorem bX4_draw_6_0 {g : GG} {d n0 nf : Nat} {post : Option Value → LX → Prop} {n : Nat} {X : LX} (hn : 146 ≤ n) (hX : Sh n X) {v1 : Int32} {v2 : Int32} {v3 : Int32} {v4 : Int32} {v5 : Nat} (c0 : ¬ X 69 0 ≤ nI v5) (c1 : ¬ v4 ≤ 0) (b0 : v5 < 40) (c2 : X 70 v5 = v1) (b1 : v5 < 40) (k : Ev g mX4_draw d n0 nf post n 40 [some (.ref 69), some (.int v1), some (.int v2), some (.int v3), some (.int v4), some (.int (nI v5)), none] [.int (X 73 v5), .int v4] X) : Ev g mX4_draw d n0 nf post n 6 [some (.ref 69), some (.int v1), some (.int v2), some (.int v3), some (.int v4), some (.int (nI v5)), none] [] X := by
  refine ev_iload dX4_draw_6 rfl ?_
  refine ev_aload_n dX4_draw_8 rfl ?_
  refine ev_getI dX4_draw_9 fo_4_33 (by omega) lo_69 rfl ?_
  refine ev_icmpF (tgt := 103) dX4_draw_12 (by decide) c0 ?_
  refine ev_iload dX4_draw_15 rfl ?_
  refine ev_ifF (tgt := 103) dX4_draw_17 (by decide) c1 ?_
  refine ev_aload_n dX4_draw_20 rfl ?_
  refine ev_getS (q := 70) dX4_draw_21 fo_4_9 (by omega) lo_69 rfl (sh_69_1 hX (by omega)) (by decide) ?_
  refine ev_iload dX4_draw_24 rfl ?_
  refine ev_iald dX4_draw_26 (by omega) ly_70 rfl b0 ?_
  refine ev_iload_n dX4_draw_27 rfl ?_
  refine ev_icmpF (tgt := 46) dX4_draw_28 (by decide) c2 ?_
  refine ev_iload dX4_draw_31 rfl ?_
  refine ev_aload_n dX4_draw_33 rfl ?_
  refine ev_getS (q := 73) dX4_draw_34 fo_4_21 (by omega) lo_69 rfl (sh_69_4 hX (by omega)) (by decide) ?_
  refine ev_iload dX4_draw_37 rfl ?_
  refine ev_iald dX4_draw_39 (by omega) ly_73 rfl b1 ?_
  exact k
theorem bX4_draw_6_1 {g : GG} {d n0 nf : Nat} {post : Option Value → LX → Prop} {n : Nat} {X : LX} (hn : 146 ≤ n) (hX : Sh n X) {v1 : Int32} {v2 : Int32} {v3 : Int32} {v4 : Int32} {v5 : Nat} (c0 : ¬ X 69 0 ≤ nI v5) (c1 : ¬ v4 ≤ 0) (b0 : v5 < 40) (c2 : ¬ X 70 v5 = v1) (k : Ev g mX4_draw d n0 nf post n 6 [some (.ref 69), some (.int v1), some (.int v2), some (.int v3), some (.int v4), some (.int ((nI v5) + 1)), some (.int 0)] [] X) : Ev g mX4_draw d n0 nf post n 6 [some (.ref 69), some (.int v1), some (.int v2), some (.int v3), some (.int v4), some (.int (nI v5)), none] [] X := by
  refine ev_iload dX4_draw_6 rfl ?_
  refine ev_aload_n dX4_draw_8 rfl ?_
  refine ev_getI dX4_draw_9 fo_4_33 (by omega) lo_69 rfl ?_
  refine ev_icmpF (tgt := 103) dX4_draw_12 (by decide) c0 ?_
  refine ev_iload dX4_draw_15 rfl ?_
  refine ev_ifF (tgt := 103) dX4_draw_17 (by decide) c1 ?_
  refine ev_aload_n dX4_draw_20 rfl ?_
  refine ev_getS (q := 70) dX4_draw_21 fo_4_9 (by omega) lo_69 rfl (sh_69_1 hX (by omega)) (by decide) ?_
  refine ev_iload dX4_draw_24 rfl ?_
  refine ev_iald dX4_draw_26 (by omega) ly_70 rfl b0 ?_
  refine ev_iload_n dX4_draw_27 rfl ?_
  refine ev_icmpT (tgt := 46) dX4_draw_28 (by decide) c2 ?_
  refine ev_iconst (v := 0) dX4_draw_46 ki_0 ?_
  refine ev_istore dX4_draw_47 (by decide) ?_
  refine ev_iload dX4_draw_49 rfl ?_
  refine ev_ifT (tgt := 97) dX4_draw_51 (by decide) (by show (0 : Int32) ≤ 0; decide) ?_
  refine ev_iinc (v := (nI v5) + 1) dX4_draw_97 rfl (by rw [show Int32.ofInt 1 = 1 from ki_1]) (by decide) ?_
  refine ev_goto (tgt := 6) dX4_draw_100 (by decide) ?_
  exact k
theorem bX4_draw_6_2 {g : GG} {d n0 nf : Nat} {post : Option Value → LX → Prop} {n : Nat} {X : LX} (hn : 146 ≤ nf) (hX : Sh nf X) {v1 : Int32} {v2 : Int32} {v3 : Int32} {v4 : Int32} {v5 : Nat} (c0 : ¬ X 69 0 ≤ nI v5) (c1 : v4 ≤ 0) (hp : post none X) : Ev g mX4_draw d n0 nf post nf 6 [some (.ref 69), some (.int v1), some (.int v2), some (.int v3), some (.int v4), some (.int (nI v5)), none] [] X := by
  refine ev_iload dX4_draw_6 rfl ?_
  refine ev_aload_n dX4_draw_8 rfl ?_
  refine ev_getI dX4_draw_9 fo_4_33 (by omega) lo_69 rfl ?_
  refine ev_icmpF (tgt := 103) dX4_draw_12 (by decide) c0 ?_
  refine ev_iload dX4_draw_15 rfl ?_
  refine ev_ifT (tgt := 103) dX4_draw_17 (by decide) c1 ?_
  exact ev_ret dX4_draw_103 rfl hp
theorem bX4_draw_6_3 {g : GG} {d n0 nf : Nat} {post : Option Value → LX → Prop} {n : Nat} {X : LX} (hn : 146 ≤ nf) (hX : Sh nf X) {v1 : Int32} {v2 : Int32} {v3 : Int32} {v4 : Int32} {v5 : Nat} (c0 : X 69 0 ≤ nI v5) (hp : post none X) : Ev g mX4_draw d n0 nf post nf 6 [some (.ref 69), some (.int v1), some (.int v2), some (.int v3), some (.int v4), some (.int (nI v5)), none] [] X := by
  refine ev_iload dX4_draw_6 rfl ?_
  refine ev_aload_n dX4_draw_8 rfl ?_
  refine ev_getI dX4_draw_9 fo_4_33 (by omega) lo_69 rfl ?_
  refine ev_icmpT (tgt := 103) dX4_draw_12 (by decide) c0 ?_
  exact ev_ret dX4_draw_103 rfl hp
theorem bX4_draw_43_0 {g : GG} {d n0 nf : Nat} {post : Option Value → LX → Prop} {n : Nat} {X : LX} (hn : 146 ≤ n) (hX : Sh n X) {v1 : Nat} {v2 : Int32} {v3 : Int32} {v4 : Int32} {v5 : Nat} {s0 : Int32} (c0 : ¬ s0 ≤ 0) (b0 : v5 < 40) (b1 : v5 < 40) (b2 : v5 < 40) (b3 : v5 < 40) (b4 : v1 < 14) (b5 : v1 < 14) (k : Ev g mX4_draw d n0 nf post n 6 [some (.ref 69), some (.int (nI v1)), some (.int v2), some (.int v3), some (.int (v4 - s0)), some (.int ((nI v5) + 1)), some (.int s0)] [] (lx_up (lx_up (lx_up X 73 v5 ((X 73 v5) - s0)) 74 v5 ((X 74 v5) ||| (1 <<< (v3 &&& 31)))) 75 v1 ((X 75 v1) + s0))) : Ev g mX4_draw d n0 nf post n 43 [some (.ref 69), some (.int (nI v1)), some (.int v2), some (.int v3), some (.int v4), some (.int (nI v5)), none] [.int s0] X := by
  refine ev_goto (tgt := 47) dX4_draw_43 (by decide) ?_
  refine ev_istore dX4_draw_47 (by decide) ?_
  refine ev_iload dX4_draw_49 rfl ?_
  refine ev_ifF (tgt := 97) dX4_draw_51 (by decide) c0 ?_
  refine ev_aload_n dX4_draw_54 rfl ?_
  refine ev_getS (q := 73) dX4_draw_55 fo_4_21 (by omega) lo_69 rfl (sh_69_4 hX (by omega)) (by decide) ?_
  refine ev_iload dX4_draw_58 rfl ?_
  refine ev_dup2 dX4_draw_60 rfl rfl ?_
  refine ev_iald dX4_draw_61 (by omega) ly_73 rfl b0 ?_
  refine ev_iload dX4_draw_62 rfl ?_
  refine ev_isub dX4_draw_64 ?_
  refine ev_iast dX4_draw_65 (by omega) ly_73 rfl b1 ?_
  have hX1 : Sh _ (lx_up X 73 v5 ((X 73 v5) - s0)) := Sh.upA hX (by rw [ly_73]; exact (by decide : 0 < 2))
  refine ev_iload dX4_draw_66 rfl ?_
  refine ev_iload dX4_draw_68 rfl ?_
  refine ev_isub dX4_draw_70 ?_
  refine ev_istore dX4_draw_71 (by decide) ?_
  refine ev_aload_n dX4_draw_73 rfl ?_
  refine ev_getS (q := 74) dX4_draw_74 fo_4_24 (by omega) lo_69 rfl (sh_69_5 hX1 (by omega)) (by decide) ?_
  refine ev_iload dX4_draw_77 rfl ?_
  refine ev_dup2 dX4_draw_79 rfl rfl ?_
  refine ev_iald dX4_draw_80 (by omega) ly_74 rfl b2 ?_
  refine ev_iconst (v := 1) dX4_draw_81 ki_1 ?_
  refine ev_iload_n dX4_draw_82 rfl ?_
  refine ev_ishl dX4_draw_83 ?_
  refine ev_ior dX4_draw_84 ?_
  refine ev_iast dX4_draw_85 (by omega) ly_74 rfl b3 ?_
  have hX2 : Sh _ (lx_up (lx_up X 73 v5 ((X 73 v5) - s0)) 74 v5 ((X 74 v5) ||| (1 <<< (v3 &&& 31)))) := Sh.upA hX1 (by rw [ly_74]; exact (by decide : 0 < 2))
  refine ev_aload_n dX4_draw_86 rfl ?_
  refine ev_getS (q := 75) dX4_draw_87 fo_4_27 (by omega) lo_69 rfl (sh_69_6 hX2 (by omega)) (by decide) ?_
  refine ev_iload_n dX4_draw_90 rfl ?_
  refine ev_dup2 dX4_draw_91 rfl rfl ?_
  refine ev_iald dX4_draw_92 (by omega) ly_75 rfl b4 ?_
  refine ev_iload dX4_draw_93 rfl ?_
  refine ev_iadd dX4_draw_95 ?_
  refine ev_iast dX4_draw_96 (by omega) ly_75 rfl b5 ?_
  have hX3 : Sh _ (lx_up (lx_up (lx_up X 73 v5 ((X 73 v5) - s0)) 74 v5 ((X 74 v5) ||| (1 <<< (v3 &&& 31)))) 75 v1 ((X 75 v1) + s0)) := Sh.upA hX2 (by rw [ly_75]; exact (by decide : 0 < 2))
  refine ev_iinc (v := (nI v5) + 1) dX4_draw_97 rfl (by rw [show Int32.ofInt 1 = 1 from ki_1]) (by decide) ?_
  refine ev_goto (tgt := 6) dX4_draw_100 (by decide) ?_
  exact k
theorem bX4_draw_43_1 {g : GG} {d n0 nf : Nat} {post : Option Value → LX → Prop} {n : Nat} {X : LX} (hn : 146 ≤ n) (hX : Sh n X) {v1 : Nat} {v2 : Int32} {v3 : Int32} {v4 : Int32} {v5 : Nat} {s0 : Int32} (c0 : s0 ≤ 0) (k : Ev g mX4_draw d n0 nf post n 6 [some (.ref 69), some (.int (nI v1)), some (.int v2), some (.int v3), some (.int v4), some (.int ((nI v5) + 1)), some (.int s0)] [] X) : Ev g mX4_draw d n0 nf post n 43 [some (.ref 69), some (.int (nI v1)), some (.int v2), some (.int v3), some (.int v4), some (.int (nI v5)), none] [.int s0] X := by
  refine ev_goto (tgt := 47) dX4_draw_43 (by decide) ?_
  refine ev_istore dX4_draw_47 (by decide) ?_
  refine ev_iload dX4_draw_49 rfl ?_
  refine ev_ifT (tgt := 97) dX4_draw_51 (by decide) c0 ?_
  refine ev_iinc (v := (nI v5) + 1) dX4_draw_97 rfl (by rw [show Int32.ofInt 1 = 1 from ki_1]) (by decide) ?_
  refine ev_goto (tgt := 6) dX4_draw_100 (by decide) ?_
  exact k
theorem bX4_takeFromN_0_0 {g : GG} {d n0 nf : Nat} {post : Option Value → LX → Prop} {n : Nat} {X : LX} (hn : 226 ≤ n) (hX : Sh n X)  (k : Ev g mX4_takeFrom d n0 nf post n 16 [some (.ref 69), some (.ref 214)] [.ref 70, .ref 215] (lx_up X 69 0 (X 214 0))) : Ev g mX4_takeFrom d n0 nf post n 0 [some (.ref 69), some (.ref 214)] [] X := by
  refine ev_aload_n dX4_takeFrom_0 rfl ?_
  refine ev_aload_n dX4_takeFrom_1 rfl ?_
  refine ev_getI dX4_takeFrom_2 fo_4_33 (by omega) lo_214 rfl ?_
  refine ev_putI dX4_takeFrom_5 fo_4_33 (by omega) lo_69 rfl rfl rfl ?_
  have hX1 : Sh _ (lx_up X 69 0 (X 214 0)) := Sh.upF hX (by rw [lo_69]; decide) (by decide)
  refine ev_aload_n dX4_takeFrom_8 rfl ?_
  refine ev_getS (q := 215) dX4_takeFrom_9 fo_4_9 (by omega) lo_214 rfl (sh_214_1 hX1 (by omega)) (by decide) ?_
  refine ev_aload_n dX4_takeFrom_12 rfl ?_
  refine ev_getS (q := 70) dX4_takeFrom_13 fo_4_9 (by omega) lo_69 rfl (sh_69_1 hX1 (by omega)) (by decide) ?_
  exact k
theorem bX4_takeFromN_19_0 {g : GG} {d n0 nf : Nat} {post : Option Value → LX → Prop} {n : Nat} {X : LX} (hn : 226 ≤ n) (hX : Sh n X)  (k : Ev g mX4_takeFrom d n0 nf post n 27 [some (.ref 69), some (.ref 214)] [.ref 71, .ref 216] X) : Ev g mX4_takeFrom d n0 nf post n 19 [some (.ref 69), some (.ref 214)] [] X := by
  refine ev_aload_n dX4_takeFrom_19 rfl ?_
  refine ev_getS (q := 216) dX4_takeFrom_20 fo_4_15 (by omega) lo_214 rfl (sh_214_2 hX (by omega)) (by decide) ?_
  refine ev_aload_n dX4_takeFrom_23 rfl ?_
  refine ev_getS (q := 71) dX4_takeFrom_24 fo_4_15 (by omega) lo_69 rfl (sh_69_2 hX (by omega)) (by decide) ?_
  exact k
theorem bX4_takeFromN_30_0 {g : GG} {d n0 nf : Nat} {post : Option Value → LX → Prop} {n : Nat} {X : LX} (hn : 226 ≤ n) (hX : Sh n X)  (k : Ev g mX4_takeFrom d n0 nf post n 38 [some (.ref 69), some (.ref 214)] [.ref 72, .ref 217] X) : Ev g mX4_takeFrom d n0 nf post n 30 [some (.ref 69), some (.ref 214)] [] X := by
  refine ev_aload_n dX4_takeFrom_30 rfl ?_
  refine ev_getS (q := 217) dX4_takeFrom_31 fo_4_18 (by omega) lo_214 rfl (sh_214_3 hX (by omega)) (by decide) ?_
  refine ev_aload_n dX4_takeFrom_34 rfl ?_
  refine ev_getS (q := 72) dX4_takeFrom_35 fo_4_18 (by omega) lo_69 rfl (sh_69_3 hX (by omega)) (by decide) ?_
  exact k
theorem bX4_takeFromN_41_0 {g : GG} {d n0 nf : Nat} {post : Option Value → LX → Prop} {n : Nat} {X : LX} (hn : 226 ≤ n) (hX : Sh n X)  (k : Ev g mX4_takeFrom d n0 nf post n 49 [some (.ref 69), some (.ref 214)] [.ref 73, .ref 218] X) : Ev g mX4_takeFrom d n0 nf post n 41 [some (.ref 69), some (.ref 214)] [] X := by
  refine ev_aload_n dX4_takeFrom_41 rfl ?_
  refine ev_getS (q := 218) dX4_takeFrom_42 fo_4_21 (by omega) lo_214 rfl (sh_214_4 hX (by omega)) (by decide) ?_
  refine ev_aload_n dX4_takeFrom_45 rfl ?_
  refine ev_getS (q := 73) dX4_takeFrom_46 fo_4_21 (by omega) lo_69 rfl (sh_69_4 hX (by omega)) (by decide) ?_
  exact k
theorem bX4_takeFromN_52_0 {g : GG} {d n0 nf : Nat} {post : Option Value → LX → Prop} {n : Nat} {X : LX} (hn : 226 ≤ n) (hX : Sh n X)  (k : Ev g mX4_takeFrom d n0 nf post n 60 [some (.ref 69), some (.ref 214)] [.ref 74, .ref 219] X) : Ev g mX4_takeFrom d n0 nf post n 52 [some (.ref 69), some (.ref 214)] [] X := by
  refine ev_aload_n dX4_takeFrom_52 rfl ?_
  refine ev_getS (q := 219) dX4_takeFrom_53 fo_4_24 (by omega) lo_214 rfl (sh_214_5 hX (by omega)) (by decide) ?_
  refine ev_aload_n dX4_takeFrom_56 rfl ?_
  refine ev_getS (q := 74) dX4_takeFrom_57 fo_4_24 (by omega) lo_69 rfl (sh_69_5 hX (by omega)) (by decide) ?_
  exact k
theorem bX4_takeFromN_63_0 {g : GG} {d n0 nf : Nat} {post : Option Value → LX → Prop} {n : Nat} {X : LX} (hn : 226 ≤ n) (hX : Sh n X)  (k : Ev g mX4_takeFrom d n0 nf post n 71 [some (.ref 69), some (.ref 214)] [.ref 75, .ref 220] X) : Ev g mX4_takeFrom d n0 nf post n 63 [some (.ref 69), some (.ref 214)] [] X := by
  refine ev_aload_n dX4_takeFrom_63 rfl ?_
  refine ev_getS (q := 220) dX4_takeFrom_64 fo_4_27 (by omega) lo_214 rfl (sh_214_6 hX (by omega)) (by decide) ?_
  refine ev_aload_n dX4_takeFrom_67 rfl ?_
  refine ev_getS (q := 75) dX4_takeFrom_68 fo_4_27 (by omega) lo_69 rfl (sh_69_6 hX (by omega)) (by decide) ?_
  exact k
theorem bX4_takeFromN_74_0 {g : GG} {d n0 nf : Nat} {post : Option Value → LX → Prop} {n : Nat} {X : LX} (hn : 226 ≤ n) (hX : Sh n X)  (k : Ev g mX4_takeFrom d n0 nf post n 82 [some (.ref 69), some (.ref 214)] [.ref 76, .ref 221] X) : Ev g mX4_takeFrom d n0 nf post n 74 [some (.ref 69), some (.ref 214)] [] X := by
  refine ev_aload_n dX4_takeFrom_74 rfl ?_
  refine ev_getS (q := 221) dX4_takeFrom_75 fo_4_30 (by omega) lo_214 rfl (sh_214_7 hX (by omega)) (by decide) ?_
  refine ev_aload_n dX4_takeFrom_78 rfl ?_
  refine ev_getS (q := 76) dX4_takeFrom_79 fo_4_30 (by omega) lo_69 rfl (sh_69_7 hX (by omega)) (by decide) ?_
  exact k
theorem bX4_takeFromN_85_0 {g : GG} {d n0 nf : Nat} {post : Option Value → LX → Prop} {n : Nat} {X : LX} (hn : 226 ≤ nf) (hX : Sh nf X)  (hp : post none X) : Ev g mX4_takeFrom d n0 nf post nf 85 [some (.ref 69), some (.ref 214)] [] X := by
  exact ev_ret dX4_takeFrom_85 rfl hp
theorem bX4_takeFromI_0_0 {g : GG} {d n0 nf : Nat} {post : Option Value → LX → Prop} {n : Nat} {X : LX} (hn : 226 ≤ n) (hX : Sh n X)  (k : Ev g mX4_takeFrom d n0 nf post n 16 [some (.ref 214), some (.ref 69)] [.ref 215, .ref 70] (lx_up X 214 0 (X 69 0))) : Ev g mX4_takeFrom d n0 nf post n 0 [some (.ref 214), some (.ref 69)] [] X := by
  refine ev_aload_n dX4_takeFrom_0 rfl ?_
  refine ev_aload_n dX4_takeFrom_1 rfl ?_
  refine ev_getI dX4_takeFrom_2 fo_4_33 (by omega) lo_69 rfl ?_
  refine ev_putI dX4_takeFrom_5 fo_4_33 (by omega) lo_214 rfl rfl rfl ?_
  have hX1 : Sh _ (lx_up X 214 0 (X 69 0)) := Sh.upF hX (by rw [lo_214]; decide) (by decide)
  refine ev_aload_n dX4_takeFrom_8 rfl ?_
  refine ev_getS (q := 70) dX4_takeFrom_9 fo_4_9 (by omega) lo_69 rfl (sh_69_1 hX1 (by omega)) (by decide) ?_
  refine ev_aload_n dX4_takeFrom_12 rfl ?_
  refine ev_getS (q := 215) dX4_takeFrom_13 fo_4_9 (by omega) lo_214 rfl (sh_214_1 hX1 (by omega)) (by decide) ?_
  exact k
theorem bX4_takeFromI_19_0 {g : GG} {d n0 nf : Nat} {post : Option Value → LX → Prop} {n : Nat} {X : LX} (hn : 226 ≤ n) (hX : Sh n X)  (k : Ev g mX4_takeFrom d n0 nf post n 27 [some (.ref 214), some (.ref 69)] [.ref 216, .ref 71] X) : Ev g mX4_takeFrom d n0 nf post n 19 [some (.ref 214), some (.ref 69)] [] X := by
  refine ev_aload_n dX4_takeFrom_19 rfl ?_
  refine ev_getS (q := 71) dX4_takeFrom_20 fo_4_15 (by omega) lo_69 rfl (sh_69_2 hX (by omega)) (by decide) ?_
  refine ev_aload_n dX4_takeFrom_23 rfl ?_
  refine ev_getS (q := 216) dX4_takeFrom_24 fo_4_15 (by omega) lo_214 rfl (sh_214_2 hX (by omega)) (by decide) ?_
  exact k
theorem bX4_takeFromI_30_0 {g : GG} {d n0 nf : Nat} {post : Option Value → LX → Prop} {n : Nat} {X : LX} (hn : 226 ≤ n) (hX : Sh n X)  (k : Ev g mX4_takeFrom d n0 nf post n 38 [some (.ref 214), some (.ref 69)] [.ref 217, .ref 72] X) : Ev g mX4_takeFrom d n0 nf post n 30 [some (.ref 214), some (.ref 69)] [] X := by
  refine ev_aload_n dX4_takeFrom_30 rfl ?_
  refine ev_getS (q := 72) dX4_takeFrom_31 fo_4_18 (by omega) lo_69 rfl (sh_69_3 hX (by omega)) (by decide) ?_
  refine ev_aload_n dX4_takeFrom_34 rfl ?_
  refine ev_getS (q := 217) dX4_takeFrom_35 fo_4_18 (by omega) lo_214 rfl (sh_214_3 hX (by omega)) (by decide) ?_
  exact k
theorem bX4_takeFromI_41_0 {g : GG} {d n0 nf : Nat} {post : Option Value → LX → Prop} {n : Nat} {X : LX} (hn : 226 ≤ n) (hX : Sh n X)  (k : Ev g mX4_takeFrom d n0 nf post n 49 [some (.ref 214), some (.ref 69)] [.ref 218, .ref 73] X) : Ev g mX4_takeFrom d n0 nf post n 41 [some (.ref 214), some (.ref 69)] [] X := by
  refine ev_aload_n dX4_takeFrom_41 rfl ?_
  refine ev_getS (q := 73) dX4_takeFrom_42 fo_4_21 (by omega) lo_69 rfl (sh_69_4 hX (by omega)) (by decide) ?_
  refine ev_aload_n dX4_takeFrom_45 rfl ?_
  refine ev_getS (q := 218) dX4_takeFrom_46 fo_4_21 (by omega) lo_214 rfl (sh_214_4 hX (by omega)) (by decide) ?_
  exact k
theorem bX4_takeFromI_52_0 {g : GG} {d n0 nf : Nat} {post : Option Value → LX → Prop} {n : Nat} {X : LX} (hn : 226 ≤ n) (hX : Sh n X)  (k : Ev g mX4_takeFrom d n0 nf post n 60 [some (.ref 214), some (.ref 69)] [.ref 219, .ref 74] X) : Ev g mX4_takeFrom d n0 nf post n 52 [some (.ref 214), some (.ref 69)] [] X := by
  refine ev_aload_n dX4_takeFrom_52 rfl ?_
  refine ev_getS (q := 74) dX4_takeFrom_53 fo_4_24 (by omega) lo_69 rfl (sh_69_5 hX (by omega)) (by decide) ?_
  refine ev_aload_n dX4_takeFrom_56 rfl ?_
  refine ev_getS (q := 219) dX4_takeFrom_57 fo_4_24 (by omega) lo_214 rfl (sh_214_5 hX (by omega)) (by decide) ?_
  exact k
theorem bX4_takeFromI_63_0 {g : GG} {d n0 nf : Nat} {post : Option Value → LX → Prop} {n : Nat} {X : LX} (hn : 226 ≤ n) (hX : Sh n X)  (k : Ev g mX4_takeFrom d n0 nf post n 71 [some (.ref 214), some (.ref 69)] [.ref 220, .ref 75] X) : Ev g mX4_takeFrom d n0 nf post n 63 [some (.ref 214), some (.ref 69)] [] X := by
  refine ev_aload_n dX4_takeFrom_63 rfl ?_
  refine ev_getS (q := 75) dX4_takeFrom_64 fo_4_27 (by omega) lo_69 rfl (sh_69_6 hX (by omega)) (by decide) ?_
  refine ev_aload_n dX4_takeFrom_67 rfl ?_
  refine ev_getS (q := 220) dX4_takeFrom_68 fo_4_27 (by omega) lo_214 rfl (sh_214_6 hX (by omega)) (by decide) ?_
  exact k
theorem bX4_takeFromI_74_0 {g : GG} {d n0 nf : Nat} {post : Option Value → LX → Prop} {n : Nat} {X : LX} (hn : 226 ≤ n) (hX : Sh n X)  (k : Ev g mX4_takeFrom d n0 nf post n 82 [some (.ref 214), some (.ref 69)] [.ref 221, .ref 76] X) : Ev g mX4_takeFrom d n0 nf post n 74 [some (.ref 214), some (.ref 69)] [] X := by
  refine ev_aload_n dX4_takeFrom_74 rfl ?_
  refine ev_getS (q := 76) dX4_takeFrom_75 fo_4_30 (by omega) lo_69 rfl (sh_69_7 hX (by omega)) (by decide) ?_
  refine ev_aload_n dX4_takeFrom_78 rfl ?_
  refine ev_getS (q := 221) dX4_takeFrom_79 fo_4_30 (by omega) lo_214 rfl (sh_214_7 hX (by omega)) (by decide) ?_
  exact k
theorem bX4_takeFromI_85_0 {g : GG} {d n0 nf : Nat} {post : Option Value → LX → Prop} {n : Nat} {X : LX} (hn : 226 ≤ nf) (hX : Sh nf X)  (hp : post none X) : Ev g mX4_takeFrom d n0 nf post nf 85 [some (.ref 214), some (.ref 69)] [] X := by
  exact ev_ret dX4_takeFrom_85 rfl hp
theorem bX5_has_0_0 {g : GG} {d n0 nf : Nat} {post : Option Value → LX → Prop} {n : Nat} {X : LX} (hn : 146 ≤ nf) (hX : Sh nf X) {v1 : Int32} (c0 : ¬ v1 < 0) (c1 : ¬ X 23 0 ≤ v1) (hp : post (some (.int 1)) X) : Ev g mX5_has d n0 nf post nf 0 [some (.ref 23), some (.int v1)] [] X := by
  refine ev_iload_n dX5_has_0 rfl ?_
  refine ev_ifF (tgt := 16) dX5_has_1 (by decide) c0 ?_
  refine ev_iload_n dX5_has_4 rfl ?_
  refine ev_aload_n dX5_has_5 rfl ?_
  refine ev_getI dX5_has_6 fo_5_23 (by omega) lo_23 rfl ?_
  refine ev_icmpF (tgt := 16) dX5_has_9 (by decide) c1 ?_
  refine ev_iconst (v := 1) dX5_has_12 ki_1 ?_
  refine ev_goto (tgt := 17) dX5_has_13 (by decide) ?_
  exact ev_iret dX5_has_17 rfl (by decide) hp
theorem bX5_has_0_1 {g : GG} {d n0 nf : Nat} {post : Option Value → LX → Prop} {n : Nat} {X : LX} (hn : 146 ≤ nf) (hX : Sh nf X) {v1 : Int32} (c0 : ¬ v1 < 0) (c1 : X 23 0 ≤ v1) (hp : post (some (.int 0)) X) : Ev g mX5_has d n0 nf post nf 0 [some (.ref 23), some (.int v1)] [] X := by
  refine ev_iload_n dX5_has_0 rfl ?_
  refine ev_ifF (tgt := 16) dX5_has_1 (by decide) c0 ?_
  refine ev_iload_n dX5_has_4 rfl ?_
  refine ev_aload_n dX5_has_5 rfl ?_
  refine ev_getI dX5_has_6 fo_5_23 (by omega) lo_23 rfl ?_
  refine ev_icmpT (tgt := 16) dX5_has_9 (by decide) c1 ?_
  refine ev_iconst (v := 0) dX5_has_16 ki_0 ?_
  exact ev_iret dX5_has_17 rfl (by decide) hp
theorem bX5_has_0_2 {g : GG} {d n0 nf : Nat} {post : Option Value → LX → Prop} {n : Nat} {X : LX} (hn : 146 ≤ nf) (hX : Sh nf X) {v1 : Int32} (c0 : v1 < 0) (hp : post (some (.int 0)) X) : Ev g mX5_has d n0 nf post nf 0 [some (.ref 23), some (.int v1)] [] X := by
  refine ev_iload_n dX5_has_0 rfl ?_
  refine ev_ifT (tgt := 16) dX5_has_1 (by decide) c0 ?_
  refine ev_iconst (v := 0) dX5_has_16 ki_0 ?_
  exact ev_iret dX5_has_17 rfl (by decide) hp
theorem bX5_isKind_0_0 {g : GG} {d n0 nf : Nat} {post : Option Value → LX → Prop} {n : Nat} {X : LX} (hn : 146 ≤ nf) (hX : Sh nf X) {v1 : Nat} {v2 : Int32} (c0 : ¬ v2 = 0) (b0 : v1 < 10) (c1 : ¬ X 24 v1 = v2) (c2 : v2 = 2) (b1 : v1 < 10) (c3 : X 24 v1 = 3) (hp : post (some (.int 1)) X) : Ev g mX5_isKind d n0 nf post nf 0 [some (.ref 23), some (.int (nI v1)), some (.int v2)] [] X := by
  refine ev_iload_n dX5_isKind_0 rfl ?_
  refine ev_ifF (tgt := 29) dX5_isKind_1 (by decide) c0 ?_
  refine ev_aload_n dX5_isKind_4 rfl ?_
  refine ev_getS (q := 24) dX5_isKind_5 fo_5_9 (by omega) lo_23 rfl (sh_23_1 hX (by omega)) (by decide) ?_
  refine ev_iload_n dX5_isKind_8 rfl ?_
  refine ev_iald dX5_isKind_9 (by omega) ly_24 rfl b0 ?_
  refine ev_iload_n dX5_isKind_10 rfl ?_
  refine ev_icmpF (tgt := 29) dX5_isKind_11 (by decide) c1 ?_
  refine ev_iload_n dX5_isKind_14 rfl ?_
  refine ev_iconst (v := 2) dX5_isKind_15 ki_2 ?_
  refine ev_icmpF (tgt := 33) dX5_isKind_16 (by decide) c2 ?_
  refine ev_aload_n dX5_isKind_19 rfl ?_
  refine ev_getS (q := 24) dX5_isKind_20 fo_5_9 (by omega) lo_23 rfl (sh_23_1 hX (by omega)) (by decide) ?_
  refine ev_iload_n dX5_isKind_23 rfl ?_
  refine ev_iald dX5_isKind_24 (by omega) ly_24 rfl b1 ?_
  refine ev_iconst (v := 3) dX5_isKind_25 ki_3 ?_
  refine ev_icmpF (tgt := 33) dX5_isKind_26 (by decide) c3 ?_
  refine ev_iconst (v := 1) dX5_isKind_29 ki_1 ?_
  refine ev_goto (tgt := 34) dX5_isKind_30 (by decide) ?_
  exact ev_iret dX5_isKind_34 rfl (by decide) hp
theorem bX5_isKind_0_1 {g : GG} {d n0 nf : Nat} {post : Option Value → LX → Prop} {n : Nat} {X : LX} (hn : 146 ≤ nf) (hX : Sh nf X) {v1 : Nat} {v2 : Int32} (c0 : ¬ v2 = 0) (b0 : v1 < 10) (c1 : ¬ X 24 v1 = v2) (c2 : v2 = 2) (b1 : v1 < 10) (c3 : ¬ X 24 v1 = 3) (hp : post (some (.int 0)) X) : Ev g mX5_isKind d n0 nf post nf 0 [some (.ref 23), some (.int (nI v1)), some (.int v2)] [] X := by
  refine ev_iload_n dX5_isKind_0 rfl ?_
  refine ev_ifF (tgt := 29) dX5_isKind_1 (by decide) c0 ?_
  refine ev_aload_n dX5_isKind_4 rfl ?_
  refine ev_getS (q := 24) dX5_isKind_5 fo_5_9 (by omega) lo_23 rfl (sh_23_1 hX (by omega)) (by decide) ?_
  refine ev_iload_n dX5_isKind_8 rfl ?_
  refine ev_iald dX5_isKind_9 (by omega) ly_24 rfl b0 ?_
  refine ev_iload_n dX5_isKind_10 rfl ?_
  refine ev_icmpF (tgt := 29) dX5_isKind_11 (by decide) c1 ?_
  refine ev_iload_n dX5_isKind_14 rfl ?_
  refine ev_iconst (v := 2) dX5_isKind_15 ki_2 ?_
  refine ev_icmpF (tgt := 33) dX5_isKind_16 (by decide) c2 ?_
  refine ev_aload_n dX5_isKind_19 rfl ?_
  refine ev_getS (q := 24) dX5_isKind_20 fo_5_9 (by omega) lo_23 rfl (sh_23_1 hX (by omega)) (by decide) ?_
  refine ev_iload_n dX5_isKind_23 rfl ?_
  refine ev_iald dX5_isKind_24 (by omega) ly_24 rfl b1 ?_
  refine ev_iconst (v := 3) dX5_isKind_25 ki_3 ?_
  refine ev_icmpT (tgt := 33) dX5_isKind_26 (by decide) c3 ?_
  refine ev_iconst (v := 0) dX5_isKind_33 ki_0 ?_
  exact ev_iret dX5_isKind_34 rfl (by decide) hp
theorem bX5_isKind_0_2 {g : GG} {d n0 nf : Nat} {post : Option Value → LX → Prop} {n : Nat} {X : LX} (hn : 146 ≤ nf) (hX : Sh nf X) {v1 : Nat} {v2 : Int32} (c0 : ¬ v2 = 0) (b0 : v1 < 10) (c1 : ¬ X 24 v1 = v2) (c2 : ¬ v2 = 2) (hp : post (some (.int 0)) X) : Ev g mX5_isKind d n0 nf post nf 0 [some (.ref 23), some (.int (nI v1)), some (.int v2)] [] X := by
  refine ev_iload_n dX5_isKind_0 rfl ?_
  refine ev_ifF (tgt := 29) dX5_isKind_1 (by decide) c0 ?_
  refine ev_aload_n dX5_isKind_4 rfl ?_
  refine ev_getS (q := 24) dX5_isKind_5 fo_5_9 (by omega) lo_23 rfl (sh_23_1 hX (by omega)) (by decide) ?_
  refine ev_iload_n dX5_isKind_8 rfl ?_
  refine ev_iald dX5_isKind_9 (by omega) ly_24 rfl b0 ?_
  refine ev_iload_n dX5_isKind_10 rfl ?_
  refine ev_icmpF (tgt := 29) dX5_isKind_11 (by decide) c1 ?_
  refine ev_iload_n dX5_isKind_14 rfl ?_
  refine ev_iconst (v := 2) dX5_isKind_15 ki_2 ?_
  refine ev_icmpT (tgt := 33) dX5_isKind_16 (by decide) c2 ?_
  refine ev_iconst (v := 0) dX5_isKind_33 ki_0 ?_
  exact ev_iret dX5_isKind_34 rfl (by decide) hp
theorem bX5_isKind_0_3 {g : GG} {d n0 nf : Nat} {post : Option Value → LX → Prop} {n : Nat} {X : LX} (hn : 146 ≤ nf) (hX : Sh nf X) {v1 : Nat} {v2 : Int32} (c0 : ¬ v2 = 0) (b0 : v1 < 10) (c1 : X 24 v1 = v2) (hp : post (some (.int 1)) X) : Ev g mX5_isKind d n0 nf post nf 0 [some (.ref 23), some (.int (nI v1)), some (.int v2)] [] X := by
  refine ev_iload_n dX5_isKind_0 rfl ?_
  refine ev_ifF (tgt := 29) dX5_isKind_1 (by decide) c0 ?_
  refine ev_aload_n dX5_isKind_4 rfl ?_
  refine ev_getS (q := 24) dX5_isKind_5 fo_5_9 (by omega) lo_23 rfl (sh_23_1 hX (by omega)) (by decide) ?_
  refine ev_iload_n dX5_isKind_8 rfl ?_
  refine ev_iald dX5_isKind_9 (by omega) ly_24 rfl b0 ?_
  refine ev_iload_n dX5_isKind_10 rfl ?_
  refine ev_icmpT (tgt := 29) dX5_isKind_11 (by decide) c1 ?_
  refine ev_iconst (v := 1) dX5_isKind_29 ki_1 ?_
  refine ev_goto (tgt := 34) dX5_isKind_30 (by decide) ?_
  exact ev_iret dX5_isKind_34 rfl (by decide) hp
theorem bX5_isKind_0_4 {g : GG} {d n0 nf : Nat} {post : Option Value → LX → Prop} {n : Nat} {X : LX} (hn : 146 ≤ nf) (hX : Sh nf X) {v1 : Nat} {v2 : Int32} (c0 : v2 = 0) (hp : post (some (.int 1)) X) : Ev g mX5_isKind d n0 nf post nf 0 [some (.ref 23), some (.int (nI v1)), some (.int v2)] [] X := by
  refine ev_iload_n dX5_isKind_0 rfl ?_
  refine ev_ifT (tgt := 29) dX5_isKind_1 (by decide) c0 ?_
  refine ev_iconst (v := 1) dX5_isKind_29 ki_1 ?_
  refine ev_goto (tgt := 34) dX5_isKind_30 (by decide) ?_
  exact ev_iret dX5_isKind_34 rfl (by decide) hp
theorem bX5_partsIn_0_0 {g : GG} {d n0 nf : Nat} {post : Option Value → LX → Prop} {n : Nat} {X : LX} (hn : 146 ≤ n) (hX : Sh n X) {v1 : Int32} (k : Ev g mX5_partsIn d n0 nf post n 4 [some (.ref 23), some (.int v1), some (.int 0), some (.int 0)] [] X) : Ev g mX5_partsIn d n0 nf post n 0 [some (.ref 23), some (.int v1), none, none] [] X := by
  refine ev_iconst (v := 0) dX5_partsIn_0 ki_0 ?_
  refine ev_istore_n dX5_partsIn_1 (by decide) ?_
  refine ev_iconst (v := 0) dX5_partsIn_2 ki_0 ?_
  refine ev_istore_n dX5_partsIn_3 (by decide) ?_
  exact k
theorem bX5_partsIn_4_0 {g : GG} {d n0 nf : Nat} {post : Option Value → LX → Prop} {n : Nat} {X : LX} (hn : 146 ≤ n) (hX : Sh n X) {v1 : Nat} {v2 : Int32} {v3 : Nat} (c0 : ¬ 14 ≤ nI v3) (b0 : v1 < 10) (b1 : v3 < 14) (c1 : ¬ X (26 + 1 + v1) v3 ≤ 0) (k : Ev g mX5_partsIn d n0 nf post n 4 [some (.ref 23), some (.int (nI v1)), some (.int (v2 + 1)), some (.int ((nI v3) + 1))] [] X) : Ev g mX5_partsIn d n0 nf post n 4 [some (.ref 23), some (.int (nI v1)), some (.int v2), some (.int (nI v3))] [] X := by
  refine ev_iload_n dX5_partsIn_4 rfl ?_
  refine ev_bipush (v := 14) dX5_partsIn_5 kb_14 ?_
  refine ev_icmpF (tgt := 30) dX5_partsIn_7 (by decide) c0 ?_
  refine ev_aload_n dX5_partsIn_10 rfl ?_
  refine ev_getS (q := 26) dX5_partsIn_11 fo_5_20 (by omega) lo_23 rfl (sh_23_3 hX (by omega)) (by decide) ?_
  refine ev_iload_n dX5_partsIn_14 rfl ?_
  refine ev_aald (q := 26 + 1 + v1) dX5_partsIn_15 (by omega) (Or.inl ly_26) rfl b0 (hX.2 26 v1 (by omega) (Or.inl (by rw [ly_26])) (by rw [ly_26]; exact b0)) (by first | omega | (have := LY_l ly_26; have := LY_lt (show (LY 26).1 < 99 by rw [ly_26]; exact (by decide : 2 < 99)); omega)) ?_
  refine ev_iload_n dX5_partsIn_16 rfl ?_
  refine ev_iald dX5_partsIn_17 (by have := b0; omega) (lyr_26 _ b0) rfl b1 ?_
  refine ev_ifF (tgt := 24) dX5_partsIn_18 (by decide) c1 ?_
  refine ev_iinc (v := v2 + 1) dX5_partsIn_21 rfl (by rw [show Int32.ofInt 1 = 1 from ki_1]) (by decide) ?_
  refine ev_iinc (v := (nI v3) + 1) dX5_partsIn_24 rfl (by rw [show Int32.ofInt 1 = 1 from ki_1]) (by decide) ?_
  refine ev_goto (tgt := 4) dX5_partsIn_27 (by decide) ?_
  exact k
theorem bX5_partsIn_4_1 {g : GG} {d n0 nf : Nat} {post : Option Value → LX → Prop} {n : Nat} {X : LX} (hn : 146 ≤ n) (hX : Sh n X) {v1 : Nat} {v2 : Int32} {v3 : Nat} (c0 : ¬ 14 ≤ nI v3) (b0 : v1 < 10) (b1 : v3 < 14) (c1 : X (26 + 1 + v1) v3 ≤ 0) (k : Ev g mX5_partsIn d n0 nf post n 4 [some (.ref 23), some (.int (nI v1)), some (.int v2), some (.int ((nI v3) + 1))] [] X) : Ev g mX5_partsIn d n0 nf post n 4 [some (.ref 23), some (.int (nI v1)), some (.int v2), some (.int (nI v3))] [] X := by
  refine ev_iload_n dX5_partsIn_4 rfl ?_
  refine ev_bipush (v := 14) dX5_partsIn_5 kb_14 ?_
  refine ev_icmpF (tgt := 30) dX5_partsIn_7 (by decide) c0 ?_
  refine ev_aload_n dX5_partsIn_10 rfl ?_
  refine ev_getS (q := 26) dX5_partsIn_11 fo_5_20 (by omega) lo_23 rfl (sh_23_3 hX (by omega)) (by decide) ?_
  refine ev_iload_n dX5_partsIn_14 rfl ?_
  refine ev_aald (q := 26 + 1 + v1) dX5_partsIn_15 (by omega) (Or.inl ly_26) rfl b0 (hX.2 26 v1 (by omega) (Or.inl (by rw [ly_26])) (by rw [ly_26]; exact b0)) (by first | omega | (have := LY_l ly_26; have := LY_lt (show (LY 26).1 < 99 by rw [ly_26]; exact (by decide : 2 < 99)); omega)) ?_
  refine ev_iload_n dX5_partsIn_16 rfl ?_
  refine ev_iald dX5_partsIn_17 (by have := b0; omega) (lyr_26 _ b0) rfl b1 ?_
  refine ev_ifT (tgt := 24) dX5_partsIn_18 (by decide) c1 ?_
  refine ev_iinc (v := (nI v3) + 1) dX5_partsIn_24 rfl (by rw [show Int32.ofInt 1 = 1 from ki_1]) (by decide) ?_
  refine ev_goto (tgt := 4) dX5_partsIn_27 (by decide) ?_
  exact k
theorem bX5_partsIn_4_2 {g : GG} {d n0 nf : Nat} {post : Option Value → LX → Prop} {n : Nat} {X : LX} (hn : 146 ≤ nf) (hX : Sh nf X) {v1 : Nat} {v2 : Int32} {v3 : Nat} (c0 : 14 ≤ nI v3) (hp : post (some (.int v2)) X) : Ev g mX5_partsIn d n0 nf post nf 4 [some (.ref 23), some (.int (nI v1)), some (.int v2), some (.int (nI v3))] [] X := by
  refine ev_iload_n dX5_partsIn_4 rfl ?_
  refine ev_bipush (v := 14) dX5_partsIn_5 kb_14 ?_
  refine ev_icmpT (tgt := 30) dX5_partsIn_7 (by decide) c0 ?_
  refine ev_iload_n dX5_partsIn_30 rfl ?_
  exact ev_iret dX5_partsIn_31 rfl rfl hp
theorem bX5_gramsOf_0_0 {g : GG} {d n0 nf : Nat} {post : Option Value → LX → Prop} {n : Nat} {X : LX} (hn : 146 ≤ n) (hX : Sh n X) {v1 : Int32} (k : Ev g mX5_gramsOf d n0 nf post n 4 [some (.ref 23), some (.int v1), some (.int 0), some (.int 0)] [] X) : Ev g mX5_gramsOf d n0 nf post n 0 [some (.ref 23), some (.int v1), none, none] [] X := by
  refine ev_iconst (v := 0) dX5_gramsOf_0 ki_0 ?_
  refine ev_istore_n dX5_gramsOf_1 (by decide) ?_
  refine ev_iconst (v := 0) dX5_gramsOf_2 ki_0 ?_
  refine ev_istore_n dX5_gramsOf_3 (by decide) ?_
  exact k
theorem bX5_gramsOf_4_0 {g : GG} {d n0 nf : Nat} {post : Option Value → LX → Prop} {n : Nat} {X : LX} (hn : 146 ≤ n) (hX : Sh n X) {v1 : Nat} {v2 : Int32} {v3 : Nat} (c0 : ¬ 14 ≤ nI v3) (b0 : v1 < 10) (b1 : v3 < 14) (k : Ev g mX5_gramsOf d n0 nf post n 4 [some (.ref 23), some (.int (nI v1)), some (.int (v2 + (X (26 + 1 + v1) v3))), some (.int ((nI v3) + 1))] [] X) : Ev g mX5_gramsOf d n0 nf post n 4 [some (.ref 23), some (.int (nI v1)), some (.int v2), some (.int (nI v3))] [] X := by
  refine ev_iload_n dX5_gramsOf_4 rfl ?_
  refine ev_bipush (v := 14) dX5_gramsOf_5 kb_14 ?_
  refine ev_icmpF (tgt := 27) dX5_gramsOf_7 (by decide) c0 ?_
  refine ev_iload_n dX5_gramsOf_10 rfl ?_
  refine ev_aload_n dX5_gramsOf_11 rfl ?_
  refine ev_getS (q := 26) dX5_gramsOf_12 fo_5_20 (by omega) lo_23 rfl (sh_23_3 hX (by omega)) (by decide) ?_
  refine ev_iload_n dX5_gramsOf_15 rfl ?_
  refine ev_aald (q := 26 + 1 + v1) dX5_gramsOf_16 (by omega) (Or.inl ly_26) rfl b0 (hX.2 26 v1 (by omega) (Or.inl (by rw [ly_26])) (by rw [ly_26]; exact b0)) (by first | omega | (have := LY_l ly_26; have := LY_lt (show (LY 26).1 < 99 by rw [ly_26]; exact (by decide : 2 < 99)); omega)) ?_
  refine ev_iload_n dX5_gramsOf_17 rfl ?_
  refine ev_iald dX5_gramsOf_18 (by have := b0; omega) (lyr_26 _ b0) rfl b1 ?_
  refine ev_iadd dX5_gramsOf_19 ?_
  refine ev_istore_n dX5_gramsOf_20 (by decide) ?_
  refine ev_iinc (v := (nI v3) + 1) dX5_gramsOf_21 rfl (by rw [show Int32.ofInt 1 = 1 from ki_1]) (by decide) ?_
  refine ev_goto (tgt := 4) dX5_gramsOf_24 (by decide) ?_
  exact k
theorem bX5_gramsOf_4_1 {g : GG} {d n0 nf : Nat} {post : Option Value → LX → Prop} {n : Nat} {X : LX} (hn : 146 ≤ nf) (hX : Sh nf X) {v1 : Nat} {v2 : Int32} {v3 : Nat} (c0 : 14 ≤ nI v3) (hp : post (some (.int v2)) X) : Ev g mX5_gramsOf d n0 nf post nf 4 [some (.ref 23), some (.int (nI v1)), some (.int v2), some (.int (nI v3))] [] X := by
  refine ev_iload_n dX5_gramsOf_4 rfl ?_
  refine ev_bipush (v := 14) dX5_gramsOf_5 kb_14 ?_
  refine ev_icmpT (tgt := 27) dX5_gramsOf_7 (by decide) c0 ?_
  refine ev_iload_n dX5_gramsOf_27 rfl ?_
  exact ev_iret dX5_gramsOf_28 rfl rfl hp
theorem bX5_takeFromN_0_0 {g : GG} {d n0 nf : Nat} {post : Option Value → LX → Prop} {n : Nat} {X : LX} (hn : 226 ≤ n) (hX : Sh n X)  (k : Ev g mX5_takeFrom d n0 nf post n 16 [some (.ref 23), some (.ref 168)] [.ref 24, .ref 169] (lx_up X 23 0 (X 168 0))) : Ev g mX5_takeFrom d n0 nf post n 0 [some (.ref 23), some (.ref 168)] [] X := by
  refine ev_aload_n dX5_takeFrom_0 rfl ?_
  refine ev_aload_n dX5_takeFrom_1 rfl ?_
  refine ev_getI dX5_takeFrom_2 fo_5_23 (by omega) lo_168 rfl ?_
  refine ev_putI dX5_takeFrom_5 fo_5_23 (by omega) lo_23 rfl rfl rfl ?_
  have hX1 : Sh _ (lx_up X 23 0 (X 168 0)) := Sh.upF hX (by rw [lo_23]; decide) (by decide)
  refine ev_aload_n dX5_takeFrom_8 rfl ?_
  refine ev_getS (q := 169) dX5_takeFrom_9 fo_5_9 (by omega) lo_168 rfl (sh_168_1 hX1 (by omega)) (by decide) ?_
  refine ev_aload_n dX5_takeFrom_12 rfl ?_
  refine ev_getS (q := 24) dX5_takeFrom_13 fo_5_9 (by omega) lo_23 rfl (sh_23_1 hX1 (by omega)) (by decide) ?_
  exact k
theorem bX5_takeFromN_19_0 {g : GG} {d n0 nf : Nat} {post : Option Value → LX → Prop} {n : Nat} {X : LX} (hn : 226 ≤ n) (hX : Sh n X)  (k : Ev g mX5_takeFrom d n0 nf post n 27 [some (.ref 23), some (.ref 168)] [.ref 25, .ref 170] X) : Ev g mX5_takeFrom d n0 nf post n 19 [some (.ref 23), some (.ref 168)] [] X := by
  refine ev_aload_n dX5_takeFrom_19 rfl ?_
  refine ev_getS (q := 170) dX5_takeFrom_20 fo_5_15 (by omega) lo_168 rfl (sh_168_2 hX (by omega)) (by decide) ?_
  refine ev_aload_n dX5_takeFrom_23 rfl ?_
  refine ev_getS (q := 25) dX5_takeFrom_24 fo_5_15 (by omega) lo_23 rfl (sh_23_2 hX (by omega)) (by decide) ?_
  exact k
theorem bX5_takeFromN_30_0 {g : GG} {d n0 nf : Nat} {post : Option Value → LX → Prop} {n : Nat} {X : LX} (hn : 226 ≤ n) (hX : Sh n X)  (k : Ev g mX5_takeFrom d n0 nf post n 38 [some (.ref 23), some (.ref 168)] [.ref 26, .ref 171] X) : Ev g mX5_takeFrom d n0 nf post n 30 [some (.ref 23), some (.ref 168)] [] X := by
  refine ev_aload_n dX5_takeFrom_30 rfl ?_
  refine ev_getS (q := 171) dX5_takeFrom_31 fo_5_20 (by omega) lo_168 rfl (sh_168_3 hX (by omega)) (by decide) ?_
  refine ev_aload_n dX5_takeFrom_34 rfl ?_
  refine ev_getS (q := 26) dX5_takeFrom_35 fo_5_20 (by omega) lo_23 rfl (sh_23_3 hX (by omega)) (by decide) ?_
  exact k
theorem bX5_takeFromN_41_0 {g : GG} {d n0 nf : Nat} {post : Option Value → LX → Prop} {n : Nat} {X : LX} (hn : 226 ≤ nf) (hX : Sh nf X)  (hp : post none X) : Ev g mX5_takeFrom d n0 nf post nf 41 [some (.ref 23), some (.ref 168)] [] X := by
  exact ev_ret dX5_takeFrom_41 rfl hp
theorem bX5_takeFromI_0_0 {g : GG} {d n0 nf : Nat} {post : Option Value → LX → Prop} {n : Nat} {X : LX} (hn : 226 ≤ n) (hX : Sh n X)  (k : Ev g mX5_takeFrom d n0 nf post n 16 [some (.ref 168), some (.ref 23)] [.ref 169, .ref 24] (lx_up X 168 0 (X 23 0))) : Ev g mX5_takeFrom d n0 nf post n 0 [some (.ref 168), some (.ref 23)] [] X := by
  refine ev_aload_n dX5_takeFrom_0 rfl ?_
  refine ev_aload_n dX5_takeFrom_1 rfl ?_
  refine ev_getI dX5_takeFrom_2 fo_5_23 (by omega) lo_23 rfl ?_
  refine ev_putI dX5_takeFrom_5 fo_5_23 (by omega) lo_168 rfl rfl rfl ?_
  have hX1 : Sh _ (lx_up X 168 0 (X 23 0)) := Sh.upF hX (by rw [lo_168]; decide) (by decide)
  refine ev_aload_n dX5_takeFrom_8 rfl ?_
  refine ev_getS (q := 24) dX5_takeFrom_9 fo_5_9 (by omega) lo_23 rfl (sh_23_1 hX1 (by omega)) (by decide) ?_
  refine ev_aload_n dX5_takeFrom_12 rfl ?_
  refine ev_getS (q := 169) dX5_takeFrom_13 fo_5_9 (by omega) lo_168 rfl (sh_168_1 hX1 (by omega)) (by decide) ?_
  exact k
theorem bX5_takeFromI_19_0 {g : GG} {d n0 nf : Nat} {post : Option Value → LX → Prop} {n : Nat} {X : LX} (hn : 226 ≤ n) (hX : Sh n X)  (k : Ev g mX5_takeFrom d n0 nf post n 27 [some (.ref 168), some (.ref 23)] [.ref 170, .ref 25] X) : Ev g mX5_takeFrom d n0 nf post n 19 [some (.ref 168), some (.ref 23)] [] X := by
  refine ev_aload_n dX5_takeFrom_19 rfl ?_
  refine ev_getS (q := 25) dX5_takeFrom_20 fo_5_15 (by omega) lo_23 rfl (sh_23_2 hX (by omega)) (by decide) ?_
  refine ev_aload_n dX5_takeFrom_23 rfl ?_
  refine ev_getS (q := 170) dX5_takeFrom_24 fo_5_15 (by omega) lo_168 rfl (sh_168_2 hX (by omega)) (by decide) ?_
  exact k
theorem bX5_takeFromI_30_0 {g : GG} {d n0 nf : Nat} {post : Option Value → LX → Prop} {n : Nat} {X : LX} (hn : 226 ≤ n) (hX : Sh n X)  (k : Ev g mX5_takeFrom d n0 nf post n 38 [some (.ref 168), some (.ref 23)] [.ref 171, .ref 26] X) : Ev g mX5_takeFrom d n0 nf post n 30 [some (.ref 168), some (.ref 23)] [] X := by
  refine ev_aload_n dX5_takeFrom_30 rfl ?_
  refine ev_getS (q := 26) dX5_takeFrom_31 fo_5_20 (by omega) lo_23 rfl (sh_23_3 hX (by omega)) (by decide) ?_
  refine ev_aload_n dX5_takeFrom_34 rfl ?_
  refine ev_getS (q := 171) dX5_takeFrom_35 fo_5_20 (by omega) lo_168 rfl (sh_168_3 hX (by omega)) (by decide) ?_
  exact k
theorem bX5_takeFromI_41_0 {g : GG} {d n0 nf : Nat} {post : Option Value → LX → Prop} {n : Nat} {X : LX} (hn : 226 ≤ nf) (hX : Sh nf X)  (hp : post none X) : Ev g mX5_takeFrom d n0 nf post nf 41 [some (.ref 168), some (.ref 23)] [] X := by
  exact ev_ret dX5_takeFrom_41 rfl hp
theorem bX7_has_0_0 {g : GG} {d n0 nf : Nat} {post : Option Value → LX → Prop} {n : Nat} {X : LX} (hn : 146 ≤ nf) (hX : Sh nf X) {v1 : Int32} (c0 : ¬ v1 < 0) (c1 : ¬ X 2 0 ≤ v1) (hp : post (some (.int 1)) X) : Ev g mX7_has d n0 nf post nf 0 [some (.ref 2), some (.int v1)] [] X := by
  refine ev_iload_n dX7_has_0 rfl ?_
  refine ev_ifF (tgt := 16) dX7_has_1 (by decide) c0 ?_
  refine ev_iload_n dX7_has_4 rfl ?_
  refine ev_aload_n dX7_has_5 rfl ?_
  refine ev_getI dX7_has_6 fo_7_38 (by omega) lo_2 rfl ?_
  refine ev_icmpF (tgt := 16) dX7_has_9 (by decide) c1 ?_
  refine ev_iconst (v := 1) dX7_has_12 ki_1 ?_
  refine ev_goto (tgt := 17) dX7_has_13 (by decide) ?_
  exact ev_iret dX7_has_17 rfl (by decide) hp
theorem bX7_has_0_1 {g : GG} {d n0 nf : Nat} {post : Option Value → LX → Prop} {n : Nat} {X : LX} (hn : 146 ≤ nf) (hX : Sh nf X) {v1 : Int32} (c0 : ¬ v1 < 0) (c1 : X 2 0 ≤ v1) (hp : post (some (.int 0)) X) : Ev g mX7_has d n0 nf post nf 0 [some (.ref 2), some (.int v1)] [] X := by
  refine ev_iload_n dX7_has_0 rfl ?_
  refine ev_ifF (tgt := 16) dX7_has_1 (by decide) c0 ?_
  refine ev_iload_n dX7_has_4 rfl ?_
  refine ev_aload_n dX7_has_5 rfl ?_
  refine ev_getI dX7_has_6 fo_7_38 (by omega) lo_2 rfl ?_
  refine ev_icmpT (tgt := 16) dX7_has_9 (by decide) c1 ?_
  refine ev_iconst (v := 0) dX7_has_16 ki_0 ?_
  exact ev_iret dX7_has_17 rfl (by decide) hp
theorem bX7_has_0_2 {g : GG} {d n0 nf : Nat} {post : Option Value → LX → Prop} {n : Nat} {X : LX} (hn : 146 ≤ nf) (hX : Sh nf X) {v1 : Int32} (c0 : v1 < 0) (hp : post (some (.int 0)) X) : Ev g mX7_has d n0 nf post nf 0 [some (.ref 2), some (.int v1)] [] X := by
  refine ev_iload_n dX7_has_0 rfl ?_
  refine ev_ifT (tgt := 16) dX7_has_1 (by decide) c0 ?_
  refine ev_iconst (v := 0) dX7_has_16 ki_0 ?_
  exact ev_iret dX7_has_17 rfl (by decide) hp
theorem bX7_takeFromN_0_0 {g : GG} {d n0 nf : Nat} {post : Option Value → LX → Prop} {n : Nat} {X : LX} (hn : 226 ≤ n) (hX : Sh n X)  (k : Ev g mX7_takeFrom d n0 nf post n 16 [some (.ref 2), some (.ref 147)] [.ref 3, .ref 148] (lx_up X 2 0 (X 147 0))) : Ev g mX7_takeFrom d n0 nf post n 0 [some (.ref 2), some (.ref 147)] [] X := by
  refine ev_aload_n dX7_takeFrom_0 rfl ?_
  refine ev_aload_n dX7_takeFrom_1 rfl ?_
  refine ev_getI dX7_takeFrom_2 fo_7_38 (by omega) lo_147 rfl ?_
  refine ev_putI dX7_takeFrom_5 fo_7_38 (by omega) lo_2 rfl rfl rfl ?_
  have hX1 : Sh _ (lx_up X 2 0 (X 147 0)) := Sh.upF hX (by rw [lo_2]; decide) (by decide)
  refine ev_aload_n dX7_takeFrom_8 rfl ?_
  refine ev_getS (q := 148) dX7_takeFrom_9 fo_7_9 (by omega) lo_147 rfl (sh_147_1 hX1 (by omega)) (by decide) ?_
  refine ev_aload_n dX7_takeFrom_12 rfl ?_
  refine ev_getS (q := 3) dX7_takeFrom_13 fo_7_9 (by omega) lo_2 rfl (sh_2_1 hX1 (by omega)) (by decide) ?_
  exact k
theorem bX7_takeFromN_19_0 {g : GG} {d n0 nf : Nat} {post : Option Value → LX → Prop} {n : Nat} {X : LX} (hn : 226 ≤ n) (hX : Sh n X)  (k : Ev g mX7_takeFrom d n0 nf post n 27 [some (.ref 2), some (.ref 147)] [.ref 4, .ref 149] X) : Ev g mX7_takeFrom d n0 nf post n 19 [some (.ref 2), some (.ref 147)] [] X := by
  refine ev_aload_n dX7_takeFrom_19 rfl ?_
  refine ev_getS (q := 149) dX7_takeFrom_20 fo_7_15 (by omega) lo_147 rfl (sh_147_2 hX (by omega)) (by decide) ?_
  refine ev_aload_n dX7_takeFrom_23 rfl ?_
  refine ev_getS (q := 4) dX7_takeFrom_24 fo_7_15 (by omega) lo_2 rfl (sh_2_2 hX (by omega)) (by decide) ?_
  exact k
theorem bX7_takeFromN_30_0 {g : GG} {d n0 nf : Nat} {post : Option Value → LX → Prop} {n : Nat} {X : LX} (hn : 226 ≤ n) (hX : Sh n X)  (k : Ev g mX7_takeFrom d n0 nf post n 38 [some (.ref 2), some (.ref 147)] [.ref 5, .ref 150] X) : Ev g mX7_takeFrom d n0 nf post n 30 [some (.ref 2), some (.ref 147)] [] X := by
  refine ev_aload_n dX7_takeFrom_30 rfl ?_
  refine ev_getS (q := 150) dX7_takeFrom_31 fo_7_18 (by omega) lo_147 rfl (sh_147_3 hX (by omega)) (by decide) ?_
  refine ev_aload_n dX7_takeFrom_34 rfl ?_
  refine ev_getS (q := 5) dX7_takeFrom_35 fo_7_18 (by omega) lo_2 rfl (sh_2_3 hX (by omega)) (by decide) ?_
  exact k
theorem bX7_takeFromN_41_0 {g : GG} {d n0 nf : Nat} {post : Option Value → LX → Prop} {n : Nat} {X : LX} (hn : 226 ≤ n) (hX : Sh n X)  (k : Ev g mX7_takeFrom d n0 nf post n 49 [some (.ref 2), some (.ref 147)] [.ref 6, .ref 151] X) : Ev g mX7_takeFrom d n0 nf post n 41 [some (.ref 2), some (.ref 147)] [] X := by
  refine ev_aload_n dX7_takeFrom_41 rfl ?_
  refine ev_getS (q := 151) dX7_takeFrom_42 fo_7_21 (by omega) lo_147 rfl (sh_147_4 hX (by omega)) (by decide) ?_
  refine ev_aload_n dX7_takeFrom_45 rfl ?_
  refine ev_getS (q := 6) dX7_takeFrom_46 fo_7_21 (by omega) lo_2 rfl (sh_2_4 hX (by omega)) (by decide) ?_
  exact k
theorem bX7_takeFromN_52_0 {g : GG} {d n0 nf : Nat} {post : Option Value → LX → Prop} {n : Nat} {X : LX} (hn : 226 ≤ n) (hX : Sh n X)  (k : Ev g mX7_takeFrom d n0 nf post n 60 [some (.ref 2), some (.ref 147)] [.ref 7, .ref 152] X) : Ev g mX7_takeFrom d n0 nf post n 52 [some (.ref 2), some (.ref 147)] [] X := by
  refine ev_aload_n dX7_takeFrom_52 rfl ?_
  refine ev_getS (q := 152) dX7_takeFrom_53 fo_7_24 (by omega) lo_147 rfl (sh_147_5 hX (by omega)) (by decide) ?_
  refine ev_aload_n dX7_takeFrom_56 rfl ?_
  refine ev_getS (q := 7) dX7_takeFrom_57 fo_7_24 (by omega) lo_2 rfl (sh_2_5 hX (by omega)) (by decide) ?_
  exact k
theorem bX7_takeFromN_63_0 {g : GG} {d n0 nf : Nat} {post : Option Value → LX → Prop} {n : Nat} {X : LX} (hn : 226 ≤ n) (hX : Sh n X)  (k : Ev g mX7_takeFrom d n0 nf post n 71 [some (.ref 2), some (.ref 147)] [.ref 8, .ref 153] X) : Ev g mX7_takeFrom d n0 nf post n 63 [some (.ref 2), some (.ref 147)] [] X := by
  refine ev_aload_n dX7_takeFrom_63 rfl ?_
  refine ev_getS (q := 153) dX7_takeFrom_64 fo_7_29 (by omega) lo_147 rfl (sh_147_6 hX (by omega)) (by decide) ?_
  refine ev_aload_n dX7_takeFrom_67 rfl ?_
  refine ev_getS (q := 8) dX7_takeFrom_68 fo_7_29 (by omega) lo_2 rfl (sh_2_6 hX (by omega)) (by decide) ?_
  exact k
theorem bX7_takeFromN_74_0 {g : GG} {d n0 nf : Nat} {post : Option Value → LX → Prop} {n : Nat} {X : LX} (hn : 226 ≤ nf) (hX : Sh nf X)  (hp : post none X) : Ev g mX7_takeFrom d n0 nf post nf 74 [some (.ref 2), some (.ref 147)] [] X := by
  exact ev_ret dX7_takeFrom_74 rfl hp
theorem bX7_takeFromI_0_0 {g : GG} {d n0 nf : Nat} {post : Option Value → LX → Prop} {n : Nat} {X : LX} (hn : 226 ≤ n) (hX : Sh n X)  (k : Ev g mX7_takeFrom d n0 nf post n 16 [some (.ref 147), some (.ref 2)] [.ref 148, .ref 3] (lx_up X 147 0 (X 2 0))) : Ev g mX7_takeFrom d n0 nf post n 0 [some (.ref 147), some (.ref 2)] [] X := by
  refine ev_aload_n dX7_takeFrom_0 rfl ?_
  refine ev_aload_n dX7_takeFrom_1 rfl ?_
  refine ev_getI dX7_takeFrom_2 fo_7_38 (by omega) lo_2 rfl ?_
  refine ev_putI dX7_takeFrom_5 fo_7_38 (by omega) lo_147 rfl rfl rfl ?_
  have hX1 : Sh _ (lx_up X 147 0 (X 2 0)) := Sh.upF hX (by rw [lo_147]; decide) (by decide)
  refine ev_aload_n dX7_takeFrom_8 rfl ?_
  refine ev_getS (q := 3) dX7_takeFrom_9 fo_7_9 (by omega) lo_2 rfl (sh_2_1 hX1 (by omega)) (by decide) ?_
  refine ev_aload_n dX7_takeFrom_12 rfl ?_
  refine ev_getS (q := 148) dX7_takeFrom_13 fo_7_9 (by omega) lo_147 rfl (sh_147_1 hX1 (by omega)) (by decide) ?_
  exact k
theorem bX7_takeFromI_19_0 {g : GG} {d n0 nf : Nat} {post : Option Value → LX → Prop} {n : Nat} {X : LX} (hn : 226 ≤ n) (hX : Sh n X)  (k : Ev g mX7_takeFrom d n0 nf post n 27 [some (.ref 147), some (.ref 2)] [.ref 149, .ref 4] X) : Ev g mX7_takeFrom d n0 nf post n 19 [some (.ref 147), some (.ref 2)] [] X := by
  refine ev_aload_n dX7_takeFrom_19 rfl ?_
  refine ev_getS (q := 4) dX7_takeFrom_20 fo_7_15 (by omega) lo_2 rfl (sh_2_2 hX (by omega)) (by decide) ?_
  refine ev_aload_n dX7_takeFrom_23 rfl ?_
  refine ev_getS (q := 149) dX7_takeFrom_24 fo_7_15 (by omega) lo_147 rfl (sh_147_2 hX (by omega)) (by decide) ?_
  exact k
theorem bX7_takeFromI_30_0 {g : GG} {d n0 nf : Nat} {post : Option Value → LX → Prop} {n : Nat} {X : LX} (hn : 226 ≤ n) (hX : Sh n X)  (k : Ev g mX7_takeFrom d n0 nf post n 38 [some (.ref 147), some (.ref 2)] [.ref 150, .ref 5] X) : Ev g mX7_takeFrom d n0 nf post n 30 [some (.ref 147), some (.ref 2)] [] X := by
  refine ev_aload_n dX7_takeFrom_30 rfl ?_
  refine ev_getS (q := 5) dX7_takeFrom_31 fo_7_18 (by omega) lo_2 rfl (sh_2_3 hX (by omega)) (by decide) ?_
  refine ev_aload_n dX7_takeFrom_34 rfl ?_
  refine ev_getS (q := 150) dX7_takeFrom_35 fo_7_18 (by omega) lo_147 rfl (sh_147_3 hX (by omega)) (by decide) ?_
  exact k
theorem bX7_takeFromI_41_0 {g : GG} {d n0 nf : Nat} {post : Option Value → LX → Prop} {n : Nat} {X : LX} (hn : 226 ≤ n) (hX : Sh n X)  (k : Ev g mX7_takeFrom d n0 nf post n 49 [some (.ref 147), some (.ref 2)] [.ref 151, .ref 6] X) : Ev g mX7_takeFrom d n0 nf post n 41 [some (.ref 147), some (.ref 2)] [] X := by
  refine ev_aload_n dX7_takeFrom_41 rfl ?_
  refine ev_getS (q := 6) dX7_takeFrom_42 fo_7_21 (by omega) lo_2 rfl (sh_2_4 hX (by omega)) (by decide) ?_
  refine ev_aload_n dX7_takeFrom_45 rfl ?_
  refine ev_getS (q := 151) dX7_takeFrom_46 fo_7_21 (by omega) lo_147 rfl (sh_147_4 hX (by omega)) (by decide) ?_
  exact k
theorem bX7_takeFromI_52_0 {g : GG} {d n0 nf : Nat} {post : Option Value → LX → Prop} {n : Nat} {X : LX} (hn : 226 ≤ n) (hX : Sh n X)  (k : Ev g mX7_takeFrom d n0 nf post n 60 [some (.ref 147), some (.ref 2)] [.ref 152, .ref 7] X) : Ev g mX7_takeFrom d n0 nf post n 52 [some (.ref 147), some (.ref 2)] [] X := by
  refine ev_aload_n dX7_takeFrom_52 rfl ?_
  refine ev_getS (q := 7) dX7_takeFrom_53 fo_7_24 (by omega) lo_2 rfl (sh_2_5 hX (by omega)) (by decide) ?_
  refine ev_aload_n dX7_takeFrom_56 rfl ?_
  refine ev_getS (q := 152) dX7_takeFrom_57 fo_7_24 (by omega) lo_147 rfl (sh_147_5 hX (by omega)) (by decide) ?_
  exact k
theorem bX7_takeFromI_63_0 {g : GG} {d n0 nf : Nat} {post : Option Value → LX → Prop} {n : Nat} {X : LX} (hn : 226 ≤ n) (hX : Sh n X)  (k : Ev g mX7_takeFrom d n0 nf post n 71 [some (.ref 147), some (.ref 2)] [.ref 153, .ref 8] X) : Ev g mX7_takeFrom d n0 nf post n 63 [some (.ref 147), some (.ref 2)] [] X := by
  refine ev_aload_n dX7_takeFrom_63 rfl ?_
  refine ev_getS (q := 8) dX7_takeFrom_64 fo_7_29 (by omega) lo_2 rfl (sh_2_6 hX (by omega)) (by decide) ?_
  refine ev_aload_n dX7_takeFrom_67 rfl ?_
  refine ev_getS (q := 153) dX7_takeFrom_68 fo_7_29 (by omega) lo_147 rfl (sh_147_6 hX (by omega)) (by decide) ?_
  exact k
theorem bX7_takeFromI_74_0 {g : GG} {d n0 nf : Nat} {post : Option Value → LX → Prop} {n : Nat} {X : LX} (hn : 226 ≤ nf) (hX : Sh nf X)  (hp : post none X) : Ev g mX7_takeFrom d n0 nf post nf 74 [some (.ref 147), some (.ref 2)] [] X := by
  exact ev_ret dX7_takeFrom_74 rfl hp
theorem bX9_isNumber_0_0 {g : GG} {d n0 nf : Nat} {post : Option Value → LX → Prop} {n : Nat} {X : LX} (hn : 146 ≤ nf) (hX : Sh nf X) {v1 : Int32} (c0 : ¬ v1 < 0) (c1 : ¬ nI 2 ≤ v1) (hp : post (some (.int 1)) X) : Ev g mX9_isNumber d n0 nf post nf 0 [some (.ref 127), some (.int v1)] [] X := by
  refine ev_iload_n dX9_isNumber_0 rfl ?_
  refine ev_ifF (tgt := 17) dX9_isNumber_1 (by decide) c0 ?_
  refine ev_iload_n dX9_isNumber_4 rfl ?_
  refine ev_aload_n dX9_isNumber_5 rfl ?_
  refine ev_getS (q := 131) dX9_isNumber_6 fo_9_16 (by omega) lo_127 rfl (sh_127_1 hX (by omega)) (by decide) ?_
  refine ev_alen dX9_isNumber_9 (by omega) ly_131 (by decide) ?_
  refine ev_icmpF (tgt := 17) dX9_isNumber_10 (by decide) c1 ?_
  refine ev_iconst (v := 1) dX9_isNumber_13 ki_1 ?_
  refine ev_goto (tgt := 18) dX9_isNumber_14 (by decide) ?_
  exact ev_iret dX9_isNumber_18 rfl (by decide) hp
theorem bX9_isNumber_0_1 {g : GG} {d n0 nf : Nat} {post : Option Value → LX → Prop} {n : Nat} {X : LX} (hn : 146 ≤ nf) (hX : Sh nf X) {v1 : Int32} (c0 : ¬ v1 < 0) (c1 : nI 2 ≤ v1) (hp : post (some (.int 0)) X) : Ev g mX9_isNumber d n0 nf post nf 0 [some (.ref 127), some (.int v1)] [] X := by
  refine ev_iload_n dX9_isNumber_0 rfl ?_
  refine ev_ifF (tgt := 17) dX9_isNumber_1 (by decide) c0 ?_
  refine ev_iload_n dX9_isNumber_4 rfl ?_
  refine ev_aload_n dX9_isNumber_5 rfl ?_
  refine ev_getS (q := 131) dX9_isNumber_6 fo_9_16 (by omega) lo_127 rfl (sh_127_1 hX (by omega)) (by decide) ?_
  refine ev_alen dX9_isNumber_9 (by omega) ly_131 (by decide) ?_
  refine ev_icmpT (tgt := 17) dX9_isNumber_10 (by decide) c1 ?_
  refine ev_iconst (v := 0) dX9_isNumber_17 ki_0 ?_
  exact ev_iret dX9_isNumber_18 rfl (by decide) hp
theorem bX9_isNumber_0_2 {g : GG} {d n0 nf : Nat} {post : Option Value → LX → Prop} {n : Nat} {X : LX} (hn : 146 ≤ nf) (hX : Sh nf X) {v1 : Int32} (c0 : v1 < 0) (hp : post (some (.int 0)) X) : Ev g mX9_isNumber d n0 nf post nf 0 [some (.ref 127), some (.int v1)] [] X := by
  refine ev_iload_n dX9_isNumber_0 rfl ?_
  refine ev_ifT (tgt := 17) dX9_isNumber_1 (by decide) c0 ?_
  refine ev_iconst (v := 0) dX9_isNumber_17 ki_0 ?_
  exact ev_iret dX9_isNumber_18 rfl (by decide) hp
theorem bX9_isMissing_0_0 {g : GG} {d n0 nf : Nat} {post : Option Value → LX → Prop} {n : Nat} {X : LX} (hn : 146 ≤ nf) (hX : Sh nf X) {v1 : Nat} (b0 : v1 < 2) (c0 : ¬ 0 ≤ X 131 v1) (hp : post (some (.int 1)) X) : Ev g mX9_isMissing d n0 nf post nf 0 [some (.ref 127), some (.int (nI v1))] [] X := by
  refine ev_aload_n dX9_isMissing_0 rfl ?_
  refine ev_getS (q := 131) dX9_isMissing_1 fo_9_16 (by omega) lo_127 rfl (sh_127_1 hX (by omega)) (by decide) ?_
  refine ev_iload_n dX9_isMissing_4 rfl ?_
  refine ev_iald dX9_isMissing_5 (by omega) ly_131 rfl b0 ?_
  refine ev_ifF (tgt := 13) dX9_isMissing_6 (by decide) c0 ?_
  refine ev_iconst (v := 1) dX9_isMissing_9 ki_1 ?_
  refine ev_goto (tgt := 14) dX9_isMissing_10 (by decide) ?_
  exact ev_iret dX9_isMissing_14 rfl (by decide) hp
theorem bX9_isMissing_0_1 {g : GG} {d n0 nf : Nat} {post : Option Value → LX → Prop} {n : Nat} {X : LX} (hn : 146 ≤ nf) (hX : Sh nf X) {v1 : Nat} (b0 : v1 < 2) (c0 : 0 ≤ X 131 v1) (hp : post (some (.int 0)) X) : Ev g mX9_isMissing d n0 nf post nf 0 [some (.ref 127), some (.int (nI v1))] [] X := by
  refine ev_aload_n dX9_isMissing_0 rfl ?_
  refine ev_getS (q := 131) dX9_isMissing_1 fo_9_16 (by omega) lo_127 rfl (sh_127_1 hX (by omega)) (by decide) ?_
  refine ev_iload_n dX9_isMissing_4 rfl ?_
  refine ev_iald dX9_isMissing_5 (by omega) ly_131 rfl b0 ?_
  refine ev_ifT (tgt := 13) dX9_isMissing_6 (by decide) c0 ?_
  refine ev_iconst (v := 0) dX9_isMissing_13 ki_0 ?_
  exact ev_iret dX9_isMissing_14 rfl (by decide) hp
theorem bX9_hasPlaces_0_0 {g : GG} {d n0 nf : Nat} {post : Option Value → LX → Prop} {n : Nat} {X : LX} (hn : 146 ≤ nf) (hX : Sh nf X) {v1 : Nat} {v2 : Int32} {v3 : Int32} (c0 : ¬ v2 < 0) (c1 : ¬ v3 < 0) (b0 : v1 < 2) (c2 : ¬ X 131 v1 < v2) (b1 : v1 < 2) (c3 : ¬ (X 131 v1) - v2 < v3) (hp : post (some (.int 1)) X) : Ev g mX9_hasPlaces d n0 nf post nf 0 [some (.ref 127), some (.int (nI v1)), some (.int v2), some (.int v3)] [] X := by
  refine ev_iload_n dX9_hasPlaces_0 rfl ?_
  refine ev_ifF (tgt := 34) dX9_hasPlaces_1 (by decide) c0 ?_
  refine ev_iload_n dX9_hasPlaces_4 rfl ?_
  refine ev_ifF (tgt := 34) dX9_hasPlaces_5 (by decide) c1 ?_
  refine ev_iload_n dX9_hasPlaces_8 rfl ?_
  refine ev_aload_n dX9_hasPlaces_9 rfl ?_
  refine ev_getS (q := 131) dX9_hasPlaces_10 fo_9_16 (by omega) lo_127 rfl (sh_127_1 hX (by omega)) (by decide) ?_
  refine ev_iload_n dX9_hasPlaces_13 rfl ?_
  refine ev_iald dX9_hasPlaces_14 (by omega) ly_131 rfl b0 ?_
  refine ev_icmpF (tgt := 34) dX9_hasPlaces_15 (by decide) c2 ?_
  refine ev_iload_n dX9_hasPlaces_18 rfl ?_
  refine ev_aload_n dX9_hasPlaces_19 rfl ?_
  refine ev_getS (q := 131) dX9_hasPlaces_20 fo_9_16 (by omega) lo_127 rfl (sh_127_1 hX (by omega)) (by decide) ?_
  refine ev_iload_n dX9_hasPlaces_23 rfl ?_
  refine ev_iald dX9_hasPlaces_24 (by omega) ly_131 rfl b1 ?_
  refine ev_iload_n dX9_hasPlaces_25 rfl ?_
  refine ev_isub dX9_hasPlaces_26 ?_
  refine ev_icmpF (tgt := 34) dX9_hasPlaces_27 (by decide) c3 ?_
  refine ev_iconst (v := 1) dX9_hasPlaces_30 ki_1 ?_
  refine ev_goto (tgt := 35) dX9_hasPlaces_31 (by decide) ?_
  exact ev_iret dX9_hasPlaces_35 rfl (by decide) hp
theorem bX9_hasPlaces_0_1 {g : GG} {d n0 nf : Nat} {post : Option Value → LX → Prop} {n : Nat} {X : LX} (hn : 146 ≤ nf) (hX : Sh nf X) {v1 : Nat} {v2 : Int32} {v3 : Int32} (c0 : ¬ v2 < 0) (c1 : ¬ v3 < 0) (b0 : v1 < 2) (c2 : ¬ X 131 v1 < v2) (b1 : v1 < 2) (c3 : (X 131 v1) - v2 < v3) (hp : post (some (.int 0)) X) : Ev g mX9_hasPlaces d n0 nf post nf 0 [some (.ref 127), some (.int (nI v1)), some (.int v2), some (.int v3)] [] X := by
  refine ev_iload_n dX9_hasPlaces_0 rfl ?_
  refine ev_ifF (tgt := 34) dX9_hasPlaces_1 (by decide) c0 ?_
  refine ev_iload_n dX9_hasPlaces_4 rfl ?_
  refine ev_ifF (tgt := 34) dX9_hasPlaces_5 (by decide) c1 ?_
  refine ev_iload_n dX9_hasPlaces_8 rfl ?_
  refine ev_aload_n dX9_hasPlaces_9 rfl ?_
  refine ev_getS (q := 131) dX9_hasPlaces_10 fo_9_16 (by omega) lo_127 rfl (sh_127_1 hX (by omega)) (by decide) ?_
  refine ev_iload_n dX9_hasPlaces_13 rfl ?_
  refine ev_iald dX9_hasPlaces_14 (by omega) ly_131 rfl b0 ?_
  refine ev_icmpF (tgt := 34) dX9_hasPlaces_15 (by decide) c2 ?_
  refine ev_iload_n dX9_hasPlaces_18 rfl ?_
  refine ev_aload_n dX9_hasPlaces_19 rfl ?_
  refine ev_getS (q := 131) dX9_hasPlaces_20 fo_9_16 (by omega) lo_127 rfl (sh_127_1 hX (by omega)) (by decide) ?_
  refine ev_iload_n dX9_hasPlaces_23 rfl ?_
  refine ev_iald dX9_hasPlaces_24 (by omega) ly_131 rfl b1 ?_
  refine ev_iload_n dX9_hasPlaces_25 rfl ?_
  refine ev_isub dX9_hasPlaces_26 ?_
  refine ev_icmpT (tgt := 34) dX9_hasPlaces_27 (by decide) c3 ?_
  refine ev_iconst (v := 0) dX9_hasPlaces_34 ki_0 ?_
  exact ev_iret dX9_hasPlaces_35 rfl (by decide) hp
theorem bX9_hasPlaces_0_2 {g : GG} {d n0 nf : Nat} {post : Option Value → LX → Prop} {n : Nat} {X : LX} (hn : 146 ≤ nf) (hX : Sh nf X) {v1 : Nat} {v2 : Int32} {v3 : Int32} (c0 : ¬ v2 < 0) (c1 : ¬ v3 < 0) (b0 : v1 < 2) (c2 : X 131 v1 < v2) (hp : post (some (.int 0)) X) : Ev g mX9_hasPlaces d n0 nf post nf 0 [some (.ref 127), some (.int (nI v1)), some (.int v2), some (.int v3)] [] X := by
  refine ev_iload_n dX9_hasPlaces_0 rfl ?_
  refine ev_ifF (tgt := 34) dX9_hasPlaces_1 (by decide) c0 ?_
  refine ev_iload_n dX9_hasPlaces_4 rfl ?_
  refine ev_ifF (tgt := 34) dX9_hasPlaces_5 (by decide) c1 ?_
  refine ev_iload_n dX9_hasPlaces_8 rfl ?_
  refine ev_aload_n dX9_hasPlaces_9 rfl ?_
  refine ev_getS (q := 131) dX9_hasPlaces_10 fo_9_16 (by omega) lo_127 rfl (sh_127_1 hX (by omega)) (by decide) ?_
  refine ev_iload_n dX9_hasPlaces_13 rfl ?_
  refine ev_iald dX9_hasPlaces_14 (by omega) ly_131 rfl b0 ?_
  refine ev_icmpT (tgt := 34) dX9_hasPlaces_15 (by decide) c2 ?_
  refine ev_iconst (v := 0) dX9_hasPlaces_34 ki_0 ?_
  exact ev_iret dX9_hasPlaces_35 rfl (by decide) hp
theorem bX9_hasPlaces_0_3 {g : GG} {d n0 nf : Nat} {post : Option Value → LX → Prop} {n : Nat} {X : LX} (hn : 146 ≤ nf) (hX : Sh nf X) {v1 : Nat} {v2 : Int32} {v3 : Int32} (c0 : ¬ v2 < 0) (c1 : v3 < 0) (hp : post (some (.int 0)) X) : Ev g mX9_hasPlaces d n0 nf post nf 0 [some (.ref 127), some (.int (nI v1)), some (.int v2), some (.int v3)] [] X := by
  refine ev_iload_n dX9_hasPlaces_0 rfl ?_
  refine ev_ifF (tgt := 34) dX9_hasPlaces_1 (by decide) c0 ?_
  refine ev_iload_n dX9_hasPlaces_4 rfl ?_
  refine ev_ifT (tgt := 34) dX9_hasPlaces_5 (by decide) c1 ?_
  refine ev_iconst (v := 0) dX9_hasPlaces_34 ki_0 ?_
  exact ev_iret dX9_hasPlaces_35 rfl (by decide) hp
theorem bX9_hasPlaces_0_4 {g : GG} {d n0 nf : Nat} {post : Option Value → LX → Prop} {n : Nat} {X : LX} (hn : 146 ≤ nf) (hX : Sh nf X) {v1 : Nat} {v2 : Int32} {v3 : Int32} (c0 : v2 < 0) (hp : post (some (.int 0)) X) : Ev g mX9_hasPlaces d n0 nf post nf 0 [some (.ref 127), some (.int (nI v1)), some (.int v2), some (.int v3)] [] X := by
  refine ev_iload_n dX9_hasPlaces_0 rfl ?_
  refine ev_ifT (tgt := 34) dX9_hasPlaces_1 (by decide) c0 ?_
  refine ev_iconst (v := 0) dX9_hasPlaces_34 ki_0 ?_
  exact ev_iret dX9_hasPlaces_35 rfl (by decide) hp
