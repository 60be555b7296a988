theorem bX1_takeFromN_0_0 {g : GG} {d n0 nf : Nat} {post : Option Value → LX → Prop} {n : Nat} {X : LX} (hn : 226 ≤ n) (hX : Sh n X)  (k : Ev g mX1_takeFrom d n0 nf post n 8 [some (.ref 1), some (.ref 146)] [.ref 147, .ref 2] X) : Ev g mX1_takeFrom d n0 nf post n 0 [some (.ref 1), some (.ref 146)] [] X := by
  refine ev_aload_n dX1_takeFrom_0 rfl ?_
  refine ev_getS (q := 2) dX1_takeFrom_1 fo_1_12 (by omega) lo_1 rfl (sh_1_0 hX (by omega)) (by decide) ?_
  refine ev_aload_n dX1_takeFrom_4 rfl ?_
  refine ev_getS (q := 147) dX1_takeFrom_5 fo_1_12 (by omega) lo_146 rfl (sh_146_0 hX (by omega)) (by decide) ?_
  exact k
theorem bX1_takeFromN_11_0 {g : GG} {d n0 nf : Nat} {post : Option Value → LX → Prop} {n : Nat} {X : LX} (hn : 226 ≤ n) (hX : Sh n X)  (k : Ev g mX1_takeFrom d n0 nf post n 19 [some (.ref 1), some (.ref 146)] [.ref 168, .ref 23] X) : Ev g mX1_takeFrom d n0 nf post n 11 [some (.ref 1), some (.ref 146)] [] X := by
  refine ev_aload_n dX1_takeFrom_11 rfl ?_
  refine ev_getS (q := 23) dX1_takeFrom_12 fo_1_21 (by omega) lo_1 rfl (sh_1_1 hX (by omega)) (by decide) ?_
  refine ev_aload_n dX1_takeFrom_15 rfl ?_
  refine ev_getS (q := 168) dX1_takeFrom_16 fo_1_21 (by omega) lo_146 rfl (sh_146_1 hX (by omega)) (by decide) ?_
  exact k
theorem bX1_takeFromN_22_0 {g : GG} {d n0 nf : Nat} {post : Option Value → LX → Prop} {n : Nat} {X : LX} (hn : 226 ≤ n) (hX : Sh n X)  (k : Ev g mX1_takeFrom d n0 nf post n 30 [some (.ref 1), some (.ref 146)] [.ref 182, .ref 37] X) : Ev g mX1_takeFrom d n0 nf post n 22 [some (.ref 1), some (.ref 146)] [] X := by
  refine ev_aload_n dX1_takeFrom_22 rfl ?_
  refine ev_getS (q := 37) dX1_takeFrom_23 fo_1_28 (by omega) lo_1 rfl (sh_1_2 hX (by omega)) (by decide) ?_
  refine ev_aload_n dX1_takeFrom_26 rfl ?_
  refine ev_getS (q := 182) dX1_takeFrom_27 fo_1_28 (by omega) lo_146 rfl (sh_146_2 hX (by omega)) (by decide) ?_
  exact k
theorem bX1_takeFromN_33_0 {g : GG} {d n0 nf : Nat} {post : Option Value → LX → Prop} {n : Nat} {X : LX} (hn : 226 ≤ n) (hX : Sh n X)  (k : Ev g mX1_takeFrom d n0 nf post n 41 [some (.ref 1), some (.ref 146)] [.ref 214, .ref 69] X) : Ev g mX1_takeFrom d n0 nf post n 33 [some (.ref 1), some (.ref 146)] [] X := by
  refine ev_aload_n dX1_takeFrom_33 rfl ?_
  refine ev_getS (q := 69) dX1_takeFrom_34 fo_1_35 (by omega) lo_1 rfl (sh_1_3 hX (by omega)) (by decide) ?_
  refine ev_aload_n dX1_takeFrom_37 rfl ?_
  refine ev_getS (q := 214) dX1_takeFrom_38 fo_1_35 (by omega) lo_146 rfl (sh_146_3 hX (by omega)) (by decide) ?_
  exact k
theorem bX1_takeFromN_44_0 {g : GG} {d n0 nf : Nat} {post : Option Value → LX → Prop} {n : Nat} {X : LX} (hn : 226 ≤ n) (hX : Sh n X)  (k : Ev g mX1_takeFrom d n0 nf post n 52 [some (.ref 1), some (.ref 146)] [.ref 222, .ref 77] X) : Ev g mX1_takeFrom d n0 nf post n 44 [some (.ref 1), some (.ref 146)] [] X := by
  refine ev_aload_n dX1_takeFrom_44 rfl ?_
  refine ev_getS (q := 77) dX1_takeFrom_45 fo_1_42 (by omega) lo_1 rfl (sh_1_4 hX (by omega)) (by decide) ?_
  refine ev_aload_n dX1_takeFrom_48 rfl ?_
  refine ev_getS (q := 222) dX1_takeFrom_49 fo_1_42 (by omega) lo_146 rfl (sh_146_4 hX (by omega)) (by decide) ?_
  exact k
theorem bX1_takeFromN_55_0 {g : GG} {d n0 nf : Nat} {post : Option Value → LX → Prop} {n : Nat} {X : LX} (hn : 226 ≤ nf) (hX : Sh nf X)  (z0 : X 146 8 = 0 ∨ X 146 8 = 1) (hp : post none (lx_up (lx_up (lx_up (lx_up X 1 5 (X 146 5)) 1 6 (X 146 6)) 1 7 (X 146 7)) 1 8 (X 146 8))) : Ev g mX1_takeFrom d n0 nf post nf 55 [some (.ref 1), some (.ref 146)] [] X := by
  refine ev_aload_n dX1_takeFrom_55 rfl ?_
  refine ev_aload_n dX1_takeFrom_56 rfl ?_
  refine ev_getI dX1_takeFrom_57 fo_1_66 (by omega) lo_146 rfl ?_
  refine ev_putI dX1_takeFrom_60 fo_1_66 (by omega) lo_1 rfl rfl rfl ?_
  have hX1 : Sh _ (lx_up X 1 5 (X 146 5)) := Sh.upF hX (by rw [lo_1]; decide) (by decide)
  refine ev_aload_n dX1_takeFrom_63 rfl ?_
  refine ev_aload_n dX1_takeFrom_64 rfl ?_
  refine ev_getI dX1_takeFrom_65 fo_1_69 (by omega) lo_146 rfl ?_
  refine ev_putI dX1_takeFrom_68 fo_1_69 (by omega) lo_1 rfl rfl rfl ?_
  have hX2 : Sh _ (lx_up (lx_up X 1 5 (X 146 5)) 1 6 (X 146 6)) := Sh.upF hX1 (by rw [lo_1]; decide) (by decide)
  refine ev_aload_n dX1_takeFrom_71 rfl ?_
  refine ev_aload_n dX1_takeFrom_72 rfl ?_
  refine ev_getI dX1_takeFrom_73 fo_1_46 (by omega) lo_146 rfl ?_
  refine ev_putI dX1_takeFrom_76 fo_1_46 (by omega) lo_1 rfl rfl rfl ?_
  have hX3 : Sh _ (lx_up (lx_up (lx_up X 1 5 (X 146 5)) 1 6 (X 146 6)) 1 7 (X 146 7)) := Sh.upF hX2 (by rw [lo_1]; decide) (by decide)
  refine ev_aload_n dX1_takeFrom_79 rfl ?_
  refine ev_aload_n dX1_takeFrom_80 rfl ?_
  refine ev_getI dX1_takeFrom_81 fo_1_72 (by omega) lo_146 rfl ?_
  refine ev_putZ dX1_takeFrom_84 fo_1_72 (by omega) lo_1 rfl rfl rfl z0 ?_
  have hX4 : Sh _ (lx_up (lx_up (lx_up (lx_up X 1 5 (X 146 5)) 1 6 (X 146 6)) 1 7 (X 146 7)) 1 8 (X 146 8)) := Sh.upF hX3 (by rw [lo_1]; decide) (by decide)
  exact ev_ret dX1_takeFrom_87 rfl hp
theorem bX1_takeFromI_0_0 {g : GG} {d n0 nf : Nat} {post : Option Value → LX → Prop} {n : Nat} {X : LX} (hn : 226 ≤ n) (hX : Sh n X)  (k : Ev g mX1_takeFrom d n0 nf post n 8 [some (.ref 146), some (.ref 1)] [.ref 2, .ref 147] X) : Ev g mX1_takeFrom d n0 nf post n 0 [some (.ref 146), some (.ref 1)] [] X := by
  refine ev_aload_n dX1_takeFrom_0 rfl ?_
  refine ev_getS (q := 147) dX1_takeFrom_1 fo_1_12 (by omega) lo_146 rfl (sh_146_0 hX (by omega)) (by decide) ?_
  refine ev_aload_n dX1_takeFrom_4 rfl ?_
  refine ev_getS (q := 2) dX1_takeFrom_5 fo_1_12 (by omega) lo_1 rfl (sh_1_0 hX (by omega)) (by decide) ?_
  exact k
theorem bX1_takeFromI_11_0 {g : GG} {d n0 nf : Nat} {post : Option Value → LX → Prop} {n : Nat} {X : LX} (hn : 226 ≤ n) (hX : Sh n X)  (k : Ev g mX1_takeFrom d n0 nf post n 19 [some (.ref 146), some (.ref 1)] [.ref 23, .ref 168] X) : Ev g mX1_takeFrom d n0 nf post n 11 [some (.ref 146), some (.ref 1)] [] X := by
  refine ev_aload_n dX1_takeFrom_11 rfl ?_
  refine ev_getS (q := 168) dX1_takeFrom_12 fo_1_21 (by omega) lo_146 rfl (sh_146_1 hX (by omega)) (by decide) ?_
  refine ev_aload_n dX1_takeFrom_15 rfl ?_
  refine ev_getS (q := 23) dX1_takeFrom_16 fo_1_21 (by omega) lo_1 rfl (sh_1_1 hX (by omega)) (by decide) ?_
  exact k
theorem bX1_takeFromI_22_0 {g : GG} {d n0 nf : Nat} {post : Option Value → LX → Prop} {n : Nat} {X : LX} (hn : 226 ≤ n) (hX : Sh n X)  (k : Ev g mX1_takeFrom d n0 nf post n 30 [some (.ref 146), some (.ref 1)] [.ref 37, .ref 182] X) : Ev g mX1_takeFrom d n0 nf post n 22 [some (.ref 146), some (.ref 1)] [] X := by
  refine ev_aload_n dX1_takeFrom_22 rfl ?_
  refine ev_getS (q := 182) dX1_takeFrom_23 fo_1_28 (by omega) lo_146 rfl (sh_146_2 hX (by omega)) (by decide) ?_
  refine ev_aload_n dX1_takeFrom_26 rfl ?_
  refine ev_getS (q := 37) dX1_takeFrom_27 fo_1_28 (by omega) lo_1 rfl (sh_1_2 hX (by omega)) (by decide) ?_
  exact k
theorem bX1_takeFromI_33_0 {g : GG} {d n0 nf : Nat} {post : Option Value → LX → Prop} {n : Nat} {X : LX} (hn : 226 ≤ n) (hX : Sh n X)  (k : Ev g mX1_takeFrom d n0 nf post n 41 [some (.ref 146), some (.ref 1)] [.ref 69, .ref 214] X) : Ev g mX1_takeFrom d n0 nf post n 33 [some (.ref 146), some (.ref 1)] [] X := by
  refine ev_aload_n dX1_takeFrom_33 rfl ?_
  refine ev_getS (q := 214) dX1_takeFrom_34 fo_1_35 (by omega) lo_146 rfl (sh_146_3 hX (by omega)) (by decide) ?_
  refine ev_aload_n dX1_takeFrom_37 rfl ?_
  refine ev_getS (q := 69) dX1_takeFrom_38 fo_1_35 (by omega) lo_1 rfl (sh_1_3 hX (by omega)) (by decide) ?_
  exact k
theorem bX1_takeFromI_44_0 {g : GG} {d n0 nf : Nat} {post : Option Value → LX → Prop} {n : Nat} {X : LX} (hn : 226 ≤ n) (hX : Sh n X)  (k : Ev g mX1_takeFrom d n0 nf post n 52 [some (.ref 146), some (.ref 1)] [.ref 77, .ref 222] X) : Ev g mX1_takeFrom d n0 nf post n 44 [some (.ref 146), some (.ref 1)] [] X := by
  refine ev_aload_n dX1_takeFrom_44 rfl ?_
  refine ev_getS (q := 222) dX1_takeFrom_45 fo_1_42 (by omega) lo_146 rfl (sh_146_4 hX (by omega)) (by decide) ?_
  refine ev_aload_n dX1_takeFrom_48 rfl ?_
  refine ev_getS (q := 77) dX1_takeFrom_49 fo_1_42 (by omega) lo_1 rfl (sh_1_4 hX (by omega)) (by decide) ?_
  exact k
theorem bX1_takeFromI_55_0 {g : GG} {d n0 nf : Nat} {post : Option Value → LX → Prop} {n : Nat} {X : LX} (hn : 226 ≤ nf) (hX : Sh nf X)  (z0 : X 1 8 = 0 ∨ X 1 8 = 1) (hp : post none (lx_up (lx_up (lx_up (lx_up X 146 5 (X 1 5)) 146 6 (X 1 6)) 146 7 (X 1 7)) 146 8 (X 1 8))) : Ev g mX1_takeFrom d n0 nf post nf 55 [some (.ref 146), some (.ref 1)] [] X := by
  refine ev_aload_n dX1_takeFrom_55 rfl ?_
  refine ev_aload_n dX1_takeFrom_56 rfl ?_
  refine ev_getI dX1_takeFrom_57 fo_1_66 (by omega) lo_1 rfl ?_
  refine ev_putI dX1_takeFrom_60 fo_1_66 (by omega) lo_146 rfl rfl rfl ?_
  have hX1 : Sh _ (lx_up X 146 5 (X 1 5)) := Sh.upF hX (by rw [lo_146]; decide) (by decide)
  refine ev_aload_n dX1_takeFrom_63 rfl ?_
  refine ev_aload_n dX1_takeFrom_64 rfl ?_
  refine ev_getI dX1_takeFrom_65 fo_1_69 (by omega) lo_1 rfl ?_
  refine ev_putI dX1_takeFrom_68 fo_1_69 (by omega) lo_146 rfl rfl rfl ?_
  have hX2 : Sh _ (lx_up (lx_up X 146 5 (X 1 5)) 146 6 (X 1 6)) := Sh.upF hX1 (by rw [lo_146]; decide) (by decide)
  refine ev_aload_n dX1_takeFrom_71 rfl ?_
  refine ev_aload_n dX1_takeFrom_72 rfl ?_
  refine ev_getI dX1_takeFrom_73 fo_1_46 (by omega) lo_1 rfl ?_
  refine ev_putI dX1_takeFrom_76 fo_1_46 (by omega) lo_146 rfl rfl rfl ?_
  have hX3 : Sh _ (lx_up (lx_up (lx_up X 146 5 (X 1 5)) 146 6 (X 1 6)) 146 7 (X 1 7)) := Sh.upF hX2 (by rw [lo_146]; decide) (by decide)
  refine ev_aload_n dX1_takeFrom_79 rfl ?_
  refine ev_aload_n dX1_takeFrom_80 rfl ?_
  refine ev_getI dX1_takeFrom_81 fo_1_72 (by omega) lo_1 rfl ?_
  refine ev_putZ dX1_takeFrom_84 fo_1_72 (by omega) lo_146 rfl rfl rfl z0 ?_
  have hX4 : Sh _ (lx_up (lx_up (lx_up (lx_up X 146 5 (X 1 5)) 146 6 (X 1 6)) 146 7 (X 1 7)) 146 8 (X 1 8)) := Sh.upF hX3 (by rw [lo_146]; decide) (by decide)
  exact ev_ret dX1_takeFrom_87 rfl hp
theorem bX1_allergensOf_0_0 {g : GG} {d n0 nf : Nat} {post : Option Value → LX → Prop} {n : Nat} {X : LX} (hn : 146 ≤ n) (hX : Sh n X) {v1 : Int32} (k : Ev g mX1_allergensOf d n0 nf post n 4 [some (.ref 1), some (.int v1), some (.int 0), some (.int 0)] [] X) : Ev g mX1_allergensOf d n0 nf post n 0 [some (.ref 1), some (.int v1), none, none] [] X := by
  refine ev_iconst (v := 0) dX1_allergensOf_0 ki_0 ?_
  refine ev_istore_n dX1_allergensOf_1 (by decide) ?_
  refine ev_iconst (v := 0) dX1_allergensOf_2 ki_0 ?_
  refine ev_istore_n dX1_allergensOf_3 (by decide) ?_
  exact k
theorem bX1_allergensOf_4_0 {g : GG} {d n0 nf : Nat} {post : Option Value → LX → Prop} {n : Nat} {X : LX} (hn : 146 ≤ n) (hX : Sh n X) {v1 : Nat} {v2 : Int32} {v3 : Nat} (c0 : ¬ X 2 0 ≤ nI v3) (b0 : v1 < 10) (b1 : v3 < 14) (c1 : ¬ X (26 + 1 + v1) v3 ≤ 0) (b2 : v3 < 14) (k : Ev g mX1_allergensOf d n0 nf post n 4 [some (.ref 1), some (.int (nI v1)), some (.int (v2 ||| (X 3 v3))), some (.int ((nI v3) + 1))] [] X) : Ev g mX1_allergensOf d n0 nf post n 4 [some (.ref 1), some (.int (nI v1)), some (.int v2), some (.int (nI v3))] [] X := by
  refine ev_iload_n dX1_allergensOf_4 rfl ?_
  refine ev_aload_n dX1_allergensOf_5 rfl ?_
  refine ev_getS (q := 2) dX1_allergensOf_6 fo_1_12 (by omega) lo_1 rfl (sh_1_0 hX (by omega)) (by decide) ?_
  refine ev_getI dX1_allergensOf_9 fo_1_76 (by omega) lo_2 rfl ?_
  refine ev_icmpF (tgt := 47) dX1_allergensOf_12 (by decide) c0 ?_
  refine ev_aload_n dX1_allergensOf_15 rfl ?_
  refine ev_getS (q := 23) dX1_allergensOf_16 fo_1_21 (by omega) lo_1 rfl (sh_1_1 hX (by omega)) (by decide) ?_
  refine ev_getS (q := 26) dX1_allergensOf_19 fo_1_79 (by omega) lo_23 rfl (sh_23_3 hX (by omega)) (by decide) ?_
  refine ev_iload_n dX1_allergensOf_22 rfl ?_
  refine ev_aald (q := 26 + 1 + v1) dX1_allergensOf_23 (by omega) (Or.inl ly_26) rfl b0 (hX.2 26 v1 (by omega) (Or.inl (by rw [ly_26])) (by rw [ly_26]; exact b0)) (by first | omega | (have := LY_l ly_26; have := LY_lt (show (LY 26).1 < 99 by rw [ly_26]; exact (by decide : 2 < 99)); omega)) ?_
  refine ev_iload_n dX1_allergensOf_24 rfl ?_
  refine ev_iald dX1_allergensOf_25 (by have := b0; omega) (lyr_26 _ b0) rfl b1 ?_
  refine ev_ifF (tgt := 41) dX1_allergensOf_26 (by decide) c1 ?_
  refine ev_iload_n dX1_allergensOf_29 rfl ?_
  refine ev_aload_n dX1_allergensOf_30 rfl ?_
  refine ev_getS (q := 2) dX1_allergensOf_31 fo_1_12 (by omega) lo_1 rfl (sh_1_0 hX (by omega)) (by decide) ?_
  refine ev_getS (q := 3) dX1_allergensOf_34 fo_1_83 (by omega) lo_2 rfl (sh_2_1 hX (by omega)) (by decide) ?_
  refine ev_iload_n dX1_allergensOf_37 rfl ?_
  refine ev_iald dX1_allergensOf_38 (by omega) ly_3 rfl b2 ?_
  refine ev_ior dX1_allergensOf_39 ?_
  refine ev_istore_n dX1_allergensOf_40 (by decide) ?_
  refine ev_iinc (v := (nI v3) + 1) dX1_allergensOf_41 rfl (by rw [show Int32.ofInt 1 = 1 from ki_1]) (by decide) ?_
  refine ev_goto (tgt := 4) dX1_allergensOf_44 (by decide) ?_
  exact k
theorem bX1_allergensOf_4_1 {g : GG} {d n0 nf : Nat} {post : Option Value → LX → Prop} {n : Nat} {X : LX} (hn : 146 ≤ n) (hX : Sh n X) {v1 : Nat} {v2 : Int32} {v3 : Nat} (c0 : ¬ X 2 0 ≤ nI v3) (b0 : v1 < 10) (b1 : v3 < 14) (c1 : X (26 + 1 + v1) v3 ≤ 0) (k : Ev g mX1_allergensOf d n0 nf post n 4 [some (.ref 1), some (.int (nI v1)), some (.int v2), some (.int ((nI v3) + 1))] [] X) : Ev g mX1_allergensOf d n0 nf post n 4 [some (.ref 1), some (.int (nI v1)), some (.int v2), some (.int (nI v3))] [] X := by
  refine ev_iload_n dX1_allergensOf_4 rfl ?_
  refine ev_aload_n dX1_allergensOf_5 rfl ?_
  refine ev_getS (q := 2) dX1_allergensOf_6 fo_1_12 (by omega) lo_1 rfl (sh_1_0 hX (by omega)) (by decide) ?_
  refine ev_getI dX1_allergensOf_9 fo_1_76 (by omega) lo_2 rfl ?_
  refine ev_icmpF (tgt := 47) dX1_allergensOf_12 (by decide) c0 ?_
  refine ev_aload_n dX1_allergensOf_15 rfl ?_
  refine ev_getS (q := 23) dX1_allergensOf_16 fo_1_21 (by omega) lo_1 rfl (sh_1_1 hX (by omega)) (by decide) ?_
  refine ev_getS (q := 26) dX1_allergensOf_19 fo_1_79 (by omega) lo_23 rfl (sh_23_3 hX (by omega)) (by decide) ?_
  refine ev_iload_n dX1_allergensOf_22 rfl ?_
  refine ev_aald (q := 26 + 1 + v1) dX1_allergensOf_23 (by omega) (Or.inl ly_26) rfl b0 (hX.2 26 v1 (by omega) (Or.inl (by rw [ly_26])) (by rw [ly_26]; exact b0)) (by first | omega | (have := LY_l ly_26; have := LY_lt (show (LY 26).1 < 99 by rw [ly_26]; exact (by decide : 2 < 99)); omega)) ?_
  refine ev_iload_n dX1_allergensOf_24 rfl ?_
  refine ev_iald dX1_allergensOf_25 (by have := b0; omega) (lyr_26 _ b0) rfl b1 ?_
  refine ev_ifT (tgt := 41) dX1_allergensOf_26 (by decide) c1 ?_
  refine ev_iinc (v := (nI v3) + 1) dX1_allergensOf_41 rfl (by rw [show Int32.ofInt 1 = 1 from ki_1]) (by decide) ?_
  refine ev_goto (tgt := 4) dX1_allergensOf_44 (by decide) ?_
  exact k
theorem bX1_allergensOf_4_2 {g : GG} {d n0 nf : Nat} {post : Option Value → LX → Prop} {n : Nat} {X : LX} (hn : 146 ≤ nf) (hX : Sh nf X) {v1 : Nat} {v2 : Int32} {v3 : Nat} (c0 : X 2 0 ≤ nI v3) (hp : post (some (.int v2)) X) : Ev g mX1_allergensOf d n0 nf post nf 4 [some (.ref 1), some (.int (nI v1)), some (.int v2), some (.int (nI v3))] [] X := by
  refine ev_iload_n dX1_allergensOf_4 rfl ?_
  refine ev_aload_n dX1_allergensOf_5 rfl ?_
  refine ev_getS (q := 2) dX1_allergensOf_6 fo_1_12 (by omega) lo_1 rfl (sh_1_0 hX (by omega)) (by decide) ?_
  refine ev_getI dX1_allergensOf_9 fo_1_76 (by omega) lo_2 rfl ?_
  refine ev_icmpT (tgt := 47) dX1_allergensOf_12 (by decide) c0 ?_
  refine ev_iload_n dX1_allergensOf_47 rfl ?_
  exact ev_iret dX1_allergensOf_48 rfl rfl hp
theorem bX1_costOf_0_0 {g : GG} {d n0 nf : Nat} {post : Option Value → LX → Prop} {n : Nat} {X : LX} (hn : 146 ≤ n) (hX : Sh n X) {v1 : Int32} (k : Ev g mX1_costOf d n0 nf post n 4 [some (.ref 1), some (.int v1), some (.int 0), some (.int 0)] [] X) : Ev g mX1_costOf d n0 nf post n 0 [some (.ref 1), some (.int v1), none, none] [] X := by
  refine ev_iconst (v := 0) dX1_costOf_0 ki_0 ?_
  refine ev_istore_n dX1_costOf_1 (by decide) ?_
  refine ev_iconst (v := 0) dX1_costOf_2 ki_0 ?_
  refine ev_istore_n dX1_costOf_3 (by decide) ?_
  exact k
theorem bX1_costOf_4_0 {g : GG} {d n0 nf : Nat} {post : Option Value → LX → Prop} {n : Nat} {X : LX} (hn : 146 ≤ n) (hX : Sh n X) {v1 : Nat} {v2 : Int32} {v3 : Nat} (c0 : ¬ X 2 0 ≤ nI v3) (b0 : v1 < 10) (b1 : v3 < 14) (b2 : v3 < 14) (k : Ev g mX1_costOf d n0 nf post n 4 [some (.ref 1), some (.int (nI v1)), some (.int (v2 + (((X (26 + 1 + v1) v3) * (X 5 v3)) / 100))), some (.int ((nI v3) + 1))] [] X) : Ev g mX1_costOf d n0 nf post n 4 [some (.ref 1), some (.int (nI v1)), some (.int v2), some (.int (nI v3))] [] X := by
  refine ev_iload_n dX1_costOf_4 rfl ?_
  refine ev_aload_n dX1_costOf_5 rfl ?_
  refine ev_getS (q := 2) dX1_costOf_6 fo_1_12 (by omega) lo_1 rfl (sh_1_0 hX (by omega)) (by decide) ?_
  refine ev_getI dX1_costOf_9 fo_1_76 (by omega) lo_2 rfl ?_
  refine ev_icmpF (tgt := 48) dX1_costOf_12 (by decide) c0 ?_
  refine ev_iload_n dX1_costOf_15 rfl ?_
  refine ev_aload_n dX1_costOf_16 rfl ?_
  refine ev_getS (q := 23) dX1_costOf_17 fo_1_21 (by omega) lo_1 rfl (sh_1_1 hX (by omega)) (by decide) ?_
  refine ev_getS (q := 26) dX1_costOf_20 fo_1_79 (by omega) lo_23 rfl (sh_23_3 hX (by omega)) (by decide) ?_
  refine ev_iload_n dX1_costOf_23 rfl ?_
  refine ev_aald (q := 26 + 1 + v1) dX1_costOf_24 (by omega) (Or.inl ly_26) rfl b0 (hX.2 26 v1 (by omega) (Or.inl (by rw [ly_26])) (by rw [ly_26]; exact b0)) (by first | omega | (have := LY_l ly_26; have := LY_lt (show (LY 26).1 < 99 by rw [ly_26]; exact (by decide : 2 < 99)); omega)) ?_
  refine ev_iload_n dX1_costOf_25 rfl ?_
  refine ev_iald dX1_costOf_26 (by have := b0; omega) (lyr_26 _ b0) rfl b1 ?_
  refine ev_aload_n dX1_costOf_27 rfl ?_
  refine ev_getS (q := 2) dX1_costOf_28 fo_1_12 (by omega) lo_1 rfl (sh_1_0 hX (by omega)) (by decide) ?_
  refine ev_getS (q := 5) dX1_costOf_31 fo_1_87 (by omega) lo_2 rfl (sh_2_3 hX (by omega)) (by decide) ?_
  refine ev_iload_n dX1_costOf_34 rfl ?_
  refine ev_iald dX1_costOf_35 (by omega) ly_5 rfl b2 ?_
  refine ev_imul dX1_costOf_36 ?_
  refine ev_bipush (v := 100) dX1_costOf_37 kb_100 ?_
  refine ev_idiv dX1_costOf_39 (by decide) ?_
  refine ev_iadd dX1_costOf_40 ?_
  refine ev_istore_n dX1_costOf_41 (by decide) ?_
  refine ev_iinc (v := (nI v3) + 1) dX1_costOf_42 rfl (by rw [show Int32.ofInt 1 = 1 from ki_1]) (by decide) ?_
  refine ev_goto (tgt := 4) dX1_costOf_45 (by decide) ?_
  exact k
theorem bX1_costOf_4_1 {g : GG} {d n0 nf : Nat} {post : Option Value → LX → Prop} {n : Nat} {X : LX} (hn : 146 ≤ nf) (hX : Sh nf X) {v1 : Nat} {v2 : Int32} {v3 : Nat} (c0 : X 2 0 ≤ nI v3) (hp : post (some (.int v2)) X) : Ev g mX1_costOf d n0 nf post nf 4 [some (.ref 1), some (.int (nI v1)), some (.int v2), some (.int (nI v3))] [] X := by
  refine ev_iload_n dX1_costOf_4 rfl ?_
  refine ev_aload_n dX1_costOf_5 rfl ?_
  refine ev_getS (q := 2) dX1_costOf_6 fo_1_12 (by omega) lo_1 rfl (sh_1_0 hX (by omega)) (by decide) ?_
  refine ev_getI dX1_costOf_9 fo_1_76 (by omega) lo_2 rfl ?_
  refine ev_icmpT (tgt := 48) dX1_costOf_12 (by decide) c0 ?_
  refine ev_iload_n dX1_costOf_48 rfl ?_
  exact ev_iret dX1_costOf_49 rfl rfl hp
theorem bX1_isMarked_0_0 {g : GG} {d n0 nf : Nat} {post : Option Value → LX → Prop} {n : Nat} {X : LX} (hn : 146 ≤ nf) (hX : Sh nf X) {v1 : Int32} (c0 : X 77 0 = 0) (hp : post (some (.int 0)) X) : Ev g mX1_isMarked d n0 nf post nf 0 [some (.ref 1), some (.int v1)] [] X := by
  refine ev_aload_n dX1_isMarked_0 rfl ?_
  refine ev_getS (q := 77) dX1_isMarked_1 fo_1_42 (by omega) lo_1 rfl (sh_1_4 hX (by omega)) (by decide) ?_
  refine ev_getI dX1_isMarked_4 fo_1_90 (by omega) lo_77 rfl ?_
  refine ev_ifF (tgt := 12) dX1_isMarked_7 (by decide) c0 ?_
  refine ev_iconst (v := 0) dX1_isMarked_10 ki_0 ?_
  exact ev_iret dX1_isMarked_11 rfl (by decide) hp
theorem bX1_isMarked_0_1 {g : GG} {d n0 nf : Nat} {post : Option Value → LX → Prop} {n : Nat} {X : LX} (hn : 146 ≤ n) (hX : Sh n X) {v1 : Int32} (c0 : ¬ X 77 0 = 0) (k : Ev g mX1_isMarked d n0 nf post n 25 [some (.ref 1), some (.int v1)] [.int v1, .ref 23, .int 0, .ref 80] X) : Ev g mX1_isMarked d n0 nf post n 0 [some (.ref 1), some (.int v1)] [] X := by
  refine ev_aload_n dX1_isMarked_0 rfl ?_
  refine ev_getS (q := 77) dX1_isMarked_1 fo_1_42 (by omega) lo_1 rfl (sh_1_4 hX (by omega)) (by decide) ?_
  refine ev_getI dX1_isMarked_4 fo_1_90 (by omega) lo_77 rfl ?_
  refine ev_ifT (tgt := 12) dX1_isMarked_7 (by decide) c0 ?_
  refine ev_aload_n dX1_isMarked_12 rfl ?_
  refine ev_getS (q := 77) dX1_isMarked_13 fo_1_42 (by omega) lo_1 rfl (sh_1_4 hX (by omega)) (by decide) ?_
  refine ev_getS (q := 80) dX1_isMarked_16 fo_1_93 (by omega) lo_77 rfl (sh_77_5 hX (by omega)) (by decide) ?_
  refine ev_iconst (v := 0) dX1_isMarked_19 ki_0 ?_
  refine ev_aload_n dX1_isMarked_20 rfl ?_
  refine ev_getS (q := 23) dX1_isMarked_21 fo_1_21 (by omega) lo_1 rfl (sh_1_1 hX (by omega)) (by decide) ?_
  refine ev_iload_n dX1_isMarked_24 rfl ?_
  exact k
theorem bX1_isMarked_28_0 {g : GG} {d n0 nf : Nat} {post : Option Value → LX → Prop} {n : Nat} {X : LX} (hn : 146 ≤ n) (hX : Sh n X) {v1 : Int32} {s1 : Nat} {s2 : Int32} (b0 : s1 < 5) (k : Ev g mX1_isMarked d n0 nf post n 42 [some (.ref 1), some (.int v1)] [.int v1, .ref 23, .int 1, .ref 80] (lx_up X 80 s1 s2)) : Ev g mX1_isMarked d n0 nf post n 28 [some (.ref 1), some (.int v1)] [.int s2, .int (nI s1), .ref 80] X := by
  refine ev_iast dX1_isMarked_28 (by omega) ly_80 rfl b0 ?_
  have hX1 : Sh _ (lx_up X 80 s1 s2) := Sh.upA hX (by rw [ly_80]; exact (by decide : 0 < 2))
  refine ev_aload_n dX1_isMarked_29 rfl ?_
  refine ev_getS (q := 77) dX1_isMarked_30 fo_1_42 (by omega) lo_1 rfl (sh_1_4 hX1 (by omega)) (by decide) ?_
  refine ev_getS (q := 80) dX1_isMarked_33 fo_1_93 (by omega) lo_77 rfl (sh_77_5 hX1 (by omega)) (by decide) ?_
  refine ev_iconst (v := 1) dX1_isMarked_36 ki_1 ?_
  refine ev_aload_n dX1_isMarked_37 rfl ?_
  refine ev_getS (q := 23) dX1_isMarked_38 fo_1_21 (by omega) lo_1 rfl (sh_1_1 hX1 (by omega)) (by decide) ?_
  refine ev_iload_n dX1_isMarked_41 rfl ?_
  exact k
theorem bX1_isMarked_45_0 {g : GG} {d n0 nf : Nat} {post : Option Value → LX → Prop} {n : Nat} {X : LX} (hn : 146 ≤ n) (hX : Sh n X) {v1 : Int32} {s1 : Nat} {s2 : Int32} (b0 : s1 < 5) (k : Ev g mX1_isMarked d n0 nf post n 56 [some (.ref 1), some (.int v1)] [.int v1, .ref 1, .int 2, .ref 80] (lx_up X 80 s1 s2)) : Ev g mX1_isMarked d n0 nf post n 45 [some (.ref 1), some (.int v1)] [.int s2, .int (nI s1), .ref 80] X := by
  refine ev_iast dX1_isMarked_45 (by omega) ly_80 rfl b0 ?_
  have hX1 : Sh _ (lx_up X 80 s1 s2) := Sh.upA hX (by rw [ly_80]; exact (by decide : 0 < 2))
  refine ev_aload_n dX1_isMarked_46 rfl ?_
  refine ev_getS (q := 77) dX1_isMarked_47 fo_1_42 (by omega) lo_1 rfl (sh_1_4 hX1 (by omega)) (by decide) ?_
  refine ev_getS (q := 80) dX1_isMarked_50 fo_1_93 (by omega) lo_77 rfl (sh_77_5 hX1 (by omega)) (by decide) ?_
  refine ev_iconst (v := 2) dX1_isMarked_53 ki_2 ?_
  refine ev_aload_n dX1_isMarked_54 rfl ?_
  refine ev_iload_n dX1_isMarked_55 rfl ?_
  exact k
theorem bX1_isMarked_59_0 {g : GG} {d n0 nf : Nat} {post : Option Value → LX → Prop} {n : Nat} {X : LX} (hn : 146 ≤ n) (hX : Sh n X) {v1 : Int32} {s1 : Int32} {s2 : Int32} (k : Ev g mX1_isMarked d n0 nf post n 59 [some (.ref 1), some (.int v1)] [.int s2, .int s1, .ref 80] X) : Ev g mX1_isMarked d n0 nf post n 59 [some (.ref 1), some (.int v1)] [.int s2, .int s1, .ref 80] X := by
  exact k
theorem bX1_isMarked_62_0 {g : GG} {d n0 nf : Nat} {post : Option Value → LX → Prop} {n : Nat} {X : LX} (hn : 146 ≤ n) (hX : Sh n X) {v1 : Nat} {s1 : Nat} {s2 : Int32} (b0 : s1 < 5) (b1 : v1 < 10) (k : Ev g mX1_isMarked d n0 nf post n 91 [some (.ref 1), some (.int (nI v1))] [.int (nI v1), .ref 1, .int 4, .ref 80] (lx_up (lx_up X 80 s1 s2) 80 3 (X 24 v1))) : Ev g mX1_isMarked d n0 nf post n 62 [some (.ref 1), some (.int (nI v1))] [.int s2, .int (nI s1), .ref 80] X := by
  refine ev_iast dX1_isMarked_62 (by omega) ly_80 rfl b0 ?_
  have hX1 : Sh _ (lx_up X 80 s1 s2) := Sh.upA hX (by rw [ly_80]; exact (by decide : 0 < 2))
  refine ev_aload_n dX1_isMarked_63 rfl ?_
  refine ev_getS (q := 77) dX1_isMarked_64 fo_1_42 (by omega) lo_1 rfl (sh_1_4 hX1 (by omega)) (by decide) ?_
  refine ev_getS (q := 80) dX1_isMarked_67 fo_1_93 (by omega) lo_77 rfl (sh_77_5 hX1 (by omega)) (by decide) ?_
  refine ev_iconst (v := 3) dX1_isMarked_70 ki_3 ?_
  refine ev_aload_n dX1_isMarked_71 rfl ?_
  refine ev_getS (q := 23) dX1_isMarked_72 fo_1_21 (by omega) lo_1 rfl (sh_1_1 hX1 (by omega)) (by decide) ?_
  refine ev_getS (q := 24) dX1_isMarked_75 fo_1_111 (by omega) lo_23 rfl (sh_23_1 hX1 (by omega)) (by decide) ?_
  refine ev_iload_n dX1_isMarked_78 rfl ?_
  refine ev_iald dX1_isMarked_79 (by omega) ly_24 rfl b1 ?_
  refine ev_iast dX1_isMarked_80 (by omega) ly_80 nIl_3 (by decide) ?_
  have hX2 : Sh _ (lx_up (lx_up X 80 s1 s2) 80 3 (X 24 v1)) := Sh.upA hX1 (by rw [ly_80]; exact (by decide : 0 < 2))
  refine ev_aload_n dX1_isMarked_81 rfl ?_
  refine ev_getS (q := 77) dX1_isMarked_82 fo_1_42 (by omega) lo_1 rfl (sh_1_4 hX2 (by omega)) (by decide) ?_
  refine ev_getS (q := 80) dX1_isMarked_85 fo_1_93 (by omega) lo_77 rfl (sh_77_5 hX2 (by omega)) (by decide) ?_
  refine ev_iconst (v := 4) dX1_isMarked_88 ki_4 ?_
  refine ev_aload_n dX1_isMarked_89 rfl ?_
  refine ev_iload_n dX1_isMarked_90 rfl ?_
  exact k
theorem bX1_isMarked_94_0 {g : GG} {d n0 nf : Nat} {post : Option Value → LX → Prop} {n : Nat} {X : LX} (hn : 146 ≤ n) (hX : Sh n X) {v1 : Int32} {s1 : Nat} {s2 : Int32} (b0 : s1 < 5) (k : Ev g mX1_isMarked d n0 nf post n 99 [some (.ref 1), some (.int v1)] [.ref 77] (lx_up X 80 s1 s2)) : Ev g mX1_isMarked d n0 nf post n 94 [some (.ref 1), some (.int v1)] [.int s2, .int (nI s1), .ref 80] X := by
  refine ev_iast dX1_isMarked_94 (by omega) ly_80 rfl b0 ?_
  have hX1 : Sh _ (lx_up X 80 s1 s2) := Sh.upA hX (by rw [ly_80]; exact (by decide : 0 < 2))
  refine ev_aload_n dX1_isMarked_95 rfl ?_
  refine ev_getS (q := 77) dX1_isMarked_96 fo_1_42 (by omega) lo_1 rfl (sh_1_4 hX1 (by omega)) (by decide) ?_
  exact k
theorem bX1_isMarked_102_0 {g : GG} {d n0 nf : Nat} {post : Option Value → LX → Prop} {n : Nat} {X : LX} (hn : 146 ≤ nf) (hX : Sh nf X) {v1 : Int32} {s0 : Int32} (c0 : ¬ s0 = 0) (hp : post (some (.int 1)) X) : Ev g mX1_isMarked d n0 nf post nf 102 [some (.ref 1), some (.int v1)] [.int s0] X := by
  refine ev_ifF (tgt := 109) dX1_isMarked_102 (by decide) c0 ?_
  refine ev_iconst (v := 1) dX1_isMarked_105 ki_1 ?_
  refine ev_goto (tgt := 110) dX1_isMarked_106 (by decide) ?_
  exact ev_iret dX1_isMarked_110 rfl (by decide) hp
theorem bX1_isMarked_102_1 {g : GG} {d n0 nf : Nat} {post : Option Value → LX → Prop} {n : Nat} {X : LX} (hn : 146 ≤ nf) (hX : Sh nf X) {v1 : Int32} {s0 : Int32} (c0 : s0 = 0) (hp : post (some (.int 0)) X) : Ev g mX1_isMarked d n0 nf post nf 102 [some (.ref 1), some (.int v1)] [.int s0] X := by
  refine ev_ifT (tgt := 109) dX1_isMarked_102 (by decide) c0 ?_
  refine ev_iconst (v := 0) dX1_isMarked_109 ki_0 ?_
  exact ev_iret dX1_isMarked_110 rfl (by decide) hp
theorem bX1_mayEat_0_0 {g : GG} {d n0 nf : Nat} {post : Option Value → LX → Prop} {n : Nat} {X : LX} (hn : 146 ≤ n) (hX : Sh n X) {v1 : Int32} {v2 : Int32} (k : Ev g mX1_mayEat d n0 nf post n 2 [some (.ref 1), some (.int v1), some (.int v2)] [.int v2, .ref 1] X) : Ev g mX1_mayEat d n0 nf post n 0 [some (.ref 1), some (.int v1), some (.int v2)] [] X := by
  refine ev_aload_n dX1_mayEat_0 rfl ?_
  refine ev_iload_n dX1_mayEat_1 rfl ?_
  exact k
theorem bX1_mayEat_5_0 {g : GG} {d n0 nf : Nat} {post : Option Value → LX → Prop} {n : Nat} {X : LX} (hn : 146 ≤ nf) (hX : Sh nf X) {v1 : Nat} {v2 : Int32} {s0 : Int32} (b0 : v1 < 12) (c0 : ¬ s0 &&& (X 38 v1) = 0) (hp : post (some (.int 0)) X) : Ev g mX1_mayEat d n0 nf post nf 5 [some (.ref 1), some (.int (nI v1)), some (.int v2)] [.int s0] X := by
  refine ev_aload_n dX1_mayEat_5 rfl ?_
  refine ev_getS (q := 37) dX1_mayEat_6 fo_1_28 (by omega) lo_1 rfl (sh_1_2 hX (by omega)) (by decide) ?_
  refine ev_getS (q := 38) dX1_mayEat_9 fo_1_121 (by omega) lo_37 rfl (sh_37_1 hX (by omega)) (by decide) ?_
  refine ev_iload_n dX1_mayEat_12 rfl ?_
  refine ev_iald dX1_mayEat_13 (by omega) ly_38 rfl b0 ?_
  refine ev_iand dX1_mayEat_14 ?_
  refine ev_ifF (tgt := 20) dX1_mayEat_15 (by decide) c0 ?_
  refine ev_iconst (v := 0) dX1_mayEat_18 ki_0 ?_
  exact ev_iret dX1_mayEat_19 rfl (by decide) hp
theorem bX1_mayEat_5_1 {g : GG} {d n0 nf : Nat} {post : Option Value → LX → Prop} {n : Nat} {X : LX} (hn : 146 ≤ n) (hX : Sh n X) {v1 : Nat} {v2 : Int32} {s0 : Int32} (b0 : v1 < 12) (c0 : s0 &&& (X 38 v1) = 0) (b1 : v1 < 12) (c1 : ¬ X 40 v1 = 0) (k : Ev g mX1_mayEat d n0 nf post n 38 [some (.ref 1), some (.int (nI v1)), some (.int v2)] [.int 2, .int v2, .ref 23] X) : Ev g mX1_mayEat d n0 nf post n 5 [some (.ref 1), some (.int (nI v1)), some (.int v2)] [.int s0] X := by
  refine ev_aload_n dX1_mayEat_5 rfl ?_
  refine ev_getS (q := 37) dX1_mayEat_6 fo_1_28 (by omega) lo_1 rfl (sh_1_2 hX (by omega)) (by decide) ?_
  refine ev_getS (q := 38) dX1_mayEat_9 fo_1_121 (by omega) lo_37 rfl (sh_37_1 hX (by omega)) (by decide) ?_
  refine ev_iload_n dX1_mayEat_12 rfl ?_
  refine ev_iald dX1_mayEat_13 (by omega) ly_38 rfl b0 ?_
  refine ev_iand dX1_mayEat_14 ?_
  refine ev_ifT (tgt := 20) dX1_mayEat_15 (by decide) c0 ?_
  refine ev_aload_n dX1_mayEat_20 rfl ?_
  refine ev_getS (q := 37) dX1_mayEat_21 fo_1_28 (by omega) lo_1 rfl (sh_1_2 hX (by omega)) (by decide) ?_
  refine ev_getS (q := 40) dX1_mayEat_24 fo_1_124 (by omega) lo_37 rfl (sh_37_3 hX (by omega)) (by decide) ?_
  refine ev_iload_n dX1_mayEat_27 rfl ?_
  refine ev_iald dX1_mayEat_28 (by omega) ly_40 rfl b1 ?_
  refine ev_ifF (tgt := 44) dX1_mayEat_29 (by decide) c1 ?_
  refine ev_aload_n dX1_mayEat_32 rfl ?_
  refine ev_getS (q := 23) dX1_mayEat_33 fo_1_21 (by omega) lo_1 rfl (sh_1_1 hX (by omega)) (by decide) ?_
  refine ev_iload_n dX1_mayEat_36 rfl ?_
  refine ev_iconst (v := 2) dX1_mayEat_37 ki_2 ?_
  exact k
theorem bX1_mayEat_5_2 {g : GG} {d n0 nf : Nat} {post : Option Value → LX → Prop} {n : Nat} {X : LX} (hn : 146 ≤ nf) (hX : Sh nf X) {v1 : Nat} {v2 : Int32} {s0 : Int32} (b0 : v1 < 12) (c0 : s0 &&& (X 38 v1) = 0) (b1 : v1 < 12) (c1 : X 40 v1 = 0) (hp : post (some (.int 1)) X) : Ev g mX1_mayEat d n0 nf post nf 5 [some (.ref 1), some (.int (nI v1)), some (.int v2)] [.int s0] X := by
  refine ev_aload_n dX1_mayEat_5 rfl ?_
  refine ev_getS (q := 37) dX1_mayEat_6 fo_1_28 (by omega) lo_1 rfl (sh_1_2 hX (by omega)) (by decide) ?_
  refine ev_getS (q := 38) dX1_mayEat_9 fo_1_121 (by omega) lo_37 rfl (sh_37_1 hX (by omega)) (by decide) ?_
  refine ev_iload_n dX1_mayEat_12 rfl ?_
  refine ev_iald dX1_mayEat_13 (by omega) ly_38 rfl b0 ?_
  refine ev_iand dX1_mayEat_14 ?_
  refine ev_ifT (tgt := 20) dX1_mayEat_15 (by decide) c0 ?_
  refine ev_aload_n dX1_mayEat_20 rfl ?_
  refine ev_getS (q := 37) dX1_mayEat_21 fo_1_28 (by omega) lo_1 rfl (sh_1_2 hX (by omega)) (by decide) ?_
  refine ev_getS (q := 40) dX1_mayEat_24 fo_1_124 (by omega) lo_37 rfl (sh_37_3 hX (by omega)) (by decide) ?_
  refine ev_iload_n dX1_mayEat_27 rfl ?_
  refine ev_iald dX1_mayEat_28 (by omega) ly_40 rfl b1 ?_
  refine ev_ifT (tgt := 44) dX1_mayEat_29 (by decide) c1 ?_
  refine ev_iconst (v := 1) dX1_mayEat_44 ki_1 ?_
  refine ev_goto (tgt := 49) dX1_mayEat_45 (by decide) ?_
  exact ev_iret dX1_mayEat_49 rfl (by decide) hp
theorem bX1_mayEat_41_0 {g : GG} {d n0 nf : Nat} {post : Option Value → LX → Prop} {n : Nat} {X : LX} (hn : 146 ≤ nf) (hX : Sh nf X) {v1 : Int32} {v2 : Int32} {s0 : Int32} (c0 : ¬ s0 = 0) (hp : post (some (.int 1)) X) : Ev g mX1_mayEat d n0 nf post nf 41 [some (.ref 1), some (.int v1), some (.int v2)] [.int s0] X := by
  refine ev_ifF (tgt := 48) dX1_mayEat_41 (by decide) c0 ?_
  refine ev_iconst (v := 1) dX1_mayEat_44 ki_1 ?_
  refine ev_goto (tgt := 49) dX1_mayEat_45 (by decide) ?_
  exact ev_iret dX1_mayEat_49 rfl (by decide) hp
theorem bX1_mayEat_41_1 {g : GG} {d n0 nf : Nat} {post : Option Value → LX → Prop} {n : Nat} {X : LX} (hn : 146 ≤ nf) (hX : Sh nf X) {v1 : Int32} {v2 : Int32} {s0 : Int32} (c0 : s0 = 0) (hp : post (some (.int 0)) X) : Ev g mX1_mayEat d n0 nf post nf 41 [some (.ref 1), some (.int v1), some (.int v2)] [.int s0] X := by
  refine ev_ifT (tgt := 48) dX1_mayEat_41 (by decide) c0 ?_
  refine ev_iconst (v := 0) dX1_mayEat_48 ki_0 ?_
  exact ev_iret dX1_mayEat_49 rfl (by decide) hp
theorem bX1_mayChoose_0_0 {g : GG} {d n0 nf : Nat} {post : Option Value → LX → Prop} {n : Nat} {X : LX} (hn : 146 ≤ n) (hX : Sh n X) {v1 : Int32} {v2 : Int32} (c0 : ¬ v2 < 0) (c1 : v2 &&& ((X 1 6) ^^^ (-1)) = 0) (k : Ev g mX1_mayChoose d n0 nf post n 16 [some (.ref 1), some (.int v1), some (.int v2), none] [.int v2] X) : Ev g mX1_mayChoose d n0 nf post n 0 [some (.ref 1), some (.int v1), some (.int v2), none] [] X := by
  refine ev_iload_n dX1_mayChoose_0 rfl ?_
  refine ev_ifF (tgt := 23) dX1_mayChoose_1 (by decide) c0 ?_
  refine ev_iload_n dX1_mayChoose_4 rfl ?_
  refine ev_aload_n dX1_mayChoose_5 rfl ?_
  refine ev_getI dX1_mayChoose_6 fo_1_69 (by omega) lo_1 rfl ?_
  refine ev_iconst (v := (-1)) dX1_mayChoose_9 ki_m1 ?_
  refine ev_ixor dX1_mayChoose_10 ?_
  refine ev_iand dX1_mayChoose_11 ?_
  refine ev_ifF (tgt := 23) dX1_mayChoose_12 (by decide) c1 ?_
  refine ev_iload_n dX1_mayChoose_15 rfl ?_
  exact k
theorem bX1_mayChoose_0_1 {g : GG} {d n0 nf : Nat} {post : Option Value → LX → Prop} {n : Nat} {X : LX} (hn : 146 ≤ nf) (hX : Sh nf X) {v1 : Int32} {v2 : Int32} (c0 : ¬ v2 < 0) (c1 : ¬ v2 &&& ((X 1 6) ^^^ (-1)) = 0) (hp : post (some (.int 0)) X) : Ev g mX1_mayChoose d n0 nf post nf 0 [some (.ref 1), some (.int v1), some (.int v2), none] [] X := by
  refine ev_iload_n dX1_mayChoose_0 rfl ?_
  refine ev_ifF (tgt := 23) dX1_mayChoose_1 (by decide) c0 ?_
  refine ev_iload_n dX1_mayChoose_4 rfl ?_
  refine ev_aload_n dX1_mayChoose_5 rfl ?_
  refine ev_getI dX1_mayChoose_6 fo_1_69 (by omega) lo_1 rfl ?_
  refine ev_iconst (v := (-1)) dX1_mayChoose_9 ki_m1 ?_
  refine ev_ixor dX1_mayChoose_10 ?_
  refine ev_iand dX1_mayChoose_11 ?_
  refine ev_ifT (tgt := 23) dX1_mayChoose_12 (by decide) c1 ?_
  refine ev_iconst (v := 0) dX1_mayChoose_23 ki_0 ?_
  exact ev_iret dX1_mayChoose_24 rfl (by decide) hp
theorem bX1_mayChoose_0_2 {g : GG} {d n0 nf : Nat} {post : Option Value → LX → Prop} {n : Nat} {X : LX} (hn : 146 ≤ nf) (hX : Sh nf X) {v1 : Int32} {v2 : Int32} (c0 : v2 < 0) (hp : post (some (.int 0)) X) : Ev g mX1_mayChoose d n0 nf post nf 0 [some (.ref 1), some (.int v1), some (.int v2), none] [] X := by
  refine ev_iload_n dX1_mayChoose_0 rfl ?_
  refine ev_ifT (tgt := 23) dX1_mayChoose_1 (by decide) c0 ?_
  refine ev_iconst (v := 0) dX1_mayChoose_23 ki_0 ?_
  exact ev_iret dX1_mayChoose_24 rfl (by decide) hp
theorem bX1_mayChoose_19_0 {g : GG} {d n0 nf : Nat} {post : Option Value → LX → Prop} {n : Nat} {X : LX} (hn : 146 ≤ nf) (hX : Sh nf X) {v1 : Int32} {v2 : Int32} {s0 : Int32} (c0 : ¬ s0 ≤ 2) (hp : post (some (.int 0)) X) : Ev g mX1_mayChoose d n0 nf post nf 19 [some (.ref 1), some (.int v1), some (.int v2), none] [.int s0] X := by
  refine ev_iconst (v := 2) dX1_mayChoose_19 ki_2 ?_
  refine ev_icmpF (tgt := 25) dX1_mayChoose_20 (by decide) c0 ?_
  refine ev_iconst (v := 0) dX1_mayChoose_23 ki_0 ?_
  exact ev_iret dX1_mayChoose_24 rfl (by decide) hp
theorem bX1_mayChoose_19_1 {g : GG} {d n0 nf : Nat} {post : Option Value → LX → Prop} {n : Nat} {X : LX} (hn : 146 ≤ n) (hX : Sh n X) {v1 : Int32} {v2 : Int32} {s0 : Int32} (c0 : s0 ≤ 2) (k : Ev g mX1_mayChoose d n0 nf post n 27 [some (.ref 1), some (.int v1), some (.int v2), some (.int 0)] [] X) : Ev g mX1_mayChoose d n0 nf post n 19 [some (.ref 1), some (.int v1), some (.int v2), none] [.int s0] X := by
  refine ev_iconst (v := 2) dX1_mayChoose_19 ki_2 ?_
  refine ev_icmpT (tgt := 25) dX1_mayChoose_20 (by decide) c0 ?_
  refine ev_iconst (v := 0) dX1_mayChoose_25 ki_0 ?_
  refine ev_istore_n dX1_mayChoose_26 (by decide) ?_
  exact k
theorem bX1_mayChoose_27_0 {g : GG} {d n0 nf : Nat} {post : Option Value → LX → Prop} {n : Nat} {X : LX} (hn : 146 ≤ n) (hX : Sh n X) {v1 : Int32} {v2 : Int32} {v3 : Int32} (c0 : ¬ X 23 0 ≤ v3) (k : Ev g mX1_mayChoose d n0 nf post n 40 [some (.ref 1), some (.int v1), some (.int v2), some (.int v3)] [.int v3, .int v2] X) : Ev g mX1_mayChoose d n0 nf post n 27 [some (.ref 1), some (.int v1), some (.int v2), some (.int v3)] [] X := by
  refine ev_iload_n dX1_mayChoose_27 rfl ?_
  refine ev_aload_n dX1_mayChoose_28 rfl ?_
  refine ev_getS (q := 23) dX1_mayChoose_29 fo_1_21 (by omega) lo_1 rfl (sh_1_1 hX (by omega)) (by decide) ?_
  refine ev_getI dX1_mayChoose_32 fo_1_131 (by omega) lo_23 rfl ?_
  refine ev_icmpF (tgt := 63) dX1_mayChoose_35 (by decide) c0 ?_
  refine ev_iload_n dX1_mayChoose_38 rfl ?_
  refine ev_iload_n dX1_mayChoose_39 rfl ?_
  exact k
theorem bX1_mayChoose_27_1 {g : GG} {d n0 nf : Nat} {post : Option Value → LX → Prop} {n : Nat} {X : LX} (hn : 146 ≤ nf) (hX : Sh nf X) {v1 : Int32} {v2 : Int32} {v3 : Int32} (c0 : X 23 0 ≤ v3) (hp : post (some (.int 1)) X) : Ev g mX1_mayChoose d n0 nf post nf 27 [some (.ref 1), some (.int v1), some (.int v2), some (.int v3)] [] X := by
  refine ev_iload_n dX1_mayChoose_27 rfl ?_
  refine ev_aload_n dX1_mayChoose_28 rfl ?_
  refine ev_getS (q := 23) dX1_mayChoose_29 fo_1_21 (by omega) lo_1 rfl (sh_1_1 hX (by omega)) (by decide) ?_
  refine ev_getI dX1_mayChoose_32 fo_1_131 (by omega) lo_23 rfl ?_
  refine ev_icmpT (tgt := 63) dX1_mayChoose_35 (by decide) c0 ?_
  refine ev_iconst (v := 1) dX1_mayChoose_63 ki_1 ?_
  exact ev_iret dX1_mayChoose_64 rfl (by decide) hp
theorem bX1_mayChoose_43_0 {g : GG} {d n0 nf : Nat} {post : Option Value → LX → Prop} {n : Nat} {X : LX} (hn : 146 ≤ n) (hX : Sh n X) {v1 : Int32} {v2 : Int32} {v3 : Int32} {s0 : Int32} (c0 : ¬ s0 = 0) (k : Ev g mX1_mayChoose d n0 nf post n 49 [some (.ref 1), some (.int v1), some (.int v2), some (.int v3)] [.int v3, .int v1, .ref 1] X) : Ev g mX1_mayChoose d n0 nf post n 43 [some (.ref 1), some (.int v1), some (.int v2), some (.int v3)] [.int s0] X := by
  refine ev_ifF (tgt := 57) dX1_mayChoose_43 (by decide) c0 ?_
  refine ev_aload_n dX1_mayChoose_46 rfl ?_
  refine ev_iload_n dX1_mayChoose_47 rfl ?_
  refine ev_iload_n dX1_mayChoose_48 rfl ?_
  exact k
theorem bX1_mayChoose_43_1 {g : GG} {d n0 nf : Nat} {post : Option Value → LX → Prop} {n : Nat} {X : LX} (hn : 146 ≤ n) (hX : Sh n X) {v1 : Int32} {v2 : Int32} {v3 : Int32} {s0 : Int32} (c0 : s0 = 0) (k : Ev g mX1_mayChoose d n0 nf post n 27 [some (.ref 1), some (.int v1), some (.int v2), some (.int (v3 + 1))] [] X) : Ev g mX1_mayChoose d n0 nf post n 43 [some (.ref 1), some (.int v1), some (.int v2), some (.int v3)] [.int s0] X := by
  refine ev_ifT (tgt := 57) dX1_mayChoose_43 (by decide) c0 ?_
  refine ev_iinc (v := v3 + 1) dX1_mayChoose_57 rfl (by rw [show Int32.ofInt 1 = 1 from ki_1]) (by decide) ?_
  refine ev_goto (tgt := 27) dX1_mayChoose_60 (by decide) ?_
  exact k
theorem bX1_mayChoose_52_0 {g : GG} {d n0 nf : Nat} {post : Option Value → LX → Prop} {n : Nat} {X : LX} (hn : 146 ≤ nf) (hX : Sh nf X) {v1 : Int32} {v2 : Int32} {v3 : Int32} {s0 : Int32} (c0 : s0 = 0) (hp : post (some (.int 0)) X) : Ev g mX1_mayChoose d n0 nf post nf 52 [some (.ref 1), some (.int v1), some (.int v2), some (.int v3)] [.int s0] X := by
  refine ev_ifF (tgt := 57) dX1_mayChoose_52 (by decide) c0 ?_
  refine ev_iconst (v := 0) dX1_mayChoose_55 ki_0 ?_
  exact ev_iret dX1_mayChoose_56 rfl (by decide) hp
theorem bX1_mayChoose_52_1 {g : GG} {d n0 nf : Nat} {post : Option Value → LX → Prop} {n : Nat} {X : LX} (hn : 146 ≤ n) (hX : Sh n X) {v1 : Int32} {v2 : Int32} {v3 : Int32} {s0 : Int32} (c0 : ¬ s0 = 0) (k : Ev g mX1_mayChoose d n0 nf post n 27 [some (.ref 1), some (.int v1), some (.int v2), some (.int (v3 + 1))] [] X) : Ev g mX1_mayChoose d n0 nf post n 52 [some (.ref 1), some (.int v1), some (.int v2), some (.int v3)] [.int s0] X := by
  refine ev_ifT (tgt := 57) dX1_mayChoose_52 (by decide) c0 ?_
  refine ev_iinc (v := v3 + 1) dX1_mayChoose_57 rfl (by rw [show Int32.ofInt 1 = 1 from ki_1]) (by decide) ?_
  refine ev_goto (tgt := 27) dX1_mayChoose_60 (by decide) ?_
  exact k
theorem bX1_boxToday_0_0 {g : GG} {d n0 nf : Nat} {post : Option Value → LX → Prop} {n : Nat} {X : LX} (hn : 146 ≤ nf) (hX : Sh nf X) {v1 : Nat} {j1 : Nat} (c0 : ¬ X 1 8 = 0) (b0 : v1 < 12) (hj1 : X 1 5 = nI j1) (b1 : j1 < 100) (hp : post (some (.int (X (56 + 1 + v1) j1))) X) : Ev g mX1_boxToday d n0 nf post nf 0 [some (.ref 1), some (.int (nI v1)), none, none, none] [] X := by
  refine ev_aload_n dX1_boxToday_0 rfl ?_
  refine ev_getI dX1_boxToday_1 fo_1_72 (by omega) lo_1 rfl ?_
  refine ev_ifF (tgt := 22) dX1_boxToday_4 (by decide) c0 ?_
  refine ev_aload_n dX1_boxToday_7 rfl ?_
  refine ev_getS (q := 37) dX1_boxToday_8 fo_1_28 (by omega) lo_1 rfl (sh_1_2 hX (by omega)) (by decide) ?_
  refine ev_getS (q := 56) dX1_boxToday_11 fo_1_138 (by omega) lo_37 rfl (sh_37_7 hX (by omega)) (by decide) ?_
  refine ev_iload_n dX1_boxToday_14 rfl ?_
  refine ev_aald (q := 56 + 1 + v1) dX1_boxToday_15 (by omega) (Or.inl ly_56) rfl b0 (hX.2 56 v1 (by omega) (Or.inl (by rw [ly_56])) (by rw [ly_56]; exact b0)) (by first | omega | (have := LY_l ly_56; have := LY_lt (show (LY 56).1 < 99 by rw [ly_56]; exact (by decide : 2 < 99)); omega)) ?_
  refine ev_aload_n dX1_boxToday_16 rfl ?_
  refine ev_getI dX1_boxToday_17 fo_1_66 (by omega) lo_1 rfl ?_
  refine ev_iald dX1_boxToday_20 (by have := b0; omega) (lyr_56 _ b0) hj1 b1 ?_
  exact ev_iret dX1_boxToday_21 rfl rfl hp
theorem bX1_boxToday_0_1 {g : GG} {d n0 nf : Nat} {post : Option Value → LX → Prop} {n : Nat} {X : LX} (hn : 146 ≤ nf) (hX : Sh nf X) {v1 : Nat} (c0 : X 1 8 = 0) (b0 : v1 < 12) (c1 : X 42 v1 = (-1)) (hp : post (some (.int 0)) X) : Ev g mX1_boxToday d n0 nf post nf 0 [some (.ref 1), some (.int (nI v1)), none, none, none] [] X := by
  refine ev_aload_n dX1_boxToday_0 rfl ?_
  refine ev_getI dX1_boxToday_1 fo_1_72 (by omega) lo_1 rfl ?_
  refine ev_ifT (tgt := 22) dX1_boxToday_4 (by decide) c0 ?_
  refine ev_aload_n dX1_boxToday_22 rfl ?_
  refine ev_getS (q := 37) dX1_boxToday_23 fo_1_28 (by omega) lo_1 rfl (sh_1_2 hX (by omega)) (by decide) ?_
  refine ev_getS (q := 42) dX1_boxToday_26 fo_1_141 (by omega) lo_37 rfl (sh_37_5 hX (by omega)) (by decide) ?_
  refine ev_iload_n dX1_boxToday_29 rfl ?_
  refine ev_iald dX1_boxToday_30 (by omega) ly_42 rfl b0 ?_
  refine ev_istore_n dX1_boxToday_31 (by decide) ?_
  refine ev_iload_n dX1_boxToday_32 rfl ?_
  refine ev_iconst (v := (-1)) dX1_boxToday_33 ki_m1 ?_
  refine ev_icmpF (tgt := 39) dX1_boxToday_34 (by decide) c1 ?_
  refine ev_iconst (v := 0) dX1_boxToday_37 ki_0 ?_
  exact ev_iret dX1_boxToday_38 rfl rfl hp
theorem bX1_boxToday_0_2 {g : GG} {d n0 nf : Nat} {post : Option Value → LX → Prop} {n : Nat} {X : LX} (hn : 146 ≤ n) (hX : Sh n X) {v1 : Nat} (c0 : X 1 8 = 0) (b0 : v1 < 12) (c1 : ¬ X 42 v1 = (-1)) (k : Ev g mX1_boxToday d n0 nf post n 42 [some (.ref 1), some (.int (nI v1)), some (.int (X 42 v1)), some (.int (X 42 v1)), none] [.int (X 42 v1)] X) : Ev g mX1_boxToday d n0 nf post n 0 [some (.ref 1), some (.int (nI v1)), none, none, none] [] X := by
  refine ev_aload_n dX1_boxToday_0 rfl ?_
  refine ev_getI dX1_boxToday_1 fo_1_72 (by omega) lo_1 rfl ?_
  refine ev_ifT (tgt := 22) dX1_boxToday_4 (by decide) c0 ?_
  refine ev_aload_n dX1_boxToday_22 rfl ?_
  refine ev_getS (q := 37) dX1_boxToday_23 fo_1_28 (by omega) lo_1 rfl (sh_1_2 hX (by omega)) (by decide) ?_
  refine ev_getS (q := 42) dX1_boxToday_26 fo_1_141 (by omega) lo_37 rfl (sh_37_5 hX (by omega)) (by decide) ?_
  refine ev_iload_n dX1_boxToday_29 rfl ?_
  refine ev_iald dX1_boxToday_30 (by omega) ly_42 rfl b0 ?_
  refine ev_istore_n dX1_boxToday_31 (by decide) ?_
  refine ev_iload_n dX1_boxToday_32 rfl ?_
  refine ev_iconst (v := (-1)) dX1_boxToday_33 ki_m1 ?_
  refine ev_icmpT (tgt := 39) dX1_boxToday_34 (by decide) c1 ?_
  refine ev_iload_n dX1_boxToday_39 rfl ?_
  refine ev_istore_n dX1_boxToday_40 (by decide) ?_
  refine ev_iload_n dX1_boxToday_41 rfl ?_
  exact k
theorem bX1_boxToday_45_0 {g : GG} {d n0 nf : Nat} {post : Option Value → LX → Prop} {n : Nat} {X : LX} (hn : 146 ≤ n) (hX : Sh n X) {v1 : Int32} {v2 : Int32} {v3 : Int32} {s0 : Int32} (k : Ev g mX1_boxToday d n0 nf post n 47 [some (.ref 1), some (.int v1), some (.int v2), some (.int v3), some (.int s0)] [] X) : Ev g mX1_boxToday d n0 nf post n 45 [some (.ref 1), some (.int v1), some (.int v2), some (.int v3), none] [.int s0] X := by
  refine ev_istore dX1_boxToday_45 (by decide) ?_
  exact k
theorem bX1_boxToday_47_0 {g : GG} {d n0 nf : Nat} {post : Option Value → LX → Prop} {n : Nat} {X : LX} (hn : 146 ≤ n) (hX : Sh n X) {v1 : Int32} {v2 : Int32} {v3 : Int32} {v4 : Int32} (c0 : ¬ 2 ≤ v4) (k : Ev g mX1_boxToday d n0 nf post n 57 [some (.ref 1), some (.int v1), some (.int v2), some (.int v3), some (.int v4)] [.int v3, .int v1, .ref 1, .int v3] X) : Ev g mX1_boxToday d n0 nf post n 47 [some (.ref 1), some (.int v1), some (.int v2), some (.int v3), some (.int v4)] [] X := by
  refine ev_iload dX1_boxToday_47 rfl ?_
  refine ev_iconst (v := 2) dX1_boxToday_49 ki_2 ?_
  refine ev_icmpF (tgt := 68) dX1_boxToday_50 (by decide) c0 ?_
  refine ev_iload_n dX1_boxToday_53 rfl ?_
  refine ev_aload_n dX1_boxToday_54 rfl ?_
  refine ev_iload_n dX1_boxToday_55 rfl ?_
  refine ev_iload_n dX1_boxToday_56 rfl ?_
  exact k
theorem bX1_boxToday_47_1 {g : GG} {d n0 nf : Nat} {post : Option Value → LX → Prop} {n : Nat} {X : LX} (hn : 146 ≤ nf) (hX : Sh nf X) {v1 : Int32} {v2 : Int32} {v3 : Int32} {v4 : Int32} (c0 : 2 ≤ v4) (hp : post (some (.int v3)) X) : Ev g mX1_boxToday d n0 nf post nf 47 [some (.ref 1), some (.int v1), some (.int v2), some (.int v3), some (.int v4)] [] X := by
  refine ev_iload dX1_boxToday_47 rfl ?_
  refine ev_iconst (v := 2) dX1_boxToday_49 ki_2 ?_
  refine ev_icmpT (tgt := 68) dX1_boxToday_50 (by decide) c0 ?_
  refine ev_iload_n dX1_boxToday_68 rfl ?_
  exact ev_iret dX1_boxToday_69 rfl rfl hp
theorem bX1_boxToday_60_0 {g : GG} {d n0 nf : Nat} {post : Option Value → LX → Prop} {n : Nat} {X : LX} (hn : 146 ≤ n) (hX : Sh n X) {v1 : Int32} {v2 : Int32} {v3 : Int32} {v4 : Int32} {s0 : Int32} {s1 : Int32} (k : Ev g mX1_boxToday d n0 nf post n 47 [some (.ref 1), some (.int v1), some (.int v2), some (.int (s0 ||| s1)), some (.int (v4 + 1))] [] X) : Ev g mX1_boxToday d n0 nf post n 60 [some (.ref 1), some (.int v1), some (.int v2), some (.int v3), some (.int v4)] [.int s1, .int s0] X := by
  refine ev_ior dX1_boxToday_60 ?_
  refine ev_istore_n dX1_boxToday_61 (by decide) ?_
  refine ev_iinc (v := v4 + 1) dX1_boxToday_62 rfl (by rw [show Int32.ofInt 1 = 1 from ki_1]) (by decide) ?_
  refine ev_goto (tgt := 47) dX1_boxToday_65 (by decide) ?_
  exact k
theorem bX1_guess_0_0 {g : GG} {d n0 nf : Nat} {post : Option Value → LX → Prop} {n : Nat} {X : LX} (hn : 146 ≤ n) (hX : Sh n X) {v1 : Nat} {v2 : Int32} {j1 : Nat} (c0 : ¬ X 1 5 ≤ 0) (b0 : v1 < 12) (hj1 : (X 1 5) - 1 = nI j1) (b1 : j1 < 100) (k : Ev g mX1_guess d n0 nf post n 37 [some (.ref 1), some (.int (nI v1)), some (.int v2), some (.int (X (56 + 1 + v1) j1)), some (.int (-1)), some (.int 0), some (.int 0), none] [] X) : Ev g mX1_guess d n0 nf post n 0 [some (.ref 1), some (.int (nI v1)), some (.int v2), none, none, none, none, none] [] X := by
  refine ev_aload_n dX1_guess_0 rfl ?_
  refine ev_getI dX1_guess_1 fo_1_66 (by omega) lo_1 rfl ?_
  refine ev_ifF (tgt := 26) dX1_guess_4 (by decide) c0 ?_
  refine ev_aload_n dX1_guess_7 rfl ?_
  refine ev_getS (q := 37) dX1_guess_8 fo_1_28 (by omega) lo_1 rfl (sh_1_2 hX (by omega)) (by decide) ?_
  refine ev_getS (q := 56) dX1_guess_11 fo_1_138 (by omega) lo_37 rfl (sh_37_7 hX (by omega)) (by decide) ?_
  refine ev_iload_n dX1_guess_14 rfl ?_
  refine ev_aald (q := 56 + 1 + v1) dX1_guess_15 (by omega) (Or.inl ly_56) rfl b0 (hX.2 56 v1 (by omega) (Or.inl (by rw [ly_56])) (by rw [ly_56]; exact b0)) (by first | omega | (have := LY_l ly_56; have := LY_lt (show (LY 56).1 < 99 by rw [ly_56]; exact (by decide : 2 < 99)); omega)) ?_
  refine ev_aload_n dX1_guess_16 rfl ?_
  refine ev_getI dX1_guess_17 fo_1_66 (by omega) lo_1 rfl ?_
  refine ev_iconst (v := 1) dX1_guess_20 ki_1 ?_
  refine ev_isub dX1_guess_21 ?_
  refine ev_iald dX1_guess_22 (by have := b0; omega) (lyr_56 _ b0) hj1 b1 ?_
  refine ev_goto (tgt := 27) dX1_guess_23 (by decide) ?_
  refine ev_istore_n dX1_guess_27 (by decide) ?_
  refine ev_iconst (v := (-1)) dX1_guess_28 ki_m1 ?_
  refine ev_istore dX1_guess_29 (by decide) ?_
  refine ev_iconst (v := 0) dX1_guess_31 ki_0 ?_
  refine ev_istore dX1_guess_32 (by decide) ?_
  refine ev_iconst (v := 0) dX1_guess_34 ki_0 ?_
  refine ev_istore dX1_guess_35 (by decide) ?_
  exact k
theorem bX1_guess_0_1 {g : GG} {d n0 nf : Nat} {post : Option Value → LX → Prop} {n : Nat} {X : LX} (hn : 146 ≤ n) (hX : Sh n X) {v1 : Nat} {v2 : Int32} (c0 : X 1 5 ≤ 0) (k : Ev g mX1_guess d n0 nf post n 37 [some (.ref 1), some (.int (nI v1)), some (.int v2), some (.int 0), some (.int (-1)), some (.int 0), some (.int 0), none] [] X) : Ev g mX1_guess d n0 nf post n 0 [some (.ref 1), some (.int (nI v1)), some (.int v2), none, none, none, none, none] [] X := by
  refine ev_aload_n dX1_guess_0 rfl ?_
  refine ev_getI dX1_guess_1 fo_1_66 (by omega) lo_1 rfl ?_
  refine ev_ifT (tgt := 26) dX1_guess_4 (by decide) c0 ?_
  refine ev_iconst (v := 0) dX1_guess_26 ki_0 ?_
  refine ev_istore_n dX1_guess_27 (by decide) ?_
  refine ev_iconst (v := (-1)) dX1_guess_28 ki_m1 ?_
  refine ev_istore dX1_guess_29 (by decide) ?_
  refine ev_iconst (v := 0) dX1_guess_31 ki_0 ?_
  refine ev_istore dX1_guess_32 (by decide) ?_
  refine ev_iconst (v := 0) dX1_guess_34 ki_0 ?_
  refine ev_istore dX1_guess_35 (by decide) ?_
  exact k
theorem bX1_guess_37_0 {g : GG} {d n0 nf : Nat} {post : Option Value → LX → Prop} {n : Nat} {X : LX} (hn : 146 ≤ n) (hX : Sh n X) {v1 : Int32} {v2 : Int32} {v3 : Int32} {v4 : Int32} {v5 : Int32} {v6 : Int32} (c0 : ¬ X 23 0 ≤ v6) (k : Ev g mX1_guess d n0 nf post n 59 [some (.ref 1), some (.int v1), some (.int v2), some (.int v3), some (.int v4), some (.int v5), some (.int v6), none] [.int v6, .int ((X 1 6) &&& (v2 ^^^ (-1)))] X) : Ev g mX1_guess d n0 nf post n 37 [some (.ref 1), some (.int v1), some (.int v2), some (.int v3), some (.int v4), some (.int v5), some (.int v6), none] [] X := by
  refine ev_iload dX1_guess_37 rfl ?_
  refine ev_aload_n dX1_guess_39 rfl ?_
  refine ev_getS (q := 23) dX1_guess_40 fo_1_21 (by omega) lo_1 rfl (sh_1_1 hX (by omega)) (by decide) ?_
  refine ev_getI dX1_guess_43 fo_1_131 (by omega) lo_23 rfl ?_
  refine ev_icmpF (tgt := 131) dX1_guess_46 (by decide) c0 ?_
  refine ev_aload_n dX1_guess_49 rfl ?_
  refine ev_getI dX1_guess_50 fo_1_69 (by omega) lo_1 rfl ?_
  refine ev_iload_n dX1_guess_53 rfl ?_
  refine ev_iconst (v := (-1)) dX1_guess_54 ki_m1 ?_
  refine ev_ixor dX1_guess_55 ?_
  refine ev_iand dX1_guess_56 ?_
  refine ev_iload dX1_guess_57 rfl ?_
  exact k
theorem bX1_guess_37_1 {g : GG} {d n0 nf : Nat} {post : Option Value → LX → Prop} {n : Nat} {X : LX} (hn : 146 ≤ nf) (hX : Sh nf X) {v1 : Int32} {v2 : Int32} {v3 : Int32} {v4 : Int32} {v5 : Int32} {v6 : Int32} (c0 : X 23 0 ≤ v6) (hp : post (some (.int v5)) X) : Ev g mX1_guess d n0 nf post nf 37 [some (.ref 1), some (.int v1), some (.int v2), some (.int v3), some (.int v4), some (.int v5), some (.int v6), none] [] X := by
  refine ev_iload dX1_guess_37 rfl ?_
  refine ev_aload_n dX1_guess_39 rfl ?_
  refine ev_getS (q := 23) dX1_guess_40 fo_1_21 (by omega) lo_1 rfl (sh_1_1 hX (by omega)) (by decide) ?_
  refine ev_getI dX1_guess_43 fo_1_131 (by omega) lo_23 rfl ?_
  refine ev_icmpT (tgt := 131) dX1_guess_46 (by decide) c0 ?_
  refine ev_iload dX1_guess_131 rfl ?_
  exact ev_iret dX1_guess_133 rfl rfl hp
theorem bX1_guess_62_0 {g : GG} {d n0 nf : Nat} {post : Option Value → LX → Prop} {n : Nat} {X : LX} (hn : 146 ≤ n) (hX : Sh n X) {v1 : Int32} {v2 : Int32} {v3 : Int32} {v4 : Int32} {v5 : Int32} {v6 : Int32} {s0 : Int32} (c0 : ¬ s0 = 0) (k : Ev g mX1_guess d n0 nf post n 69 [some (.ref 1), some (.int v1), some (.int v2), some (.int v3), some (.int v4), some (.int v5), some (.int v6), none] [.int v6, .int v1, .ref 1] X) : Ev g mX1_guess d n0 nf post n 62 [some (.ref 1), some (.int v1), some (.int v2), some (.int v3), some (.int v4), some (.int v5), some (.int v6), none] [.int s0] X := by
  refine ev_ifF (tgt := 125) dX1_guess_62 (by decide) c0 ?_
  refine ev_aload_n dX1_guess_65 rfl ?_
  refine ev_iload_n dX1_guess_66 rfl ?_
  refine ev_iload dX1_guess_67 rfl ?_
  exact k
theorem bX1_guess_62_1 {g : GG} {d n0 nf : Nat} {post : Option Value → LX → Prop} {n : Nat} {X : LX} (hn : 146 ≤ n) (hX : Sh n X) {v1 : Int32} {v2 : Int32} {v3 : Int32} {v4 : Int32} {v5 : Int32} {v6 : Int32} {s0 : Int32} (c0 : s0 = 0) (k : Ev g mX1_guess d n0 nf post n 37 [some (.ref 1), some (.int v1), some (.int v2), some (.int v3), some (.int v4), some (.int v5), some (.int (v6 + 1)), none] [] X) : Ev g mX1_guess d n0 nf post n 62 [some (.ref 1), some (.int v1), some (.int v2), some (.int v3), some (.int v4), some (.int v5), some (.int v6), none] [.int s0] X := by
  refine ev_ifT (tgt := 125) dX1_guess_62 (by decide) c0 ?_
  refine ev_iinc (v := v6 + 1) dX1_guess_125 rfl (by rw [show Int32.ofInt 1 = 1 from ki_1]) (by decide) ?_
  refine ev_goto (tgt := 37) dX1_guess_128 (by decide) ?_
  exact k
theorem bX1_guess_72_0 {g : GG} {d n0 nf : Nat} {post : Option Value → LX → Prop} {n : Nat} {X : LX} (hn : 146 ≤ n) (hX : Sh n X) {v1 : Nat} {v2 : Int32} {v3 : Int32} {v4 : Int32} {v5 : Int32} {v6 : Nat} {s0 : Int32} (c0 : s0 = 0) (k : Ev g mX1_guess d n0 nf post n 37 [some (.ref 1), some (.int (nI v1)), some (.int v2), some (.int v3), some (.int v4), some (.int v5), some (.int ((nI v6) + 1)), none] [] X) : Ev g mX1_guess d n0 nf post n 72 [some (.ref 1), some (.int (nI v1)), some (.int v2), some (.int v3), some (.int v4), some (.int v5), some (.int (nI v6)), none] [.int s0] X := by
  refine ev_ifF (tgt := 78) dX1_guess_72 (by decide) c0 ?_
  refine ev_goto (tgt := 125) dX1_guess_75 (by decide) ?_
  refine ev_iinc (v := (nI v6) + 1) dX1_guess_125 rfl (by rw [show Int32.ofInt 1 = 1 from ki_1]) (by decide) ?_
  refine ev_goto (tgt := 37) dX1_guess_128 (by decide) ?_
  exact k
theorem bX1_guess_72_1 {g : GG} {d n0 nf : Nat} {post : Option Value → LX → Prop} {n : Nat} {X : LX} (hn : 146 ≤ n) (hX : Sh n X) {v1 : Nat} {v2 : Int32} {v3 : Int32} {v4 : Int32} {v5 : Int32} {v6 : Nat} {s0 : Int32} (c0 : ¬ s0 = 0) (b0 : v1 < 12) (b1 : v6 < 10) (k : Ev g mX1_guess d n0 nf post n 93 [some (.ref 1), some (.int (nI v1)), some (.int v2), some (.int v3), some (.int v4), some (.int v5), some (.int (nI v6)), none] [.int (nI v6), .int v3, .int (X (43 + 1 + v1) v6)] X) : Ev g mX1_guess d n0 nf post n 72 [some (.ref 1), some (.int (nI v1)), some (.int v2), some (.int v3), some (.int v4), some (.int v5), some (.int (nI v6)), none] [.int s0] X := by
  refine ev_ifT (tgt := 78) dX1_guess_72 (by decide) c0 ?_
  refine ev_aload_n dX1_guess_78 rfl ?_
  refine ev_getS (q := 37) dX1_guess_79 fo_1_28 (by omega) lo_1 rfl (sh_1_2 hX (by omega)) (by decide) ?_
  refine ev_getS (q := 43) dX1_guess_82 fo_1_148 (by omega) lo_37 rfl (sh_37_6 hX (by omega)) (by decide) ?_
  refine ev_iload_n dX1_guess_85 rfl ?_
  refine ev_aald (q := 43 + 1 + v1) dX1_guess_86 (by omega) (Or.inl ly_43) rfl b0 (hX.2 43 v1 (by omega) (Or.inl (by rw [ly_43])) (by rw [ly_43]; exact b0)) (by first | omega | (have := LY_l ly_43; have := LY_lt (show (LY 43).1 < 99 by rw [ly_43]; exact (by decide : 2 < 99)); omega)) ?_
  refine ev_iload dX1_guess_87 rfl ?_
  refine ev_iald dX1_guess_89 (by have := b0; omega) (lyr_43 _ b0) rfl b1 ?_
  refine ev_iload_n dX1_guess_90 rfl ?_
  refine ev_iload dX1_guess_91 rfl ?_
  exact k
theorem bX1_guess_96_0 {g : GG} {d n0 nf : Nat} {post : Option Value → LX → Prop} {n : Nat} {X : LX} (hn : 146 ≤ n) (hX : Sh n X) {v1 : Int32} {v2 : Int32} {v3 : Int32} {v4 : Int32} {v5 : Int32} {v6 : Int32} {s0 : Int32} {s1 : Int32} (c0 : ¬ s1 = 0) (c1 : ¬ s0 + 0 ≤ v4) (k : Ev g mX1_guess d n0 nf post n 37 [some (.ref 1), some (.int v1), some (.int v2), some (.int v3), some (.int (s0 + 0)), some (.int (1 <<< (v6 &&& 31))), some (.int (v6 + 1)), some (.int (s0 + 0))] [] X) : Ev g mX1_guess d n0 nf post n 96 [some (.ref 1), some (.int v1), some (.int v2), some (.int v3), some (.int v4), some (.int v5), some (.int v6), none] [.int s1, .int s0] X := by
  refine ev_ifF (tgt := 103) dX1_guess_96 (by decide) c0 ?_
  refine ev_iconst (v := 0) dX1_guess_99 ki_0 ?_
  refine ev_goto (tgt := 105) dX1_guess_100 (by decide) ?_
  refine ev_iadd dX1_guess_105 ?_
  refine ev_istore dX1_guess_106 (by decide) ?_
  refine ev_iload dX1_guess_108 rfl ?_
  refine ev_iload dX1_guess_110 rfl ?_
  refine ev_icmpF (tgt := 125) dX1_guess_112 (by decide) c1 ?_
  refine ev_iload dX1_guess_115 rfl ?_
  refine ev_istore dX1_guess_117 (by decide) ?_
  refine ev_iconst (v := 1) dX1_guess_119 ki_1 ?_
  refine ev_iload dX1_guess_120 rfl ?_
  refine ev_ishl dX1_guess_122 ?_
  refine ev_istore dX1_guess_123 (by decide) ?_
  refine ev_iinc (v := v6 + 1) dX1_guess_125 rfl (by rw [show Int32.ofInt 1 = 1 from ki_1]) (by decide) ?_
  refine ev_goto (tgt := 37) dX1_guess_128 (by decide) ?_
  exact k
theorem bX1_guess_96_1 {g : GG} {d n0 nf : Nat} {post : Option Value → LX → Prop} {n : Nat} {X : LX} (hn : 146 ≤ n) (hX : Sh n X) {v1 : Int32} {v2 : Int32} {v3 : Int32} {v4 : Int32} {v5 : Int32} {v6 : Int32} {s0 : Int32} {s1 : Int32} (c0 : ¬ s1 = 0) (c1 : s0 + 0 ≤ v4) (k : Ev g mX1_guess d n0 nf post n 37 [some (.ref 1), some (.int v1), some (.int v2), some (.int v3), some (.int v4), some (.int v5), some (.int (v6 + 1)), some (.int (s0 + 0))] [] X) : Ev g mX1_guess d n0 nf post n 96 [some (.ref 1), some (.int v1), some (.int v2), some (.int v3), some (.int v4), some (.int v5), some (.int v6), none] [.int s1, .int s0] X := by
  refine ev_ifF (tgt := 103) dX1_guess_96 (by decide) c0 ?_
  refine ev_iconst (v := 0) dX1_guess_99 ki_0 ?_
  refine ev_goto (tgt := 105) dX1_guess_100 (by decide) ?_
  refine ev_iadd dX1_guess_105 ?_
  refine ev_istore dX1_guess_106 (by decide) ?_
  refine ev_iload dX1_guess_108 rfl ?_
  refine ev_iload dX1_guess_110 rfl ?_
  refine ev_icmpT (tgt := 125) dX1_guess_112 (by decide) c1 ?_
  refine ev_iinc (v := v6 + 1) dX1_guess_125 rfl (by rw [show Int32.ofInt 1 = 1 from ki_1]) (by decide) ?_
  refine ev_goto (tgt := 37) dX1_guess_128 (by decide) ?_
  exact k
theorem bX1_guess_96_2 {g : GG} {d n0 nf : Nat} {post : Option Value → LX → Prop} {n : Nat} {X : LX} (hn : 146 ≤ n) (hX : Sh n X) {v1 : Int32} {v2 : Int32} {v3 : Int32} {v4 : Int32} {v5 : Int32} {v6 : Int32} {s0 : Int32} {s1 : Int32} (c0 : s1 = 0) (c1 : ¬ s0 + 10 ≤ v4) (k : Ev g mX1_guess d n0 nf post n 37 [some (.ref 1), some (.int v1), some (.int v2), some (.int v3), some (.int (s0 + 10)), some (.int (1 <<< (v6 &&& 31))), some (.int (v6 + 1)), some (.int (s0 + 10))] [] X) : Ev g mX1_guess d n0 nf post n 96 [some (.ref 1), some (.int v1), some (.int v2), some (.int v3), some (.int v4), some (.int v5), some (.int v6), none] [.int s1, .int s0] X := by
  refine ev_ifT (tgt := 103) dX1_guess_96 (by decide) c0 ?_
  refine ev_bipush (v := 10) dX1_guess_103 kb_10 ?_
  refine ev_iadd dX1_guess_105 ?_
  refine ev_istore dX1_guess_106 (by decide) ?_
  refine ev_iload dX1_guess_108 rfl ?_
  refine ev_iload dX1_guess_110 rfl ?_
  refine ev_icmpF (tgt := 125) dX1_guess_112 (by decide) c1 ?_
  refine ev_iload dX1_guess_115 rfl ?_
  refine ev_istore dX1_guess_117 (by decide) ?_
  refine ev_iconst (v := 1) dX1_guess_119 ki_1 ?_
  refine ev_iload dX1_guess_120 rfl ?_
  refine ev_ishl dX1_guess_122 ?_
  refine ev_istore dX1_guess_123 (by decide) ?_
  refine ev_iinc (v := v6 + 1) dX1_guess_125 rfl (by rw [show Int32.ofInt 1 = 1 from ki_1]) (by decide) ?_
  refine ev_goto (tgt := 37) dX1_guess_128 (by decide) ?_
  exact k
theorem bX1_guess_96_3 {g : GG} {d n0 nf : Nat} {post : Option Value → LX → Prop} {n : Nat} {X : LX} (hn : 146 ≤ n) (hX : Sh n X) {v1 : Int32} {v2 : Int32} {v3 : Int32} {v4 : Int32} {v5 : Int32} {v6 : Int32} {s0 : Int32} {s1 : Int32} (c0 : s1 = 0) (c1 : s0 + 10 ≤ v4) (k : Ev g mX1_guess d n0 nf post n 37 [some (.ref 1), some (.int v1), some (.int v2), some (.int v3), some (.int v4), some (.int v5), some (.int (v6 + 1)), some (.int (s0 + 10))] [] X) : Ev g mX1_guess d n0 nf post n 96 [some (.ref 1), some (.int v1), some (.int v2), some (.int v3), some (.int v4), some (.int v5), some (.int v6), none] [.int s1, .int s0] X := by
  refine ev_ifT (tgt := 103) dX1_guess_96 (by decide) c0 ?_
  refine ev_bipush (v := 10) dX1_guess_103 kb_10 ?_
  refine ev_iadd dX1_guess_105 ?_
  refine ev_istore dX1_guess_106 (by decide) ?_
  refine ev_iload dX1_guess_108 rfl ?_
  refine ev_iload dX1_guess_110 rfl ?_
  refine ev_icmpT (tgt := 125) dX1_guess_112 (by decide) c1 ?_
  refine ev_iinc (v := v6 + 1) dX1_guess_125 rfl (by rw [show Int32.ofInt 1 = 1 from ki_1]) (by decide) ?_
  refine ev_goto (tgt := 37) dX1_guess_128 (by decide) ?_
  exact k
theorem bX1_iceOf_0_0 {g : GG} {d n0 nf : Nat} {post : Option Value → LX → Prop} {n : Nat} {X : LX} (hn : 146 ≤ n) (hX : Sh n X) {v1 : Int32} (k : Ev g mX1_iceOf d n0 nf post n 2 [some (.ref 1), some (.int v1), none, none, none, none] [.int v1, .ref 1] X) : Ev g mX1_iceOf d n0 nf post n 0 [some (.ref 1), some (.int v1), none, none, none, none] [] X := by
  refine ev_aload_n dX1_iceOf_0 rfl ?_
  refine ev_iload_n dX1_iceOf_1 rfl ?_
  exact k
theorem bX1_iceOf_5_0 {g : GG} {d n0 nf : Nat} {post : Option Value → LX → Prop} {n : Nat} {X : LX} (hn : 146 ≤ nf) (hX : Sh nf X) {v1 : Int32} {s0 : Int32} (c0 : ¬ s0 = 0) (c1 : X 77 0 = 0) (hp : post (some (.int 0)) X) : Ev g mX1_iceOf d n0 nf post nf 5 [some (.ref 1), some (.int v1), none, none, none, none] [.int s0] X := by
  refine ev_istore_n dX1_iceOf_5 (by decide) ?_
  refine ev_iload_n dX1_iceOf_6 rfl ?_
  refine ev_ifF (tgt := 20) dX1_iceOf_7 (by decide) c0 ?_
  refine ev_aload_n dX1_iceOf_10 rfl ?_
  refine ev_getS (q := 77) dX1_iceOf_11 fo_1_42 (by omega) lo_1 rfl (sh_1_4 hX (by omega)) (by decide) ?_
  refine ev_getI dX1_iceOf_14 fo_1_90 (by omega) lo_77 rfl ?_
  refine ev_ifF (tgt := 22) dX1_iceOf_17 (by decide) c1 ?_
  refine ev_iconst (v := 0) dX1_iceOf_20 ki_0 ?_
  exact ev_iret dX1_iceOf_21 rfl rfl hp
theorem bX1_iceOf_5_1 {g : GG} {d n0 nf : Nat} {post : Option Value → LX → Prop} {n : Nat} {X : LX} (hn : 146 ≤ n) (hX : Sh n X) {v1 : Int32} {s0 : Int32} (c0 : ¬ s0 = 0) (c1 : ¬ X 77 0 = 0) (k : Ev g mX1_iceOf d n0 nf post n 30 [some (.ref 1), some (.int v1), some (.int s0), some (.int 0), some (.int 0), some (.int 0)] [] X) : Ev g mX1_iceOf d n0 nf post n 5 [some (.ref 1), some (.int v1), none, none, none, none] [.int s0] X := by
  refine ev_istore_n dX1_iceOf_5 (by decide) ?_
  refine ev_iload_n dX1_iceOf_6 rfl ?_
  refine ev_ifF (tgt := 20) dX1_iceOf_7 (by decide) c0 ?_
  refine ev_aload_n dX1_iceOf_10 rfl ?_
  refine ev_getS (q := 77) dX1_iceOf_11 fo_1_42 (by omega) lo_1 rfl (sh_1_4 hX (by omega)) (by decide) ?_
  refine ev_getI dX1_iceOf_14 fo_1_90 (by omega) lo_77 rfl ?_
  refine ev_ifT (tgt := 22) dX1_iceOf_17 (by decide) c1 ?_
  refine ev_iconst (v := 0) dX1_iceOf_22 ki_0 ?_
  refine ev_istore_n dX1_iceOf_23 (by decide) ?_
  refine ev_iconst (v := 0) dX1_iceOf_24 ki_0 ?_
  refine ev_istore dX1_iceOf_25 (by decide) ?_
  refine ev_iconst (v := 0) dX1_iceOf_27 ki_0 ?_
  refine ev_istore dX1_iceOf_28 (by decide) ?_
  exact k
theorem bX1_iceOf_5_2 {g : GG} {d n0 nf : Nat} {post : Option Value → LX → Prop} {n : Nat} {X : LX} (hn : 146 ≤ nf) (hX : Sh nf X) {v1 : Int32} {s0 : Int32} (c0 : s0 = 0) (hp : post (some (.int 0)) X) : Ev g mX1_iceOf d n0 nf post nf 5 [some (.ref 1), some (.int v1), none, none, none, none] [.int s0] X := by
  refine ev_istore_n dX1_iceOf_5 (by decide) ?_
  refine ev_iload_n dX1_iceOf_6 rfl ?_
  refine ev_ifT (tgt := 20) dX1_iceOf_7 (by decide) c0 ?_
  refine ev_iconst (v := 0) dX1_iceOf_20 ki_0 ?_
  exact ev_iret dX1_iceOf_21 rfl rfl hp
theorem bX1_iceOf_30_0 {g : GG} {d n0 nf : Nat} {post : Option Value → LX → Prop} {n : Nat} {X : LX} (hn : 146 ≤ n) (hX : Sh n X) {v1 : Nat} {v2 : Int32} {v3 : Int32} {v4 : Int32} {v5 : Int32} (c0 : ¬ X 23 0 ≤ v5) (k : Ev g mX1_iceOf d n0 nf post n 45 [some (.ref 1), some (.int (nI v1)), some (.int v2), some (.int v3), some (.int v4), some (.int v5)] [.int v5, .int v2] X) : Ev g mX1_iceOf d n0 nf post n 30 [some (.ref 1), some (.int (nI v1)), some (.int v2), some (.int v3), some (.int v4), some (.int v5)] [] X := by
  refine ev_iload dX1_iceOf_30 rfl ?_
  refine ev_aload_n dX1_iceOf_32 rfl ?_
  refine ev_getS (q := 23) dX1_iceOf_33 fo_1_21 (by omega) lo_1 rfl (sh_1_1 hX (by omega)) (by decide) ?_
  refine ev_getI dX1_iceOf_36 fo_1_131 (by omega) lo_23 rfl ?_
  refine ev_icmpF (tgt := 88) dX1_iceOf_39 (by decide) c0 ?_
  refine ev_iload_n dX1_iceOf_42 rfl ?_
  refine ev_iload dX1_iceOf_43 rfl ?_
  exact k
theorem bX1_iceOf_30_1 {g : GG} {d n0 nf : Nat} {post : Option Value → LX → Prop} {n : Nat} {X : LX} (hn : 146 ≤ n) (hX : Sh n X) {v1 : Nat} {v2 : Int32} {v3 : Int32} {v4 : Int32} {v5 : Int32} (c0 : X 23 0 ≤ v5) (b0 : v1 < 12) (b1 : v1 < 12) (k : Ev g mX1_iceOf d n0 nf post n 158 [some (.ref 1), some (.int (nI v1)), some (.int v2), some (.int v3), some (.int v4), some (.int v5)] [.ref 77, .int 9999, .int 0] (lx_up (lx_up (lx_up (lx_up X 80 0 (v3 * (X 39 v1))) 80 1 (X 41 v1)) 80 2 (X 1 7)) 80 3 v4)) : Ev g mX1_iceOf d n0 nf post n 30 [some (.ref 1), some (.int (nI v1)), some (.int v2), some (.int v3), some (.int v4), some (.int v5)] [] X := by
  refine ev_iload dX1_iceOf_30 rfl ?_
  refine ev_aload_n dX1_iceOf_32 rfl ?_
  refine ev_getS (q := 23) dX1_iceOf_33 fo_1_21 (by omega) lo_1 rfl (sh_1_1 hX (by omega)) (by decide) ?_
  refine ev_getI dX1_iceOf_36 fo_1_131 (by omega) lo_23 rfl ?_
  refine ev_icmpT (tgt := 88) dX1_iceOf_39 (by decide) c0 ?_
  refine ev_aload_n dX1_iceOf_88 rfl ?_
  refine ev_getS (q := 77) dX1_iceOf_89 fo_1_42 (by omega) lo_1 rfl (sh_1_4 hX (by omega)) (by decide) ?_
  refine ev_getS (q := 80) dX1_iceOf_92 fo_1_93 (by omega) lo_77 rfl (sh_77_5 hX (by omega)) (by decide) ?_
  refine ev_iconst (v := 0) dX1_iceOf_95 ki_0 ?_
  refine ev_iload_n dX1_iceOf_96 rfl ?_
  refine ev_aload_n dX1_iceOf_97 rfl ?_
  refine ev_getS (q := 37) dX1_iceOf_98 fo_1_28 (by omega) lo_1 rfl (sh_1_2 hX (by omega)) (by decide) ?_
  refine ev_getS (q := 39) dX1_iceOf_101 fo_1_154 (by omega) lo_37 rfl (sh_37_2 hX (by omega)) (by decide) ?_
  refine ev_iload_n dX1_iceOf_104 rfl ?_
  refine ev_iald dX1_iceOf_105 (by omega) ly_39 rfl b0 ?_
  refine ev_imul dX1_iceOf_106 ?_
  refine ev_iast dX1_iceOf_107 (by omega) ly_80 nIl_0 (by decide) ?_
  have hX1 : Sh _ (lx_up X 80 0 (v3 * (X 39 v1))) := Sh.upA hX (by rw [ly_80]; exact (by decide : 0 < 2))
  refine ev_aload_n dX1_iceOf_108 rfl ?_
  refine ev_getS (q := 77) dX1_iceOf_109 fo_1_42 (by omega) lo_1 rfl (sh_1_4 hX1 (by omega)) (by decide) ?_
  refine ev_getS (q := 80) dX1_iceOf_112 fo_1_93 (by omega) lo_77 rfl (sh_77_5 hX1 (by omega)) (by decide) ?_
  refine ev_iconst (v := 1) dX1_iceOf_115 ki_1 ?_
  refine ev_aload_n dX1_iceOf_116 rfl ?_
  refine ev_getS (q := 37) dX1_iceOf_117 fo_1_28 (by omega) lo_1 rfl (sh_1_2 hX1 (by omega)) (by decide) ?_
  refine ev_getS (q := 41) dX1_iceOf_120 fo_1_157 (by omega) lo_37 rfl (sh_37_4 hX1 (by omega)) (by decide) ?_
  refine ev_iload_n dX1_iceOf_123 rfl ?_
  refine ev_iald dX1_iceOf_124 (by omega) ly_41 rfl b1 ?_
  refine ev_iast dX1_iceOf_125 (by omega) ly_80 nIl_1 (by decide) ?_
  have hX2 : Sh _ (lx_up (lx_up X 80 0 (v3 * (X 39 v1))) 80 1 (X 41 v1)) := Sh.upA hX1 (by rw [ly_80]; exact (by decide : 0 < 2))
  refine ev_aload_n dX1_iceOf_126 rfl ?_
  refine ev_getS (q := 77) dX1_iceOf_127 fo_1_42 (by omega) lo_1 rfl (sh_1_4 hX2 (by omega)) (by decide) ?_
  refine ev_getS (q := 80) dX1_iceOf_130 fo_1_93 (by omega) lo_77 rfl (sh_77_5 hX2 (by omega)) (by decide) ?_
  refine ev_iconst (v := 2) dX1_iceOf_133 ki_2 ?_
  refine ev_aload_n dX1_iceOf_134 rfl ?_
  refine ev_getI dX1_iceOf_135 fo_1_46 (by omega) lo_1 rfl ?_
  refine ev_iast dX1_iceOf_138 (by omega) ly_80 nIl_2 (by decide) ?_
  have hX3 : Sh _ (lx_up (lx_up (lx_up X 80 0 (v3 * (X 39 v1))) 80 1 (X 41 v1)) 80 2 (X 1 7)) := Sh.upA hX2 (by rw [ly_80]; exact (by decide : 0 < 2))
  refine ev_aload_n dX1_iceOf_139 rfl ?_
  refine ev_getS (q := 77) dX1_iceOf_140 fo_1_42 (by omega) lo_1 rfl (sh_1_4 hX3 (by omega)) (by decide) ?_
  refine ev_getS (q := 80) dX1_iceOf_143 fo_1_93 (by omega) lo_77 rfl (sh_77_5 hX3 (by omega)) (by decide) ?_
  refine ev_iconst (v := 3) dX1_iceOf_146 ki_3 ?_
  refine ev_iload dX1_iceOf_147 rfl ?_
  refine ev_iast dX1_iceOf_149 (by omega) ly_80 nIl_3 (by decide) ?_
  have hX4 : Sh _ (lx_up (lx_up (lx_up (lx_up X 80 0 (v3 * (X 39 v1))) 80 1 (X 41 v1)) 80 2 (X 1 7)) 80 3 v4) := Sh.upA hX3 (by rw [ly_80]; exact (by decide : 0 < 2))
  refine ev_iconst (v := 0) dX1_iceOf_150 ki_0 ?_
  refine ev_sipush (v := 9999) dX1_iceOf_151 ks_9999 ?_
  refine ev_aload_n dX1_iceOf_154 rfl ?_
  refine ev_getS (q := 77) dX1_iceOf_155 fo_1_42 (by omega) lo_1 rfl (sh_1_4 hX4 (by omega)) (by decide) ?_
  exact k
theorem bX1_iceOf_48_0 {g : GG} {d n0 nf : Nat} {post : Option Value → LX → Prop} {n : Nat} {X : LX} (hn : 146 ≤ n) (hX : Sh n X) {v1 : Int32} {v2 : Int32} {v3 : Int32} {v4 : Int32} {v5 : Int32} {s0 : Int32} (c0 : s0 = 0) (k : Ev g mX1_iceOf d n0 nf post n 30 [some (.ref 1), some (.int v1), some (.int v2), some (.int v3), some (.int v4), some (.int (v5 + 1))] [] X) : Ev g mX1_iceOf d n0 nf post n 48 [some (.ref 1), some (.int v1), some (.int v2), some (.int v3), some (.int v4), some (.int v5)] [.int s0] X := by
  refine ev_ifF (tgt := 54) dX1_iceOf_48 (by decide) c0 ?_
  refine ev_goto (tgt := 82) dX1_iceOf_51 (by decide) ?_
  refine ev_iinc (v := v5 + 1) dX1_iceOf_82 rfl (by rw [show Int32.ofInt 1 = 1 from ki_1]) (by decide) ?_
  refine ev_goto (tgt := 30) dX1_iceOf_85 (by decide) ?_
  exact k
theorem bX1_iceOf_48_1 {g : GG} {d n0 nf : Nat} {post : Option Value → LX → Prop} {n : Nat} {X : LX} (hn : 146 ≤ n) (hX : Sh n X) {v1 : Int32} {v2 : Int32} {v3 : Int32} {v4 : Int32} {v5 : Int32} {s0 : Int32} (c0 : ¬ s0 = 0) (k : Ev g mX1_iceOf d n0 nf post n 61 [some (.ref 1), some (.int v1), some (.int v2), some (.int v3), some (.int v4), some (.int v5)] [.int v5, .ref 23, .int v3] X) : Ev g mX1_iceOf d n0 nf post n 48 [some (.ref 1), some (.int v1), some (.int v2), some (.int v3), some (.int v4), some (.int v5)] [.int s0] X := by
  refine ev_ifT (tgt := 54) dX1_iceOf_48 (by decide) c0 ?_
  refine ev_iload_n dX1_iceOf_54 rfl ?_
  refine ev_aload_n dX1_iceOf_55 rfl ?_
  refine ev_getS (q := 23) dX1_iceOf_56 fo_1_21 (by omega) lo_1 rfl (sh_1_1 hX (by omega)) (by decide) ?_
  refine ev_iload dX1_iceOf_59 rfl ?_
  exact k
theorem bX1_iceOf_64_0 {g : GG} {d n0 nf : Nat} {post : Option Value → LX → Prop} {n : Nat} {X : LX} (hn : 146 ≤ n) (hX : Sh n X) {v1 : Int32} {v2 : Int32} {v3 : Int32} {v4 : Int32} {v5 : Int32} {s0 : Int32} {s1 : Int32} (k : Ev g mX1_iceOf d n0 nf post n 73 [some (.ref 1), some (.int v1), some (.int v2), some (.int (s0 + s1)), some (.int v4), some (.int v5)] [.int 3, .int v5, .ref 23] X) : Ev g mX1_iceOf d n0 nf post n 64 [some (.ref 1), some (.int v1), some (.int v2), some (.int v3), some (.int v4), some (.int v5)] [.int s1, .int s0] X := by
  refine ev_iadd dX1_iceOf_64 ?_
  refine ev_istore_n dX1_iceOf_65 (by decide) ?_
  refine ev_aload_n dX1_iceOf_66 rfl ?_
  refine ev_getS (q := 23) dX1_iceOf_67 fo_1_21 (by omega) lo_1 rfl (sh_1_1 hX (by omega)) (by decide) ?_
  refine ev_iload dX1_iceOf_70 rfl ?_
  refine ev_iconst (v := 3) dX1_iceOf_72 ki_3 ?_
  exact k
theorem bX1_iceOf_76_0 {g : GG} {d n0 nf : Nat} {post : Option Value → LX → Prop} {n : Nat} {X : LX} (hn : 146 ≤ n) (hX : Sh n X) {v1 : Int32} {v2 : Int32} {v3 : Int32} {v4 : Int32} {v5 : Int32} {s0 : Int32} (c0 : ¬ s0 = 0) (k : Ev g mX1_iceOf d n0 nf post n 30 [some (.ref 1), some (.int v1), some (.int v2), some (.int v3), some (.int 1), some (.int (v5 + 1))] [] X) : Ev g mX1_iceOf d n0 nf post n 76 [some (.ref 1), some (.int v1), some (.int v2), some (.int v3), some (.int v4), some (.int v5)] [.int s0] X := by
  refine ev_ifF (tgt := 82) dX1_iceOf_76 (by decide) c0 ?_
  refine ev_iconst (v := 1) dX1_iceOf_79 ki_1 ?_
  refine ev_istore dX1_iceOf_80 (by decide) ?_
  refine ev_iinc (v := v5 + 1) dX1_iceOf_82 rfl (by rw [show Int32.ofInt 1 = 1 from ki_1]) (by decide) ?_
  refine ev_goto (tgt := 30) dX1_iceOf_85 (by decide) ?_
  exact k
theorem bX1_iceOf_76_1 {g : GG} {d n0 nf : Nat} {post : Option Value → LX → Prop} {n : Nat} {X : LX} (hn : 146 ≤ n) (hX : Sh n X) {v1 : Int32} {v2 : Int32} {v3 : Int32} {v4 : Int32} {v5 : Int32} {s0 : Int32} (c0 : s0 = 0) (k : Ev g mX1_iceOf d n0 nf post n 30 [some (.ref 1), some (.int v1), some (.int v2), some (.int v3), some (.int v4), some (.int (v5 + 1))] [] X) : Ev g mX1_iceOf d n0 nf post n 76 [some (.ref 1), some (.int v1), some (.int v2), some (.int v3), some (.int v4), some (.int v5)] [.int s0] X := by
  refine ev_ifT (tgt := 82) dX1_iceOf_76 (by decide) c0 ?_
  refine ev_iinc (v := v5 + 1) dX1_iceOf_82 rfl (by rw [show Int32.ofInt 1 = 1 from ki_1]) (by decide) ?_
  refine ev_goto (tgt := 30) dX1_iceOf_85 (by decide) ?_
  exact k
theorem bX1_iceOf_161_0 {g : GG} {d n0 nf : Nat} {post : Option Value → LX → Prop} {n : Nat} {X : LX} (hn : 146 ≤ n) (hX : Sh n X) {v1 : Int32} {v2 : Int32} {v3 : Int32} {v4 : Int32} {v5 : Int32} {s0 : Int32} {s1 : Int32} {s2 : Int32} (k : Ev g mX1_iceOf d n0 nf post n 161 [some (.ref 1), some (.int v1), some (.int v2), some (.int v3), some (.int v4), some (.int v5)] [.int s2, .int s1, .int s0] X) : Ev g mX1_iceOf d n0 nf post n 161 [some (.ref 1), some (.int v1), some (.int v2), some (.int v3), some (.int v4), some (.int v5)] [.int s2, .int s1, .int s0] X := by
  exact k
theorem bX1_iceOf_164_0 {g : GG} {d n0 nf : Nat} {post : Option Value → LX → Prop} {n : Nat} {X : LX} (hn : 146 ≤ n) (hX : Sh n X) {v1 : Int32} {v2 : Int32} {v3 : Int32} {v4 : Int32} {v5 : Int32} {s0 : Int32} {s1 : Int32} (k : Ev g mX1_iceOf d n0 nf post n 164 [some (.ref 1), some (.int v1), some (.int v2), some (.int v3), some (.int v4), some (.int v5)] [.int s1, .int s0] X) : Ev g mX1_iceOf d n0 nf post n 164 [some (.ref 1), some (.int v1), some (.int v2), some (.int v3), some (.int v4), some (.int v5)] [.int s1, .int s0] X := by
  exact k
theorem bX1_iceOf_167_0 {g : GG} {d n0 nf : Nat} {post : Option Value → LX → Prop} {n : Nat} {X : LX} (hn : 146 ≤ nf) (hX : Sh nf X) {v1 : Int32} {v2 : Int32} {v3 : Int32} {v4 : Int32} {v5 : Int32} {s0 : Int32} (hp : post (some (.int s0)) X) : Ev g mX1_iceOf d n0 nf post nf 167 [some (.ref 1), some (.int v1), some (.int v2), some (.int v3), some (.int v4), some (.int v5)] [.int s0] X := by
  exact ev_iret dX1_iceOf_167 rfl rfl hp
theorem bX1_needOf_0_0 {g : GG} {d n0 nf : Nat} {post : Option Value → LX → Prop} {n : Nat} {X : LX} (hn : 146 ≤ n) (hX : Sh n X) {v1 : Int32} {v2 : Int32} {v3 : Int32} (k : Ev g mX1_needOf d n0 nf post n 6 [some (.ref 1), some (.int v1), some (.int v2), some (.int v3), some (.int 0), some (.int 0)] [] X) : Ev g mX1_needOf d n0 nf post n 0 [some (.ref 1), some (.int v1), some (.int v2), some (.int v3), none, none] [] X := by
  refine ev_iconst (v := 0) dX1_needOf_0 ki_0 ?_
  refine ev_istore dX1_needOf_1 (by decide) ?_
  refine ev_iconst (v := 0) dX1_needOf_3 ki_0 ?_
  refine ev_istore dX1_needOf_4 (by decide) ?_
  exact k
theorem bX1_needOf_6_0 {g : GG} {d n0 nf : Nat} {post : Option Value → LX → Prop} {n : Nat} {X : LX} (hn : 146 ≤ n) (hX : Sh n X) {v1 : Nat} {v2 : Int32} {v3 : Int32} {v4 : Int32} {v5 : Int32} (c0 : ¬ X 23 0 ≤ v5) (k : Ev g mX1_needOf d n0 nf post n 21 [some (.ref 1), some (.int (nI v1)), some (.int v2), some (.int v3), some (.int v4), some (.int v5)] [.int v5, .int v2] X) : Ev g mX1_needOf d n0 nf post n 6 [some (.ref 1), some (.int (nI v1)), some (.int v2), some (.int v3), some (.int v4), some (.int v5)] [] X := by
  refine ev_iload dX1_needOf_6 rfl ?_
  refine ev_aload_n dX1_needOf_8 rfl ?_
  refine ev_getS (q := 23) dX1_needOf_9 fo_1_21 (by omega) lo_1 rfl (sh_1_1 hX (by omega)) (by decide) ?_
  refine ev_getI dX1_needOf_12 fo_1_131 (by omega) lo_23 rfl ?_
  refine ev_icmpF (tgt := 50) dX1_needOf_15 (by decide) c0 ?_
  refine ev_iload_n dX1_needOf_18 rfl ?_
  refine ev_iload dX1_needOf_19 rfl ?_
  exact k
theorem bX1_needOf_6_1 {g : GG} {d n0 nf : Nat} {post : Option Value → LX → Prop} {n : Nat} {X : LX} (hn : 146 ≤ nf) (hX : Sh nf X) {v1 : Nat} {v2 : Int32} {v3 : Int32} {v4 : Int32} {v5 : Int32} (c0 : X 23 0 ≤ v5) (b0 : v1 < 12) (hp : post (some (.int (v4 * (X 39 v1)))) X) : Ev g mX1_needOf d n0 nf post nf 6 [some (.ref 1), some (.int (nI v1)), some (.int v2), some (.int v3), some (.int v4), some (.int v5)] [] X := by
  refine ev_iload dX1_needOf_6 rfl ?_
  refine ev_aload_n dX1_needOf_8 rfl ?_
  refine ev_getS (q := 23) dX1_needOf_9 fo_1_21 (by omega) lo_1 rfl (sh_1_1 hX (by omega)) (by decide) ?_
  refine ev_getI dX1_needOf_12 fo_1_131 (by omega) lo_23 rfl ?_
  refine ev_icmpT (tgt := 50) dX1_needOf_15 (by decide) c0 ?_
  refine ev_iload dX1_needOf_50 rfl ?_
  refine ev_aload_n dX1_needOf_52 rfl ?_
  refine ev_getS (q := 37) dX1_needOf_53 fo_1_28 (by omega) lo_1 rfl (sh_1_2 hX (by omega)) (by decide) ?_
  refine ev_getS (q := 39) dX1_needOf_56 fo_1_154 (by omega) lo_37 rfl (sh_37_2 hX (by omega)) (by decide) ?_
  refine ev_iload_n dX1_needOf_59 rfl ?_
  refine ev_iald dX1_needOf_60 (by omega) ly_39 rfl b0 ?_
  refine ev_imul dX1_needOf_61 ?_
  exact ev_iret dX1_needOf_62 rfl rfl hp
theorem bX1_needOf_24_0 {g : GG} {d n0 nf : Nat} {post : Option Value → LX → Prop} {n : Nat} {X : LX} (hn : 146 ≤ n) (hX : Sh n X) {v1 : Int32} {v2 : Int32} {v3 : Nat} {v4 : Int32} {v5 : Nat} {s0 : Int32} (c0 : ¬ s0 = 0) (b0 : v5 < 10) (b1 : v3 < 14) (k : Ev g mX1_needOf d n0 nf post n 6 [some (.ref 1), some (.int v1), some (.int v2), some (.int (nI v3)), some (.int (v4 + (X (26 + 1 + v5) v3))), some (.int ((nI v5) + 1))] [] X) : Ev g mX1_needOf d n0 nf post n 24 [some (.ref 1), some (.int v1), some (.int v2), some (.int (nI v3)), some (.int v4), some (.int (nI v5))] [.int s0] X := by
  refine ev_ifF (tgt := 44) dX1_needOf_24 (by decide) c0 ?_
  refine ev_iload dX1_needOf_27 rfl ?_
  refine ev_aload_n dX1_needOf_29 rfl ?_
  refine ev_getS (q := 23) dX1_needOf_30 fo_1_21 (by omega) lo_1 rfl (sh_1_1 hX (by omega)) (by decide) ?_
  refine ev_getS (q := 26) dX1_needOf_33 fo_1_79 (by omega) lo_23 rfl (sh_23_3 hX (by omega)) (by decide) ?_
  refine ev_iload dX1_needOf_36 rfl ?_
  refine ev_aald (q := 26 + 1 + v5) dX1_needOf_38 (by omega) (Or.inl ly_26) rfl b0 (hX.2 26 v5 (by omega) (Or.inl (by rw [ly_26])) (by rw [ly_26]; exact b0)) (by first | omega | (have := LY_l ly_26; have := LY_lt (show (LY 26).1 < 99 by rw [ly_26]; exact (by decide : 2 < 99)); omega)) ?_
  refine ev_iload_n dX1_needOf_39 rfl ?_
  refine ev_iald dX1_needOf_40 (by have := b0; omega) (lyr_26 _ b0) rfl b1 ?_
  refine ev_iadd dX1_needOf_41 ?_
  refine ev_istore dX1_needOf_42 (by decide) ?_
  refine ev_iinc (v := (nI v5) + 1) dX1_needOf_44 rfl (by rw [show Int32.ofInt 1 = 1 from ki_1]) (by decide) ?_
  refine ev_goto (tgt := 6) dX1_needOf_47 (by decide) ?_
  exact k
theorem bX1_needOf_24_1 {g : GG} {d n0 nf : Nat} {post : Option Value → LX → Prop} {n : Nat} {X : LX} (hn : 146 ≤ n) (hX : Sh n X) {v1 : Int32} {v2 : Int32} {v3 : Nat} {v4 : Int32} {v5 : Nat} {s0 : Int32} (c0 : s0 = 0) (k : Ev g mX1_needOf d n0 nf post n 6 [some (.ref 1), some (.int v1), some (.int v2), some (.int (nI v3)), some (.int v4), some (.int ((nI v5) + 1))] [] X) : Ev g mX1_needOf d n0 nf post n 24 [some (.ref 1), some (.int v1), some (.int v2), some (.int (nI v3)), some (.int v4), some (.int (nI v5))] [.int s0] X := by
  refine ev_ifT (tgt := 44) dX1_needOf_24 (by decide) c0 ?_
  refine ev_iinc (v := (nI v5) + 1) dX1_needOf_44 rfl (by rw [show Int32.ofInt 1 = 1 from ki_1]) (by decide) ?_
  refine ev_goto (tgt := 6) dX1_needOf_47 (by decide) ?_
  exact k
theorem bX1_needOfAll_0_0 {g : GG} {d n0 nf : Nat} {post : Option Value → LX → Prop} {n : Nat} {X : LX} (hn : 146 ≤ n) (hX : Sh n X) {v1 : Int32} (k : Ev g mX1_needOfAll d n0 nf post n 4 [some (.ref 1), some (.int v1), some (.int 0), some (.int 0)] [] X) : Ev g mX1_needOfAll d n0 nf post n 0 [some (.ref 1), some (.int v1), none, none] [] X := by
  refine ev_iconst (v := 0) dX1_needOfAll_0 ki_0 ?_
  refine ev_istore_n dX1_needOfAll_1 (by decide) ?_
  refine ev_iconst (v := 0) dX1_needOfAll_2 ki_0 ?_
  refine ev_istore_n dX1_needOfAll_3 (by decide) ?_
  exact k
theorem bX1_needOfAll_4_0 {g : GG} {d n0 nf : Nat} {post : Option Value → LX → Prop} {n : Nat} {X : LX} (hn : 146 ≤ n) (hX : Sh n X) {v1 : Int32} {v2 : Int32} {v3 : Int32} (c0 : ¬ X 37 0 ≤ v3) (k : Ev g mX1_needOfAll d n0 nf post n 20 [some (.ref 1), some (.int v1), some (.int v2), some (.int v3)] [.int v3, .ref 1, .int v3, .ref 1, .int v2] X) : Ev g mX1_needOfAll d n0 nf post n 4 [some (.ref 1), some (.int v1), some (.int v2), some (.int v3)] [] X := by
  refine ev_iload_n dX1_needOfAll_4 rfl ?_
  refine ev_aload_n dX1_needOfAll_5 rfl ?_
  refine ev_getS (q := 37) dX1_needOfAll_6 fo_1_28 (by omega) lo_1 rfl (sh_1_2 hX (by omega)) (by decide) ?_
  refine ev_getI dX1_needOfAll_9 fo_1_171 (by omega) lo_37 rfl ?_
  refine ev_icmpF (tgt := 35) dX1_needOfAll_12 (by decide) c0 ?_
  refine ev_iload_n dX1_needOfAll_15 rfl ?_
  refine ev_aload_n dX1_needOfAll_16 rfl ?_
  refine ev_iload_n dX1_needOfAll_17 rfl ?_
  refine ev_aload_n dX1_needOfAll_18 rfl ?_
  refine ev_iload_n dX1_needOfAll_19 rfl ?_
  exact k
theorem bX1_needOfAll_4_1 {g : GG} {d n0 nf : Nat} {post : Option Value → LX → Prop} {n : Nat} {X : LX} (hn : 146 ≤ nf) (hX : Sh nf X) {v1 : Int32} {v2 : Int32} {v3 : Int32} (c0 : X 37 0 ≤ v3) (hp : post (some (.int v2)) X) : Ev g mX1_needOfAll d n0 nf post nf 4 [some (.ref 1), some (.int v1), some (.int v2), some (.int v3)] [] X := by
  refine ev_iload_n dX1_needOfAll_4 rfl ?_
  refine ev_aload_n dX1_needOfAll_5 rfl ?_
  refine ev_getS (q := 37) dX1_needOfAll_6 fo_1_28 (by omega) lo_1 rfl (sh_1_2 hX (by omega)) (by decide) ?_
  refine ev_getI dX1_needOfAll_9 fo_1_171 (by omega) lo_37 rfl ?_
  refine ev_icmpT (tgt := 35) dX1_needOfAll_12 (by decide) c0 ?_
  refine ev_iload_n dX1_needOfAll_35 rfl ?_
  exact ev_iret dX1_needOfAll_36 rfl rfl hp
theorem bX1_needOfAll_23_0 {g : GG} {d n0 nf : Nat} {post : Option Value → LX → Prop} {n : Nat} {X : LX} (hn : 146 ≤ n) (hX : Sh n X) {v1 : Int32} {v2 : Int32} {v3 : Int32} {s0 : Int32} {s2 : Int32} {s3 : Int32} (k : Ev g mX1_needOfAll d n0 nf post n 24 [some (.ref 1), some (.int v1), some (.int v2), some (.int v3)] [.int v1, .int s3, .int s2, .ref 1, .int s0] X) : Ev g mX1_needOfAll d n0 nf post n 23 [some (.ref 1), some (.int v1), some (.int v2), some (.int v3)] [.int s3, .int s2, .ref 1, .int s0] X := by
  refine ev_iload_n dX1_needOfAll_23 rfl ?_
  exact k
theorem bX1_needOfAll_27_0 {g : GG} {d n0 nf : Nat} {post : Option Value → LX → Prop} {n : Nat} {X : LX} (hn : 146 ≤ n) (hX : Sh n X) {v1 : Int32} {v2 : Int32} {v3 : Int32} {s0 : Int32} {s1 : Int32} (k : Ev g mX1_needOfAll d n0 nf post n 4 [some (.ref 1), some (.int v1), some (.int (s0 + s1)), some (.int (v3 + 1))] [] X) : Ev g mX1_needOfAll d n0 nf post n 27 [some (.ref 1), some (.int v1), some (.int v2), some (.int v3)] [.int s1, .int s0] X := by
  refine ev_iadd dX1_needOfAll_27 ?_
  refine ev_istore_n dX1_needOfAll_28 (by decide) ?_
  refine ev_iinc (v := v3 + 1) dX1_needOfAll_29 rfl (by rw [show Int32.ofInt 1 = 1 from ki_1]) (by decide) ?_
  refine ev_goto (tgt := 4) dX1_needOfAll_32 (by decide) ?_
  exact k
theorem bX1_freezeBoxes_0_0 {g : GG} {d n0 nf : Nat} {post : Option Value → LX → Prop} {n : Nat} {X : LX} (hn : 146 ≤ n) (hX : Sh n X)  (k : Ev g mX1_freezeBoxes d n0 nf post n 2 [some (.ref 1), some (.int 0)] [] X) : Ev g mX1_freezeBoxes d n0 nf post n 0 [some (.ref 1), none] [] X := by
  refine ev_iconst (v := 0) dX1_freezeBoxes_0 ki_0 ?_
  refine ev_istore_n dX1_freezeBoxes_1 (by decide) ?_
  exact k
theorem bX1_freezeBoxes_2_0 {g : GG} {d n0 nf : Nat} {post : Option Value → LX → Prop} {n : Nat} {X : LX} (hn : 146 ≤ n) (hX : Sh n X) {v1 : Nat} (c0 : ¬ X 37 0 ≤ nI v1) (b0 : v1 < 12) (k : Ev g mX1_freezeBoxes d n0 nf post n 28 [some (.ref 1), some (.int (nI v1))] [.int (nI v1), .ref 1, .int (X 1 5), .ref (56 + 1 + v1)] X) : Ev g mX1_freezeBoxes d n0 nf post n 2 [some (.ref 1), some (.int (nI v1))] [] X := by
  refine ev_iload_n dX1_freezeBoxes_2 rfl ?_
  refine ev_aload_n dX1_freezeBoxes_3 rfl ?_
  refine ev_getS (q := 37) dX1_freezeBoxes_4 fo_1_28 (by omega) lo_1 rfl (sh_1_2 hX (by omega)) (by decide) ?_
  refine ev_getI dX1_freezeBoxes_7 fo_1_171 (by omega) lo_37 rfl ?_
  refine ev_icmpF (tgt := 38) dX1_freezeBoxes_10 (by decide) c0 ?_
  refine ev_aload_n dX1_freezeBoxes_13 rfl ?_
  refine ev_getS (q := 37) dX1_freezeBoxes_14 fo_1_28 (by omega) lo_1 rfl (sh_1_2 hX (by omega)) (by decide) ?_
  refine ev_getS (q := 56) dX1_freezeBoxes_17 fo_1_138 (by omega) lo_37 rfl (sh_37_7 hX (by omega)) (by decide) ?_
  refine ev_iload_n dX1_freezeBoxes_20 rfl ?_
  refine ev_aald (q := 56 + 1 + v1) dX1_freezeBoxes_21 (by omega) (Or.inl ly_56) rfl b0 (hX.2 56 v1 (by omega) (Or.inl (by rw [ly_56])) (by rw [ly_56]; exact b0)) (by first | omega | (have := LY_l ly_56; have := LY_lt (show (LY 56).1 < 99 by rw [ly_56]; exact (by decide : 2 < 99)); omega)) ?_
  refine ev_aload_n dX1_freezeBoxes_22 rfl ?_
  refine ev_getI dX1_freezeBoxes_23 fo_1_66 (by omega) lo_1 rfl ?_
  refine ev_aload_n dX1_freezeBoxes_26 rfl ?_
  refine ev_iload_n dX1_freezeBoxes_27 rfl ?_
  exact k
theorem bX1_freezeBoxes_2_1 {g : GG} {d n0 nf : Nat} {post : Option Value → LX → Prop} {n : Nat} {X : LX} (hn : 146 ≤ nf) (hX : Sh nf X) {v1 : Nat} (c0 : X 37 0 ≤ nI v1) (hp : post none (lx_up X 1 8 1)) : Ev g mX1_freezeBoxes d n0 nf post nf 2 [some (.ref 1), some (.int (nI v1))] [] X := by
  refine ev_iload_n dX1_freezeBoxes_2 rfl ?_
  refine ev_aload_n dX1_freezeBoxes_3 rfl ?_
  refine ev_getS (q := 37) dX1_freezeBoxes_4 fo_1_28 (by omega) lo_1 rfl (sh_1_2 hX (by omega)) (by decide) ?_
  refine ev_getI dX1_freezeBoxes_7 fo_1_171 (by omega) lo_37 rfl ?_
  refine ev_icmpT (tgt := 38) dX1_freezeBoxes_10 (by decide) c0 ?_
  refine ev_aload_n dX1_freezeBoxes_38 rfl ?_
  refine ev_iconst (v := 1) dX1_freezeBoxes_39 ki_1 ?_
  refine ev_putZ dX1_freezeBoxes_40 fo_1_72 (by omega) lo_1 rfl rfl rfl (by decide) ?_
  have hX1 : Sh _ (lx_up X 1 8 1) := Sh.upF hX (by rw [lo_1]; decide) (by decide)
  exact ev_ret dX1_freezeBoxes_43 rfl hp
theorem bX1_freezeBoxes_31_0 {g : GG} {d n0 nf : Nat} {post : Option Value → LX → Prop} {n : Nat} {X : LX} (hn : 146 ≤ n) (hX : Sh n X) {v1 : Int32} {ws0 : Nat} {s1 : Nat} {s2 : Int32} (bws0 : ws0 < 12) (b0 : s1 < 100) (k : Ev g mX1_freezeBoxes d n0 nf post n 2 [some (.ref 1), some (.int (v1 + 1))] [] (lx_up X (56 + 1 + ws0) s1 s2)) : Ev g mX1_freezeBoxes d n0 nf post n 31 [some (.ref 1), some (.int v1)] [.int s2, .int (nI s1), .ref (56 + 1 + ws0)] X := by
  refine ev_iast dX1_freezeBoxes_31 (by have := bws0; omega) (lyr_56 _ bws0) rfl b0 ?_
  have hX1 : Sh _ (lx_up X (56 + 1 + ws0) s1 s2) := Sh.upA hX (by rw [(lyr_56 _ bws0)]; exact (by decide : 0 < 2))
  refine ev_iinc (v := v1 + 1) dX1_freezeBoxes_32 rfl (by rw [show Int32.ofInt 1 = 1 from ki_1]) (by decide) ?_
  refine ev_goto (tgt := 2) dX1_freezeBoxes_35 (by decide) ?_
  exact k
theorem bX1_endWeek_0_0 {g : GG} {d n0 nf : Nat} {post : Option Value → LX → Prop} {n : Nat} {X : LX} (hn : 146 ≤ n) (hX : Sh n X)  (k : Ev g mX1_endWeek d n0 nf post n 2 [some (.ref 1), some (.int 0)] [] X) : Ev g mX1_endWeek d n0 nf post n 0 [some (.ref 1), none] [] X := by
  refine ev_iconst (v := 0) dX1_endWeek_0 ki_0 ?_
  refine ev_istore_n dX1_endWeek_1 (by decide) ?_
  exact k
theorem bX1_endWeek_2_0 {g : GG} {d n0 nf : Nat} {post : Option Value → LX → Prop} {n : Nat} {X : LX} (hn : 146 ≤ n) (hX : Sh n X) {v1 : Nat} {j1 : Nat} (c0 : ¬ X 69 0 ≤ nI v1) (b0 : v1 < 40) (b1 : v1 < 40) (hj1 : X 70 v1 = nI j1) (b2 : j1 < 14) (c1 : ¬ X 1 5 < (X 72 v1) + (X 7 j1)) (k : Ev g mX1_endWeek d n0 nf post n 52 [some (.ref 1), some (.int (nI v1))] [.int (nI v1), .ref 69] X) : Ev g mX1_endWeek d n0 nf post n 2 [some (.ref 1), some (.int (nI v1))] [] X := by
  refine ev_iload_n dX1_endWeek_2 rfl ?_
  refine ev_aload_n dX1_endWeek_3 rfl ?_
  refine ev_getS (q := 69) dX1_endWeek_4 fo_1_35 (by omega) lo_1 rfl (sh_1_3 hX (by omega)) (by decide) ?_
  refine ev_getI dX1_endWeek_7 fo_1_176 (by omega) lo_69 rfl ?_
  refine ev_icmpF (tgt := 61) dX1_endWeek_10 (by decide) c0 ?_
  refine ev_aload_n dX1_endWeek_13 rfl ?_
  refine ev_getS (q := 69) dX1_endWeek_14 fo_1_35 (by omega) lo_1 rfl (sh_1_3 hX (by omega)) (by decide) ?_
  refine ev_getS (q := 72) dX1_endWeek_17 fo_1_177 (by omega) lo_69 rfl (sh_69_3 hX (by omega)) (by decide) ?_
  refine ev_iload_n dX1_endWeek_20 rfl ?_
  refine ev_iald dX1_endWeek_21 (by omega) ly_72 rfl b0 ?_
  refine ev_aload_n dX1_endWeek_22 rfl ?_
  refine ev_getS (q := 2) dX1_endWeek_23 fo_1_12 (by omega) lo_1 rfl (sh_1_0 hX (by omega)) (by decide) ?_
  refine ev_getS (q := 7) dX1_endWeek_26 fo_1_180 (by omega) lo_2 rfl (sh_2_5 hX (by omega)) (by decide) ?_
  refine ev_aload_n dX1_endWeek_29 rfl ?_
  refine ev_getS (q := 69) dX1_endWeek_30 fo_1_35 (by omega) lo_1 rfl (sh_1_3 hX (by omega)) (by decide) ?_
  refine ev_getS (q := 70) dX1_endWeek_33 fo_1_183 (by omega) lo_69 rfl (sh_69_1 hX (by omega)) (by decide) ?_
  refine ev_iload_n dX1_endWeek_36 rfl ?_
  refine ev_iald dX1_endWeek_37 (by omega) ly_70 rfl b1 ?_
  refine ev_iald dX1_endWeek_38 (by omega) ly_7 hj1 b2 ?_
  refine ev_iadd dX1_endWeek_39 ?_
  refine ev_aload_n dX1_endWeek_40 rfl ?_
  refine ev_getI dX1_endWeek_41 fo_1_66 (by omega) lo_1 rfl ?_
  refine ev_icmpF (tgt := 55) dX1_endWeek_44 (by decide) c1 ?_
  refine ev_aload_n dX1_endWeek_47 rfl ?_
  refine ev_getS (q := 69) dX1_endWeek_48 fo_1_35 (by omega) lo_1 rfl (sh_1_3 hX (by omega)) (by decide) ?_
  refine ev_iload_n dX1_endWeek_51 rfl ?_
  exact k
theorem bX1_endWeek_2_1 {g : GG} {d n0 nf : Nat} {post : Option Value → LX → Prop} {n : Nat} {X : LX} (hn : 146 ≤ n) (hX : Sh n X) {v1 : Nat} {j1 : Nat} (c0 : ¬ X 69 0 ≤ nI v1) (b0 : v1 < 40) (b1 : v1 < 40) (hj1 : X 70 v1 = nI j1) (b2 : j1 < 14) (c1 : X 1 5 < (X 72 v1) + (X 7 j1)) (k : Ev g mX1_endWeek d n0 nf post n 2 [some (.ref 1), some (.int ((nI v1) + 1))] [] X) : Ev g mX1_endWeek d n0 nf post n 2 [some (.ref 1), some (.int (nI v1))] [] X := by
  refine ev_iload_n dX1_endWeek_2 rfl ?_
  refine ev_aload_n dX1_endWeek_3 rfl ?_
  refine ev_getS (q := 69) dX1_endWeek_4 fo_1_35 (by omega) lo_1 rfl (sh_1_3 hX (by omega)) (by decide) ?_
  refine ev_getI dX1_endWeek_7 fo_1_176 (by omega) lo_69 rfl ?_
  refine ev_icmpF (tgt := 61) dX1_endWeek_10 (by decide) c0 ?_
  refine ev_aload_n dX1_endWeek_13 rfl ?_
  refine ev_getS (q := 69) dX1_endWeek_14 fo_1_35 (by omega) lo_1 rfl (sh_1_3 hX (by omega)) (by decide) ?_
  refine ev_getS (q := 72) dX1_endWeek_17 fo_1_177 (by omega) lo_69 rfl (sh_69_3 hX (by omega)) (by decide) ?_
  refine ev_iload_n dX1_endWeek_20 rfl ?_
  refine ev_iald dX1_endWeek_21 (by omega) ly_72 rfl b0 ?_
  refine ev_aload_n dX1_endWeek_22 rfl ?_
  refine ev_getS (q := 2) dX1_endWeek_23 fo_1_12 (by omega) lo_1 rfl (sh_1_0 hX (by omega)) (by decide) ?_
  refine ev_getS (q := 7) dX1_endWeek_26 fo_1_180 (by omega) lo_2 rfl (sh_2_5 hX (by omega)) (by decide) ?_
  refine ev_aload_n dX1_endWeek_29 rfl ?_
  refine ev_getS (q := 69) dX1_endWeek_30 fo_1_35 (by omega) lo_1 rfl (sh_1_3 hX (by omega)) (by decide) ?_
  refine ev_getS (q := 70) dX1_endWeek_33 fo_1_183 (by omega) lo_69 rfl (sh_69_1 hX (by omega)) (by decide) ?_
  refine ev_iload_n dX1_endWeek_36 rfl ?_
  refine ev_iald dX1_endWeek_37 (by omega) ly_70 rfl b1 ?_
  refine ev_iald dX1_endWeek_38 (by omega) ly_7 hj1 b2 ?_
  refine ev_iadd dX1_endWeek_39 ?_
  refine ev_aload_n dX1_endWeek_40 rfl ?_
  refine ev_getI dX1_endWeek_41 fo_1_66 (by omega) lo_1 rfl ?_
  refine ev_icmpT (tgt := 55) dX1_endWeek_44 (by decide) c1 ?_
  refine ev_iinc (v := (nI v1) + 1) dX1_endWeek_55 rfl (by rw [show Int32.ofInt 1 = 1 from ki_1]) (by decide) ?_
  refine ev_goto (tgt := 2) dX1_endWeek_58 (by decide) ?_
  exact k
theorem bX1_endWeek_2_2 {g : GG} {d n0 nf : Nat} {post : Option Value → LX → Prop} {n : Nat} {X : LX} (hn : 146 ≤ n) (hX : Sh n X) {v1 : Nat} (c0 : X 69 0 ≤ nI v1) (k : Ev g mX1_endWeek d n0 nf post n 89 [some (.ref 1), some (.int (nI v1))] [.int 0, .ref 42] (lx_up (lx_up (lx_up X 1 5 ((X 1 5) + 1)) 1 6 0) 1 8 0)) : Ev g mX1_endWeek d n0 nf post n 2 [some (.ref 1), some (.int (nI v1))] [] X := by
  refine ev_iload_n dX1_endWeek_2 rfl ?_
  refine ev_aload_n dX1_endWeek_3 rfl ?_
  refine ev_getS (q := 69) dX1_endWeek_4 fo_1_35 (by omega) lo_1 rfl (sh_1_3 hX (by omega)) (by decide) ?_
  refine ev_getI dX1_endWeek_7 fo_1_176 (by omega) lo_69 rfl ?_
  refine ev_icmpT (tgt := 61) dX1_endWeek_10 (by decide) c0 ?_
  refine ev_aload_n dX1_endWeek_61 rfl ?_
  refine ev_dup dX1_endWeek_62 rfl ?_
  refine ev_getI dX1_endWeek_63 fo_1_66 (by omega) lo_1 rfl ?_
  refine ev_iconst (v := 1) dX1_endWeek_66 ki_1 ?_
  refine ev_iadd dX1_endWeek_67 ?_
  refine ev_putI dX1_endWeek_68 fo_1_66 (by omega) lo_1 rfl rfl rfl ?_
  have hX1 : Sh _ (lx_up X 1 5 ((X 1 5) + 1)) := Sh.upF hX (by rw [lo_1]; decide) (by decide)
  refine ev_aload_n dX1_endWeek_71 rfl ?_
  refine ev_iconst (v := 0) dX1_endWeek_72 ki_0 ?_
  refine ev_putI dX1_endWeek_73 fo_1_69 (by omega) lo_1 rfl rfl rfl ?_
  have hX2 : Sh _ (lx_up (lx_up X 1 5 ((X 1 5) + 1)) 1 6 0) := Sh.upF hX1 (by rw [lo_1]; decide) (by decide)
  refine ev_aload_n dX1_endWeek_76 rfl ?_
  refine ev_iconst (v := 0) dX1_endWeek_77 ki_0 ?_
  refine ev_putZ dX1_endWeek_78 fo_1_72 (by omega) lo_1 rfl rfl rfl (by decide) ?_
  have hX3 : Sh _ (lx_up (lx_up (lx_up X 1 5 ((X 1 5) + 1)) 1 6 0) 1 8 0) := Sh.upF hX2 (by rw [lo_1]; decide) (by decide)
  refine ev_aload_n dX1_endWeek_81 rfl ?_
  refine ev_getS (q := 37) dX1_endWeek_82 fo_1_28 (by omega) lo_1 rfl (sh_1_2 hX3 (by omega)) (by decide) ?_
  refine ev_getS (q := 42) dX1_endWeek_85 fo_1_141 (by omega) lo_37 rfl (sh_37_5 hX3 (by omega)) (by decide) ?_
  refine ev_iconst (v := 0) dX1_endWeek_88 ki_0 ?_
  exact k
theorem bX1_endWeek_55_0 {g : GG} {d n0 nf : Nat} {post : Option Value → LX → Prop} {n : Nat} {X : LX} (hn : 146 ≤ n) (hX : Sh n X) {v1 : Int32} (k : Ev g mX1_endWeek d n0 nf post n 2 [some (.ref 1), some (.int (v1 + 1))] [] X) : Ev g mX1_endWeek d n0 nf post n 55 [some (.ref 1), some (.int v1)] [] X := by
  refine ev_iinc (v := v1 + 1) dX1_endWeek_55 rfl (by rw [show Int32.ofInt 1 = 1 from ki_1]) (by decide) ?_
  refine ev_goto (tgt := 2) dX1_endWeek_58 (by decide) ?_
  exact k
theorem bX1_endWeek_92_0 {g : GG} {d n0 nf : Nat} {post : Option Value → LX → Prop} {n : Nat} {X : LX} (hn : 146 ≤ nf) (hX : Sh nf X) {v1 : Int32} (hp : post none X) : Ev g mX1_endWeek d n0 nf post nf 92 [some (.ref 1), some (.int v1)] [] X := by
  exact ev_ret dX1_endWeek_92 rfl hp
