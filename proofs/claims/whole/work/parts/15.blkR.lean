theorem bX3_addBytes_0_0 {g : GG} {d n0 nf : Nat} {post : Option Value → LX → Prop} {n : Nat} {X : LX} (hn : 146 ≤ n) (hX : Sh n X) {v1 : Int32} (k : Ev g mX3_addBytes d n0 nf post n 3 [some (.ref 81), some (.int v1), some (.int 24)] [] X) : Ev g mX3_addBytes d n0 nf post n 0 [some (.ref 81), some (.int v1), none] [] X := by
  refine ev_bipush (v := 24) dX3_addBytes_0 kb_24 ?_
  refine ev_istore_n dX3_addBytes_2 (by decide) ?_
  exact k
theorem bX3_addBytes_3_0 {g : GG} {d n0 nf : Nat} {post : Option Value → LX → Prop} {n : Nat} {X : LX} (hn : 146 ≤ n) (hX : Sh n X) {v1 : Int32} {v2 : Int32} {j1 : Nat} (c0 : ¬ v2 < 0) (c1 : ¬ 120 ≤ X 81 1) (hj1 : X 81 1 = nI j1) (b0 : j1 < 120) (k : Ev g mX3_addBytes d n0 nf post n 3 [some (.ref 81), some (.int v1), some (.int (v2 + (-8)))] [] (lx_up (lx_up X 81 1 ((X 81 1) + 1)) 82 j1 ((v1 >>> (v2 &&& 31)) &&& 255))) : Ev g mX3_addBytes d n0 nf post n 3 [some (.ref 81), some (.int v1), some (.int v2)] [] X := by
  refine ev_iload_n dX3_addBytes_3 rfl ?_
  refine ev_ifF (tgt := 45) dX3_addBytes_4 (by decide) c0 ?_
  refine ev_aload_n dX3_addBytes_7 rfl ?_
  refine ev_getI dX3_addBytes_8 fo_3_18 (by omega) lo_81 rfl ?_
  refine ev_bipush (v := 120) dX3_addBytes_11 kb_120 ?_
  refine ev_icmpF (tgt := 45) dX3_addBytes_13 (by decide) c1 ?_
  refine ev_aload_n dX3_addBytes_16 rfl ?_
  refine ev_getS (q := 82) dX3_addBytes_17 fo_3_9 (by omega) lo_81 rfl (sh_81_0 hX (by omega)) (by decide) ?_
  refine ev_aload_n dX3_addBytes_20 rfl ?_
  refine ev_dup dX3_addBytes_21 rfl ?_
  refine ev_getI dX3_addBytes_22 fo_3_18 (by omega) lo_81 rfl ?_
  refine ev_dup_x1 dX3_addBytes_25 rfl rfl ?_
  refine ev_iconst (v := 1) dX3_addBytes_26 ki_1 ?_
  refine ev_iadd dX3_addBytes_27 ?_
  refine ev_putI dX3_addBytes_28 fo_3_18 (by omega) lo_81 rfl rfl rfl ?_
  have hX1 : Sh _ (lx_up X 81 1 ((X 81 1) + 1)) := Sh.upF hX (by rw [lo_81]; decide) (by decide)
  refine ev_iload_n dX3_addBytes_31 rfl ?_
  refine ev_iload_n dX3_addBytes_32 rfl ?_
  refine ev_ishr dX3_addBytes_33 ?_
  refine ev_sipush (v := 255) dX3_addBytes_34 ks_255 ?_
  refine ev_iand dX3_addBytes_37 ?_
  refine ev_iast dX3_addBytes_38 (by omega) ly_82 hj1 b0 ?_
  have hX2 : Sh _ (lx_up (lx_up X 81 1 ((X 81 1) + 1)) 82 j1 ((v1 >>> (v2 &&& 31)) &&& 255)) := Sh.upA hX1 (by rw [ly_82]; exact (by decide : 0 < 2))
  refine ev_iinc (v := v2 + (-8)) dX3_addBytes_39 rfl (by rw [show Int32.ofInt (-8) = (-8) from ki_m8]) (by decide) ?_
  refine ev_goto (tgt := 3) dX3_addBytes_42 (by decide) ?_
  exact k
theorem bX3_addBytes_3_1 {g : GG} {d n0 nf : Nat} {post : Option Value → LX → Prop} {n : Nat} {X : LX} (hn : 146 ≤ nf) (hX : Sh nf X) {v1 : Int32} {v2 : Int32} (c0 : ¬ v2 < 0) (c1 : 120 ≤ X 81 1) (hp : post none X) : Ev g mX3_addBytes d n0 nf post nf 3 [some (.ref 81), some (.int v1), some (.int v2)] [] X := by
  refine ev_iload_n dX3_addBytes_3 rfl ?_
  refine ev_ifF (tgt := 45) dX3_addBytes_4 (by decide) c0 ?_
  refine ev_aload_n dX3_addBytes_7 rfl ?_
  refine ev_getI dX3_addBytes_8 fo_3_18 (by omega) lo_81 rfl ?_
  refine ev_bipush (v := 120) dX3_addBytes_11 kb_120 ?_
  refine ev_icmpT (tgt := 45) dX3_addBytes_13 (by decide) c1 ?_
  exact ev_ret dX3_addBytes_45 rfl hp
theorem bX3_addBytes_3_2 {g : GG} {d n0 nf : Nat} {post : Option Value → LX → Prop} {n : Nat} {X : LX} (hn : 146 ≤ nf) (hX : Sh nf X) {v1 : Int32} {v2 : Int32} (c0 : v2 < 0) (hp : post none X) : Ev g mX3_addBytes d n0 nf post nf 3 [some (.ref 81), some (.int v1), some (.int v2)] [] X := by
  refine ev_iload_n dX3_addBytes_3 rfl ?_
  refine ev_ifT (tgt := 45) dX3_addBytes_4 (by decide) c0 ?_
  exact ev_ret dX3_addBytes_45 rfl hp
theorem bX3_readTape_0_0 {g : GG} {d n0 nf : Nat} {post : Option Value → LX → Prop} {n : Nat} {X : LX} (hn : 146 ≤ n) (hX : Sh n X)  (k : Ev g mX3_readTape d n0 nf post n 32 [some (.ref 81)] [.ref 81] (lx_up (lx_up (lx_up (lx_up (lx_up (lx_up X 81 3 0) 81 5 0) 81 6 (-1)) 81 8 3) 81 10 0) 81 7 (rE 1000))) : Ev g mX3_readTape d n0 nf post n 0 [some (.ref 81)] [] X := by
  refine ev_aload_n dX3_readTape_0 rfl ?_
  refine ev_iconst (v := 0) dX3_readTape_1 ki_0 ?_
  refine ev_putI dX3_readTape_2 fo_3_22 (by omega) lo_81 rfl rfl rfl ?_
  have hX1 : Sh _ (lx_up X 81 3 0) := Sh.upF hX (by rw [lo_81]; decide) (by decide)
  refine ev_aload_n dX3_readTape_5 rfl ?_
  refine ev_iconst (v := 0) dX3_readTape_6 ki_0 ?_
  refine ev_putI dX3_readTape_7 fo_3_25 (by omega) lo_81 rfl rfl rfl ?_
  have hX2 : Sh _ (lx_up (lx_up X 81 3 0) 81 5 0) := Sh.upF hX1 (by rw [lo_81]; decide) (by decide)
  refine ev_aload_n dX3_readTape_10 rfl ?_
  refine ev_iconst (v := (-1)) dX3_readTape_11 ki_m1 ?_
  refine ev_putI dX3_readTape_12 fo_3_28 (by omega) lo_81 rfl rfl rfl ?_
  have hX3 : Sh _ (lx_up (lx_up (lx_up X 81 3 0) 81 5 0) 81 6 (-1)) := Sh.upF hX2 (by rw [lo_81]; decide) (by decide)
  refine ev_aload_n dX3_readTape_15 rfl ?_
  refine ev_iconst (v := 3) dX3_readTape_16 ki_3 ?_
  refine ev_putI dX3_readTape_17 fo_3_31 (by omega) lo_81 rfl rfl rfl ?_
  have hX4 : Sh _ (lx_up (lx_up (lx_up (lx_up X 81 3 0) 81 5 0) 81 6 (-1)) 81 8 3) := Sh.upF hX3 (by rw [lo_81]; decide) (by decide)
  refine ev_aload_n dX3_readTape_20 rfl ?_
  refine ev_iconst (v := 0) dX3_readTape_21 ki_0 ?_
  refine ev_putI dX3_readTape_22 fo_3_34 (by omega) lo_81 rfl rfl rfl ?_
  have hX5 : Sh _ (lx_up (lx_up (lx_up (lx_up (lx_up X 81 3 0) 81 5 0) 81 6 (-1)) 81 8 3) 81 10 0) := Sh.upF hX4 (by rw [lo_81]; decide) (by decide)
  refine ev_aload_n dX3_readTape_25 rfl ?_
  refine ev_ldcS (t := 0) dX3_readTape_26 sw_3_37 rfl rfl rfl ?_
  refine ev_putR dX3_readTape_28 fo_3_39 (by omega) lo_81 rfl (Or.inl ⟨_, rfl⟩) (Or.inl rfl) (by omega) ?_
  have hX6 : Sh _ (lx_up (lx_up (lx_up (lx_up (lx_up (lx_up X 81 3 0) 81 5 0) 81 6 (-1)) 81 8 3) 81 10 0) 81 7 (rE 1000)) := Sh.upF hX5 (by rw [lo_81]; decide) (by decide)
  refine ev_aload_n dX3_readTape_31 rfl ?_
  exact k
theorem bX3_readTape_35_0 {g : GG} {d n0 nf : Nat} {post : Option Value → LX → Prop} {n : Nat} {X : LX} (hn : 146 ≤ n) (hX : Sh n X)  (k : Ev g mX3_readTape d n0 nf post n 38 [some (.ref 81)] [.ref 1001, .ref 81] X) : Ev g mX3_readTape d n0 nf post n 35 [some (.ref 81)] [] X := by
  refine ev_aload_n dX3_readTape_35 rfl ?_
  refine ev_ldcS (t := 1) dX3_readTape_36 sw_3_46 rfl rfl rfl ?_
  exact k
theorem bX3_readTape_41_0 {g : GG} {d n0 nf : Nat} {post : Option Value → LX → Prop} {n : Nat} {X : LX} (hn : 146 ≤ n) (hX : Sh n X)  (k : Ev g mX3_readTape d n0 nf post n 45 [some (.ref 81)] [.int 0, .int 0, .int 0, .ref 81] X) : Ev g mX3_readTape d n0 nf post n 41 [some (.ref 81)] [] X := by
  refine ev_aload_n dX3_readTape_41 rfl ?_
  refine ev_iconst (v := 0) dX3_readTape_42 ki_0 ?_
  refine ev_iconst (v := 0) dX3_readTape_43 ki_0 ?_
  refine ev_iconst (v := 0) dX3_readTape_44 ki_0 ?_
  exact k
theorem bX3_readTape_48_0 {g : GG} {d n0 nf : Nat} {post : Option Value → LX → Prop} {n : Nat} {X : LX} (hn : 146 ≤ n) (hX : Sh n X)  (k : Ev g mX3_readTape d n0 nf post n 65 [some (.ref 81)] [.ref 1011, .ref 81] (lx_up (lx_up X 81 4 (X 81 3)) 81 7 (rE 1010))) : Ev g mX3_readTape d n0 nf post n 48 [some (.ref 81)] [] X := by
  refine ev_aload_n dX3_readTape_48 rfl ?_
  refine ev_aload_n dX3_readTape_49 rfl ?_
  refine ev_getI dX3_readTape_50 fo_3_22 (by omega) lo_81 rfl ?_
  refine ev_putI dX3_readTape_53 fo_3_56 (by omega) lo_81 rfl rfl rfl ?_
  have hX1 : Sh _ (lx_up X 81 4 (X 81 3)) := Sh.upF hX (by rw [lo_81]; decide) (by decide)
  refine ev_aload_n dX3_readTape_56 rfl ?_
  refine ev_ldcS (t := 10) dX3_readTape_57 sw_3_59 rfl rfl rfl ?_
  refine ev_putR dX3_readTape_59 fo_3_39 (by omega) lo_81 rfl (Or.inl ⟨_, rfl⟩) (Or.inl rfl) (by omega) ?_
  have hX2 : Sh _ (lx_up (lx_up X 81 4 (X 81 3)) 81 7 (rE 1010)) := Sh.upF hX1 (by rw [lo_81]; decide) (by decide)
  refine ev_aload_n dX3_readTape_62 rfl ?_
  refine ev_ldcS (t := 11) dX3_readTape_63 sw_3_61 rfl rfl rfl ?_
  exact k
theorem bX3_readTape_68_0 {g : GG} {d n0 nf : Nat} {post : Option Value → LX → Prop} {n : Nat} {X : LX} (hn : 146 ≤ n) (hX : Sh n X)  (k : Ev g mX3_readTape d n0 nf post n 72 [some (.ref 81)] [.int 0, .int 0, .int 0, .ref 81] X) : Ev g mX3_readTape d n0 nf post n 68 [some (.ref 81)] [] X := by
  refine ev_aload_n dX3_readTape_68 rfl ?_
  refine ev_iconst (v := 0) dX3_readTape_69 ki_0 ?_
  refine ev_iconst (v := 0) dX3_readTape_70 ki_0 ?_
  refine ev_iconst (v := 0) dX3_readTape_71 ki_0 ?_
  exact k
theorem bX3_readTape_75_0 {g : GG} {d n0 nf : Nat} {post : Option Value → LX → Prop} {n : Nat} {X : LX} (hn : 146 ≤ n) (hX : Sh n X)  (c0 : ¬ X 81 8 = 0) (k : Ev g mX3_readTape d n0 nf post n 83 [some (.ref 81)] [.ref 81] X) : Ev g mX3_readTape d n0 nf post n 75 [some (.ref 81)] [] X := by
  refine ev_aload_n dX3_readTape_75 rfl ?_
  refine ev_getI dX3_readTape_76 fo_3_31 (by omega) lo_81 rfl ?_
  refine ev_ifF (tgt := 86) dX3_readTape_79 (by decide) c0 ?_
  refine ev_aload_n dX3_readTape_82 rfl ?_
  exact k
theorem bX3_readTape_75_1 {g : GG} {d n0 nf : Nat} {post : Option Value → LX → Prop} {n : Nat} {X : LX} (hn : 146 ≤ nf) (hX : Sh nf X)  (c0 : X 81 8 = 0) (hp : post none X) : Ev g mX3_readTape d n0 nf post nf 75 [some (.ref 81)] [] X := by
  refine ev_aload_n dX3_readTape_75 rfl ?_
  refine ev_getI dX3_readTape_76 fo_3_31 (by omega) lo_81 rfl ?_
  refine ev_ifT (tgt := 86) dX3_readTape_79 (by decide) c0 ?_
  exact ev_ret dX3_readTape_86 rfl hp
theorem bX3_readTape_86_0 {g : GG} {d n0 nf : Nat} {post : Option Value → LX → Prop} {n : Nat} {X : LX} (hn : 146 ≤ nf) (hX : Sh nf X)  (hp : post none X) : Ev g mX3_readTape d n0 nf post nf 86 [some (.ref 81)] [] X := by
  exact ev_ret dX3_readTape_86 rfl hp
theorem bX3_fail_0_0 {g : GG} {d n0 nf : Nat} {post : Option Value → LX → Prop} {n : Nat} {X : LX} (hn : 146 ≤ nf) (hX : Sh nf X)  (c0 : ¬ 0 ≤ X 81 6) (hp : post none (lx_up X 81 6 (X 81 9))) : Ev g mX3_fail d n0 nf post nf 0 [some (.ref 81)] [] X := by
  refine ev_aload_n dX3_fail_0 rfl ?_
  refine ev_getI dX3_fail_1 fo_3_28 (by omega) lo_81 rfl ?_
  refine ev_ifF (tgt := 15) dX3_fail_4 (by decide) c0 ?_
  refine ev_aload_n dX3_fail_7 rfl ?_
  refine ev_aload_n dX3_fail_8 rfl ?_
  refine ev_getI dX3_fail_9 fo_3_66 (by omega) lo_81 rfl ?_
  refine ev_putI dX3_fail_12 fo_3_28 (by omega) lo_81 rfl rfl rfl ?_
  have hX1 : Sh _ (lx_up X 81 6 (X 81 9)) := Sh.upF hX (by rw [lo_81]; decide) (by decide)
  exact ev_ret dX3_fail_15 rfl hp
theorem bX3_fail_0_1 {g : GG} {d n0 nf : Nat} {post : Option Value → LX → Prop} {n : Nat} {X : LX} (hn : 146 ≤ nf) (hX : Sh nf X)  (c0 : 0 ≤ X 81 6) (hp : post none X) : Ev g mX3_fail d n0 nf post nf 0 [some (.ref 81)] [] X := by
  refine ev_aload_n dX3_fail_0 rfl ?_
  refine ev_getI dX3_fail_1 fo_3_28 (by omega) lo_81 rfl ?_
  refine ev_ifT (tgt := 15) dX3_fail_4 (by decide) c0 ?_
  exact ev_ret dX3_fail_15 rfl hp
theorem bX3_step_0_0 {g : GG} {d n0 nf : Nat} {post : Option Value → LX → Prop} {n : Nat} {X : LX} (hn : 146 ≤ n) (hX : Sh n X)  (c0 : ¬ X 81 8 = 1) (c1 : X 81 8 = 2) (k : Ev g mX3_step d n0 nf post n 32 [some (.ref 81), some (.int 1), some (.int (X 81 10))] [] (lx_up X 81 9 (X 81 10))) : Ev g mX3_step d n0 nf post n 0 [some (.ref 81), none, none] [] X := by
  refine ev_aload_n dX3_step_0 rfl ?_
  refine ev_getI dX3_step_1 fo_3_31 (by omega) lo_81 rfl ?_
  refine ev_iconst (v := 1) dX3_step_4 ki_1 ?_
  refine ev_icmpF (tgt := 16) dX3_step_5 (by decide) c0 ?_
  refine ev_aload_n dX3_step_8 rfl ?_
  refine ev_getI dX3_step_9 fo_3_31 (by omega) lo_81 rfl ?_
  refine ev_iconst (v := 2) dX3_step_12 ki_2 ?_
  refine ev_icmpF (tgt := 20) dX3_step_13 (by decide) c1 ?_
  refine ev_iconst (v := 1) dX3_step_16 ki_1 ?_
  refine ev_goto (tgt := 21) dX3_step_17 (by decide) ?_
  refine ev_istore_n dX3_step_21 (by decide) ?_
  refine ev_aload_n dX3_step_22 rfl ?_
  refine ev_getI dX3_step_23 fo_3_34 (by omega) lo_81 rfl ?_
  refine ev_istore_n dX3_step_26 (by decide) ?_
  refine ev_aload_n dX3_step_27 rfl ?_
  refine ev_iload_n dX3_step_28 rfl ?_
  refine ev_putI dX3_step_29 fo_3_66 (by omega) lo_81 rfl rfl rfl ?_
  have hX1 : Sh _ (lx_up X 81 9 (X 81 10)) := Sh.upF hX (by rw [lo_81]; decide) (by decide)
  exact k
theorem bX3_step_0_1 {g : GG} {d n0 nf : Nat} {post : Option Value → LX → Prop} {n : Nat} {X : LX} (hn : 146 ≤ n) (hX : Sh n X)  (c0 : ¬ X 81 8 = 1) (c1 : ¬ X 81 8 = 2) (k : Ev g mX3_step d n0 nf post n 32 [some (.ref 81), some (.int 0), some (.int (X 81 10))] [] (lx_up X 81 9 (X 81 10))) : Ev g mX3_step d n0 nf post n 0 [some (.ref 81), none, none] [] X := by
  refine ev_aload_n dX3_step_0 rfl ?_
  refine ev_getI dX3_step_1 fo_3_31 (by omega) lo_81 rfl ?_
  refine ev_iconst (v := 1) dX3_step_4 ki_1 ?_
  refine ev_icmpF (tgt := 16) dX3_step_5 (by decide) c0 ?_
  refine ev_aload_n dX3_step_8 rfl ?_
  refine ev_getI dX3_step_9 fo_3_31 (by omega) lo_81 rfl ?_
  refine ev_iconst (v := 2) dX3_step_12 ki_2 ?_
  refine ev_icmpT (tgt := 20) dX3_step_13 (by decide) c1 ?_
  refine ev_iconst (v := 0) dX3_step_20 ki_0 ?_
  refine ev_istore_n dX3_step_21 (by decide) ?_
  refine ev_aload_n dX3_step_22 rfl ?_
  refine ev_getI dX3_step_23 fo_3_34 (by omega) lo_81 rfl ?_
  refine ev_istore_n dX3_step_26 (by decide) ?_
  refine ev_aload_n dX3_step_27 rfl ?_
  refine ev_iload_n dX3_step_28 rfl ?_
  refine ev_putI dX3_step_29 fo_3_66 (by omega) lo_81 rfl rfl rfl ?_
  have hX1 : Sh _ (lx_up X 81 9 (X 81 10)) := Sh.upF hX (by rw [lo_81]; decide) (by decide)
  exact k
theorem bX3_step_0_2 {g : GG} {d n0 nf : Nat} {post : Option Value → LX → Prop} {n : Nat} {X : LX} (hn : 146 ≤ n) (hX : Sh n X)  (c0 : X 81 8 = 1) (k : Ev g mX3_step d n0 nf post n 32 [some (.ref 81), some (.int 1), some (.int (X 81 10))] [] (lx_up X 81 9 (X 81 10))) : Ev g mX3_step d n0 nf post n 0 [some (.ref 81), none, none] [] X := by
  refine ev_aload_n dX3_step_0 rfl ?_
  refine ev_getI dX3_step_1 fo_3_31 (by omega) lo_81 rfl ?_
  refine ev_iconst (v := 1) dX3_step_4 ki_1 ?_
  refine ev_icmpT (tgt := 16) dX3_step_5 (by decide) c0 ?_
  refine ev_iconst (v := 1) dX3_step_16 ki_1 ?_
  refine ev_goto (tgt := 21) dX3_step_17 (by decide) ?_
  refine ev_istore_n dX3_step_21 (by decide) ?_
  refine ev_aload_n dX3_step_22 rfl ?_
  refine ev_getI dX3_step_23 fo_3_34 (by omega) lo_81 rfl ?_
  refine ev_istore_n dX3_step_26 (by decide) ?_
  refine ev_aload_n dX3_step_27 rfl ?_
  refine ev_iload_n dX3_step_28 rfl ?_
  refine ev_putI dX3_step_29 fo_3_66 (by omega) lo_81 rfl rfl rfl ?_
  have hX1 : Sh _ (lx_up X 81 9 (X 81 10)) := Sh.upF hX (by rw [lo_81]; decide) (by decide)
  exact k
theorem bX3_step_32_0 {g : GG} {d n0 nf : Nat} {post : Option Value → LX → Prop} {n : Nat} {X : LX} (hn : 146 ≤ n) (hX : Sh n X) {v1 : Int32} {v2 : Int32} {j1 : Nat} (c0 : ¬ X 81 1 ≤ X 81 9) (hj1 : X 81 9 = nI j1) (b0 : j1 < 120) (c1 : X 82 j1 = 32) (k : Ev g mX3_step d n0 nf post n 32 [some (.ref 81), some (.int v1), some (.int v2)] [] (lx_up X 81 9 ((X 81 9) + 1))) : Ev g mX3_step d n0 nf post n 32 [some (.ref 81), some (.int v1), some (.int v2)] [] X := by
  refine ev_aload_n dX3_step_32 rfl ?_
  refine ev_getI dX3_step_33 fo_3_66 (by omega) lo_81 rfl ?_
  refine ev_aload_n dX3_step_36 rfl ?_
  refine ev_getI dX3_step_37 fo_3_18 (by omega) lo_81 rfl ?_
  refine ev_icmpF (tgt := 70) dX3_step_40 (by decide) c0 ?_
  refine ev_aload_n dX3_step_43 rfl ?_
  refine ev_getS (q := 82) dX3_step_44 fo_3_9 (by omega) lo_81 rfl (sh_81_0 hX (by omega)) (by decide) ?_
  refine ev_aload_n dX3_step_47 rfl ?_
  refine ev_getI dX3_step_48 fo_3_66 (by omega) lo_81 rfl ?_
  refine ev_iald dX3_step_51 (by omega) ly_82 hj1 b0 ?_
  refine ev_bipush (v := 32) dX3_step_52 kb_32 ?_
  refine ev_icmpF (tgt := 70) dX3_step_54 (by decide) c1 ?_
  refine ev_aload_n dX3_step_57 rfl ?_
  refine ev_dup dX3_step_58 rfl ?_
  refine ev_getI dX3_step_59 fo_3_66 (by omega) lo_81 rfl ?_
  refine ev_iconst (v := 1) dX3_step_62 ki_1 ?_
  refine ev_iadd dX3_step_63 ?_
  refine ev_putI dX3_step_64 fo_3_66 (by omega) lo_81 rfl rfl rfl ?_
  have hX1 : Sh _ (lx_up X 81 9 ((X 81 9) + 1)) := Sh.upF hX (by rw [lo_81]; decide) (by decide)
  refine ev_goto (tgt := 32) dX3_step_67 (by decide) ?_
  exact k
theorem bX3_step_32_1 {g : GG} {d n0 nf : Nat} {post : Option Value → LX → Prop} {n : Nat} {X : LX} (hn : 146 ≤ nf) (hX : Sh nf X) {v1 : Int32} {v2 : Int32} {j1 : Nat} (c0 : ¬ X 81 1 ≤ X 81 9) (hj1 : X 81 9 = nI j1) (b0 : j1 < 120) (c1 : ¬ X 82 j1 = 32) (c2 : ¬ X 81 9 < X 81 1) (c3 : ¬ v1 = 0) (c4 : X 81 9 = v2) (hp : post none (lx_up (lx_up X 81 10 (X 81 9)) 81 8 0)) : Ev g mX3_step d n0 nf post nf 32 [some (.ref 81), some (.int v1), some (.int v2)] [] X := by
  refine ev_aload_n dX3_step_32 rfl ?_
  refine ev_getI dX3_step_33 fo_3_66 (by omega) lo_81 rfl ?_
  refine ev_aload_n dX3_step_36 rfl ?_
  refine ev_getI dX3_step_37 fo_3_18 (by omega) lo_81 rfl ?_
  refine ev_icmpF (tgt := 70) dX3_step_40 (by decide) c0 ?_
  refine ev_aload_n dX3_step_43 rfl ?_
  refine ev_getS (q := 82) dX3_step_44 fo_3_9 (by omega) lo_81 rfl (sh_81_0 hX (by omega)) (by decide) ?_
  refine ev_aload_n dX3_step_47 rfl ?_
  refine ev_getI dX3_step_48 fo_3_66 (by omega) lo_81 rfl ?_
  refine ev_iald dX3_step_51 (by omega) ly_82 hj1 b0 ?_
  refine ev_bipush (v := 32) dX3_step_52 kb_32 ?_
  refine ev_icmpT (tgt := 70) dX3_step_54 (by decide) c1 ?_
  refine ev_aload_n dX3_step_70 rfl ?_
  refine ev_aload_n dX3_step_71 rfl ?_
  refine ev_getI dX3_step_72 fo_3_66 (by omega) lo_81 rfl ?_
  refine ev_putI dX3_step_75 fo_3_34 (by omega) lo_81 rfl rfl rfl ?_
  have hX1 : Sh _ (lx_up X 81 10 (X 81 9)) := Sh.upF hX (by rw [lo_81]; decide) (by decide)
  refine ev_aload_n dX3_step_78 rfl ?_
  refine ev_getI dX3_step_79 fo_3_66 (by omega) lo_81 rfl ?_
  refine ev_aload_n dX3_step_82 rfl ?_
  refine ev_getI dX3_step_83 fo_3_18 (by omega) lo_81 rfl ?_
  refine ev_icmpF (tgt := 97) dX3_step_86 (by decide) c2 ?_
  refine ev_aload_n dX3_step_89 rfl ?_
  refine ev_iconst (v := 0) dX3_step_90 ki_0 ?_
  refine ev_putI dX3_step_91 fo_3_31 (by omega) lo_81 rfl rfl rfl ?_
  have hX2 : Sh _ (lx_up (lx_up X 81 10 (X 81 9)) 81 8 0) := Sh.upF hX1 (by rw [lo_81]; decide) (by decide)
  refine ev_goto (tgt := 235) dX3_step_94 (by decide) ?_
  refine ev_iload_n dX3_step_235 rfl ?_
  refine ev_ifF (tgt := 268) dX3_step_236 (by decide) c3 ?_
  refine ev_aload_n dX3_step_239 rfl ?_
  refine ev_getI dX3_step_240 fo_3_66 (by omega) lo_81 rfl ?_
  refine ev_iload_n dX3_step_243 rfl ?_
  refine ev_icmpF (tgt := 268) dX3_step_244 (by decide) c4 ?_
  refine ev_aload_n dX3_step_247 rfl ?_
  refine ev_getI dX3_step_248 fo_3_31 (by omega) lo_81 rfl ?_
  refine ev_iconst (v := 1) dX3_step_251 ki_1 ?_
  refine ev_icmpF (tgt := 263) dX3_step_252 (by decide) (by show ¬ (0 : Int32) = 1; decide) ?_
  refine ev_aload_n dX3_step_255 rfl ?_
  refine ev_getI dX3_step_256 fo_3_31 (by omega) lo_81 rfl ?_
  refine ev_iconst (v := 2) dX3_step_259 ki_2 ?_
  refine ev_icmpT (tgt := 268) dX3_step_260 (by decide) (by show ¬ (0 : Int32) = 2; decide) ?_
  exact ev_ret dX3_step_268 rfl hp
theorem bX3_step_32_2 {g : GG} {d n0 nf : Nat} {post : Option Value → LX → Prop} {n : Nat} {X : LX} (hn : 146 ≤ nf) (hX : Sh nf X) {v1 : Int32} {v2 : Int32} {j1 : Nat} (c0 : ¬ X 81 1 ≤ X 81 9) (hj1 : X 81 9 = nI j1) (b0 : j1 < 120) (c1 : ¬ X 82 j1 = 32) (c2 : ¬ X 81 9 < X 81 1) (c3 : ¬ v1 = 0) (c4 : ¬ X 81 9 = v2) (hp : post none (lx_up (lx_up X 81 10 (X 81 9)) 81 8 0)) : Ev g mX3_step d n0 nf post nf 32 [some (.ref 81), some (.int v1), some (.int v2)] [] X := by
  refine ev_aload_n dX3_step_32 rfl ?_
  refine ev_getI dX3_step_33 fo_3_66 (by omega) lo_81 rfl ?_
  refine ev_aload_n dX3_step_36 rfl ?_
  refine ev_getI dX3_step_37 fo_3_18 (by omega) lo_81 rfl ?_
  refine ev_icmpF (tgt := 70) dX3_step_40 (by decide) c0 ?_
  refine ev_aload_n dX3_step_43 rfl ?_
  refine ev_getS (q := 82) dX3_step_44 fo_3_9 (by omega) lo_81 rfl (sh_81_0 hX (by omega)) (by decide) ?_
  refine ev_aload_n dX3_step_47 rfl ?_
  refine ev_getI dX3_step_48 fo_3_66 (by omega) lo_81 rfl ?_
  refine ev_iald dX3_step_51 (by omega) ly_82 hj1 b0 ?_
  refine ev_bipush (v := 32) dX3_step_52 kb_32 ?_
  refine ev_icmpT (tgt := 70) dX3_step_54 (by decide) c1 ?_
  refine ev_aload_n dX3_step_70 rfl ?_
  refine ev_aload_n dX3_step_71 rfl ?_
  refine ev_getI dX3_step_72 fo_3_66 (by omega) lo_81 rfl ?_
  refine ev_putI dX3_step_75 fo_3_34 (by omega) lo_81 rfl rfl rfl ?_
  have hX1 : Sh _ (lx_up X 81 10 (X 81 9)) := Sh.upF hX (by rw [lo_81]; decide) (by decide)
  refine ev_aload_n dX3_step_78 rfl ?_
  refine ev_getI dX3_step_79 fo_3_66 (by omega) lo_81 rfl ?_
  refine ev_aload_n dX3_step_82 rfl ?_
  refine ev_getI dX3_step_83 fo_3_18 (by omega) lo_81 rfl ?_
  refine ev_icmpF (tgt := 97) dX3_step_86 (by decide) c2 ?_
  refine ev_aload_n dX3_step_89 rfl ?_
  refine ev_iconst (v := 0) dX3_step_90 ki_0 ?_
  refine ev_putI dX3_step_91 fo_3_31 (by omega) lo_81 rfl rfl rfl ?_
  have hX2 : Sh _ (lx_up (lx_up X 81 10 (X 81 9)) 81 8 0) := Sh.upF hX1 (by rw [lo_81]; decide) (by decide)
  refine ev_goto (tgt := 235) dX3_step_94 (by decide) ?_
  refine ev_iload_n dX3_step_235 rfl ?_
  refine ev_ifF (tgt := 268) dX3_step_236 (by decide) c3 ?_
  refine ev_aload_n dX3_step_239 rfl ?_
  refine ev_getI dX3_step_240 fo_3_66 (by omega) lo_81 rfl ?_
  refine ev_iload_n dX3_step_243 rfl ?_
  refine ev_icmpT (tgt := 268) dX3_step_244 (by decide) c4 ?_
  exact ev_ret dX3_step_268 rfl hp
theorem bX3_step_32_3 {g : GG} {d n0 nf : Nat} {post : Option Value → LX → Prop} {n : Nat} {X : LX} (hn : 146 ≤ nf) (hX : Sh nf X) {v1 : Int32} {v2 : Int32} {j1 : Nat} (c0 : ¬ X 81 1 ≤ X 81 9) (hj1 : X 81 9 = nI j1) (b0 : j1 < 120) (c1 : ¬ X 82 j1 = 32) (c2 : ¬ X 81 9 < X 81 1) (c3 : v1 = 0) (hp : post none (lx_up (lx_up X 81 10 (X 81 9)) 81 8 0)) : Ev g mX3_step d n0 nf post nf 32 [some (.ref 81), some (.int v1), some (.int v2)] [] X := by
  refine ev_aload_n dX3_step_32 rfl ?_
  refine ev_getI dX3_step_33 fo_3_66 (by omega) lo_81 rfl ?_
  refine ev_aload_n dX3_step_36 rfl ?_
  refine ev_getI dX3_step_37 fo_3_18 (by omega) lo_81 rfl ?_
  refine ev_icmpF (tgt := 70) dX3_step_40 (by decide) c0 ?_
  refine ev_aload_n dX3_step_43 rfl ?_
  refine ev_getS (q := 82) dX3_step_44 fo_3_9 (by omega) lo_81 rfl (sh_81_0 hX (by omega)) (by decide) ?_
  refine ev_aload_n dX3_step_47 rfl ?_
  refine ev_getI dX3_step_48 fo_3_66 (by omega) lo_81 rfl ?_
  refine ev_iald dX3_step_51 (by omega) ly_82 hj1 b0 ?_
  refine ev_bipush (v := 32) dX3_step_52 kb_32 ?_
  refine ev_icmpT (tgt := 70) dX3_step_54 (by decide) c1 ?_
  refine ev_aload_n dX3_step_70 rfl ?_
  refine ev_aload_n dX3_step_71 rfl ?_
  refine ev_getI dX3_step_72 fo_3_66 (by omega) lo_81 rfl ?_
  refine ev_putI dX3_step_75 fo_3_34 (by omega) lo_81 rfl rfl rfl ?_
  have hX1 : Sh _ (lx_up X 81 10 (X 81 9)) := Sh.upF hX (by rw [lo_81]; decide) (by decide)
  refine ev_aload_n dX3_step_78 rfl ?_
  refine ev_getI dX3_step_79 fo_3_66 (by omega) lo_81 rfl ?_
  refine ev_aload_n dX3_step_82 rfl ?_
  refine ev_getI dX3_step_83 fo_3_18 (by omega) lo_81 rfl ?_
  refine ev_icmpF (tgt := 97) dX3_step_86 (by decide) c2 ?_
  refine ev_aload_n dX3_step_89 rfl ?_
  refine ev_iconst (v := 0) dX3_step_90 ki_0 ?_
  refine ev_putI dX3_step_91 fo_3_31 (by omega) lo_81 rfl rfl rfl ?_
  have hX2 : Sh _ (lx_up (lx_up X 81 10 (X 81 9)) 81 8 0) := Sh.upF hX1 (by rw [lo_81]; decide) (by decide)
  refine ev_goto (tgt := 235) dX3_step_94 (by decide) ?_
  refine ev_iload_n dX3_step_235 rfl ?_
  refine ev_ifT (tgt := 268) dX3_step_236 (by decide) c3 ?_
  exact ev_ret dX3_step_268 rfl hp
theorem bX3_step_32_4 {g : GG} {d n0 nf : Nat} {post : Option Value → LX → Prop} {n : Nat} {X : LX} (hn : 146 ≤ n) (hX : Sh n X) {v1 : Int32} {v2 : Int32} {j1 : Nat} (c0 : ¬ X 81 1 ≤ X 81 9) (hj1 : X 81 9 = nI j1) (b0 : j1 < 120) (c1 : ¬ X 82 j1 = 32) (c2 : X 81 9 < X 81 1) (k : Ev g mX3_step d n0 nf post n 102 [some (.ref 81), some (.int v1), some (.int v2)] [.int (X 81 9), .ref 81] (lx_up X 81 10 (X 81 9))) : Ev g mX3_step d n0 nf post n 32 [some (.ref 81), some (.int v1), some (.int v2)] [] X := by
  refine ev_aload_n dX3_step_32 rfl ?_
  refine ev_getI dX3_step_33 fo_3_66 (by omega) lo_81 rfl ?_
  refine ev_aload_n dX3_step_36 rfl ?_
  refine ev_getI dX3_step_37 fo_3_18 (by omega) lo_81 rfl ?_
  refine ev_icmpF (tgt := 70) dX3_step_40 (by decide) c0 ?_
  refine ev_aload_n dX3_step_43 rfl ?_
  refine ev_getS (q := 82) dX3_step_44 fo_3_9 (by omega) lo_81 rfl (sh_81_0 hX (by omega)) (by decide) ?_
  refine ev_aload_n dX3_step_47 rfl ?_
  refine ev_getI dX3_step_48 fo_3_66 (by omega) lo_81 rfl ?_
  refine ev_iald dX3_step_51 (by omega) ly_82 hj1 b0 ?_
  refine ev_bipush (v := 32) dX3_step_52 kb_32 ?_
  refine ev_icmpT (tgt := 70) dX3_step_54 (by decide) c1 ?_
  refine ev_aload_n dX3_step_70 rfl ?_
  refine ev_aload_n dX3_step_71 rfl ?_
  refine ev_getI dX3_step_72 fo_3_66 (by omega) lo_81 rfl ?_
  refine ev_putI dX3_step_75 fo_3_34 (by omega) lo_81 rfl rfl rfl ?_
  have hX1 : Sh _ (lx_up X 81 10 (X 81 9)) := Sh.upF hX (by rw [lo_81]; decide) (by decide)
  refine ev_aload_n dX3_step_78 rfl ?_
  refine ev_getI dX3_step_79 fo_3_66 (by omega) lo_81 rfl ?_
  refine ev_aload_n dX3_step_82 rfl ?_
  refine ev_getI dX3_step_83 fo_3_18 (by omega) lo_81 rfl ?_
  refine ev_icmpT (tgt := 97) dX3_step_86 (by decide) c2 ?_
  refine ev_aload_n dX3_step_97 rfl ?_
  refine ev_aload_n dX3_step_98 rfl ?_
  refine ev_getI dX3_step_99 fo_3_66 (by omega) lo_81 rfl ?_
  exact k
theorem bX3_step_32_5 {g : GG} {d n0 nf : Nat} {post : Option Value → LX → Prop} {n : Nat} {X : LX} (hn : 146 ≤ nf) (hX : Sh nf X) {v1 : Int32} {v2 : Int32} (c0 : X 81 1 ≤ X 81 9) (c1 : ¬ X 81 9 < X 81 1) (c2 : ¬ v1 = 0) (c3 : X 81 9 = v2) (hp : post none (lx_up (lx_up X 81 10 (X 81 9)) 81 8 0)) : Ev g mX3_step d n0 nf post nf 32 [some (.ref 81), some (.int v1), some (.int v2)] [] X := by
  refine ev_aload_n dX3_step_32 rfl ?_
  refine ev_getI dX3_step_33 fo_3_66 (by omega) lo_81 rfl ?_
  refine ev_aload_n dX3_step_36 rfl ?_
  refine ev_getI dX3_step_37 fo_3_18 (by omega) lo_81 rfl ?_
  refine ev_icmpT (tgt := 70) dX3_step_40 (by decide) c0 ?_
  refine ev_aload_n dX3_step_70 rfl ?_
  refine ev_aload_n dX3_step_71 rfl ?_
  refine ev_getI dX3_step_72 fo_3_66 (by omega) lo_81 rfl ?_
  refine ev_putI dX3_step_75 fo_3_34 (by omega) lo_81 rfl rfl rfl ?_
  have hX1 : Sh _ (lx_up X 81 10 (X 81 9)) := Sh.upF hX (by rw [lo_81]; decide) (by decide)
  refine ev_aload_n dX3_step_78 rfl ?_
  refine ev_getI dX3_step_79 fo_3_66 (by omega) lo_81 rfl ?_
  refine ev_aload_n dX3_step_82 rfl ?_
  refine ev_getI dX3_step_83 fo_3_18 (by omega) lo_81 rfl ?_
  refine ev_icmpF (tgt := 97) dX3_step_86 (by decide) c1 ?_
  refine ev_aload_n dX3_step_89 rfl ?_
  refine ev_iconst (v := 0) dX3_step_90 ki_0 ?_
  refine ev_putI dX3_step_91 fo_3_31 (by omega) lo_81 rfl rfl rfl ?_
  have hX2 : Sh _ (lx_up (lx_up X 81 10 (X 81 9)) 81 8 0) := Sh.upF hX1 (by rw [lo_81]; decide) (by decide)
  refine ev_goto (tgt := 235) dX3_step_94 (by decide) ?_
  refine ev_iload_n dX3_step_235 rfl ?_
  refine ev_ifF (tgt := 268) dX3_step_236 (by decide) c2 ?_
  refine ev_aload_n dX3_step_239 rfl ?_
  refine ev_getI dX3_step_240 fo_3_66 (by omega) lo_81 rfl ?_
  refine ev_iload_n dX3_step_243 rfl ?_
  refine ev_icmpF (tgt := 268) dX3_step_244 (by decide) c3 ?_
  refine ev_aload_n dX3_step_247 rfl ?_
  refine ev_getI dX3_step_248 fo_3_31 (by omega) lo_81 rfl ?_
  refine ev_iconst (v := 1) dX3_step_251 ki_1 ?_
  refine ev_icmpF (tgt := 263) dX3_step_252 (by decide) (by show ¬ (0 : Int32) = 1; decide) ?_
  refine ev_aload_n dX3_step_255 rfl ?_
  refine ev_getI dX3_step_256 fo_3_31 (by omega) lo_81 rfl ?_
  refine ev_iconst (v := 2) dX3_step_259 ki_2 ?_
  refine ev_icmpT (tgt := 268) dX3_step_260 (by decide) (by show ¬ (0 : Int32) = 2; decide) ?_
  exact ev_ret dX3_step_268 rfl hp
theorem bX3_step_32_6 {g : GG} {d n0 nf : Nat} {post : Option Value → LX → Prop} {n : Nat} {X : LX} (hn : 146 ≤ nf) (hX : Sh nf X) {v1 : Int32} {v2 : Int32} (c0 : X 81 1 ≤ X 81 9) (c1 : ¬ X 81 9 < X 81 1) (c2 : ¬ v1 = 0) (c3 : ¬ X 81 9 = v2) (hp : post none (lx_up (lx_up X 81 10 (X 81 9)) 81 8 0)) : Ev g mX3_step d n0 nf post nf 32 [some (.ref 81), some (.int v1), some (.int v2)] [] X := by
  refine ev_aload_n dX3_step_32 rfl ?_
  refine ev_getI dX3_step_33 fo_3_66 (by omega) lo_81 rfl ?_
  refine ev_aload_n dX3_step_36 rfl ?_
  refine ev_getI dX3_step_37 fo_3_18 (by omega) lo_81 rfl ?_
  refine ev_icmpT (tgt := 70) dX3_step_40 (by decide) c0 ?_
  refine ev_aload_n dX3_step_70 rfl ?_
  refine ev_aload_n dX3_step_71 rfl ?_
  refine ev_getI dX3_step_72 fo_3_66 (by omega) lo_81 rfl ?_
  refine ev_putI dX3_step_75 fo_3_34 (by omega) lo_81 rfl rfl rfl ?_
  have hX1 : Sh _ (lx_up X 81 10 (X 81 9)) := Sh.upF hX (by rw [lo_81]; decide) (by decide)
  refine ev_aload_n dX3_step_78 rfl ?_
  refine ev_getI dX3_step_79 fo_3_66 (by omega) lo_81 rfl ?_
  refine ev_aload_n dX3_step_82 rfl ?_
  refine ev_getI dX3_step_83 fo_3_18 (by omega) lo_81 rfl ?_
  refine ev_icmpF (tgt := 97) dX3_step_86 (by decide) c1 ?_
  refine ev_aload_n dX3_step_89 rfl ?_
  refine ev_iconst (v := 0) dX3_step_90 ki_0 ?_
  refine ev_putI dX3_step_91 fo_3_31 (by omega) lo_81 rfl rfl rfl ?_
  have hX2 : Sh _ (lx_up (lx_up X 81 10 (X 81 9)) 81 8 0) := Sh.upF hX1 (by rw [lo_81]; decide) (by decide)
  refine ev_goto (tgt := 235) dX3_step_94 (by decide) ?_
  refine ev_iload_n dX3_step_235 rfl ?_
  refine ev_ifF (tgt := 268) dX3_step_236 (by decide) c2 ?_
  refine ev_aload_n dX3_step_239 rfl ?_
  refine ev_getI dX3_step_240 fo_3_66 (by omega) lo_81 rfl ?_
  refine ev_iload_n dX3_step_243 rfl ?_
  refine ev_icmpT (tgt := 268) dX3_step_244 (by decide) c3 ?_
  exact ev_ret dX3_step_268 rfl hp
theorem bX3_step_32_7 {g : GG} {d n0 nf : Nat} {post : Option Value → LX → Prop} {n : Nat} {X : LX} (hn : 146 ≤ nf) (hX : Sh nf X) {v1 : Int32} {v2 : Int32} (c0 : X 81 1 ≤ X 81 9) (c1 : ¬ X 81 9 < X 81 1) (c2 : v1 = 0) (hp : post none (lx_up (lx_up X 81 10 (X 81 9)) 81 8 0)) : Ev g mX3_step d n0 nf post nf 32 [some (.ref 81), some (.int v1), some (.int v2)] [] X := by
  refine ev_aload_n dX3_step_32 rfl ?_
  refine ev_getI dX3_step_33 fo_3_66 (by omega) lo_81 rfl ?_
  refine ev_aload_n dX3_step_36 rfl ?_
  refine ev_getI dX3_step_37 fo_3_18 (by omega) lo_81 rfl ?_
  refine ev_icmpT (tgt := 70) dX3_step_40 (by decide) c0 ?_
  refine ev_aload_n dX3_step_70 rfl ?_
  refine ev_aload_n dX3_step_71 rfl ?_
  refine ev_getI dX3_step_72 fo_3_66 (by omega) lo_81 rfl ?_
  refine ev_putI dX3_step_75 fo_3_34 (by omega) lo_81 rfl rfl rfl ?_
  have hX1 : Sh _ (lx_up X 81 10 (X 81 9)) := Sh.upF hX (by rw [lo_81]; decide) (by decide)
  refine ev_aload_n dX3_step_78 rfl ?_
  refine ev_getI dX3_step_79 fo_3_66 (by omega) lo_81 rfl ?_
  refine ev_aload_n dX3_step_82 rfl ?_
  refine ev_getI dX3_step_83 fo_3_18 (by omega) lo_81 rfl ?_
  refine ev_icmpF (tgt := 97) dX3_step_86 (by decide) c1 ?_
  refine ev_aload_n dX3_step_89 rfl ?_
  refine ev_iconst (v := 0) dX3_step_90 ki_0 ?_
  refine ev_putI dX3_step_91 fo_3_31 (by omega) lo_81 rfl rfl rfl ?_
  have hX2 : Sh _ (lx_up (lx_up X 81 10 (X 81 9)) 81 8 0) := Sh.upF hX1 (by rw [lo_81]; decide) (by decide)
  refine ev_goto (tgt := 235) dX3_step_94 (by decide) ?_
  refine ev_iload_n dX3_step_235 rfl ?_
  refine ev_ifT (tgt := 268) dX3_step_236 (by decide) c2 ?_
  exact ev_ret dX3_step_268 rfl hp
theorem bX3_step_32_8 {g : GG} {d n0 nf : Nat} {post : Option Value → LX → Prop} {n : Nat} {X : LX} (hn : 146 ≤ n) (hX : Sh n X) {v1 : Int32} {v2 : Int32} (c0 : X 81 1 ≤ X 81 9) (c1 : X 81 9 < X 81 1) (k : Ev g mX3_step d n0 nf post n 102 [some (.ref 81), some (.int v1), some (.int v2)] [.int (X 81 9), .ref 81] (lx_up X 81 10 (X 81 9))) : Ev g mX3_step d n0 nf post n 32 [some (.ref 81), some (.int v1), some (.int v2)] [] X := by
  refine ev_aload_n dX3_step_32 rfl ?_
  refine ev_getI dX3_step_33 fo_3_66 (by omega) lo_81 rfl ?_
  refine ev_aload_n dX3_step_36 rfl ?_
  refine ev_getI dX3_step_37 fo_3_18 (by omega) lo_81 rfl ?_
  refine ev_icmpT (tgt := 70) dX3_step_40 (by decide) c0 ?_
  refine ev_aload_n dX3_step_70 rfl ?_
  refine ev_aload_n dX3_step_71 rfl ?_
  refine ev_getI dX3_step_72 fo_3_66 (by omega) lo_81 rfl ?_
  refine ev_putI dX3_step_75 fo_3_34 (by omega) lo_81 rfl rfl rfl ?_
  have hX1 : Sh _ (lx_up X 81 10 (X 81 9)) := Sh.upF hX (by rw [lo_81]; decide) (by decide)
  refine ev_aload_n dX3_step_78 rfl ?_
  refine ev_getI dX3_step_79 fo_3_66 (by omega) lo_81 rfl ?_
  refine ev_aload_n dX3_step_82 rfl ?_
  refine ev_getI dX3_step_83 fo_3_18 (by omega) lo_81 rfl ?_
  refine ev_icmpT (tgt := 97) dX3_step_86 (by decide) c1 ?_
  refine ev_aload_n dX3_step_97 rfl ?_
  refine ev_aload_n dX3_step_98 rfl ?_
  refine ev_getI dX3_step_99 fo_3_66 (by omega) lo_81 rfl ?_
  exact k
theorem bX3_step_105_0 {g : GG} {d n0 nf : Nat} {post : Option Value → LX → Prop} {n : Nat} {X : LX} (hn : 146 ≤ n) (hX : Sh n X) {v1 : Int32} {v2 : Int32} {s0 : Int32} (c0 : ¬ s0 = 0) (k : Ev g mX3_step d n0 nf post n 113 [some (.ref 81), some (.int v1), some (.int v2)] [] (lx_up X 81 8 1)) : Ev g mX3_step d n0 nf post n 105 [some (.ref 81), some (.int v1), some (.int v2)] [.int s0] X := by
  refine ev_ifF (tgt := 148) dX3_step_105 (by decide) c0 ?_
  refine ev_aload_n dX3_step_108 rfl ?_
  refine ev_iconst (v := 1) dX3_step_109 ki_1 ?_
  refine ev_putI dX3_step_110 fo_3_31 (by omega) lo_81 rfl rfl rfl ?_
  have hX1 : Sh _ (lx_up X 81 8 1) := Sh.upF hX (by rw [lo_81]; decide) (by decide)
  exact k
theorem bX3_step_105_1 {g : GG} {d n0 nf : Nat} {post : Option Value → LX → Prop} {n : Nat} {X : LX} (hn : 146 ≤ n) (hX : Sh n X) {v1 : Int32} {v2 : Int32} {s0 : Int32} (c0 : s0 = 0) (k : Ev g mX3_step d n0 nf post n 153 [some (.ref 81), some (.int v1), some (.int v2)] [.int (X 81 9), .ref 81] X) : Ev g mX3_step d n0 nf post n 105 [some (.ref 81), some (.int v1), some (.int v2)] [.int s0] X := by
  refine ev_ifT (tgt := 148) dX3_step_105 (by decide) c0 ?_
  refine ev_aload_n dX3_step_148 rfl ?_
  refine ev_aload_n dX3_step_149 rfl ?_
  refine ev_getI dX3_step_150 fo_3_66 (by omega) lo_81 rfl ?_
  exact k
theorem bX3_step_113_0 {g : GG} {d n0 nf : Nat} {post : Option Value → LX → Prop} {n : Nat} {X : LX} (hn : 146 ≤ n) (hX : Sh n X) {v1 : Int32} {v2 : Int32} (c0 : ¬ X 81 1 ≤ X 81 10) (k : Ev g mX3_step d n0 nf post n 129 [some (.ref 81), some (.int v1), some (.int v2)] [.int (X 81 10), .ref 81] X) : Ev g mX3_step d n0 nf post n 113 [some (.ref 81), some (.int v1), some (.int v2)] [] X := by
  refine ev_aload_n dX3_step_113 rfl ?_
  refine ev_getI dX3_step_114 fo_3_34 (by omega) lo_81 rfl ?_
  refine ev_aload_n dX3_step_117 rfl ?_
  refine ev_getI dX3_step_118 fo_3_18 (by omega) lo_81 rfl ?_
  refine ev_icmpF (tgt := 235) dX3_step_121 (by decide) c0 ?_
  refine ev_aload_n dX3_step_124 rfl ?_
  refine ev_aload_n dX3_step_125 rfl ?_
  refine ev_getI dX3_step_126 fo_3_34 (by omega) lo_81 rfl ?_
  exact k
theorem bX3_step_113_1 {g : GG} {d n0 nf : Nat} {post : Option Value → LX → Prop} {n : Nat} {X : LX} (hn : 146 ≤ nf) (hX : Sh nf X) {v1 : Int32} {v2 : Int32} (c0 : X 81 1 ≤ X 81 10) (c1 : ¬ v1 = 0) (c2 : X 81 9 = v2) (c3 : ¬ X 81 8 = 1) (c4 : X 81 8 = 2) (hp : post none (lx_up X 81 8 4)) : Ev g mX3_step d n0 nf post nf 113 [some (.ref 81), some (.int v1), some (.int v2)] [] X := by
  refine ev_aload_n dX3_step_113 rfl ?_
  refine ev_getI dX3_step_114 fo_3_34 (by omega) lo_81 rfl ?_
  refine ev_aload_n dX3_step_117 rfl ?_
  refine ev_getI dX3_step_118 fo_3_18 (by omega) lo_81 rfl ?_
  refine ev_icmpT (tgt := 235) dX3_step_121 (by decide) c0 ?_
  refine ev_iload_n dX3_step_235 rfl ?_
  refine ev_ifF (tgt := 268) dX3_step_236 (by decide) c1 ?_
  refine ev_aload_n dX3_step_239 rfl ?_
  refine ev_getI dX3_step_240 fo_3_66 (by omega) lo_81 rfl ?_
  refine ev_iload_n dX3_step_243 rfl ?_
  refine ev_icmpF (tgt := 268) dX3_step_244 (by decide) c2 ?_
  refine ev_aload_n dX3_step_247 rfl ?_
  refine ev_getI dX3_step_248 fo_3_31 (by omega) lo_81 rfl ?_
  refine ev_iconst (v := 1) dX3_step_251 ki_1 ?_
  refine ev_icmpF (tgt := 263) dX3_step_252 (by decide) c3 ?_
  refine ev_aload_n dX3_step_255 rfl ?_
  refine ev_getI dX3_step_256 fo_3_31 (by omega) lo_81 rfl ?_
  refine ev_iconst (v := 2) dX3_step_259 ki_2 ?_
  refine ev_icmpF (tgt := 268) dX3_step_260 (by decide) c4 ?_
  refine ev_aload_n dX3_step_263 rfl ?_
  refine ev_iconst (v := 4) dX3_step_264 ki_4 ?_
  refine ev_putI dX3_step_265 fo_3_31 (by omega) lo_81 rfl rfl rfl ?_
  have hX1 : Sh _ (lx_up X 81 8 4) := Sh.upF hX (by rw [lo_81]; decide) (by decide)
  exact ev_ret dX3_step_268 rfl hp
theorem bX3_step_113_2 {g : GG} {d n0 nf : Nat} {post : Option Value → LX → Prop} {n : Nat} {X : LX} (hn : 146 ≤ nf) (hX : Sh nf X) {v1 : Int32} {v2 : Int32} (c0 : X 81 1 ≤ X 81 10) (c1 : ¬ v1 = 0) (c2 : X 81 9 = v2) (c3 : ¬ X 81 8 = 1) (c4 : ¬ X 81 8 = 2) (hp : post none X) : Ev g mX3_step d n0 nf post nf 113 [some (.ref 81), some (.int v1), some (.int v2)] [] X := by
  refine ev_aload_n dX3_step_113 rfl ?_
  refine ev_getI dX3_step_114 fo_3_34 (by omega) lo_81 rfl ?_
  refine ev_aload_n dX3_step_117 rfl ?_
  refine ev_getI dX3_step_118 fo_3_18 (by omega) lo_81 rfl ?_
  refine ev_icmpT (tgt := 235) dX3_step_121 (by decide) c0 ?_
  refine ev_iload_n dX3_step_235 rfl ?_
  refine ev_ifF (tgt := 268) dX3_step_236 (by decide) c1 ?_
  refine ev_aload_n dX3_step_239 rfl ?_
  refine ev_getI dX3_step_240 fo_3_66 (by omega) lo_81 rfl ?_
  refine ev_iload_n dX3_step_243 rfl ?_
  refine ev_icmpF (tgt := 268) dX3_step_244 (by decide) c2 ?_
  refine ev_aload_n dX3_step_247 rfl ?_
  refine ev_getI dX3_step_248 fo_3_31 (by omega) lo_81 rfl ?_
  refine ev_iconst (v := 1) dX3_step_251 ki_1 ?_
  refine ev_icmpF (tgt := 263) dX3_step_252 (by decide) c3 ?_
  refine ev_aload_n dX3_step_255 rfl ?_
  refine ev_getI dX3_step_256 fo_3_31 (by omega) lo_81 rfl ?_
  refine ev_iconst (v := 2) dX3_step_259 ki_2 ?_
  refine ev_icmpT (tgt := 268) dX3_step_260 (by decide) c4 ?_
  exact ev_ret dX3_step_268 rfl hp
theorem bX3_step_113_3 {g : GG} {d n0 nf : Nat} {post : Option Value → LX → Prop} {n : Nat} {X : LX} (hn : 146 ≤ nf) (hX : Sh nf X) {v1 : Int32} {v2 : Int32} (c0 : X 81 1 ≤ X 81 10) (c1 : ¬ v1 = 0) (c2 : X 81 9 = v2) (c3 : X 81 8 = 1) (hp : post none (lx_up X 81 8 4)) : Ev g mX3_step d n0 nf post nf 113 [some (.ref 81), some (.int v1), some (.int v2)] [] X := by
  refine ev_aload_n dX3_step_113 rfl ?_
  refine ev_getI dX3_step_114 fo_3_34 (by omega) lo_81 rfl ?_
  refine ev_aload_n dX3_step_117 rfl ?_
  refine ev_getI dX3_step_118 fo_3_18 (by omega) lo_81 rfl ?_
  refine ev_icmpT (tgt := 235) dX3_step_121 (by decide) c0 ?_
  refine ev_iload_n dX3_step_235 rfl ?_
  refine ev_ifF (tgt := 268) dX3_step_236 (by decide) c1 ?_
  refine ev_aload_n dX3_step_239 rfl ?_
  refine ev_getI dX3_step_240 fo_3_66 (by omega) lo_81 rfl ?_
  refine ev_iload_n dX3_step_243 rfl ?_
  refine ev_icmpF (tgt := 268) dX3_step_244 (by decide) c2 ?_
  refine ev_aload_n dX3_step_247 rfl ?_
  refine ev_getI dX3_step_248 fo_3_31 (by omega) lo_81 rfl ?_
  refine ev_iconst (v := 1) dX3_step_251 ki_1 ?_
  refine ev_icmpT (tgt := 263) dX3_step_252 (by decide) c3 ?_
  refine ev_aload_n dX3_step_263 rfl ?_
  refine ev_iconst (v := 4) dX3_step_264 ki_4 ?_
  refine ev_putI dX3_step_265 fo_3_31 (by omega) lo_81 rfl rfl rfl ?_
  have hX1 : Sh _ (lx_up X 81 8 4) := Sh.upF hX (by rw [lo_81]; decide) (by decide)
  exact ev_ret dX3_step_268 rfl hp
theorem bX3_step_113_4 {g : GG} {d n0 nf : Nat} {post : Option Value → LX → Prop} {n : Nat} {X : LX} (hn : 146 ≤ nf) (hX : Sh nf X) {v1 : Int32} {v2 : Int32} (c0 : X 81 1 ≤ X 81 10) (c1 : ¬ v1 = 0) (c2 : ¬ X 81 9 = v2) (hp : post none X) : Ev g mX3_step d n0 nf post nf 113 [some (.ref 81), some (.int v1), some (.int v2)] [] X := by
  refine ev_aload_n dX3_step_113 rfl ?_
  refine ev_getI dX3_step_114 fo_3_34 (by omega) lo_81 rfl ?_
  refine ev_aload_n dX3_step_117 rfl ?_
  refine ev_getI dX3_step_118 fo_3_18 (by omega) lo_81 rfl ?_
  refine ev_icmpT (tgt := 235) dX3_step_121 (by decide) c0 ?_
  refine ev_iload_n dX3_step_235 rfl ?_
  refine ev_ifF (tgt := 268) dX3_step_236 (by decide) c1 ?_
  refine ev_aload_n dX3_step_239 rfl ?_
  refine ev_getI dX3_step_240 fo_3_66 (by omega) lo_81 rfl ?_
  refine ev_iload_n dX3_step_243 rfl ?_
  refine ev_icmpT (tgt := 268) dX3_step_244 (by decide) c2 ?_
  exact ev_ret dX3_step_268 rfl hp
theorem bX3_step_113_5 {g : GG} {d n0 nf : Nat} {post : Option Value → LX → Prop} {n : Nat} {X : LX} (hn : 146 ≤ nf) (hX : Sh nf X) {v1 : Int32} {v2 : Int32} (c0 : X 81 1 ≤ X 81 10) (c1 : v1 = 0) (hp : post none X) : Ev g mX3_step d n0 nf post nf 113 [some (.ref 81), some (.int v1), some (.int v2)] [] X := by
  refine ev_aload_n dX3_step_113 rfl ?_
  refine ev_getI dX3_step_114 fo_3_34 (by omega) lo_81 rfl ?_
  refine ev_aload_n dX3_step_117 rfl ?_
  refine ev_getI dX3_step_118 fo_3_18 (by omega) lo_81 rfl ?_
  refine ev_icmpT (tgt := 235) dX3_step_121 (by decide) c0 ?_
  refine ev_iload_n dX3_step_235 rfl ?_
  refine ev_ifT (tgt := 268) dX3_step_236 (by decide) c1 ?_
  exact ev_ret dX3_step_268 rfl hp
theorem bX3_step_132_0 {g : GG} {d n0 nf : Nat} {post : Option Value → LX → Prop} {n : Nat} {X : LX} (hn : 146 ≤ n) (hX : Sh n X) {v1 : Int32} {v2 : Int32} {s0 : Int32} (c0 : ¬ s0 = 0) (k : Ev g mX3_step d n0 nf post n 113 [some (.ref 81), some (.int v1), some (.int v2)] [] (lx_up X 81 10 ((X 81 10) + 1))) : Ev g mX3_step d n0 nf post n 132 [some (.ref 81), some (.int v1), some (.int v2)] [.int s0] X := by
  refine ev_ifF (tgt := 235) dX3_step_132 (by decide) c0 ?_
  refine ev_aload_n dX3_step_135 rfl ?_
  refine ev_dup dX3_step_136 rfl ?_
  refine ev_getI dX3_step_137 fo_3_34 (by omega) lo_81 rfl ?_
  refine ev_iconst (v := 1) dX3_step_140 ki_1 ?_
  refine ev_iadd dX3_step_141 ?_
  refine ev_putI dX3_step_142 fo_3_34 (by omega) lo_81 rfl rfl rfl ?_
  have hX1 : Sh _ (lx_up X 81 10 ((X 81 10) + 1)) := Sh.upF hX (by rw [lo_81]; decide) (by decide)
  refine ev_goto (tgt := 113) dX3_step_145 (by decide) ?_
  exact k
theorem bX3_step_132_1 {g : GG} {d n0 nf : Nat} {post : Option Value → LX → Prop} {n : Nat} {X : LX} (hn : 146 ≤ nf) (hX : Sh nf X) {v1 : Int32} {v2 : Int32} {s0 : Int32} (c0 : s0 = 0) (c1 : ¬ v1 = 0) (c2 : X 81 9 = v2) (c3 : ¬ X 81 8 = 1) (c4 : X 81 8 = 2) (hp : post none (lx_up X 81 8 4)) : Ev g mX3_step d n0 nf post nf 132 [some (.ref 81), some (.int v1), some (.int v2)] [.int s0] X := by
  refine ev_ifT (tgt := 235) dX3_step_132 (by decide) c0 ?_
  refine ev_iload_n dX3_step_235 rfl ?_
  refine ev_ifF (tgt := 268) dX3_step_236 (by decide) c1 ?_
  refine ev_aload_n dX3_step_239 rfl ?_
  refine ev_getI dX3_step_240 fo_3_66 (by omega) lo_81 rfl ?_
  refine ev_iload_n dX3_step_243 rfl ?_
  refine ev_icmpF (tgt := 268) dX3_step_244 (by decide) c2 ?_
  refine ev_aload_n dX3_step_247 rfl ?_
  refine ev_getI dX3_step_248 fo_3_31 (by omega) lo_81 rfl ?_
  refine ev_iconst (v := 1) dX3_step_251 ki_1 ?_
  refine ev_icmpF (tgt := 263) dX3_step_252 (by decide) c3 ?_
  refine ev_aload_n dX3_step_255 rfl ?_
  refine ev_getI dX3_step_256 fo_3_31 (by omega) lo_81 rfl ?_
  refine ev_iconst (v := 2) dX3_step_259 ki_2 ?_
  refine ev_icmpF (tgt := 268) dX3_step_260 (by decide) c4 ?_
  refine ev_aload_n dX3_step_263 rfl ?_
  refine ev_iconst (v := 4) dX3_step_264 ki_4 ?_
  refine ev_putI dX3_step_265 fo_3_31 (by omega) lo_81 rfl rfl rfl ?_
  have hX1 : Sh _ (lx_up X 81 8 4) := Sh.upF hX (by rw [lo_81]; decide) (by decide)
  exact ev_ret dX3_step_268 rfl hp
theorem bX3_step_132_2 {g : GG} {d n0 nf : Nat} {post : Option Value → LX → Prop} {n : Nat} {X : LX} (hn : 146 ≤ nf) (hX : Sh nf X) {v1 : Int32} {v2 : Int32} {s0 : Int32} (c0 : s0 = 0) (c1 : ¬ v1 = 0) (c2 : X 81 9 = v2) (c3 : ¬ X 81 8 = 1) (c4 : ¬ X 81 8 = 2) (hp : post none X) : Ev g mX3_step d n0 nf post nf 132 [some (.ref 81), some (.int v1), some (.int v2)] [.int s0] X := by
  refine ev_ifT (tgt := 235) dX3_step_132 (by decide) c0 ?_
  refine ev_iload_n dX3_step_235 rfl ?_
  refine ev_ifF (tgt := 268) dX3_step_236 (by decide) c1 ?_
  refine ev_aload_n dX3_step_239 rfl ?_
  refine ev_getI dX3_step_240 fo_3_66 (by omega) lo_81 rfl ?_
  refine ev_iload_n dX3_step_243 rfl ?_
  refine ev_icmpF (tgt := 268) dX3_step_244 (by decide) c2 ?_
  refine ev_aload_n dX3_step_247 rfl ?_
  refine ev_getI dX3_step_248 fo_3_31 (by omega) lo_81 rfl ?_
  refine ev_iconst (v := 1) dX3_step_251 ki_1 ?_
  refine ev_icmpF (tgt := 263) dX3_step_252 (by decide) c3 ?_
  refine ev_aload_n dX3_step_255 rfl ?_
  refine ev_getI dX3_step_256 fo_3_31 (by omega) lo_81 rfl ?_
  refine ev_iconst (v := 2) dX3_step_259 ki_2 ?_
  refine ev_icmpT (tgt := 268) dX3_step_260 (by decide) c4 ?_
  exact ev_ret dX3_step_268 rfl hp
theorem bX3_step_132_3 {g : GG} {d n0 nf : Nat} {post : Option Value → LX → Prop} {n : Nat} {X : LX} (hn : 146 ≤ nf) (hX : Sh nf X) {v1 : Int32} {v2 : Int32} {s0 : Int32} (c0 : s0 = 0) (c1 : ¬ v1 = 0) (c2 : X 81 9 = v2) (c3 : X 81 8 = 1) (hp : post none (lx_up X 81 8 4)) : Ev g mX3_step d n0 nf post nf 132 [some (.ref 81), some (.int v1), some (.int v2)] [.int s0] X := by
  refine ev_ifT (tgt := 235) dX3_step_132 (by decide) c0 ?_
  refine ev_iload_n dX3_step_235 rfl ?_
  refine ev_ifF (tgt := 268) dX3_step_236 (by decide) c1 ?_
  refine ev_aload_n dX3_step_239 rfl ?_
  refine ev_getI dX3_step_240 fo_3_66 (by omega) lo_81 rfl ?_
  refine ev_iload_n dX3_step_243 rfl ?_
  refine ev_icmpF (tgt := 268) dX3_step_244 (by decide) c2 ?_
  refine ev_aload_n dX3_step_247 rfl ?_
  refine ev_getI dX3_step_248 fo_3_31 (by omega) lo_81 rfl ?_
  refine ev_iconst (v := 1) dX3_step_251 ki_1 ?_
  refine ev_icmpT (tgt := 263) dX3_step_252 (by decide) c3 ?_
  refine ev_aload_n dX3_step_263 rfl ?_
  refine ev_iconst (v := 4) dX3_step_264 ki_4 ?_
  refine ev_putI dX3_step_265 fo_3_31 (by omega) lo_81 rfl rfl rfl ?_
  have hX1 : Sh _ (lx_up X 81 8 4) := Sh.upF hX (by rw [lo_81]; decide) (by decide)
  exact ev_ret dX3_step_268 rfl hp
theorem bX3_step_132_4 {g : GG} {d n0 nf : Nat} {post : Option Value → LX → Prop} {n : Nat} {X : LX} (hn : 146 ≤ nf) (hX : Sh nf X) {v1 : Int32} {v2 : Int32} {s0 : Int32} (c0 : s0 = 0) (c1 : ¬ v1 = 0) (c2 : ¬ X 81 9 = v2) (hp : post none X) : Ev g mX3_step d n0 nf post nf 132 [some (.ref 81), some (.int v1), some (.int v2)] [.int s0] X := by
  refine ev_ifT (tgt := 235) dX3_step_132 (by decide) c0 ?_
  refine ev_iload_n dX3_step_235 rfl ?_
  refine ev_ifF (tgt := 268) dX3_step_236 (by decide) c1 ?_
  refine ev_aload_n dX3_step_239 rfl ?_
  refine ev_getI dX3_step_240 fo_3_66 (by omega) lo_81 rfl ?_
  refine ev_iload_n dX3_step_243 rfl ?_
  refine ev_icmpT (tgt := 268) dX3_step_244 (by decide) c2 ?_
  exact ev_ret dX3_step_268 rfl hp
theorem bX3_step_132_5 {g : GG} {d n0 nf : Nat} {post : Option Value → LX → Prop} {n : Nat} {X : LX} (hn : 146 ≤ nf) (hX : Sh nf X) {v1 : Int32} {v2 : Int32} {s0 : Int32} (c0 : s0 = 0) (c1 : v1 = 0) (hp : post none X) : Ev g mX3_step d n0 nf post nf 132 [some (.ref 81), some (.int v1), some (.int v2)] [.int s0] X := by
  refine ev_ifT (tgt := 235) dX3_step_132 (by decide) c0 ?_
  refine ev_iload_n dX3_step_235 rfl ?_
  refine ev_ifT (tgt := 268) dX3_step_236 (by decide) c1 ?_
  exact ev_ret dX3_step_268 rfl hp
theorem bX3_step_156_0 {g : GG} {d n0 nf : Nat} {post : Option Value → LX → Prop} {n : Nat} {X : LX} (hn : 146 ≤ n) (hX : Sh n X) {v1 : Int32} {v2 : Int32} {s0 : Int32} (c0 : ¬ s0 = 0) (k : Ev g mX3_step d n0 nf post n 164 [some (.ref 81), some (.int v1), some (.int v2)] [] (lx_up X 81 8 2)) : Ev g mX3_step d n0 nf post n 156 [some (.ref 81), some (.int v1), some (.int v2)] [.int s0] X := by
  refine ev_ifF (tgt := 220) dX3_step_156 (by decide) c0 ?_
  refine ev_aload_n dX3_step_159 rfl ?_
  refine ev_iconst (v := 2) dX3_step_160 ki_2 ?_
  refine ev_putI dX3_step_161 fo_3_31 (by omega) lo_81 rfl rfl rfl ?_
  have hX1 : Sh _ (lx_up X 81 8 2) := Sh.upF hX (by rw [lo_81]; decide) (by decide)
  exact k
theorem bX3_step_156_1 {g : GG} {d n0 nf : Nat} {post : Option Value → LX → Prop} {n : Nat} {X : LX} (hn : 146 ≤ nf) (hX : Sh nf X) {v1 : Int32} {v2 : Int32} {s0 : Int32} (c0 : s0 = 0) (c1 : ¬ v1 = 0) (c2 : X 81 9 = v2) (hp : post none (lx_up (lx_up X 81 8 3) 81 10 ((X 81 10) + 1))) : Ev g mX3_step d n0 nf post nf 156 [some (.ref 81), some (.int v1), some (.int v2)] [.int s0] X := by
  refine ev_ifT (tgt := 220) dX3_step_156 (by decide) c0 ?_
  refine ev_aload_n dX3_step_220 rfl ?_
  refine ev_iconst (v := 3) dX3_step_221 ki_3 ?_
  refine ev_putI dX3_step_222 fo_3_31 (by omega) lo_81 rfl rfl rfl ?_
  have hX1 : Sh _ (lx_up X 81 8 3) := Sh.upF hX (by rw [lo_81]; decide) (by decide)
  refine ev_aload_n dX3_step_225 rfl ?_
  refine ev_dup dX3_step_226 rfl ?_
  refine ev_getI dX3_step_227 fo_3_34 (by omega) lo_81 rfl ?_
  refine ev_iconst (v := 1) dX3_step_230 ki_1 ?_
  refine ev_iadd dX3_step_231 ?_
  refine ev_putI dX3_step_232 fo_3_34 (by omega) lo_81 rfl rfl rfl ?_
  have hX2 : Sh _ (lx_up (lx_up X 81 8 3) 81 10 ((X 81 10) + 1)) := Sh.upF hX1 (by rw [lo_81]; decide) (by decide)
  refine ev_iload_n dX3_step_235 rfl ?_
  refine ev_ifF (tgt := 268) dX3_step_236 (by decide) c1 ?_
  refine ev_aload_n dX3_step_239 rfl ?_
  refine ev_getI dX3_step_240 fo_3_66 (by omega) lo_81 rfl ?_
  refine ev_iload_n dX3_step_243 rfl ?_
  refine ev_icmpF (tgt := 268) dX3_step_244 (by decide) c2 ?_
  refine ev_aload_n dX3_step_247 rfl ?_
  refine ev_getI dX3_step_248 fo_3_31 (by omega) lo_81 rfl ?_
  refine ev_iconst (v := 1) dX3_step_251 ki_1 ?_
  refine ev_icmpF (tgt := 263) dX3_step_252 (by decide) (by show ¬ (3 : Int32) = 1; decide) ?_
  refine ev_aload_n dX3_step_255 rfl ?_
  refine ev_getI dX3_step_256 fo_3_31 (by omega) lo_81 rfl ?_
  refine ev_iconst (v := 2) dX3_step_259 ki_2 ?_
  refine ev_icmpT (tgt := 268) dX3_step_260 (by decide) (by show ¬ (3 : Int32) = 2; decide) ?_
  exact ev_ret dX3_step_268 rfl hp
theorem bX3_step_156_2 {g : GG} {d n0 nf : Nat} {post : Option Value → LX → Prop} {n : Nat} {X : LX} (hn : 146 ≤ nf) (hX : Sh nf X) {v1 : Int32} {v2 : Int32} {s0 : Int32} (c0 : s0 = 0) (c1 : ¬ v1 = 0) (c2 : ¬ X 81 9 = v2) (hp : post none (lx_up (lx_up X 81 8 3) 81 10 ((X 81 10) + 1))) : Ev g mX3_step d n0 nf post nf 156 [some (.ref 81), some (.int v1), some (.int v2)] [.int s0] X := by
  refine ev_ifT (tgt := 220) dX3_step_156 (by decide) c0 ?_
  refine ev_aload_n dX3_step_220 rfl ?_
  refine ev_iconst (v := 3) dX3_step_221 ki_3 ?_
  refine ev_putI dX3_step_222 fo_3_31 (by omega) lo_81 rfl rfl rfl ?_
  have hX1 : Sh _ (lx_up X 81 8 3) := Sh.upF hX (by rw [lo_81]; decide) (by decide)
  refine ev_aload_n dX3_step_225 rfl ?_
  refine ev_dup dX3_step_226 rfl ?_
  refine ev_getI dX3_step_227 fo_3_34 (by omega) lo_81 rfl ?_
  refine ev_iconst (v := 1) dX3_step_230 ki_1 ?_
  refine ev_iadd dX3_step_231 ?_
  refine ev_putI dX3_step_232 fo_3_34 (by omega) lo_81 rfl rfl rfl ?_
  have hX2 : Sh _ (lx_up (lx_up X 81 8 3) 81 10 ((X 81 10) + 1)) := Sh.upF hX1 (by rw [lo_81]; decide) (by decide)
  refine ev_iload_n dX3_step_235 rfl ?_
  refine ev_ifF (tgt := 268) dX3_step_236 (by decide) c1 ?_
  refine ev_aload_n dX3_step_239 rfl ?_
  refine ev_getI dX3_step_240 fo_3_66 (by omega) lo_81 rfl ?_
  refine ev_iload_n dX3_step_243 rfl ?_
  refine ev_icmpT (tgt := 268) dX3_step_244 (by decide) c2 ?_
  exact ev_ret dX3_step_268 rfl hp
theorem bX3_step_156_3 {g : GG} {d n0 nf : Nat} {post : Option Value → LX → Prop} {n : Nat} {X : LX} (hn : 146 ≤ nf) (hX : Sh nf X) {v1 : Int32} {v2 : Int32} {s0 : Int32} (c0 : s0 = 0) (c1 : v1 = 0) (hp : post none (lx_up (lx_up X 81 8 3) 81 10 ((X 81 10) + 1))) : Ev g mX3_step d n0 nf post nf 156 [some (.ref 81), some (.int v1), some (.int v2)] [.int s0] X := by
  refine ev_ifT (tgt := 220) dX3_step_156 (by decide) c0 ?_
  refine ev_aload_n dX3_step_220 rfl ?_
  refine ev_iconst (v := 3) dX3_step_221 ki_3 ?_
  refine ev_putI dX3_step_222 fo_3_31 (by omega) lo_81 rfl rfl rfl ?_
  have hX1 : Sh _ (lx_up X 81 8 3) := Sh.upF hX (by rw [lo_81]; decide) (by decide)
  refine ev_aload_n dX3_step_225 rfl ?_
  refine ev_dup dX3_step_226 rfl ?_
  refine ev_getI dX3_step_227 fo_3_34 (by omega) lo_81 rfl ?_
  refine ev_iconst (v := 1) dX3_step_230 ki_1 ?_
  refine ev_iadd dX3_step_231 ?_
  refine ev_putI dX3_step_232 fo_3_34 (by omega) lo_81 rfl rfl rfl ?_
  have hX2 : Sh _ (lx_up (lx_up X 81 8 3) 81 10 ((X 81 10) + 1)) := Sh.upF hX1 (by rw [lo_81]; decide) (by decide)
  refine ev_iload_n dX3_step_235 rfl ?_
  refine ev_ifT (tgt := 268) dX3_step_236 (by decide) c1 ?_
  exact ev_ret dX3_step_268 rfl hp
theorem bX3_step_164_0 {g : GG} {d n0 nf : Nat} {post : Option Value → LX → Prop} {n : Nat} {X : LX} (hn : 146 ≤ n) (hX : Sh n X) {v1 : Int32} {v2 : Int32} (c0 : ¬ X 81 1 ≤ X 81 10) (k : Ev g mX3_step d n0 nf post n 180 [some (.ref 81), some (.int v1), some (.int v2)] [.int (X 81 10), .ref 81] X) : Ev g mX3_step d n0 nf post n 164 [some (.ref 81), some (.int v1), some (.int v2)] [] X := by
  refine ev_aload_n dX3_step_164 rfl ?_
  refine ev_getI dX3_step_165 fo_3_34 (by omega) lo_81 rfl ?_
  refine ev_aload_n dX3_step_168 rfl ?_
  refine ev_getI dX3_step_169 fo_3_18 (by omega) lo_81 rfl ?_
  refine ev_icmpF (tgt := 199) dX3_step_172 (by decide) c0 ?_
  refine ev_aload_n dX3_step_175 rfl ?_
  refine ev_aload_n dX3_step_176 rfl ?_
  refine ev_getI dX3_step_177 fo_3_34 (by omega) lo_81 rfl ?_
  exact k
theorem bX3_step_164_1 {g : GG} {d n0 nf : Nat} {post : Option Value → LX → Prop} {n : Nat} {X : LX} (hn : 146 ≤ nf) (hX : Sh nf X) {v1 : Int32} {v2 : Int32} (c0 : X 81 1 ≤ X 81 10) (c1 : ¬ (X 81 10) - (X 81 9) ≤ 5) (c2 : ¬ v1 = 0) (c3 : X 81 9 = v2) (hp : post none (lx_up X 81 8 4)) : Ev g mX3_step d n0 nf post nf 164 [some (.ref 81), some (.int v1), some (.int v2)] [] X := by
  refine ev_aload_n dX3_step_164 rfl ?_
  refine ev_getI dX3_step_165 fo_3_34 (by omega) lo_81 rfl ?_
  refine ev_aload_n dX3_step_168 rfl ?_
  refine ev_getI dX3_step_169 fo_3_18 (by omega) lo_81 rfl ?_
  refine ev_icmpT (tgt := 199) dX3_step_172 (by decide) c0 ?_
  refine ev_aload_n dX3_step_199 rfl ?_
  refine ev_getI dX3_step_200 fo_3_34 (by omega) lo_81 rfl ?_
  refine ev_aload_n dX3_step_203 rfl ?_
  refine ev_getI dX3_step_204 fo_3_66 (by omega) lo_81 rfl ?_
  refine ev_isub dX3_step_207 ?_
  refine ev_iconst (v := 5) dX3_step_208 ki_5 ?_
  refine ev_icmpF (tgt := 235) dX3_step_209 (by decide) c1 ?_
  refine ev_aload_n dX3_step_212 rfl ?_
  refine ev_iconst (v := 4) dX3_step_213 ki_4 ?_
  refine ev_putI dX3_step_214 fo_3_31 (by omega) lo_81 rfl rfl rfl ?_
  have hX1 : Sh _ (lx_up X 81 8 4) := Sh.upF hX (by rw [lo_81]; decide) (by decide)
  refine ev_goto (tgt := 235) dX3_step_217 (by decide) ?_
  refine ev_iload_n dX3_step_235 rfl ?_
  refine ev_ifF (tgt := 268) dX3_step_236 (by decide) c2 ?_
  refine ev_aload_n dX3_step_239 rfl ?_
  refine ev_getI dX3_step_240 fo_3_66 (by omega) lo_81 rfl ?_
  refine ev_iload_n dX3_step_243 rfl ?_
  refine ev_icmpF (tgt := 268) dX3_step_244 (by decide) c3 ?_
  refine ev_aload_n dX3_step_247 rfl ?_
  refine ev_getI dX3_step_248 fo_3_31 (by omega) lo_81 rfl ?_
  refine ev_iconst (v := 1) dX3_step_251 ki_1 ?_
  refine ev_icmpF (tgt := 263) dX3_step_252 (by decide) (by show ¬ (4 : Int32) = 1; decide) ?_
  refine ev_aload_n dX3_step_255 rfl ?_
  refine ev_getI dX3_step_256 fo_3_31 (by omega) lo_81 rfl ?_
  refine ev_iconst (v := 2) dX3_step_259 ki_2 ?_
  refine ev_icmpT (tgt := 268) dX3_step_260 (by decide) (by show ¬ (4 : Int32) = 2; decide) ?_
  exact ev_ret dX3_step_268 rfl hp
theorem bX3_step_164_2 {g : GG} {d n0 nf : Nat} {post : Option Value → LX → Prop} {n : Nat} {X : LX} (hn : 146 ≤ nf) (hX : Sh nf X) {v1 : Int32} {v2 : Int32} (c0 : X 81 1 ≤ X 81 10) (c1 : ¬ (X 81 10) - (X 81 9) ≤ 5) (c2 : ¬ v1 = 0) (c3 : ¬ X 81 9 = v2) (hp : post none (lx_up X 81 8 4)) : Ev g mX3_step d n0 nf post nf 164 [some (.ref 81), some (.int v1), some (.int v2)] [] X := by
  refine ev_aload_n dX3_step_164 rfl ?_
  refine ev_getI dX3_step_165 fo_3_34 (by omega) lo_81 rfl ?_
  refine ev_aload_n dX3_step_168 rfl ?_
  refine ev_getI dX3_step_169 fo_3_18 (by omega) lo_81 rfl ?_
  refine ev_icmpT (tgt := 199) dX3_step_172 (by decide) c0 ?_
  refine ev_aload_n dX3_step_199 rfl ?_
  refine ev_getI dX3_step_200 fo_3_34 (by omega) lo_81 rfl ?_
  refine ev_aload_n dX3_step_203 rfl ?_
  refine ev_getI dX3_step_204 fo_3_66 (by omega) lo_81 rfl ?_
  refine ev_isub dX3_step_207 ?_
  refine ev_iconst (v := 5) dX3_step_208 ki_5 ?_
  refine ev_icmpF (tgt := 235) dX3_step_209 (by decide) c1 ?_
  refine ev_aload_n dX3_step_212 rfl ?_
  refine ev_iconst (v := 4) dX3_step_213 ki_4 ?_
  refine ev_putI dX3_step_214 fo_3_31 (by omega) lo_81 rfl rfl rfl ?_
  have hX1 : Sh _ (lx_up X 81 8 4) := Sh.upF hX (by rw [lo_81]; decide) (by decide)
  refine ev_goto (tgt := 235) dX3_step_217 (by decide) ?_
  refine ev_iload_n dX3_step_235 rfl ?_
  refine ev_ifF (tgt := 268) dX3_step_236 (by decide) c2 ?_
  refine ev_aload_n dX3_step_239 rfl ?_
  refine ev_getI dX3_step_240 fo_3_66 (by omega) lo_81 rfl ?_
  refine ev_iload_n dX3_step_243 rfl ?_
  refine ev_icmpT (tgt := 268) dX3_step_244 (by decide) c3 ?_
  exact ev_ret dX3_step_268 rfl hp
theorem bX3_step_164_3 {g : GG} {d n0 nf : Nat} {post : Option Value → LX → Prop} {n : Nat} {X : LX} (hn : 146 ≤ nf) (hX : Sh nf X) {v1 : Int32} {v2 : Int32} (c0 : X 81 1 ≤ X 81 10) (c1 : ¬ (X 81 10) - (X 81 9) ≤ 5) (c2 : v1 = 0) (hp : post none (lx_up X 81 8 4)) : Ev g mX3_step d n0 nf post nf 164 [some (.ref 81), some (.int v1), some (.int v2)] [] X := by
  refine ev_aload_n dX3_step_164 rfl ?_
  refine ev_getI dX3_step_165 fo_3_34 (by omega) lo_81 rfl ?_
  refine ev_aload_n dX3_step_168 rfl ?_
  refine ev_getI dX3_step_169 fo_3_18 (by omega) lo_81 rfl ?_
  refine ev_icmpT (tgt := 199) dX3_step_172 (by decide) c0 ?_
  refine ev_aload_n dX3_step_199 rfl ?_
  refine ev_getI dX3_step_200 fo_3_34 (by omega) lo_81 rfl ?_
  refine ev_aload_n dX3_step_203 rfl ?_
  refine ev_getI dX3_step_204 fo_3_66 (by omega) lo_81 rfl ?_
  refine ev_isub dX3_step_207 ?_
  refine ev_iconst (v := 5) dX3_step_208 ki_5 ?_
  refine ev_icmpF (tgt := 235) dX3_step_209 (by decide) c1 ?_
  refine ev_aload_n dX3_step_212 rfl ?_
  refine ev_iconst (v := 4) dX3_step_213 ki_4 ?_
  refine ev_putI dX3_step_214 fo_3_31 (by omega) lo_81 rfl rfl rfl ?_
  have hX1 : Sh _ (lx_up X 81 8 4) := Sh.upF hX (by rw [lo_81]; decide) (by decide)
  refine ev_goto (tgt := 235) dX3_step_217 (by decide) ?_
  refine ev_iload_n dX3_step_235 rfl ?_
  refine ev_ifT (tgt := 268) dX3_step_236 (by decide) c2 ?_
  exact ev_ret dX3_step_268 rfl hp
theorem bX3_step_164_4 {g : GG} {d n0 nf : Nat} {post : Option Value → LX → Prop} {n : Nat} {X : LX} (hn : 146 ≤ nf) (hX : Sh nf X) {v1 : Int32} {v2 : Int32} (c0 : X 81 1 ≤ X 81 10) (c1 : (X 81 10) - (X 81 9) ≤ 5) (c2 : ¬ v1 = 0) (c3 : X 81 9 = v2) (c4 : ¬ X 81 8 = 1) (c5 : X 81 8 = 2) (hp : post none (lx_up X 81 8 4)) : Ev g mX3_step d n0 nf post nf 164 [some (.ref 81), some (.int v1), some (.int v2)] [] X := by
  refine ev_aload_n dX3_step_164 rfl ?_
  refine ev_getI dX3_step_165 fo_3_34 (by omega) lo_81 rfl ?_
  refine ev_aload_n dX3_step_168 rfl ?_
  refine ev_getI dX3_step_169 fo_3_18 (by omega) lo_81 rfl ?_
  refine ev_icmpT (tgt := 199) dX3_step_172 (by decide) c0 ?_
  refine ev_aload_n dX3_step_199 rfl ?_
  refine ev_getI dX3_step_200 fo_3_34 (by omega) lo_81 rfl ?_
  refine ev_aload_n dX3_step_203 rfl ?_
  refine ev_getI dX3_step_204 fo_3_66 (by omega) lo_81 rfl ?_
  refine ev_isub dX3_step_207 ?_
  refine ev_iconst (v := 5) dX3_step_208 ki_5 ?_
  refine ev_icmpT (tgt := 235) dX3_step_209 (by decide) c1 ?_
  refine ev_iload_n dX3_step_235 rfl ?_
  refine ev_ifF (tgt := 268) dX3_step_236 (by decide) c2 ?_
  refine ev_aload_n dX3_step_239 rfl ?_
  refine ev_getI dX3_step_240 fo_3_66 (by omega) lo_81 rfl ?_
  refine ev_iload_n dX3_step_243 rfl ?_
  refine ev_icmpF (tgt := 268) dX3_step_244 (by decide) c3 ?_
  refine ev_aload_n dX3_step_247 rfl ?_
  refine ev_getI dX3_step_248 fo_3_31 (by omega) lo_81 rfl ?_
  refine ev_iconst (v := 1) dX3_step_251 ki_1 ?_
  refine ev_icmpF (tgt := 263) dX3_step_252 (by decide) c4 ?_
  refine ev_aload_n dX3_step_255 rfl ?_
  refine ev_getI dX3_step_256 fo_3_31 (by omega) lo_81 rfl ?_
  refine ev_iconst (v := 2) dX3_step_259 ki_2 ?_
  refine ev_icmpF (tgt := 268) dX3_step_260 (by decide) c5 ?_
  refine ev_aload_n dX3_step_263 rfl ?_
  refine ev_iconst (v := 4) dX3_step_264 ki_4 ?_
  refine ev_putI dX3_step_265 fo_3_31 (by omega) lo_81 rfl rfl rfl ?_
  have hX1 : Sh _ (lx_up X 81 8 4) := Sh.upF hX (by rw [lo_81]; decide) (by decide)
  exact ev_ret dX3_step_268 rfl hp
theorem bX3_step_164_5 {g : GG} {d n0 nf : Nat} {post : Option Value → LX → Prop} {n : Nat} {X : LX} (hn : 146 ≤ nf) (hX : Sh nf X) {v1 : Int32} {v2 : Int32} (c0 : X 81 1 ≤ X 81 10) (c1 : (X 81 10) - (X 81 9) ≤ 5) (c2 : ¬ v1 = 0) (c3 : X 81 9 = v2) (c4 : ¬ X 81 8 = 1) (c5 : ¬ X 81 8 = 2) (hp : post none X) : Ev g mX3_step d n0 nf post nf 164 [some (.ref 81), some (.int v1), some (.int v2)] [] X := by
  refine ev_aload_n dX3_step_164 rfl ?_
  refine ev_getI dX3_step_165 fo_3_34 (by omega) lo_81 rfl ?_
  refine ev_aload_n dX3_step_168 rfl ?_
  refine ev_getI dX3_step_169 fo_3_18 (by omega) lo_81 rfl ?_
  refine ev_icmpT (tgt := 199) dX3_step_172 (by decide) c0 ?_
  refine ev_aload_n dX3_step_199 rfl ?_
  refine ev_getI dX3_step_200 fo_3_34 (by omega) lo_81 rfl ?_
  refine ev_aload_n dX3_step_203 rfl ?_
  refine ev_getI dX3_step_204 fo_3_66 (by omega) lo_81 rfl ?_
  refine ev_isub dX3_step_207 ?_
  refine ev_iconst (v := 5) dX3_step_208 ki_5 ?_
  refine ev_icmpT (tgt := 235) dX3_step_209 (by decide) c1 ?_
  refine ev_iload_n dX3_step_235 rfl ?_
  refine ev_ifF (tgt := 268) dX3_step_236 (by decide) c2 ?_
  refine ev_aload_n dX3_step_239 rfl ?_
  refine ev_getI dX3_step_240 fo_3_66 (by omega) lo_81 rfl ?_
  refine ev_iload_n dX3_step_243 rfl ?_
  refine ev_icmpF (tgt := 268) dX3_step_244 (by decide) c3 ?_
  refine ev_aload_n dX3_step_247 rfl ?_
  refine ev_getI dX3_step_248 fo_3_31 (by omega) lo_81 rfl ?_
  refine ev_iconst (v := 1) dX3_step_251 ki_1 ?_
  refine ev_icmpF (tgt := 263) dX3_step_252 (by decide) c4 ?_
  refine ev_aload_n dX3_step_255 rfl ?_
  refine ev_getI dX3_step_256 fo_3_31 (by omega) lo_81 rfl ?_
  refine ev_iconst (v := 2) dX3_step_259 ki_2 ?_
  refine ev_icmpT (tgt := 268) dX3_step_260 (by decide) c5 ?_
  exact ev_ret dX3_step_268 rfl hp
theorem bX3_step_164_6 {g : GG} {d n0 nf : Nat} {post : Option Value → LX → Prop} {n : Nat} {X : LX} (hn : 146 ≤ nf) (hX : Sh nf X) {v1 : Int32} {v2 : Int32} (c0 : X 81 1 ≤ X 81 10) (c1 : (X 81 10) - (X 81 9) ≤ 5) (c2 : ¬ v1 = 0) (c3 : X 81 9 = v2) (c4 : X 81 8 = 1) (hp : post none (lx_up X 81 8 4)) : Ev g mX3_step d n0 nf post nf 164 [some (.ref 81), some (.int v1), some (.int v2)] [] X := by
  refine ev_aload_n dX3_step_164 rfl ?_
  refine ev_getI dX3_step_165 fo_3_34 (by omega) lo_81 rfl ?_
  refine ev_aload_n dX3_step_168 rfl ?_
  refine ev_getI dX3_step_169 fo_3_18 (by omega) lo_81 rfl ?_
  refine ev_icmpT (tgt := 199) dX3_step_172 (by decide) c0 ?_
  refine ev_aload_n dX3_step_199 rfl ?_
  refine ev_getI dX3_step_200 fo_3_34 (by omega) lo_81 rfl ?_
  refine ev_aload_n dX3_step_203 rfl ?_
  refine ev_getI dX3_step_204 fo_3_66 (by omega) lo_81 rfl ?_
  refine ev_isub dX3_step_207 ?_
  refine ev_iconst (v := 5) dX3_step_208 ki_5 ?_
  refine ev_icmpT (tgt := 235) dX3_step_209 (by decide) c1 ?_
  refine ev_iload_n dX3_step_235 rfl ?_
  refine ev_ifF (tgt := 268) dX3_step_236 (by decide) c2 ?_
  refine ev_aload_n dX3_step_239 rfl ?_
  refine ev_getI dX3_step_240 fo_3_66 (by omega) lo_81 rfl ?_
  refine ev_iload_n dX3_step_243 rfl ?_
  refine ev_icmpF (tgt := 268) dX3_step_244 (by decide) c3 ?_
  refine ev_aload_n dX3_step_247 rfl ?_
  refine ev_getI dX3_step_248 fo_3_31 (by omega) lo_81 rfl ?_
  refine ev_iconst (v := 1) dX3_step_251 ki_1 ?_
  refine ev_icmpT (tgt := 263) dX3_step_252 (by decide) c4 ?_
  refine ev_aload_n dX3_step_263 rfl ?_
  refine ev_iconst (v := 4) dX3_step_264 ki_4 ?_
  refine ev_putI dX3_step_265 fo_3_31 (by omega) lo_81 rfl rfl rfl ?_
  have hX1 : Sh _ (lx_up X 81 8 4) := Sh.upF hX (by rw [lo_81]; decide) (by decide)
  exact ev_ret dX3_step_268 rfl hp
theorem bX3_step_164_7 {g : GG} {d n0 nf : Nat} {post : Option Value → LX → Prop} {n : Nat} {X : LX} (hn : 146 ≤ nf) (hX : Sh nf X) {v1 : Int32} {v2 : Int32} (c0 : X 81 1 ≤ X 81 10) (c1 : (X 81 10) - (X 81 9) ≤ 5) (c2 : ¬ v1 = 0) (c3 : ¬ X 81 9 = v2) (hp : post none X) : Ev g mX3_step d n0 nf post nf 164 [some (.ref 81), some (.int v1), some (.int v2)] [] X := by
  refine ev_aload_n dX3_step_164 rfl ?_
  refine ev_getI dX3_step_165 fo_3_34 (by omega) lo_81 rfl ?_
  refine ev_aload_n dX3_step_168 rfl ?_
  refine ev_getI dX3_step_169 fo_3_18 (by omega) lo_81 rfl ?_
  refine ev_icmpT (tgt := 199) dX3_step_172 (by decide) c0 ?_
  refine ev_aload_n dX3_step_199 rfl ?_
  refine ev_getI dX3_step_200 fo_3_34 (by omega) lo_81 rfl ?_
  refine ev_aload_n dX3_step_203 rfl ?_
  refine ev_getI dX3_step_204 fo_3_66 (by omega) lo_81 rfl ?_
  refine ev_isub dX3_step_207 ?_
  refine ev_iconst (v := 5) dX3_step_208 ki_5 ?_
  refine ev_icmpT (tgt := 235) dX3_step_209 (by decide) c1 ?_
  refine ev_iload_n dX3_step_235 rfl ?_
  refine ev_ifF (tgt := 268) dX3_step_236 (by decide) c2 ?_
  refine ev_aload_n dX3_step_239 rfl ?_
  refine ev_getI dX3_step_240 fo_3_66 (by omega) lo_81 rfl ?_
  refine ev_iload_n dX3_step_243 rfl ?_
  refine ev_icmpT (tgt := 268) dX3_step_244 (by decide) c3 ?_
  exact ev_ret dX3_step_268 rfl hp
theorem bX3_step_164_8 {g : GG} {d n0 nf : Nat} {post : Option Value → LX → Prop} {n : Nat} {X : LX} (hn : 146 ≤ nf) (hX : Sh nf X) {v1 : Int32} {v2 : Int32} (c0 : X 81 1 ≤ X 81 10) (c1 : (X 81 10) - (X 81 9) ≤ 5) (c2 : v1 = 0) (hp : post none X) : Ev g mX3_step d n0 nf post nf 164 [some (.ref 81), some (.int v1), some (.int v2)] [] X := by
  refine ev_aload_n dX3_step_164 rfl ?_
  refine ev_getI dX3_step_165 fo_3_34 (by omega) lo_81 rfl ?_
  refine ev_aload_n dX3_step_168 rfl ?_
  refine ev_getI dX3_step_169 fo_3_18 (by omega) lo_81 rfl ?_
  refine ev_icmpT (tgt := 199) dX3_step_172 (by decide) c0 ?_
  refine ev_aload_n dX3_step_199 rfl ?_
  refine ev_getI dX3_step_200 fo_3_34 (by omega) lo_81 rfl ?_
  refine ev_aload_n dX3_step_203 rfl ?_
  refine ev_getI dX3_step_204 fo_3_66 (by omega) lo_81 rfl ?_
  refine ev_isub dX3_step_207 ?_
  refine ev_iconst (v := 5) dX3_step_208 ki_5 ?_
  refine ev_icmpT (tgt := 235) dX3_step_209 (by decide) c1 ?_
  refine ev_iload_n dX3_step_235 rfl ?_
  refine ev_ifT (tgt := 268) dX3_step_236 (by decide) c2 ?_
  exact ev_ret dX3_step_268 rfl hp
theorem bX3_step_183_0 {g : GG} {d n0 nf : Nat} {post : Option Value → LX → Prop} {n : Nat} {X : LX} (hn : 146 ≤ n) (hX : Sh n X) {v1 : Int32} {v2 : Int32} {s0 : Int32} (c0 : ¬ s0 = 0) (k : Ev g mX3_step d n0 nf post n 164 [some (.ref 81), some (.int v1), some (.int v2)] [] (lx_up X 81 10 ((X 81 10) + 1))) : Ev g mX3_step d n0 nf post n 183 [some (.ref 81), some (.int v1), some (.int v2)] [.int s0] X := by
  refine ev_ifF (tgt := 199) dX3_step_183 (by decide) c0 ?_
  refine ev_aload_n dX3_step_186 rfl ?_
  refine ev_dup dX3_step_187 rfl ?_
  refine ev_getI dX3_step_188 fo_3_34 (by omega) lo_81 rfl ?_
  refine ev_iconst (v := 1) dX3_step_191 ki_1 ?_
  refine ev_iadd dX3_step_192 ?_
  refine ev_putI dX3_step_193 fo_3_34 (by omega) lo_81 rfl rfl rfl ?_
  have hX1 : Sh _ (lx_up X 81 10 ((X 81 10) + 1)) := Sh.upF hX (by rw [lo_81]; decide) (by decide)
  refine ev_goto (tgt := 164) dX3_step_196 (by decide) ?_
  exact k
theorem bX3_step_183_1 {g : GG} {d n0 nf : Nat} {post : Option Value → LX → Prop} {n : Nat} {X : LX} (hn : 146 ≤ nf) (hX : Sh nf X) {v1 : Int32} {v2 : Int32} {s0 : Int32} (c0 : s0 = 0) (c1 : ¬ (X 81 10) - (X 81 9) ≤ 5) (c2 : ¬ v1 = 0) (c3 : X 81 9 = v2) (hp : post none (lx_up X 81 8 4)) : Ev g mX3_step d n0 nf post nf 183 [some (.ref 81), some (.int v1), some (.int v2)] [.int s0] X := by
  refine ev_ifT (tgt := 199) dX3_step_183 (by decide) c0 ?_
  refine ev_aload_n dX3_step_199 rfl ?_
  refine ev_getI dX3_step_200 fo_3_34 (by omega) lo_81 rfl ?_
  refine ev_aload_n dX3_step_203 rfl ?_
  refine ev_getI dX3_step_204 fo_3_66 (by omega) lo_81 rfl ?_
  refine ev_isub dX3_step_207 ?_
  refine ev_iconst (v := 5) dX3_step_208 ki_5 ?_
  refine ev_icmpF (tgt := 235) dX3_step_209 (by decide) c1 ?_
  refine ev_aload_n dX3_step_212 rfl ?_
  refine ev_iconst (v := 4) dX3_step_213 ki_4 ?_
  refine ev_putI dX3_step_214 fo_3_31 (by omega) lo_81 rfl rfl rfl ?_
  have hX1 : Sh _ (lx_up X 81 8 4) := Sh.upF hX (by rw [lo_81]; decide) (by decide)
  refine ev_goto (tgt := 235) dX3_step_217 (by decide) ?_
  refine ev_iload_n dX3_step_235 rfl ?_
  refine ev_ifF (tgt := 268) dX3_step_236 (by decide) c2 ?_
  refine ev_aload_n dX3_step_239 rfl ?_
  refine ev_getI dX3_step_240 fo_3_66 (by omega) lo_81 rfl ?_
  refine ev_iload_n dX3_step_243 rfl ?_
  refine ev_icmpF (tgt := 268) dX3_step_244 (by decide) c3 ?_
  refine ev_aload_n dX3_step_247 rfl ?_
  refine ev_getI dX3_step_248 fo_3_31 (by omega) lo_81 rfl ?_
  refine ev_iconst (v := 1) dX3_step_251 ki_1 ?_
  refine ev_icmpF (tgt := 263) dX3_step_252 (by decide) (by show ¬ (4 : Int32) = 1; decide) ?_
  refine ev_aload_n dX3_step_255 rfl ?_
  refine ev_getI dX3_step_256 fo_3_31 (by omega) lo_81 rfl ?_
  refine ev_iconst (v := 2) dX3_step_259 ki_2 ?_
  refine ev_icmpT (tgt := 268) dX3_step_260 (by decide) (by show ¬ (4 : Int32) = 2; decide) ?_
  exact ev_ret dX3_step_268 rfl hp
theorem bX3_step_183_2 {g : GG} {d n0 nf : Nat} {post : Option Value → LX → Prop} {n : Nat} {X : LX} (hn : 146 ≤ nf) (hX : Sh nf X) {v1 : Int32} {v2 : Int32} {s0 : Int32} (c0 : s0 = 0) (c1 : ¬ (X 81 10) - (X 81 9) ≤ 5) (c2 : ¬ v1 = 0) (c3 : ¬ X 81 9 = v2) (hp : post none (lx_up X 81 8 4)) : Ev g mX3_step d n0 nf post nf 183 [some (.ref 81), some (.int v1), some (.int v2)] [.int s0] X := by
  refine ev_ifT (tgt := 199) dX3_step_183 (by decide) c0 ?_
  refine ev_aload_n dX3_step_199 rfl ?_
  refine ev_getI dX3_step_200 fo_3_34 (by omega) lo_81 rfl ?_
  refine ev_aload_n dX3_step_203 rfl ?_
  refine ev_getI dX3_step_204 fo_3_66 (by omega) lo_81 rfl ?_
  refine ev_isub dX3_step_207 ?_
  refine ev_iconst (v := 5) dX3_step_208 ki_5 ?_
  refine ev_icmpF (tgt := 235) dX3_step_209 (by decide) c1 ?_
  refine ev_aload_n dX3_step_212 rfl ?_
  refine ev_iconst (v := 4) dX3_step_213 ki_4 ?_
  refine ev_putI dX3_step_214 fo_3_31 (by omega) lo_81 rfl rfl rfl ?_
  have hX1 : Sh _ (lx_up X 81 8 4) := Sh.upF hX (by rw [lo_81]; decide) (by decide)
  refine ev_goto (tgt := 235) dX3_step_217 (by decide) ?_
  refine ev_iload_n dX3_step_235 rfl ?_
  refine ev_ifF (tgt := 268) dX3_step_236 (by decide) c2 ?_
  refine ev_aload_n dX3_step_239 rfl ?_
  refine ev_getI dX3_step_240 fo_3_66 (by omega) lo_81 rfl ?_
  refine ev_iload_n dX3_step_243 rfl ?_
  refine ev_icmpT (tgt := 268) dX3_step_244 (by decide) c3 ?_
  exact ev_ret dX3_step_268 rfl hp
theorem bX3_step_183_3 {g : GG} {d n0 nf : Nat} {post : Option Value → LX → Prop} {n : Nat} {X : LX} (hn : 146 ≤ nf) (hX : Sh nf X) {v1 : Int32} {v2 : Int32} {s0 : Int32} (c0 : s0 = 0) (c1 : ¬ (X 81 10) - (X 81 9) ≤ 5) (c2 : v1 = 0) (hp : post none (lx_up X 81 8 4)) : Ev g mX3_step d n0 nf post nf 183 [some (.ref 81), some (.int v1), some (.int v2)] [.int s0] X := by
  refine ev_ifT (tgt := 199) dX3_step_183 (by decide) c0 ?_
  refine ev_aload_n dX3_step_199 rfl ?_
  refine ev_getI dX3_step_200 fo_3_34 (by omega) lo_81 rfl ?_
  refine ev_aload_n dX3_step_203 rfl ?_
  refine ev_getI dX3_step_204 fo_3_66 (by omega) lo_81 rfl ?_
  refine ev_isub dX3_step_207 ?_
  refine ev_iconst (v := 5) dX3_step_208 ki_5 ?_
  refine ev_icmpF (tgt := 235) dX3_step_209 (by decide) c1 ?_
  refine ev_aload_n dX3_step_212 rfl ?_
  refine ev_iconst (v := 4) dX3_step_213 ki_4 ?_
  refine ev_putI dX3_step_214 fo_3_31 (by omega) lo_81 rfl rfl rfl ?_
  have hX1 : Sh _ (lx_up X 81 8 4) := Sh.upF hX (by rw [lo_81]; decide) (by decide)
  refine ev_goto (tgt := 235) dX3_step_217 (by decide) ?_
  refine ev_iload_n dX3_step_235 rfl ?_
  refine ev_ifT (tgt := 268) dX3_step_236 (by decide) c2 ?_
  exact ev_ret dX3_step_268 rfl hp
theorem bX3_step_183_4 {g : GG} {d n0 nf : Nat} {post : Option Value → LX → Prop} {n : Nat} {X : LX} (hn : 146 ≤ nf) (hX : Sh nf X) {v1 : Int32} {v2 : Int32} {s0 : Int32} (c0 : s0 = 0) (c1 : (X 81 10) - (X 81 9) ≤ 5) (c2 : ¬ v1 = 0) (c3 : X 81 9 = v2) (c4 : ¬ X 81 8 = 1) (c5 : X 81 8 = 2) (hp : post none (lx_up X 81 8 4)) : Ev g mX3_step d n0 nf post nf 183 [some (.ref 81), some (.int v1), some (.int v2)] [.int s0] X := by
  refine ev_ifT (tgt := 199) dX3_step_183 (by decide) c0 ?_
  refine ev_aload_n dX3_step_199 rfl ?_
  refine ev_getI dX3_step_200 fo_3_34 (by omega) lo_81 rfl ?_
  refine ev_aload_n dX3_step_203 rfl ?_
  refine ev_getI dX3_step_204 fo_3_66 (by omega) lo_81 rfl ?_
  refine ev_isub dX3_step_207 ?_
  refine ev_iconst (v := 5) dX3_step_208 ki_5 ?_
  refine ev_icmpT (tgt := 235) dX3_step_209 (by decide) c1 ?_
  refine ev_iload_n dX3_step_235 rfl ?_
  refine ev_ifF (tgt := 268) dX3_step_236 (by decide) c2 ?_
  refine ev_aload_n dX3_step_239 rfl ?_
  refine ev_getI dX3_step_240 fo_3_66 (by omega) lo_81 rfl ?_
  refine ev_iload_n dX3_step_243 rfl ?_
  refine ev_icmpF (tgt := 268) dX3_step_244 (by decide) c3 ?_
  refine ev_aload_n dX3_step_247 rfl ?_
  refine ev_getI dX3_step_248 fo_3_31 (by omega) lo_81 rfl ?_
  refine ev_iconst (v := 1) dX3_step_251 ki_1 ?_
  refine ev_icmpF (tgt := 263) dX3_step_252 (by decide) c4 ?_
  refine ev_aload_n dX3_step_255 rfl ?_
  refine ev_getI dX3_step_256 fo_3_31 (by omega) lo_81 rfl ?_
  refine ev_iconst (v := 2) dX3_step_259 ki_2 ?_
  refine ev_icmpF (tgt := 268) dX3_step_260 (by decide) c5 ?_
  refine ev_aload_n dX3_step_263 rfl ?_
  refine ev_iconst (v := 4) dX3_step_264 ki_4 ?_
  refine ev_putI dX3_step_265 fo_3_31 (by omega) lo_81 rfl rfl rfl ?_
  have hX1 : Sh _ (lx_up X 81 8 4) := Sh.upF hX (by rw [lo_81]; decide) (by decide)
  exact ev_ret dX3_step_268 rfl hp
theorem bX3_step_183_5 {g : GG} {d n0 nf : Nat} {post : Option Value → LX → Prop} {n : Nat} {X : LX} (hn : 146 ≤ nf) (hX : Sh nf X) {v1 : Int32} {v2 : Int32} {s0 : Int32} (c0 : s0 = 0) (c1 : (X 81 10) - (X 81 9) ≤ 5) (c2 : ¬ v1 = 0) (c3 : X 81 9 = v2) (c4 : ¬ X 81 8 = 1) (c5 : ¬ X 81 8 = 2) (hp : post none X) : Ev g mX3_step d n0 nf post nf 183 [some (.ref 81), some (.int v1), some (.int v2)] [.int s0] X := by
  refine ev_ifT (tgt := 199) dX3_step_183 (by decide) c0 ?_
  refine ev_aload_n dX3_step_199 rfl ?_
  refine ev_getI dX3_step_200 fo_3_34 (by omega) lo_81 rfl ?_
  refine ev_aload_n dX3_step_203 rfl ?_
  refine ev_getI dX3_step_204 fo_3_66 (by omega) lo_81 rfl ?_
  refine ev_isub dX3_step_207 ?_
  refine ev_iconst (v := 5) dX3_step_208 ki_5 ?_
  refine ev_icmpT (tgt := 235) dX3_step_209 (by decide) c1 ?_
  refine ev_iload_n dX3_step_235 rfl ?_
  refine ev_ifF (tgt := 268) dX3_step_236 (by decide) c2 ?_
  refine ev_aload_n dX3_step_239 rfl ?_
  refine ev_getI dX3_step_240 fo_3_66 (by omega) lo_81 rfl ?_
  refine ev_iload_n dX3_step_243 rfl ?_
  refine ev_icmpF (tgt := 268) dX3_step_244 (by decide) c3 ?_
  refine ev_aload_n dX3_step_247 rfl ?_
  refine ev_getI dX3_step_248 fo_3_31 (by omega) lo_81 rfl ?_
  refine ev_iconst (v := 1) dX3_step_251 ki_1 ?_
  refine ev_icmpF (tgt := 263) dX3_step_252 (by decide) c4 ?_
  refine ev_aload_n dX3_step_255 rfl ?_
  refine ev_getI dX3_step_256 fo_3_31 (by omega) lo_81 rfl ?_
  refine ev_iconst (v := 2) dX3_step_259 ki_2 ?_
  refine ev_icmpT (tgt := 268) dX3_step_260 (by decide) c5 ?_
  exact ev_ret dX3_step_268 rfl hp
theorem bX3_step_183_6 {g : GG} {d n0 nf : Nat} {post : Option Value → LX → Prop} {n : Nat} {X : LX} (hn : 146 ≤ nf) (hX : Sh nf X) {v1 : Int32} {v2 : Int32} {s0 : Int32} (c0 : s0 = 0) (c1 : (X 81 10) - (X 81 9) ≤ 5) (c2 : ¬ v1 = 0) (c3 : X 81 9 = v2) (c4 : X 81 8 = 1) (hp : post none (lx_up X 81 8 4)) : Ev g mX3_step d n0 nf post nf 183 [some (.ref 81), some (.int v1), some (.int v2)] [.int s0] X := by
  refine ev_ifT (tgt := 199) dX3_step_183 (by decide) c0 ?_
  refine ev_aload_n dX3_step_199 rfl ?_
  refine ev_getI dX3_step_200 fo_3_34 (by omega) lo_81 rfl ?_
  refine ev_aload_n dX3_step_203 rfl ?_
  refine ev_getI dX3_step_204 fo_3_66 (by omega) lo_81 rfl ?_
  refine ev_isub dX3_step_207 ?_
  refine ev_iconst (v := 5) dX3_step_208 ki_5 ?_
  refine ev_icmpT (tgt := 235) dX3_step_209 (by decide) c1 ?_
  refine ev_iload_n dX3_step_235 rfl ?_
  refine ev_ifF (tgt := 268) dX3_step_236 (by decide) c2 ?_
  refine ev_aload_n dX3_step_239 rfl ?_
  refine ev_getI dX3_step_240 fo_3_66 (by omega) lo_81 rfl ?_
  refine ev_iload_n dX3_step_243 rfl ?_
  refine ev_icmpF (tgt := 268) dX3_step_244 (by decide) c3 ?_
  refine ev_aload_n dX3_step_247 rfl ?_
  refine ev_getI dX3_step_248 fo_3_31 (by omega) lo_81 rfl ?_
  refine ev_iconst (v := 1) dX3_step_251 ki_1 ?_
  refine ev_icmpT (tgt := 263) dX3_step_252 (by decide) c4 ?_
  refine ev_aload_n dX3_step_263 rfl ?_
  refine ev_iconst (v := 4) dX3_step_264 ki_4 ?_
  refine ev_putI dX3_step_265 fo_3_31 (by omega) lo_81 rfl rfl rfl ?_
  have hX1 : Sh _ (lx_up X 81 8 4) := Sh.upF hX (by rw [lo_81]; decide) (by decide)
  exact ev_ret dX3_step_268 rfl hp
theorem bX3_step_183_7 {g : GG} {d n0 nf : Nat} {post : Option Value → LX → Prop} {n : Nat} {X : LX} (hn : 146 ≤ nf) (hX : Sh nf X) {v1 : Int32} {v2 : Int32} {s0 : Int32} (c0 : s0 = 0) (c1 : (X 81 10) - (X 81 9) ≤ 5) (c2 : ¬ v1 = 0) (c3 : ¬ X 81 9 = v2) (hp : post none X) : Ev g mX3_step d n0 nf post nf 183 [some (.ref 81), some (.int v1), some (.int v2)] [.int s0] X := by
  refine ev_ifT (tgt := 199) dX3_step_183 (by decide) c0 ?_
  refine ev_aload_n dX3_step_199 rfl ?_
  refine ev_getI dX3_step_200 fo_3_34 (by omega) lo_81 rfl ?_
  refine ev_aload_n dX3_step_203 rfl ?_
  refine ev_getI dX3_step_204 fo_3_66 (by omega) lo_81 rfl ?_
  refine ev_isub dX3_step_207 ?_
  refine ev_iconst (v := 5) dX3_step_208 ki_5 ?_
  refine ev_icmpT (tgt := 235) dX3_step_209 (by decide) c1 ?_
  refine ev_iload_n dX3_step_235 rfl ?_
  refine ev_ifF (tgt := 268) dX3_step_236 (by decide) c2 ?_
  refine ev_aload_n dX3_step_239 rfl ?_
  refine ev_getI dX3_step_240 fo_3_66 (by omega) lo_81 rfl ?_
  refine ev_iload_n dX3_step_243 rfl ?_
  refine ev_icmpT (tgt := 268) dX3_step_244 (by decide) c3 ?_
  exact ev_ret dX3_step_268 rfl hp
theorem bX3_step_183_8 {g : GG} {d n0 nf : Nat} {post : Option Value → LX → Prop} {n : Nat} {X : LX} (hn : 146 ≤ nf) (hX : Sh nf X) {v1 : Int32} {v2 : Int32} {s0 : Int32} (c0 : s0 = 0) (c1 : (X 81 10) - (X 81 9) ≤ 5) (c2 : v1 = 0) (hp : post none X) : Ev g mX3_step d n0 nf post nf 183 [some (.ref 81), some (.int v1), some (.int v2)] [.int s0] X := by
  refine ev_ifT (tgt := 199) dX3_step_183 (by decide) c0 ?_
  refine ev_aload_n dX3_step_199 rfl ?_
  refine ev_getI dX3_step_200 fo_3_34 (by omega) lo_81 rfl ?_
  refine ev_aload_n dX3_step_203 rfl ?_
  refine ev_getI dX3_step_204 fo_3_66 (by omega) lo_81 rfl ?_
  refine ev_isub dX3_step_207 ?_
  refine ev_iconst (v := 5) dX3_step_208 ki_5 ?_
  refine ev_icmpT (tgt := 235) dX3_step_209 (by decide) c1 ?_
  refine ev_iload_n dX3_step_235 rfl ?_
  refine ev_ifT (tgt := 268) dX3_step_236 (by decide) c2 ?_
  exact ev_ret dX3_step_268 rfl hp
theorem bX3_isLetter_0_0 {g : GG} {d n0 nf : Nat} {post : Option Value → LX → Prop} {n : Nat} {X : LX} (hn : 146 ≤ nf) (hX : Sh nf X) {v1 : Nat} (b0 : v1 < 120) (c0 : ¬ X 82 v1 < 97) (b1 : v1 < 120) (c1 : ¬ 122 < X 82 v1) (hp : post (some (.int 1)) X) : Ev g mX3_isLetter d n0 nf post nf 0 [some (.ref 81), some (.int (nI v1))] [] X := by
  refine ev_aload_n dX3_isLetter_0 rfl ?_
  refine ev_getS (q := 82) dX3_isLetter_1 fo_3_9 (by omega) lo_81 rfl (sh_81_0 hX (by omega)) (by decide) ?_
  refine ev_iload_n dX3_isLetter_4 rfl ?_
  refine ev_iald dX3_isLetter_5 (by omega) ly_82 rfl b0 ?_
  refine ev_bipush (v := 97) dX3_isLetter_6 kb_97 ?_
  refine ev_icmpF (tgt := 26) dX3_isLetter_8 (by decide) c0 ?_
  refine ev_aload_n dX3_isLetter_11 rfl ?_
  refine ev_getS (q := 82) dX3_isLetter_12 fo_3_9 (by omega) lo_81 rfl (sh_81_0 hX (by omega)) (by decide) ?_
  refine ev_iload_n dX3_isLetter_15 rfl ?_
  refine ev_iald dX3_isLetter_16 (by omega) ly_82 rfl b1 ?_
  refine ev_bipush (v := 122) dX3_isLetter_17 kb_122 ?_
  refine ev_icmpF (tgt := 26) dX3_isLetter_19 (by decide) c1 ?_
  refine ev_iconst (v := 1) dX3_isLetter_22 ki_1 ?_
  refine ev_goto (tgt := 27) dX3_isLetter_23 (by decide) ?_
  exact ev_iret dX3_isLetter_27 rfl (by decide) hp
theorem bX3_isLetter_0_1 {g : GG} {d n0 nf : Nat} {post : Option Value → LX → Prop} {n : Nat} {X : LX} (hn : 146 ≤ nf) (hX : Sh nf X) {v1 : Nat} (b0 : v1 < 120) (c0 : ¬ X 82 v1 < 97) (b1 : v1 < 120) (c1 : 122 < X 82 v1) (hp : post (some (.int 0)) X) : Ev g mX3_isLetter d n0 nf post nf 0 [some (.ref 81), some (.int (nI v1))] [] X := by
  refine ev_aload_n dX3_isLetter_0 rfl ?_
  refine ev_getS (q := 82) dX3_isLetter_1 fo_3_9 (by omega) lo_81 rfl (sh_81_0 hX (by omega)) (by decide) ?_
  refine ev_iload_n dX3_isLetter_4 rfl ?_
  refine ev_iald dX3_isLetter_5 (by omega) ly_82 rfl b0 ?_
  refine ev_bipush (v := 97) dX3_isLetter_6 kb_97 ?_
  refine ev_icmpF (tgt := 26) dX3_isLetter_8 (by decide) c0 ?_
  refine ev_aload_n dX3_isLetter_11 rfl ?_
  refine ev_getS (q := 82) dX3_isLetter_12 fo_3_9 (by omega) lo_81 rfl (sh_81_0 hX (by omega)) (by decide) ?_
  refine ev_iload_n dX3_isLetter_15 rfl ?_
  refine ev_iald dX3_isLetter_16 (by omega) ly_82 rfl b1 ?_
  refine ev_bipush (v := 122) dX3_isLetter_17 kb_122 ?_
  refine ev_icmpT (tgt := 26) dX3_isLetter_19 (by decide) c1 ?_
  refine ev_iconst (v := 0) dX3_isLetter_26 ki_0 ?_
  exact ev_iret dX3_isLetter_27 rfl (by decide) hp
theorem bX3_isLetter_0_2 {g : GG} {d n0 nf : Nat} {post : Option Value → LX → Prop} {n : Nat} {X : LX} (hn : 146 ≤ nf) (hX : Sh nf X) {v1 : Nat} (b0 : v1 < 120) (c0 : X 82 v1 < 97) (hp : post (some (.int 0)) X) : Ev g mX3_isLetter d n0 nf post nf 0 [some (.ref 81), some (.int (nI v1))] [] X := by
  refine ev_aload_n dX3_isLetter_0 rfl ?_
  refine ev_getS (q := 82) dX3_isLetter_1 fo_3_9 (by omega) lo_81 rfl (sh_81_0 hX (by omega)) (by decide) ?_
  refine ev_iload_n dX3_isLetter_4 rfl ?_
  refine ev_iald dX3_isLetter_5 (by omega) ly_82 rfl b0 ?_
  refine ev_bipush (v := 97) dX3_isLetter_6 kb_97 ?_
  refine ev_icmpT (tgt := 26) dX3_isLetter_8 (by decide) c0 ?_
  refine ev_iconst (v := 0) dX3_isLetter_26 ki_0 ?_
  exact ev_iret dX3_isLetter_27 rfl (by decide) hp
theorem bX3_isDigit_0_0 {g : GG} {d n0 nf : Nat} {post : Option Value → LX → Prop} {n : Nat} {X : LX} (hn : 146 ≤ nf) (hX : Sh nf X) {v1 : Nat} (b0 : v1 < 120) (c0 : ¬ X 82 v1 < 48) (b1 : v1 < 120) (c1 : ¬ 57 < X 82 v1) (hp : post (some (.int 1)) X) : Ev g mX3_isDigit d n0 nf post nf 0 [some (.ref 81), some (.int (nI v1))] [] X := by
  refine ev_aload_n dX3_isDigit_0 rfl ?_
  refine ev_getS (q := 82) dX3_isDigit_1 fo_3_9 (by omega) lo_81 rfl (sh_81_0 hX (by omega)) (by decide) ?_
  refine ev_iload_n dX3_isDigit_4 rfl ?_
  refine ev_iald dX3_isDigit_5 (by omega) ly_82 rfl b0 ?_
  refine ev_bipush (v := 48) dX3_isDigit_6 kb_48 ?_
  refine ev_icmpF (tgt := 26) dX3_isDigit_8 (by decide) c0 ?_
  refine ev_aload_n dX3_isDigit_11 rfl ?_
  refine ev_getS (q := 82) dX3_isDigit_12 fo_3_9 (by omega) lo_81 rfl (sh_81_0 hX (by omega)) (by decide) ?_
  refine ev_iload_n dX3_isDigit_15 rfl ?_
  refine ev_iald dX3_isDigit_16 (by omega) ly_82 rfl b1 ?_
  refine ev_bipush (v := 57) dX3_isDigit_17 kb_57 ?_
  refine ev_icmpF (tgt := 26) dX3_isDigit_19 (by decide) c1 ?_
  refine ev_iconst (v := 1) dX3_isDigit_22 ki_1 ?_
  refine ev_goto (tgt := 27) dX3_isDigit_23 (by decide) ?_
  exact ev_iret dX3_isDigit_27 rfl (by decide) hp
theorem bX3_isDigit_0_1 {g : GG} {d n0 nf : Nat} {post : Option Value → LX → Prop} {n : Nat} {X : LX} (hn : 146 ≤ nf) (hX : Sh nf X) {v1 : Nat} (b0 : v1 < 120) (c0 : ¬ X 82 v1 < 48) (b1 : v1 < 120) (c1 : 57 < X 82 v1) (hp : post (some (.int 0)) X) : Ev g mX3_isDigit d n0 nf post nf 0 [some (.ref 81), some (.int (nI v1))] [] X := by
  refine ev_aload_n dX3_isDigit_0 rfl ?_
  refine ev_getS (q := 82) dX3_isDigit_1 fo_3_9 (by omega) lo_81 rfl (sh_81_0 hX (by omega)) (by decide) ?_
  refine ev_iload_n dX3_isDigit_4 rfl ?_
  refine ev_iald dX3_isDigit_5 (by omega) ly_82 rfl b0 ?_
  refine ev_bipush (v := 48) dX3_isDigit_6 kb_48 ?_
  refine ev_icmpF (tgt := 26) dX3_isDigit_8 (by decide) c0 ?_
  refine ev_aload_n dX3_isDigit_11 rfl ?_
  refine ev_getS (q := 82) dX3_isDigit_12 fo_3_9 (by omega) lo_81 rfl (sh_81_0 hX (by omega)) (by decide) ?_
  refine ev_iload_n dX3_isDigit_15 rfl ?_
  refine ev_iald dX3_isDigit_16 (by omega) ly_82 rfl b1 ?_
  refine ev_bipush (v := 57) dX3_isDigit_17 kb_57 ?_
  refine ev_icmpT (tgt := 26) dX3_isDigit_19 (by decide) c1 ?_
  refine ev_iconst (v := 0) dX3_isDigit_26 ki_0 ?_
  exact ev_iret dX3_isDigit_27 rfl (by decide) hp
theorem bX3_isDigit_0_2 {g : GG} {d n0 nf : Nat} {post : Option Value → LX → Prop} {n : Nat} {X : LX} (hn : 146 ≤ nf) (hX : Sh nf X) {v1 : Nat} (b0 : v1 < 120) (c0 : X 82 v1 < 48) (hp : post (some (.int 0)) X) : Ev g mX3_isDigit d n0 nf post nf 0 [some (.ref 81), some (.int (nI v1))] [] X := by
  refine ev_aload_n dX3_isDigit_0 rfl ?_
  refine ev_getS (q := 82) dX3_isDigit_1 fo_3_9 (by omega) lo_81 rfl (sh_81_0 hX (by omega)) (by decide) ?_
  refine ev_iload_n dX3_isDigit_4 rfl ?_
  refine ev_iald dX3_isDigit_5 (by omega) ly_82 rfl b0 ?_
  refine ev_bipush (v := 48) dX3_isDigit_6 kb_48 ?_
  refine ev_icmpT (tgt := 26) dX3_isDigit_8 (by decide) c0 ?_
  refine ev_iconst (v := 0) dX3_isDigit_26 ki_0 ?_
  exact ev_iret dX3_isDigit_27 rfl (by decide) hp
theorem bX3_readWord_0_0 {g : GG} {d n0 nf : Nat} {post : Option Value → LX → Prop} {n : Nat} {X : LX} (hn : 146 ≤ n) (hX : Sh n X) {tv1 : Nat} (htv1 : tv1 < 14) (c0 : ¬ 0 ≤ X 81 6) (c1 : X 81 8 = 1) (k : Ev g mX3_readWord d n0 nf post n 25 [some (.ref 81), some (.ref (1000 + tv1)), none, none] [.ref (1000 + tv1), .int ((X 81 10) - (X 81 9))] X) : Ev g mX3_readWord d n0 nf post n 0 [some (.ref 81), some (.ref (1000 + tv1)), none, none] [] X := by
  refine ev_aload_n dX3_readWord_0 rfl ?_
  refine ev_getI dX3_readWord_1 fo_3_28 (by omega) lo_81 rfl ?_
  refine ev_ifF (tgt := 35) dX3_readWord_4 (by decide) c0 ?_
  refine ev_aload_n dX3_readWord_7 rfl ?_
  refine ev_getI dX3_readWord_8 fo_3_31 (by omega) lo_81 rfl ?_
  refine ev_iconst (v := 1) dX3_readWord_11 ki_1 ?_
  refine ev_icmpF (tgt := 35) dX3_readWord_12 (by decide) c1 ?_
  refine ev_aload_n dX3_readWord_15 rfl ?_
  refine ev_getI dX3_readWord_16 fo_3_34 (by omega) lo_81 rfl ?_
  refine ev_aload_n dX3_readWord_19 rfl ?_
  refine ev_getI dX3_readWord_20 fo_3_66 (by omega) lo_81 rfl ?_
  refine ev_isub dX3_readWord_23 ?_
  refine ev_aload_n dX3_readWord_24 rfl ?_
  exact k
theorem bX3_readWord_0_1 {g : GG} {d n0 nf : Nat} {post : Option Value → LX → Prop} {n : Nat} {X : LX} (hn : 146 ≤ n) (hX : Sh n X) {tv1 : Nat} (htv1 : tv1 < 14) (c0 : ¬ 0 ≤ X 81 6) (c1 : ¬ X 81 8 = 1) (k : Ev g mX3_readWord d n0 nf post n 39 [some (.ref 81), some (.ref (1000 + tv1)), some (.int 0), some (.int 0)] [] X) : Ev g mX3_readWord d n0 nf post n 0 [some (.ref 81), some (.ref (1000 + tv1)), none, none] [] X := by
  refine ev_aload_n dX3_readWord_0 rfl ?_
  refine ev_getI dX3_readWord_1 fo_3_28 (by omega) lo_81 rfl ?_
  refine ev_ifF (tgt := 35) dX3_readWord_4 (by decide) c0 ?_
  refine ev_aload_n dX3_readWord_7 rfl ?_
  refine ev_getI dX3_readWord_8 fo_3_31 (by omega) lo_81 rfl ?_
  refine ev_iconst (v := 1) dX3_readWord_11 ki_1 ?_
  refine ev_icmpT (tgt := 35) dX3_readWord_12 (by decide) c1 ?_
  refine ev_iconst (v := 0) dX3_readWord_35 ki_0 ?_
  refine ev_istore_n dX3_readWord_36 (by decide) ?_
  refine ev_iconst (v := 0) dX3_readWord_37 ki_0 ?_
  refine ev_istore_n dX3_readWord_38 (by decide) ?_
  exact k
theorem bX3_readWord_0_2 {g : GG} {d n0 nf : Nat} {post : Option Value → LX → Prop} {n : Nat} {X : LX} (hn : 146 ≤ n) (hX : Sh n X) {tv1 : Nat} (htv1 : tv1 < 14) (c0 : 0 ≤ X 81 6) (k : Ev g mX3_readWord d n0 nf post n 39 [some (.ref 81), some (.ref (1000 + tv1)), some (.int 0), some (.int 0)] [] X) : Ev g mX3_readWord d n0 nf post n 0 [some (.ref 81), some (.ref (1000 + tv1)), none, none] [] X := by
  refine ev_aload_n dX3_readWord_0 rfl ?_
  refine ev_getI dX3_readWord_1 fo_3_28 (by omega) lo_81 rfl ?_
  refine ev_ifT (tgt := 35) dX3_readWord_4 (by decide) c0 ?_
  refine ev_iconst (v := 0) dX3_readWord_35 ki_0 ?_
  refine ev_istore_n dX3_readWord_36 (by decide) ?_
  refine ev_iconst (v := 0) dX3_readWord_37 ki_0 ?_
  refine ev_istore_n dX3_readWord_38 (by decide) ?_
  exact k
theorem bX3_readWord_28_0 {g : GG} {d n0 nf : Nat} {post : Option Value → LX → Prop} {n : Nat} {X : LX} (hn : 146 ≤ n) (hX : Sh n X) {tv1 : Nat} {s0 : Int32} {s1 : Int32} (htv1 : tv1 < 14) (c0 : s0 = s1) (k : Ev g mX3_readWord d n0 nf post n 39 [some (.ref 81), some (.ref (1000 + tv1)), some (.int 1), some (.int 0)] [] X) : Ev g mX3_readWord d n0 nf post n 28 [some (.ref 81), some (.ref (1000 + tv1)), none, none] [.int s1, .int s0] X := by
  refine ev_icmpF (tgt := 35) dX3_readWord_28 (by decide) c0 ?_
  refine ev_iconst (v := 1) dX3_readWord_31 ki_1 ?_
  refine ev_goto (tgt := 36) dX3_readWord_32 (by decide) ?_
  refine ev_istore_n dX3_readWord_36 (by decide) ?_
  refine ev_iconst (v := 0) dX3_readWord_37 ki_0 ?_
  refine ev_istore_n dX3_readWord_38 (by decide) ?_
  exact k
theorem bX3_readWord_28_1 {g : GG} {d n0 nf : Nat} {post : Option Value → LX → Prop} {n : Nat} {X : LX} (hn : 146 ≤ n) (hX : Sh n X) {tv1 : Nat} {s0 : Int32} {s1 : Int32} (htv1 : tv1 < 14) (c0 : ¬ s0 = s1) (k : Ev g mX3_readWord d n0 nf post n 39 [some (.ref 81), some (.ref (1000 + tv1)), some (.int 0), some (.int 0)] [] X) : Ev g mX3_readWord d n0 nf post n 28 [some (.ref 81), some (.ref (1000 + tv1)), none, none] [.int s1, .int s0] X := by
  refine ev_icmpT (tgt := 35) dX3_readWord_28 (by decide) c0 ?_
  refine ev_iconst (v := 0) dX3_readWord_35 ki_0 ?_
  refine ev_istore_n dX3_readWord_36 (by decide) ?_
  refine ev_iconst (v := 0) dX3_readWord_37 ki_0 ?_
  refine ev_istore_n dX3_readWord_38 (by decide) ?_
  exact k
theorem bX3_readWord_39_0 {g : GG} {d n0 nf : Nat} {post : Option Value → LX → Prop} {n : Nat} {X : LX} (hn : 146 ≤ n) (hX : Sh n X) {tv1 : Nat} {v2 : Int32} {v3 : Int32} (htv1 : tv1 < 14) (c0 : ¬ v2 = 0) (k : Ev g mX3_readWord d n0 nf post n 45 [some (.ref 81), some (.ref (1000 + tv1)), some (.int v2), some (.int v3)] [.ref (1000 + tv1), .int v3] X) : Ev g mX3_readWord d n0 nf post n 39 [some (.ref 81), some (.ref (1000 + tv1)), some (.int v2), some (.int v3)] [] X := by
  refine ev_iload_n dX3_readWord_39 rfl ?_
  refine ev_ifF (tgt := 82) dX3_readWord_40 (by decide) c0 ?_
  refine ev_iload_n dX3_readWord_43 rfl ?_
  refine ev_aload_n dX3_readWord_44 rfl ?_
  exact k
theorem bX3_readWord_39_1 {g : GG} {d n0 nf : Nat} {post : Option Value → LX → Prop} {n : Nat} {X : LX} (hn : 146 ≤ n) (hX : Sh n X) {tv1 : Nat} {v2 : Int32} {v3 : Int32} (htv1 : tv1 < 14) (c0 : v2 = 0) (c1 : ¬ v2 = 0) (k : Ev g mX3_readWord d n0 nf post n 87 [some (.ref 81), some (.ref (1000 + tv1)), some (.int v2), some (.int v3)] [.ref 81] X) : Ev g mX3_readWord d n0 nf post n 39 [some (.ref 81), some (.ref (1000 + tv1)), some (.int v2), some (.int v3)] [] X := by
  refine ev_iload_n dX3_readWord_39 rfl ?_
  refine ev_ifT (tgt := 82) dX3_readWord_40 (by decide) c0 ?_
  refine ev_iload_n dX3_readWord_82 rfl ?_
  refine ev_ifF (tgt := 93) dX3_readWord_83 (by decide) c1 ?_
  refine ev_aload_n dX3_readWord_86 rfl ?_
  exact k
theorem bX3_readWord_39_2 {g : GG} {d n0 nf : Nat} {post : Option Value → LX → Prop} {n : Nat} {X : LX} (hn : 146 ≤ n) (hX : Sh n X) {tv1 : Nat} {v2 : Int32} {v3 : Int32} (htv1 : tv1 < 14) (c0 : v2 = 0) (c1 : v2 = 0) (k : Ev g mX3_readWord d n0 nf post n 94 [some (.ref 81), some (.ref (1000 + tv1)), some (.int v2), some (.int v3)] [.ref 81] X) : Ev g mX3_readWord d n0 nf post n 39 [some (.ref 81), some (.ref (1000 + tv1)), some (.int v2), some (.int v3)] [] X := by
  refine ev_iload_n dX3_readWord_39 rfl ?_
  refine ev_ifT (tgt := 82) dX3_readWord_40 (by decide) c0 ?_
  refine ev_iload_n dX3_readWord_82 rfl ?_
  refine ev_ifT (tgt := 93) dX3_readWord_83 (by decide) c1 ?_
  refine ev_aload_n dX3_readWord_93 rfl ?_
  exact k
theorem bX3_readWord_48_0 {g : GG} {d n0 nf : Nat} {post : Option Value → LX → Prop} {n : Nat} {X : LX} (hn : 146 ≤ n) (hX : Sh n X) {tv1 : Nat} {v2 : Int32} {v3 : Int32} {s0 : Int32} {s1 : Int32} {j1 : Nat} (htv1 : tv1 < 14) (c0 : ¬ s1 ≤ s0) (hj1 : (X 81 9) + v3 = nI j1) (b0 : j1 < 120) (k : Ev g mX3_readWord d n0 nf post n 64 [some (.ref 81), some (.ref (1000 + tv1)), some (.int v2), some (.int v3)] [.int v3, .ref (1000 + tv1), .int (X 82 j1)] X) : Ev g mX3_readWord d n0 nf post n 48 [some (.ref 81), some (.ref (1000 + tv1)), some (.int v2), some (.int v3)] [.int s1, .int s0] X := by
  refine ev_icmpF (tgt := 82) dX3_readWord_48 (by decide) c0 ?_
  refine ev_aload_n dX3_readWord_51 rfl ?_
  refine ev_getS (q := 82) dX3_readWord_52 fo_3_9 (by omega) lo_81 rfl (sh_81_0 hX (by omega)) (by decide) ?_
  refine ev_aload_n dX3_readWord_55 rfl ?_
  refine ev_getI dX3_readWord_56 fo_3_66 (by omega) lo_81 rfl ?_
  refine ev_iload_n dX3_readWord_59 rfl ?_
  refine ev_iadd dX3_readWord_60 ?_
  refine ev_iald dX3_readWord_61 (by omega) ly_82 hj1 b0 ?_
  refine ev_aload_n dX3_readWord_62 rfl ?_
  refine ev_iload_n dX3_readWord_63 rfl ?_
  exact k
theorem bX3_readWord_48_1 {g : GG} {d n0 nf : Nat} {post : Option Value → LX → Prop} {n : Nat} {X : LX} (hn : 146 ≤ n) (hX : Sh n X) {tv1 : Nat} {v2 : Int32} {v3 : Int32} {s0 : Int32} {s1 : Int32} (htv1 : tv1 < 14) (c0 : s1 ≤ s0) (c1 : ¬ v2 = 0) (k : Ev g mX3_readWord d n0 nf post n 87 [some (.ref 81), some (.ref (1000 + tv1)), some (.int v2), some (.int v3)] [.ref 81] X) : Ev g mX3_readWord d n0 nf post n 48 [some (.ref 81), some (.ref (1000 + tv1)), some (.int v2), some (.int v3)] [.int s1, .int s0] X := by
  refine ev_icmpT (tgt := 82) dX3_readWord_48 (by decide) c0 ?_
  refine ev_iload_n dX3_readWord_82 rfl ?_
  refine ev_ifF (tgt := 93) dX3_readWord_83 (by decide) c1 ?_
  refine ev_aload_n dX3_readWord_86 rfl ?_
  exact k
theorem bX3_readWord_48_2 {g : GG} {d n0 nf : Nat} {post : Option Value → LX → Prop} {n : Nat} {X : LX} (hn : 146 ≤ n) (hX : Sh n X) {tv1 : Nat} {v2 : Int32} {v3 : Int32} {s0 : Int32} {s1 : Int32} (htv1 : tv1 < 14) (c0 : s1 ≤ s0) (c1 : v2 = 0) (k : Ev g mX3_readWord d n0 nf post n 94 [some (.ref 81), some (.ref (1000 + tv1)), some (.int v2), some (.int v3)] [.ref 81] X) : Ev g mX3_readWord d n0 nf post n 48 [some (.ref 81), some (.ref (1000 + tv1)), some (.int v2), some (.int v3)] [.int s1, .int s0] X := by
  refine ev_icmpT (tgt := 82) dX3_readWord_48 (by decide) c0 ?_
  refine ev_iload_n dX3_readWord_82 rfl ?_
  refine ev_ifT (tgt := 93) dX3_readWord_83 (by decide) c1 ?_
  refine ev_aload_n dX3_readWord_93 rfl ?_
  exact k
theorem bX3_readWord_67_0 {g : GG} {d n0 nf : Nat} {post : Option Value → LX → Prop} {n : Nat} {X : LX} (hn : 146 ≤ n) (hX : Sh n X) {tv1 : Nat} {v2 : Int32} {v3 : Int32} {s0 : Int32} {s1 : Int32} (htv1 : tv1 < 14) (c0 : s0 = s1) (k : Ev g mX3_readWord d n0 nf post n 39 [some (.ref 81), some (.ref (1000 + tv1)), some (.int 1), some (.int (v3 + 1))] [] X) : Ev g mX3_readWord d n0 nf post n 67 [some (.ref 81), some (.ref (1000 + tv1)), some (.int v2), some (.int v3)] [.int s1, .int s0] X := by
  refine ev_icmpF (tgt := 74) dX3_readWord_67 (by decide) c0 ?_
  refine ev_iconst (v := 1) dX3_readWord_70 ki_1 ?_
  refine ev_goto (tgt := 75) dX3_readWord_71 (by decide) ?_
  refine ev_istore_n dX3_readWord_75 (by decide) ?_
  refine ev_iinc (v := v3 + 1) dX3_readWord_76 rfl (by rw [show Int32.ofInt 1 = 1 from ki_1]) (by decide) ?_
  refine ev_goto (tgt := 39) dX3_readWord_79 (by decide) ?_
  exact k
theorem bX3_readWord_67_1 {g : GG} {d n0 nf : Nat} {post : Option Value → LX → Prop} {n : Nat} {X : LX} (hn : 146 ≤ n) (hX : Sh n X) {tv1 : Nat} {v2 : Int32} {v3 : Int32} {s0 : Int32} {s1 : Int32} (htv1 : tv1 < 14) (c0 : ¬ s0 = s1) (k : Ev g mX3_readWord d n0 nf post n 39 [some (.ref 81), some (.ref (1000 + tv1)), some (.int 0), some (.int (v3 + 1))] [] X) : Ev g mX3_readWord d n0 nf post n 67 [some (.ref 81), some (.ref (1000 + tv1)), some (.int v2), some (.int v3)] [.int s1, .int s0] X := by
  refine ev_icmpT (tgt := 74) dX3_readWord_67 (by decide) c0 ?_
  refine ev_iconst (v := 0) dX3_readWord_74 ki_0 ?_
  refine ev_istore_n dX3_readWord_75 (by decide) ?_
  refine ev_iinc (v := v3 + 1) dX3_readWord_76 rfl (by rw [show Int32.ofInt 1 = 1 from ki_1]) (by decide) ?_
  refine ev_goto (tgt := 39) dX3_readWord_79 (by decide) ?_
  exact k
theorem bX3_readWord_90_0 {g : GG} {d n0 nf : Nat} {post : Option Value → LX → Prop} {n : Nat} {X : LX} (hn : 146 ≤ nf) (hX : Sh nf X) {tv1 : Nat} {v2 : Int32} {v3 : Int32} (htv1 : tv1 < 14) (hp : post none X) : Ev g mX3_readWord d n0 nf post nf 90 [some (.ref 81), some (.ref (1000 + tv1)), some (.int v2), some (.int v3)] [] X := by
  refine ev_goto (tgt := 97) dX3_readWord_90 (by decide) ?_
  exact ev_ret dX3_readWord_97 rfl hp
theorem bX3_readWord_97_0 {g : GG} {d n0 nf : Nat} {post : Option Value → LX → Prop} {n : Nat} {X : LX} (hn : 146 ≤ nf) (hX : Sh nf X) {tv1 : Nat} {v2 : Int32} {v3 : Int32} (htv1 : tv1 < 14) (hp : post none X) : Ev g mX3_readWord d n0 nf post nf 97 [some (.ref 81), some (.ref (1000 + tv1)), some (.int v2), some (.int v3)] [] X := by
  exact ev_ret dX3_readWord_97 rfl hp
theorem bX3_signsOf_0_0 {g : GG} {d n0 nf : Nat} {post : Option Value → LX → Prop} {n : Nat} {X : LX} (hn : 146 ≤ nf) (hX : Sh nf X) {v0 : Int32} (c0 : v0.toInt < 0 ∨ 3 < v0.toInt) (hp : post (some (.ref 1009)) X) : Ev g mX3_signsOf d n0 nf post nf 0 [some (.int v0)] [] X := by
  refine ev_iload_n dX3_signsOf_0 rfl ?_
  refine ev_tabO (tgt := 44) dX3_signsOf_1 c0 (by decide) ?_
  refine ev_ldcS (t := 9) dX3_signsOf_44 sw_3_93 rfl rfl rfl ?_
  exact ev_aret dX3_signsOf_46 rfl (Or.inl ⟨_, rfl⟩) hp
theorem bX3_signsOf_0_1 {g : GG} {d n0 nf : Nat} {post : Option Value → LX → Prop} {n : Nat} {X : LX} (hn : 146 ≤ nf) (hX : Sh nf X) {v0 : Int32} (c0 : v0 = 0) (hp : post (some (.ref 1005)) X) : Ev g mX3_signsOf d n0 nf post nf 0 [some (.int v0)] [] X := by
  refine ev_iload_n dX3_signsOf_0 rfl ?_
  refine ev_tabI (tgt := 32) (off := 31) dX3_signsOf_1 (by rw [c0]; decide) (by rw [c0]; decide) (by rw [c0]; rfl) (by decide) ?_
  refine ev_ldcS (t := 5) dX3_signsOf_32 sw_3_85 rfl rfl rfl ?_
  exact ev_aret dX3_signsOf_34 rfl (Or.inl ⟨_, rfl⟩) hp
theorem bX3_signsOf_0_2 {g : GG} {d n0 nf : Nat} {post : Option Value → LX → Prop} {n : Nat} {X : LX} (hn : 146 ≤ nf) (hX : Sh nf X) {v0 : Int32} (c0 : v0 = 1) (hp : post (some (.ref 1006)) X) : Ev g mX3_signsOf d n0 nf post nf 0 [some (.int v0)] [] X := by
  refine ev_iload_n dX3_signsOf_0 rfl ?_
  refine ev_tabI (tgt := 35) (off := 34) dX3_signsOf_1 (by rw [c0]; decide) (by rw [c0]; decide) (by rw [c0]; rfl) (by decide) ?_
  refine ev_ldcS (t := 6) dX3_signsOf_35 sw_3_87 rfl rfl rfl ?_
  exact ev_aret dX3_signsOf_37 rfl (Or.inl ⟨_, rfl⟩) hp
theorem bX3_signsOf_0_3 {g : GG} {d n0 nf : Nat} {post : Option Value → LX → Prop} {n : Nat} {X : LX} (hn : 146 ≤ nf) (hX : Sh nf X) {v0 : Int32} (c0 : v0 = 2) (hp : post (some (.ref 1007)) X) : Ev g mX3_signsOf d n0 nf post nf 0 [some (.int v0)] [] X := by
  refine ev_iload_n dX3_signsOf_0 rfl ?_
  refine ev_tabI (tgt := 38) (off := 37) dX3_signsOf_1 (by rw [c0]; decide) (by rw [c0]; decide) (by rw [c0]; rfl) (by decide) ?_
  refine ev_ldcS (t := 7) dX3_signsOf_38 sw_3_89 rfl rfl rfl ?_
  exact ev_aret dX3_signsOf_40 rfl (Or.inl ⟨_, rfl⟩) hp
theorem bX3_signsOf_0_4 {g : GG} {d n0 nf : Nat} {post : Option Value → LX → Prop} {n : Nat} {X : LX} (hn : 146 ≤ nf) (hX : Sh nf X) {v0 : Int32} (c0 : v0 = 3) (hp : post (some (.ref 1008)) X) : Ev g mX3_signsOf d n0 nf post nf 0 [some (.int v0)] [] X := by
  refine ev_iload_n dX3_signsOf_0 rfl ?_
  refine ev_tabI (tgt := 41) (off := 40) dX3_signsOf_1 (by rw [c0]; decide) (by rw [c0]; decide) (by rw [c0]; rfl) (by decide) ?_
  refine ev_ldcS (t := 8) dX3_signsOf_41 sw_3_91 rfl rfl rfl ?_
  exact ev_aret dX3_signsOf_43 rfl (Or.inl ⟨_, rfl⟩) hp
theorem bX3_isSignOf_0_0 {g : GG} {d n0 nf : Nat} {post : Option Value → LX → Prop} {n : Nat} {X : LX} (hn : 146 ≤ n) (hX : Sh n X) {tv1 : Nat} {j1 : Nat} (htv1 : tv1 < 14) (c0 : ¬ 0 ≤ X 81 6) (c1 : X 81 8 = 3) (hj1 : X 81 9 = nI j1) (b0 : j1 < 120) (k : Ev g mX3_isSignOf d n0 nf post n 26 [some (.ref 81), some (.ref (1000 + tv1))] [.int (((X 82 j1).toUInt32 % 65536).toInt32), .ref (1000 + tv1)] X) : Ev g mX3_isSignOf d n0 nf post n 0 [some (.ref 81), some (.ref (1000 + tv1))] [] X := by
  refine ev_aload_n dX3_isSignOf_0 rfl ?_
  refine ev_getI dX3_isSignOf_1 fo_3_28 (by omega) lo_81 rfl ?_
  refine ev_ifF (tgt := 36) dX3_isSignOf_4 (by decide) c0 ?_
  refine ev_aload_n dX3_isSignOf_7 rfl ?_
  refine ev_getI dX3_isSignOf_8 fo_3_31 (by omega) lo_81 rfl ?_
  refine ev_iconst (v := 3) dX3_isSignOf_11 ki_3 ?_
  refine ev_icmpF (tgt := 36) dX3_isSignOf_12 (by decide) c1 ?_
  refine ev_aload_n dX3_isSignOf_15 rfl ?_
  refine ev_aload_n dX3_isSignOf_16 rfl ?_
  refine ev_getS (q := 82) dX3_isSignOf_17 fo_3_9 (by omega) lo_81 rfl (sh_81_0 hX (by omega)) (by decide) ?_
  refine ev_aload_n dX3_isSignOf_20 rfl ?_
  refine ev_getI dX3_isSignOf_21 fo_3_66 (by omega) lo_81 rfl ?_
  refine ev_iald dX3_isSignOf_24 (by omega) ly_82 hj1 b0 ?_
  refine ev_i2c dX3_isSignOf_25 ?_
  exact k
theorem bX3_isSignOf_0_1 {g : GG} {d n0 nf : Nat} {post : Option Value → LX → Prop} {n : Nat} {X : LX} (hn : 146 ≤ nf) (hX : Sh nf X) {tv1 : Nat} (htv1 : tv1 < 14) (c0 : ¬ 0 ≤ X 81 6) (c1 : ¬ X 81 8 = 3) (hp : post (some (.int 0)) X) : Ev g mX3_isSignOf d n0 nf post nf 0 [some (.ref 81), some (.ref (1000 + tv1))] [] X := by
  refine ev_aload_n dX3_isSignOf_0 rfl ?_
  refine ev_getI dX3_isSignOf_1 fo_3_28 (by omega) lo_81 rfl ?_
  refine ev_ifF (tgt := 36) dX3_isSignOf_4 (by decide) c0 ?_
  refine ev_aload_n dX3_isSignOf_7 rfl ?_
  refine ev_getI dX3_isSignOf_8 fo_3_31 (by omega) lo_81 rfl ?_
  refine ev_iconst (v := 3) dX3_isSignOf_11 ki_3 ?_
  refine ev_icmpT (tgt := 36) dX3_isSignOf_12 (by decide) c1 ?_
  refine ev_iconst (v := 0) dX3_isSignOf_36 ki_0 ?_
  exact ev_iret dX3_isSignOf_37 rfl (by decide) hp
theorem bX3_isSignOf_0_2 {g : GG} {d n0 nf : Nat} {post : Option Value → LX → Prop} {n : Nat} {X : LX} (hn : 146 ≤ nf) (hX : Sh nf X) {tv1 : Nat} (htv1 : tv1 < 14) (c0 : 0 ≤ X 81 6) (hp : post (some (.int 0)) X) : Ev g mX3_isSignOf d n0 nf post nf 0 [some (.ref 81), some (.ref (1000 + tv1))] [] X := by
  refine ev_aload_n dX3_isSignOf_0 rfl ?_
  refine ev_getI dX3_isSignOf_1 fo_3_28 (by omega) lo_81 rfl ?_
  refine ev_ifT (tgt := 36) dX3_isSignOf_4 (by decide) c0 ?_
  refine ev_iconst (v := 0) dX3_isSignOf_36 ki_0 ?_
  exact ev_iret dX3_isSignOf_37 rfl (by decide) hp
theorem bX3_isSignOf_29_0 {g : GG} {d n0 nf : Nat} {post : Option Value → LX → Prop} {n : Nat} {X : LX} (hn : 146 ≤ nf) (hX : Sh nf X) {tv1 : Nat} {s0 : Int32} (htv1 : tv1 < 14) (c0 : ¬ s0 < 0) (hp : post (some (.int 1)) X) : Ev g mX3_isSignOf d n0 nf post nf 29 [some (.ref 81), some (.ref (1000 + tv1))] [.int s0] X := by
  refine ev_ifF (tgt := 36) dX3_isSignOf_29 (by decide) c0 ?_
  refine ev_iconst (v := 1) dX3_isSignOf_32 ki_1 ?_
  refine ev_goto (tgt := 37) dX3_isSignOf_33 (by decide) ?_
  exact ev_iret dX3_isSignOf_37 rfl (by decide) hp
theorem bX3_isSignOf_29_1 {g : GG} {d n0 nf : Nat} {post : Option Value → LX → Prop} {n : Nat} {X : LX} (hn : 146 ≤ nf) (hX : Sh nf X) {tv1 : Nat} {s0 : Int32} (htv1 : tv1 < 14) (c0 : s0 < 0) (hp : post (some (.int 0)) X) : Ev g mX3_isSignOf d n0 nf post nf 29 [some (.ref 81), some (.ref (1000 + tv1))] [.int s0] X := by
  refine ev_ifT (tgt := 36) dX3_isSignOf_29 (by decide) c0 ?_
  refine ev_iconst (v := 0) dX3_isSignOf_36 ki_0 ?_
  exact ev_iret dX3_isSignOf_37 rfl (by decide) hp
theorem bX3_readLevel_0_0 {g : GG} {d n0 nf : Nat} {post : Option Value → LX → Prop} {n : Nat} {X : LX} (hn : 146 ≤ n) (hX : Sh n X) {v1 : Int32} {v2 : Int32} {v3 : Int32} (c0 : ¬ v1 < 5) (k : Ev g mX3_readLevel d n0 nf post n 8 [some (.ref 81), some (.int v1), some (.int v2), some (.int v3), none, none, none] [.int v3, .int v2, .ref 81] X) : Ev g mX3_readLevel d n0 nf post n 0 [some (.ref 81), some (.int v1), some (.int v2), some (.int v3), none, none, none] [] X := by
  refine ev_iload_n dX3_readLevel_0 rfl ?_
  refine ev_iconst (v := 5) dX3_readLevel_1 ki_5 ?_
  refine ev_icmpF (tgt := 12) dX3_readLevel_2 (by decide) c0 ?_
  refine ev_aload_n dX3_readLevel_5 rfl ?_
  refine ev_iload_n dX3_readLevel_6 rfl ?_
  refine ev_iload_n dX3_readLevel_7 rfl ?_
  exact k
theorem bX3_readLevel_0_1 {g : GG} {d n0 nf : Nat} {post : Option Value → LX → Prop} {n : Nat} {X : LX} (hn : 146 ≤ n) (hX : Sh n X) {v1 : Int32} {v2 : Int32} {v3 : Int32} (c0 : v1 < 5) (k : Ev g mX3_readLevel d n0 nf post n 18 [some (.ref 81), some (.int v1), some (.int v2), some (.int v3), none, none, none] [.int v3, .int v2, .int (v1 + 1), .ref 81] X) : Ev g mX3_readLevel d n0 nf post n 0 [some (.ref 81), some (.int v1), some (.int v2), some (.int v3), none, none, none] [] X := by
  refine ev_iload_n dX3_readLevel_0 rfl ?_
  refine ev_iconst (v := 5) dX3_readLevel_1 ki_5 ?_
  refine ev_icmpT (tgt := 12) dX3_readLevel_2 (by decide) c0 ?_
  refine ev_aload_n dX3_readLevel_12 rfl ?_
  refine ev_iload_n dX3_readLevel_13 rfl ?_
  refine ev_iconst (v := 1) dX3_readLevel_14 ki_1 ?_
  refine ev_iadd dX3_readLevel_15 ?_
  refine ev_iload_n dX3_readLevel_16 rfl ?_
  refine ev_iload_n dX3_readLevel_17 rfl ?_
  exact k
theorem bX3_readLevel_11_0 {g : GG} {d n0 nf : Nat} {post : Option Value → LX → Prop} {n : Nat} {X : LX} (hn : 146 ≤ nf) (hX : Sh nf X) {v1 : Int32} {v2 : Int32} {v3 : Int32} (hp : post none X) : Ev g mX3_readLevel d n0 nf post nf 11 [some (.ref 81), some (.int v1), some (.int v2), some (.int v3), none, none, none] [] X := by
  exact ev_ret dX3_readLevel_11 rfl hp
theorem bX3_readLevel_21_0 {g : GG} {d n0 nf : Nat} {post : Option Value → LX → Prop} {n : Nat} {X : LX} (hn : 146 ≤ n) (hX : Sh n X) {v1 : Int32} {v2 : Int32} {v3 : Int32} (c0 : v1 = 2) (k : Ev g mX3_readLevel d n0 nf post n 37 [some (.ref 81), some (.int v1), some (.int v2), some (.int v3), some (.int 1), some (.int 0), none] [] X) : Ev g mX3_readLevel d n0 nf post n 21 [some (.ref 81), some (.int v1), some (.int v2), some (.int v3), none, none, none] [] X := by
  refine ev_iload_n dX3_readLevel_21 rfl ?_
  refine ev_iconst (v := 2) dX3_readLevel_22 ki_2 ?_
  refine ev_icmpF (tgt := 30) dX3_readLevel_23 (by decide) c0 ?_
  refine ev_iconst (v := 1) dX3_readLevel_26 ki_1 ?_
  refine ev_goto (tgt := 32) dX3_readLevel_27 (by decide) ?_
  refine ev_istore dX3_readLevel_32 (by decide) ?_
  refine ev_iconst (v := 0) dX3_readLevel_34 ki_0 ?_
  refine ev_istore dX3_readLevel_35 (by decide) ?_
  exact k
theorem bX3_readLevel_21_1 {g : GG} {d n0 nf : Nat} {post : Option Value → LX → Prop} {n : Nat} {X : LX} (hn : 146 ≤ n) (hX : Sh n X) {v1 : Int32} {v2 : Int32} {v3 : Int32} (c0 : ¬ v1 = 2) (k : Ev g mX3_readLevel d n0 nf post n 37 [some (.ref 81), some (.int v1), some (.int v2), some (.int v3), some (.int 120), some (.int 0), none] [] X) : Ev g mX3_readLevel d n0 nf post n 21 [some (.ref 81), some (.int v1), some (.int v2), some (.int v3), none, none, none] [] X := by
  refine ev_iload_n dX3_readLevel_21 rfl ?_
  refine ev_iconst (v := 2) dX3_readLevel_22 ki_2 ?_
  refine ev_icmpT (tgt := 30) dX3_readLevel_23 (by decide) c0 ?_
  refine ev_bipush (v := 120) dX3_readLevel_30 kb_120 ?_
  refine ev_istore dX3_readLevel_32 (by decide) ?_
  refine ev_iconst (v := 0) dX3_readLevel_34 ki_0 ?_
  refine ev_istore dX3_readLevel_35 (by decide) ?_
  exact k
theorem bX3_readLevel_37_0 {g : GG} {d n0 nf : Nat} {post : Option Value → LX → Prop} {n : Nat} {X : LX} (hn : 146 ≤ n) (hX : Sh n X) {v1 : Int32} {v2 : Int32} {v3 : Int32} {v4 : Int32} {v5 : Int32} (c0 : ¬ v4 ≤ v5) (k : Ev g mX3_readLevel d n0 nf post n 46 [some (.ref 81), some (.int v1), some (.int v2), some (.int v3), some (.int v4), some (.int v5), none] [.int v1, .ref 81] X) : Ev g mX3_readLevel d n0 nf post n 37 [some (.ref 81), some (.int v1), some (.int v2), some (.int v3), some (.int v4), some (.int v5), none] [] X := by
  refine ev_iload dX3_readLevel_37 rfl ?_
  refine ev_iload dX3_readLevel_39 rfl ?_
  refine ev_icmpF (tgt := 92) dX3_readLevel_41 (by decide) c0 ?_
  refine ev_aload_n dX3_readLevel_44 rfl ?_
  refine ev_iload_n dX3_readLevel_45 rfl ?_
  exact k
theorem bX3_readLevel_37_1 {g : GG} {d n0 nf : Nat} {post : Option Value → LX → Prop} {n : Nat} {X : LX} (hn : 146 ≤ nf) (hX : Sh nf X) {v1 : Int32} {v2 : Int32} {v3 : Int32} {v4 : Int32} {v5 : Int32} (c0 : v4 ≤ v5) (hp : post none X) : Ev g mX3_readLevel d n0 nf post nf 37 [some (.ref 81), some (.int v1), some (.int v2), some (.int v3), some (.int v4), some (.int v5), none] [] X := by
  refine ev_iload dX3_readLevel_37 rfl ?_
  refine ev_iload dX3_readLevel_39 rfl ?_
  refine ev_icmpT (tgt := 92) dX3_readLevel_41 (by decide) c0 ?_
  exact ev_ret dX3_readLevel_92 rfl hp
theorem bX3_readLevel_49_0 {g : GG} {d n0 nf : Nat} {post : Option Value → LX → Prop} {n : Nat} {X : LX} (hn : 146 ≤ n) (hX : Sh n X) {v1 : Int32} {v2 : Int32} {v3 : Int32} {v4 : Int32} {v5 : Int32} {ts1 : Nat} (hts1 : ts1 < 14) (k : Ev g mX3_readLevel d n0 nf post n 49 [some (.ref 81), some (.int v1), some (.int v2), some (.int v3), some (.int v4), some (.int v5), none] [.ref (1000 + ts1), .ref 81] X) : Ev g mX3_readLevel d n0 nf post n 49 [some (.ref 81), some (.int v1), some (.int v2), some (.int v3), some (.int v4), some (.int v5), none] [.ref (1000 + ts1), .ref 81] X := by
  exact k
theorem bX3_readLevel_52_0 {g : GG} {d n0 nf : Nat} {post : Option Value → LX → Prop} {n : Nat} {X : LX} (hn : 146 ≤ n) (hX : Sh n X) {v1 : Int32} {v2 : Int32} {v3 : Int32} {v4 : Int32} {v5 : Int32} {s0 : Int32} {j1 : Nat} (c0 : ¬ s0 = 0) (hj1 : X 81 9 = nI j1) (b0 : j1 < 120) (k : Ev g mX3_readLevel d n0 nf post n 67 [some (.ref 81), some (.int v1), some (.int v2), some (.int v3), some (.int v4), some (.int v5), some (.int (X 82 j1))] [.ref 81] X) : Ev g mX3_readLevel d n0 nf post n 52 [some (.ref 81), some (.int v1), some (.int v2), some (.int v3), some (.int v4), some (.int v5), none] [.int s0] X := by
  refine ev_ifF (tgt := 92) dX3_readLevel_52 (by decide) c0 ?_
  refine ev_aload_n dX3_readLevel_55 rfl ?_
  refine ev_getS (q := 82) dX3_readLevel_56 fo_3_9 (by omega) lo_81 rfl (sh_81_0 hX (by omega)) (by decide) ?_
  refine ev_aload_n dX3_readLevel_59 rfl ?_
  refine ev_getI dX3_readLevel_60 fo_3_66 (by omega) lo_81 rfl ?_
  refine ev_iald dX3_readLevel_63 (by omega) ly_82 hj1 b0 ?_
  refine ev_istore dX3_readLevel_64 (by decide) ?_
  refine ev_aload_n dX3_readLevel_66 rfl ?_
  exact k
theorem bX3_readLevel_52_1 {g : GG} {d n0 nf : Nat} {post : Option Value → LX → Prop} {n : Nat} {X : LX} (hn : 146 ≤ nf) (hX : Sh nf X) {v1 : Int32} {v2 : Int32} {v3 : Int32} {v4 : Int32} {v5 : Int32} {s0 : Int32} (c0 : s0 = 0) (hp : post none X) : Ev g mX3_readLevel d n0 nf post nf 52 [some (.ref 81), some (.int v1), some (.int v2), some (.int v3), some (.int v4), some (.int v5), none] [.int s0] X := by
  refine ev_ifT (tgt := 92) dX3_readLevel_52 (by decide) c0 ?_
  exact ev_ret dX3_readLevel_92 rfl hp
theorem bX3_readLevel_70_0 {g : GG} {d n0 nf : Nat} {post : Option Value → LX → Prop} {n : Nat} {X : LX} (hn : 146 ≤ n) (hX : Sh n X) {v1 : Int32} {v2 : Int32} {v3 : Int32} {v4 : Int32} {v5 : Int32} {v6 : Int32} (k : Ev g mX3_readLevel d n0 nf post n 76 [some (.ref 81), some (.int v1), some (.int v2), some (.int v3), some (.int v4), some (.int v5), some (.int v6)] [.int v3, .int v2, .int (v1 + 1), .ref 81] X) : Ev g mX3_readLevel d n0 nf post n 70 [some (.ref 81), some (.int v1), some (.int v2), some (.int v3), some (.int v4), some (.int v5), some (.int v6)] [] X := by
  refine ev_aload_n dX3_readLevel_70 rfl ?_
  refine ev_iload_n dX3_readLevel_71 rfl ?_
  refine ev_iconst (v := 1) dX3_readLevel_72 ki_1 ?_
  refine ev_iadd dX3_readLevel_73 ?_
  refine ev_iload_n dX3_readLevel_74 rfl ?_
  refine ev_iload_n dX3_readLevel_75 rfl ?_
  exact k
theorem bX3_readLevel_79_0 {g : GG} {d n0 nf : Nat} {post : Option Value → LX → Prop} {n : Nat} {X : LX} (hn : 146 ≤ n) (hX : Sh n X) {v1 : Int32} {v2 : Int32} {v3 : Int32} {v4 : Int32} {v5 : Int32} {v6 : Int32} (k : Ev g mX3_readLevel d n0 nf post n 83 [some (.ref 81), some (.int v1), some (.int v2), some (.int v3), some (.int v4), some (.int v5), some (.int v6)] [.int (-v6), .ref 81] X) : Ev g mX3_readLevel d n0 nf post n 79 [some (.ref 81), some (.int v1), some (.int v2), some (.int v3), some (.int v4), some (.int v5), some (.int v6)] [] X := by
  refine ev_aload_n dX3_readLevel_79 rfl ?_
  refine ev_iload dX3_readLevel_80 rfl ?_
  refine ev_ineg dX3_readLevel_82 ?_
  exact k
theorem bX3_readLevel_86_0 {g : GG} {d n0 nf : Nat} {post : Option Value → LX → Prop} {n : Nat} {X : LX} (hn : 146 ≤ n) (hX : Sh n X) {v1 : Int32} {v2 : Int32} {v3 : Int32} {v4 : Int32} {v5 : Int32} {v6 : Int32} (k : Ev g mX3_readLevel d n0 nf post n 37 [some (.ref 81), some (.int v1), some (.int v2), some (.int v3), some (.int v4), some (.int (v5 + 1)), some (.int v6)] [] X) : Ev g mX3_readLevel d n0 nf post n 86 [some (.ref 81), some (.int v1), some (.int v2), some (.int v3), some (.int v4), some (.int v5), some (.int v6)] [] X := by
  refine ev_iinc (v := v5 + 1) dX3_readLevel_86 rfl (by rw [show Int32.ofInt 1 = 1 from ki_1]) (by decide) ?_
  refine ev_goto (tgt := 37) dX3_readLevel_89 (by decide) ?_
  exact k
theorem bX3_readPart_0_0 {g : GG} {d n0 nf : Nat} {post : Option Value → LX → Prop} {n : Nat} {X : LX} (hn : 146 ≤ nf) (hX : Sh nf X) {v1 : Int32} {v2 : Int32} (c0 : ¬ X 81 6 < 0) (hp : post none X) : Ev g mX3_readPart d n0 nf post nf 0 [some (.ref 81), some (.int v1), some (.int v2), none] [] X := by
  refine ev_aload_n dX3_readPart_0 rfl ?_
  refine ev_getI dX3_readPart_1 fo_3_28 (by omega) lo_81 rfl ?_
  refine ev_ifF (tgt := 8) dX3_readPart_4 (by decide) c0 ?_
  exact ev_ret dX3_readPart_7 rfl hp
theorem bX3_readPart_0_1 {g : GG} {d n0 nf : Nat} {post : Option Value → LX → Prop} {n : Nat} {X : LX} (hn : 146 ≤ n) (hX : Sh n X) {v1 : Int32} {v2 : Int32} (c0 : X 81 6 < 0) (k : Ev g mX3_readPart d n0 nf post n 9 [some (.ref 81), some (.int v1), some (.int v2), none] [.ref 81] X) : Ev g mX3_readPart d n0 nf post n 0 [some (.ref 81), some (.int v1), some (.int v2), none] [] X := by
  refine ev_aload_n dX3_readPart_0 rfl ?_
  refine ev_getI dX3_readPart_1 fo_3_28 (by omega) lo_81 rfl ?_
  refine ev_ifT (tgt := 8) dX3_readPart_4 (by decide) c0 ?_
  refine ev_aload_n dX3_readPart_8 rfl ?_
  exact k
theorem bX3_readPart_12_0 {g : GG} {d n0 nf : Nat} {post : Option Value → LX → Prop} {n : Nat} {X : LX} (hn : 146 ≤ n) (hX : Sh n X) {v1 : Int32} {v2 : Int32} {s0 : Int32} (c0 : X 81 8 = 2) (k : Ev g mX3_readPart d n0 nf post n 23 [some (.ref 81), some (.int v1), some (.int v2), some (.int s0)] [.ref 81, .ref 81] X) : Ev g mX3_readPart d n0 nf post n 12 [some (.ref 81), some (.int v1), some (.int v2), none] [.int s0] X := by
  refine ev_istore_n dX3_readPart_12 (by decide) ?_
  refine ev_aload_n dX3_readPart_13 rfl ?_
  refine ev_getI dX3_readPart_14 fo_3_31 (by omega) lo_81 rfl ?_
  refine ev_iconst (v := 2) dX3_readPart_17 ki_2 ?_
  refine ev_icmpF (tgt := 32) dX3_readPart_18 (by decide) c0 ?_
  refine ev_aload_n dX3_readPart_21 rfl ?_
  refine ev_aload_n dX3_readPart_22 rfl ?_
  exact k
theorem bX3_readPart_12_1 {g : GG} {d n0 nf : Nat} {post : Option Value → LX → Prop} {n : Nat} {X : LX} (hn : 146 ≤ n) (hX : Sh n X) {v1 : Int32} {v2 : Int32} {s0 : Int32} (c0 : ¬ X 81 8 = 2) (c1 : ¬ s0 < 0) (k : Ev g mX3_readPart d n0 nf post n 42 [some (.ref 81), some (.int v1), some (.int v2), some (.int s0)] [.int ((-1000) - s0), .ref 81] X) : Ev g mX3_readPart d n0 nf post n 12 [some (.ref 81), some (.int v1), some (.int v2), none] [.int s0] X := by
  refine ev_istore_n dX3_readPart_12 (by decide) ?_
  refine ev_aload_n dX3_readPart_13 rfl ?_
  refine ev_getI dX3_readPart_14 fo_3_31 (by omega) lo_81 rfl ?_
  refine ev_iconst (v := 2) dX3_readPart_17 ki_2 ?_
  refine ev_icmpT (tgt := 32) dX3_readPart_18 (by decide) c0 ?_
  refine ev_iload_n dX3_readPart_32 rfl ?_
  refine ev_ifF (tgt := 48) dX3_readPart_33 (by decide) c1 ?_
  refine ev_aload_n dX3_readPart_36 rfl ?_
  refine ev_sipush (v := (-1000)) dX3_readPart_37 ks_m1000 ?_
  refine ev_iload_n dX3_readPart_40 rfl ?_
  refine ev_isub dX3_readPart_41 ?_
  exact k
theorem bX3_readPart_12_2 {g : GG} {d n0 nf : Nat} {post : Option Value → LX → Prop} {n : Nat} {X : LX} (hn : 146 ≤ n) (hX : Sh n X) {v1 : Int32} {v2 : Int32} {s0 : Int32} (c0 : ¬ X 81 8 = 2) (c1 : s0 < 0) (k : Ev g mX3_readPart d n0 nf post n 51 [some (.ref 81), some (.int v1), some (.int v2), some (.int s0)] [.ref 1002, .ref 81] X) : Ev g mX3_readPart d n0 nf post n 12 [some (.ref 81), some (.int v1), some (.int v2), none] [.int s0] X := by
  refine ev_istore_n dX3_readPart_12 (by decide) ?_
  refine ev_aload_n dX3_readPart_13 rfl ?_
  refine ev_getI dX3_readPart_14 fo_3_31 (by omega) lo_81 rfl ?_
  refine ev_iconst (v := 2) dX3_readPart_17 ki_2 ?_
  refine ev_icmpT (tgt := 32) dX3_readPart_18 (by decide) c0 ?_
  refine ev_iload_n dX3_readPart_32 rfl ?_
  refine ev_ifT (tgt := 48) dX3_readPart_33 (by decide) c1 ?_
  refine ev_aload_n dX3_readPart_48 rfl ?_
  refine ev_ldcS (t := 2) dX3_readPart_49 sw_3_126 rfl rfl rfl ?_
  exact k
theorem bX3_readPart_26_0 {g : GG} {d n0 nf : Nat} {post : Option Value → LX → Prop} {n : Nat} {X : LX} (hn : 146 ≤ n) (hX : Sh n X) {v1 : Int32} {v2 : Int32} {v3 : Int32} {s1 : Int32} (k : Ev g mX3_readPart d n0 nf post n 26 [some (.ref 81), some (.int v1), some (.int v2), some (.int v3)] [.int s1, .ref 81] X) : Ev g mX3_readPart d n0 nf post n 26 [some (.ref 81), some (.int v1), some (.int v2), some (.int v3)] [.int s1, .ref 81] X := by
  exact k
theorem bX3_readPart_29_0 {g : GG} {d n0 nf : Nat} {post : Option Value → LX → Prop} {n : Nat} {X : LX} (hn : 146 ≤ nf) (hX : Sh nf X) {v1 : Int32} {v2 : Int32} {v3 : Int32} (hp : post none X) : Ev g mX3_readPart d n0 nf post nf 29 [some (.ref 81), some (.int v1), some (.int v2), some (.int v3)] [] X := by
  refine ev_goto (tgt := 139) dX3_readPart_29 (by decide) ?_
  exact ev_ret dX3_readPart_139 rfl hp
theorem bX3_readPart_45_0 {g : GG} {d n0 nf : Nat} {post : Option Value → LX → Prop} {n : Nat} {X : LX} (hn : 146 ≤ nf) (hX : Sh nf X) {v1 : Int32} {v2 : Int32} {v3 : Int32} (hp : post none X) : Ev g mX3_readPart d n0 nf post nf 45 [some (.ref 81), some (.int v1), some (.int v2), some (.int v3)] [] X := by
  refine ev_goto (tgt := 139) dX3_readPart_45 (by decide) ?_
  exact ev_ret dX3_readPart_139 rfl hp
theorem bX3_readPart_54_0 {g : GG} {d n0 nf : Nat} {post : Option Value → LX → Prop} {n : Nat} {X : LX} (hn : 146 ≤ n) (hX : Sh n X) {v1 : Int32} {v2 : Int32} {v3 : Int32} {s0 : Int32} (c0 : ¬ s0 = 0) (c1 : ¬ 8 ≤ v2) (k : Ev g mX3_readPart d n0 nf post n 64 [some (.ref 81), some (.int v1), some (.int v2), some (.int v3)] [.ref 81] X) : Ev g mX3_readPart d n0 nf post n 54 [some (.ref 81), some (.int v1), some (.int v2), some (.int v3)] [.int s0] X := by
  refine ev_ifF (tgt := 84) dX3_readPart_54 (by decide) c0 ?_
  refine ev_iload_n dX3_readPart_57 rfl ?_
  refine ev_bipush (v := 8) dX3_readPart_58 kb_8 ?_
  refine ev_icmpF (tgt := 84) dX3_readPart_60 (by decide) c1 ?_
  refine ev_aload_n dX3_readPart_63 rfl ?_
  exact k
theorem bX3_readPart_54_1 {g : GG} {d n0 nf : Nat} {post : Option Value → LX → Prop} {n : Nat} {X : LX} (hn : 146 ≤ n) (hX : Sh n X) {v1 : Int32} {v2 : Int32} {v3 : Int32} {s0 : Int32} (c0 : ¬ s0 = 0) (c1 : 8 ≤ v2) (k : Ev g mX3_readPart d n0 nf post n 87 [some (.ref 81), some (.int v1), some (.int v2), some (.int v3)] [.ref 1003, .ref 81] X) : Ev g mX3_readPart d n0 nf post n 54 [some (.ref 81), some (.int v1), some (.int v2), some (.int v3)] [.int s0] X := by
  refine ev_ifF (tgt := 84) dX3_readPart_54 (by decide) c0 ?_
  refine ev_iload_n dX3_readPart_57 rfl ?_
  refine ev_bipush (v := 8) dX3_readPart_58 kb_8 ?_
  refine ev_icmpT (tgt := 84) dX3_readPart_60 (by decide) c1 ?_
  refine ev_aload_n dX3_readPart_84 rfl ?_
  refine ev_ldcS (t := 3) dX3_readPart_85 sw_3_128 rfl rfl rfl ?_
  exact k
theorem bX3_readPart_54_2 {g : GG} {d n0 nf : Nat} {post : Option Value → LX → Prop} {n : Nat} {X : LX} (hn : 146 ≤ n) (hX : Sh n X) {v1 : Int32} {v2 : Int32} {v3 : Int32} {s0 : Int32} (c0 : s0 = 0) (k : Ev g mX3_readPart d n0 nf post n 87 [some (.ref 81), some (.int v1), some (.int v2), some (.int v3)] [.ref 1003, .ref 81] X) : Ev g mX3_readPart d n0 nf post n 54 [some (.ref 81), some (.int v1), some (.int v2), some (.int v3)] [.int s0] X := by
  refine ev_ifT (tgt := 84) dX3_readPart_54 (by decide) c0 ?_
  refine ev_aload_n dX3_readPart_84 rfl ?_
  refine ev_ldcS (t := 3) dX3_readPart_85 sw_3_128 rfl rfl rfl ?_
  exact k
theorem bX3_readPart_67_0 {g : GG} {d n0 nf : Nat} {post : Option Value → LX → Prop} {n : Nat} {X : LX} (hn : 146 ≤ n) (hX : Sh n X) {v1 : Int32} {v2 : Int32} {v3 : Int32} (k : Ev g mX3_readPart d n0 nf post n 72 [some (.ref 81), some (.int v1), some (.int v2), some (.int v3)] [.int (v2 + 1), .int v1, .ref 81] X) : Ev g mX3_readPart d n0 nf post n 67 [some (.ref 81), some (.int v1), some (.int v2), some (.int v3)] [] X := by
  refine ev_aload_n dX3_readPart_67 rfl ?_
  refine ev_iload_n dX3_readPart_68 rfl ?_
  refine ev_iload_n dX3_readPart_69 rfl ?_
  refine ev_iconst (v := 1) dX3_readPart_70 ki_1 ?_
  refine ev_iadd dX3_readPart_71 ?_
  exact k
theorem bX3_readPart_75_0 {g : GG} {d n0 nf : Nat} {post : Option Value → LX → Prop} {n : Nat} {X : LX} (hn : 146 ≤ n) (hX : Sh n X) {v1 : Int32} {v2 : Int32} {v3 : Int32} (k : Ev g mX3_readPart d n0 nf post n 78 [some (.ref 81), some (.int v1), some (.int v2), some (.int v3)] [.int (-33), .ref 81] X) : Ev g mX3_readPart d n0 nf post n 75 [some (.ref 81), some (.int v1), some (.int v2), some (.int v3)] [] X := by
  refine ev_aload_n dX3_readPart_75 rfl ?_
  refine ev_bipush (v := (-33)) dX3_readPart_76 kb_m33 ?_
  exact k
theorem bX3_readPart_81_0 {g : GG} {d n0 nf : Nat} {post : Option Value → LX → Prop} {n : Nat} {X : LX} (hn : 146 ≤ nf) (hX : Sh nf X) {v1 : Int32} {v2 : Int32} {v3 : Int32} (hp : post none X) : Ev g mX3_readPart d n0 nf post nf 81 [some (.ref 81), some (.int v1), some (.int v2), some (.int v3)] [] X := by
  refine ev_goto (tgt := 139) dX3_readPart_81 (by decide) ?_
  exact ev_ret dX3_readPart_139 rfl hp
theorem bX3_readPart_90_0 {g : GG} {d n0 nf : Nat} {post : Option Value → LX → Prop} {n : Nat} {X : LX} (hn : 146 ≤ n) (hX : Sh n X) {v1 : Int32} {v2 : Int32} {v3 : Int32} {s0 : Int32} (c0 : ¬ s0 = 0) (c1 : ¬ 8 ≤ v1) (k : Ev g mX3_readPart d n0 nf post n 100 [some (.ref 81), some (.int v1), some (.int v2), some (.int v3)] [.ref 81] X) : Ev g mX3_readPart d n0 nf post n 90 [some (.ref 81), some (.int v1), some (.int v2), some (.int v3)] [.int s0] X := by
  refine ev_ifF (tgt := 135) dX3_readPart_90 (by decide) c0 ?_
  refine ev_iload_n dX3_readPart_93 rfl ?_
  refine ev_bipush (v := 8) dX3_readPart_94 kb_8 ?_
  refine ev_icmpF (tgt := 135) dX3_readPart_96 (by decide) c1 ?_
  refine ev_aload_n dX3_readPart_99 rfl ?_
  exact k
theorem bX3_readPart_90_1 {g : GG} {d n0 nf : Nat} {post : Option Value → LX → Prop} {n : Nat} {X : LX} (hn : 146 ≤ n) (hX : Sh n X) {v1 : Int32} {v2 : Int32} {v3 : Int32} {s0 : Int32} (c0 : ¬ s0 = 0) (c1 : 8 ≤ v1) (k : Ev g mX3_readPart d n0 nf post n 136 [some (.ref 81), some (.int v1), some (.int v2), some (.int v3)] [.ref 81] X) : Ev g mX3_readPart d n0 nf post n 90 [some (.ref 81), some (.int v1), some (.int v2), some (.int v3)] [.int s0] X := by
  refine ev_ifF (tgt := 135) dX3_readPart_90 (by decide) c0 ?_
  refine ev_iload_n dX3_readPart_93 rfl ?_
  refine ev_bipush (v := 8) dX3_readPart_94 kb_8 ?_
  refine ev_icmpT (tgt := 135) dX3_readPart_96 (by decide) c1 ?_
  refine ev_aload_n dX3_readPart_135 rfl ?_
  exact k
theorem bX3_readPart_90_2 {g : GG} {d n0 nf : Nat} {post : Option Value → LX → Prop} {n : Nat} {X : LX} (hn : 146 ≤ n) (hX : Sh n X) {v1 : Int32} {v2 : Int32} {v3 : Int32} {s0 : Int32} (c0 : s0 = 0) (k : Ev g mX3_readPart d n0 nf post n 136 [some (.ref 81), some (.int v1), some (.int v2), some (.int v3)] [.ref 81] X) : Ev g mX3_readPart d n0 nf post n 90 [some (.ref 81), some (.int v1), some (.int v2), some (.int v3)] [.int s0] X := by
  refine ev_ifT (tgt := 135) dX3_readPart_90 (by decide) c0 ?_
  refine ev_aload_n dX3_readPart_135 rfl ?_
  exact k
theorem bX3_readPart_103_0 {g : GG} {d n0 nf : Nat} {post : Option Value → LX → Prop} {n : Nat} {X : LX} (hn : 146 ≤ n) (hX : Sh n X) {v1 : Int32} {v2 : Int32} {v3 : Int32} (k : Ev g mX3_readPart d n0 nf post n 109 [some (.ref 81), some (.int v1), some (.int v2), some (.int v3)] [.int v2, .int (v1 + 1), .int 0, .ref 81] X) : Ev g mX3_readPart d n0 nf post n 103 [some (.ref 81), some (.int v1), some (.int v2), some (.int v3)] [] X := by
  refine ev_aload_n dX3_readPart_103 rfl ?_
  refine ev_iconst (v := 0) dX3_readPart_104 ki_0 ?_
  refine ev_iload_n dX3_readPart_105 rfl ?_
  refine ev_iconst (v := 1) dX3_readPart_106 ki_1 ?_
  refine ev_iadd dX3_readPart_107 ?_
  refine ev_iload_n dX3_readPart_108 rfl ?_
  exact k
theorem bX3_readPart_112_0 {g : GG} {d n0 nf : Nat} {post : Option Value → LX → Prop} {n : Nat} {X : LX} (hn : 146 ≤ n) (hX : Sh n X) {v1 : Int32} {v2 : Int32} {v3 : Int32} (k : Ev g mX3_readPart d n0 nf post n 115 [some (.ref 81), some (.int v1), some (.int v2), some (.int v3)] [.ref 1004, .ref 81] X) : Ev g mX3_readPart d n0 nf post n 112 [some (.ref 81), some (.int v1), some (.int v2), some (.int v3)] [] X := by
  refine ev_aload_n dX3_readPart_112 rfl ?_
  refine ev_ldcS (t := 4) dX3_readPart_113 sw_3_130 rfl rfl rfl ?_
  exact k
theorem bX3_readPart_118_0 {g : GG} {d n0 nf : Nat} {post : Option Value → LX → Prop} {n : Nat} {X : LX} (hn : 146 ≤ n) (hX : Sh n X) {v1 : Int32} {v2 : Int32} {v3 : Int32} {s0 : Int32} (c0 : ¬ s0 = 0) (k : Ev g mX3_readPart d n0 nf post n 122 [some (.ref 81), some (.int v1), some (.int v2), some (.int v3)] [.ref 81] X) : Ev g mX3_readPart d n0 nf post n 118 [some (.ref 81), some (.int v1), some (.int v2), some (.int v3)] [.int s0] X := by
  refine ev_ifF (tgt := 128) dX3_readPart_118 (by decide) c0 ?_
  refine ev_aload_n dX3_readPart_121 rfl ?_
  exact k
theorem bX3_readPart_118_1 {g : GG} {d n0 nf : Nat} {post : Option Value → LX → Prop} {n : Nat} {X : LX} (hn : 146 ≤ n) (hX : Sh n X) {v1 : Int32} {v2 : Int32} {v3 : Int32} {s0 : Int32} (c0 : s0 = 0) (k : Ev g mX3_readPart d n0 nf post n 129 [some (.ref 81), some (.int v1), some (.int v2), some (.int v3)] [.ref 81] X) : Ev g mX3_readPart d n0 nf post n 118 [some (.ref 81), some (.int v1), some (.int v2), some (.int v3)] [.int s0] X := by
  refine ev_ifT (tgt := 128) dX3_readPart_118 (by decide) c0 ?_
  refine ev_aload_n dX3_readPart_128 rfl ?_
  exact k
theorem bX3_readPart_125_0 {g : GG} {d n0 nf : Nat} {post : Option Value → LX → Prop} {n : Nat} {X : LX} (hn : 146 ≤ nf) (hX : Sh nf X) {v1 : Int32} {v2 : Int32} {v3 : Int32} (hp : post none X) : Ev g mX3_readPart d n0 nf post nf 125 [some (.ref 81), some (.int v1), some (.int v2), some (.int v3)] [] X := by
  refine ev_goto (tgt := 139) dX3_readPart_125 (by decide) ?_
  exact ev_ret dX3_readPart_139 rfl hp
theorem bX3_readPart_132_0 {g : GG} {d n0 nf : Nat} {post : Option Value → LX → Prop} {n : Nat} {X : LX} (hn : 146 ≤ nf) (hX : Sh nf X) {v1 : Int32} {v2 : Int32} {v3 : Int32} (hp : post none X) : Ev g mX3_readPart d n0 nf post nf 132 [some (.ref 81), some (.int v1), some (.int v2), some (.int v3)] [] X := by
  refine ev_goto (tgt := 139) dX3_readPart_132 (by decide) ?_
  exact ev_ret dX3_readPart_139 rfl hp
theorem bX3_readPart_139_0 {g : GG} {d n0 nf : Nat} {post : Option Value → LX → Prop} {n : Nat} {X : LX} (hn : 146 ≤ nf) (hX : Sh nf X) {v1 : Int32} {v2 : Int32} {v3 : Int32} (hp : post none X) : Ev g mX3_readPart d n0 nf post nf 139 [some (.ref 81), some (.int v1), some (.int v2), some (.int v3)] [] X := by
  exact ev_ret dX3_readPart_139 rfl hp
theorem bX3_slotOfName_0_0 {g : GG} {d n0 nf : Nat} {post : Option Value → LX → Prop} {n : Nat} {X : LX} (hn : 146 ≤ n) (hX : Sh n X) {t1 : Nat} {j2 : Nat} (c0 : X 81 8 = 1) (c1 : (X 81 10) - (X 81 9) = 1) (htt1 : t1 < 14) (hxt1 : X 81 7 = rE (1000 + t1)) (hj2 : X 81 9 = nI j2) (b0 : j2 < 120) (k : Ev g mX3_slotOfName d n0 nf post n 35 [some (.ref 81)] [.int (((X 82 j2).toUInt32 % 65536).toInt32), .ref (1000 + t1)] X) : Ev g mX3_slotOfName d n0 nf post n 0 [some (.ref 81)] [] X := by
  refine ev_aload_n dX3_slotOfName_0 rfl ?_
  refine ev_getI dX3_slotOfName_1 fo_3_31 (by omega) lo_81 rfl ?_
  refine ev_iconst (v := 1) dX3_slotOfName_4 ki_1 ?_
  refine ev_icmpF (tgt := 41) dX3_slotOfName_5 (by decide) c0 ?_
  refine ev_aload_n dX3_slotOfName_8 rfl ?_
  refine ev_getI dX3_slotOfName_9 fo_3_34 (by omega) lo_81 rfl ?_
  refine ev_aload_n dX3_slotOfName_12 rfl ?_
  refine ev_getI dX3_slotOfName_13 fo_3_66 (by omega) lo_81 rfl ?_
  refine ev_isub dX3_slotOfName_16 ?_
  refine ev_iconst (v := 1) dX3_slotOfName_17 ki_1 ?_
  refine ev_icmpF (tgt := 41) dX3_slotOfName_18 (by decide) c1 ?_
  refine ev_aload_n dX3_slotOfName_21 rfl ?_
  refine ev_getS (q := 1000 + t1) dX3_slotOfName_22 fo_3_39 (by omega) lo_81 rfl hxt1 (by omega) ?_
  refine ev_aload_n dX3_slotOfName_25 rfl ?_
  refine ev_getS (q := 82) dX3_slotOfName_26 fo_3_9 (by omega) lo_81 rfl (sh_81_0 hX (by omega)) (by decide) ?_
  refine ev_aload_n dX3_slotOfName_29 rfl ?_
  refine ev_getI dX3_slotOfName_30 fo_3_66 (by omega) lo_81 rfl ?_
  refine ev_iald dX3_slotOfName_33 (by omega) ly_82 hj2 b0 ?_
  refine ev_i2c dX3_slotOfName_34 ?_
  exact k
theorem bX3_slotOfName_0_1 {g : GG} {d n0 nf : Nat} {post : Option Value → LX → Prop} {n : Nat} {X : LX} (hn : 146 ≤ nf) (hX : Sh nf X)  (c0 : X 81 8 = 1) (c1 : ¬ (X 81 10) - (X 81 9) = 1) (hp : post (some (.int (-1))) X) : Ev g mX3_slotOfName d n0 nf post nf 0 [some (.ref 81)] [] X := by
  refine ev_aload_n dX3_slotOfName_0 rfl ?_
  refine ev_getI dX3_slotOfName_1 fo_3_31 (by omega) lo_81 rfl ?_
  refine ev_iconst (v := 1) dX3_slotOfName_4 ki_1 ?_
  refine ev_icmpF (tgt := 41) dX3_slotOfName_5 (by decide) c0 ?_
  refine ev_aload_n dX3_slotOfName_8 rfl ?_
  refine ev_getI dX3_slotOfName_9 fo_3_34 (by omega) lo_81 rfl ?_
  refine ev_aload_n dX3_slotOfName_12 rfl ?_
  refine ev_getI dX3_slotOfName_13 fo_3_66 (by omega) lo_81 rfl ?_
  refine ev_isub dX3_slotOfName_16 ?_
  refine ev_iconst (v := 1) dX3_slotOfName_17 ki_1 ?_
  refine ev_icmpT (tgt := 41) dX3_slotOfName_18 (by decide) c1 ?_
  refine ev_iconst (v := (-1)) dX3_slotOfName_41 ki_m1 ?_
  exact ev_iret dX3_slotOfName_42 rfl rfl hp
theorem bX3_slotOfName_0_2 {g : GG} {d n0 nf : Nat} {post : Option Value → LX → Prop} {n : Nat} {X : LX} (hn : 146 ≤ nf) (hX : Sh nf X)  (c0 : ¬ X 81 8 = 1) (hp : post (some (.int (-1))) X) : Ev g mX3_slotOfName d n0 nf post nf 0 [some (.ref 81)] [] X := by
  refine ev_aload_n dX3_slotOfName_0 rfl ?_
  refine ev_getI dX3_slotOfName_1 fo_3_31 (by omega) lo_81 rfl ?_
  refine ev_iconst (v := 1) dX3_slotOfName_4 ki_1 ?_
  refine ev_icmpT (tgt := 41) dX3_slotOfName_5 (by decide) c0 ?_
  refine ev_iconst (v := (-1)) dX3_slotOfName_41 ki_m1 ?_
  exact ev_iret dX3_slotOfName_42 rfl rfl hp
theorem bX3_slotOfName_38_0 {g : GG} {d n0 nf : Nat} {post : Option Value → LX → Prop} {n : Nat} {X : LX} (hn : 146 ≤ nf) (hX : Sh nf X) {s0 : Int32} (hp : post (some (.int s0)) X) : Ev g mX3_slotOfName d n0 nf post nf 38 [some (.ref 81)] [.int s0] X := by
  refine ev_goto (tgt := 42) dX3_slotOfName_38 (by decide) ?_
  exact ev_iret dX3_slotOfName_42 rfl rfl hp
theorem bX3_number_0_0 {g : GG} {d n0 nf : Nat} {post : Option Value → LX → Prop} {n : Nat} {X : LX} (hn : 146 ≤ n) (hX : Sh n X)  (k : Ev g mX3_number d n0 nf post n 7 [some (.ref 81), some (.int 0), some (.int (X 81 9))] [] X) : Ev g mX3_number d n0 nf post n 0 [some (.ref 81), none, none] [] X := by
  refine ev_iconst (v := 0) dX3_number_0 ki_0 ?_
  refine ev_istore_n dX3_number_1 (by decide) ?_
  refine ev_aload_n dX3_number_2 rfl ?_
  refine ev_getI dX3_number_3 fo_3_66 (by omega) lo_81 rfl ?_
  refine ev_istore_n dX3_number_6 (by decide) ?_
  exact k
theorem bX3_number_7_0 {g : GG} {d n0 nf : Nat} {post : Option Value → LX → Prop} {n : Nat} {X : LX} (hn : 146 ≤ n) (hX : Sh n X) {v1 : Int32} {v2 : Nat} (c0 : ¬ X 81 10 ≤ nI v2) (b0 : v2 < 120) (k : Ev g mX3_number d n0 nf post n 7 [some (.ref 81), some (.int (((v1 * 10) + (X 82 v2)) - 48)), some (.int ((nI v2) + 1))] [] X) : Ev g mX3_number d n0 nf post n 7 [some (.ref 81), some (.int v1), some (.int (nI v2))] [] X := by
  refine ev_iload_n dX3_number_7 rfl ?_
  refine ev_aload_n dX3_number_8 rfl ?_
  refine ev_getI dX3_number_9 fo_3_34 (by omega) lo_81 rfl ?_
  refine ev_icmpF (tgt := 36) dX3_number_12 (by decide) c0 ?_
  refine ev_iload_n dX3_number_15 rfl ?_
  refine ev_bipush (v := 10) dX3_number_16 kb_10 ?_
  refine ev_imul dX3_number_18 ?_
  refine ev_aload_n dX3_number_19 rfl ?_
  refine ev_getS (q := 82) dX3_number_20 fo_3_9 (by omega) lo_81 rfl (sh_81_0 hX (by omega)) (by decide) ?_
  refine ev_iload_n dX3_number_23 rfl ?_
  refine ev_iald dX3_number_24 (by omega) ly_82 rfl b0 ?_
  refine ev_iadd dX3_number_25 ?_
  refine ev_bipush (v := 48) dX3_number_26 kb_48 ?_
  refine ev_isub dX3_number_28 ?_
  refine ev_istore_n dX3_number_29 (by decide) ?_
  refine ev_iinc (v := (nI v2) + 1) dX3_number_30 rfl (by rw [show Int32.ofInt 1 = 1 from ki_1]) (by decide) ?_
  refine ev_goto (tgt := 7) dX3_number_33 (by decide) ?_
  exact k
theorem bX3_number_7_1 {g : GG} {d n0 nf : Nat} {post : Option Value → LX → Prop} {n : Nat} {X : LX} (hn : 146 ≤ nf) (hX : Sh nf X) {v1 : Int32} {v2 : Nat} (c0 : X 81 10 ≤ nI v2) (hp : post (some (.int v1)) X) : Ev g mX3_number d n0 nf post nf 7 [some (.ref 81), some (.int v1), some (.int (nI v2))] [] X := by
  refine ev_iload_n dX3_number_7 rfl ?_
  refine ev_aload_n dX3_number_8 rfl ?_
  refine ev_getI dX3_number_9 fo_3_34 (by omega) lo_81 rfl ?_
  refine ev_icmpT (tgt := 36) dX3_number_12 (by decide) c0 ?_
  refine ev_iload_n dX3_number_36 rfl ?_
  exact ev_iret dX3_number_37 rfl rfl hp
theorem bX3_putValue_0_0 {g : GG} {d n0 nf : Nat} {post : Option Value → LX → Prop} {n : Nat} {X : LX} (hn : 146 ≤ n) (hX : Sh n X) {v1 : Int32} (k : Ev g mX3_putValue d n0 nf post n 2 [some (.ref 81), some (.int v1)] [.int v1, .ref 81] X) : Ev g mX3_putValue d n0 nf post n 0 [some (.ref 81), some (.int v1)] [] X := by
  refine ev_aload_n dX3_putValue_0 rfl ?_
  refine ev_iload_n dX3_putValue_1 rfl ?_
  exact k
theorem bX3_putValue_5_0 {g : GG} {d n0 nf : Nat} {post : Option Value → LX → Prop} {n : Nat} {X : LX} (hn : 146 ≤ n) (hX : Sh n X) {v1 : Int32} (k : Ev g mX3_putValue d n0 nf post n 16 [some (.ref 81), some (.int v1)] [.ref 81] (lx_up X 81 5 ((X 81 5) + 1))) : Ev g mX3_putValue d n0 nf post n 5 [some (.ref 81), some (.int v1)] [] X := by
  refine ev_aload_n dX3_putValue_5 rfl ?_
  refine ev_dup dX3_putValue_6 rfl ?_
  refine ev_getI dX3_putValue_7 fo_3_25 (by omega) lo_81 rfl ?_
  refine ev_iconst (v := 1) dX3_putValue_10 ki_1 ?_
  refine ev_iadd dX3_putValue_11 ?_
  refine ev_putI dX3_putValue_12 fo_3_25 (by omega) lo_81 rfl rfl rfl ?_
  have hX1 : Sh _ (lx_up X 81 5 ((X 81 5) + 1)) := Sh.upF hX (by rw [lo_81]; decide) (by decide)
  refine ev_aload_n dX3_putValue_15 rfl ?_
  exact k
theorem bX3_putValue_19_0 {g : GG} {d n0 nf : Nat} {post : Option Value → LX → Prop} {n : Nat} {X : LX} (hn : 146 ≤ nf) (hX : Sh nf X) {v1 : Int32} (hp : post none X) : Ev g mX3_putValue d n0 nf post nf 19 [some (.ref 81), some (.int v1)] [] X := by
  exact ev_ret dX3_putValue_19 rfl hp
theorem bX3_put_0_0 {g : GG} {d n0 nf : Nat} {post : Option Value → LX → Prop} {n : Nat} {X : LX} (hn : 146 ≤ nf) (hX : Sh nf X) {v1 : Int32} {j1 : Nat} (c0 : ¬ 120 ≤ X 81 3) (hj1 : X 81 3 = nI j1) (b0 : j1 < 120) (hp : post none (lx_up (lx_up X 81 3 ((X 81 3) + 1)) 83 j1 v1)) : Ev g mX3_put d n0 nf post nf 0 [some (.ref 81), some (.int v1)] [] X := by
  refine ev_aload_n dX3_put_0 rfl ?_
  refine ev_getI dX3_put_1 fo_3_22 (by omega) lo_81 rfl ?_
  refine ev_bipush (v := 120) dX3_put_4 kb_120 ?_
  refine ev_icmpF (tgt := 26) dX3_put_6 (by decide) c0 ?_
  refine ev_aload_n dX3_put_9 rfl ?_
  refine ev_getS (q := 83) dX3_put_10 fo_3_15 (by omega) lo_81 rfl (sh_81_2 hX (by omega)) (by decide) ?_
  refine ev_aload_n dX3_put_13 rfl ?_
  refine ev_dup dX3_put_14 rfl ?_
  refine ev_getI dX3_put_15 fo_3_22 (by omega) lo_81 rfl ?_
  refine ev_dup_x1 dX3_put_18 rfl rfl ?_
  refine ev_iconst (v := 1) dX3_put_19 ki_1 ?_
  refine ev_iadd dX3_put_20 ?_
  refine ev_putI dX3_put_21 fo_3_22 (by omega) lo_81 rfl rfl rfl ?_
  have hX1 : Sh _ (lx_up X 81 3 ((X 81 3) + 1)) := Sh.upF hX (by rw [lo_81]; decide) (by decide)
  refine ev_iload_n dX3_put_24 rfl ?_
  refine ev_iast dX3_put_25 (by omega) ly_83 hj1 b0 ?_
  have hX2 : Sh _ (lx_up (lx_up X 81 3 ((X 81 3) + 1)) 83 j1 v1) := Sh.upA hX1 (by rw [ly_83]; exact (by decide : 0 < 2))
  exact ev_ret dX3_put_26 rfl hp
theorem bX3_put_0_1 {g : GG} {d n0 nf : Nat} {post : Option Value → LX → Prop} {n : Nat} {X : LX} (hn : 146 ≤ nf) (hX : Sh nf X) {v1 : Int32} (c0 : 120 ≤ X 81 3) (hp : post none X) : Ev g mX3_put d n0 nf post nf 0 [some (.ref 81), some (.int v1)] [] X := by
  refine ev_aload_n dX3_put_0 rfl ?_
  refine ev_getI dX3_put_1 fo_3_22 (by omega) lo_81 rfl ?_
  refine ev_bipush (v := 120) dX3_put_4 kb_120 ?_
  refine ev_icmpT (tgt := 26) dX3_put_6 (by decide) c0 ?_
  exact ev_ret dX3_put_26 rfl hp
