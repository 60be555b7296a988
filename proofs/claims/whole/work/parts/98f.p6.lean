/-! BLOCKS of the reading of a law. -/
theorem ex_a1 {g : GG} {M : Mt} {d n r : Nat} {a b : Int32} {X : LX} {p : Option Value → LX → Prop} (e : a = b) (h : Ex g M d n n [.ref r, .int b] X p) : Ex g M d n n [.ref r, .int a] X p := by rw [e]; exact h
theorem bX3_step_0_0 {g : GG} {d n : Nat} {post : Option Value → LX → Prop} {X : LX} (hn : 146 ≤ n) (hX : Sh n X)  (c0 : ¬ X 81 8 = 1) (c1 : X 81 8 = 2) (k : Ev g mX3_step d n n post n 32 [some (.ref 81), some (.int 1), some (.int (X 81 10))] [] (lx_up X 81 9 (X 81 10))) : Ev g mX3_step d n n post n 0 [some (.ref 81), none, none] [] X := by
  refine ev_aload_n dX3_step_0 rfl ?_
  refine ev_getI dX3_step_1 fo_3_31 (by omega) lo_81 rfl ?_
  refine ev_iconst (v := 1) dX3_step_4 ki_1 ?_
  refine ev_icmpF (tgt := 16) dX3_step_5 (by decide) c0 ?_
  refine ev_aload_n dX3_step_8 rfl ?_
  refine ev_getI dX3_step_9 fo_3_31 (by omega) lo_81 rfl ?_
  refine ev_iconst (v := 2) dX3_step_12 ki_2 ?_
  refine ev_icmpF (tgt := 20) dX3_step_13 (by decide) c1 ?_
  refine ev_iconst (v := 1) dX3_step_16 ki_1 ?_
  refine ev_goto (tgt := 21) dX3_step_17 (by decide) ?_
  refine ev_istore_n dX3_step_21 (by decide) ?_
  refine ev_aload_n dX3_step_22 rfl ?_
  refine ev_getI dX3_step_23 fo_3_34 (by omega) lo_81 rfl ?_
  refine ev_istore_n dX3_step_26 (by decide) ?_
  refine ev_aload_n dX3_step_27 rfl ?_
  refine ev_iload_n dX3_step_28 rfl ?_
  refine ev_putI dX3_step_29 fo_3_66 (by omega) lo_81 rfl rfl rfl ?_
  have hX1 : Sh _ (lx_up X 81 9 (X 81 10)) := Sh.upF hX (by rw [lo_81]; decide) (by decide)
  exact k
theorem bX3_step_0_1 {g : GG} {d n : Nat} {post : Option Value → LX → Prop} {X : LX} (hn : 146 ≤ n) (hX : Sh n X)  (c0 : ¬ X 81 8 = 1) (c1 : ¬ X 81 8 = 2) (k : Ev g mX3_step d n n post n 32 [some (.ref 81), some (.int 0), some (.int (X 81 10))] [] (lx_up X 81 9 (X 81 10))) : Ev g mX3_step d n n post n 0 [some (.ref 81), none, none] [] X := by
  refine ev_aload_n dX3_step_0 rfl ?_
  refine ev_getI dX3_step_1 fo_3_31 (by omega) lo_81 rfl ?_
  refine ev_iconst (v := 1) dX3_step_4 ki_1 ?_
  refine ev_icmpF (tgt := 16) dX3_step_5 (by decide) c0 ?_
  refine ev_aload_n dX3_step_8 rfl ?_
  refine ev_getI dX3_step_9 fo_3_31 (by omega) lo_81 rfl ?_
  refine ev_iconst (v := 2) dX3_step_12 ki_2 ?_
  refine ev_icmpT (tgt := 20) dX3_step_13 (by decide) c1 ?_
  refine ev_iconst (v := 0) dX3_step_20 ki_0 ?_
  refine ev_istore_n dX3_step_21 (by decide) ?_
  refine ev_aload_n dX3_step_22 rfl ?_
  refine ev_getI dX3_step_23 fo_3_34 (by omega) lo_81 rfl ?_
  refine ev_istore_n dX3_step_26 (by decide) ?_
  refine ev_aload_n dX3_step_27 rfl ?_
  refine ev_iload_n dX3_step_28 rfl ?_
  refine ev_putI dX3_step_29 fo_3_66 (by omega) lo_81 rfl rfl rfl ?_
  have hX1 : Sh _ (lx_up X 81 9 (X 81 10)) := Sh.upF hX (by rw [lo_81]; decide) (by decide)
  exact k
theorem bX3_step_0_2 {g : GG} {d n : Nat} {post : Option Value → LX → Prop} {X : LX} (hn : 146 ≤ n) (hX : Sh n X)  (c0 : X 81 8 = 1) (k : Ev g mX3_step d n n post n 32 [some (.ref 81), some (.int 1), some (.int (X 81 10))] [] (lx_up X 81 9 (X 81 10))) : Ev g mX3_step d n n post n 0 [some (.ref 81), none, none] [] X := by
  refine ev_aload_n dX3_step_0 rfl ?_
  refine ev_getI dX3_step_1 fo_3_31 (by omega) lo_81 rfl ?_
  refine ev_iconst (v := 1) dX3_step_4 ki_1 ?_
  refine ev_icmpT (tgt := 16) dX3_step_5 (by decide) c0 ?_
  refine ev_iconst (v := 1) dX3_step_16 ki_1 ?_
  refine ev_goto (tgt := 21) dX3_step_17 (by decide) ?_
  refine ev_istore_n dX3_step_21 (by decide) ?_
  refine ev_aload_n dX3_step_22 rfl ?_
  refine ev_getI dX3_step_23 fo_3_34 (by omega) lo_81 rfl ?_
  refine ev_istore_n dX3_step_26 (by decide) ?_
  refine ev_aload_n dX3_step_27 rfl ?_
  refine ev_iload_n dX3_step_28 rfl ?_
  refine ev_putI dX3_step_29 fo_3_66 (by omega) lo_81 rfl rfl rfl ?_
  have hX1 : Sh _ (lx_up X 81 9 (X 81 10)) := Sh.upF hX (by rw [lo_81]; decide) (by decide)
  exact k
theorem bX3_step_32_0 {g : GG} {d n : Nat} {post : Option Value → LX → Prop} {X : LX} (hn : 146 ≤ n) (hX : Sh n X) {v1 : Int32} {v2 : Int32} {j1 : Nat} (c0 : ¬ X 81 1 ≤ X 81 9) (hj1 : X 81 9 = nI j1) (b0 : j1 < 120) (c1 : X 82 j1 = 32) (k : Ev g mX3_step d n n post n 32 [some (.ref 81), some (.int v1), some (.int v2)] [] (lx_up X 81 9 ((X 81 9) + 1))) : Ev g mX3_step d n n post n 32 [some (.ref 81), some (.int v1), some (.int v2)] [] X := by
  refine ev_aload_n dX3_step_32 rfl ?_
  refine ev_getI dX3_step_33 fo_3_66 (by omega) lo_81 rfl ?_
  refine ev_aload_n dX3_step_36 rfl ?_
  refine ev_getI dX3_step_37 fo_3_18 (by omega) lo_81 rfl ?_
  refine ev_icmpF (tgt := 70) dX3_step_40 (by decide) c0 ?_
  refine ev_aload_n dX3_step_43 rfl ?_
  refine ev_getS (q := 82) dX3_step_44 fo_3_9 (by omega) lo_81 rfl (sh_81_0 hX (by omega)) (by decide) ?_
  refine ev_aload_n dX3_step_47 rfl ?_
  refine ev_getI dX3_step_48 fo_3_66 (by omega) lo_81 rfl ?_
  refine ev_iald dX3_step_51 (by omega) ly_82 hj1 b0 ?_
  refine ev_bipush (v := 32) dX3_step_52 kb_32 ?_
  refine ev_icmpF (tgt := 70) dX3_step_54 (by decide) c1 ?_
  refine ev_aload_n dX3_step_57 rfl ?_
  refine ev_dup dX3_step_58 rfl ?_
  refine ev_getI dX3_step_59 fo_3_66 (by omega) lo_81 rfl ?_
  refine ev_iconst (v := 1) dX3_step_62 ki_1 ?_
  refine ev_iadd dX3_step_63 ?_
  refine ev_putI dX3_step_64 fo_3_66 (by omega) lo_81 rfl rfl rfl ?_
  have hX1 : Sh _ (lx_up X 81 9 ((X 81 9) + 1)) := Sh.upF hX (by rw [lo_81]; decide) (by decide)
  refine ev_goto (tgt := 32) dX3_step_67 (by decide) ?_
  exact k
theorem bX3_step_32_1 {g : GG} {d n : Nat} {post : Option Value → LX → Prop} {X : LX} (hn : 146 ≤ n) (hX : Sh n X) {v1 : Int32} {v2 : Int32} {j1 : Nat} (c0 : ¬ X 81 1 ≤ X 81 9) (hj1 : X 81 9 = nI j1) (b0 : j1 < 120) (c1 : ¬ X 82 j1 = 32) (k : Ev g mX3_step d n n post n 70 [some (.ref 81), some (.int v1), some (.int v2)] [] X) : Ev g mX3_step d n n post n 32 [some (.ref 81), some (.int v1), some (.int v2)] [] X := by
  refine ev_aload_n dX3_step_32 rfl ?_
  refine ev_getI dX3_step_33 fo_3_66 (by omega) lo_81 rfl ?_
  refine ev_aload_n dX3_step_36 rfl ?_
  refine ev_getI dX3_step_37 fo_3_18 (by omega) lo_81 rfl ?_
  refine ev_icmpF (tgt := 70) dX3_step_40 (by decide) c0 ?_
  refine ev_aload_n dX3_step_43 rfl ?_
  refine ev_getS (q := 82) dX3_step_44 fo_3_9 (by omega) lo_81 rfl (sh_81_0 hX (by omega)) (by decide) ?_
  refine ev_aload_n dX3_step_47 rfl ?_
  refine ev_getI dX3_step_48 fo_3_66 (by omega) lo_81 rfl ?_
  refine ev_iald dX3_step_51 (by omega) ly_82 hj1 b0 ?_
  refine ev_bipush (v := 32) dX3_step_52 kb_32 ?_
  refine ev_icmpT (tgt := 70) dX3_step_54 (by decide) c1 ?_
  exact k
theorem bX3_step_32_2 {g : GG} {d n : Nat} {post : Option Value → LX → Prop} {X : LX} (hn : 146 ≤ n) (hX : Sh n X) {v1 : Int32} {v2 : Int32} (c0 : X 81 1 ≤ X 81 9) (k : Ev g mX3_step d n n post n 70 [some (.ref 81), some (.int v1), some (.int v2)] [] X) : Ev g mX3_step d n n post n 32 [some (.ref 81), some (.int v1), some (.int v2)] [] X := by
  refine ev_aload_n dX3_step_32 rfl ?_
  refine ev_getI dX3_step_33 fo_3_66 (by omega) lo_81 rfl ?_
  refine ev_aload_n dX3_step_36 rfl ?_
  refine ev_getI dX3_step_37 fo_3_18 (by omega) lo_81 rfl ?_
  refine ev_icmpT (tgt := 70) dX3_step_40 (by decide) c0 ?_
  exact k
theorem bX3_step_70_0 {g : GG} {d n : Nat} {post : Option Value → LX → Prop} {X : LX} (hn : 146 ≤ n) (hX : Sh n X) {v1 : Int32} {v2 : Int32} (c0 : ¬ X 81 9 < X 81 1) (k : Ev g mX3_step d n n post n 235 [some (.ref 81), some (.int v1), some (.int v2)] [] (lx_up (lx_up X 81 10 (X 81 9)) 81 8 0)) : Ev g mX3_step d n n post n 70 [some (.ref 81), some (.int v1), some (.int v2)] [] X := by
  refine ev_aload_n dX3_step_70 rfl ?_
  refine ev_aload_n dX3_step_71 rfl ?_
  refine ev_getI dX3_step_72 fo_3_66 (by omega) lo_81 rfl ?_
  refine ev_putI dX3_step_75 fo_3_34 (by omega) lo_81 rfl rfl rfl ?_
  have hX1 : Sh _ (lx_up X 81 10 (X 81 9)) := Sh.upF hX (by rw [lo_81]; decide) (by decide)
  refine ev_aload_n dX3_step_78 rfl ?_
  refine ev_getI dX3_step_79 fo_3_66 (by omega) lo_81 rfl ?_
  refine ev_aload_n dX3_step_82 rfl ?_
  refine ev_getI dX3_step_83 fo_3_18 (by omega) lo_81 rfl ?_
  refine ev_icmpF (tgt := 97) dX3_step_86 (by decide) c0 ?_
  refine ev_aload_n dX3_step_89 rfl ?_
  refine ev_iconst (v := 0) dX3_step_90 ki_0 ?_
  refine ev_putI dX3_step_91 fo_3_31 (by omega) lo_81 rfl rfl rfl ?_
  have hX2 : Sh _ (lx_up (lx_up X 81 10 (X 81 9)) 81 8 0) := Sh.upF hX1 (by rw [lo_81]; decide) (by decide)
  refine ev_goto (tgt := 235) dX3_step_94 (by decide) ?_
  exact k
theorem bX3_step_70_1 {g : GG} {d n : Nat} {post : Option Value → LX → Prop} {X : LX} (hd : 1 ≤ d) (hn : 146 ≤ n) (hX : Sh n X) {v1 : Int32} {v2 : Int32} {j1 : Nat} (c0 : X 81 9 < X 81 1) (hj1 : X 81 9 = nI j1) (c1 : j1 < 120) (c2 : 97 ≤ (lx_up X 81 10 (X 81 9)) 82 j1 ∧ (lx_up X 81 10 (X 81 9)) 82 j1 ≤ 122) (k : Ev g mX3_step d n n post n 113 [some (.ref 81), some (.int v1), some (.int v2)] [] (lx_up (lx_up X 81 10 (X 81 9)) 81 8 1)) : Ev g mX3_step d n n post n 70 [some (.ref 81), some (.int v1), some (.int v2)] [] X := by
  refine ev_aload_n dX3_step_70 rfl ?_
  refine ev_aload_n dX3_step_71 rfl ?_
  refine ev_getI dX3_step_72 fo_3_66 (by omega) lo_81 rfl ?_
  refine ev_putI dX3_step_75 fo_3_34 (by omega) lo_81 rfl rfl rfl ?_
  have hX1 : Sh _ (lx_up X 81 10 (X 81 9)) := Sh.upF hX (by rw [lo_81]; decide) (by decide)
  refine ev_aload_n dX3_step_78 rfl ?_
  refine ev_getI dX3_step_79 fo_3_66 (by omega) lo_81 rfl ?_
  refine ev_aload_n dX3_step_82 rfl ?_
  refine ev_getI dX3_step_83 fo_3_18 (by omega) lo_81 rfl ?_
  refine ev_icmpT (tgt := 97) dX3_step_86 (by decide) c0 ?_
  refine ev_aload_n dX3_step_97 rfl ?_
  refine ev_aload_n dX3_step_98 rfl ?_
  refine ev_getI dX3_step_99 fo_3_66 (by omega) lo_81 rfl ?_
  refine e_Vi (as := [.int (X 81 9)]) (rest := []) dX3_step_102 vX3_isLetter ml_3_69 isX3_isLetter seX3_isLetter npX3_isLetter (rc_81 (by omega)) (by decide) rfl (Nat.le_of_ble_eq_true rfl) (by omega) (ex_a1 hj1 (t_X3_isLetter (d := d - 1) (by omega) (by omega) hX1 c1 c2)) ?_
  refine ev_ifF (tgt := 148) dX3_step_105 (by decide) (by show ¬ (1 : Int32) = 0; decide) ?_
  refine ev_aload_n dX3_step_108 rfl ?_
  refine ev_iconst (v := 1) dX3_step_109 ki_1 ?_
  refine ev_putI dX3_step_110 fo_3_31 (by omega) lo_81 rfl rfl rfl ?_
  have hX2 : Sh _ (lx_up (lx_up X 81 10 (X 81 9)) 81 8 1) := Sh.upF hX1 (by rw [lo_81]; decide) (by decide)
  exact k
theorem bX3_step_70_2 {g : GG} {d n : Nat} {post : Option Value → LX → Prop} {X : LX} (hd : 1 ≤ d) (hn : 146 ≤ n) (hX : Sh n X) {v1 : Int32} {v2 : Int32} {j1 : Nat} (c0 : X 81 9 < X 81 1) (hj1 : X 81 9 = nI j1) (c1 : j1 < 120) (c2 : ¬ (97 ≤ (lx_up X 81 10 (X 81 9)) 82 j1 ∧ (lx_up X 81 10 (X 81 9)) 82 j1 ≤ 122)) (c3 : 48 ≤ (lx_up X 81 10 (X 81 9)) 82 j1 ∧ (lx_up X 81 10 (X 81 9)) 82 j1 ≤ 57) (k : Ev g mX3_step d n n post n 164 [some (.ref 81), some (.int v1), some (.int v2)] [] (lx_up (lx_up X 81 10 (X 81 9)) 81 8 2)) : Ev g mX3_step d n n post n 70 [some (.ref 81), some (.int v1), some (.int v2)] [] X := by
  refine ev_aload_n dX3_step_70 rfl ?_
  refine ev_aload_n dX3_step_71 rfl ?_
  refine ev_getI dX3_step_72 fo_3_66 (by omega) lo_81 rfl ?_
  refine ev_putI dX3_step_75 fo_3_34 (by omega) lo_81 rfl rfl rfl ?_
  have hX1 : Sh _ (lx_up X 81 10 (X 81 9)) := Sh.upF hX (by rw [lo_81]; decide) (by decide)
  refine ev_aload_n dX3_step_78 rfl ?_
  refine ev_getI dX3_step_79 fo_3_66 (by omega) lo_81 rfl ?_
  refine ev_aload_n dX3_step_82 rfl ?_
  refine ev_getI dX3_step_83 fo_3_18 (by omega) lo_81 rfl ?_
  refine ev_icmpT (tgt := 97) dX3_step_86 (by decide) c0 ?_
  refine ev_aload_n dX3_step_97 rfl ?_
  refine ev_aload_n dX3_step_98 rfl ?_
  refine ev_getI dX3_step_99 fo_3_66 (by omega) lo_81 rfl ?_
  refine e_Vi (as := [.int (X 81 9)]) (rest := []) dX3_step_102 vX3_isLetter ml_3_69 isX3_isLetter seX3_isLetter npX3_isLetter (rc_81 (by omega)) (by decide) rfl (Nat.le_of_ble_eq_true rfl) (by omega) (ex_a1 hj1 (f_X3_isLetter (d := d - 1) (by omega) (by omega) hX1 c1 c2)) ?_
  refine ev_ifT (tgt := 148) dX3_step_105 (by decide) (by show (0 : Int32) = 0; decide) ?_
  refine ev_aload_n dX3_step_148 rfl ?_
  refine ev_aload_n dX3_step_149 rfl ?_
  refine ev_getI dX3_step_150 fo_3_66 (by omega) lo_81 rfl ?_
  refine e_Vi (as := [.int (X 81 9)]) (rest := []) dX3_step_153 vX3_isDigit ml_3_73 isX3_isDigit seX3_isDigit npX3_isDigit (rc_81 (by omega)) (by decide) rfl (Nat.le_of_ble_eq_true rfl) (by omega) (ex_a1 hj1 (t_X3_isDigit (d := d - 1) (by omega) (by omega) hX1 c1 c3)) ?_
  refine ev_ifF (tgt := 220) dX3_step_156 (by decide) (by show ¬ (1 : Int32) = 0; decide) ?_
  refine ev_aload_n dX3_step_159 rfl ?_
  refine ev_iconst (v := 2) dX3_step_160 ki_2 ?_
  refine ev_putI dX3_step_161 fo_3_31 (by omega) lo_81 rfl rfl rfl ?_
  have hX2 : Sh _ (lx_up (lx_up X 81 10 (X 81 9)) 81 8 2) := Sh.upF hX1 (by rw [lo_81]; decide) (by decide)
  exact k
theorem bX3_step_70_3 {g : GG} {d n : Nat} {post : Option Value → LX → Prop} {X : LX} (hd : 1 ≤ d) (hn : 146 ≤ n) (hX : Sh n X) {v1 : Int32} {v2 : Int32} {j1 : Nat} (c0 : X 81 9 < X 81 1) (hj1 : X 81 9 = nI j1) (c1 : j1 < 120) (c2 : ¬ (97 ≤ (lx_up X 81 10 (X 81 9)) 82 j1 ∧ (lx_up X 81 10 (X 81 9)) 82 j1 ≤ 122)) (c3 : ¬ (48 ≤ (lx_up X 81 10 (X 81 9)) 82 j1 ∧ (lx_up X 81 10 (X 81 9)) 82 j1 ≤ 57)) (k : Ev g mX3_step d n n post n 235 [some (.ref 81), some (.int v1), some (.int v2)] [] (lx_up (lx_up (lx_up X 81 10 (X 81 9)) 81 8 3) 81 10 ((X 81 9) + 1))) : Ev g mX3_step d n n post n 70 [some (.ref 81), some (.int v1), some (.int v2)] [] X := by
  refine ev_aload_n dX3_step_70 rfl ?_
  refine ev_aload_n dX3_step_71 rfl ?_
  refine ev_getI dX3_step_72 fo_3_66 (by omega) lo_81 rfl ?_
  refine ev_putI dX3_step_75 fo_3_34 (by omega) lo_81 rfl rfl rfl ?_
  have hX1 : Sh _ (lx_up X 81 10 (X 81 9)) := Sh.upF hX (by rw [lo_81]; decide) (by decide)
  refine ev_aload_n dX3_step_78 rfl ?_
  refine ev_getI dX3_step_79 fo_3_66 (by omega) lo_81 rfl ?_
  refine ev_aload_n dX3_step_82 rfl ?_
  refine ev_getI dX3_step_83 fo_3_18 (by omega) lo_81 rfl ?_
  refine ev_icmpT (tgt := 97) dX3_step_86 (by decide) c0 ?_
  refine ev_aload_n dX3_step_97 rfl ?_
  refine ev_aload_n dX3_step_98 rfl ?_
  refine ev_getI dX3_step_99 fo_3_66 (by omega) lo_81 rfl ?_
  refine e_Vi (as := [.int (X 81 9)]) (rest := []) dX3_step_102 vX3_isLetter ml_3_69 isX3_isLetter seX3_isLetter npX3_isLetter (rc_81 (by omega)) (by decide) rfl (Nat.le_of_ble_eq_true rfl) (by omega) (ex_a1 hj1 (f_X3_isLetter (d := d - 1) (by omega) (by omega) hX1 c1 c2)) ?_
  refine ev_ifT (tgt := 148) dX3_step_105 (by decide) (by show (0 : Int32) = 0; decide) ?_
  refine ev_aload_n dX3_step_148 rfl ?_
  refine ev_aload_n dX3_step_149 rfl ?_
  refine ev_getI dX3_step_150 fo_3_66 (by omega) lo_81 rfl ?_
  refine e_Vi (as := [.int (X 81 9)]) (rest := []) dX3_step_153 vX3_isDigit ml_3_73 isX3_isDigit seX3_isDigit npX3_isDigit (rc_81 (by omega)) (by decide) rfl (Nat.le_of_ble_eq_true rfl) (by omega) (ex_a1 hj1 (f_X3_isDigit (d := d - 1) (by omega) (by omega) hX1 c1 c3)) ?_
  refine ev_ifT (tgt := 220) dX3_step_156 (by decide) (by show (0 : Int32) = 0; decide) ?_
  refine ev_aload_n dX3_step_220 rfl ?_
  refine ev_iconst (v := 3) dX3_step_221 ki_3 ?_
  refine ev_putI dX3_step_222 fo_3_31 (by omega) lo_81 rfl rfl rfl ?_
  have hX2 : Sh _ (lx_up (lx_up X 81 10 (X 81 9)) 81 8 3) := Sh.upF hX1 (by rw [lo_81]; decide) (by decide)
  refine ev_aload_n dX3_step_225 rfl ?_
  refine ev_dup dX3_step_226 rfl ?_
  refine ev_getI dX3_step_227 fo_3_34 (by omega) lo_81 rfl ?_
  refine ev_iconst (v := 1) dX3_step_230 ki_1 ?_
  refine ev_iadd dX3_step_231 ?_
  refine ev_putI dX3_step_232 fo_3_34 (by omega) lo_81 rfl rfl rfl ?_
  have hX3 : Sh _ (lx_up (lx_up (lx_up X 81 10 (X 81 9)) 81 8 3) 81 10 ((X 81 9) + 1)) := Sh.upF hX2 (by rw [lo_81]; decide) (by decide)
  exact k
theorem bX3_step_113_0 {g : GG} {d n : Nat} {post : Option Value → LX → Prop} {X : LX} (hd : 1 ≤ d) (hn : 146 ≤ n) (hX : Sh n X) {v1 : Int32} {v2 : Int32} {j1 : Nat} (c0 : ¬ X 81 1 ≤ X 81 10) (hj1 : X 81 10 = nI j1) (c1 : j1 < 120) (c2 : 97 ≤ X 82 j1 ∧ X 82 j1 ≤ 122) (k : Ev g mX3_step d n n post n 113 [some (.ref 81), some (.int v1), some (.int v2)] [] (lx_up X 81 10 ((X 81 10) + 1))) : Ev g mX3_step d n n post n 113 [some (.ref 81), some (.int v1), some (.int v2)] [] X := by
  refine ev_aload_n dX3_step_113 rfl ?_
  refine ev_getI dX3_step_114 fo_3_34 (by omega) lo_81 rfl ?_
  refine ev_aload_n dX3_step_117 rfl ?_
  refine ev_getI dX3_step_118 fo_3_18 (by omega) lo_81 rfl ?_
  refine ev_icmpF (tgt := 235) dX3_step_121 (by decide) c0 ?_
  refine ev_aload_n dX3_step_124 rfl ?_
  refine ev_aload_n dX3_step_125 rfl ?_
  refine ev_getI dX3_step_126 fo_3_34 (by omega) lo_81 rfl ?_
  refine e_Vi (as := [.int (X 81 10)]) (rest := []) dX3_step_129 vX3_isLetter ml_3_69 isX3_isLetter seX3_isLetter npX3_isLetter (rc_81 (by omega)) (by decide) rfl (Nat.le_of_ble_eq_true rfl) (by omega) (ex_a1 hj1 (t_X3_isLetter (d := d - 1) (by omega) (by omega) hX c1 c2)) ?_
  refine ev_ifF (tgt := 235) dX3_step_132 (by decide) (by show ¬ (1 : Int32) = 0; decide) ?_
  refine ev_aload_n dX3_step_135 rfl ?_
  refine ev_dup dX3_step_136 rfl ?_
  refine ev_getI dX3_step_137 fo_3_34 (by omega) lo_81 rfl ?_
  refine ev_iconst (v := 1) dX3_step_140 ki_1 ?_
  refine ev_iadd dX3_step_141 ?_
  refine ev_putI dX3_step_142 fo_3_34 (by omega) lo_81 rfl rfl rfl ?_
  have hX1 : Sh _ (lx_up X 81 10 ((X 81 10) + 1)) := Sh.upF hX (by rw [lo_81]; decide) (by decide)
  refine ev_goto (tgt := 113) dX3_step_145 (by decide) ?_
  exact k
theorem bX3_step_113_1 {g : GG} {d n : Nat} {post : Option Value → LX → Prop} {X : LX} (hd : 1 ≤ d) (hn : 146 ≤ n) (hX : Sh n X) {v1 : Int32} {v2 : Int32} {j1 : Nat} (c0 : ¬ X 81 1 ≤ X 81 10) (hj1 : X 81 10 = nI j1) (c1 : j1 < 120) (c2 : ¬ (97 ≤ X 82 j1 ∧ X 82 j1 ≤ 122)) (k : Ev g mX3_step d n n post n 235 [some (.ref 81), some (.int v1), some (.int v2)] [] X) : Ev g mX3_step d n n post n 113 [some (.ref 81), some (.int v1), some (.int v2)] [] X := by
  refine ev_aload_n dX3_step_113 rfl ?_
  refine ev_getI dX3_step_114 fo_3_34 (by omega) lo_81 rfl ?_
  refine ev_aload_n dX3_step_117 rfl ?_
  refine ev_getI dX3_step_118 fo_3_18 (by omega) lo_81 rfl ?_
  refine ev_icmpF (tgt := 235) dX3_step_121 (by decide) c0 ?_
  refine ev_aload_n dX3_step_124 rfl ?_
  refine ev_aload_n dX3_step_125 rfl ?_
  refine ev_getI dX3_step_126 fo_3_34 (by omega) lo_81 rfl ?_
  refine e_Vi (as := [.int (X 81 10)]) (rest := []) dX3_step_129 vX3_isLetter ml_3_69 isX3_isLetter seX3_isLetter npX3_isLetter (rc_81 (by omega)) (by decide) rfl (Nat.le_of_ble_eq_true rfl) (by omega) (ex_a1 hj1 (f_X3_isLetter (d := d - 1) (by omega) (by omega) hX c1 c2)) ?_
  refine ev_ifT (tgt := 235) dX3_step_132 (by decide) (by show (0 : Int32) = 0; decide) ?_
  exact k
theorem bX3_step_113_2 {g : GG} {d n : Nat} {post : Option Value → LX → Prop} {X : LX} (hn : 146 ≤ n) (hX : Sh n X) {v1 : Int32} {v2 : Int32} (c0 : X 81 1 ≤ X 81 10) (k : Ev g mX3_step d n n post n 235 [some (.ref 81), some (.int v1), some (.int v2)] [] X) : Ev g mX3_step d n n post n 113 [some (.ref 81), some (.int v1), some (.int v2)] [] X := by
  refine ev_aload_n dX3_step_113 rfl ?_
  refine ev_getI dX3_step_114 fo_3_34 (by omega) lo_81 rfl ?_
  refine ev_aload_n dX3_step_117 rfl ?_
  refine ev_getI dX3_step_118 fo_3_18 (by omega) lo_81 rfl ?_
  refine ev_icmpT (tgt := 235) dX3_step_121 (by decide) c0 ?_
  exact k
theorem bX3_step_164_0 {g : GG} {d n : Nat} {post : Option Value → LX → Prop} {X : LX} (hd : 1 ≤ d) (hn : 146 ≤ n) (hX : Sh n X) {v1 : Int32} {v2 : Int32} {j1 : Nat} (c0 : ¬ X 81 1 ≤ X 81 10) (hj1 : X 81 10 = nI j1) (c1 : j1 < 120) (c2 : 48 ≤ X 82 j1 ∧ X 82 j1 ≤ 57) (k : Ev g mX3_step d n n post n 164 [some (.ref 81), some (.int v1), some (.int v2)] [] (lx_up X 81 10 ((X 81 10) + 1))) : Ev g mX3_step d n n post n 164 [some (.ref 81), some (.int v1), some (.int v2)] [] X := by
  refine ev_aload_n dX3_step_164 rfl ?_
  refine ev_getI dX3_step_165 fo_3_34 (by omega) lo_81 rfl ?_
  refine ev_aload_n dX3_step_168 rfl ?_
  refine ev_getI dX3_step_169 fo_3_18 (by omega) lo_81 rfl ?_
  refine ev_icmpF (tgt := 199) dX3_step_172 (by decide) c0 ?_
  refine ev_aload_n dX3_step_175 rfl ?_
  refine ev_aload_n dX3_step_176 rfl ?_
  refine ev_getI dX3_step_177 fo_3_34 (by omega) lo_81 rfl ?_
  refine e_Vi (as := [.int (X 81 10)]) (rest := []) dX3_step_180 vX3_isDigit ml_3_73 isX3_isDigit seX3_isDigit npX3_isDigit (rc_81 (by omega)) (by decide) rfl (Nat.le_of_ble_eq_true rfl) (by omega) (ex_a1 hj1 (t_X3_isDigit (d := d - 1) (by omega) (by omega) hX c1 c2)) ?_
  refine ev_ifF (tgt := 199) dX3_step_183 (by decide) (by show ¬ (1 : Int32) = 0; decide) ?_
  refine ev_aload_n dX3_step_186 rfl ?_
  refine ev_dup dX3_step_187 rfl ?_
  refine ev_getI dX3_step_188 fo_3_34 (by omega) lo_81 rfl ?_
  refine ev_iconst (v := 1) dX3_step_191 ki_1 ?_
  refine ev_iadd dX3_step_192 ?_
  refine ev_putI dX3_step_193 fo_3_34 (by omega) lo_81 rfl rfl rfl ?_
  have hX1 : Sh _ (lx_up X 81 10 ((X 81 10) + 1)) := Sh.upF hX (by rw [lo_81]; decide) (by decide)
  refine ev_goto (tgt := 164) dX3_step_196 (by decide) ?_
  exact k
theorem bX3_step_164_1 {g : GG} {d n : Nat} {post : Option Value → LX → Prop} {X : LX} (hd : 1 ≤ d) (hn : 146 ≤ n) (hX : Sh n X) {v1 : Int32} {v2 : Int32} {j1 : Nat} (c0 : ¬ X 81 1 ≤ X 81 10) (hj1 : X 81 10 = nI j1) (c1 : j1 < 120) (c2 : ¬ (48 ≤ X 82 j1 ∧ X 82 j1 ≤ 57)) (k : Ev g mX3_step d n n post n 199 [some (.ref 81), some (.int v1), some (.int v2)] [] X) : Ev g mX3_step d n n post n 164 [some (.ref 81), some (.int v1), some (.int v2)] [] X := by
  refine ev_aload_n dX3_step_164 rfl ?_
  refine ev_getI dX3_step_165 fo_3_34 (by omega) lo_81 rfl ?_
  refine ev_aload_n dX3_step_168 rfl ?_
  refine ev_getI dX3_step_169 fo_3_18 (by omega) lo_81 rfl ?_
  refine ev_icmpF (tgt := 199) dX3_step_172 (by decide) c0 ?_
  refine ev_aload_n dX3_step_175 rfl ?_
  refine ev_aload_n dX3_step_176 rfl ?_
  refine ev_getI dX3_step_177 fo_3_34 (by omega) lo_81 rfl ?_
  refine e_Vi (as := [.int (X 81 10)]) (rest := []) dX3_step_180 vX3_isDigit ml_3_73 isX3_isDigit seX3_isDigit npX3_isDigit (rc_81 (by omega)) (by decide) rfl (Nat.le_of_ble_eq_true rfl) (by omega) (ex_a1 hj1 (f_X3_isDigit (d := d - 1) (by omega) (by omega) hX c1 c2)) ?_
  refine ev_ifT (tgt := 199) dX3_step_183 (by decide) (by show (0 : Int32) = 0; decide) ?_
  exact k
theorem bX3_step_164_2 {g : GG} {d n : Nat} {post : Option Value → LX → Prop} {X : LX} (hn : 146 ≤ n) (hX : Sh n X) {v1 : Int32} {v2 : Int32} (c0 : X 81 1 ≤ X 81 10) (k : Ev g mX3_step d n n post n 199 [some (.ref 81), some (.int v1), some (.int v2)] [] X) : Ev g mX3_step d n n post n 164 [some (.ref 81), some (.int v1), some (.int v2)] [] X := by
  refine ev_aload_n dX3_step_164 rfl ?_
  refine ev_getI dX3_step_165 fo_3_34 (by omega) lo_81 rfl ?_
  refine ev_aload_n dX3_step_168 rfl ?_
  refine ev_getI dX3_step_169 fo_3_18 (by omega) lo_81 rfl ?_
  refine ev_icmpT (tgt := 199) dX3_step_172 (by decide) c0 ?_
  exact k
theorem bX3_step_199_0 {g : GG} {d n : Nat} {post : Option Value → LX → Prop} {X : LX} (hn : 146 ≤ n) (hX : Sh n X) {v1 : Int32} {v2 : Int32} (c0 : ¬ (X 81 10) - (X 81 9) ≤ 5) (k : Ev g mX3_step d n n post n 235 [some (.ref 81), some (.int v1), some (.int v2)] [] (lx_up X 81 8 4)) : Ev g mX3_step d n n post n 199 [some (.ref 81), some (.int v1), some (.int v2)] [] X := by
  refine ev_aload_n dX3_step_199 rfl ?_
  refine ev_getI dX3_step_200 fo_3_34 (by omega) lo_81 rfl ?_
  refine ev_aload_n dX3_step_203 rfl ?_
  refine ev_getI dX3_step_204 fo_3_66 (by omega) lo_81 rfl ?_
  refine ev_isub dX3_step_207 ?_
  refine ev_iconst (v := 5) dX3_step_208 ki_5 ?_
  refine ev_icmpF (tgt := 235) dX3_step_209 (by decide) c0 ?_
  refine ev_aload_n dX3_step_212 rfl ?_
  refine ev_iconst (v := 4) dX3_step_213 ki_4 ?_
  refine ev_putI dX3_step_214 fo_3_31 (by omega) lo_81 rfl rfl rfl ?_
  have hX1 : Sh _ (lx_up X 81 8 4) := Sh.upF hX (by rw [lo_81]; decide) (by decide)
  refine ev_goto (tgt := 235) dX3_step_217 (by decide) ?_
  exact k
theorem bX3_step_199_1 {g : GG} {d n : Nat} {post : Option Value → LX → Prop} {X : LX} (hn : 146 ≤ n) (hX : Sh n X) {v1 : Int32} {v2 : Int32} (c0 : (X 81 10) - (X 81 9) ≤ 5) (k : Ev g mX3_step d n n post n 235 [some (.ref 81), some (.int v1), some (.int v2)] [] X) : Ev g mX3_step d n n post n 199 [some (.ref 81), some (.int v1), some (.int v2)] [] X := by
  refine ev_aload_n dX3_step_199 rfl ?_
  refine ev_getI dX3_step_200 fo_3_34 (by omega) lo_81 rfl ?_
  refine ev_aload_n dX3_step_203 rfl ?_
  refine ev_getI dX3_step_204 fo_3_66 (by omega) lo_81 rfl ?_
  refine ev_isub dX3_step_207 ?_
  refine ev_iconst (v := 5) dX3_step_208 ki_5 ?_
  refine ev_icmpT (tgt := 235) dX3_step_209 (by decide) c0 ?_
  exact k
theorem bX3_step_235_0 {g : GG} {d n : Nat} {post : Option Value → LX → Prop} {X : LX} (hn : 146 ≤ n) (hX : Sh n X) {v1 : Int32} {v2 : Int32} (c0 : ¬ v1 = 0) (c1 : X 81 9 = v2) (c2 : ¬ X 81 8 = 1) (c3 : X 81 8 = 2) (hp : post none (lx_up X 81 8 4)) : Ev g mX3_step d n n post n 235 [some (.ref 81), some (.int v1), some (.int v2)] [] X := by
  refine ev_iload_n dX3_step_235 rfl ?_
  refine ev_ifF (tgt := 268) dX3_step_236 (by decide) c0 ?_
  refine ev_aload_n dX3_step_239 rfl ?_
  refine ev_getI dX3_step_240 fo_3_66 (by omega) lo_81 rfl ?_
  refine ev_iload_n dX3_step_243 rfl ?_
  refine ev_icmpF (tgt := 268) dX3_step_244 (by decide) c1 ?_
  refine ev_aload_n dX3_step_247 rfl ?_
  refine ev_getI dX3_step_248 fo_3_31 (by omega) lo_81 rfl ?_
  refine ev_iconst (v := 1) dX3_step_251 ki_1 ?_
  refine ev_icmpF (tgt := 263) dX3_step_252 (by decide) c2 ?_
  refine ev_aload_n dX3_step_255 rfl ?_
  refine ev_getI dX3_step_256 fo_3_31 (by omega) lo_81 rfl ?_
  refine ev_iconst (v := 2) dX3_step_259 ki_2 ?_
  refine ev_icmpF (tgt := 268) dX3_step_260 (by decide) c3 ?_
  refine ev_aload_n dX3_step_263 rfl ?_
  refine ev_iconst (v := 4) dX3_step_264 ki_4 ?_
  refine ev_putI dX3_step_265 fo_3_31 (by omega) lo_81 rfl rfl rfl ?_
  have hX1 : Sh _ (lx_up X 81 8 4) := Sh.upF hX (by rw [lo_81]; decide) (by decide)
  exact ev_ret dX3_step_268 rfl hp
theorem bX3_step_235_1 {g : GG} {d n : Nat} {post : Option Value → LX → Prop} {X : LX} (hn : 146 ≤ n) (hX : Sh n X) {v1 : Int32} {v2 : Int32} (c0 : ¬ v1 = 0) (c1 : X 81 9 = v2) (c2 : ¬ X 81 8 = 1) (c3 : ¬ X 81 8 = 2) (hp : post none X) : Ev g mX3_step d n n post n 235 [some (.ref 81), some (.int v1), some (.int v2)] [] X := by
  refine ev_iload_n dX3_step_235 rfl ?_
  refine ev_ifF (tgt := 268) dX3_step_236 (by decide) c0 ?_
  refine ev_aload_n dX3_step_239 rfl ?_
  refine ev_getI dX3_step_240 fo_3_66 (by omega) lo_81 rfl ?_
  refine ev_iload_n dX3_step_243 rfl ?_
  refine ev_icmpF (tgt := 268) dX3_step_244 (by decide) c1 ?_
  refine ev_aload_n dX3_step_247 rfl ?_
  refine ev_getI dX3_step_248 fo_3_31 (by omega) lo_81 rfl ?_
  refine ev_iconst (v := 1) dX3_step_251 ki_1 ?_
  refine ev_icmpF (tgt := 263) dX3_step_252 (by decide) c2 ?_
  refine ev_aload_n dX3_step_255 rfl ?_
  refine ev_getI dX3_step_256 fo_3_31 (by omega) lo_81 rfl ?_
  refine ev_iconst (v := 2) dX3_step_259 ki_2 ?_
  refine ev_icmpT (tgt := 268) dX3_step_260 (by decide) c3 ?_
  exact ev_ret dX3_step_268 rfl hp
theorem bX3_step_235_2 {g : GG} {d n : Nat} {post : Option Value → LX → Prop} {X : LX} (hn : 146 ≤ n) (hX : Sh n X) {v1 : Int32} {v2 : Int32} (c0 : ¬ v1 = 0) (c1 : X 81 9 = v2) (c2 : X 81 8 = 1) (hp : post none (lx_up X 81 8 4)) : Ev g mX3_step d n n post n 235 [some (.ref 81), some (.int v1), some (.int v2)] [] X := by
  refine ev_iload_n dX3_step_235 rfl ?_
  refine ev_ifF (tgt := 268) dX3_step_236 (by decide) c0 ?_
  refine ev_aload_n dX3_step_239 rfl ?_
  refine ev_getI dX3_step_240 fo_3_66 (by omega) lo_81 rfl ?_
  refine ev_iload_n dX3_step_243 rfl ?_
  refine ev_icmpF (tgt := 268) dX3_step_244 (by decide) c1 ?_
  refine ev_aload_n dX3_step_247 rfl ?_
  refine ev_getI dX3_step_248 fo_3_31 (by omega) lo_81 rfl ?_
  refine ev_iconst (v := 1) dX3_step_251 ki_1 ?_
  refine ev_icmpT (tgt := 263) dX3_step_252 (by decide) c2 ?_
  refine ev_aload_n dX3_step_263 rfl ?_
  refine ev_iconst (v := 4) dX3_step_264 ki_4 ?_
  refine ev_putI dX3_step_265 fo_3_31 (by omega) lo_81 rfl rfl rfl ?_
  have hX1 : Sh _ (lx_up X 81 8 4) := Sh.upF hX (by rw [lo_81]; decide) (by decide)
  exact ev_ret dX3_step_268 rfl hp
theorem bX3_step_235_3 {g : GG} {d n : Nat} {post : Option Value → LX → Prop} {X : LX} (hn : 146 ≤ n) (hX : Sh n X) {v1 : Int32} {v2 : Int32} (c0 : ¬ v1 = 0) (c1 : ¬ X 81 9 = v2) (hp : post none X) : Ev g mX3_step d n n post n 235 [some (.ref 81), some (.int v1), some (.int v2)] [] X := by
  refine ev_iload_n dX3_step_235 rfl ?_
  refine ev_ifF (tgt := 268) dX3_step_236 (by decide) c0 ?_
  refine ev_aload_n dX3_step_239 rfl ?_
  refine ev_getI dX3_step_240 fo_3_66 (by omega) lo_81 rfl ?_
  refine ev_iload_n dX3_step_243 rfl ?_
  refine ev_icmpT (tgt := 268) dX3_step_244 (by decide) c1 ?_
  exact ev_ret dX3_step_268 rfl hp
theorem bX3_step_235_4 {g : GG} {d n : Nat} {post : Option Value → LX → Prop} {X : LX} (hn : 146 ≤ n) (hX : Sh n X) {v1 : Int32} {v2 : Int32} (c0 : v1 = 0) (hp : post none X) : Ev g mX3_step d n n post n 235 [some (.ref 81), some (.int v1), some (.int v2)] [] X := by
  refine ev_iload_n dX3_step_235 rfl ?_
  refine ev_ifT (tgt := 268) dX3_step_236 (by decide) c0 ?_
  exact ev_ret dX3_step_268 rfl hp
theorem bX3_readWord_0_0 {g : GG} {d n : Nat} {post : Option Value → LX → Prop} {X : LX} (hn : 146 ≤ n) (hX : Sh n X) {tv1 : Nat} (htv1 : tv1 < 14) (c0 : ¬ 0 ≤ X 81 6) (c1 : X 81 8 = 1) (k : Ev g mX3_readWord d n n post n 25 [some (.ref 81), some (.ref (1000 + tv1)), none, none] [.ref (1000 + tv1), .int ((X 81 10) - (X 81 9))] X) : Ev g mX3_readWord d n n post n 0 [some (.ref 81), some (.ref (1000 + tv1)), none, none] [] X := by
  refine ev_aload_n dX3_readWord_0 rfl ?_
  refine ev_getI dX3_readWord_1 fo_3_28 (by omega) lo_81 rfl ?_
  refine ev_ifF (tgt := 35) dX3_readWord_4 (by decide) c0 ?_
  refine ev_aload_n dX3_readWord_7 rfl ?_
  refine ev_getI dX3_readWord_8 fo_3_31 (by omega) lo_81 rfl ?_
  refine ev_iconst (v := 1) dX3_readWord_11 ki_1 ?_
  refine ev_icmpF (tgt := 35) dX3_readWord_12 (by decide) c1 ?_
  refine ev_aload_n dX3_readWord_15 rfl ?_
  refine ev_getI dX3_readWord_16 fo_3_34 (by omega) lo_81 rfl ?_
  refine ev_aload_n dX3_readWord_19 rfl ?_
  refine ev_getI dX3_readWord_20 fo_3_66 (by omega) lo_81 rfl ?_
  refine ev_isub dX3_readWord_23 ?_
  refine ev_aload_n dX3_readWord_24 rfl ?_
  exact k
theorem bX3_readWord_0_1 {g : GG} {d n : Nat} {post : Option Value → LX → Prop} {X : LX} (hn : 146 ≤ n) (hX : Sh n X) {tv1 : Nat} (htv1 : tv1 < 14) (c0 : ¬ 0 ≤ X 81 6) (c1 : ¬ X 81 8 = 1) (k : Ev g mX3_readWord d n n post n 39 [some (.ref 81), some (.ref (1000 + tv1)), some (.int 0), some (.int 0)] [] X) : Ev g mX3_readWord d n n post n 0 [some (.ref 81), some (.ref (1000 + tv1)), none, none] [] X := by
  refine ev_aload_n dX3_readWord_0 rfl ?_
  refine ev_getI dX3_readWord_1 fo_3_28 (by omega) lo_81 rfl ?_
  refine ev_ifF (tgt := 35) dX3_readWord_4 (by decide) c0 ?_
  refine ev_aload_n dX3_readWord_7 rfl ?_
  refine ev_getI dX3_readWord_8 fo_3_31 (by omega) lo_81 rfl ?_
  refine ev_iconst (v := 1) dX3_readWord_11 ki_1 ?_
  refine ev_icmpT (tgt := 35) dX3_readWord_12 (by decide) c1 ?_
  refine ev_iconst (v := 0) dX3_readWord_35 ki_0 ?_
  refine ev_istore_n dX3_readWord_36 (by decide) ?_
  refine ev_iconst (v := 0) dX3_readWord_37 ki_0 ?_
  refine ev_istore_n dX3_readWord_38 (by decide) ?_
  exact k
theorem bX3_readWord_0_2 {g : GG} {d n : Nat} {post : Option Value → LX → Prop} {X : LX} (hn : 146 ≤ n) (hX : Sh n X) {tv1 : Nat} (htv1 : tv1 < 14) (c0 : 0 ≤ X 81 6) (k : Ev g mX3_readWord d n n post n 39 [some (.ref 81), some (.ref (1000 + tv1)), some (.int 0), some (.int 0)] [] X) : Ev g mX3_readWord d n n post n 0 [some (.ref 81), some (.ref (1000 + tv1)), none, none] [] X := by
  refine ev_aload_n dX3_readWord_0 rfl ?_
  refine ev_getI dX3_readWord_1 fo_3_28 (by omega) lo_81 rfl ?_
  refine ev_ifT (tgt := 35) dX3_readWord_4 (by decide) c0 ?_
  refine ev_iconst (v := 0) dX3_readWord_35 ki_0 ?_
  refine ev_istore_n dX3_readWord_36 (by decide) ?_
  refine ev_iconst (v := 0) dX3_readWord_37 ki_0 ?_
  refine ev_istore_n dX3_readWord_38 (by decide) ?_
  exact k
theorem bX3_readWord_28_0 {g : GG} {d n : Nat} {post : Option Value → LX → Prop} {X : LX} (hn : 146 ≤ n) (hX : Sh n X) {tv1 : Nat} {s0 : Int32} {s1 : Int32} (htv1 : tv1 < 14) (c0 : s0 = s1) (k : Ev g mX3_readWord d n n post n 39 [some (.ref 81), some (.ref (1000 + tv1)), some (.int 1), some (.int 0)] [] X) : Ev g mX3_readWord d n n post n 28 [some (.ref 81), some (.ref (1000 + tv1)), none, none] [.int s1, .int s0] X := by
  refine ev_icmpF (tgt := 35) dX3_readWord_28 (by decide) c0 ?_
  refine ev_iconst (v := 1) dX3_readWord_31 ki_1 ?_
  refine ev_goto (tgt := 36) dX3_readWord_32 (by decide) ?_
  refine ev_istore_n dX3_readWord_36 (by decide) ?_
  refine ev_iconst (v := 0) dX3_readWord_37 ki_0 ?_
  refine ev_istore_n dX3_readWord_38 (by decide) ?_
  exact k
theorem bX3_readWord_28_1 {g : GG} {d n : Nat} {post : Option Value → LX → Prop} {X : LX} (hn : 146 ≤ n) (hX : Sh n X) {tv1 : Nat} {s0 : Int32} {s1 : Int32} (htv1 : tv1 < 14) (c0 : ¬ s0 = s1) (k : Ev g mX3_readWord d n n post n 39 [some (.ref 81), some (.ref (1000 + tv1)), some (.int 0), some (.int 0)] [] X) : Ev g mX3_readWord d n n post n 28 [some (.ref 81), some (.ref (1000 + tv1)), none, none] [.int s1, .int s0] X := by
  refine ev_icmpT (tgt := 35) dX3_readWord_28 (by decide) c0 ?_
  refine ev_iconst (v := 0) dX3_readWord_35 ki_0 ?_
  refine ev_istore_n dX3_readWord_36 (by decide) ?_
  refine ev_iconst (v := 0) dX3_readWord_37 ki_0 ?_
  refine ev_istore_n dX3_readWord_38 (by decide) ?_
  exact k
theorem bX3_readWord_39_0 {g : GG} {d n : Nat} {post : Option Value → LX → Prop} {X : LX} (hn : 146 ≤ n) (hX : Sh n X) {tv1 : Nat} {v2 : Int32} {v3 : Int32} (htv1 : tv1 < 14) (c0 : ¬ v2 = 0) (k : Ev g mX3_readWord d n n post n 45 [some (.ref 81), some (.ref (1000 + tv1)), some (.int v2), some (.int v3)] [.ref (1000 + tv1), .int v3] X) : Ev g mX3_readWord d n n post n 39 [some (.ref 81), some (.ref (1000 + tv1)), some (.int v2), some (.int v3)] [] X := by
  refine ev_iload_n dX3_readWord_39 rfl ?_
  refine ev_ifF (tgt := 82) dX3_readWord_40 (by decide) c0 ?_
  refine ev_iload_n dX3_readWord_43 rfl ?_
  refine ev_aload_n dX3_readWord_44 rfl ?_
  exact k
theorem bX3_readWord_39_1 {g : GG} {d n : Nat} {post : Option Value → LX → Prop} {X : LX} (hn : 146 ≤ n) (hX : Sh n X) {tv1 : Nat} {v2 : Int32} {v3 : Int32} (htv1 : tv1 < 14) (c0 : v2 = 0) (c1 : ¬ v2 = 0) (k : Ev g mX3_readWord d n n post n 87 [some (.ref 81), some (.ref (1000 + tv1)), some (.int v2), some (.int v3)] [.ref 81] X) : Ev g mX3_readWord d n n post n 39 [some (.ref 81), some (.ref (1000 + tv1)), some (.int v2), some (.int v3)] [] X := by
  refine ev_iload_n dX3_readWord_39 rfl ?_
  refine ev_ifT (tgt := 82) dX3_readWord_40 (by decide) c0 ?_
  refine ev_iload_n dX3_readWord_82 rfl ?_
  refine ev_ifF (tgt := 93) dX3_readWord_83 (by decide) c1 ?_
  refine ev_aload_n dX3_readWord_86 rfl ?_
  exact k
theorem bX3_readWord_39_2 {g : GG} {d n : Nat} {post : Option Value → LX → Prop} {X : LX} (hn : 146 ≤ n) (hX : Sh n X) {tv1 : Nat} {v2 : Int32} {v3 : Int32} (htv1 : tv1 < 14) (c0 : v2 = 0) (c1 : v2 = 0) (k : Ev g mX3_readWord d n n post n 94 [some (.ref 81), some (.ref (1000 + tv1)), some (.int v2), some (.int v3)] [.ref 81] X) : Ev g mX3_readWord d n n post n 39 [some (.ref 81), some (.ref (1000 + tv1)), some (.int v2), some (.int v3)] [] X := by
  refine ev_iload_n dX3_readWord_39 rfl ?_
  refine ev_ifT (tgt := 82) dX3_readWord_40 (by decide) c0 ?_
  refine ev_iload_n dX3_readWord_82 rfl ?_
  refine ev_ifT (tgt := 93) dX3_readWord_83 (by decide) c1 ?_
  refine ev_aload_n dX3_readWord_93 rfl ?_
  exact k
theorem bX3_readWord_48_0 {g : GG} {d n : Nat} {post : Option Value → LX → Prop} {X : LX} (hn : 146 ≤ n) (hX : Sh n X) {tv1 : Nat} {v2 : Int32} {v3 : Nat} {s0 : Int32} {s1 : Int32} {j1 : Nat} (htv1 : tv1 < 14) (c0 : ¬ s1 ≤ s0) (hj1 : X 81 9 = nI j1) (b0 : (j1 + v3) < 120) (k : Ev g mX3_readWord d n n post n 64 [some (.ref 81), some (.ref (1000 + tv1)), some (.int v2), some (.int (nI v3))] [.int (nI v3), .ref (1000 + tv1), .int (X 82 (j1 + v3))] X) : Ev g mX3_readWord d n n post n 48 [some (.ref 81), some (.ref (1000 + tv1)), some (.int v2), some (.int (nI v3))] [.int s1, .int s0] X := by
  refine ev_icmpF (tgt := 82) dX3_readWord_48 (by decide) c0 ?_
  refine ev_aload_n dX3_readWord_51 rfl ?_
  refine ev_getS (q := 82) dX3_readWord_52 fo_3_9 (by omega) lo_81 rfl (sh_81_0 hX (by omega)) (by decide) ?_
  refine ev_aload_n dX3_readWord_55 rfl ?_
  refine ev_getI dX3_readWord_56 fo_3_66 (by omega) lo_81 rfl ?_
  refine ev_iload_n dX3_readWord_59 rfl ?_
  refine ev_iadd dX3_readWord_60 ?_
  refine ev_iald dX3_readWord_61 (by omega) ly_82 (by rw [hj1]; show nI j1 + nI v3 = nI (j1 + v3); simp only [pk_mul, nI_add]) b0 ?_
  refine ev_aload_n dX3_readWord_62 rfl ?_
  refine ev_iload_n dX3_readWord_63 rfl ?_
  exact k
theorem bX3_readWord_48_1 {g : GG} {d n : Nat} {post : Option Value → LX → Prop} {X : LX} (hn : 146 ≤ n) (hX : Sh n X) {tv1 : Nat} {v2 : Int32} {v3 : Int32} {s0 : Int32} {s1 : Int32} (htv1 : tv1 < 14) (c0 : s1 ≤ s0) (c1 : ¬ v2 = 0) (k : Ev g mX3_readWord d n n post n 87 [some (.ref 81), some (.ref (1000 + tv1)), some (.int v2), some (.int v3)] [.ref 81] X) : Ev g mX3_readWord d n n post n 48 [some (.ref 81), some (.ref (1000 + tv1)), some (.int v2), some (.int v3)] [.int s1, .int s0] X := by
  refine ev_icmpT (tgt := 82) dX3_readWord_48 (by decide) c0 ?_
  refine ev_iload_n dX3_readWord_82 rfl ?_
  refine ev_ifF (tgt := 93) dX3_readWord_83 (by decide) c1 ?_
  refine ev_aload_n dX3_readWord_86 rfl ?_
  exact k
theorem bX3_readWord_48_2 {g : GG} {d n : Nat} {post : Option Value → LX → Prop} {X : LX} (hn : 146 ≤ n) (hX : Sh n X) {tv1 : Nat} {v2 : Int32} {v3 : Int32} {s0 : Int32} {s1 : Int32} (htv1 : tv1 < 14) (c0 : s1 ≤ s0) (c1 : v2 = 0) (k : Ev g mX3_readWord d n n post n 94 [some (.ref 81), some (.ref (1000 + tv1)), some (.int v2), some (.int v3)] [.ref 81] X) : Ev g mX3_readWord d n n post n 48 [some (.ref 81), some (.ref (1000 + tv1)), some (.int v2), some (.int v3)] [.int s1, .int s0] X := by
  refine ev_icmpT (tgt := 82) dX3_readWord_48 (by decide) c0 ?_
  refine ev_iload_n dX3_readWord_82 rfl ?_
  refine ev_ifT (tgt := 93) dX3_readWord_83 (by decide) c1 ?_
  refine ev_aload_n dX3_readWord_93 rfl ?_
  exact k
theorem bX3_readWord_67_0 {g : GG} {d n : Nat} {post : Option Value → LX → Prop} {X : LX} (hn : 146 ≤ n) (hX : Sh n X) {tv1 : Nat} {v2 : Int32} {v3 : Int32} {s0 : Int32} {s1 : Int32} (htv1 : tv1 < 14) (c0 : s0 = s1) (k : Ev g mX3_readWord d n n post n 39 [some (.ref 81), some (.ref (1000 + tv1)), some (.int 1), some (.int (v3 + 1))] [] X) : Ev g mX3_readWord d n n post n 67 [some (.ref 81), some (.ref (1000 + tv1)), some (.int v2), some (.int v3)] [.int s1, .int s0] X := by
  refine ev_icmpF (tgt := 74) dX3_readWord_67 (by decide) c0 ?_
  refine ev_iconst (v := 1) dX3_readWord_70 ki_1 ?_
  refine ev_goto (tgt := 75) dX3_readWord_71 (by decide) ?_
  refine ev_istore_n dX3_readWord_75 (by decide) ?_
  refine ev_iinc (v := v3 + 1) dX3_readWord_76 rfl (by rw [show Int32.ofInt 1 = 1 from ki_1]) (by decide) ?_
  refine ev_goto (tgt := 39) dX3_readWord_79 (by decide) ?_
  exact k
theorem bX3_readWord_67_1 {g : GG} {d n : Nat} {post : Option Value → LX → Prop} {X : LX} (hn : 146 ≤ n) (hX : Sh n X) {tv1 : Nat} {v2 : Int32} {v3 : Int32} {s0 : Int32} {s1 : Int32} (htv1 : tv1 < 14) (c0 : ¬ s0 = s1) (k : Ev g mX3_readWord d n n post n 39 [some (.ref 81), some (.ref (1000 + tv1)), some (.int 0), some (.int (v3 + 1))] [] X) : Ev g mX3_readWord d n n post n 67 [some (.ref 81), some (.ref (1000 + tv1)), some (.int v2), some (.int v3)] [.int s1, .int s0] X := by
  refine ev_icmpT (tgt := 74) dX3_readWord_67 (by decide) c0 ?_
  refine ev_iconst (v := 0) dX3_readWord_74 ki_0 ?_
  refine ev_istore_n dX3_readWord_75 (by decide) ?_
  refine ev_iinc (v := v3 + 1) dX3_readWord_76 rfl (by rw [show Int32.ofInt 1 = 1 from ki_1]) (by decide) ?_
  refine ev_goto (tgt := 39) dX3_readWord_79 (by decide) ?_
  exact k
theorem bX3_readWord_90_0 {g : GG} {d n : Nat} {post : Option Value → LX → Prop} {X : LX} (hn : 146 ≤ n) (hX : Sh n X) {tv1 : Nat} {v2 : Int32} {v3 : Int32} (htv1 : tv1 < 14) (hp : post none X) : Ev g mX3_readWord d n n post n 90 [some (.ref 81), some (.ref (1000 + tv1)), some (.int v2), some (.int v3)] [] X := by
  refine ev_goto (tgt := 97) dX3_readWord_90 (by decide) ?_
  exact ev_ret dX3_readWord_97 rfl hp
theorem bX3_readWord_97_0 {g : GG} {d n : Nat} {post : Option Value → LX → Prop} {X : LX} (hn : 146 ≤ n) (hX : Sh n X) {tv1 : Nat} {v2 : Int32} {v3 : Int32} (htv1 : tv1 < 14) (hp : post none X) : Ev g mX3_readWord d n n post n 97 [some (.ref 81), some (.ref (1000 + tv1)), some (.int v2), some (.int v3)] [] X := by
  exact ev_ret dX3_readWord_97 rfl hp
theorem bX3_signsOf_0_0 {g : GG} {d n : Nat} {post : Option Value → LX → Prop} {X : LX} (hn : 146 ≤ n) (hX : Sh n X) {v0 : Int32} (c0 : v0.toInt < 0 ∨ 3 < v0.toInt) (hp : post (some (.ref 1009)) X) : Ev g mX3_signsOf d n n post n 0 [some (.int v0)] [] X := by
  refine ev_iload_n dX3_signsOf_0 rfl ?_
  refine ev_tabO (tgt := 44) dX3_signsOf_1 c0 (by decide) ?_
  refine ev_ldcS (t := 9) dX3_signsOf_44 sw_3_93 rfl rfl rfl ?_
  exact ev_aret dX3_signsOf_46 rfl (Or.inl ⟨_, rfl⟩) hp
theorem bX3_signsOf_0_1 {g : GG} {d n : Nat} {post : Option Value → LX → Prop} {X : LX} (hn : 146 ≤ n) (hX : Sh n X) {v0 : Int32} (c0 : v0 = 0) (hp : post (some (.ref 1005)) X) : Ev g mX3_signsOf d n n post n 0 [some (.int v0)] [] X := by
  refine ev_iload_n dX3_signsOf_0 rfl ?_
  refine ev_tabI (tgt := 32) (off := 31) dX3_signsOf_1 (by rw [c0]; decide) (by rw [c0]; decide) (by rw [c0]; rfl) (by decide) ?_
  refine ev_ldcS (t := 5) dX3_signsOf_32 sw_3_85 rfl rfl rfl ?_
  exact ev_aret dX3_signsOf_34 rfl (Or.inl ⟨_, rfl⟩) hp
theorem bX3_signsOf_0_2 {g : GG} {d n : Nat} {post : Option Value → LX → Prop} {X : LX} (hn : 146 ≤ n) (hX : Sh n X) {v0 : Int32} (c0 : v0 = 1) (hp : post (some (.ref 1006)) X) : Ev g mX3_signsOf d n n post n 0 [some (.int v0)] [] X := by
  refine ev_iload_n dX3_signsOf_0 rfl ?_
  refine ev_tabI (tgt := 35) (off := 34) dX3_signsOf_1 (by rw [c0]; decide) (by rw [c0]; decide) (by rw [c0]; rfl) (by decide) ?_
  refine ev_ldcS (t := 6) dX3_signsOf_35 sw_3_87 rfl rfl rfl ?_
  exact ev_aret dX3_signsOf_37 rfl (Or.inl ⟨_, rfl⟩) hp
theorem bX3_signsOf_0_3 {g : GG} {d n : Nat} {post : Option Value → LX → Prop} {X : LX} (hn : 146 ≤ n) (hX : Sh n X) {v0 : Int32} (c0 : v0 = 2) (hp : post (some (.ref 1007)) X) : Ev g mX3_signsOf d n n post n 0 [some (.int v0)] [] X := by
  refine ev_iload_n dX3_signsOf_0 rfl ?_
  refine ev_tabI (tgt := 38) (off := 37) dX3_signsOf_1 (by rw [c0]; decide) (by rw [c0]; decide) (by rw [c0]; rfl) (by decide) ?_
  refine ev_ldcS (t := 7) dX3_signsOf_38 sw_3_89 rfl rfl rfl ?_
  exact ev_aret dX3_signsOf_40 rfl (Or.inl ⟨_, rfl⟩) hp
theorem bX3_signsOf_0_4 {g : GG} {d n : Nat} {post : Option Value → LX → Prop} {X : LX} (hn : 146 ≤ n) (hX : Sh n X) {v0 : Int32} (c0 : v0 = 3) (hp : post (some (.ref 1008)) X) : Ev g mX3_signsOf d n n post n 0 [some (.int v0)] [] X := by
  refine ev_iload_n dX3_signsOf_0 rfl ?_
  refine ev_tabI (tgt := 41) (off := 40) dX3_signsOf_1 (by rw [c0]; decide) (by rw [c0]; decide) (by rw [c0]; rfl) (by decide) ?_
  refine ev_ldcS (t := 8) dX3_signsOf_41 sw_3_91 rfl rfl rfl ?_
  exact ev_aret dX3_signsOf_43 rfl (Or.inl ⟨_, rfl⟩) hp
theorem bX3_isSignOf_0_0 {g : GG} {d n : Nat} {post : Option Value → LX → Prop} {X : LX} (hn : 146 ≤ n) (hX : Sh n X) {tv1 : Nat} {j1 : Nat} (htv1 : tv1 < 14) (c0 : ¬ 0 ≤ X 81 6) (c1 : X 81 8 = 3) (hj1 : X 81 9 = nI j1) (b0 : j1 < 120) (k : Ev g mX3_isSignOf d n n post n 26 [some (.ref 81), some (.ref (1000 + tv1))] [.int (((X 82 j1).toUInt32 % 65536).toInt32), .ref (1000 + tv1)] X) : Ev g mX3_isSignOf d n n post n 0 [some (.ref 81), some (.ref (1000 + tv1))] [] X := by
  refine ev_aload_n dX3_isSignOf_0 rfl ?_
  refine ev_getI dX3_isSignOf_1 fo_3_28 (by omega) lo_81 rfl ?_
  refine ev_ifF (tgt := 36) dX3_isSignOf_4 (by decide) c0 ?_
  refine ev_aload_n dX3_isSignOf_7 rfl ?_
  refine ev_getI dX3_isSignOf_8 fo_3_31 (by omega) lo_81 rfl ?_
  refine ev_iconst (v := 3) dX3_isSignOf_11 ki_3 ?_
  refine ev_icmpF (tgt := 36) dX3_isSignOf_12 (by decide) c1 ?_
  refine ev_aload_n dX3_isSignOf_15 rfl ?_
  refine ev_aload_n dX3_isSignOf_16 rfl ?_
  refine ev_getS (q := 82) dX3_isSignOf_17 fo_3_9 (by omega) lo_81 rfl (sh_81_0 hX (by omega)) (by decide) ?_
  refine ev_aload_n dX3_isSignOf_20 rfl ?_
  refine ev_getI dX3_isSignOf_21 fo_3_66 (by omega) lo_81 rfl ?_
  refine ev_iald dX3_isSignOf_24 (by omega) ly_82 hj1 b0 ?_
  refine ev_i2c dX3_isSignOf_25 ?_
  exact k
theorem bX3_isSignOf_0_1 {g : GG} {d n : Nat} {post : Option Value → LX → Prop} {X : LX} (hn : 146 ≤ n) (hX : Sh n X) {tv1 : Nat} (htv1 : tv1 < 14) (c0 : ¬ 0 ≤ X 81 6) (c1 : ¬ X 81 8 = 3) (hp : post (some (.int 0)) X) : Ev g mX3_isSignOf d n n post n 0 [some (.ref 81), some (.ref (1000 + tv1))] [] X := by
  refine ev_aload_n dX3_isSignOf_0 rfl ?_
  refine ev_getI dX3_isSignOf_1 fo_3_28 (by omega) lo_81 rfl ?_
  refine ev_ifF (tgt := 36) dX3_isSignOf_4 (by decide) c0 ?_
  refine ev_aload_n dX3_isSignOf_7 rfl ?_
  refine ev_getI dX3_isSignOf_8 fo_3_31 (by omega) lo_81 rfl ?_
  refine ev_iconst (v := 3) dX3_isSignOf_11 ki_3 ?_
  refine ev_icmpT (tgt := 36) dX3_isSignOf_12 (by decide) c1 ?_
  refine ev_iconst (v := 0) dX3_isSignOf_36 ki_0 ?_
  exact ev_iret dX3_isSignOf_37 rfl (by decide) hp
theorem bX3_isSignOf_0_2 {g : GG} {d n : Nat} {post : Option Value → LX → Prop} {X : LX} (hn : 146 ≤ n) (hX : Sh n X) {tv1 : Nat} (htv1 : tv1 < 14) (c0 : 0 ≤ X 81 6) (hp : post (some (.int 0)) X) : Ev g mX3_isSignOf d n n post n 0 [some (.ref 81), some (.ref (1000 + tv1))] [] X := by
  refine ev_aload_n dX3_isSignOf_0 rfl ?_
  refine ev_getI dX3_isSignOf_1 fo_3_28 (by omega) lo_81 rfl ?_
  refine ev_ifT (tgt := 36) dX3_isSignOf_4 (by decide) c0 ?_
  refine ev_iconst (v := 0) dX3_isSignOf_36 ki_0 ?_
  exact ev_iret dX3_isSignOf_37 rfl (by decide) hp
theorem bX3_isSignOf_29_0 {g : GG} {d n : Nat} {post : Option Value → LX → Prop} {X : LX} (hn : 146 ≤ n) (hX : Sh n X) {tv1 : Nat} {s0 : Int32} (htv1 : tv1 < 14) (c0 : ¬ s0 < 0) (hp : post (some (.int 1)) X) : Ev g mX3_isSignOf d n n post n 29 [some (.ref 81), some (.ref (1000 + tv1))] [.int s0] X := by
  refine ev_ifF (tgt := 36) dX3_isSignOf_29 (by decide) c0 ?_
  refine ev_iconst (v := 1) dX3_isSignOf_32 ki_1 ?_
  refine ev_goto (tgt := 37) dX3_isSignOf_33 (by decide) ?_
  exact ev_iret dX3_isSignOf_37 rfl (by decide) hp
theorem bX3_isSignOf_29_1 {g : GG} {d n : Nat} {post : Option Value → LX → Prop} {X : LX} (hn : 146 ≤ n) (hX : Sh n X) {tv1 : Nat} {s0 : Int32} (htv1 : tv1 < 14) (c0 : s0 < 0) (hp : post (some (.int 0)) X) : Ev g mX3_isSignOf d n n post n 29 [some (.ref 81), some (.ref (1000 + tv1))] [.int s0] X := by
  refine ev_ifT (tgt := 36) dX3_isSignOf_29 (by decide) c0 ?_
  refine ev_iconst (v := 0) dX3_isSignOf_36 ki_0 ?_
  exact ev_iret dX3_isSignOf_37 rfl (by decide) hp
theorem bX3_slotOfName_0_0 {g : GG} {d n : Nat} {post : Option Value → LX → Prop} {X : LX} (hn : 146 ≤ n) (hX : Sh n X) {t1 : Nat} {j2 : Nat} (c0 : X 81 8 = 1) (c1 : (X 81 10) - (X 81 9) = 1) (htt1 : t1 < 14) (hxt1 : X 81 7 = rE (1000 + t1)) (hj2 : X 81 9 = nI j2) (b0 : j2 < 120) (k : Ev g mX3_slotOfName d n n post n 35 [some (.ref 81)] [.int (((X 82 j2).toUInt32 % 65536).toInt32), .ref (1000 + t1)] X) : Ev g mX3_slotOfName d n n post n 0 [some (.ref 81)] [] X := by
  refine ev_aload_n dX3_slotOfName_0 rfl ?_
  refine ev_getI dX3_slotOfName_1 fo_3_31 (by omega) lo_81 rfl ?_
  refine ev_iconst (v := 1) dX3_slotOfName_4 ki_1 ?_
  refine ev_icmpF (tgt := 41) dX3_slotOfName_5 (by decide) c0 ?_
  refine ev_aload_n dX3_slotOfName_8 rfl ?_
  refine ev_getI dX3_slotOfName_9 fo_3_34 (by omega) lo_81 rfl ?_
  refine ev_aload_n dX3_slotOfName_12 rfl ?_
  refine ev_getI dX3_slotOfName_13 fo_3_66 (by omega) lo_81 rfl ?_
  refine ev_isub dX3_slotOfName_16 ?_
  refine ev_iconst (v := 1) dX3_slotOfName_17 ki_1 ?_
  refine ev_icmpF (tgt := 41) dX3_slotOfName_18 (by decide) c1 ?_
  refine ev_aload_n dX3_slotOfName_21 rfl ?_
  refine ev_getS (q := 1000 + t1) dX3_slotOfName_22 fo_3_39 (by omega) lo_81 rfl hxt1 (by omega) ?_
  refine ev_aload_n dX3_slotOfName_25 rfl ?_
  refine ev_getS (q := 82) dX3_slotOfName_26 fo_3_9 (by omega) lo_81 rfl (sh_81_0 hX (by omega)) (by decide) ?_
  refine ev_aload_n dX3_slotOfName_29 rfl ?_
  refine ev_getI dX3_slotOfName_30 fo_3_66 (by omega) lo_81 rfl ?_
  refine ev_iald dX3_slotOfName_33 (by omega) ly_82 hj2 b0 ?_
  refine ev_i2c dX3_slotOfName_34 ?_
  exact k
theorem bX3_slotOfName_0_1 {g : GG} {d n : Nat} {post : Option Value → LX → Prop} {X : LX} (hn : 146 ≤ n) (hX : Sh n X)  (c0 : X 81 8 = 1) (c1 : ¬ (X 81 10) - (X 81 9) = 1) (hp : post (some (.int (-1))) X) : Ev g mX3_slotOfName d n n post n 0 [some (.ref 81)] [] X := by
  refine ev_aload_n dX3_slotOfName_0 rfl ?_
  refine ev_getI dX3_slotOfName_1 fo_3_31 (by omega) lo_81 rfl ?_
  refine ev_iconst (v := 1) dX3_slotOfName_4 ki_1 ?_
  refine ev_icmpF (tgt := 41) dX3_slotOfName_5 (by decide) c0 ?_
  refine ev_aload_n dX3_slotOfName_8 rfl ?_
  refine ev_getI dX3_slotOfName_9 fo_3_34 (by omega) lo_81 rfl ?_
  refine ev_aload_n dX3_slotOfName_12 rfl ?_
  refine ev_getI dX3_slotOfName_13 fo_3_66 (by omega) lo_81 rfl ?_
  refine ev_isub dX3_slotOfName_16 ?_
  refine ev_iconst (v := 1) dX3_slotOfName_17 ki_1 ?_
  refine ev_icmpT (tgt := 41) dX3_slotOfName_18 (by decide) c1 ?_
  refine ev_iconst (v := (-1)) dX3_slotOfName_41 ki_m1 ?_
  exact ev_iret dX3_slotOfName_42 rfl rfl hp
theorem bX3_slotOfName_0_2 {g : GG} {d n : Nat} {post : Option Value → LX → Prop} {X : LX} (hn : 146 ≤ n) (hX : Sh n X)  (c0 : ¬ X 81 8 = 1) (hp : post (some (.int (-1))) X) : Ev g mX3_slotOfName d n n post n 0 [some (.ref 81)] [] X := by
  refine ev_aload_n dX3_slotOfName_0 rfl ?_
  refine ev_getI dX3_slotOfName_1 fo_3_31 (by omega) lo_81 rfl ?_
  refine ev_iconst (v := 1) dX3_slotOfName_4 ki_1 ?_
  refine ev_icmpT (tgt := 41) dX3_slotOfName_5 (by decide) c0 ?_
  refine ev_iconst (v := (-1)) dX3_slotOfName_41 ki_m1 ?_
  exact ev_iret dX3_slotOfName_42 rfl rfl hp
theorem bX3_slotOfName_38_0 {g : GG} {d n : Nat} {post : Option Value → LX → Prop} {X : LX} (hn : 146 ≤ n) (hX : Sh n X) {s0 : Int32} (hp : post (some (.int s0)) X) : Ev g mX3_slotOfName d n n post n 38 [some (.ref 81)] [.int s0] X := by
  refine ev_goto (tgt := 42) dX3_slotOfName_38 (by decide) ?_
  exact ev_iret dX3_slotOfName_42 rfl rfl hp
theorem bX3_putValue_0_0 {g : GG} {d n : Nat} {post : Option Value → LX → Prop} {X : LX} (hn : 146 ≤ n) (hX : Sh n X) {v1 : Int32} (k : Ev g mX3_putValue d n n post n 2 [some (.ref 81), some (.int v1)] [.int v1, .ref 81] X) : Ev g mX3_putValue d n n post n 0 [some (.ref 81), some (.int v1)] [] X := by
  refine ev_aload_n dX3_putValue_0 rfl ?_
  refine ev_iload_n dX3_putValue_1 rfl ?_
  exact k
theorem bX3_putValue_5_0 {g : GG} {d n : Nat} {post : Option Value → LX → Prop} {X : LX} (hn : 146 ≤ n) (hX : Sh n X) {v1 : Int32} (k : Ev g mX3_putValue d n n post n 16 [some (.ref 81), some (.int v1)] [.ref 81] (lx_up X 81 5 ((X 81 5) + 1))) : Ev g mX3_putValue d n n post n 5 [some (.ref 81), some (.int v1)] [] X := by
  refine ev_aload_n dX3_putValue_5 rfl ?_
  refine ev_dup dX3_putValue_6 rfl ?_
  refine ev_getI dX3_putValue_7 fo_3_25 (by omega) lo_81 rfl ?_
  refine ev_iconst (v := 1) dX3_putValue_10 ki_1 ?_
  refine ev_iadd dX3_putValue_11 ?_
  refine ev_putI dX3_putValue_12 fo_3_25 (by omega) lo_81 rfl rfl rfl ?_
  have hX1 : Sh _ (lx_up X 81 5 ((X 81 5) + 1)) := Sh.upF hX (by rw [lo_81]; decide) (by decide)
  refine ev_aload_n dX3_putValue_15 rfl ?_
  exact k
theorem bX3_putValue_19_0 {g : GG} {d n : Nat} {post : Option Value → LX → Prop} {X : LX} (hn : 146 ≤ n) (hX : Sh n X) {v1 : Int32} (hp : post none X) : Ev g mX3_putValue d n n post n 19 [some (.ref 81), some (.int v1)] [] X := by
  exact ev_ret dX3_putValue_19 rfl hp
theorem bX3_readLevel_0_0 {g : GG} {d n : Nat} {post : Option Value → LX → Prop} {X : LX} (hn : 146 ≤ n) (hX : Sh n X) {v1 : Int32} {v2 : Int32} {v3 : Int32} (c0 : ¬ v1 < 5) (k : Ev g mX3_readLevel d n n post n 8 [some (.ref 81), some (.int v1), some (.int v2), some (.int v3), none, none, none] [.int v3, .int v2, .ref 81] X) : Ev g mX3_readLevel d n n post n 0 [some (.ref 81), some (.int v1), some (.int v2), some (.int v3), none, none, none] [] X := by
  refine ev_iload_n dX3_readLevel_0 rfl ?_
  refine ev_iconst (v := 5) dX3_readLevel_1 ki_5 ?_
  refine ev_icmpF (tgt := 12) dX3_readLevel_2 (by decide) c0 ?_
  refine ev_aload_n dX3_readLevel_5 rfl ?_
  refine ev_iload_n dX3_readLevel_6 rfl ?_
  refine ev_iload_n dX3_readLevel_7 rfl ?_
  exact k
theorem bX3_readLevel_0_1 {g : GG} {d n : Nat} {post : Option Value → LX → Prop} {X : LX} (hn : 146 ≤ n) (hX : Sh n X) {v1 : Int32} {v2 : Int32} {v3 : Int32} (c0 : v1 < 5) (k : Ev g mX3_readLevel d n n post n 18 [some (.ref 81), some (.int v1), some (.int v2), some (.int v3), none, none, none] [.int v3, .int v2, .int (v1 + 1), .ref 81] X) : Ev g mX3_readLevel d n n post n 0 [some (.ref 81), some (.int v1), some (.int v2), some (.int v3), none, none, none] [] X := by
  refine ev_iload_n dX3_readLevel_0 rfl ?_
  refine ev_iconst (v := 5) dX3_readLevel_1 ki_5 ?_
  refine ev_icmpT (tgt := 12) dX3_readLevel_2 (by decide) c0 ?_
  refine ev_aload_n dX3_readLevel_12 rfl ?_
  refine ev_iload_n dX3_readLevel_13 rfl ?_
  refine ev_iconst (v := 1) dX3_readLevel_14 ki_1 ?_
  refine ev_iadd dX3_readLevel_15 ?_
  refine ev_iload_n dX3_readLevel_16 rfl ?_
  refine ev_iload_n dX3_readLevel_17 rfl ?_
  exact k
theorem bX3_readLevel_11_0 {g : GG} {d n : Nat} {post : Option Value → LX → Prop} {X : LX} (hn : 146 ≤ n) (hX : Sh n X) {v1 : Int32} {v2 : Int32} {v3 : Int32} (hp : post none X) : Ev g mX3_readLevel d n n post n 11 [some (.ref 81), some (.int v1), some (.int v2), some (.int v3), none, none, none] [] X := by
  exact ev_ret dX3_readLevel_11 rfl hp
theorem bX3_readLevel_21_0 {g : GG} {d n : Nat} {post : Option Value → LX → Prop} {X : LX} (hn : 146 ≤ n) (hX : Sh n X) {v1 : Int32} {v2 : Int32} {v3 : Int32} (c0 : v1 = 2) (k : Ev g mX3_readLevel d n n post n 37 [some (.ref 81), some (.int v1), some (.int v2), some (.int v3), some (.int 1), some (.int 0), none] [] X) : Ev g mX3_readLevel d n n post n 21 [some (.ref 81), some (.int v1), some (.int v2), some (.int v3), none, none, none] [] X := by
  refine ev_iload_n dX3_readLevel_21 rfl ?_
  refine ev_iconst (v := 2) dX3_readLevel_22 ki_2 ?_
  refine ev_icmpF (tgt := 30) dX3_readLevel_23 (by decide) c0 ?_
  refine ev_iconst (v := 1) dX3_readLevel_26 ki_1 ?_
  refine ev_goto (tgt := 32) dX3_readLevel_27 (by decide) ?_
  refine ev_istore dX3_readLevel_32 (by decide) ?_
  refine ev_iconst (v := 0) dX3_readLevel_34 ki_0 ?_
  refine ev_istore dX3_readLevel_35 (by decide) ?_
  exact k
theorem bX3_readLevel_21_1 {g : GG} {d n : Nat} {post : Option Value → LX → Prop} {X : LX} (hn : 146 ≤ n) (hX : Sh n X) {v1 : Int32} {v2 : Int32} {v3 : Int32} (c0 : ¬ v1 = 2) (k : Ev g mX3_readLevel d n n post n 37 [some (.ref 81), some (.int v1), some (.int v2), some (.int v3), some (.int 120), some (.int 0), none] [] X) : Ev g mX3_readLevel d n n post n 21 [some (.ref 81), some (.int v1), some (.int v2), some (.int v3), none, none, none] [] X := by
  refine ev_iload_n dX3_readLevel_21 rfl ?_
  refine ev_iconst (v := 2) dX3_readLevel_22 ki_2 ?_
  refine ev_icmpT (tgt := 30) dX3_readLevel_23 (by decide) c0 ?_
  refine ev_bipush (v := 120) dX3_readLevel_30 kb_120 ?_
  refine ev_istore dX3_readLevel_32 (by decide) ?_
  refine ev_iconst (v := 0) dX3_readLevel_34 ki_0 ?_
  refine ev_istore dX3_readLevel_35 (by decide) ?_
  exact k
theorem bX3_readLevel_37_0 {g : GG} {d n : Nat} {post : Option Value → LX → Prop} {X : LX} (hn : 146 ≤ n) (hX : Sh n X) {v1 : Int32} {v2 : Int32} {v3 : Int32} {v4 : Int32} {v5 : Int32} (c0 : ¬ v4 ≤ v5) (k : Ev g mX3_readLevel d n n post n 46 [some (.ref 81), some (.int v1), some (.int v2), some (.int v3), some (.int v4), some (.int v5), none] [.int v1, .ref 81] X) : Ev g mX3_readLevel d n n post n 37 [some (.ref 81), some (.int v1), some (.int v2), some (.int v3), some (.int v4), some (.int v5), none] [] X := by
  refine ev_iload dX3_readLevel_37 rfl ?_
  refine ev_iload dX3_readLevel_39 rfl ?_
  refine ev_icmpF (tgt := 92) dX3_readLevel_41 (by decide) c0 ?_
  refine ev_aload_n dX3_readLevel_44 rfl ?_
  refine ev_iload_n dX3_readLevel_45 rfl ?_
  exact k
theorem bX3_readLevel_37_1 {g : GG} {d n : Nat} {post : Option Value → LX → Prop} {X : LX} (hn : 146 ≤ n) (hX : Sh n X) {v1 : Int32} {v2 : Int32} {v3 : Int32} {v4 : Int32} {v5 : Int32} (c0 : v4 ≤ v5) (hp : post none X) : Ev g mX3_readLevel d n n post n 37 [some (.ref 81), some (.int v1), some (.int v2), some (.int v3), some (.int v4), some (.int v5), none] [] X := by
  refine ev_iload dX3_readLevel_37 rfl ?_
  refine ev_iload dX3_readLevel_39 rfl ?_
  refine ev_icmpT (tgt := 92) dX3_readLevel_41 (by decide) c0 ?_
  exact ev_ret dX3_readLevel_92 rfl hp
theorem bX3_readLevel_49_0 {g : GG} {d n : Nat} {post : Option Value → LX → Prop} {X : LX} (hn : 146 ≤ n) (hX : Sh n X) {v1 : Int32} {v2 : Int32} {v3 : Int32} {v4 : Int32} {v5 : Int32} {ts1 : Nat} (hts1 : ts1 < 14) (k : Ev g mX3_readLevel d n n post n 49 [some (.ref 81), some (.int v1), some (.int v2), some (.int v3), some (.int v4), some (.int v5), none] [.ref (1000 + ts1), .ref 81] X) : Ev g mX3_readLevel d n n post n 49 [some (.ref 81), some (.int v1), some (.int v2), some (.int v3), some (.int v4), some (.int v5), none] [.ref (1000 + ts1), .ref 81] X := by
  exact k
theorem bX3_readLevel_52_0 {g : GG} {d n : Nat} {post : Option Value → LX → Prop} {X : LX} (hn : 146 ≤ n) (hX : Sh n X) {v1 : Int32} {v2 : Int32} {v3 : Int32} {v4 : Int32} {v5 : Int32} {s0 : Int32} {j1 : Nat} (c0 : ¬ s0 = 0) (hj1 : X 81 9 = nI j1) (b0 : j1 < 120) (k : Ev g mX3_readLevel d n n post n 67 [some (.ref 81), some (.int v1), some (.int v2), some (.int v3), some (.int v4), some (.int v5), some (.int (X 82 j1))] [.ref 81] X) : Ev g mX3_readLevel d n n post n 52 [some (.ref 81), some (.int v1), some (.int v2), some (.int v3), some (.int v4), some (.int v5), none] [.int s0] X := by
  refine ev_ifF (tgt := 92) dX3_readLevel_52 (by decide) c0 ?_
  refine ev_aload_n dX3_readLevel_55 rfl ?_
  refine ev_getS (q := 82) dX3_readLevel_56 fo_3_9 (by omega) lo_81 rfl (sh_81_0 hX (by omega)) (by decide) ?_
  refine ev_aload_n dX3_readLevel_59 rfl ?_
  refine ev_getI dX3_readLevel_60 fo_3_66 (by omega) lo_81 rfl ?_
  refine ev_iald dX3_readLevel_63 (by omega) ly_82 hj1 b0 ?_
  refine ev_istore dX3_readLevel_64 (by decide) ?_
  refine ev_aload_n dX3_readLevel_66 rfl ?_
  exact k
theorem bX3_readLevel_52_1 {g : GG} {d n : Nat} {post : Option Value → LX → Prop} {X : LX} (hn : 146 ≤ n) (hX : Sh n X) {v1 : Int32} {v2 : Int32} {v3 : Int32} {v4 : Int32} {v5 : Int32} {s0 : Int32} (c0 : s0 = 0) (hp : post none X) : Ev g mX3_readLevel d n n post n 52 [some (.ref 81), some (.int v1), some (.int v2), some (.int v3), some (.int v4), some (.int v5), none] [.int s0] X := by
  refine ev_ifT (tgt := 92) dX3_readLevel_52 (by decide) c0 ?_
  exact ev_ret dX3_readLevel_92 rfl hp
theorem bX3_readLevel_70_0 {g : GG} {d n : Nat} {post : Option Value → LX → Prop} {X : LX} (hn : 146 ≤ n) (hX : Sh n X) {v1 : Int32} {v2 : Int32} {v3 : Int32} {v4 : Int32} {v5 : Int32} {v6 : Int32} (k : Ev g mX3_readLevel d n n post n 76 [some (.ref 81), some (.int v1), some (.int v2), some (.int v3), some (.int v4), some (.int v5), some (.int v6)] [.int v3, .int v2, .int (v1 + 1), .ref 81] X) : Ev g mX3_readLevel d n n post n 70 [some (.ref 81), some (.int v1), some (.int v2), some (.int v3), some (.int v4), some (.int v5), some (.int v6)] [] X := by
  refine ev_aload_n dX3_readLevel_70 rfl ?_
  refine ev_iload_n dX3_readLevel_71 rfl ?_
  refine ev_iconst (v := 1) dX3_readLevel_72 ki_1 ?_
  refine ev_iadd dX3_readLevel_73 ?_
  refine ev_iload_n dX3_readLevel_74 rfl ?_
  refine ev_iload_n dX3_readLevel_75 rfl ?_
  exact k
theorem bX3_readLevel_79_0 {g : GG} {d n : Nat} {post : Option Value → LX → Prop} {X : LX} (hn : 146 ≤ n) (hX : Sh n X) {v1 : Int32} {v2 : Int32} {v3 : Int32} {v4 : Int32} {v5 : Int32} {v6 : Int32} (k : Ev g mX3_readLevel d n n post n 83 [some (.ref 81), some (.int v1), some (.int v2), some (.int v3), some (.int v4), some (.int v5), some (.int v6)] [.int (-v6), .ref 81] X) : Ev g mX3_readLevel d n n post n 79 [some (.ref 81), some (.int v1), some (.int v2), some (.int v3), some (.int v4), some (.int v5), some (.int v6)] [] X := by
  refine ev_aload_n dX3_readLevel_79 rfl ?_
  refine ev_iload dX3_readLevel_80 rfl ?_
  refine ev_ineg dX3_readLevel_82 ?_
  exact k
theorem bX3_readLevel_86_0 {g : GG} {d n : Nat} {post : Option Value → LX → Prop} {X : LX} (hn : 146 ≤ n) (hX : Sh n X) {v1 : Int32} {v2 : Int32} {v3 : Int32} {v4 : Int32} {v5 : Int32} {v6 : Int32} (k : Ev g mX3_readLevel d n n post n 37 [some (.ref 81), some (.int v1), some (.int v2), some (.int v3), some (.int v4), some (.int (v5 + 1)), none] [] X) : Ev g mX3_readLevel d n n post n 86 [some (.ref 81), some (.int v1), some (.int v2), some (.int v3), some (.int v4), some (.int v5), some (.int v6)] [] X := by
  refine ev_iinc (v := v5 + 1) dX3_readLevel_86 rfl (by rw [show Int32.ofInt 1 = 1 from ki_1]) (by decide) ?_
  refine ev_goto (tgt := 37) dX3_readLevel_89 (by decide) ?_
  refine ev_wk (L := [some (.ref 81), some (.int v1), some (.int v2), some (.int v3), some (.int v4), some (.int (v5 + 1)), some (.int v6)]) (L' := [some (.ref 81), some (.int v1), some (.int v2), some (.int v3), some (.int v4), some (.int (v5 + 1)), none]) (by simp [lwk]) ?_
  exact k
theorem bX3_readPart_0_0 {g : GG} {d n : Nat} {post : Option Value → LX → Prop} {X : LX} (hn : 146 ≤ n) (hX : Sh n X) {v1 : Int32} {v2 : Int32} (c0 : ¬ X 81 6 < 0) (hp : post none X) : Ev g mX3_readPart d n n post n 0 [some (.ref 81), some (.int v1), some (.int v2), none] [] X := by
  refine ev_aload_n dX3_readPart_0 rfl ?_
  refine ev_getI dX3_readPart_1 fo_3_28 (by omega) lo_81 rfl ?_
  refine ev_ifF (tgt := 8) dX3_readPart_4 (by decide) c0 ?_
  exact ev_ret dX3_readPart_7 rfl hp
theorem bX3_readPart_0_1 {g : GG} {d n : Nat} {post : Option Value → LX → Prop} {X : LX} (hn : 146 ≤ n) (hX : Sh n X) {v1 : Int32} {v2 : Int32} (c0 : X 81 6 < 0) (k : Ev g mX3_readPart d n n post n 9 [some (.ref 81), some (.int v1), some (.int v2), none] [.ref 81] X) : Ev g mX3_readPart d n n post n 0 [some (.ref 81), some (.int v1), some (.int v2), none] [] X := by
  refine ev_aload_n dX3_readPart_0 rfl ?_
  refine ev_getI dX3_readPart_1 fo_3_28 (by omega) lo_81 rfl ?_
  refine ev_ifT (tgt := 8) dX3_readPart_4 (by decide) c0 ?_
  refine ev_aload_n dX3_readPart_8 rfl ?_
  exact k
theorem bX3_readPart_12_0 {g : GG} {d n : Nat} {post : Option Value → LX → Prop} {X : LX} (hn : 146 ≤ n) (hX : Sh n X) {v1 : Int32} {v2 : Int32} {s0 : Int32} (c0 : X 81 8 = 2) (k : Ev g mX3_readPart d n n post n 23 [some (.ref 81), some (.int v1), some (.int v2), some (.int s0)] [.ref 81, .ref 81] X) : Ev g mX3_readPart d n n post n 12 [some (.ref 81), some (.int v1), some (.int v2), none] [.int s0] X := by
  refine ev_istore_n dX3_readPart_12 (by decide) ?_
  refine ev_aload_n dX3_readPart_13 rfl ?_
  refine ev_getI dX3_readPart_14 fo_3_31 (by omega) lo_81 rfl ?_
  refine ev_iconst (v := 2) dX3_readPart_17 ki_2 ?_
  refine ev_icmpF (tgt := 32) dX3_readPart_18 (by decide) c0 ?_
  refine ev_aload_n dX3_readPart_21 rfl ?_
  refine ev_aload_n dX3_readPart_22 rfl ?_
  exact k
theorem bX3_readPart_12_1 {g : GG} {d n : Nat} {post : Option Value → LX → Prop} {X : LX} (hn : 146 ≤ n) (hX : Sh n X) {v1 : Int32} {v2 : Int32} {s0 : Int32} (c0 : ¬ X 81 8 = 2) (c1 : ¬ s0 < 0) (k : Ev g mX3_readPart d n n post n 42 [some (.ref 81), some (.int v1), some (.int v2), some (.int s0)] [.int ((-1000) - s0), .ref 81] X) : Ev g mX3_readPart d n n post n 12 [some (.ref 81), some (.int v1), some (.int v2), none] [.int s0] X := by
  refine ev_istore_n dX3_readPart_12 (by decide) ?_
  refine ev_aload_n dX3_readPart_13 rfl ?_
  refine ev_getI dX3_readPart_14 fo_3_31 (by omega) lo_81 rfl ?_
  refine ev_iconst (v := 2) dX3_readPart_17 ki_2 ?_
  refine ev_icmpT (tgt := 32) dX3_readPart_18 (by decide) c0 ?_
  refine ev_iload_n dX3_readPart_32 rfl ?_
  refine ev_ifF (tgt := 48) dX3_readPart_33 (by decide) c1 ?_
  refine ev_aload_n dX3_readPart_36 rfl ?_
  refine ev_sipush (v := (-1000)) dX3_readPart_37 ks_m1000 ?_
  refine ev_iload_n dX3_readPart_40 rfl ?_
  refine ev_isub dX3_readPart_41 ?_
  exact k
theorem bX3_readPart_12_2 {g : GG} {d n : Nat} {post : Option Value → LX → Prop} {X : LX} (hn : 146 ≤ n) (hX : Sh n X) {v1 : Int32} {v2 : Int32} {s0 : Int32} (c0 : ¬ X 81 8 = 2) (c1 : s0 < 0) (k : Ev g mX3_readPart d n n post n 51 [some (.ref 81), some (.int v1), some (.int v2), some (.int s0)] [.ref 1002, .ref 81] X) : Ev g mX3_readPart d n n post n 12 [some (.ref 81), some (.int v1), some (.int v2), none] [.int s0] X := by
  refine ev_istore_n dX3_readPart_12 (by decide) ?_
  refine ev_aload_n dX3_readPart_13 rfl ?_
  refine ev_getI dX3_readPart_14 fo_3_31 (by omega) lo_81 rfl ?_
  refine ev_iconst (v := 2) dX3_readPart_17 ki_2 ?_
  refine ev_icmpT (tgt := 32) dX3_readPart_18 (by decide) c0 ?_
  refine ev_iload_n dX3_readPart_32 rfl ?_
  refine ev_ifT (tgt := 48) dX3_readPart_33 (by decide) c1 ?_
  refine ev_aload_n dX3_readPart_48 rfl ?_
  refine ev_ldcS (t := 2) dX3_readPart_49 sw_3_126 rfl rfl rfl ?_
  exact k
theorem bX3_readPart_26_0 {g : GG} {d n : Nat} {post : Option Value → LX → Prop} {X : LX} (hn : 146 ≤ n) (hX : Sh n X) {v1 : Int32} {v2 : Int32} {v3 : Int32} {s1 : Int32} (k : Ev g mX3_readPart d n n post n 26 [some (.ref 81), some (.int v1), some (.int v2), some (.int v3)] [.int s1, .ref 81] X) : Ev g mX3_readPart d n n post n 26 [some (.ref 81), some (.int v1), some (.int v2), some (.int v3)] [.int s1, .ref 81] X := by
  exact k
theorem bX3_readPart_29_0 {g : GG} {d n : Nat} {post : Option Value → LX → Prop} {X : LX} (hn : 146 ≤ n) (hX : Sh n X) {v1 : Int32} {v2 : Int32} {v3 : Int32} (hp : post none X) : Ev g mX3_readPart d n n post n 29 [some (.ref 81), some (.int v1), some (.int v2), some (.int v3)] [] X := by
  refine ev_goto (tgt := 139) dX3_readPart_29 (by decide) ?_
  exact ev_ret dX3_readPart_139 rfl hp
theorem bX3_readPart_45_0 {g : GG} {d n : Nat} {post : Option Value → LX → Prop} {X : LX} (hn : 146 ≤ n) (hX : Sh n X) {v1 : Int32} {v2 : Int32} {v3 : Int32} (hp : post none X) : Ev g mX3_readPart d n n post n 45 [some (.ref 81), some (.int v1), some (.int v2), some (.int v3)] [] X := by
  refine ev_goto (tgt := 139) dX3_readPart_45 (by decide) ?_
  exact ev_ret dX3_readPart_139 rfl hp
theorem bX3_readPart_54_0 {g : GG} {d n : Nat} {post : Option Value → LX → Prop} {X : LX} (hn : 146 ≤ n) (hX : Sh n X) {v1 : Int32} {v2 : Int32} {v3 : Int32} {s0 : Int32} (c0 : ¬ s0 = 0) (c1 : ¬ 8 ≤ v2) (k : Ev g mX3_readPart d n n post n 64 [some (.ref 81), some (.int v1), some (.int v2), some (.int v3)] [.ref 81] X) : Ev g mX3_readPart d n n post n 54 [some (.ref 81), some (.int v1), some (.int v2), some (.int v3)] [.int s0] X := by
  refine ev_ifF (tgt := 84) dX3_readPart_54 (by decide) c0 ?_
  refine ev_iload_n dX3_readPart_57 rfl ?_
  refine ev_bipush (v := 8) dX3_readPart_58 kb_8 ?_
  refine ev_icmpF (tgt := 84) dX3_readPart_60 (by decide) c1 ?_
  refine ev_aload_n dX3_readPart_63 rfl ?_
  exact k
theorem bX3_readPart_54_1 {g : GG} {d n : Nat} {post : Option Value → LX → Prop} {X : LX} (hn : 146 ≤ n) (hX : Sh n X) {v1 : Int32} {v2 : Int32} {v3 : Int32} {s0 : Int32} (c0 : ¬ s0 = 0) (c1 : 8 ≤ v2) (k : Ev g mX3_readPart d n n post n 87 [some (.ref 81), some (.int v1), some (.int v2), some (.int v3)] [.ref 1003, .ref 81] X) : Ev g mX3_readPart d n n post n 54 [some (.ref 81), some (.int v1), some (.int v2), some (.int v3)] [.int s0] X := by
  refine ev_ifF (tgt := 84) dX3_readPart_54 (by decide) c0 ?_
  refine ev_iload_n dX3_readPart_57 rfl ?_
  refine ev_bipush (v := 8) dX3_readPart_58 kb_8 ?_
  refine ev_icmpT (tgt := 84) dX3_readPart_60 (by decide) c1 ?_
  refine ev_aload_n dX3_readPart_84 rfl ?_
  refine ev_ldcS (t := 3) dX3_readPart_85 sw_3_128 rfl rfl rfl ?_
  exact k
theorem bX3_readPart_54_2 {g : GG} {d n : Nat} {post : Option Value → LX → Prop} {X : LX} (hn : 146 ≤ n) (hX : Sh n X) {v1 : Int32} {v2 : Int32} {v3 : Int32} {s0 : Int32} (c0 : s0 = 0) (k : Ev g mX3_readPart d n n post n 87 [some (.ref 81), some (.int v1), some (.int v2), some (.int v3)] [.ref 1003, .ref 81] X) : Ev g mX3_readPart d n n post n 54 [some (.ref 81), some (.int v1), some (.int v2), some (.int v3)] [.int s0] X := by
  refine ev_ifT (tgt := 84) dX3_readPart_54 (by decide) c0 ?_
  refine ev_aload_n dX3_readPart_84 rfl ?_
  refine ev_ldcS (t := 3) dX3_readPart_85 sw_3_128 rfl rfl rfl ?_
  exact k
theorem bX3_readPart_67_0 {g : GG} {d n : Nat} {post : Option Value → LX → Prop} {X : LX} (hn : 146 ≤ n) (hX : Sh n X) {v1 : Int32} {v2 : Int32} {v3 : Int32} (k : Ev g mX3_readPart d n n post n 72 [some (.ref 81), some (.int v1), some (.int v2), some (.int v3)] [.int (v2 + 1), .int v1, .ref 81] X) : Ev g mX3_readPart d n n post n 67 [some (.ref 81), some (.int v1), some (.int v2), some (.int v3)] [] X := by
  refine ev_aload_n dX3_readPart_67 rfl ?_
  refine ev_iload_n dX3_readPart_68 rfl ?_
  refine ev_iload_n dX3_readPart_69 rfl ?_
  refine ev_iconst (v := 1) dX3_readPart_70 ki_1 ?_
  refine ev_iadd dX3_readPart_71 ?_
  exact k
theorem bX3_readPart_75_0 {g : GG} {d n : Nat} {post : Option Value → LX → Prop} {X : LX} (hn : 146 ≤ n) (hX : Sh n X) {v1 : Int32} {v2 : Int32} {v3 : Int32} (k : Ev g mX3_readPart d n n post n 78 [some (.ref 81), some (.int v1), some (.int v2), some (.int v3)] [.int (-33), .ref 81] X) : Ev g mX3_readPart d n n post n 75 [some (.ref 81), some (.int v1), some (.int v2), some (.int v3)] [] X := by
  refine ev_aload_n dX3_readPart_75 rfl ?_
  refine ev_bipush (v := (-33)) dX3_readPart_76 kb_m33 ?_
  exact k
theorem bX3_readPart_81_0 {g : GG} {d n : Nat} {post : Option Value → LX → Prop} {X : LX} (hn : 146 ≤ n) (hX : Sh n X) {v1 : Int32} {v2 : Int32} {v3 : Int32} (hp : post none X) : Ev g mX3_readPart d n n post n 81 [some (.ref 81), some (.int v1), some (.int v2), some (.int v3)] [] X := by
  refine ev_goto (tgt := 139) dX3_readPart_81 (by decide) ?_
  exact ev_ret dX3_readPart_139 rfl hp
theorem bX3_readPart_90_0 {g : GG} {d n : Nat} {post : Option Value → LX → Prop} {X : LX} (hn : 146 ≤ n) (hX : Sh n X) {v1 : Int32} {v2 : Int32} {v3 : Int32} {s0 : Int32} (c0 : ¬ s0 = 0) (c1 : ¬ 8 ≤ v1) (k : Ev g mX3_readPart d n n post n 100 [some (.ref 81), some (.int v1), some (.int v2), some (.int v3)] [.ref 81] X) : Ev g mX3_readPart d n n post n 90 [some (.ref 81), some (.int v1), some (.int v2), some (.int v3)] [.int s0] X := by
  refine ev_ifF (tgt := 135) dX3_readPart_90 (by decide) c0 ?_
  refine ev_iload_n dX3_readPart_93 rfl ?_
  refine ev_bipush (v := 8) dX3_readPart_94 kb_8 ?_
  refine ev_icmpF (tgt := 135) dX3_readPart_96 (by decide) c1 ?_
  refine ev_aload_n dX3_readPart_99 rfl ?_
  exact k
theorem bX3_readPart_90_1 {g : GG} {d n : Nat} {post : Option Value → LX → Prop} {X : LX} (hn : 146 ≤ n) (hX : Sh n X) {v1 : Int32} {v2 : Int32} {v3 : Int32} {s0 : Int32} (c0 : ¬ s0 = 0) (c1 : 8 ≤ v1) (k : Ev g mX3_readPart d n n post n 136 [some (.ref 81), some (.int v1), some (.int v2), some (.int v3)] [.ref 81] X) : Ev g mX3_readPart d n n post n 90 [some (.ref 81), some (.int v1), some (.int v2), some (.int v3)] [.int s0] X := by
  refine ev_ifF (tgt := 135) dX3_readPart_90 (by decide) c0 ?_
  refine ev_iload_n dX3_readPart_93 rfl ?_
  refine ev_bipush (v := 8) dX3_readPart_94 kb_8 ?_
  refine ev_icmpT (tgt := 135) dX3_readPart_96 (by decide) c1 ?_
  refine ev_aload_n dX3_readPart_135 rfl ?_
  exact k
theorem bX3_readPart_90_2 {g : GG} {d n : Nat} {post : Option Value → LX → Prop} {X : LX} (hn : 146 ≤ n) (hX : Sh n X) {v1 : Int32} {v2 : Int32} {v3 : Int32} {s0 : Int32} (c0 : s0 = 0) (k : Ev g mX3_readPart d n n post n 136 [some (.ref 81), some (.int v1), some (.int v2), some (.int v3)] [.ref 81] X) : Ev g mX3_readPart d n n post n 90 [some (.ref 81), some (.int v1), some (.int v2), some (.int v3)] [.int s0] X := by
  refine ev_ifT (tgt := 135) dX3_readPart_90 (by decide) c0 ?_
  refine ev_aload_n dX3_readPart_135 rfl ?_
  exact k
theorem bX3_readPart_103_0 {g : GG} {d n : Nat} {post : Option Value → LX → Prop} {X : LX} (hn : 146 ≤ n) (hX : Sh n X) {v1 : Int32} {v2 : Int32} {v3 : Int32} (k : Ev g mX3_readPart d n n post n 109 [some (.ref 81), some (.int v1), some (.int v2), some (.int v3)] [.int v2, .int (v1 + 1), .int 0, .ref 81] X) : Ev g mX3_readPart d n n post n 103 [some (.ref 81), some (.int v1), some (.int v2), some (.int v3)] [] X := by
  refine ev_aload_n dX3_readPart_103 rfl ?_
  refine ev_iconst (v := 0) dX3_readPart_104 ki_0 ?_
  refine ev_iload_n dX3_readPart_105 rfl ?_
  refine ev_iconst (v := 1) dX3_readPart_106 ki_1 ?_
  refine ev_iadd dX3_readPart_107 ?_
  refine ev_iload_n dX3_readPart_108 rfl ?_
  exact k
theorem bX3_readPart_112_0 {g : GG} {d n : Nat} {post : Option Value → LX → Prop} {X : LX} (hn : 146 ≤ n) (hX : Sh n X) {v1 : Int32} {v2 : Int32} {v3 : Int32} (k : Ev g mX3_readPart d n n post n 115 [some (.ref 81), some (.int v1), some (.int v2), some (.int v3)] [.ref 1004, .ref 81] X) : Ev g mX3_readPart d n n post n 112 [some (.ref 81), some (.int v1), some (.int v2), some (.int v3)] [] X := by
  refine ev_aload_n dX3_readPart_112 rfl ?_
  refine ev_ldcS (t := 4) dX3_readPart_113 sw_3_130 rfl rfl rfl ?_
  exact k
theorem bX3_readPart_118_0 {g : GG} {d n : Nat} {post : Option Value → LX → Prop} {X : LX} (hn : 146 ≤ n) (hX : Sh n X) {v1 : Int32} {v2 : Int32} {v3 : Int32} {s0 : Int32} (c0 : ¬ s0 = 0) (k : Ev g mX3_readPart d n n post n 122 [some (.ref 81), some (.int v1), some (.int v2), some (.int v3)] [.ref 81] X) : Ev g mX3_readPart d n n post n 118 [some (.ref 81), some (.int v1), some (.int v2), some (.int v3)] [.int s0] X := by
  refine ev_ifF (tgt := 128) dX3_readPart_118 (by decide) c0 ?_
  refine ev_aload_n dX3_readPart_121 rfl ?_
  exact k
theorem bX3_readPart_118_1 {g : GG} {d n : Nat} {post : Option Value → LX → Prop} {X : LX} (hn : 146 ≤ n) (hX : Sh n X) {v1 : Int32} {v2 : Int32} {v3 : Int32} {s0 : Int32} (c0 : s0 = 0) (k : Ev g mX3_readPart d n n post n 129 [some (.ref 81), some (.int v1), some (.int v2), some (.int v3)] [.ref 81] X) : Ev g mX3_readPart d n n post n 118 [some (.ref 81), some (.int v1), some (.int v2), some (.int v3)] [.int s0] X := by
  refine ev_ifT (tgt := 128) dX3_readPart_118 (by decide) c0 ?_
  refine ev_aload_n dX3_readPart_128 rfl ?_
  exact k
theorem bX3_readPart_125_0 {g : GG} {d n : Nat} {post : Option Value → LX → Prop} {X : LX} (hn : 146 ≤ n) (hX : Sh n X) {v1 : Int32} {v2 : Int32} {v3 : Int32} (hp : post none X) : Ev g mX3_readPart d n n post n 125 [some (.ref 81), some (.int v1), some (.int v2), some (.int v3)] [] X := by
  refine ev_goto (tgt := 139) dX3_readPart_125 (by decide) ?_
  exact ev_ret dX3_readPart_139 rfl hp
theorem bX3_readPart_132_0 {g : GG} {d n : Nat} {post : Option Value → LX → Prop} {X : LX} (hn : 146 ≤ n) (hX : Sh n X) {v1 : Int32} {v2 : Int32} {v3 : Int32} (hp : post none X) : Ev g mX3_readPart d n n post n 132 [some (.ref 81), some (.int v1), some (.int v2), some (.int v3)] [] X := by
  refine ev_goto (tgt := 139) dX3_readPart_132 (by decide) ?_
  exact ev_ret dX3_readPart_139 rfl hp
theorem bX3_readPart_139_0 {g : GG} {d n : Nat} {post : Option Value → LX → Prop} {X : LX} (hn : 146 ≤ n) (hX : Sh n X) {v1 : Int32} {v2 : Int32} {v3 : Int32} (hp : post none X) : Ev g mX3_readPart d n n post n 139 [some (.ref 81), some (.int v1), some (.int v2), some (.int v3)] [] X := by
  exact ev_ret dX3_readPart_139 rfl hp
theorem bX3_readTape_0_0 {g : GG} {d n : Nat} {post : Option Value → LX → Prop} {X : LX} (hn : 146 ≤ n) (hX : Sh n X)  (k : Ev g mX3_readTape d n n post n 32 [some (.ref 81)] [.ref 81] (lx_up (lx_up (lx_up (lx_up (lx_up (lx_up X 81 3 0) 81 5 0) 81 6 (-1)) 81 8 3) 81 10 0) 81 7 (rE 1000))) : Ev g mX3_readTape d n n post n 0 [some (.ref 81)] [] X := by
  refine ev_aload_n dX3_readTape_0 rfl ?_
  refine ev_iconst (v := 0) dX3_readTape_1 ki_0 ?_
  refine ev_putI dX3_readTape_2 fo_3_22 (by omega) lo_81 rfl rfl rfl ?_
  have hX1 : Sh _ (lx_up X 81 3 0) := Sh.upF hX (by rw [lo_81]; decide) (by decide)
  refine ev_aload_n dX3_readTape_5 rfl ?_
  refine ev_iconst (v := 0) dX3_readTape_6 ki_0 ?_
  refine ev_putI dX3_readTape_7 fo_3_25 (by omega) lo_81 rfl rfl rfl ?_
  have hX2 : Sh _ (lx_up (lx_up X 81 3 0) 81 5 0) := Sh.upF hX1 (by rw [lo_81]; decide) (by decide)
  refine ev_aload_n dX3_readTape_10 rfl ?_
  refine ev_iconst (v := (-1)) dX3_readTape_11 ki_m1 ?_
  refine ev_putI dX3_readTape_12 fo_3_28 (by omega) lo_81 rfl rfl rfl ?_
  have hX3 : Sh _ (lx_up (lx_up (lx_up X 81 3 0) 81 5 0) 81 6 (-1)) := Sh.upF hX2 (by rw [lo_81]; decide) (by decide)
  refine ev_aload_n dX3_readTape_15 rfl ?_
  refine ev_iconst (v := 3) dX3_readTape_16 ki_3 ?_
  refine ev_putI dX3_readTape_17 fo_3_31 (by omega) lo_81 rfl rfl rfl ?_
  have hX4 : Sh _ (lx_up (lx_up (lx_up (lx_up X 81 3 0) 81 5 0) 81 6 (-1)) 81 8 3) := Sh.upF hX3 (by rw [lo_81]; decide) (by decide)
  refine ev_aload_n dX3_readTape_20 rfl ?_
  refine ev_iconst (v := 0) dX3_readTape_21 ki_0 ?_
  refine ev_putI dX3_readTape_22 fo_3_34 (by omega) lo_81 rfl rfl rfl ?_
  have hX5 : Sh _ (lx_up (lx_up (lx_up (lx_up (lx_up X 81 3 0) 81 5 0) 81 6 (-1)) 81 8 3) 81 10 0) := Sh.upF hX4 (by rw [lo_81]; decide) (by decide)
  refine ev_aload_n dX3_readTape_25 rfl ?_
  refine ev_ldcS (t := 0) dX3_readTape_26 sw_3_37 rfl rfl rfl ?_
  refine ev_putR dX3_readTape_28 fo_3_39 (by omega) lo_81 rfl (Or.inl ⟨_, rfl⟩) (Or.inl rfl) (by omega) ?_
  have hX6 : Sh _ (lx_up (lx_up (lx_up (lx_up (lx_up (lx_up X 81 3 0) 81 5 0) 81 6 (-1)) 81 8 3) 81 10 0) 81 7 (rE 1000)) := Sh.upF hX5 (by rw [lo_81]; decide) (by decide)
  refine ev_aload_n dX3_readTape_31 rfl ?_
  exact k
theorem bX3_readTape_35_0 {g : GG} {d n : Nat} {post : Option Value → LX → Prop} {X : LX} (hn : 146 ≤ n) (hX : Sh n X)  (k : Ev g mX3_readTape d n n post n 38 [some (.ref 81)] [.ref 1001, .ref 81] X) : Ev g mX3_readTape d n n post n 35 [some (.ref 81)] [] X := by
  refine ev_aload_n dX3_readTape_35 rfl ?_
  refine ev_ldcS (t := 1) dX3_readTape_36 sw_3_46 rfl rfl rfl ?_
  exact k
theorem bX3_readTape_41_0 {g : GG} {d n : Nat} {post : Option Value → LX → Prop} {X : LX} (hn : 146 ≤ n) (hX : Sh n X)  (k : Ev g mX3_readTape d n n post n 45 [some (.ref 81)] [.int 0, .int 0, .int 0, .ref 81] X) : Ev g mX3_readTape d n n post n 41 [some (.ref 81)] [] X := by
  refine ev_aload_n dX3_readTape_41 rfl ?_
  refine ev_iconst (v := 0) dX3_readTape_42 ki_0 ?_
  refine ev_iconst (v := 0) dX3_readTape_43 ki_0 ?_
  refine ev_iconst (v := 0) dX3_readTape_44 ki_0 ?_
  exact k
theorem bX3_readTape_48_0 {g : GG} {d n : Nat} {post : Option Value → LX → Prop} {X : LX} (hn : 146 ≤ n) (hX : Sh n X)  (k : Ev g mX3_readTape d n n post n 65 [some (.ref 81)] [.ref 1011, .ref 81] (lx_up (lx_up X 81 4 (X 81 3)) 81 7 (rE 1010))) : Ev g mX3_readTape d n n post n 48 [some (.ref 81)] [] X := by
  refine ev_aload_n dX3_readTape_48 rfl ?_
  refine ev_aload_n dX3_readTape_49 rfl ?_
  refine ev_getI dX3_readTape_50 fo_3_22 (by omega) lo_81 rfl ?_
  refine ev_putI dX3_readTape_53 fo_3_56 (by omega) lo_81 rfl rfl rfl ?_
  have hX1 : Sh _ (lx_up X 81 4 (X 81 3)) := Sh.upF hX (by rw [lo_81]; decide) (by decide)
  refine ev_aload_n dX3_readTape_56 rfl ?_
  refine ev_ldcS (t := 10) dX3_readTape_57 sw_3_59 rfl rfl rfl ?_
  refine ev_putR dX3_readTape_59 fo_3_39 (by omega) lo_81 rfl (Or.inl ⟨_, rfl⟩) (Or.inl rfl) (by omega) ?_
  have hX2 : Sh _ (lx_up (lx_up X 81 4 (X 81 3)) 81 7 (rE 1010)) := Sh.upF hX1 (by rw [lo_81]; decide) (by decide)
  refine ev_aload_n dX3_readTape_62 rfl ?_
  refine ev_ldcS (t := 11) dX3_readTape_63 sw_3_61 rfl rfl rfl ?_
  exact k
theorem bX3_readTape_68_0 {g : GG} {d n : Nat} {post : Option Value → LX → Prop} {X : LX} (hn : 146 ≤ n) (hX : Sh n X)  (k : Ev g mX3_readTape d n n post n 72 [some (.ref 81)] [.int 0, .int 0, .int 0, .ref 81] X) : Ev g mX3_readTape d n n post n 68 [some (.ref 81)] [] X := by
  refine ev_aload_n dX3_readTape_68 rfl ?_
  refine ev_iconst (v := 0) dX3_readTape_69 ki_0 ?_
  refine ev_iconst (v := 0) dX3_readTape_70 ki_0 ?_
  refine ev_iconst (v := 0) dX3_readTape_71 ki_0 ?_
  exact k
theorem bX3_readTape_75_0 {g : GG} {d n : Nat} {post : Option Value → LX → Prop} {X : LX} (hn : 146 ≤ n) (hX : Sh n X)  (c0 : ¬ X 81 8 = 0) (k : Ev g mX3_readTape d n n post n 83 [some (.ref 81)] [.ref 81] X) : Ev g mX3_readTape d n n post n 75 [some (.ref 81)] [] X := by
  refine ev_aload_n dX3_readTape_75 rfl ?_
  refine ev_getI dX3_readTape_76 fo_3_31 (by omega) lo_81 rfl ?_
  refine ev_ifF (tgt := 86) dX3_readTape_79 (by decide) c0 ?_
  refine ev_aload_n dX3_readTape_82 rfl ?_
  exact k
theorem bX3_readTape_75_1 {g : GG} {d n : Nat} {post : Option Value → LX → Prop} {X : LX} (hn : 146 ≤ n) (hX : Sh n X)  (c0 : X 81 8 = 0) (hp : post none X) : Ev g mX3_readTape d n n post n 75 [some (.ref 81)] [] X := by
  refine ev_aload_n dX3_readTape_75 rfl ?_
  refine ev_getI dX3_readTape_76 fo_3_31 (by omega) lo_81 rfl ?_
  refine ev_ifT (tgt := 86) dX3_readTape_79 (by decide) c0 ?_
  exact ev_ret dX3_readTape_86 rfl hp
theorem bX3_readTape_86_0 {g : GG} {d n : Nat} {post : Option Value → LX → Prop} {X : LX} (hn : 146 ≤ n) (hX : Sh n X)  (hp : post none X) : Ev g mX3_readTape d n n post n 86 [some (.ref 81)] [] X := by
  exact ev_ret dX3_readTape_86 rfl hp
theorem bX12_next_0_0 {g : GG} {d n : Nat} {post : Option Value → LX → Prop} {X : LX} (hn : 146 ≤ n) (hX : Sh n X)  (c0 : ¬ X 133 12 = 1) (c1 : X 133 12 = 2) (k : Ev g mX12_next d n n post n 35 [some (.ref 133), some (.int 1), some (.int (X 133 11))] [] (lx_up X 133 10 (X 133 11))) : Ev g mX12_next d n n post n 0 [some (.ref 133), none, none] [] X := by
  refine ev_aload_n dX12_next_0 rfl ?_
  refine ev_getI dX12_next_1 fo_12_125 (by omega) lo_133 rfl ?_
  refine ev_iconst (v := 1) dX12_next_4 ki_1 ?_
  refine ev_icmpF (tgt := 16) dX12_next_5 (by decide) c0 ?_
  refine ev_aload_n dX12_next_8 rfl ?_
  refine ev_getI dX12_next_9 fo_12_125 (by omega) lo_133 rfl ?_
  refine ev_iconst (v := 2) dX12_next_12 ki_2 ?_
  refine ev_icmpF (tgt := 20) dX12_next_13 (by decide) c1 ?_
  refine ev_iconst (v := 1) dX12_next_16 ki_1 ?_
  refine ev_goto (tgt := 21) dX12_next_17 (by decide) ?_
  refine ev_istore_n dX12_next_21 (by decide) ?_
  refine ev_aload_n dX12_next_22 rfl ?_
  refine ev_getI dX12_next_23 fo_12_128 (by omega) lo_133 rfl ?_
  refine ev_istore_n dX12_next_26 (by decide) ?_
  refine ev_aload_n dX12_next_27 rfl ?_
  refine ev_aload_n dX12_next_28 rfl ?_
  refine ev_getI dX12_next_29 fo_12_128 (by omega) lo_133 rfl ?_
  refine ev_putI dX12_next_32 fo_12_131 (by omega) lo_133 rfl rfl rfl ?_
  have hX1 : Sh _ (lx_up X 133 10 (X 133 11)) := Sh.upF hX (by rw [lo_133]; decide) (by decide)
  exact k
theorem bX12_next_0_1 {g : GG} {d n : Nat} {post : Option Value → LX → Prop} {X : LX} (hn : 146 ≤ n) (hX : Sh n X)  (c0 : ¬ X 133 12 = 1) (c1 : ¬ X 133 12 = 2) (k : Ev g mX12_next d n n post n 35 [some (.ref 133), some (.int 0), some (.int (X 133 11))] [] (lx_up X 133 10 (X 133 11))) : Ev g mX12_next d n n post n 0 [some (.ref 133), none, none] [] X := by
  refine ev_aload_n dX12_next_0 rfl ?_
  refine ev_getI dX12_next_1 fo_12_125 (by omega) lo_133 rfl ?_
  refine ev_iconst (v := 1) dX12_next_4 ki_1 ?_
  refine ev_icmpF (tgt := 16) dX12_next_5 (by decide) c0 ?_
  refine ev_aload_n dX12_next_8 rfl ?_
  refine ev_getI dX12_next_9 fo_12_125 (by omega) lo_133 rfl ?_
  refine ev_iconst (v := 2) dX12_next_12 ki_2 ?_
  refine ev_icmpT (tgt := 20) dX12_next_13 (by decide) c1 ?_
  refine ev_iconst (v := 0) dX12_next_20 ki_0 ?_
  refine ev_istore_n dX12_next_21 (by decide) ?_
  refine ev_aload_n dX12_next_22 rfl ?_
  refine ev_getI dX12_next_23 fo_12_128 (by omega) lo_133 rfl ?_
  refine ev_istore_n dX12_next_26 (by decide) ?_
  refine ev_aload_n dX12_next_27 rfl ?_
  refine ev_aload_n dX12_next_28 rfl ?_
  refine ev_getI dX12_next_29 fo_12_128 (by omega) lo_133 rfl ?_
  refine ev_putI dX12_next_32 fo_12_131 (by omega) lo_133 rfl rfl rfl ?_
  have hX1 : Sh _ (lx_up X 133 10 (X 133 11)) := Sh.upF hX (by rw [lo_133]; decide) (by decide)
  exact k
theorem bX12_next_0_2 {g : GG} {d n : Nat} {post : Option Value → LX → Prop} {X : LX} (hn : 146 ≤ n) (hX : Sh n X)  (c0 : X 133 12 = 1) (k : Ev g mX12_next d n n post n 35 [some (.ref 133), some (.int 1), some (.int (X 133 11))] [] (lx_up X 133 10 (X 133 11))) : Ev g mX12_next d n n post n 0 [some (.ref 133), none, none] [] X := by
  refine ev_aload_n dX12_next_0 rfl ?_
  refine ev_getI dX12_next_1 fo_12_125 (by omega) lo_133 rfl ?_
  refine ev_iconst (v := 1) dX12_next_4 ki_1 ?_
  refine ev_icmpT (tgt := 16) dX12_next_5 (by decide) c0 ?_
  refine ev_iconst (v := 1) dX12_next_16 ki_1 ?_
  refine ev_goto (tgt := 21) dX12_next_17 (by decide) ?_
  refine ev_istore_n dX12_next_21 (by decide) ?_
  refine ev_aload_n dX12_next_22 rfl ?_
  refine ev_getI dX12_next_23 fo_12_128 (by omega) lo_133 rfl ?_
  refine ev_istore_n dX12_next_26 (by decide) ?_
  refine ev_aload_n dX12_next_27 rfl ?_
  refine ev_aload_n dX12_next_28 rfl ?_
  refine ev_getI dX12_next_29 fo_12_128 (by omega) lo_133 rfl ?_
  refine ev_putI dX12_next_32 fo_12_131 (by omega) lo_133 rfl rfl rfl ?_
  have hX1 : Sh _ (lx_up X 133 10 (X 133 11)) := Sh.upF hX (by rw [lo_133]; decide) (by decide)
  exact k
theorem bX12_next_35_0 {g : GG} {d n : Nat} {post : Option Value → LX → Prop} {X : LX} (hn : 146 ≤ n) (hX : Sh n X) {v1 : Int32} {v2 : Int32} {j1 : Nat} (c0 : ¬ X 133 4 ≤ X 133 10) (hj1 : X 133 10 = nI j1) (b0 : j1 < 120) (c1 : X 136 j1 = 32) (k : Ev g mX12_next d n n post n 35 [some (.ref 133), some (.int v1), some (.int v2)] [] (lx_up X 133 10 ((X 133 10) + 1))) : Ev g mX12_next d n n post n 35 [some (.ref 133), some (.int v1), some (.int v2)] [] X := by
  refine ev_aload_n dX12_next_35 rfl ?_
  refine ev_getI dX12_next_36 fo_12_131 (by omega) lo_133 rfl ?_
  refine ev_aload_n dX12_next_39 rfl ?_
  refine ev_getI dX12_next_40 fo_12_121 (by omega) lo_133 rfl ?_
  refine ev_icmpF (tgt := 73) dX12_next_43 (by decide) c0 ?_
  refine ev_aload_n dX12_next_46 rfl ?_
  refine ev_getS (q := 136) dX12_next_47 fo_12_16 (by omega) lo_133 rfl (sh_133_3 hX (by omega)) (by decide) ?_
  refine ev_aload_n dX12_next_50 rfl ?_
  refine ev_getI dX12_next_51 fo_12_131 (by omega) lo_133 rfl ?_
  refine ev_iald dX12_next_54 (by omega) ly_136 hj1 b0 ?_
  refine ev_bipush (v := 32) dX12_next_55 kb_32 ?_
  refine ev_icmpF (tgt := 73) dX12_next_57 (by decide) c1 ?_
  refine ev_aload_n dX12_next_60 rfl ?_
  refine ev_dup dX12_next_61 rfl ?_
  refine ev_getI dX12_next_62 fo_12_131 (by omega) lo_133 rfl ?_
  refine ev_iconst (v := 1) dX12_next_65 ki_1 ?_
  refine ev_iadd dX12_next_66 ?_
  refine ev_putI dX12_next_67 fo_12_131 (by omega) lo_133 rfl rfl rfl ?_
  have hX1 : Sh _ (lx_up X 133 10 ((X 133 10) + 1)) := Sh.upF hX (by rw [lo_133]; decide) (by decide)
  refine ev_goto (tgt := 35) dX12_next_70 (by decide) ?_
  exact k
theorem bX12_next_35_1 {g : GG} {d n : Nat} {post : Option Value → LX → Prop} {X : LX} (hn : 146 ≤ n) (hX : Sh n X) {v1 : Int32} {v2 : Int32} {j1 : Nat} (c0 : ¬ X 133 4 ≤ X 133 10) (hj1 : X 133 10 = nI j1) (b0 : j1 < 120) (c1 : ¬ X 136 j1 = 32) (k : Ev g mX12_next d n n post n 73 [some (.ref 133), some (.int v1), some (.int v2)] [] X) : Ev g mX12_next d n n post n 35 [some (.ref 133), some (.int v1), some (.int v2)] [] X := by
  refine ev_aload_n dX12_next_35 rfl ?_
  refine ev_getI dX12_next_36 fo_12_131 (by omega) lo_133 rfl ?_
  refine ev_aload_n dX12_next_39 rfl ?_
  refine ev_getI dX12_next_40 fo_12_121 (by omega) lo_133 rfl ?_
  refine ev_icmpF (tgt := 73) dX12_next_43 (by decide) c0 ?_
  refine ev_aload_n dX12_next_46 rfl ?_
  refine ev_getS (q := 136) dX12_next_47 fo_12_16 (by omega) lo_133 rfl (sh_133_3 hX (by omega)) (by decide) ?_
  refine ev_aload_n dX12_next_50 rfl ?_
  refine ev_getI dX12_next_51 fo_12_131 (by omega) lo_133 rfl ?_
  refine ev_iald dX12_next_54 (by omega) ly_136 hj1 b0 ?_
  refine ev_bipush (v := 32) dX12_next_55 kb_32 ?_
  refine ev_icmpT (tgt := 73) dX12_next_57 (by decide) c1 ?_
  exact k
theorem bX12_next_35_2 {g : GG} {d n : Nat} {post : Option Value → LX → Prop} {X : LX} (hn : 146 ≤ n) (hX : Sh n X) {v1 : Int32} {v2 : Int32} (c0 : X 133 4 ≤ X 133 10) (k : Ev g mX12_next d n n post n 73 [some (.ref 133), some (.int v1), some (.int v2)] [] X) : Ev g mX12_next d n n post n 35 [some (.ref 133), some (.int v1), some (.int v2)] [] X := by
  refine ev_aload_n dX12_next_35 rfl ?_
  refine ev_getI dX12_next_36 fo_12_131 (by omega) lo_133 rfl ?_
  refine ev_aload_n dX12_next_39 rfl ?_
  refine ev_getI dX12_next_40 fo_12_121 (by omega) lo_133 rfl ?_
  refine ev_icmpT (tgt := 73) dX12_next_43 (by decide) c0 ?_
  exact k
theorem bX12_next_73_0 {g : GG} {d n : Nat} {post : Option Value → LX → Prop} {X : LX} (hn : 146 ≤ n) (hX : Sh n X) {v1 : Int32} {v2 : Int32} (c0 : X 133 10 = X 133 4) (hp : post none (lx_up (lx_up X 133 11 (X 133 10)) 133 12 0)) : Ev g mX12_next d n n post n 73 [some (.ref 133), some (.int v1), some (.int v2)] [] X := by
  refine ev_aload_n dX12_next_73 rfl ?_
  refine ev_aload_n dX12_next_74 rfl ?_
  refine ev_getI dX12_next_75 fo_12_131 (by omega) lo_133 rfl ?_
  refine ev_putI dX12_next_78 fo_12_128 (by omega) lo_133 rfl rfl rfl ?_
  have hX1 : Sh _ (lx_up X 133 11 (X 133 10)) := Sh.upF hX (by rw [lo_133]; decide) (by decide)
  refine ev_aload_n dX12_next_81 rfl ?_
  refine ev_getI dX12_next_82 fo_12_131 (by omega) lo_133 rfl ?_
  refine ev_aload_n dX12_next_85 rfl ?_
  refine ev_getI dX12_next_86 fo_12_121 (by omega) lo_133 rfl ?_
  refine ev_icmpF (tgt := 98) dX12_next_89 (by decide) c0 ?_
  refine ev_aload_n dX12_next_92 rfl ?_
  refine ev_iconst (v := 0) dX12_next_93 ki_0 ?_
  refine ev_putI dX12_next_94 fo_12_125 (by omega) lo_133 rfl rfl rfl ?_
  have hX2 : Sh _ (lx_up (lx_up X 133 11 (X 133 10)) 133 12 0) := Sh.upF hX1 (by rw [lo_133]; decide) (by decide)
  exact ev_ret dX12_next_97 rfl hp
theorem bX12_next_73_1 {g : GG} {d n : Nat} {post : Option Value → LX → Prop} {X : LX} (hd : 2 ≤ d) (hn : 146 ≤ n) (hX : Sh n X) {v1 : Int32} {v2 : Int32} {j1 : Nat} (c0 : ¬ X 133 10 = X 133 4) (hj1 : X 133 10 = nI j1) (c1 : j1 ≤ 120) (c2 : (lx_up X 133 11 (X 133 10)) 133 4 ≤ 120) (c3 : nI j1 < (lx_up X 133 11 (X 133 10)) 133 4 ∧ 97 ≤ (lx_up X 133 11 (X 133 10)) 136 j1 ∧ (lx_up X 133 11 (X 133 10)) 136 j1 ≤ 122) (k : Ev g mX12_next d n n post n 133 [some (.ref 133), some (.int v1), some (.int v2)] [] (lx_up (lx_up X 133 11 (X 133 10)) 133 12 1)) : Ev g mX12_next d n n post n 73 [some (.ref 133), some (.int v1), some (.int v2)] [] X := by
  refine ev_aload_n dX12_next_73 rfl ?_
  refine ev_aload_n dX12_next_74 rfl ?_
  refine ev_getI dX12_next_75 fo_12_131 (by omega) lo_133 rfl ?_
  refine ev_putI dX12_next_78 fo_12_128 (by omega) lo_133 rfl rfl rfl ?_
  have hX1 : Sh _ (lx_up X 133 11 (X 133 10)) := Sh.upF hX (by rw [lo_133]; decide) (by decide)
  refine ev_aload_n dX12_next_81 rfl ?_
  refine ev_getI dX12_next_82 fo_12_131 (by omega) lo_133 rfl ?_
  refine ev_aload_n dX12_next_85 rfl ?_
  refine ev_getI dX12_next_86 fo_12_121 (by omega) lo_133 rfl ?_
  refine ev_icmpT (tgt := 98) dX12_next_89 (by decide) c0 ?_
  refine ev_aload_n dX12_next_98 rfl ?_
  refine ev_aload_n dX12_next_99 rfl ?_
  refine ev_aload_n dX12_next_100 rfl ?_
  refine ev_getI dX12_next_101 fo_12_131 (by omega) lo_133 rfl ?_
  refine e_Vi (as := [.int (X 133 10)]) (rest := [.ref 133]) dX12_next_104 vX12_isLetter ml_12_134 isX12_isLetter seX12_isLetter npX12_isLetter (rc_133 (by omega)) (by decide) rfl (Nat.le_of_ble_eq_true rfl) (by omega) (ex_a1 hj1 (t_X12_isLetter (d := d - 1) (by omega) (by omega) hX1 c1 c2 c3)) ?_
  refine ev_ifF (tgt := 114) dX12_next_107 (by decide) (by show ¬ (1 : Int32) = 0; decide) ?_
  refine ev_iconst (v := 1) dX12_next_110 ki_1 ?_
  refine ev_goto (tgt := 130) dX12_next_111 (by decide) ?_
  refine ev_putI dX12_next_130 fo_12_125 (by omega) lo_133 rfl rfl rfl ?_
  have hX2 : Sh _ (lx_up (lx_up X 133 11 (X 133 10)) 133 12 1) := Sh.upF hX1 (by rw [lo_133]; decide) (by decide)
  exact k
theorem bX12_next_73_2 {g : GG} {d n : Nat} {post : Option Value → LX → Prop} {X : LX} (hd : 2 ≤ d) (hn : 146 ≤ n) (hX : Sh n X) {v1 : Int32} {v2 : Int32} {j1 : Nat} (c0 : ¬ X 133 10 = X 133 4) (hj1 : X 133 10 = nI j1) (c1 : j1 ≤ 120) (c2 : (lx_up X 133 11 (X 133 10)) 133 4 ≤ 120) (c3 : ¬ (nI j1 < (lx_up X 133 11 (X 133 10)) 133 4 ∧ 97 ≤ (lx_up X 133 11 (X 133 10)) 136 j1 ∧ (lx_up X 133 11 (X 133 10)) 136 j1 ≤ 122)) (c4 : nI j1 < (lx_up X 133 11 (X 133 10)) 133 4 ∧ 48 ≤ (lx_up X 133 11 (X 133 10)) 136 j1 ∧ (lx_up X 133 11 (X 133 10)) 136 j1 ≤ 57) (k : Ev g mX12_next d n n post n 133 [some (.ref 133), some (.int v1), some (.int v2)] [] (lx_up (lx_up X 133 11 (X 133 10)) 133 12 2)) : Ev g mX12_next d n n post n 73 [some (.ref 133), some (.int v1), some (.int v2)] [] X := by
  refine ev_aload_n dX12_next_73 rfl ?_
  refine ev_aload_n dX12_next_74 rfl ?_
  refine ev_getI dX12_next_75 fo_12_131 (by omega) lo_133 rfl ?_
  refine ev_putI dX12_next_78 fo_12_128 (by omega) lo_133 rfl rfl rfl ?_
  have hX1 : Sh _ (lx_up X 133 11 (X 133 10)) := Sh.upF hX (by rw [lo_133]; decide) (by decide)
  refine ev_aload_n dX12_next_81 rfl ?_
  refine ev_getI dX12_next_82 fo_12_131 (by omega) lo_133 rfl ?_
  refine ev_aload_n dX12_next_85 rfl ?_
  refine ev_getI dX12_next_86 fo_12_121 (by omega) lo_133 rfl ?_
  refine ev_icmpT (tgt := 98) dX12_next_89 (by decide) c0 ?_
  refine ev_aload_n dX12_next_98 rfl ?_
  refine ev_aload_n dX12_next_99 rfl ?_
  refine ev_aload_n dX12_next_100 rfl ?_
  refine ev_getI dX12_next_101 fo_12_131 (by omega) lo_133 rfl ?_
  refine e_Vi (as := [.int (X 133 10)]) (rest := [.ref 133]) dX12_next_104 vX12_isLetter ml_12_134 isX12_isLetter seX12_isLetter npX12_isLetter (rc_133 (by omega)) (by decide) rfl (Nat.le_of_ble_eq_true rfl) (by omega) (ex_a1 hj1 (f_X12_isLetter (d := d - 1) (by omega) (by omega) hX1 c1 c2 c3)) ?_
  refine ev_ifT (tgt := 114) dX12_next_107 (by decide) (by show (0 : Int32) = 0; decide) ?_
  refine ev_aload_n dX12_next_114 rfl ?_
  refine ev_aload_n dX12_next_115 rfl ?_
  refine ev_getI dX12_next_116 fo_12_131 (by omega) lo_133 rfl ?_
  refine e_Vi (as := [.int (X 133 10)]) (rest := [.ref 133]) dX12_next_119 vX12_isDigit ml_12_137 isX12_isDigit seX12_isDigit npX12_isDigit (rc_133 (by omega)) (by decide) rfl (Nat.le_of_ble_eq_true rfl) (by omega) (ex_a1 hj1 (t_X12_isDigit (d := d - 1) (by omega) (by omega) hX1 c1 c2 c4)) ?_
  refine ev_ifF (tgt := 129) dX12_next_122 (by decide) (by show ¬ (1 : Int32) = 0; decide) ?_
  refine ev_iconst (v := 2) dX12_next_125 ki_2 ?_
  refine ev_goto (tgt := 130) dX12_next_126 (by decide) ?_
  refine ev_putI dX12_next_130 fo_12_125 (by omega) lo_133 rfl rfl rfl ?_
  have hX2 : Sh _ (lx_up (lx_up X 133 11 (X 133 10)) 133 12 2) := Sh.upF hX1 (by rw [lo_133]; decide) (by decide)
  exact k
theorem bX12_next_73_3 {g : GG} {d n : Nat} {post : Option Value → LX → Prop} {X : LX} (hd : 2 ≤ d) (hn : 146 ≤ n) (hX : Sh n X) {v1 : Int32} {v2 : Int32} {j1 : Nat} (c0 : ¬ X 133 10 = X 133 4) (hj1 : X 133 10 = nI j1) (c1 : j1 ≤ 120) (c2 : (lx_up X 133 11 (X 133 10)) 133 4 ≤ 120) (c3 : ¬ (nI j1 < (lx_up X 133 11 (X 133 10)) 133 4 ∧ 97 ≤ (lx_up X 133 11 (X 133 10)) 136 j1 ∧ (lx_up X 133 11 (X 133 10)) 136 j1 ≤ 122)) (c4 : ¬ (nI j1 < (lx_up X 133 11 (X 133 10)) 133 4 ∧ 48 ≤ (lx_up X 133 11 (X 133 10)) 136 j1 ∧ (lx_up X 133 11 (X 133 10)) 136 j1 ≤ 57)) (k : Ev g mX12_next d n n post n 133 [some (.ref 133), some (.int v1), some (.int v2)] [] (lx_up (lx_up X 133 11 (X 133 10)) 133 12 3)) : Ev g mX12_next d n n post n 73 [some (.ref 133), some (.int v1), some (.int v2)] [] X := by
  refine ev_aload_n dX12_next_73 rfl ?_
  refine ev_aload_n dX12_next_74 rfl ?_
  refine ev_getI dX12_next_75 fo_12_131 (by omega) lo_133 rfl ?_
  refine ev_putI dX12_next_78 fo_12_128 (by omega) lo_133 rfl rfl rfl ?_
  have hX1 : Sh _ (lx_up X 133 11 (X 133 10)) := Sh.upF hX (by rw [lo_133]; decide) (by decide)
  refine ev_aload_n dX12_next_81 rfl ?_
  refine ev_getI dX12_next_82 fo_12_131 (by omega) lo_133 rfl ?_
  refine ev_aload_n dX12_next_85 rfl ?_
  refine ev_getI dX12_next_86 fo_12_121 (by omega) lo_133 rfl ?_
  refine ev_icmpT (tgt := 98) dX12_next_89 (by decide) c0 ?_
  refine ev_aload_n dX12_next_98 rfl ?_
  refine ev_aload_n dX12_next_99 rfl ?_
  refine ev_aload_n dX12_next_100 rfl ?_
  refine ev_getI dX12_next_101 fo_12_131 (by omega) lo_133 rfl ?_
  refine e_Vi (as := [.int (X 133 10)]) (rest := [.ref 133]) dX12_next_104 vX12_isLetter ml_12_134 isX12_isLetter seX12_isLetter npX12_isLetter (rc_133 (by omega)) (by decide) rfl (Nat.le_of_ble_eq_true rfl) (by omega) (ex_a1 hj1 (f_X12_isLetter (d := d - 1) (by omega) (by omega) hX1 c1 c2 c3)) ?_
  refine ev_ifT (tgt := 114) dX12_next_107 (by decide) (by show (0 : Int32) = 0; decide) ?_
  refine ev_aload_n dX12_next_114 rfl ?_
  refine ev_aload_n dX12_next_115 rfl ?_
  refine ev_getI dX12_next_116 fo_12_131 (by omega) lo_133 rfl ?_
  refine e_Vi (as := [.int (X 133 10)]) (rest := [.ref 133]) dX12_next_119 vX12_isDigit ml_12_137 isX12_isDigit seX12_isDigit npX12_isDigit (rc_133 (by omega)) (by decide) rfl (Nat.le_of_ble_eq_true rfl) (by omega) (ex_a1 hj1 (f_X12_isDigit (d := d - 1) (by omega) (by omega) hX1 c1 c2 c4)) ?_
  refine ev_ifT (tgt := 129) dX12_next_122 (by decide) (by show (0 : Int32) = 0; decide) ?_
  refine ev_iconst (v := 3) dX12_next_129 ki_3 ?_
  refine ev_putI dX12_next_130 fo_12_125 (by omega) lo_133 rfl rfl rfl ?_
  have hX2 : Sh _ (lx_up (lx_up X 133 11 (X 133 10)) 133 12 3) := Sh.upF hX1 (by rw [lo_133]; decide) (by decide)
  exact k
theorem bX12_next_133_0 {g : GG} {d n : Nat} {post : Option Value → LX → Prop} {X : LX} (hn : 146 ≤ n) (hX : Sh n X) {v1 : Int32} {v2 : Int32} (k : Ev g mX12_next d n n post n 143 [some (.ref 133), some (.int v1), some (.int v2)] [] (lx_up X 133 11 ((X 133 11) + 1))) : Ev g mX12_next d n n post n 133 [some (.ref 133), some (.int v1), some (.int v2)] [] X := by
  refine ev_aload_n dX12_next_133 rfl ?_
  refine ev_dup dX12_next_134 rfl ?_
  refine ev_getI dX12_next_135 fo_12_128 (by omega) lo_133 rfl ?_
  refine ev_iconst (v := 1) dX12_next_138 ki_1 ?_
  refine ev_iadd dX12_next_139 ?_
  refine ev_putI dX12_next_140 fo_12_128 (by omega) lo_133 rfl rfl rfl ?_
  have hX1 : Sh _ (lx_up X 133 11 ((X 133 11) + 1)) := Sh.upF hX (by rw [lo_133]; decide) (by decide)
  exact k
theorem bX12_next_143_0 {g : GG} {d n : Nat} {post : Option Value → LX → Prop} {X : LX} (hd : 2 ≤ d) (hn : 146 ≤ n) (hX : Sh n X) {v1 : Int32} {v2 : Int32} {j1 : Nat} (c0 : X 133 12 = 1) (hj1 : X 133 11 = nI j1) (c1 : j1 ≤ 120) (c2 : X 133 4 ≤ 120) (c3 : nI j1 < X 133 4 ∧ 97 ≤ X 136 j1 ∧ X 136 j1 ≤ 122) (k : Ev g mX12_next d n n post n 143 [some (.ref 133), some (.int v1), some (.int v2)] [] (lx_up X 133 11 ((X 133 11) + 1))) : Ev g mX12_next d n n post n 143 [some (.ref 133), some (.int v1), some (.int v2)] [] X := by
  refine ev_aload_n dX12_next_143 rfl ?_
  refine ev_getI dX12_next_144 fo_12_125 (by omega) lo_133 rfl ?_
  refine ev_iconst (v := 1) dX12_next_147 ki_1 ?_
  refine ev_icmpF (tgt := 162) dX12_next_148 (by decide) c0 ?_
  refine ev_aload_n dX12_next_151 rfl ?_
  refine ev_aload_n dX12_next_152 rfl ?_
  refine ev_getI dX12_next_153 fo_12_128 (by omega) lo_133 rfl ?_
  refine e_Vi (as := [.int (X 133 11)]) (rest := []) dX12_next_156 vX12_isLetter ml_12_134 isX12_isLetter seX12_isLetter npX12_isLetter (rc_133 (by omega)) (by decide) rfl (Nat.le_of_ble_eq_true rfl) (by omega) (ex_a1 hj1 (t_X12_isLetter (d := d - 1) (by omega) (by omega) hX c1 c2 c3)) ?_
  refine ev_ifT (tgt := 181) dX12_next_159 (by decide) (by show ¬ (1 : Int32) = 0; decide) ?_
  refine ev_aload_n dX12_next_181 rfl ?_
  refine ev_dup dX12_next_182 rfl ?_
  refine ev_getI dX12_next_183 fo_12_128 (by omega) lo_133 rfl ?_
  refine ev_iconst (v := 1) dX12_next_186 ki_1 ?_
  refine ev_iadd dX12_next_187 ?_
  refine ev_putI dX12_next_188 fo_12_128 (by omega) lo_133 rfl rfl rfl ?_
  have hX1 : Sh _ (lx_up X 133 11 ((X 133 11) + 1)) := Sh.upF hX (by rw [lo_133]; decide) (by decide)
  refine ev_goto (tgt := 143) dX12_next_191 (by decide) ?_
  exact k
theorem bX12_next_143_1 {g : GG} {d n : Nat} {post : Option Value → LX → Prop} {X : LX} (hd : 2 ≤ d) (hn : 146 ≤ n) (hX : Sh n X) {v1 : Int32} {v2 : Int32} {j1 : Nat} (c0 : X 133 12 = 1) (hj1 : X 133 11 = nI j1) (c1 : j1 ≤ 120) (c2 : X 133 4 ≤ 120) (c3 : ¬ (nI j1 < X 133 4 ∧ 97 ≤ X 136 j1 ∧ X 136 j1 ≤ 122)) (c4 : X 133 12 = 2) (c5 : nI j1 < X 133 4 ∧ 48 ≤ X 136 j1 ∧ X 136 j1 ≤ 57) (k : Ev g mX12_next d n n post n 143 [some (.ref 133), some (.int v1), some (.int v2)] [] (lx_up X 133 11 ((X 133 11) + 1))) : Ev g mX12_next d n n post n 143 [some (.ref 133), some (.int v1), some (.int v2)] [] X := by
  refine ev_aload_n dX12_next_143 rfl ?_
  refine ev_getI dX12_next_144 fo_12_125 (by omega) lo_133 rfl ?_
  refine ev_iconst (v := 1) dX12_next_147 ki_1 ?_
  refine ev_icmpF (tgt := 162) dX12_next_148 (by decide) c0 ?_
  refine ev_aload_n dX12_next_151 rfl ?_
  refine ev_aload_n dX12_next_152 rfl ?_
  refine ev_getI dX12_next_153 fo_12_128 (by omega) lo_133 rfl ?_
  refine e_Vi (as := [.int (X 133 11)]) (rest := []) dX12_next_156 vX12_isLetter ml_12_134 isX12_isLetter seX12_isLetter npX12_isLetter (rc_133 (by omega)) (by decide) rfl (Nat.le_of_ble_eq_true rfl) (by omega) (ex_a1 hj1 (f_X12_isLetter (d := d - 1) (by omega) (by omega) hX c1 c2 c3)) ?_
  refine ev_ifF (tgt := 181) dX12_next_159 (by decide) (by show (0 : Int32) = 0; decide) ?_
  refine ev_aload_n dX12_next_162 rfl ?_
  refine ev_getI dX12_next_163 fo_12_125 (by omega) lo_133 rfl ?_
  refine ev_iconst (v := 2) dX12_next_166 ki_2 ?_
  refine ev_icmpF (tgt := 194) dX12_next_167 (by decide) c4 ?_
  refine ev_aload_n dX12_next_170 rfl ?_
  refine ev_aload_n dX12_next_171 rfl ?_
  refine ev_getI dX12_next_172 fo_12_128 (by omega) lo_133 rfl ?_
  refine e_Vi (as := [.int (X 133 11)]) (rest := []) dX12_next_175 vX12_isDigit ml_12_137 isX12_isDigit seX12_isDigit npX12_isDigit (rc_133 (by omega)) (by decide) rfl (Nat.le_of_ble_eq_true rfl) (by omega) (ex_a1 hj1 (t_X12_isDigit (d := d - 1) (by omega) (by omega) hX c1 c2 c5)) ?_
  refine ev_ifF (tgt := 194) dX12_next_178 (by decide) (by show ¬ (1 : Int32) = 0; decide) ?_
  refine ev_aload_n dX12_next_181 rfl ?_
  refine ev_dup dX12_next_182 rfl ?_
  refine ev_getI dX12_next_183 fo_12_128 (by omega) lo_133 rfl ?_
  refine ev_iconst (v := 1) dX12_next_186 ki_1 ?_
  refine ev_iadd dX12_next_187 ?_
  refine ev_putI dX12_next_188 fo_12_128 (by omega) lo_133 rfl rfl rfl ?_
  have hX1 : Sh _ (lx_up X 133 11 ((X 133 11) + 1)) := Sh.upF hX (by rw [lo_133]; decide) (by decide)
  refine ev_goto (tgt := 143) dX12_next_191 (by decide) ?_
  exact k
theorem bX12_next_143_2 {g : GG} {d n : Nat} {post : Option Value → LX → Prop} {X : LX} (hd : 2 ≤ d) (hn : 146 ≤ n) (hX : Sh n X) {v1 : Int32} {v2 : Int32} {j1 : Nat} (c0 : X 133 12 = 1) (hj1 : X 133 11 = nI j1) (c1 : j1 ≤ 120) (c2 : X 133 4 ≤ 120) (c3 : ¬ (nI j1 < X 133 4 ∧ 97 ≤ X 136 j1 ∧ X 136 j1 ≤ 122)) (c4 : X 133 12 = 2) (c5 : ¬ (nI j1 < X 133 4 ∧ 48 ≤ X 136 j1 ∧ X 136 j1 ≤ 57)) (k : Ev g mX12_next d n n post n 194 [some (.ref 133), some (.int v1), some (.int v2)] [] X) : Ev g mX12_next d n n post n 143 [some (.ref 133), some (.int v1), some (.int v2)] [] X := by
  refine ev_aload_n dX12_next_143 rfl ?_
  refine ev_getI dX12_next_144 fo_12_125 (by omega) lo_133 rfl ?_
  refine ev_iconst (v := 1) dX12_next_147 ki_1 ?_
  refine ev_icmpF (tgt := 162) dX12_next_148 (by decide) c0 ?_
  refine ev_aload_n dX12_next_151 rfl ?_
  refine ev_aload_n dX12_next_152 rfl ?_
  refine ev_getI dX12_next_153 fo_12_128 (by omega) lo_133 rfl ?_
  refine e_Vi (as := [.int (X 133 11)]) (rest := []) dX12_next_156 vX12_isLetter ml_12_134 isX12_isLetter seX12_isLetter npX12_isLetter (rc_133 (by omega)) (by decide) rfl (Nat.le_of_ble_eq_true rfl) (by omega) (ex_a1 hj1 (f_X12_isLetter (d := d - 1) (by omega) (by omega) hX c1 c2 c3)) ?_
  refine ev_ifF (tgt := 181) dX12_next_159 (by decide) (by show (0 : Int32) = 0; decide) ?_
  refine ev_aload_n dX12_next_162 rfl ?_
  refine ev_getI dX12_next_163 fo_12_125 (by omega) lo_133 rfl ?_
  refine ev_iconst (v := 2) dX12_next_166 ki_2 ?_
  refine ev_icmpF (tgt := 194) dX12_next_167 (by decide) c4 ?_
  refine ev_aload_n dX12_next_170 rfl ?_
  refine ev_aload_n dX12_next_171 rfl ?_
  refine ev_getI dX12_next_172 fo_12_128 (by omega) lo_133 rfl ?_
  refine e_Vi (as := [.int (X 133 11)]) (rest := []) dX12_next_175 vX12_isDigit ml_12_137 isX12_isDigit seX12_isDigit npX12_isDigit (rc_133 (by omega)) (by decide) rfl (Nat.le_of_ble_eq_true rfl) (by omega) (ex_a1 hj1 (f_X12_isDigit (d := d - 1) (by omega) (by omega) hX c1 c2 c5)) ?_
  refine ev_ifT (tgt := 194) dX12_next_178 (by decide) (by show (0 : Int32) = 0; decide) ?_
  exact k
theorem bX12_next_143_3 {g : GG} {d n : Nat} {post : Option Value → LX → Prop} {X : LX} (hd : 2 ≤ d) (hn : 146 ≤ n) (hX : Sh n X) {v1 : Int32} {v2 : Int32} {j1 : Nat} (c0 : X 133 12 = 1) (hj1 : X 133 11 = nI j1) (c1 : j1 ≤ 120) (c2 : X 133 4 ≤ 120) (c3 : ¬ (nI j1 < X 133 4 ∧ 97 ≤ X 136 j1 ∧ X 136 j1 ≤ 122)) (c4 : ¬ X 133 12 = 2) (k : Ev g mX12_next d n n post n 194 [some (.ref 133), some (.int v1), some (.int v2)] [] X) : Ev g mX12_next d n n post n 143 [some (.ref 133), some (.int v1), some (.int v2)] [] X := by
  refine ev_aload_n dX12_next_143 rfl ?_
  refine ev_getI dX12_next_144 fo_12_125 (by omega) lo_133 rfl ?_
  refine ev_iconst (v := 1) dX12_next_147 ki_1 ?_
  refine ev_icmpF (tgt := 162) dX12_next_148 (by decide) c0 ?_
  refine ev_aload_n dX12_next_151 rfl ?_
  refine ev_aload_n dX12_next_152 rfl ?_
  refine ev_getI dX12_next_153 fo_12_128 (by omega) lo_133 rfl ?_
  refine e_Vi (as := [.int (X 133 11)]) (rest := []) dX12_next_156 vX12_isLetter ml_12_134 isX12_isLetter seX12_isLetter npX12_isLetter (rc_133 (by omega)) (by decide) rfl (Nat.le_of_ble_eq_true rfl) (by omega) (ex_a1 hj1 (f_X12_isLetter (d := d - 1) (by omega) (by omega) hX c1 c2 c3)) ?_
  refine ev_ifF (tgt := 181) dX12_next_159 (by decide) (by show (0 : Int32) = 0; decide) ?_
  refine ev_aload_n dX12_next_162 rfl ?_
  refine ev_getI dX12_next_163 fo_12_125 (by omega) lo_133 rfl ?_
  refine ev_iconst (v := 2) dX12_next_166 ki_2 ?_
  refine ev_icmpT (tgt := 194) dX12_next_167 (by decide) c4 ?_
  exact k
theorem bX12_next_143_4 {g : GG} {d n : Nat} {post : Option Value → LX → Prop} {X : LX} (hd : 2 ≤ d) (hn : 146 ≤ n) (hX : Sh n X) {v1 : Int32} {v2 : Int32} {j1 : Nat} (c0 : ¬ X 133 12 = 1) (c1 : X 133 12 = 2) (hj1 : X 133 11 = nI j1) (c2 : j1 ≤ 120) (c3 : X 133 4 ≤ 120) (c4 : nI j1 < X 133 4 ∧ 48 ≤ X 136 j1 ∧ X 136 j1 ≤ 57) (k : Ev g mX12_next d n n post n 143 [some (.ref 133), some (.int v1), some (.int v2)] [] (lx_up X 133 11 ((X 133 11) + 1))) : Ev g mX12_next d n n post n 143 [some (.ref 133), some (.int v1), some (.int v2)] [] X := by
  refine ev_aload_n dX12_next_143 rfl ?_
  refine ev_getI dX12_next_144 fo_12_125 (by omega) lo_133 rfl ?_
  refine ev_iconst (v := 1) dX12_next_147 ki_1 ?_
  refine ev_icmpT (tgt := 162) dX12_next_148 (by decide) c0 ?_
  refine ev_aload_n dX12_next_162 rfl ?_
  refine ev_getI dX12_next_163 fo_12_125 (by omega) lo_133 rfl ?_
  refine ev_iconst (v := 2) dX12_next_166 ki_2 ?_
  refine ev_icmpF (tgt := 194) dX12_next_167 (by decide) c1 ?_
  refine ev_aload_n dX12_next_170 rfl ?_
  refine ev_aload_n dX12_next_171 rfl ?_
  refine ev_getI dX12_next_172 fo_12_128 (by omega) lo_133 rfl ?_
  refine e_Vi (as := [.int (X 133 11)]) (rest := []) dX12_next_175 vX12_isDigit ml_12_137 isX12_isDigit seX12_isDigit npX12_isDigit (rc_133 (by omega)) (by decide) rfl (Nat.le_of_ble_eq_true rfl) (by omega) (ex_a1 hj1 (t_X12_isDigit (d := d - 1) (by omega) (by omega) hX c2 c3 c4)) ?_
  refine ev_ifF (tgt := 194) dX12_next_178 (by decide) (by show ¬ (1 : Int32) = 0; decide) ?_
  refine ev_aload_n dX12_next_181 rfl ?_
  refine ev_dup dX12_next_182 rfl ?_
  refine ev_getI dX12_next_183 fo_12_128 (by omega) lo_133 rfl ?_
  refine ev_iconst (v := 1) dX12_next_186 ki_1 ?_
  refine ev_iadd dX12_next_187 ?_
  refine ev_putI dX12_next_188 fo_12_128 (by omega) lo_133 rfl rfl rfl ?_
  have hX1 : Sh _ (lx_up X 133 11 ((X 133 11) + 1)) := Sh.upF hX (by rw [lo_133]; decide) (by decide)
  refine ev_goto (tgt := 143) dX12_next_191 (by decide) ?_
  exact k
theorem bX12_next_143_5 {g : GG} {d n : Nat} {post : Option Value → LX → Prop} {X : LX} (hd : 2 ≤ d) (hn : 146 ≤ n) (hX : Sh n X) {v1 : Int32} {v2 : Int32} {j1 : Nat} (c0 : ¬ X 133 12 = 1) (c1 : X 133 12 = 2) (hj1 : X 133 11 = nI j1) (c2 : j1 ≤ 120) (c3 : X 133 4 ≤ 120) (c4 : ¬ (nI j1 < X 133 4 ∧ 48 ≤ X 136 j1 ∧ X 136 j1 ≤ 57)) (k : Ev g mX12_next d n n post n 194 [some (.ref 133), some (.int v1), some (.int v2)] [] X) : Ev g mX12_next d n n post n 143 [some (.ref 133), some (.int v1), some (.int v2)] [] X := by
  refine ev_aload_n dX12_next_143 rfl ?_
  refine ev_getI dX12_next_144 fo_12_125 (by omega) lo_133 rfl ?_
  refine ev_iconst (v := 1) dX12_next_147 ki_1 ?_
  refine ev_icmpT (tgt := 162) dX12_next_148 (by decide) c0 ?_
  refine ev_aload_n dX12_next_162 rfl ?_
  refine ev_getI dX12_next_163 fo_12_125 (by omega) lo_133 rfl ?_
  refine ev_iconst (v := 2) dX12_next_166 ki_2 ?_
  refine ev_icmpF (tgt := 194) dX12_next_167 (by decide) c1 ?_
  refine ev_aload_n dX12_next_170 rfl ?_
  refine ev_aload_n dX12_next_171 rfl ?_
  refine ev_getI dX12_next_172 fo_12_128 (by omega) lo_133 rfl ?_
  refine e_Vi (as := [.int (X 133 11)]) (rest := []) dX12_next_175 vX12_isDigit ml_12_137 isX12_isDigit seX12_isDigit npX12_isDigit (rc_133 (by omega)) (by decide) rfl (Nat.le_of_ble_eq_true rfl) (by omega) (ex_a1 hj1 (f_X12_isDigit (d := d - 1) (by omega) (by omega) hX c2 c3 c4)) ?_
  refine ev_ifT (tgt := 194) dX12_next_178 (by decide) (by show (0 : Int32) = 0; decide) ?_
  exact k
theorem bX12_next_143_6 {g : GG} {d n : Nat} {post : Option Value → LX → Prop} {X : LX} (hn : 146 ≤ n) (hX : Sh n X) {v1 : Int32} {v2 : Int32} (c0 : ¬ X 133 12 = 1) (c1 : ¬ X 133 12 = 2) (k : Ev g mX12_next d n n post n 194 [some (.ref 133), some (.int v1), some (.int v2)] [] X) : Ev g mX12_next d n n post n 143 [some (.ref 133), some (.int v1), some (.int v2)] [] X := by
  refine ev_aload_n dX12_next_143 rfl ?_
  refine ev_getI dX12_next_144 fo_12_125 (by omega) lo_133 rfl ?_
  refine ev_iconst (v := 1) dX12_next_147 ki_1 ?_
  refine ev_icmpT (tgt := 162) dX12_next_148 (by decide) c0 ?_
  refine ev_aload_n dX12_next_162 rfl ?_
  refine ev_getI dX12_next_163 fo_12_125 (by omega) lo_133 rfl ?_
  refine ev_iconst (v := 2) dX12_next_166 ki_2 ?_
  refine ev_icmpT (tgt := 194) dX12_next_167 (by decide) c1 ?_
  exact k
theorem bX12_next_194_0 {g : GG} {d n : Nat} {post : Option Value → LX → Prop} {X : LX} (hn : 146 ≤ n) (hX : Sh n X) {v1 : Int32} {v2 : Int32} (c0 : ¬ X 133 12 = 3) (c1 : ¬ v1 = 0) (c2 : ¬ X 133 10 = v2) (c3 : X 133 12 = 2) (c4 : ¬ (X 133 11) - (X 133 10) ≤ 5) (hp : post none (lx_up X 133 12 4)) : Ev g mX12_next d n n post n 194 [some (.ref 133), some (.int v1), some (.int v2)] [] X := by
  refine ev_aload_n dX12_next_194 rfl ?_
  refine ev_getI dX12_next_195 fo_12_125 (by omega) lo_133 rfl ?_
  refine ev_iconst (v := 3) dX12_next_198 ki_3 ?_
  refine ev_icmpF (tgt := 214) dX12_next_199 (by decide) c0 ?_
  refine ev_iload_n dX12_next_202 rfl ?_
  refine ev_ifF (tgt := 214) dX12_next_203 (by decide) c1 ?_
  refine ev_aload_n dX12_next_206 rfl ?_
  refine ev_getI dX12_next_207 fo_12_131 (by omega) lo_133 rfl ?_
  refine ev_iload_n dX12_next_210 rfl ?_
  refine ev_icmpF (tgt := 235) dX12_next_211 (by decide) c2 ?_
  refine ev_aload_n dX12_next_214 rfl ?_
  refine ev_getI dX12_next_215 fo_12_125 (by omega) lo_133 rfl ?_
  refine ev_iconst (v := 2) dX12_next_218 ki_2 ?_
  refine ev_icmpF (tgt := 240) dX12_next_219 (by decide) c3 ?_
  refine ev_aload_n dX12_next_222 rfl ?_
  refine ev_getI dX12_next_223 fo_12_128 (by omega) lo_133 rfl ?_
  refine ev_aload_n dX12_next_226 rfl ?_
  refine ev_getI dX12_next_227 fo_12_131 (by omega) lo_133 rfl ?_
  refine ev_isub dX12_next_230 ?_
  refine ev_iconst (v := 5) dX12_next_231 ki_5 ?_
  refine ev_icmpF (tgt := 240) dX12_next_232 (by decide) c4 ?_
  refine ev_aload_n dX12_next_235 rfl ?_
  refine ev_iconst (v := 4) dX12_next_236 ki_4 ?_
  refine ev_putI dX12_next_237 fo_12_125 (by omega) lo_133 rfl rfl rfl ?_
  have hX1 : Sh _ (lx_up X 133 12 4) := Sh.upF hX (by rw [lo_133]; decide) (by decide)
  exact ev_ret dX12_next_240 rfl hp
theorem bX12_next_194_1 {g : GG} {d n : Nat} {post : Option Value → LX → Prop} {X : LX} (hn : 146 ≤ n) (hX : Sh n X) {v1 : Int32} {v2 : Int32} (c0 : ¬ X 133 12 = 3) (c1 : ¬ v1 = 0) (c2 : ¬ X 133 10 = v2) (c3 : X 133 12 = 2) (c4 : (X 133 11) - (X 133 10) ≤ 5) (hp : post none X) : Ev g mX12_next d n n post n 194 [some (.ref 133), some (.int v1), some (.int v2)] [] X := by
  refine ev_aload_n dX12_next_194 rfl ?_
  refine ev_getI dX12_next_195 fo_12_125 (by omega) lo_133 rfl ?_
  refine ev_iconst (v := 3) dX12_next_198 ki_3 ?_
  refine ev_icmpF (tgt := 214) dX12_next_199 (by decide) c0 ?_
  refine ev_iload_n dX12_next_202 rfl ?_
  refine ev_ifF (tgt := 214) dX12_next_203 (by decide) c1 ?_
  refine ev_aload_n dX12_next_206 rfl ?_
  refine ev_getI dX12_next_207 fo_12_131 (by omega) lo_133 rfl ?_
  refine ev_iload_n dX12_next_210 rfl ?_
  refine ev_icmpF (tgt := 235) dX12_next_211 (by decide) c2 ?_
  refine ev_aload_n dX12_next_214 rfl ?_
  refine ev_getI dX12_next_215 fo_12_125 (by omega) lo_133 rfl ?_
  refine ev_iconst (v := 2) dX12_next_218 ki_2 ?_
  refine ev_icmpF (tgt := 240) dX12_next_219 (by decide) c3 ?_
  refine ev_aload_n dX12_next_222 rfl ?_
  refine ev_getI dX12_next_223 fo_12_128 (by omega) lo_133 rfl ?_
  refine ev_aload_n dX12_next_226 rfl ?_
  refine ev_getI dX12_next_227 fo_12_131 (by omega) lo_133 rfl ?_
  refine ev_isub dX12_next_230 ?_
  refine ev_iconst (v := 5) dX12_next_231 ki_5 ?_
  refine ev_icmpT (tgt := 240) dX12_next_232 (by decide) c4 ?_
  exact ev_ret dX12_next_240 rfl hp
theorem bX12_next_194_2 {g : GG} {d n : Nat} {post : Option Value → LX → Prop} {X : LX} (hn : 146 ≤ n) (hX : Sh n X) {v1 : Int32} {v2 : Int32} (c0 : ¬ X 133 12 = 3) (c1 : ¬ v1 = 0) (c2 : ¬ X 133 10 = v2) (c3 : ¬ X 133 12 = 2) (hp : post none X) : Ev g mX12_next d n n post n 194 [some (.ref 133), some (.int v1), some (.int v2)] [] X := by
  refine ev_aload_n dX12_next_194 rfl ?_
  refine ev_getI dX12_next_195 fo_12_125 (by omega) lo_133 rfl ?_
  refine ev_iconst (v := 3) dX12_next_198 ki_3 ?_
  refine ev_icmpF (tgt := 214) dX12_next_199 (by decide) c0 ?_
  refine ev_iload_n dX12_next_202 rfl ?_
  refine ev_ifF (tgt := 214) dX12_next_203 (by decide) c1 ?_
  refine ev_aload_n dX12_next_206 rfl ?_
  refine ev_getI dX12_next_207 fo_12_131 (by omega) lo_133 rfl ?_
  refine ev_iload_n dX12_next_210 rfl ?_
  refine ev_icmpF (tgt := 235) dX12_next_211 (by decide) c2 ?_
  refine ev_aload_n dX12_next_214 rfl ?_
  refine ev_getI dX12_next_215 fo_12_125 (by omega) lo_133 rfl ?_
  refine ev_iconst (v := 2) dX12_next_218 ki_2 ?_
  refine ev_icmpT (tgt := 240) dX12_next_219 (by decide) c3 ?_
  exact ev_ret dX12_next_240 rfl hp
theorem bX12_next_194_3 {g : GG} {d n : Nat} {post : Option Value → LX → Prop} {X : LX} (hn : 146 ≤ n) (hX : Sh n X) {v1 : Int32} {v2 : Int32} (c0 : ¬ X 133 12 = 3) (c1 : ¬ v1 = 0) (c2 : X 133 10 = v2) (hp : post none (lx_up X 133 12 4)) : Ev g mX12_next d n n post n 194 [some (.ref 133), some (.int v1), some (.int v2)] [] X := by
  refine ev_aload_n dX12_next_194 rfl ?_
  refine ev_getI dX12_next_195 fo_12_125 (by omega) lo_133 rfl ?_
  refine ev_iconst (v := 3) dX12_next_198 ki_3 ?_
  refine ev_icmpF (tgt := 214) dX12_next_199 (by decide) c0 ?_
  refine ev_iload_n dX12_next_202 rfl ?_
  refine ev_ifF (tgt := 214) dX12_next_203 (by decide) c1 ?_
  refine ev_aload_n dX12_next_206 rfl ?_
  refine ev_getI dX12_next_207 fo_12_131 (by omega) lo_133 rfl ?_
  refine ev_iload_n dX12_next_210 rfl ?_
  refine ev_icmpT (tgt := 235) dX12_next_211 (by decide) c2 ?_
  refine ev_aload_n dX12_next_235 rfl ?_
  refine ev_iconst (v := 4) dX12_next_236 ki_4 ?_
  refine ev_putI dX12_next_237 fo_12_125 (by omega) lo_133 rfl rfl rfl ?_
  have hX1 : Sh _ (lx_up X 133 12 4) := Sh.upF hX (by rw [lo_133]; decide) (by decide)
  exact ev_ret dX12_next_240 rfl hp
theorem bX12_next_194_4 {g : GG} {d n : Nat} {post : Option Value → LX → Prop} {X : LX} (hn : 146 ≤ n) (hX : Sh n X) {v1 : Int32} {v2 : Int32} (c0 : ¬ X 133 12 = 3) (c1 : v1 = 0) (c2 : X 133 12 = 2) (c3 : ¬ (X 133 11) - (X 133 10) ≤ 5) (hp : post none (lx_up X 133 12 4)) : Ev g mX12_next d n n post n 194 [some (.ref 133), some (.int v1), some (.int v2)] [] X := by
  refine ev_aload_n dX12_next_194 rfl ?_
  refine ev_getI dX12_next_195 fo_12_125 (by omega) lo_133 rfl ?_
  refine ev_iconst (v := 3) dX12_next_198 ki_3 ?_
  refine ev_icmpF (tgt := 214) dX12_next_199 (by decide) c0 ?_
  refine ev_iload_n dX12_next_202 rfl ?_
  refine ev_ifT (tgt := 214) dX12_next_203 (by decide) c1 ?_
  refine ev_aload_n dX12_next_214 rfl ?_
  refine ev_getI dX12_next_215 fo_12_125 (by omega) lo_133 rfl ?_
  refine ev_iconst (v := 2) dX12_next_218 ki_2 ?_
  refine ev_icmpF (tgt := 240) dX12_next_219 (by decide) c2 ?_
  refine ev_aload_n dX12_next_222 rfl ?_
  refine ev_getI dX12_next_223 fo_12_128 (by omega) lo_133 rfl ?_
  refine ev_aload_n dX12_next_226 rfl ?_
  refine ev_getI dX12_next_227 fo_12_131 (by omega) lo_133 rfl ?_
  refine ev_isub dX12_next_230 ?_
  refine ev_iconst (v := 5) dX12_next_231 ki_5 ?_
  refine ev_icmpF (tgt := 240) dX12_next_232 (by decide) c3 ?_
  refine ev_aload_n dX12_next_235 rfl ?_
  refine ev_iconst (v := 4) dX12_next_236 ki_4 ?_
  refine ev_putI dX12_next_237 fo_12_125 (by omega) lo_133 rfl rfl rfl ?_
  have hX1 : Sh _ (lx_up X 133 12 4) := Sh.upF hX (by rw [lo_133]; decide) (by decide)
  exact ev_ret dX12_next_240 rfl hp
theorem bX12_next_194_5 {g : GG} {d n : Nat} {post : Option Value → LX → Prop} {X : LX} (hn : 146 ≤ n) (hX : Sh n X) {v1 : Int32} {v2 : Int32} (c0 : ¬ X 133 12 = 3) (c1 : v1 = 0) (c2 : X 133 12 = 2) (c3 : (X 133 11) - (X 133 10) ≤ 5) (hp : post none X) : Ev g mX12_next d n n post n 194 [some (.ref 133), some (.int v1), some (.int v2)] [] X := by
  refine ev_aload_n dX12_next_194 rfl ?_
  refine ev_getI dX12_next_195 fo_12_125 (by omega) lo_133 rfl ?_
  refine ev_iconst (v := 3) dX12_next_198 ki_3 ?_
  refine ev_icmpF (tgt := 214) dX12_next_199 (by decide) c0 ?_
  refine ev_iload_n dX12_next_202 rfl ?_
  refine ev_ifT (tgt := 214) dX12_next_203 (by decide) c1 ?_
  refine ev_aload_n dX12_next_214 rfl ?_
  refine ev_getI dX12_next_215 fo_12_125 (by omega) lo_133 rfl ?_
  refine ev_iconst (v := 2) dX12_next_218 ki_2 ?_
  refine ev_icmpF (tgt := 240) dX12_next_219 (by decide) c2 ?_
  refine ev_aload_n dX12_next_222 rfl ?_
  refine ev_getI dX12_next_223 fo_12_128 (by omega) lo_133 rfl ?_
  refine ev_aload_n dX12_next_226 rfl ?_
  refine ev_getI dX12_next_227 fo_12_131 (by omega) lo_133 rfl ?_
  refine ev_isub dX12_next_230 ?_
  refine ev_iconst (v := 5) dX12_next_231 ki_5 ?_
  refine ev_icmpT (tgt := 240) dX12_next_232 (by decide) c3 ?_
  exact ev_ret dX12_next_240 rfl hp
theorem bX12_next_194_6 {g : GG} {d n : Nat} {post : Option Value → LX → Prop} {X : LX} (hn : 146 ≤ n) (hX : Sh n X) {v1 : Int32} {v2 : Int32} (c0 : ¬ X 133 12 = 3) (c1 : v1 = 0) (c2 : ¬ X 133 12 = 2) (hp : post none X) : Ev g mX12_next d n n post n 194 [some (.ref 133), some (.int v1), some (.int v2)] [] X := by
  refine ev_aload_n dX12_next_194 rfl ?_
  refine ev_getI dX12_next_195 fo_12_125 (by omega) lo_133 rfl ?_
  refine ev_iconst (v := 3) dX12_next_198 ki_3 ?_
  refine ev_icmpF (tgt := 214) dX12_next_199 (by decide) c0 ?_
  refine ev_iload_n dX12_next_202 rfl ?_
  refine ev_ifT (tgt := 214) dX12_next_203 (by decide) c1 ?_
  refine ev_aload_n dX12_next_214 rfl ?_
  refine ev_getI dX12_next_215 fo_12_125 (by omega) lo_133 rfl ?_
  refine ev_iconst (v := 2) dX12_next_218 ki_2 ?_
  refine ev_icmpT (tgt := 240) dX12_next_219 (by decide) c2 ?_
  exact ev_ret dX12_next_240 rfl hp
theorem bX12_next_194_7 {g : GG} {d n : Nat} {post : Option Value → LX → Prop} {X : LX} (hn : 146 ≤ n) (hX : Sh n X) {v1 : Int32} {v2 : Int32} (c0 : X 133 12 = 3) (c1 : X 133 12 = 2) (c2 : ¬ (X 133 11) - (X 133 10) ≤ 5) (hp : post none (lx_up X 133 12 4)) : Ev g mX12_next d n n post n 194 [some (.ref 133), some (.int v1), some (.int v2)] [] X := by
  refine ev_aload_n dX12_next_194 rfl ?_
  refine ev_getI dX12_next_195 fo_12_125 (by omega) lo_133 rfl ?_
  refine ev_iconst (v := 3) dX12_next_198 ki_3 ?_
  refine ev_icmpT (tgt := 214) dX12_next_199 (by decide) c0 ?_
  refine ev_aload_n dX12_next_214 rfl ?_
  refine ev_getI dX12_next_215 fo_12_125 (by omega) lo_133 rfl ?_
  refine ev_iconst (v := 2) dX12_next_218 ki_2 ?_
  refine ev_icmpF (tgt := 240) dX12_next_219 (by decide) c1 ?_
  refine ev_aload_n dX12_next_222 rfl ?_
  refine ev_getI dX12_next_223 fo_12_128 (by omega) lo_133 rfl ?_
  refine ev_aload_n dX12_next_226 rfl ?_
  refine ev_getI dX12_next_227 fo_12_131 (by omega) lo_133 rfl ?_
  refine ev_isub dX12_next_230 ?_
  refine ev_iconst (v := 5) dX12_next_231 ki_5 ?_
  refine ev_icmpF (tgt := 240) dX12_next_232 (by decide) c2 ?_
  refine ev_aload_n dX12_next_235 rfl ?_
  refine ev_iconst (v := 4) dX12_next_236 ki_4 ?_
  refine ev_putI dX12_next_237 fo_12_125 (by omega) lo_133 rfl rfl rfl ?_
  have hX1 : Sh _ (lx_up X 133 12 4) := Sh.upF hX (by rw [lo_133]; decide) (by decide)
  exact ev_ret dX12_next_240 rfl hp
theorem bX12_next_194_8 {g : GG} {d n : Nat} {post : Option Value → LX → Prop} {X : LX} (hn : 146 ≤ n) (hX : Sh n X) {v1 : Int32} {v2 : Int32} (c0 : X 133 12 = 3) (c1 : X 133 12 = 2) (c2 : (X 133 11) - (X 133 10) ≤ 5) (hp : post none X) : Ev g mX12_next d n n post n 194 [some (.ref 133), some (.int v1), some (.int v2)] [] X := by
  refine ev_aload_n dX12_next_194 rfl ?_
  refine ev_getI dX12_next_195 fo_12_125 (by omega) lo_133 rfl ?_
  refine ev_iconst (v := 3) dX12_next_198 ki_3 ?_
  refine ev_icmpT (tgt := 214) dX12_next_199 (by decide) c0 ?_
  refine ev_aload_n dX12_next_214 rfl ?_
  refine ev_getI dX12_next_215 fo_12_125 (by omega) lo_133 rfl ?_
  refine ev_iconst (v := 2) dX12_next_218 ki_2 ?_
  refine ev_icmpF (tgt := 240) dX12_next_219 (by decide) c1 ?_
  refine ev_aload_n dX12_next_222 rfl ?_
  refine ev_getI dX12_next_223 fo_12_128 (by omega) lo_133 rfl ?_
  refine ev_aload_n dX12_next_226 rfl ?_
  refine ev_getI dX12_next_227 fo_12_131 (by omega) lo_133 rfl ?_
  refine ev_isub dX12_next_230 ?_
  refine ev_iconst (v := 5) dX12_next_231 ki_5 ?_
  refine ev_icmpT (tgt := 240) dX12_next_232 (by decide) c2 ?_
  exact ev_ret dX12_next_240 rfl hp
theorem bX12_next_194_9 {g : GG} {d n : Nat} {post : Option Value → LX → Prop} {X : LX} (hn : 146 ≤ n) (hX : Sh n X) {v1 : Int32} {v2 : Int32} (c0 : X 133 12 = 3) (c1 : ¬ X 133 12 = 2) (hp : post none X) : Ev g mX12_next d n n post n 194 [some (.ref 133), some (.int v1), some (.int v2)] [] X := by
  refine ev_aload_n dX12_next_194 rfl ?_
  refine ev_getI dX12_next_195 fo_12_125 (by omega) lo_133 rfl ?_
  refine ev_iconst (v := 3) dX12_next_198 ki_3 ?_
  refine ev_icmpT (tgt := 214) dX12_next_199 (by decide) c0 ?_
  refine ev_aload_n dX12_next_214 rfl ?_
  refine ev_getI dX12_next_215 fo_12_125 (by omega) lo_133 rfl ?_
  refine ev_iconst (v := 2) dX12_next_218 ki_2 ?_
  refine ev_icmpT (tgt := 240) dX12_next_219 (by decide) c1 ?_
  exact ev_ret dX12_next_240 rfl hp
theorem bX12_need_0_0 {g : GG} {d n : Nat} {post : Option Value → LX → Prop} {X : LX} (hn : 146 ≤ n) (hX : Sh n X) {v1 : Int32} (c0 : X 133 13 = 0) (c1 : v1 = 0) (hp : post none (lx_up X 133 13 1)) : Ev g mX12_need d n n post n 0 [some (.ref 133), some (.int v1)] [] X := by
  refine ev_aload_n dX12_need_0 rfl ?_
  refine ev_aload_n dX12_need_1 rfl ?_
  refine ev_getI dX12_need_2 fo_12_140 (by omega) lo_133 rfl ?_
  refine ev_ifF (tgt := 12) dX12_need_5 (by decide) c0 ?_
  refine ev_iload_n dX12_need_8 rfl ?_
  refine ev_ifF (tgt := 16) dX12_need_9 (by decide) c1 ?_
  refine ev_iconst (v := 1) dX12_need_12 ki_1 ?_
  refine ev_goto (tgt := 17) dX12_need_13 (by decide) ?_
  refine ev_putZ dX12_need_17 fo_12_140 (by omega) lo_133 rfl rfl rfl (by decide) ?_
  have hX1 : Sh _ (lx_up X 133 13 1) := Sh.upF hX (by rw [lo_133]; decide) (by decide)
  refine ev_aload_n dX12_need_20 rfl ?_
  refine ev_getI dX12_need_21 fo_12_140 (by omega) lo_133 rfl ?_
  refine ev_ifT (tgt := 31) dX12_need_24 (by decide) (by show ¬ (1 : Int32) = 0; decide) ?_
  exact ev_ret dX12_need_31 rfl hp
theorem bX12_need_0_1 {g : GG} {d n : Nat} {post : Option Value → LX → Prop} {X : LX} (hn : 146 ≤ n) (hX : Sh n X) {v1 : Int32} (c0 : X 133 13 = 0) (c1 : ¬ v1 = 0) (k : Ev g mX12_need d n n post n 28 [some (.ref 133), some (.int v1)] [.ref 133] (lx_up X 133 13 0)) : Ev g mX12_need d n n post n 0 [some (.ref 133), some (.int v1)] [] X := by
  refine ev_aload_n dX12_need_0 rfl ?_
  refine ev_aload_n dX12_need_1 rfl ?_
  refine ev_getI dX12_need_2 fo_12_140 (by omega) lo_133 rfl ?_
  refine ev_ifF (tgt := 12) dX12_need_5 (by decide) c0 ?_
  refine ev_iload_n dX12_need_8 rfl ?_
  refine ev_ifT (tgt := 16) dX12_need_9 (by decide) c1 ?_
  refine ev_iconst (v := 0) dX12_need_16 ki_0 ?_
  refine ev_putZ dX12_need_17 fo_12_140 (by omega) lo_133 rfl rfl rfl (by decide) ?_
  have hX1 : Sh _ (lx_up X 133 13 0) := Sh.upF hX (by rw [lo_133]; decide) (by decide)
  refine ev_aload_n dX12_need_20 rfl ?_
  refine ev_getI dX12_need_21 fo_12_140 (by omega) lo_133 rfl ?_
  refine ev_ifF (tgt := 31) dX12_need_24 (by decide) (by show (0 : Int32) = 0; decide) ?_
  refine ev_aload_n dX12_need_27 rfl ?_
  exact k
theorem bX12_need_0_2 {g : GG} {d n : Nat} {post : Option Value → LX → Prop} {X : LX} (hn : 146 ≤ n) (hX : Sh n X) {v1 : Int32} (c0 : ¬ X 133 13 = 0) (hp : post none (lx_up X 133 13 1)) : Ev g mX12_need d n n post n 0 [some (.ref 133), some (.int v1)] [] X := by
  refine ev_aload_n dX12_need_0 rfl ?_
  refine ev_aload_n dX12_need_1 rfl ?_
  refine ev_getI dX12_need_2 fo_12_140 (by omega) lo_133 rfl ?_
  refine ev_ifT (tgt := 12) dX12_need_5 (by decide) c0 ?_
  refine ev_iconst (v := 1) dX12_need_12 ki_1 ?_
  refine ev_goto (tgt := 17) dX12_need_13 (by decide) ?_
  refine ev_putZ dX12_need_17 fo_12_140 (by omega) lo_133 rfl rfl rfl (by decide) ?_
  have hX1 : Sh _ (lx_up X 133 13 1) := Sh.upF hX (by rw [lo_133]; decide) (by decide)
  refine ev_aload_n dX12_need_20 rfl ?_
  refine ev_getI dX12_need_21 fo_12_140 (by omega) lo_133 rfl ?_
  refine ev_ifT (tgt := 31) dX12_need_24 (by decide) (by show ¬ (1 : Int32) = 0; decide) ?_
  exact ev_ret dX12_need_31 rfl hp
theorem bX12_need_31_0 {g : GG} {d n : Nat} {post : Option Value → LX → Prop} {X : LX} (hn : 146 ≤ n) (hX : Sh n X) {v1 : Int32} (hp : post none X) : Ev g mX12_need d n n post n 31 [some (.ref 133), some (.int v1)] [] X := by
  exact ev_ret dX12_need_31 rfl hp
theorem bX12_word_0_0 {g : GG} {d n : Nat} {post : Option Value → LX → Prop} {X : LX} (hn : 146 ≤ n) (hX : Sh n X) {tv1 : Nat} (htv1 : tv1 < 14) (c0 : X 133 12 = 1) (k : Ev g mX12_word d n n post n 18 [some (.ref 133), some (.ref (1000 + tv1)), none, none] [.ref (1000 + tv1), .int ((X 133 11) - (X 133 10))] X) : Ev g mX12_word d n n post n 0 [some (.ref 133), some (.ref (1000 + tv1)), none, none] [] X := by
  refine ev_aload_n dX12_word_0 rfl ?_
  refine ev_getI dX12_word_1 fo_12_125 (by omega) lo_133 rfl ?_
  refine ev_iconst (v := 1) dX12_word_4 ki_1 ?_
  refine ev_icmpF (tgt := 28) dX12_word_5 (by decide) c0 ?_
  refine ev_aload_n dX12_word_8 rfl ?_
  refine ev_getI dX12_word_9 fo_12_128 (by omega) lo_133 rfl ?_
  refine ev_aload_n dX12_word_12 rfl ?_
  refine ev_getI dX12_word_13 fo_12_131 (by omega) lo_133 rfl ?_
  refine ev_isub dX12_word_16 ?_
  refine ev_aload_n dX12_word_17 rfl ?_
  exact k
theorem bX12_word_0_1 {g : GG} {d n : Nat} {post : Option Value → LX → Prop} {X : LX} (hn : 146 ≤ n) (hX : Sh n X) {tv1 : Nat} (htv1 : tv1 < 14) (c0 : ¬ X 133 12 = 1) (k : Ev g mX12_word d n n post n 32 [some (.ref 133), some (.ref (1000 + tv1)), some (.int 0), some (.int 0)] [] X) : Ev g mX12_word d n n post n 0 [some (.ref 133), some (.ref (1000 + tv1)), none, none] [] X := by
  refine ev_aload_n dX12_word_0 rfl ?_
  refine ev_getI dX12_word_1 fo_12_125 (by omega) lo_133 rfl ?_
  refine ev_iconst (v := 1) dX12_word_4 ki_1 ?_
  refine ev_icmpT (tgt := 28) dX12_word_5 (by decide) c0 ?_
  refine ev_iconst (v := 0) dX12_word_28 ki_0 ?_
  refine ev_istore_n dX12_word_29 (by decide) ?_
  refine ev_iconst (v := 0) dX12_word_30 ki_0 ?_
  refine ev_istore_n dX12_word_31 (by decide) ?_
  exact k
theorem bX12_word_21_0 {g : GG} {d n : Nat} {post : Option Value → LX → Prop} {X : LX} (hn : 146 ≤ n) (hX : Sh n X) {tv1 : Nat} {s0 : Int32} {s1 : Int32} (htv1 : tv1 < 14) (c0 : s0 = s1) (k : Ev g mX12_word d n n post n 32 [some (.ref 133), some (.ref (1000 + tv1)), some (.int 1), some (.int 0)] [] X) : Ev g mX12_word d n n post n 21 [some (.ref 133), some (.ref (1000 + tv1)), none, none] [.int s1, .int s0] X := by
  refine ev_icmpF (tgt := 28) dX12_word_21 (by decide) c0 ?_
  refine ev_iconst (v := 1) dX12_word_24 ki_1 ?_
  refine ev_goto (tgt := 29) dX12_word_25 (by decide) ?_
  refine ev_istore_n dX12_word_29 (by decide) ?_
  refine ev_iconst (v := 0) dX12_word_30 ki_0 ?_
  refine ev_istore_n dX12_word_31 (by decide) ?_
  exact k
theorem bX12_word_21_1 {g : GG} {d n : Nat} {post : Option Value → LX → Prop} {X : LX} (hn : 146 ≤ n) (hX : Sh n X) {tv1 : Nat} {s0 : Int32} {s1 : Int32} (htv1 : tv1 < 14) (c0 : ¬ s0 = s1) (k : Ev g mX12_word d n n post n 32 [some (.ref 133), some (.ref (1000 + tv1)), some (.int 0), some (.int 0)] [] X) : Ev g mX12_word d n n post n 21 [some (.ref 133), some (.ref (1000 + tv1)), none, none] [.int s1, .int s0] X := by
  refine ev_icmpT (tgt := 28) dX12_word_21 (by decide) c0 ?_
  refine ev_iconst (v := 0) dX12_word_28 ki_0 ?_
  refine ev_istore_n dX12_word_29 (by decide) ?_
  refine ev_iconst (v := 0) dX12_word_30 ki_0 ?_
  refine ev_istore_n dX12_word_31 (by decide) ?_
  exact k
theorem bX12_word_32_0 {g : GG} {d n : Nat} {post : Option Value → LX → Prop} {X : LX} (hn : 146 ≤ n) (hX : Sh n X) {tv1 : Nat} {v2 : Int32} {v3 : Int32} (htv1 : tv1 < 14) (c0 : ¬ v2 = 0) (k : Ev g mX12_word d n n post n 38 [some (.ref 133), some (.ref (1000 + tv1)), some (.int v2), some (.int v3)] [.ref (1000 + tv1), .int v3] X) : Ev g mX12_word d n n post n 32 [some (.ref 133), some (.ref (1000 + tv1)), some (.int v2), some (.int v3)] [] X := by
  refine ev_iload_n dX12_word_32 rfl ?_
  refine ev_ifF (tgt := 75) dX12_word_33 (by decide) c0 ?_
  refine ev_iload_n dX12_word_36 rfl ?_
  refine ev_aload_n dX12_word_37 rfl ?_
  exact k
theorem bX12_word_32_1 {g : GG} {d n : Nat} {post : Option Value → LX → Prop} {X : LX} (hn : 146 ≤ n) (hX : Sh n X) {tv1 : Nat} {v2 : Int32} {v3 : Int32} (htv1 : tv1 < 14) (c0 : v2 = 0) (k : Ev g mX12_word d n n post n 77 [some (.ref 133), some (.ref (1000 + tv1)), some (.int v2), some (.int v3)] [.int v2, .ref 133] X) : Ev g mX12_word d n n post n 32 [some (.ref 133), some (.ref (1000 + tv1)), some (.int v2), some (.int v3)] [] X := by
  refine ev_iload_n dX12_word_32 rfl ?_
  refine ev_ifT (tgt := 75) dX12_word_33 (by decide) c0 ?_
  refine ev_aload_n dX12_word_75 rfl ?_
  refine ev_iload_n dX12_word_76 rfl ?_
  exact k
theorem bX12_word_41_0 {g : GG} {d n : Nat} {post : Option Value → LX → Prop} {X : LX} (hn : 146 ≤ n) (hX : Sh n X) {tv1 : Nat} {v2 : Int32} {v3 : Nat} {s0 : Int32} {s1 : Int32} {j1 : Nat} (htv1 : tv1 < 14) (c0 : ¬ s1 ≤ s0) (hj1 : X 133 10 = nI j1) (b0 : (j1 + v3) < 120) (k : Ev g mX12_word d n n post n 57 [some (.ref 133), some (.ref (1000 + tv1)), some (.int v2), some (.int (nI v3))] [.int (nI v3), .ref (1000 + tv1), .int (X 136 (j1 + v3))] X) : Ev g mX12_word d n n post n 41 [some (.ref 133), some (.ref (1000 + tv1)), some (.int v2), some (.int (nI v3))] [.int s1, .int s0] X := by
  refine ev_icmpF (tgt := 75) dX12_word_41 (by decide) c0 ?_
  refine ev_aload_n dX12_word_44 rfl ?_
  refine ev_getS (q := 136) dX12_word_45 fo_12_16 (by omega) lo_133 rfl (sh_133_3 hX (by omega)) (by decide) ?_
  refine ev_aload_n dX12_word_48 rfl ?_
  refine ev_getI dX12_word_49 fo_12_131 (by omega) lo_133 rfl ?_
  refine ev_iload_n dX12_word_52 rfl ?_
  refine ev_iadd dX12_word_53 ?_
  refine ev_iald dX12_word_54 (by omega) ly_136 (by rw [hj1]; show nI j1 + nI v3 = nI (j1 + v3); simp only [pk_mul, nI_add]) b0 ?_
  refine ev_aload_n dX12_word_55 rfl ?_
  refine ev_iload_n dX12_word_56 rfl ?_
  exact k
theorem bX12_word_41_1 {g : GG} {d n : Nat} {post : Option Value → LX → Prop} {X : LX} (hn : 146 ≤ n) (hX : Sh n X) {tv1 : Nat} {v2 : Int32} {v3 : Int32} {s0 : Int32} {s1 : Int32} (htv1 : tv1 < 14) (c0 : s1 ≤ s0) (k : Ev g mX12_word d n n post n 77 [some (.ref 133), some (.ref (1000 + tv1)), some (.int v2), some (.int v3)] [.int v2, .ref 133] X) : Ev g mX12_word d n n post n 41 [some (.ref 133), some (.ref (1000 + tv1)), some (.int v2), some (.int v3)] [.int s1, .int s0] X := by
  refine ev_icmpT (tgt := 75) dX12_word_41 (by decide) c0 ?_
  refine ev_aload_n dX12_word_75 rfl ?_
  refine ev_iload_n dX12_word_76 rfl ?_
  exact k
theorem bX12_word_60_0 {g : GG} {d n : Nat} {post : Option Value → LX → Prop} {X : LX} (hn : 146 ≤ n) (hX : Sh n X) {tv1 : Nat} {v2 : Int32} {v3 : Int32} {s0 : Int32} {s1 : Int32} (htv1 : tv1 < 14) (c0 : s0 = s1) (k : Ev g mX12_word d n n post n 32 [some (.ref 133), some (.ref (1000 + tv1)), some (.int 1), some (.int (v3 + 1))] [] X) : Ev g mX12_word d n n post n 60 [some (.ref 133), some (.ref (1000 + tv1)), some (.int v2), some (.int v3)] [.int s1, .int s0] X := by
  refine ev_icmpF (tgt := 67) dX12_word_60 (by decide) c0 ?_
  refine ev_iconst (v := 1) dX12_word_63 ki_1 ?_
  refine ev_goto (tgt := 68) dX12_word_64 (by decide) ?_
  refine ev_istore_n dX12_word_68 (by decide) ?_
  refine ev_iinc (v := v3 + 1) dX12_word_69 rfl (by rw [show Int32.ofInt 1 = 1 from ki_1]) (by decide) ?_
  refine ev_goto (tgt := 32) dX12_word_72 (by decide) ?_
  exact k
theorem bX12_word_60_1 {g : GG} {d n : Nat} {post : Option Value → LX → Prop} {X : LX} (hn : 146 ≤ n) (hX : Sh n X) {tv1 : Nat} {v2 : Int32} {v3 : Int32} {s0 : Int32} {s1 : Int32} (htv1 : tv1 < 14) (c0 : ¬ s0 = s1) (k : Ev g mX12_word d n n post n 32 [some (.ref 133), some (.ref (1000 + tv1)), some (.int 0), some (.int (v3 + 1))] [] X) : Ev g mX12_word d n n post n 60 [some (.ref 133), some (.ref (1000 + tv1)), some (.int v2), some (.int v3)] [.int s1, .int s0] X := by
  refine ev_icmpT (tgt := 67) dX12_word_60 (by decide) c0 ?_
  refine ev_iconst (v := 0) dX12_word_67 ki_0 ?_
  refine ev_istore_n dX12_word_68 (by decide) ?_
  refine ev_iinc (v := v3 + 1) dX12_word_69 rfl (by rw [show Int32.ofInt 1 = 1 from ki_1]) (by decide) ?_
  refine ev_goto (tgt := 32) dX12_word_72 (by decide) ?_
  exact k
theorem bX12_word_80_0 {g : GG} {d n : Nat} {post : Option Value → LX → Prop} {X : LX} (hn : 146 ≤ n) (hX : Sh n X) {tv1 : Nat} {v2 : Int32} {v3 : Int32} (htv1 : tv1 < 14) (hp : post none X) : Ev g mX12_word d n n post n 80 [some (.ref 133), some (.ref (1000 + tv1)), some (.int v2), some (.int v3)] [] X := by
  exact ev_ret dX12_word_80 rfl hp
theorem bX12_signHere_0_0 {g : GG} {d n : Nat} {post : Option Value → LX → Prop} {X : LX} (hn : 146 ≤ n) (hX : Sh n X) {v1 : Int32} {v2 : Int32} (k : Ev g mX12_signHere d n n post n 5 [some (.ref 133), some (.int v1), some (.int v2), some (.int (-1)), some (.int v1)] [] X) : Ev g mX12_signHere d n n post n 0 [some (.ref 133), some (.int v1), some (.int v2), none, none] [] X := by
  refine ev_iconst (v := (-1)) dX12_signHere_0 ki_m1 ?_
  refine ev_istore_n dX12_signHere_1 (by decide) ?_
  refine ev_iload_n dX12_signHere_2 rfl ?_
  refine ev_istore dX12_signHere_3 (by decide) ?_
  exact k
theorem bX12_signHere_5_0 {g : GG} {d n : Nat} {post : Option Value → LX → Prop} {X : LX} (hn : 146 ≤ n) (hX : Sh n X) {v1 : Int32} {v2 : Int32} {v3 : Int32} {v4 : Int32} (c0 : ¬ v2 < v4) (k : Ev g mX12_signHere d n n post n 16 [some (.ref 133), some (.int v1), some (.int v2), some (.int v3), some (.int v4)] [.int v4, .ref 1013, .ref 133] X) : Ev g mX12_signHere d n n post n 5 [some (.ref 133), some (.int v1), some (.int v2), some (.int v3), some (.int v4)] [] X := by
  refine ev_iload dX12_signHere_5 rfl ?_
  refine ev_iload_n dX12_signHere_7 rfl ?_
  refine ev_icmpF (tgt := 38) dX12_signHere_8 (by decide) c0 ?_
  refine ev_aload_n dX12_signHere_11 rfl ?_
  refine ev_ldcS (t := 13) dX12_signHere_12 sw_12_163 rfl rfl rfl ?_
  refine ev_iload dX12_signHere_14 rfl ?_
  exact k
theorem bX12_signHere_5_1 {g : GG} {d n : Nat} {post : Option Value → LX → Prop} {X : LX} (hn : 146 ≤ n) (hX : Sh n X) {v1 : Int32} {v2 : Int32} {v3 : Int32} {v4 : Int32} (c0 : v2 < v4) (hp : post (some (.int v3)) X) : Ev g mX12_signHere d n n post n 5 [some (.ref 133), some (.int v1), some (.int v2), some (.int v3), some (.int v4)] [] X := by
  refine ev_iload dX12_signHere_5 rfl ?_
  refine ev_iload_n dX12_signHere_7 rfl ?_
  refine ev_icmpT (tgt := 38) dX12_signHere_8 (by decide) c0 ?_
  refine ev_iload_n dX12_signHere_38 rfl ?_
  exact ev_iret dX12_signHere_39 rfl rfl hp
theorem bX12_signHere_19_0 {g : GG} {d n : Nat} {post : Option Value → LX → Prop} {X : LX} (hn : 146 ≤ n) (hX : Sh n X) {v1 : Int32} {v2 : Int32} {v3 : Int32} {v4 : Int32} {s1 : Int32} (k : Ev g mX12_signHere d n n post n 19 [some (.ref 133), some (.int v1), some (.int v2), some (.int v3), some (.int v4)] [.int s1, .ref 133] X) : Ev g mX12_signHere d n n post n 19 [some (.ref 133), some (.int v1), some (.int v2), some (.int v3), some (.int v4)] [.int s1, .ref 133] X := by
  exact k
theorem bX12_signHere_22_0 {g : GG} {d n : Nat} {post : Option Value → LX → Prop} {X : LX} (hn : 146 ≤ n) (hX : Sh n X) {v1 : Int32} {v2 : Int32} {v3 : Int32} {v4 : Int32} {s0 : Int32} (c0 : ¬ s0 = 0) (k : Ev g mX12_signHere d n n post n 5 [some (.ref 133), some (.int v1), some (.int v2), some (.int v4), some (.int (v4 + 1))] [] X) : Ev g mX12_signHere d n n post n 22 [some (.ref 133), some (.int v1), some (.int v2), some (.int v3), some (.int v4)] [.int s0] X := by
  refine ev_ifF (tgt := 30) dX12_signHere_22 (by decide) c0 ?_
  refine ev_iload dX12_signHere_25 rfl ?_
  refine ev_goto (tgt := 31) dX12_signHere_27 (by decide) ?_
  refine ev_istore_n dX12_signHere_31 (by decide) ?_
  refine ev_iinc (v := v4 + 1) dX12_signHere_32 rfl (by rw [show Int32.ofInt 1 = 1 from ki_1]) (by decide) ?_
  refine ev_goto (tgt := 5) dX12_signHere_35 (by decide) ?_
  exact k
theorem bX12_signHere_22_1 {g : GG} {d n : Nat} {post : Option Value → LX → Prop} {X : LX} (hn : 146 ≤ n) (hX : Sh n X) {v1 : Int32} {v2 : Int32} {v3 : Int32} {v4 : Int32} {s0 : Int32} (c0 : s0 = 0) (k : Ev g mX12_signHere d n n post n 5 [some (.ref 133), some (.int v1), some (.int v2), some (.int v3), some (.int (v4 + 1))] [] X) : Ev g mX12_signHere d n n post n 22 [some (.ref 133), some (.int v1), some (.int v2), some (.int v3), some (.int v4)] [.int s0] X := by
  refine ev_ifT (tgt := 30) dX12_signHere_22 (by decide) c0 ?_
  refine ev_iload_n dX12_signHere_30 rfl ?_
  refine ev_istore_n dX12_signHere_31 (by decide) ?_
  refine ev_iinc (v := v4 + 1) dX12_signHere_32 rfl (by rw [show Int32.ofInt 1 = 1 from ki_1]) (by decide) ?_
  refine ev_goto (tgt := 5) dX12_signHere_35 (by decide) ?_
  exact k
theorem bX12_part__0_0 {g : GG} {d n : Nat} {post : Option Value → LX → Prop} {X : LX} (hn : 146 ≤ n) (hX : Sh n X)  (c0 : ¬ X 133 13 = 0) (hp : post none X) : Ev g mX12_part_ d n n post n 0 [some (.ref 133), none, none] [] X := by
  refine ev_aload_n dX12_part__0 rfl ?_
  refine ev_getI dX12_part__1 fo_12_140 (by omega) lo_133 rfl ?_
  refine ev_ifF (tgt := 8) dX12_part__4 (by decide) c0 ?_
  exact ev_ret dX12_part__7 rfl hp
theorem bX12_part__0_1 {g : GG} {d n : Nat} {post : Option Value → LX → Prop} {X : LX} (hn : 146 ≤ n) (hX : Sh n X)  (c0 : X 133 13 = 0) (c1 : X 133 12 = 2) (k : Ev g mX12_part_ d n n post n 23 [some (.ref 133), some (.int 0), some (.int (X 133 10))] [] X) : Ev g mX12_part_ d n n post n 0 [some (.ref 133), none, none] [] X := by
  refine ev_aload_n dX12_part__0 rfl ?_
  refine ev_getI dX12_part__1 fo_12_140 (by omega) lo_133 rfl ?_
  refine ev_ifT (tgt := 8) dX12_part__4 (by decide) c0 ?_
  refine ev_aload_n dX12_part__8 rfl ?_
  refine ev_getI dX12_part__9 fo_12_125 (by omega) lo_133 rfl ?_
  refine ev_iconst (v := 2) dX12_part__12 ki_2 ?_
  refine ev_icmpF (tgt := 74) dX12_part__13 (by decide) c1 ?_
  refine ev_iconst (v := 0) dX12_part__16 ki_0 ?_
  refine ev_istore_n dX12_part__17 (by decide) ?_
  refine ev_aload_n dX12_part__18 rfl ?_
  refine ev_getI dX12_part__19 fo_12_131 (by omega) lo_133 rfl ?_
  refine ev_istore_n dX12_part__22 (by decide) ?_
  exact k
theorem bX12_part__0_2 {g : GG} {d n : Nat} {post : Option Value → LX → Prop} {X : LX} (hn : 146 ≤ n) (hX : Sh n X) {t1 : Nat} {j2 : Nat} (c0 : X 133 13 = 0) (c1 : ¬ X 133 12 = 2) (c2 : X 133 12 = 1) (c3 : (X 133 11) - (X 133 10) = 1) (htt1 : t1 < 14) (hxt1 : X 133 16 = rE (1000 + t1)) (hj2 : X 133 10 = nI j2) (b0 : j2 < 120) (k : Ev g mX12_part_ d n n post n 108 [some (.ref 133), none, none] [.int (X 136 j2), .ref (1000 + t1)] X) : Ev g mX12_part_ d n n post n 0 [some (.ref 133), none, none] [] X := by
  refine ev_aload_n dX12_part__0 rfl ?_
  refine ev_getI dX12_part__1 fo_12_140 (by omega) lo_133 rfl ?_
  refine ev_ifT (tgt := 8) dX12_part__4 (by decide) c0 ?_
  refine ev_aload_n dX12_part__8 rfl ?_
  refine ev_getI dX12_part__9 fo_12_125 (by omega) lo_133 rfl ?_
  refine ev_iconst (v := 2) dX12_part__12 ki_2 ?_
  refine ev_icmpT (tgt := 74) dX12_part__13 (by decide) c1 ?_
  refine ev_aload_n dX12_part__74 rfl ?_
  refine ev_getI dX12_part__75 fo_12_125 (by omega) lo_133 rfl ?_
  refine ev_iconst (v := 1) dX12_part__78 ki_1 ?_
  refine ev_icmpF (tgt := 154) dX12_part__79 (by decide) c2 ?_
  refine ev_aload_n dX12_part__82 rfl ?_
  refine ev_getI dX12_part__83 fo_12_128 (by omega) lo_133 rfl ?_
  refine ev_aload_n dX12_part__86 rfl ?_
  refine ev_getI dX12_part__87 fo_12_131 (by omega) lo_133 rfl ?_
  refine ev_isub dX12_part__90 ?_
  refine ev_iconst (v := 1) dX12_part__91 ki_1 ?_
  refine ev_icmpF (tgt := 154) dX12_part__92 (by decide) c3 ?_
  refine ev_aload_n dX12_part__95 rfl ?_
  refine ev_getS (q := 1000 + t1) dX12_part__96 fo_12_33 (by omega) lo_133 rfl hxt1 (by omega) ?_
  refine ev_aload_n dX12_part__99 rfl ?_
  refine ev_getS (q := 136) dX12_part__100 fo_12_16 (by omega) lo_133 rfl (sh_133_3 hX (by omega)) (by decide) ?_
  refine ev_aload_n dX12_part__103 rfl ?_
  refine ev_getI dX12_part__104 fo_12_131 (by omega) lo_133 rfl ?_
  refine ev_iald dX12_part__107 (by omega) ly_136 hj2 b0 ?_
  exact k
theorem bX12_part__0_3 {g : GG} {d n : Nat} {post : Option Value → LX → Prop} {X : LX} (hn : 146 ≤ n) (hX : Sh n X)  (c0 : X 133 13 = 0) (c1 : ¬ X 133 12 = 2) (c2 : X 133 12 = 1) (c3 : ¬ (X 133 11) - (X 133 10) = 1) (k : Ev g mX12_part_ d n n post n 157 [some (.ref 133), none, none] [.int 33, .ref 133] X) : Ev g mX12_part_ d n n post n 0 [some (.ref 133), none, none] [] X := by
  refine ev_aload_n dX12_part__0 rfl ?_
  refine ev_getI dX12_part__1 fo_12_140 (by omega) lo_133 rfl ?_
  refine ev_ifT (tgt := 8) dX12_part__4 (by decide) c0 ?_
  refine ev_aload_n dX12_part__8 rfl ?_
  refine ev_getI dX12_part__9 fo_12_125 (by omega) lo_133 rfl ?_
  refine ev_iconst (v := 2) dX12_part__12 ki_2 ?_
  refine ev_icmpT (tgt := 74) dX12_part__13 (by decide) c1 ?_
  refine ev_aload_n dX12_part__74 rfl ?_
  refine ev_getI dX12_part__75 fo_12_125 (by omega) lo_133 rfl ?_
  refine ev_iconst (v := 1) dX12_part__78 ki_1 ?_
  refine ev_icmpF (tgt := 154) dX12_part__79 (by decide) c2 ?_
  refine ev_aload_n dX12_part__82 rfl ?_
  refine ev_getI dX12_part__83 fo_12_128 (by omega) lo_133 rfl ?_
  refine ev_aload_n dX12_part__86 rfl ?_
  refine ev_getI dX12_part__87 fo_12_131 (by omega) lo_133 rfl ?_
  refine ev_isub dX12_part__90 ?_
  refine ev_iconst (v := 1) dX12_part__91 ki_1 ?_
  refine ev_icmpT (tgt := 154) dX12_part__92 (by decide) c3 ?_
  refine ev_aload_n dX12_part__154 rfl ?_
  refine ev_bipush (v := 33) dX12_part__155 kb_33 ?_
  exact k
theorem bX12_part__0_4 {g : GG} {d n : Nat} {post : Option Value → LX → Prop} {X : LX} (hn : 146 ≤ n) (hX : Sh n X)  (c0 : X 133 13 = 0) (c1 : ¬ X 133 12 = 2) (c2 : ¬ X 133 12 = 1) (k : Ev g mX12_part_ d n n post n 157 [some (.ref 133), none, none] [.int 33, .ref 133] X) : Ev g mX12_part_ d n n post n 0 [some (.ref 133), none, none] [] X := by
  refine ev_aload_n dX12_part__0 rfl ?_
  refine ev_getI dX12_part__1 fo_12_140 (by omega) lo_133 rfl ?_
  refine ev_ifT (tgt := 8) dX12_part__4 (by decide) c0 ?_
  refine ev_aload_n dX12_part__8 rfl ?_
  refine ev_getI dX12_part__9 fo_12_125 (by omega) lo_133 rfl ?_
  refine ev_iconst (v := 2) dX12_part__12 ki_2 ?_
  refine ev_icmpT (tgt := 74) dX12_part__13 (by decide) c1 ?_
  refine ev_aload_n dX12_part__74 rfl ?_
  refine ev_getI dX12_part__75 fo_12_125 (by omega) lo_133 rfl ?_
  refine ev_iconst (v := 1) dX12_part__78 ki_1 ?_
  refine ev_icmpT (tgt := 154) dX12_part__79 (by decide) c2 ?_
  refine ev_aload_n dX12_part__154 rfl ?_
  refine ev_bipush (v := 33) dX12_part__155 kb_33 ?_
  exact k
theorem bX12_part__23_0 {g : GG} {d n : Nat} {post : Option Value → LX → Prop} {X : LX} (hn : 146 ≤ n) (hX : Sh n X) {v1 : Int32} {v2 : Nat} (c0 : ¬ X 133 11 ≤ nI v2) (b0 : v2 < 120) (k : Ev g mX12_part_ d n n post n 23 [some (.ref 133), some (.int (((10 * v1) + (X 136 v2)) - 48)), some (.int ((nI v2) + 1))] [] X) : Ev g mX12_part_ d n n post n 23 [some (.ref 133), some (.int v1), some (.int (nI v2))] [] X := by
  refine ev_iload_n dX12_part__23 rfl ?_
  refine ev_aload_n dX12_part__24 rfl ?_
  refine ev_getI dX12_part__25 fo_12_128 (by omega) lo_133 rfl ?_
  refine ev_icmpF (tgt := 52) dX12_part__28 (by decide) c0 ?_
  refine ev_bipush (v := 10) dX12_part__31 kb_10 ?_
  refine ev_iload_n dX12_part__33 rfl ?_
  refine ev_imul dX12_part__34 ?_
  refine ev_aload_n dX12_part__35 rfl ?_
  refine ev_getS (q := 136) dX12_part__36 fo_12_16 (by omega) lo_133 rfl (sh_133_3 hX (by omega)) (by decide) ?_
  refine ev_iload_n dX12_part__39 rfl ?_
  refine ev_iald dX12_part__40 (by omega) ly_136 rfl b0 ?_
  refine ev_iadd dX12_part__41 ?_
  refine ev_bipush (v := 48) dX12_part__42 kb_48 ?_
  refine ev_isub dX12_part__44 ?_
  refine ev_istore_n dX12_part__45 (by decide) ?_
  refine ev_iinc (v := (nI v2) + 1) dX12_part__46 rfl (by rw [show Int32.ofInt 1 = 1 from ki_1]) (by decide) ?_
  refine ev_goto (tgt := 23) dX12_part__49 (by decide) ?_
  exact k
theorem bX12_part__23_1 {g : GG} {d n : Nat} {post : Option Value → LX → Prop} {X : LX} (hn : 146 ≤ n) (hX : Sh n X) {v1 : Int32} {v2 : Int32} (c0 : X 133 11 ≤ v2) (k : Ev g mX12_part_ d n n post n 54 [some (.ref 133), some (.int v1), some (.int v2)] [.int v1, .ref 133] X) : Ev g mX12_part_ d n n post n 23 [some (.ref 133), some (.int v1), some (.int v2)] [] X := by
  refine ev_iload_n dX12_part__23 rfl ?_
  refine ev_aload_n dX12_part__24 rfl ?_
  refine ev_getI dX12_part__25 fo_12_128 (by omega) lo_133 rfl ?_
  refine ev_icmpT (tgt := 52) dX12_part__28 (by decide) c0 ?_
  refine ev_aload_n dX12_part__52 rfl ?_
  refine ev_iload_n dX12_part__53 rfl ?_
  exact k
theorem bX12_part__57_0 {g : GG} {d n : Nat} {post : Option Value → LX → Prop} {X : LX} (hn : 146 ≤ n) (hX : Sh n X) {v1 : Int32} {v2 : Int32} (k : Ev g mX12_part_ d n n post n 68 [some (.ref 133), some (.int v1), some (.int v2)] [.ref 133] (lx_up X 133 19 ((X 133 19) + 1))) : Ev g mX12_part_ d n n post n 57 [some (.ref 133), some (.int v1), some (.int v2)] [] X := by
  refine ev_aload_n dX12_part__57 rfl ?_
  refine ev_dup dX12_part__58 rfl ?_
  refine ev_getI dX12_part__59 fo_12_172 (by omega) lo_133 rfl ?_
  refine ev_iconst (v := 1) dX12_part__62 ki_1 ?_
  refine ev_iadd dX12_part__63 ?_
  refine ev_putI dX12_part__64 fo_12_172 (by omega) lo_133 rfl rfl rfl ?_
  have hX1 : Sh _ (lx_up X 133 19 ((X 133 19) + 1)) := Sh.upF hX (by rw [lo_133]; decide) (by decide)
  refine ev_aload_n dX12_part__67 rfl ?_
  exact k
theorem bX12_part__71_0 {g : GG} {d n : Nat} {post : Option Value → LX → Prop} {X : LX} (hn : 146 ≤ n) (hX : Sh n X) {v1 : Int32} {v2 : Int32} (hp : post none X) : Ev g mX12_part_ d n n post n 71 [some (.ref 133), some (.int v1), some (.int v2)] [] X := by
  refine ev_goto (tgt := 273) dX12_part__71 (by decide) ?_
  exact ev_ret dX12_part__273 rfl hp
theorem bX12_part__111_0 {g : GG} {d n : Nat} {post : Option Value → LX → Prop} {X : LX} (hn : 146 ≤ n) (hX : Sh n X) {s0 : Int32} {t1 : Nat} {j2 : Nat} (c0 : ¬ s0 < 0) (htt1 : t1 < 14) (hxt1 : X 133 16 = rE (1000 + t1)) (hj2 : X 133 10 = nI j2) (b0 : j2 < 120) (k : Ev g mX12_part_ d n n post n 130 [some (.ref 133), none, none] [.int (X 136 j2), .ref (1000 + t1), .int 100000, .ref 133] X) : Ev g mX12_part_ d n n post n 111 [some (.ref 133), none, none] [.int s0] X := by
  refine ev_ifF (tgt := 154) dX12_part__111 (by decide) c0 ?_
  refine ev_aload_n dX12_part__114 rfl ?_
  refine ev_ldc (v := 100000) dX12_part__115 kw_12_178 ?_
  refine ev_aload_n dX12_part__117 rfl ?_
  refine ev_getS (q := 1000 + t1) dX12_part__118 fo_12_33 (by omega) lo_133 rfl hxt1 (by omega) ?_
  refine ev_aload_n dX12_part__121 rfl ?_
  refine ev_getS (q := 136) dX12_part__122 fo_12_16 (by omega) lo_133 rfl (sh_133_3 hX (by omega)) (by decide) ?_
  refine ev_aload_n dX12_part__125 rfl ?_
  refine ev_getI dX12_part__126 fo_12_131 (by omega) lo_133 rfl ?_
  refine ev_iald dX12_part__129 (by omega) ly_136 hj2 b0 ?_
  exact k
theorem bX12_part__111_1 {g : GG} {d n : Nat} {post : Option Value → LX → Prop} {X : LX} (hn : 146 ≤ n) (hX : Sh n X) {s0 : Int32} (c0 : s0 < 0) (k : Ev g mX12_part_ d n n post n 157 [some (.ref 133), none, none] [.int 33, .ref 133] X) : Ev g mX12_part_ d n n post n 111 [some (.ref 133), none, none] [.int s0] X := by
  refine ev_ifT (tgt := 154) dX12_part__111 (by decide) c0 ?_
  refine ev_aload_n dX12_part__154 rfl ?_
  refine ev_bipush (v := 33) dX12_part__155 kb_33 ?_
  exact k
theorem bX12_part__133_0 {g : GG} {d n : Nat} {post : Option Value → LX → Prop} {X : LX} (hn : 146 ≤ n) (hX : Sh n X) {s1 : Int32} {s2 : Int32} (k : Ev g mX12_part_ d n n post n 134 [some (.ref 133), none, none] [.int (s1 + s2), .ref 133] X) : Ev g mX12_part_ d n n post n 133 [some (.ref 133), none, none] [.int s2, .int s1, .ref 133] X := by
  refine ev_iadd dX12_part__133 ?_
  exact k
theorem bX12_part__137_0 {g : GG} {d n : Nat} {post : Option Value → LX → Prop} {X : LX} (hn : 146 ≤ n) (hX : Sh n X)  (k : Ev g mX12_part_ d n n post n 148 [some (.ref 133), none, none] [.ref 133] (lx_up X 133 19 ((X 133 19) + 1))) : Ev g mX12_part_ d n n post n 137 [some (.ref 133), none, none] [] X := by
  refine ev_aload_n dX12_part__137 rfl ?_
  refine ev_dup dX12_part__138 rfl ?_
  refine ev_getI dX12_part__139 fo_12_172 (by omega) lo_133 rfl ?_
  refine ev_iconst (v := 1) dX12_part__142 ki_1 ?_
  refine ev_iadd dX12_part__143 ?_
  refine ev_putI dX12_part__144 fo_12_172 (by omega) lo_133 rfl rfl rfl ?_
  have hX1 : Sh _ (lx_up X 133 19 ((X 133 19) + 1)) := Sh.upF hX (by rw [lo_133]; decide) (by decide)
  refine ev_aload_n dX12_part__147 rfl ?_
  exact k
theorem bX12_part__151_0 {g : GG} {d n : Nat} {post : Option Value → LX → Prop} {X : LX} (hn : 146 ≤ n) (hX : Sh n X)  (hp : post none X) : Ev g mX12_part_ d n n post n 151 [some (.ref 133), none, none] [] X := by
  refine ev_goto (tgt := 273) dX12_part__151 (by decide) ?_
  exact ev_ret dX12_part__273 rfl hp
theorem bX12_part__160_0 {g : GG} {d n : Nat} {post : Option Value → LX → Prop} {X : LX} (hn : 146 ≤ n) (hX : Sh n X) {s0 : Int32} (c0 : ¬ s0 = 0) (c1 : ¬ 8 ≤ X 133 15) (k : Ev g mX12_part_ d n n post n 183 [some (.ref 133), none, none] [.ref 133] (lx_up X 133 15 ((X 133 15) + 1))) : Ev g mX12_part_ d n n post n 160 [some (.ref 133), none, none] [.int s0] X := by
  refine ev_ifF (tgt := 209) dX12_part__160 (by decide) c0 ?_
  refine ev_aload_n dX12_part__163 rfl ?_
  refine ev_getI dX12_part__164 fo_12_179 (by omega) lo_133 rfl ?_
  refine ev_bipush (v := 8) dX12_part__167 kb_8 ?_
  refine ev_icmpF (tgt := 209) dX12_part__169 (by decide) c1 ?_
  refine ev_aload_n dX12_part__172 rfl ?_
  refine ev_dup dX12_part__173 rfl ?_
  refine ev_getI dX12_part__174 fo_12_179 (by omega) lo_133 rfl ?_
  refine ev_iconst (v := 1) dX12_part__177 ki_1 ?_
  refine ev_iadd dX12_part__178 ?_
  refine ev_putI dX12_part__179 fo_12_179 (by omega) lo_133 rfl rfl rfl ?_
  have hX1 : Sh _ (lx_up X 133 15 ((X 133 15) + 1)) := Sh.upF hX (by rw [lo_133]; decide) (by decide)
  refine ev_aload_n dX12_part__182 rfl ?_
  exact k
theorem bX12_part__160_1 {g : GG} {d n : Nat} {post : Option Value → LX → Prop} {X : LX} (hn : 146 ≤ n) (hX : Sh n X) {s0 : Int32} (c0 : ¬ s0 = 0) (c1 : 8 ≤ X 133 15) (k : Ev g mX12_part_ d n n post n 212 [some (.ref 133), none, none] [.int 40, .ref 133] X) : Ev g mX12_part_ d n n post n 160 [some (.ref 133), none, none] [.int s0] X := by
  refine ev_ifF (tgt := 209) dX12_part__160 (by decide) c0 ?_
  refine ev_aload_n dX12_part__163 rfl ?_
  refine ev_getI dX12_part__164 fo_12_179 (by omega) lo_133 rfl ?_
  refine ev_bipush (v := 8) dX12_part__167 kb_8 ?_
  refine ev_icmpT (tgt := 209) dX12_part__169 (by decide) c1 ?_
  refine ev_aload_n dX12_part__209 rfl ?_
  refine ev_bipush (v := 40) dX12_part__210 kb_40 ?_
  exact k
theorem bX12_part__160_2 {g : GG} {d n : Nat} {post : Option Value → LX → Prop} {X : LX} (hn : 146 ≤ n) (hX : Sh n X) {s0 : Int32} (c0 : s0 = 0) (k : Ev g mX12_part_ d n n post n 212 [some (.ref 133), none, none] [.int 40, .ref 133] X) : Ev g mX12_part_ d n n post n 160 [some (.ref 133), none, none] [.int s0] X := by
  refine ev_ifT (tgt := 209) dX12_part__160 (by decide) c0 ?_
  refine ev_aload_n dX12_part__209 rfl ?_
  refine ev_bipush (v := 40) dX12_part__210 kb_40 ?_
  exact k
theorem bX12_part__186_0 {g : GG} {d n : Nat} {post : Option Value → LX → Prop} {X : LX} (hn : 146 ≤ n) (hX : Sh n X)  (k : Ev g mX12_part_ d n n post n 187 [some (.ref 133), none, none] [.ref 133] X) : Ev g mX12_part_ d n n post n 186 [some (.ref 133), none, none] [] X := by
  refine ev_aload_n dX12_part__186 rfl ?_
  exact k
theorem bX12_part__190_0 {g : GG} {d n : Nat} {post : Option Value → LX → Prop} {X : LX} (hn : 146 ≤ n) (hX : Sh n X)  (k : Ev g mX12_part_ d n n post n 203 [some (.ref 133), none, none] [.int 200009, .ref 133] (lx_up X 133 15 ((X 133 15) - 1))) : Ev g mX12_part_ d n n post n 190 [some (.ref 133), none, none] [] X := by
  refine ev_aload_n dX12_part__190 rfl ?_
  refine ev_dup dX12_part__191 rfl ?_
  refine ev_getI dX12_part__192 fo_12_179 (by omega) lo_133 rfl ?_
  refine ev_iconst (v := 1) dX12_part__195 ki_1 ?_
  refine ev_isub dX12_part__196 ?_
  refine ev_putI dX12_part__197 fo_12_179 (by omega) lo_133 rfl rfl rfl ?_
  have hX1 : Sh _ (lx_up X 133 15 ((X 133 15) - 1)) := Sh.upF hX (by rw [lo_133]; decide) (by decide)
  refine ev_aload_n dX12_part__200 rfl ?_
  refine ev_ldc (v := 200009) dX12_part__201 kw_12_185 ?_
  exact k
theorem bX12_part__206_0 {g : GG} {d n : Nat} {post : Option Value → LX → Prop} {X : LX} (hn : 146 ≤ n) (hX : Sh n X)  (hp : post none X) : Ev g mX12_part_ d n n post n 206 [some (.ref 133), none, none] [] X := by
  refine ev_goto (tgt := 273) dX12_part__206 (by decide) ?_
  exact ev_ret dX12_part__273 rfl hp
theorem bX12_part__215_0 {g : GG} {d n : Nat} {post : Option Value → LX → Prop} {X : LX} (hn : 146 ≤ n) (hX : Sh n X) {s0 : Int32} (c0 : ¬ s0 = 0) (c1 : ¬ 8 ≤ X 133 14) (k : Ev g mX12_part_ d n n post n 238 [some (.ref 133), none, none] [.ref 133] (lx_up X 133 14 ((X 133 14) + 1))) : Ev g mX12_part_ d n n post n 215 [some (.ref 133), none, none] [.int s0] X := by
  refine ev_ifF (tgt := 268) dX12_part__215 (by decide) c0 ?_
  refine ev_aload_n dX12_part__218 rfl ?_
  refine ev_getI dX12_part__219 fo_12_186 (by omega) lo_133 rfl ?_
  refine ev_bipush (v := 8) dX12_part__222 kb_8 ?_
  refine ev_icmpF (tgt := 268) dX12_part__224 (by decide) c1 ?_
  refine ev_aload_n dX12_part__227 rfl ?_
  refine ev_dup dX12_part__228 rfl ?_
  refine ev_getI dX12_part__229 fo_12_186 (by omega) lo_133 rfl ?_
  refine ev_iconst (v := 1) dX12_part__232 ki_1 ?_
  refine ev_iadd dX12_part__233 ?_
  refine ev_putI dX12_part__234 fo_12_186 (by omega) lo_133 rfl rfl rfl ?_
  have hX1 : Sh _ (lx_up X 133 14 ((X 133 14) + 1)) := Sh.upF hX (by rw [lo_133]; decide) (by decide)
  refine ev_aload_n dX12_part__237 rfl ?_
  exact k
theorem bX12_part__215_1 {g : GG} {d n : Nat} {post : Option Value → LX → Prop} {X : LX} (hn : 146 ≤ n) (hX : Sh n X) {s0 : Int32} (c0 : ¬ s0 = 0) (c1 : 8 ≤ X 133 14) (hp : post none (lx_up X 133 13 1)) : Ev g mX12_part_ d n n post n 215 [some (.ref 133), none, none] [.int s0] X := by
  refine ev_ifF (tgt := 268) dX12_part__215 (by decide) c0 ?_
  refine ev_aload_n dX12_part__218 rfl ?_
  refine ev_getI dX12_part__219 fo_12_186 (by omega) lo_133 rfl ?_
  refine ev_bipush (v := 8) dX12_part__222 kb_8 ?_
  refine ev_icmpT (tgt := 268) dX12_part__224 (by decide) c1 ?_
  refine ev_aload_n dX12_part__268 rfl ?_
  refine ev_iconst (v := 1) dX12_part__269 ki_1 ?_
  refine ev_putZ dX12_part__270 fo_12_140 (by omega) lo_133 rfl rfl rfl (by decide) ?_
  have hX1 : Sh _ (lx_up X 133 13 1) := Sh.upF hX (by rw [lo_133]; decide) (by decide)
  exact ev_ret dX12_part__273 rfl hp
theorem bX12_part__215_2 {g : GG} {d n : Nat} {post : Option Value → LX → Prop} {X : LX} (hn : 146 ≤ n) (hX : Sh n X) {s0 : Int32} (c0 : s0 = 0) (hp : post none (lx_up X 133 13 1)) : Ev g mX12_part_ d n n post n 215 [some (.ref 133), none, none] [.int s0] X := by
  refine ev_ifT (tgt := 268) dX12_part__215 (by decide) c0 ?_
  refine ev_aload_n dX12_part__268 rfl ?_
  refine ev_iconst (v := 1) dX12_part__269 ki_1 ?_
  refine ev_putZ dX12_part__270 fo_12_140 (by omega) lo_133 rfl rfl rfl (by decide) ?_
  have hX1 : Sh _ (lx_up X 133 13 1) := Sh.upF hX (by rw [lo_133]; decide) (by decide)
  exact ev_ret dX12_part__273 rfl hp
theorem bX12_part__241_0 {g : GG} {d n : Nat} {post : Option Value → LX → Prop} {X : LX} (hn : 146 ≤ n) (hX : Sh n X)  (k : Ev g mX12_part_ d n n post n 242 [some (.ref 133), none, none] [.ref 133] X) : Ev g mX12_part_ d n n post n 241 [some (.ref 133), none, none] [] X := by
  refine ev_aload_n dX12_part__241 rfl ?_
  exact k
theorem bX12_part__245_0 {g : GG} {d n : Nat} {post : Option Value → LX → Prop} {X : LX} (hn : 146 ≤ n) (hX : Sh n X)  (k : Ev g mX12_part_ d n n post n 249 [some (.ref 133), none, none] [.int 41, .ref 133, .ref 133] X) : Ev g mX12_part_ d n n post n 245 [some (.ref 133), none, none] [] X := by
  refine ev_aload_n dX12_part__245 rfl ?_
  refine ev_aload_n dX12_part__246 rfl ?_
  refine ev_bipush (v := 41) dX12_part__247 kb_41 ?_
  exact k
theorem bX12_part__252_0 {g : GG} {d n : Nat} {post : Option Value → LX → Prop} {X : LX} (hn : 146 ≤ n) (hX : Sh n X) {s1 : Int32} (k : Ev g mX12_part_ d n n post n 252 [some (.ref 133), none, none] [.int s1, .ref 133] X) : Ev g mX12_part_ d n n post n 252 [some (.ref 133), none, none] [.int s1, .ref 133] X := by
  exact k
theorem bX12_part__255_0 {g : GG} {d n : Nat} {post : Option Value → LX → Prop} {X : LX} (hn : 146 ≤ n) (hX : Sh n X)  (hp : post none (lx_up X 133 14 ((X 133 14) - 1))) : Ev g mX12_part_ d n n post n 255 [some (.ref 133), none, none] [] X := by
  refine ev_aload_n dX12_part__255 rfl ?_
  refine ev_dup dX12_part__256 rfl ?_
  refine ev_getI dX12_part__257 fo_12_186 (by omega) lo_133 rfl ?_
  refine ev_iconst (v := 1) dX12_part__260 ki_1 ?_
  refine ev_isub dX12_part__261 ?_
  refine ev_putI dX12_part__262 fo_12_186 (by omega) lo_133 rfl rfl rfl ?_
  have hX1 : Sh _ (lx_up X 133 14 ((X 133 14) - 1)) := Sh.upF hX (by rw [lo_133]; decide) (by decide)
  refine ev_goto (tgt := 273) dX12_part__265 (by decide) ?_
  exact ev_ret dX12_part__273 rfl hp
theorem bX12_term_0_0 {g : GG} {d n : Nat} {post : Option Value → LX → Prop} {X : LX} (hn : 146 ≤ n) (hX : Sh n X)  (k : Ev g mX12_term d n n post n 1 [some (.ref 133), none] [.ref 133] X) : Ev g mX12_term d n n post n 0 [some (.ref 133), none] [] X := by
  refine ev_aload_n dX12_term_0 rfl ?_
  exact k
theorem bX12_term_4_0 {g : GG} {d n : Nat} {post : Option Value → LX → Prop} {X : LX} (hn : 146 ≤ n) (hX : Sh n X)  (k : Ev g mX12_term d n n post n 9 [some (.ref 133), none] [.int 8, .int 7, .ref 133] X) : Ev g mX12_term d n n post n 4 [some (.ref 133), none] [] X := by
  refine ev_aload_n dX12_term_4 rfl ?_
  refine ev_bipush (v := 7) dX12_term_5 kb_7 ?_
  refine ev_bipush (v := 8) dX12_term_7 kb_8 ?_
  exact k
theorem bX12_term_12_0 {g : GG} {d n : Nat} {post : Option Value → LX → Prop} {X : LX} (hn : 146 ≤ n) (hX : Sh n X) {s0 : Int32} (k : Ev g mX12_term d n n post n 13 [some (.ref 133), some (.int s0)] [] X) : Ev g mX12_term d n n post n 12 [some (.ref 133), none] [.int s0] X := by
  refine ev_istore_n dX12_term_12 (by decide) ?_
  exact k
theorem bX12_term_13_0 {g : GG} {d n : Nat} {post : Option Value → LX → Prop} {X : LX} (hn : 146 ≤ n) (hX : Sh n X) {v1 : Int32} (c0 : ¬ v1 < 0) (k : Ev g mX12_term d n n post n 18 [some (.ref 133), some (.int v1)] [.ref 133] X) : Ev g mX12_term d n n post n 13 [some (.ref 133), some (.int v1)] [] X := by
  refine ev_iload_n dX12_term_13 rfl ?_
  refine ev_ifF (tgt := 45) dX12_term_14 (by decide) c0 ?_
  refine ev_aload_n dX12_term_17 rfl ?_
  exact k
theorem bX12_term_13_1 {g : GG} {d n : Nat} {post : Option Value → LX → Prop} {X : LX} (hn : 146 ≤ n) (hX : Sh n X) {v1 : Int32} (c0 : v1 < 0) (hp : post none X) : Ev g mX12_term d n n post n 13 [some (.ref 133), some (.int v1)] [] X := by
  refine ev_iload_n dX12_term_13 rfl ?_
  refine ev_ifT (tgt := 45) dX12_term_14 (by decide) c0 ?_
  exact ev_ret dX12_term_45 rfl hp
theorem bX12_term_21_0 {g : GG} {d n : Nat} {post : Option Value → LX → Prop} {X : LX} (hn : 146 ≤ n) (hX : Sh n X) {v1 : Int32} (k : Ev g mX12_term d n n post n 22 [some (.ref 133), some (.int v1)] [.ref 133] X) : Ev g mX12_term d n n post n 21 [some (.ref 133), some (.int v1)] [] X := by
  refine ev_aload_n dX12_term_21 rfl ?_
  exact k
theorem bX12_term_25_0 {g : GG} {d n : Nat} {post : Option Value → LX → Prop} {X : LX} (hn : 146 ≤ n) (hX : Sh n X) {v1 : Int32} (k : Ev g mX12_term d n n post n 30 [some (.ref 133), some (.int v1)] [.int (200000 + v1), .ref 133] X) : Ev g mX12_term d n n post n 25 [some (.ref 133), some (.int v1)] [] X := by
  refine ev_aload_n dX12_term_25 rfl ?_
  refine ev_ldc (v := 200000) dX12_term_26 kw_12_195 ?_
  refine ev_iload_n dX12_term_28 rfl ?_
  refine ev_iadd dX12_term_29 ?_
  exact k
theorem bX12_term_33_0 {g : GG} {d n : Nat} {post : Option Value → LX → Prop} {X : LX} (hn : 146 ≤ n) (hX : Sh n X) {v1 : Int32} (k : Ev g mX12_term d n n post n 38 [some (.ref 133), some (.int v1)] [.int 8, .int 7, .ref 133] X) : Ev g mX12_term d n n post n 33 [some (.ref 133), some (.int v1)] [] X := by
  refine ev_aload_n dX12_term_33 rfl ?_
  refine ev_bipush (v := 7) dX12_term_34 kb_7 ?_
  refine ev_bipush (v := 8) dX12_term_36 kb_8 ?_
  exact k
theorem bX12_term_41_0 {g : GG} {d n : Nat} {post : Option Value → LX → Prop} {X : LX} (hn : 146 ≤ n) (hX : Sh n X) {v1 : Int32} {s0 : Int32} (k : Ev g mX12_term d n n post n 13 [some (.ref 133), some (.int s0)] [] X) : Ev g mX12_term d n n post n 41 [some (.ref 133), some (.int v1)] [.int s0] X := by
  refine ev_istore_n dX12_term_41 (by decide) ?_
  refine ev_goto (tgt := 13) dX12_term_42 (by decide) ?_
  exact k
theorem bX12_sum_0_0 {g : GG} {d n : Nat} {post : Option Value → LX → Prop} {X : LX} (hn : 146 ≤ n) (hX : Sh n X)  (k : Ev g mX12_sum d n n post n 1 [some (.ref 133), none] [.ref 133] X) : Ev g mX12_sum d n n post n 0 [some (.ref 133), none] [] X := by
  refine ev_aload_n dX12_sum_0 rfl ?_
  exact k
theorem bX12_sum_4_0 {g : GG} {d n : Nat} {post : Option Value → LX → Prop} {X : LX} (hn : 146 ≤ n) (hX : Sh n X)  (k : Ev g mX12_sum d n n post n 8 [some (.ref 133), none] [.int 6, .int 5, .ref 133] X) : Ev g mX12_sum d n n post n 4 [some (.ref 133), none] [] X := by
  refine ev_aload_n dX12_sum_4 rfl ?_
  refine ev_iconst (v := 5) dX12_sum_5 ki_5 ?_
  refine ev_bipush (v := 6) dX12_sum_6 kb_6 ?_
  exact k
theorem bX12_sum_11_0 {g : GG} {d n : Nat} {post : Option Value → LX → Prop} {X : LX} (hn : 146 ≤ n) (hX : Sh n X) {s0 : Int32} (k : Ev g mX12_sum d n n post n 12 [some (.ref 133), some (.int s0)] [] X) : Ev g mX12_sum d n n post n 11 [some (.ref 133), none] [.int s0] X := by
  refine ev_istore_n dX12_sum_11 (by decide) ?_
  exact k
theorem bX12_sum_12_0 {g : GG} {d n : Nat} {post : Option Value → LX → Prop} {X : LX} (hn : 146 ≤ n) (hX : Sh n X) {v1 : Int32} (c0 : ¬ v1 < 0) (k : Ev g mX12_sum d n n post n 17 [some (.ref 133), some (.int v1)] [.ref 133] X) : Ev g mX12_sum d n n post n 12 [some (.ref 133), some (.int v1)] [] X := by
  refine ev_iload_n dX12_sum_12 rfl ?_
  refine ev_ifF (tgt := 43) dX12_sum_13 (by decide) c0 ?_
  refine ev_aload_n dX12_sum_16 rfl ?_
  exact k
theorem bX12_sum_12_1 {g : GG} {d n : Nat} {post : Option Value → LX → Prop} {X : LX} (hn : 146 ≤ n) (hX : Sh n X) {v1 : Int32} (c0 : v1 < 0) (hp : post none X) : Ev g mX12_sum d n n post n 12 [some (.ref 133), some (.int v1)] [] X := by
  refine ev_iload_n dX12_sum_12 rfl ?_
  refine ev_ifT (tgt := 43) dX12_sum_13 (by decide) c0 ?_
  exact ev_ret dX12_sum_43 rfl hp
theorem bX12_sum_20_0 {g : GG} {d n : Nat} {post : Option Value → LX → Prop} {X : LX} (hn : 146 ≤ n) (hX : Sh n X) {v1 : Int32} (k : Ev g mX12_sum d n n post n 21 [some (.ref 133), some (.int v1)] [.ref 133] X) : Ev g mX12_sum d n n post n 20 [some (.ref 133), some (.int v1)] [] X := by
  refine ev_aload_n dX12_sum_20 rfl ?_
  exact k
theorem bX12_sum_24_0 {g : GG} {d n : Nat} {post : Option Value → LX → Prop} {X : LX} (hn : 146 ≤ n) (hX : Sh n X) {v1 : Int32} (k : Ev g mX12_sum d n n post n 29 [some (.ref 133), some (.int v1)] [.int (200000 + v1), .ref 133] X) : Ev g mX12_sum d n n post n 24 [some (.ref 133), some (.int v1)] [] X := by
  refine ev_aload_n dX12_sum_24 rfl ?_
  refine ev_ldc (v := 200000) dX12_sum_25 kw_12_195 ?_
  refine ev_iload_n dX12_sum_27 rfl ?_
  refine ev_iadd dX12_sum_28 ?_
  exact k
theorem bX12_sum_32_0 {g : GG} {d n : Nat} {post : Option Value → LX → Prop} {X : LX} (hn : 146 ≤ n) (hX : Sh n X) {v1 : Int32} (k : Ev g mX12_sum d n n post n 36 [some (.ref 133), some (.int v1)] [.int 6, .int 5, .ref 133] X) : Ev g mX12_sum d n n post n 32 [some (.ref 133), some (.int v1)] [] X := by
  refine ev_aload_n dX12_sum_32 rfl ?_
  refine ev_iconst (v := 5) dX12_sum_33 ki_5 ?_
  refine ev_bipush (v := 6) dX12_sum_34 kb_6 ?_
  exact k
theorem bX12_sum_39_0 {g : GG} {d n : Nat} {post : Option Value → LX → Prop} {X : LX} (hn : 146 ≤ n) (hX : Sh n X) {v1 : Int32} {s0 : Int32} (k : Ev g mX12_sum d n n post n 12 [some (.ref 133), some (.int s0)] [] X) : Ev g mX12_sum d n n post n 39 [some (.ref 133), some (.int v1)] [.int s0] X := by
  refine ev_istore_n dX12_sum_39 (by decide) ?_
  refine ev_goto (tgt := 12) dX12_sum_40 (by decide) ?_
  exact k
theorem bX12_test_0_0 {g : GG} {d n : Nat} {post : Option Value → LX → Prop} {X : LX} (hn : 146 ≤ n) (hX : Sh n X)  (k : Ev g mX12_test d n n post n 1 [some (.ref 133), none] [.ref 133] X) : Ev g mX12_test d n n post n 0 [some (.ref 133), none] [] X := by
  refine ev_aload_n dX12_test_0 rfl ?_
  exact k
theorem bX12_test_4_0 {g : GG} {d n : Nat} {post : Option Value → LX → Prop} {X : LX} (hn : 146 ≤ n) (hX : Sh n X)  (k : Ev g mX12_test d n n post n 7 [some (.ref 133), none] [.int 4, .int 2, .ref 133] X) : Ev g mX12_test d n n post n 4 [some (.ref 133), none] [] X := by
  refine ev_aload_n dX12_test_4 rfl ?_
  refine ev_iconst (v := 2) dX12_test_5 ki_2 ?_
  refine ev_iconst (v := 4) dX12_test_6 ki_4 ?_
  exact k
theorem bX12_test_10_0 {g : GG} {d n : Nat} {post : Option Value → LX → Prop} {X : LX} (hn : 146 ≤ n) (hX : Sh n X) {s0 : Int32} (c0 : ¬ s0 < 0) (k : Ev g mX12_test d n n post n 16 [some (.ref 133), some (.int s0)] [.ref 133] X) : Ev g mX12_test d n n post n 10 [some (.ref 133), none] [.int s0] X := by
  refine ev_istore_n dX12_test_10 (by decide) ?_
  refine ev_iload_n dX12_test_11 rfl ?_
  refine ev_ifF (tgt := 31) dX12_test_12 (by decide) c0 ?_
  refine ev_aload_n dX12_test_15 rfl ?_
  exact k
theorem bX12_test_10_1 {g : GG} {d n : Nat} {post : Option Value → LX → Prop} {X : LX} (hn : 146 ≤ n) (hX : Sh n X) {s0 : Int32} (c0 : s0 < 0) (hp : post none X) : Ev g mX12_test d n n post n 10 [some (.ref 133), none] [.int s0] X := by
  refine ev_istore_n dX12_test_10 (by decide) ?_
  refine ev_iload_n dX12_test_11 rfl ?_
  refine ev_ifT (tgt := 31) dX12_test_12 (by decide) c0 ?_
  exact ev_ret dX12_test_31 rfl hp
theorem bX12_test_19_0 {g : GG} {d n : Nat} {post : Option Value → LX → Prop} {X : LX} (hn : 146 ≤ n) (hX : Sh n X) {v1 : Int32} (k : Ev g mX12_test d n n post n 20 [some (.ref 133), some (.int v1)] [.ref 133] X) : Ev g mX12_test d n n post n 19 [some (.ref 133), some (.int v1)] [] X := by
  refine ev_aload_n dX12_test_19 rfl ?_
  exact k
theorem bX12_test_23_0 {g : GG} {d n : Nat} {post : Option Value → LX → Prop} {X : LX} (hn : 146 ≤ n) (hX : Sh n X) {v1 : Int32} (k : Ev g mX12_test d n n post n 28 [some (.ref 133), some (.int v1)] [.int (200000 + v1), .ref 133] X) : Ev g mX12_test d n n post n 23 [some (.ref 133), some (.int v1)] [] X := by
  refine ev_aload_n dX12_test_23 rfl ?_
  refine ev_ldc (v := 200000) dX12_test_24 kw_12_195 ?_
  refine ev_iload_n dX12_test_26 rfl ?_
  refine ev_iadd dX12_test_27 ?_
  exact k
theorem bX12_test_31_0 {g : GG} {d n : Nat} {post : Option Value → LX → Prop} {X : LX} (hn : 146 ≤ n) (hX : Sh n X) {v1 : Int32} (hp : post none X) : Ev g mX12_test d n n post n 31 [some (.ref 133), some (.int v1)] [] X := by
  exact ev_ret dX12_test_31 rfl hp
theorem bX12_both_0_0 {g : GG} {d n : Nat} {post : Option Value → LX → Prop} {X : LX} (hn : 146 ≤ n) (hX : Sh n X)  (k : Ev g mX12_both d n n post n 1 [some (.ref 133)] [.ref 133] X) : Ev g mX12_both d n n post n 0 [some (.ref 133)] [] X := by
  refine ev_aload_n dX12_both_0 rfl ?_
  exact k
theorem bX12_both_4_0 {g : GG} {d n : Nat} {post : Option Value → LX → Prop} {X : LX} (hn : 146 ≤ n) (hX : Sh n X)  (k : Ev g mX12_both d n n post n 7 [some (.ref 133)] [.int 1, .int 1, .ref 133] X) : Ev g mX12_both d n n post n 4 [some (.ref 133)] [] X := by
  refine ev_aload_n dX12_both_4 rfl ?_
  refine ev_iconst (v := 1) dX12_both_5 ki_1 ?_
  refine ev_iconst (v := 1) dX12_both_6 ki_1 ?_
  exact k
theorem bX12_both_10_0 {g : GG} {d n : Nat} {post : Option Value → LX → Prop} {X : LX} (hn : 146 ≤ n) (hX : Sh n X) {s0 : Int32} (c0 : ¬ s0 < 0) (k : Ev g mX12_both d n n post n 14 [some (.ref 133)] [.ref 133] X) : Ev g mX12_both d n n post n 10 [some (.ref 133)] [.int s0] X := by
  refine ev_ifF (tgt := 30) dX12_both_10 (by decide) c0 ?_
  refine ev_aload_n dX12_both_13 rfl ?_
  exact k
theorem bX12_both_10_1 {g : GG} {d n : Nat} {post : Option Value → LX → Prop} {X : LX} (hn : 146 ≤ n) (hX : Sh n X) {s0 : Int32} (c0 : s0 < 0) (hp : post none X) : Ev g mX12_both d n n post n 10 [some (.ref 133)] [.int s0] X := by
  refine ev_ifT (tgt := 30) dX12_both_10 (by decide) c0 ?_
  exact ev_ret dX12_both_30 rfl hp
theorem bX12_both_17_0 {g : GG} {d n : Nat} {post : Option Value → LX → Prop} {X : LX} (hn : 146 ≤ n) (hX : Sh n X)  (k : Ev g mX12_both d n n post n 18 [some (.ref 133)] [.ref 133] X) : Ev g mX12_both d n n post n 17 [some (.ref 133)] [] X := by
  refine ev_aload_n dX12_both_17 rfl ?_
  exact k
theorem bX12_both_21_0 {g : GG} {d n : Nat} {post : Option Value → LX → Prop} {X : LX} (hn : 146 ≤ n) (hX : Sh n X)  (k : Ev g mX12_both d n n post n 24 [some (.ref 133)] [.int 200001, .ref 133] X) : Ev g mX12_both d n n post n 21 [some (.ref 133)] [] X := by
  refine ev_aload_n dX12_both_21 rfl ?_
  refine ev_ldc (v := 200001) dX12_both_22 kw_12_205 ?_
  exact k
theorem bX12_both_27_0 {g : GG} {d n : Nat} {post : Option Value → LX → Prop} {X : LX} (hn : 146 ≤ n) (hX : Sh n X)  (k : Ev g mX12_both d n n post n 4 [some (.ref 133)] [] X) : Ev g mX12_both d n n post n 27 [some (.ref 133)] [] X := by
  refine ev_goto (tgt := 4) dX12_both_27 (by decide) ?_
  exact k
theorem bX12_either_0_0 {g : GG} {d n : Nat} {post : Option Value → LX → Prop} {X : LX} (hn : 146 ≤ n) (hX : Sh n X)  (k : Ev g mX12_either d n n post n 1 [some (.ref 133)] [.ref 133] X) : Ev g mX12_either d n n post n 0 [some (.ref 133)] [] X := by
  refine ev_aload_n dX12_either_0 rfl ?_
  exact k
theorem bX12_either_4_0 {g : GG} {d n : Nat} {post : Option Value → LX → Prop} {X : LX} (hn : 146 ≤ n) (hX : Sh n X)  (k : Ev g mX12_either d n n post n 7 [some (.ref 133)] [.int 0, .int 0, .ref 133] X) : Ev g mX12_either d n n post n 4 [some (.ref 133)] [] X := by
  refine ev_aload_n dX12_either_4 rfl ?_
  refine ev_iconst (v := 0) dX12_either_5 ki_0 ?_
  refine ev_iconst (v := 0) dX12_either_6 ki_0 ?_
  exact k
theorem bX12_either_10_0 {g : GG} {d n : Nat} {post : Option Value → LX → Prop} {X : LX} (hn : 146 ≤ n) (hX : Sh n X) {s0 : Int32} (c0 : ¬ s0 < 0) (k : Ev g mX12_either d n n post n 14 [some (.ref 133)] [.ref 133] X) : Ev g mX12_either d n n post n 10 [some (.ref 133)] [.int s0] X := by
  refine ev_ifF (tgt := 30) dX12_either_10 (by decide) c0 ?_
  refine ev_aload_n dX12_either_13 rfl ?_
  exact k
theorem bX12_either_10_1 {g : GG} {d n : Nat} {post : Option Value → LX → Prop} {X : LX} (hn : 146 ≤ n) (hX : Sh n X) {s0 : Int32} (c0 : s0 < 0) (hp : post none X) : Ev g mX12_either d n n post n 10 [some (.ref 133)] [.int s0] X := by
  refine ev_ifT (tgt := 30) dX12_either_10 (by decide) c0 ?_
  exact ev_ret dX12_either_30 rfl hp
theorem bX12_either_17_0 {g : GG} {d n : Nat} {post : Option Value → LX → Prop} {X : LX} (hn : 146 ≤ n) (hX : Sh n X)  (k : Ev g mX12_either d n n post n 18 [some (.ref 133)] [.ref 133] X) : Ev g mX12_either d n n post n 17 [some (.ref 133)] [] X := by
  refine ev_aload_n dX12_either_17 rfl ?_
  exact k
theorem bX12_either_21_0 {g : GG} {d n : Nat} {post : Option Value → LX → Prop} {X : LX} (hn : 146 ≤ n) (hX : Sh n X)  (k : Ev g mX12_either d n n post n 24 [some (.ref 133)] [.int 200000, .ref 133] X) : Ev g mX12_either d n n post n 21 [some (.ref 133)] [] X := by
  refine ev_aload_n dX12_either_21 rfl ?_
  refine ev_ldc (v := 200000) dX12_either_22 kw_12_195 ?_
  exact k
theorem bX12_either_27_0 {g : GG} {d n : Nat} {post : Option Value → LX → Prop} {X : LX} (hn : 146 ≤ n) (hX : Sh n X)  (k : Ev g mX12_either d n n post n 4 [some (.ref 133)] [] X) : Ev g mX12_either d n n post n 27 [some (.ref 133)] [] X := by
  refine ev_goto (tgt := 4) dX12_either_27 (by decide) ?_
  exact k
theorem bX11_law_0_0 {g : GG} {d n : Nat} {post : Option Value → LX → Prop} {X : LX} (hn : 146 ≤ n) (hX : Sh n X)  (k : Ev g mX11_law d n n post n 4 [some (.ref 0)] [.ref 81] X) : Ev g mX11_law d n n post n 0 [some (.ref 0)] [] X := by
  refine ev_aload_n dX11_law_0 rfl ?_
  refine ev_getS (q := 81) dX11_law_1 fo_11_19 (by omega) lo_0 rfl (sh_0_1 hX (by omega)) (by decide) ?_
  exact k
theorem bX11_law_7_0 {g : GG} {d n : Nat} {post : Option Value → LX → Prop} {X : LX} (hn : 146 ≤ n) (hX : Sh n X)  (c0 : ¬ X 81 6 < 0) (hp : post (some (.int ((-100) - (X 81 6)))) (lx_up X 81 1 0)) : Ev g mX11_law d n n post n 7 [some (.ref 0)] [] X := by
  refine ev_aload_n dX11_law_7 rfl ?_
  refine ev_getS (q := 81) dX11_law_8 fo_11_19 (by omega) lo_0 rfl (sh_0_1 hX (by omega)) (by decide) ?_
  refine ev_iconst (v := 0) dX11_law_11 ki_0 ?_
  refine ev_putI dX11_law_12 fo_11_215 (by omega) lo_81 rfl rfl rfl ?_
  have hX1 : Sh _ (lx_up X 81 1 0) := Sh.upF hX (by rw [lo_81]; decide) (by decide)
  refine ev_aload_n dX11_law_15 rfl ?_
  refine ev_getS (q := 81) dX11_law_16 fo_11_19 (by omega) lo_0 rfl (sh_0_1 hX1 (by omega)) (by decide) ?_
  refine ev_getI dX11_law_19 fo_11_225 (by omega) lo_81 rfl ?_
  refine ev_ifF (tgt := 36) dX11_law_22 (by decide) c0 ?_
  refine ev_bipush (v := (-100)) dX11_law_25 kb_m100 ?_
  refine ev_aload_n dX11_law_27 rfl ?_
  refine ev_getS (q := 81) dX11_law_28 fo_11_19 (by omega) lo_0 rfl (sh_0_1 hX1 (by omega)) (by decide) ?_
  refine ev_getI dX11_law_31 fo_11_225 (by omega) lo_81 rfl ?_
  refine ev_isub dX11_law_34 ?_
  exact ev_iret dX11_law_35 rfl rfl hp
theorem bX11_law_7_1 {g : GG} {d n : Nat} {post : Option Value → LX → Prop} {X : LX} (hn : 146 ≤ n) (hX : Sh n X)  (c0 : X 81 6 < 0) (k : Ev g mX11_law d n n post n 64 [some (.ref 0)] [.int (X 81 4), .int (X 81 3), .ref 83, .ref 77] (lx_up X 81 1 0)) : Ev g mX11_law d n n post n 7 [some (.ref 0)] [] X := by
  refine ev_aload_n dX11_law_7 rfl ?_
  refine ev_getS (q := 81) dX11_law_8 fo_11_19 (by omega) lo_0 rfl (sh_0_1 hX (by omega)) (by decide) ?_
  refine ev_iconst (v := 0) dX11_law_11 ki_0 ?_
  refine ev_putI dX11_law_12 fo_11_215 (by omega) lo_81 rfl rfl rfl ?_
  have hX1 : Sh _ (lx_up X 81 1 0) := Sh.upF hX (by rw [lo_81]; decide) (by decide)
  refine ev_aload_n dX11_law_15 rfl ?_
  refine ev_getS (q := 81) dX11_law_16 fo_11_19 (by omega) lo_0 rfl (sh_0_1 hX1 (by omega)) (by decide) ?_
  refine ev_getI dX11_law_19 fo_11_225 (by omega) lo_81 rfl ?_
  refine ev_ifT (tgt := 36) dX11_law_22 (by decide) c0 ?_
  refine ev_aload_n dX11_law_36 rfl ?_
  refine ev_getS (q := 1) dX11_law_37 fo_11_10 (by omega) lo_0 rfl (sh_0_0 hX1 (by omega)) (by decide) ?_
  refine ev_getS (q := 77) dX11_law_40 fo_11_228 (by omega) lo_1 rfl (sh_1_4 hX1 (by omega)) (by decide) ?_
  refine ev_aload_n dX11_law_43 rfl ?_
  refine ev_getS (q := 81) dX11_law_44 fo_11_19 (by omega) lo_0 rfl (sh_0_1 hX1 (by omega)) (by decide) ?_
  refine ev_getS (q := 83) dX11_law_47 fo_11_232 (by omega) lo_81 rfl (sh_81_2 hX1 (by omega)) (by decide) ?_
  refine ev_aload_n dX11_law_50 rfl ?_
  refine ev_getS (q := 81) dX11_law_51 fo_11_19 (by omega) lo_0 rfl (sh_0_1 hX1 (by omega)) (by decide) ?_
  refine ev_getI dX11_law_54 fo_11_235 (by omega) lo_81 rfl ?_
  refine ev_aload_n dX11_law_57 rfl ?_
  refine ev_getS (q := 81) dX11_law_58 fo_11_19 (by omega) lo_0 rfl (sh_0_1 hX1 (by omega)) (by decide) ?_
  refine ev_getI dX11_law_61 fo_11_236 (by omega) lo_81 rfl ?_
  exact k
theorem bX11_law_67_0 {g : GG} {d n : Nat} {post : Option Value → LX → Prop} {X : LX} (hn : 146 ≤ n) (hX : Sh n X)  (hp : post (some (.int (X 81 5))) X) : Ev g mX11_law d n n post n 67 [some (.ref 0)] [] X := by
  refine ev_aload_n dX11_law_67 rfl ?_
  refine ev_getS (q := 81) dX11_law_68 fo_11_19 (by omega) lo_0 rfl (sh_0_1 hX (by omega)) (by decide) ?_
  refine ev_getI dX11_law_71 fo_11_245 (by omega) lo_81 rfl ?_
  exact ev_iret dX11_law_74 rfl rfl hp
theorem bX12_law_0_0 {g : GG} {d n : Nat} {post : Option Value → LX → Prop} {X : LX} (hn : 146 ≤ n) (hX : Sh n X)  (k : Ev g mX12_law d n n post n 36 [some (.ref 133), none, none] [.ref 133] (lx_up (lx_up (lx_up (lx_up (lx_up (lx_up (lx_up X 133 11 0) 133 12 0) 133 13 0) 133 14 0) 133 15 0) 133 18 0) 133 19 0)) : Ev g mX12_law d n n post n 0 [some (.ref 133), none, none] [] X := by
  refine ev_aload_n dX12_law_0 rfl ?_
  refine ev_iconst (v := 0) dX12_law_1 ki_0 ?_
  refine ev_putI dX12_law_2 fo_12_128 (by omega) lo_133 rfl rfl rfl ?_
  have hX1 : Sh _ (lx_up X 133 11 0) := Sh.upF hX (by rw [lo_133]; decide) (by decide)
  refine ev_aload_n dX12_law_5 rfl ?_
  refine ev_iconst (v := 0) dX12_law_6 ki_0 ?_
  refine ev_putI dX12_law_7 fo_12_125 (by omega) lo_133 rfl rfl rfl ?_
  have hX2 : Sh _ (lx_up (lx_up X 133 11 0) 133 12 0) := Sh.upF hX1 (by rw [lo_133]; decide) (by decide)
  refine ev_aload_n dX12_law_10 rfl ?_
  refine ev_iconst (v := 0) dX12_law_11 ki_0 ?_
  refine ev_putZ dX12_law_12 fo_12_140 (by omega) lo_133 rfl rfl rfl (by decide) ?_
  have hX3 : Sh _ (lx_up (lx_up (lx_up X 133 11 0) 133 12 0) 133 13 0) := Sh.upF hX2 (by rw [lo_133]; decide) (by decide)
  refine ev_aload_n dX12_law_15 rfl ?_
  refine ev_iconst (v := 0) dX12_law_16 ki_0 ?_
  refine ev_putI dX12_law_17 fo_12_186 (by omega) lo_133 rfl rfl rfl ?_
  have hX4 : Sh _ (lx_up (lx_up (lx_up (lx_up X 133 11 0) 133 12 0) 133 13 0) 133 14 0) := Sh.upF hX3 (by rw [lo_133]; decide) (by decide)
  refine ev_aload_n dX12_law_20 rfl ?_
  refine ev_iconst (v := 0) dX12_law_21 ki_0 ?_
  refine ev_putI dX12_law_22 fo_12_179 (by omega) lo_133 rfl rfl rfl ?_
  have hX5 : Sh _ (lx_up (lx_up (lx_up (lx_up (lx_up X 133 11 0) 133 12 0) 133 13 0) 133 14 0) 133 15 0) := Sh.upF hX4 (by rw [lo_133]; decide) (by decide)
  refine ev_aload_n dX12_law_25 rfl ?_
  refine ev_iconst (v := 0) dX12_law_26 ki_0 ?_
  refine ev_putI dX12_law_27 fo_12_160 (by omega) lo_133 rfl rfl rfl ?_
  have hX6 : Sh _ (lx_up (lx_up (lx_up (lx_up (lx_up (lx_up X 133 11 0) 133 12 0) 133 13 0) 133 14 0) 133 15 0) 133 18 0) := Sh.upF hX5 (by rw [lo_133]; decide) (by decide)
  refine ev_aload_n dX12_law_30 rfl ?_
  refine ev_iconst (v := 0) dX12_law_31 ki_0 ?_
  refine ev_putI dX12_law_32 fo_12_172 (by omega) lo_133 rfl rfl rfl ?_
  have hX7 : Sh _ (lx_up (lx_up (lx_up (lx_up (lx_up (lx_up (lx_up X 133 11 0) 133 12 0) 133 13 0) 133 14 0) 133 15 0) 133 18 0) 133 19 0) := Sh.upF hX6 (by rw [lo_133]; decide) (by decide)
  refine ev_aload_n dX12_law_35 rfl ?_
  exact k
theorem bX12_law_39_0 {g : GG} {d n : Nat} {post : Option Value → LX → Prop} {X : LX} (hn : 146 ≤ n) (hX : Sh n X)  (k : Ev g mX12_law d n n post n 48 [some (.ref 133), none, none] [.ref 1001, .ref 133] (lx_up X 133 16 (rE 1000))) : Ev g mX12_law d n n post n 39 [some (.ref 133), none, none] [] X := by
  refine ev_aload_n dX12_law_39 rfl ?_
  refine ev_ldcS (t := 0) dX12_law_40 sw_12_209 rfl rfl rfl ?_
  refine ev_putR dX12_law_42 fo_12_33 (by omega) lo_133 rfl (Or.inl ⟨_, rfl⟩) (Or.inl rfl) (by omega) ?_
  have hX1 : Sh _ (lx_up X 133 16 (rE 1000)) := Sh.upF hX (by rw [lo_133]; decide) (by decide)
  refine ev_aload_n dX12_law_45 rfl ?_
  refine ev_ldcS (t := 1) dX12_law_46 sw_12_211 rfl rfl rfl ?_
  exact k
theorem bX12_law_51_0 {g : GG} {d n : Nat} {post : Option Value → LX → Prop} {X : LX} (hn : 146 ≤ n) (hX : Sh n X)  (k : Ev g mX12_law d n n post n 52 [some (.ref 133), none, none] [.ref 133] X) : Ev g mX12_law d n n post n 51 [some (.ref 133), none, none] [] X := by
  refine ev_aload_n dX12_law_51 rfl ?_
  exact k
theorem bX12_law_55_0 {g : GG} {d n : Nat} {post : Option Value → LX → Prop} {X : LX} (hn : 146 ≤ n) (hX : Sh n X)  (k : Ev g mX12_law d n n post n 58 [some (.ref 133), none, none] [.int 300000, .ref 133] X) : Ev g mX12_law d n n post n 55 [some (.ref 133), none, none] [] X := by
  refine ev_aload_n dX12_law_55 rfl ?_
  refine ev_ldc (v := 300000) dX12_law_56 kw_12_217 ?_
  exact k
theorem bX12_law_61_0 {g : GG} {d n : Nat} {post : Option Value → LX → Prop} {X : LX} (hn : 146 ≤ n) (hX : Sh n X)  (k : Ev g mX12_law d n n post n 70 [some (.ref 133), none, none] [.ref 1011, .ref 133] (lx_up X 133 16 (rE 1010))) : Ev g mX12_law d n n post n 61 [some (.ref 133), none, none] [] X := by
  refine ev_aload_n dX12_law_61 rfl ?_
  refine ev_ldcS (t := 10) dX12_law_62 sw_12_218 rfl rfl rfl ?_
  refine ev_putR dX12_law_64 fo_12_33 (by omega) lo_133 rfl (Or.inl ⟨_, rfl⟩) (Or.inl rfl) (by omega) ?_
  have hX1 : Sh _ (lx_up X 133 16 (rE 1010)) := Sh.upF hX (by rw [lo_133]; decide) (by decide)
  refine ev_aload_n dX12_law_67 rfl ?_
  refine ev_ldcS (t := 11) dX12_law_68 sw_12_220 rfl rfl rfl ?_
  exact k
theorem bX12_law_73_0 {g : GG} {d n : Nat} {post : Option Value → LX → Prop} {X : LX} (hn : 146 ≤ n) (hX : Sh n X)  (k : Ev g mX12_law d n n post n 74 [some (.ref 133), none, none] [.ref 133] X) : Ev g mX12_law d n n post n 73 [some (.ref 133), none, none] [] X := by
  refine ev_aload_n dX12_law_73 rfl ?_
  exact k
theorem bX12_law_77_0 {g : GG} {d n : Nat} {post : Option Value → LX → Prop} {X : LX} (hn : 146 ≤ n) (hX : Sh n X)  (k : Ev g mX12_law d n n post n 80 [some (.ref 133), none, none] [.int 300000, .ref 133] X) : Ev g mX12_law d n n post n 77 [some (.ref 133), none, none] [] X := by
  refine ev_aload_n dX12_law_77 rfl ?_
  refine ev_ldc (v := 300000) dX12_law_78 kw_12_217 ?_
  exact k
theorem bX12_law_83_0 {g : GG} {d n : Nat} {post : Option Value → LX → Prop} {X : LX} (hn : 146 ≤ n) (hX : Sh n X)  (c0 : X 133 13 = 0) (c1 : ¬ X 133 12 = 0) (hp : post (some (.int ((-100) - (X 133 10)))) (lx_up (lx_up X 133 13 1) 133 4 0)) : Ev g mX12_law d n n post n 83 [some (.ref 133), none, none] [] X := by
  refine ev_aload_n dX12_law_83 rfl ?_
  refine ev_aload_n dX12_law_84 rfl ?_
  refine ev_getI dX12_law_85 fo_12_140 (by omega) lo_133 rfl ?_
  refine ev_ifF (tgt := 98) dX12_law_88 (by decide) c0 ?_
  refine ev_aload_n dX12_law_91 rfl ?_
  refine ev_getI dX12_law_92 fo_12_125 (by omega) lo_133 rfl ?_
  refine ev_ifF (tgt := 102) dX12_law_95 (by decide) c1 ?_
  refine ev_iconst (v := 1) dX12_law_98 ki_1 ?_
  refine ev_goto (tgt := 103) dX12_law_99 (by decide) ?_
  refine ev_putZ dX12_law_103 fo_12_140 (by omega) lo_133 rfl rfl rfl (by decide) ?_
  have hX1 : Sh _ (lx_up X 133 13 1) := Sh.upF hX (by rw [lo_133]; decide) (by decide)
  refine ev_aload_n dX12_law_106 rfl ?_
  refine ev_getI dX12_law_107 fo_12_131 (by omega) lo_133 rfl ?_
  refine ev_istore_n dX12_law_110 (by decide) ?_
  refine ev_aload_n dX12_law_111 rfl ?_
  refine ev_iconst (v := 0) dX12_law_112 ki_0 ?_
  refine ev_putI dX12_law_113 fo_12_121 (by omega) lo_133 rfl rfl rfl ?_
  have hX2 : Sh _ (lx_up (lx_up X 133 13 1) 133 4 0) := Sh.upF hX1 (by rw [lo_133]; decide) (by decide)
  refine ev_aload_n dX12_law_116 rfl ?_
  refine ev_getI dX12_law_117 fo_12_140 (by omega) lo_133 rfl ?_
  refine ev_ifF (tgt := 128) dX12_law_120 (by decide) (by show ¬ (1 : Int32) = 0; decide) ?_
  refine ev_bipush (v := (-100)) dX12_law_123 kb_m100 ?_
  refine ev_iload_n dX12_law_125 rfl ?_
  refine ev_isub dX12_law_126 ?_
  exact ev_iret dX12_law_127 rfl rfl hp
theorem bX12_law_83_1 {g : GG} {d n : Nat} {post : Option Value → LX → Prop} {X : LX} (hn : 146 ≤ n) (hX : Sh n X)  (c0 : X 133 13 = 0) (c1 : X 133 12 = 0) (k : Ev g mX12_law d n n post n 130 [some (.ref 133), some (.int (X 133 10)), some (.int 0)] [] (lx_up (lx_up X 133 13 0) 133 4 0)) : Ev g mX12_law d n n post n 83 [some (.ref 133), none, none] [] X := by
  refine ev_aload_n dX12_law_83 rfl ?_
  refine ev_aload_n dX12_law_84 rfl ?_
  refine ev_getI dX12_law_85 fo_12_140 (by omega) lo_133 rfl ?_
  refine ev_ifF (tgt := 98) dX12_law_88 (by decide) c0 ?_
  refine ev_aload_n dX12_law_91 rfl ?_
  refine ev_getI dX12_law_92 fo_12_125 (by omega) lo_133 rfl ?_
  refine ev_ifT (tgt := 102) dX12_law_95 (by decide) c1 ?_
  refine ev_iconst (v := 0) dX12_law_102 ki_0 ?_
  refine ev_putZ dX12_law_103 fo_12_140 (by omega) lo_133 rfl rfl rfl (by decide) ?_
  have hX1 : Sh _ (lx_up X 133 13 0) := Sh.upF hX (by rw [lo_133]; decide) (by decide)
  refine ev_aload_n dX12_law_106 rfl ?_
  refine ev_getI dX12_law_107 fo_12_131 (by omega) lo_133 rfl ?_
  refine ev_istore_n dX12_law_110 (by decide) ?_
  refine ev_aload_n dX12_law_111 rfl ?_
  refine ev_iconst (v := 0) dX12_law_112 ki_0 ?_
  refine ev_putI dX12_law_113 fo_12_121 (by omega) lo_133 rfl rfl rfl ?_
  have hX2 : Sh _ (lx_up (lx_up X 133 13 0) 133 4 0) := Sh.upF hX1 (by rw [lo_133]; decide) (by decide)
  refine ev_aload_n dX12_law_116 rfl ?_
  refine ev_getI dX12_law_117 fo_12_140 (by omega) lo_133 rfl ?_
  refine ev_ifT (tgt := 128) dX12_law_120 (by decide) (by show (0 : Int32) = 0; decide) ?_
  refine ev_iconst (v := 0) dX12_law_128 ki_0 ?_
  refine ev_istore_n dX12_law_129 (by decide) ?_
  exact k
theorem bX12_law_83_2 {g : GG} {d n : Nat} {post : Option Value → LX → Prop} {X : LX} (hn : 146 ≤ n) (hX : Sh n X)  (c0 : ¬ X 133 13 = 0) (hp : post (some (.int ((-100) - (X 133 10)))) (lx_up (lx_up X 133 13 1) 133 4 0)) : Ev g mX12_law d n n post n 83 [some (.ref 133), none, none] [] X := by
  refine ev_aload_n dX12_law_83 rfl ?_
  refine ev_aload_n dX12_law_84 rfl ?_
  refine ev_getI dX12_law_85 fo_12_140 (by omega) lo_133 rfl ?_
  refine ev_ifT (tgt := 98) dX12_law_88 (by decide) c0 ?_
  refine ev_iconst (v := 1) dX12_law_98 ki_1 ?_
  refine ev_goto (tgt := 103) dX12_law_99 (by decide) ?_
  refine ev_putZ dX12_law_103 fo_12_140 (by omega) lo_133 rfl rfl rfl (by decide) ?_
  have hX1 : Sh _ (lx_up X 133 13 1) := Sh.upF hX (by rw [lo_133]; decide) (by decide)
  refine ev_aload_n dX12_law_106 rfl ?_
  refine ev_getI dX12_law_107 fo_12_131 (by omega) lo_133 rfl ?_
  refine ev_istore_n dX12_law_110 (by decide) ?_
  refine ev_aload_n dX12_law_111 rfl ?_
  refine ev_iconst (v := 0) dX12_law_112 ki_0 ?_
  refine ev_putI dX12_law_113 fo_12_121 (by omega) lo_133 rfl rfl rfl ?_
  have hX2 : Sh _ (lx_up (lx_up X 133 13 1) 133 4 0) := Sh.upF hX1 (by rw [lo_133]; decide) (by decide)
  refine ev_aload_n dX12_law_116 rfl ?_
  refine ev_getI dX12_law_117 fo_12_140 (by omega) lo_133 rfl ?_
  refine ev_ifF (tgt := 128) dX12_law_120 (by decide) (by show ¬ (1 : Int32) = 0; decide) ?_
  refine ev_bipush (v := (-100)) dX12_law_123 kb_m100 ?_
  refine ev_iload_n dX12_law_125 rfl ?_
  refine ev_isub dX12_law_126 ?_
  exact ev_iret dX12_law_127 rfl rfl hp
theorem bX12_law_130_0 {g : GG} {d n : Nat} {post : Option Value → LX → Prop} {X : LX} (hn : 146 ≤ n) (hX : Sh n X) {v1 : Int32} {v2 : Nat} (c0 : ¬ X 133 18 ≤ nI v2) (b0 : v2 < 128) (b1 : (2028 + v2) < 2156) (k : Ev g mX12_law d n n post n 130 [some (.ref 133), some (.int v1), some (.int ((nI v2) + 1))] [] (lx_up X 134 (2028 + v2) (X 141 v2))) : Ev g mX12_law d n n post n 130 [some (.ref 133), some (.int v1), some (.int (nI v2))] [] X := by
  refine ev_iload_n dX12_law_130 rfl ?_
  refine ev_aload_n dX12_law_131 rfl ?_
  refine ev_getI dX12_law_132 fo_12_160 (by omega) lo_133 rfl ?_
  refine ev_icmpF (tgt := 160) dX12_law_135 (by decide) c0 ?_
  refine ev_aload_n dX12_law_138 rfl ?_
  refine ev_getS (q := 134) dX12_law_139 fo_12_9 (by omega) lo_133 rfl (sh_133_0 hX (by omega)) (by decide) ?_
  refine ev_sipush (v := 2028) dX12_law_142 ks_2028 ?_
  refine ev_iload_n dX12_law_145 rfl ?_
  refine ev_iadd dX12_law_146 ?_
  refine ev_aload_n dX12_law_147 rfl ?_
  refine ev_getS (q := 141) dX12_law_148 fo_12_37 (by omega) lo_133 rfl (sh_133_17 hX (by omega)) (by decide) ?_
  refine ev_iload_n dX12_law_151 rfl ?_
  refine ev_iald dX12_law_152 (by omega) ly_141 rfl b0 ?_
  refine ev_iast dX12_law_153 (by omega) ly_134 (by show nI 2028 + nI v2 = nI (2028 + v2); simp only [pk_mul, nI_add]) b1 ?_
  have hX1 : Sh _ (lx_up X 134 (2028 + v2) (X 141 v2)) := Sh.upA hX (by rw [ly_134]; exact (by decide : 0 < 2))
  refine ev_iinc (v := (nI v2) + 1) dX12_law_154 rfl (by rw [show Int32.ofInt 1 = 1 from ki_1]) (by decide) ?_
  refine ev_goto (tgt := 130) dX12_law_157 (by decide) ?_
  exact k
theorem bX12_law_130_1 {g : GG} {d n : Nat} {post : Option Value → LX → Prop} {X : LX} (hn : 146 ≤ n) (hX : Sh n X) {v1 : Int32} {v2 : Int32} (c0 : X 133 18 ≤ v2) (hp : post (some (.int (X 133 19))) (lx_up X 134 2 1)) : Ev g mX12_law d n n post n 130 [some (.ref 133), some (.int v1), some (.int v2)] [] X := by
  refine ev_iload_n dX12_law_130 rfl ?_
  refine ev_aload_n dX12_law_131 rfl ?_
  refine ev_getI dX12_law_132 fo_12_160 (by omega) lo_133 rfl ?_
  refine ev_icmpT (tgt := 160) dX12_law_135 (by decide) c0 ?_
  refine ev_aload_n dX12_law_160 rfl ?_
  refine ev_getS (q := 134) dX12_law_161 fo_12_9 (by omega) lo_133 rfl (sh_133_0 hX (by omega)) (by decide) ?_
  refine ev_iconst (v := 2) dX12_law_164 ki_2 ?_
  refine ev_iconst (v := 1) dX12_law_165 ki_1 ?_
  refine ev_iast dX12_law_166 (by omega) ly_134 nIl_2 (by decide) ?_
  have hX1 : Sh _ (lx_up X 134 2 1) := Sh.upA hX (by rw [ly_134]; exact (by decide : 0 < 2))
  refine ev_aload_n dX12_law_167 rfl ?_
  refine ev_getI dX12_law_168 fo_12_172 (by omega) lo_133 rfl ?_
  exact ev_iret dX12_law_171 rfl rfl hp
theorem bX2_takeCodeL_0_0 {g : GG} {d n : Nat} {post : Option Value → LX → Prop} {X : LX} (hd : 2 ≤ d) (hn : 146 ≤ n) (hX : Sh n X) {v2 : Int32} {v3 : Int32} (hp : post none (lx_up (lx_up (lx_up (lx_row X 78 (va_cpy (X 83) (X 78) 0 0 120)) 77 1 (if 120 < v2 then 120 else v2)) 77 2 (if (if 120 < v2 then 120 else v2) < v3 then (if 120 < v2 then 120 else v2) else v3)) 77 0 1)) : Ev g mX2_takeCode d n n post n 0 [some (.ref 77), some (.ref 83), some (.int v2), some (.int v3)] [] X := by
  refine ev_aload_n dX2_takeCode_0 rfl ?_
  refine ev_aload_n dX2_takeCode_1 rfl ?_
  refine ev_getS (q := 78) dX2_takeCode_2 fo_2_9 (by omega) lo_77 rfl (sh_77_3 hX (by omega)) (by decide) ?_
  refine e_SNv (as := [.ref 83, .ref 78]) (rest := []) dX2_takeCode_5 vX11_copyRow ml_2_21 rfl rfl rfl stX11_copyRow npX11_copyRow (by decide) rfl (Nat.le_of_ble_eq_true rfl) (by omega) (c_X11_copyRow (d := d - 1) (by omega) (by omega) hX (by omega) ly_83 (by omega) ly_78) ?_
  have hX1 : Sh _ (lx_row X 78 (va_cpy (X 83) (X 78) 0 0 120)) := Sh.row hX (by rw [ly_78]; exact (by decide : 0 < 2))
  refine ev_aload_n dX2_takeCode_8 rfl ?_
  refine ev_iload_n dX2_takeCode_9 rfl ?_
  refine ev_bipush (v := 120) dX2_takeCode_10 kb_120 ?_
  refine e_min dX2_takeCode_12 mm_2_25 mn_st mx_in mn_co (Nat.le_of_ble_eq_true rfl) (by omega) ?_
  refine ev_putI dX2_takeCode_15 fo_2_31 (by omega) lo_77 rfl rfl rfl ?_
  have hX2 : Sh _ (lx_up (lx_row X 78 (va_cpy (X 83) (X 78) 0 0 120)) 77 1 (if 120 < v2 then 120 else v2)) := Sh.upF hX1 (by rw [lo_77]; decide) (by decide)
  refine ev_aload_n dX2_takeCode_18 rfl ?_
  refine ev_iload_n dX2_takeCode_19 rfl ?_
  refine ev_aload_n dX2_takeCode_20 rfl ?_
  refine ev_getI dX2_takeCode_21 fo_2_31 (by omega) lo_77 rfl ?_
  refine e_min dX2_takeCode_24 mm_2_25 mn_st mx_in mn_co (Nat.le_of_ble_eq_true rfl) (by omega) ?_
  refine ev_putI dX2_takeCode_27 fo_2_35 (by omega) lo_77 rfl rfl rfl ?_
  have hX3 : Sh _ (lx_up (lx_up (lx_row X 78 (va_cpy (X 83) (X 78) 0 0 120)) 77 1 (if 120 < v2 then 120 else v2)) 77 2 (if (if 120 < v2 then 120 else v2) < v3 then (if 120 < v2 then 120 else v2) else v3)) := Sh.upF hX2 (by rw [lo_77]; decide) (by decide)
  refine ev_aload_n dX2_takeCode_30 rfl ?_
  refine ev_iconst (v := 1) dX2_takeCode_31 ki_1 ?_
  refine ev_putZ dX2_takeCode_32 fo_2_38 (by omega) lo_77 rfl rfl rfl (by decide) ?_
  have hX4 : Sh _ (lx_up (lx_up (lx_up (lx_row X 78 (va_cpy (X 83) (X 78) 0 0 120)) 77 1 (if 120 < v2 then 120 else v2)) 77 2 (if (if 120 < v2 then 120 else v2) < v3 then (if 120 < v2 then 120 else v2) else v3)) 77 0 1) := Sh.upF hX3 (by rw [lo_77]; decide) (by decide)
  exact ev_ret dX2_takeCode_35 rfl hp
theorem qX3_readWord_25 {g : GG} {d d' n : Nat} {post post1 : Option Value → LX → Prop} {L : List (Option Value)} {rest : List Value} {X : LX}  {t : Nat} (ht : t < 14) (hn : 146 ≤ n) (hdd : d' + 1 ≤ d) (hs8 : (rest.map fun v => v.category).sum ≤ 8) (hEx : Ex g mJ0_length_8abf5 d' n n [.ref (1000 + t)] X post1) (k : ∀ v X1, post1 v X1 → Ev g mX3_readWord d n n post n 28 L (v.toList ++ rest) X1) : Ev g mX3_readWord d n n post n 25 L (.ref (1000 + t) :: rest) X :=
  ev_callV (as := []) (rest := rest) dX3_readWord_25 vJ0_length_8abf5 ml_3_76 isJ0_length_8abf5 seJ0_length_8abf5 npJ0_length_8abf5 (rcv_t ht) hdd (by show 64 * (d' + 1) ≤ 64 * d; omega) (by decide) rfl hs8 (Nat.le_refl n) (Nat.le_refl _) (Nat.le_refl _) hEx k
theorem qX3_readWord_45 {g : GG} {d d' n : Nat} {post post1 : Option Value → LX → Prop} {L : List (Option Value)} {rest : List Value} {X : LX}  {t : Nat} (ht : t < 14) (hn : 146 ≤ n) (hdd : d' + 1 ≤ d) (hs8 : (rest.map fun v => v.category).sum ≤ 8) (hEx : Ex g mJ0_length_8abf5 d' n n [.ref (1000 + t)] X post1) (k : ∀ v X1, post1 v X1 → Ev g mX3_readWord d n n post n 48 L (v.toList ++ rest) X1) : Ev g mX3_readWord d n n post n 45 L (.ref (1000 + t) :: rest) X :=
  ev_callV (as := []) (rest := rest) dX3_readWord_45 vJ0_length_8abf5 ml_3_76 isJ0_length_8abf5 seJ0_length_8abf5 npJ0_length_8abf5 (rcv_t ht) hdd (by show 64 * (d' + 1) ≤ 64 * d; omega) (by decide) rfl hs8 (Nat.le_refl n) (Nat.le_refl _) (Nat.le_refl _) hEx k
theorem qX3_readWord_64 {g : GG} {d d' n : Nat} {post post1 : Option Value → LX → Prop} {L : List (Option Value)} {rest : List Value} {X : LX} {a1 : Int32} {t : Nat} (ht : t < 14) (hn : 146 ≤ n) (hdd : d' + 1 ≤ d) (hs8 : (rest.map fun v => v.category).sum ≤ 8) (hEx : Ex g mJ0_charAt_5068e d' n n [.ref (1000 + t), .int a1] X post1) (k : ∀ v X1, post1 v X1 → Ev g mX3_readWord d n n post n 67 L (v.toList ++ rest) X1) : Ev g mX3_readWord d n n post n 64 L (.int a1 :: .ref (1000 + t) :: rest) X :=
  ev_callV (as := [.int a1]) (rest := rest) dX3_readWord_64 vJ0_charAt_5068e ml_3_81 isJ0_charAt_5068e seJ0_charAt_5068e npJ0_charAt_5068e (rcv_t ht) hdd (by show 64 * (d' + 1) ≤ 64 * d; omega) (by decide) rfl hs8 (Nat.le_refl n) (Nat.le_refl _) (Nat.le_refl _) hEx k
theorem qX3_readWord_87 {g : GG} {d d' n : Nat} {post post1 : Option Value → LX → Prop} {L : List (Option Value)} {rest : List Value} {X : LX}  (hn : 146 ≤ n) (hdd : d' + 1 ≤ d) (hs8 : (rest.map fun v => v.category).sum ≤ 8) (hEx : Ex g mX3_step d' n n [.ref 81] X post1) (k : ∀ v X1, post1 v X1 → Ev g mX3_readWord d n n post n 90 L (v.toList ++ rest) X1) : Ev g mX3_readWord d n n post n 87 L (.ref 81 :: rest) X :=
  ev_callV (as := []) (rest := rest) dX3_readWord_87 vX3_step ml_3_43 isX3_step seX3_step npX3_step (rc_81 (by omega)) hdd (by show 64 * (d' + 1) ≤ 64 * d; omega) (by decide) rfl hs8 (Nat.le_refl n) (Nat.le_refl _) (Nat.le_refl _) hEx k
theorem qX3_readWord_94 {g : GG} {d d' n : Nat} {post post1 : Option Value → LX → Prop} {L : List (Option Value)} {rest : List Value} {X : LX}  (hn : 146 ≤ n) (hdd : d' + 1 ≤ d) (hs8 : (rest.map fun v => v.category).sum ≤ 8) (hEx : Ex g mX3_fail d' n n [.ref 81] X post1) (k : ∀ v X1, post1 v X1 → Ev g mX3_readWord d n n post n 97 L (v.toList ++ rest) X1) : Ev g mX3_readWord d n n post n 94 L (.ref 81 :: rest) X :=
  ev_callV (as := []) (rest := rest) dX3_readWord_94 vX3_fail ml_3_63 isX3_fail seX3_fail npX3_fail (rc_81 (by omega)) hdd (by show 64 * (d' + 1) ≤ 64 * d; omega) (by decide) rfl hs8 (Nat.le_refl n) (Nat.le_refl _) (Nat.le_refl _) hEx k
theorem qX3_isSignOf_26 {g : GG} {d d' n : Nat} {post post1 : Option Value → LX → Prop} {L : List (Option Value)} {rest : List Value} {X : LX} {a1 : Int32} {t : Nat} (ht : t < 14) (hn : 146 ≤ n) (hdd : d' + 1 ≤ d) (hs8 : (rest.map fun v => v.category).sum ≤ 8) (hEx : Ex g mJ0_indexOf_0f7a4 d' n n [.ref (1000 + t), .int a1] X post1) (k : ∀ v X1, post1 v X1 → Ev g mX3_isSignOf d n n post n 29 L (v.toList ++ rest) X1) : Ev g mX3_isSignOf d n n post n 26 L (.int a1 :: .ref (1000 + t) :: rest) X :=
  ev_callV (as := [.int a1]) (rest := rest) dX3_isSignOf_26 vJ0_indexOf_0f7a4 ml_3_95 isJ0_indexOf_0f7a4 seJ0_indexOf_0f7a4 npJ0_indexOf_0f7a4 (rcv_t ht) hdd (by show 64 * (d' + 1) ≤ 64 * d; omega) (by decide) rfl hs8 (Nat.le_refl n) (Nat.le_refl _) (Nat.le_refl _) hEx k
theorem qX3_slotOfName_35 {g : GG} {d d' n : Nat} {post post1 : Option Value → LX → Prop} {L : List (Option Value)} {rest : List Value} {X : LX} {a1 : Int32} {t : Nat} (ht : t < 14) (hn : 146 ≤ n) (hdd : d' + 1 ≤ d) (hs8 : (rest.map fun v => v.category).sum ≤ 8) (hEx : Ex g mJ0_indexOf_0f7a4 d' n n [.ref (1000 + t), .int a1] X post1) (k : ∀ v X1, post1 v X1 → Ev g mX3_slotOfName d n n post n 38 L (v.toList ++ rest) X1) : Ev g mX3_slotOfName d n n post n 35 L (.int a1 :: .ref (1000 + t) :: rest) X :=
  ev_callV (as := [.int a1]) (rest := rest) dX3_slotOfName_35 vJ0_indexOf_0f7a4 ml_3_95 isJ0_indexOf_0f7a4 seJ0_indexOf_0f7a4 npJ0_indexOf_0f7a4 (rcv_t ht) hdd (by show 64 * (d' + 1) ≤ 64 * d; omega) (by decide) rfl hs8 (Nat.le_refl n) (Nat.le_refl _) (Nat.le_refl _) hEx k
theorem qX3_putValue_2 {g : GG} {d d' n : Nat} {post post1 : Option Value → LX → Prop} {L : List (Option Value)} {rest : List Value} {X : LX} {a1 : Int32} (hn : 146 ≤ n) (hdd : d' + 1 ≤ d) (hs8 : (rest.map fun v => v.category).sum ≤ 8) (hEx : Ex g mX3_put d' n n [.ref 81, .int a1] X post1) (k : ∀ v X1, post1 v X1 → Ev g mX3_putValue d n n post n 5 L (v.toList ++ rest) X1) : Ev g mX3_putValue d n n post n 2 L (.int a1 :: .ref 81 :: rest) X :=
  ev_callV (as := [.int a1]) (rest := rest) dX3_putValue_2 vX3_put ml_3_111 isX3_put seX3_put npX3_put (rc_81 (by omega)) hdd (by show 64 * (d' + 1) ≤ 64 * d; omega) (by decide) rfl hs8 (Nat.le_refl n) (Nat.le_refl _) (Nat.le_refl _) hEx k
theorem qX3_putValue_16 {g : GG} {d d' n : Nat} {post post1 : Option Value → LX → Prop} {L : List (Option Value)} {rest : List Value} {X : LX}  (hn : 146 ≤ n) (hdd : d' + 1 ≤ d) (hs8 : (rest.map fun v => v.category).sum ≤ 8) (hEx : Ex g mX3_step d' n n [.ref 81] X post1) (k : ∀ v X1, post1 v X1 → Ev g mX3_putValue d n n post n 19 L (v.toList ++ rest) X1) : Ev g mX3_putValue d n n post n 16 L (.ref 81 :: rest) X :=
  ev_callV (as := []) (rest := rest) dX3_putValue_16 vX3_step ml_3_43 isX3_step seX3_step npX3_step (rc_81 (by omega)) hdd (by show 64 * (d' + 1) ≤ 64 * d; omega) (by decide) rfl hs8 (Nat.le_refl n) (Nat.le_refl _) (Nat.le_refl _) hEx k
theorem qX3_readLevel_8 {g : GG} {d d' n : Nat} {post post1 : Option Value → LX → Prop} {L : List (Option Value)} {rest : List Value} {X : LX} {a1 : Int32} {a2 : Int32} (hn : 146 ≤ n) (hdd : d' + 1 ≤ d) (hs8 : (rest.map fun v => v.category).sum ≤ 8) (hEx : Ex g mX3_readPart d' n n [.ref 81, .int a1, .int a2] X post1) (k : ∀ v X1, post1 v X1 → Ev g mX3_readLevel d n n post n 11 L (v.toList ++ rest) X1) : Ev g mX3_readLevel d n n post n 8 L (.int a2 :: .int a1 :: .ref 81 :: rest) X :=
  ev_callV (as := [.int a1, .int a2]) (rest := rest) dX3_readLevel_8 vX3_readPart ml_3_99 isX3_readPart seX3_readPart npX3_readPart (rc_81 (by omega)) hdd (by show 64 * (d' + 1) ≤ 64 * d; omega) (by decide) rfl hs8 (Nat.le_refl n) (Nat.le_refl _) (Nat.le_refl _) hEx k
theorem qX3_readLevel_18 {g : GG} {d d' n : Nat} {post post1 : Option Value → LX → Prop} {L : List (Option Value)} {rest : List Value} {X : LX} {a1 : Int32} {a2 : Int32} {a3 : Int32} (hn : 146 ≤ n) (hdd : d' + 1 ≤ d) (hs8 : (rest.map fun v => v.category).sum ≤ 8) (hEx : Ex g mX3_readLevel d' n n [.ref 81, .int a1, .int a2, .int a3] X post1) (k : ∀ v X1, post1 v X1 → Ev g mX3_readLevel d n n post n 21 L (v.toList ++ rest) X1) : Ev g mX3_readLevel d n n post n 18 L (.int a3 :: .int a2 :: .int a1 :: .ref 81 :: rest) X :=
  ev_callV (as := [.int a1, .int a2, .int a3]) (rest := rest) dX3_readLevel_18 vX3_readLevel ml_3_52 isX3_readLevel seX3_readLevel npX3_readLevel (rc_81 (by omega)) hdd (by show 64 * (d' + 1) ≤ 64 * d; omega) (by decide) rfl hs8 (Nat.le_refl n) (Nat.le_refl _) (Nat.le_refl _) hEx k
theorem qX3_readLevel_46 {g : GG} {d d' n : Nat} {post post1 : Option Value → LX → Prop} {L : List (Option Value)} {rest : List Value} {X : LX} {a1 : Int32} (hn : 146 ≤ n) (hdd : d' + 1 ≤ d) (hs8 : (rest.map fun v => v.category).sum ≤ 8) (hEx : Ex g mX3_signsOf d' n n [.int a1] X post1) (k : ∀ v X1, post1 v X1 → Ev g mX3_readLevel d n n post n 49 L (v.toList ++ rest) X1) : Ev g mX3_readLevel d n n post n 46 L (.int a1 :: rest) X :=
  ev_callS (as := [.int a1]) (rest := rest) dX3_readLevel_46 vX3_signsOf ml_3_103 stX3_signsOf npX3_signsOf hdd (by show 64 * (d' + 1) ≤ 64 * d; omega) (by decide) rfl hs8 (Nat.le_refl n) (Nat.le_refl _) (Nat.le_refl _) hEx k
theorem qX3_readLevel_49 {g : GG} {d d' n : Nat} {post post1 : Option Value → LX → Prop} {L : List (Option Value)} {rest : List Value} {X : LX} {a1 : Nat} (hn : 146 ≤ n) (hdd : d' + 1 ≤ d) (hs8 : (rest.map fun v => v.category).sum ≤ 8) (hEx : Ex g mX3_isSignOf d' n n [.ref 81, .ref a1] X post1) (k : ∀ v X1, post1 v X1 → Ev g mX3_readLevel d n n post n 52 L (v.toList ++ rest) X1) : Ev g mX3_readLevel d n n post n 49 L (.ref a1 :: .ref 81 :: rest) X :=
  ev_callV (as := [.ref a1]) (rest := rest) dX3_readLevel_49 vX3_isSignOf ml_3_107 isX3_isSignOf seX3_isSignOf npX3_isSignOf (rc_81 (by omega)) hdd (by show 64 * (d' + 1) ≤ 64 * d; omega) (by decide) rfl hs8 (Nat.le_refl n) (Nat.le_refl _) (Nat.le_refl _) hEx k
theorem qX3_readLevel_67 {g : GG} {d d' n : Nat} {post post1 : Option Value → LX → Prop} {L : List (Option Value)} {rest : List Value} {X : LX}  (hn : 146 ≤ n) (hdd : d' + 1 ≤ d) (hs8 : (rest.map fun v => v.category).sum ≤ 8) (hEx : Ex g mX3_step d' n n [.ref 81] X post1) (k : ∀ v X1, post1 v X1 → Ev g mX3_readLevel d n n post n 70 L (v.toList ++ rest) X1) : Ev g mX3_readLevel d n n post n 67 L (.ref 81 :: rest) X :=
  ev_callV (as := []) (rest := rest) dX3_readLevel_67 vX3_step ml_3_43 isX3_step seX3_step npX3_step (rc_81 (by omega)) hdd (by show 64 * (d' + 1) ≤ 64 * d; omega) (by decide) rfl hs8 (Nat.le_refl n) (Nat.le_refl _) (Nat.le_refl _) hEx k
theorem qX3_readLevel_76 {g : GG} {d d' n : Nat} {post post1 : Option Value → LX → Prop} {L : List (Option Value)} {rest : List Value} {X : LX} {a1 : Int32} {a2 : Int32} {a3 : Int32} (hn : 146 ≤ n) (hdd : d' + 1 ≤ d) (hs8 : (rest.map fun v => v.category).sum ≤ 8) (hEx : Ex g mX3_readLevel d' n n [.ref 81, .int a1, .int a2, .int a3] X post1) (k : ∀ v X1, post1 v X1 → Ev g mX3_readLevel d n n post n 79 L (v.toList ++ rest) X1) : Ev g mX3_readLevel d n n post n 76 L (.int a3 :: .int a2 :: .int a1 :: .ref 81 :: rest) X :=
  ev_callV (as := [.int a1, .int a2, .int a3]) (rest := rest) dX3_readLevel_76 vX3_readLevel ml_3_52 isX3_readLevel seX3_readLevel npX3_readLevel (rc_81 (by omega)) hdd (by show 64 * (d' + 1) ≤ 64 * d; omega) (by decide) rfl hs8 (Nat.le_refl n) (Nat.le_refl _) (Nat.le_refl _) hEx k
theorem qX3_readLevel_83 {g : GG} {d d' n : Nat} {post post1 : Option Value → LX → Prop} {L : List (Option Value)} {rest : List Value} {X : LX} {a1 : Int32} (hn : 146 ≤ n) (hdd : d' + 1 ≤ d) (hs8 : (rest.map fun v => v.category).sum ≤ 8) (hEx : Ex g mX3_put d' n n [.ref 81, .int a1] X post1) (k : ∀ v X1, post1 v X1 → Ev g mX3_readLevel d n n post n 86 L (v.toList ++ rest) X1) : Ev g mX3_readLevel d n n post n 83 L (.int a1 :: .ref 81 :: rest) X :=
  ev_callV (as := [.int a1]) (rest := rest) dX3_readLevel_83 vX3_put ml_3_111 isX3_put seX3_put npX3_put (rc_81 (by omega)) hdd (by show 64 * (d' + 1) ≤ 64 * d; omega) (by decide) rfl hs8 (Nat.le_refl n) (Nat.le_refl _) (Nat.le_refl _) hEx k
theorem qX3_readPart_9 {g : GG} {d d' n : Nat} {post post1 : Option Value → LX → Prop} {L : List (Option Value)} {rest : List Value} {X : LX}  (hn : 146 ≤ n) (hdd : d' + 1 ≤ d) (hs8 : (rest.map fun v => v.category).sum ≤ 8) (hEx : Ex g mX3_slotOfName d' n n [.ref 81] X post1) (k : ∀ v X1, post1 v X1 → Ev g mX3_readPart d n n post n 12 L (v.toList ++ rest) X1) : Ev g mX3_readPart d n n post n 9 L (.ref 81 :: rest) X :=
  ev_callV (as := []) (rest := rest) dX3_readPart_9 vX3_slotOfName ml_3_115 isX3_slotOfName seX3_slotOfName npX3_slotOfName (rc_81 (by omega)) hdd (by show 64 * (d' + 1) ≤ 64 * d; omega) (by decide) rfl hs8 (Nat.le_refl n) (Nat.le_refl _) (Nat.le_refl _) hEx k
theorem qX3_readPart_23 {g : GG} {d d' n : Nat} {post post1 : Option Value → LX → Prop} {L : List (Option Value)} {rest : List Value} {X : LX}  (hn : 146 ≤ n) (hdd : d' + 1 ≤ d) (hs8 : (rest.map fun v => v.category).sum ≤ 8) (hEx : Ex g mX3_number d' n n [.ref 81] X post1) (k : ∀ v X1, post1 v X1 → Ev g mX3_readPart d n n post n 26 L (v.toList ++ rest) X1) : Ev g mX3_readPart d n n post n 23 L (.ref 81 :: rest) X :=
  ev_callV (as := []) (rest := rest) dX3_readPart_23 vX3_number ml_3_118 isX3_number seX3_number npX3_number (rc_81 (by omega)) hdd (by show 64 * (d' + 1) ≤ 64 * d; omega) (by decide) rfl hs8 (Nat.le_refl n) (Nat.le_refl _) (Nat.le_refl _) hEx k
theorem qX3_readPart_26 {g : GG} {d d' n : Nat} {post post1 : Option Value → LX → Prop} {L : List (Option Value)} {rest : List Value} {X : LX} {a1 : Int32} (hn : 146 ≤ n) (hdd : d' + 1 ≤ d) (hs8 : (rest.map fun v => v.category).sum ≤ 8) (hEx : Ex g mX3_putValue d' n n [.ref 81, .int a1] X post1) (k : ∀ v X1, post1 v X1 → Ev g mX3_readPart d n n post n 29 L (v.toList ++ rest) X1) : Ev g mX3_readPart d n n post n 26 L (.int a1 :: .ref 81 :: rest) X :=
  ev_callV (as := [.int a1]) (rest := rest) dX3_readPart_26 vX3_putValue ml_3_121 isX3_putValue seX3_putValue npX3_putValue (rc_81 (by omega)) hdd (by show 64 * (d' + 1) ≤ 64 * d; omega) (by decide) rfl hs8 (Nat.le_refl n) (Nat.le_refl _) (Nat.le_refl _) hEx k
theorem qX3_readPart_42 {g : GG} {d d' n : Nat} {post post1 : Option Value → LX → Prop} {L : List (Option Value)} {rest : List Value} {X : LX} {a1 : Int32} (hn : 146 ≤ n) (hdd : d' + 1 ≤ d) (hs8 : (rest.map fun v => v.category).sum ≤ 8) (hEx : Ex g mX3_putValue d' n n [.ref 81, .int a1] X post1) (k : ∀ v X1, post1 v X1 → Ev g mX3_readPart d n n post n 45 L (v.toList ++ rest) X1) : Ev g mX3_readPart d n n post n 42 L (.int a1 :: .ref 81 :: rest) X :=
  ev_callV (as := [.int a1]) (rest := rest) dX3_readPart_42 vX3_putValue ml_3_121 isX3_putValue seX3_putValue npX3_putValue (rc_81 (by omega)) hdd (by show 64 * (d' + 1) ≤ 64 * d; omega) (by decide) rfl hs8 (Nat.le_refl n) (Nat.le_refl _) (Nat.le_refl _) hEx k
theorem qX3_readPart_51 {g : GG} {d d' n : Nat} {post post1 : Option Value → LX → Prop} {L : List (Option Value)} {rest : List Value} {X : LX} {a1 : Nat} (hn : 146 ≤ n) (hdd : d' + 1 ≤ d) (hs8 : (rest.map fun v => v.category).sum ≤ 8) (hEx : Ex g mX3_isSignOf d' n n [.ref 81, .ref a1] X post1) (k : ∀ v X1, post1 v X1 → Ev g mX3_readPart d n n post n 54 L (v.toList ++ rest) X1) : Ev g mX3_readPart d n n post n 51 L (.ref a1 :: .ref 81 :: rest) X :=
  ev_callV (as := [.ref a1]) (rest := rest) dX3_readPart_51 vX3_isSignOf ml_3_107 isX3_isSignOf seX3_isSignOf npX3_isSignOf (rc_81 (by omega)) hdd (by show 64 * (d' + 1) ≤ 64 * d; omega) (by decide) rfl hs8 (Nat.le_refl n) (Nat.le_refl _) (Nat.le_refl _) hEx k
theorem qX3_readPart_64 {g : GG} {d d' n : Nat} {post post1 : Option Value → LX → Prop} {L : List (Option Value)} {rest : List Value} {X : LX}  (hn : 146 ≤ n) (hdd : d' + 1 ≤ d) (hs8 : (rest.map fun v => v.category).sum ≤ 8) (hEx : Ex g mX3_step d' n n [.ref 81] X post1) (k : ∀ v X1, post1 v X1 → Ev g mX3_readPart d n n post n 67 L (v.toList ++ rest) X1) : Ev g mX3_readPart d n n post n 64 L (.ref 81 :: rest) X :=
  ev_callV (as := []) (rest := rest) dX3_readPart_64 vX3_step ml_3_43 isX3_step seX3_step npX3_step (rc_81 (by omega)) hdd (by show 64 * (d' + 1) ≤ 64 * d; omega) (by decide) rfl hs8 (Nat.le_refl n) (Nat.le_refl _) (Nat.le_refl _) hEx k
theorem qX3_readPart_72 {g : GG} {d d' n : Nat} {post post1 : Option Value → LX → Prop} {L : List (Option Value)} {rest : List Value} {X : LX} {a1 : Int32} {a2 : Int32} (hn : 146 ≤ n) (hdd : d' + 1 ≤ d) (hs8 : (rest.map fun v => v.category).sum ≤ 8) (hEx : Ex g mX3_readPart d' n n [.ref 81, .int a1, .int a2] X post1) (k : ∀ v X1, post1 v X1 → Ev g mX3_readPart d n n post n 75 L (v.toList ++ rest) X1) : Ev g mX3_readPart d n n post n 72 L (.int a2 :: .int a1 :: .ref 81 :: rest) X :=
  ev_callV (as := [.int a1, .int a2]) (rest := rest) dX3_readPart_72 vX3_readPart ml_3_99 isX3_readPart seX3_readPart npX3_readPart (rc_81 (by omega)) hdd (by show 64 * (d' + 1) ≤ 64 * d; omega) (by decide) rfl hs8 (Nat.le_refl n) (Nat.le_refl _) (Nat.le_refl _) hEx k
theorem qX3_readPart_78 {g : GG} {d d' n : Nat} {post post1 : Option Value → LX → Prop} {L : List (Option Value)} {rest : List Value} {X : LX} {a1 : Int32} (hn : 146 ≤ n) (hdd : d' + 1 ≤ d) (hs8 : (rest.map fun v => v.category).sum ≤ 8) (hEx : Ex g mX3_put d' n n [.ref 81, .int a1] X post1) (k : ∀ v X1, post1 v X1 → Ev g mX3_readPart d n n post n 81 L (v.toList ++ rest) X1) : Ev g mX3_readPart d n n post n 78 L (.int a1 :: .ref 81 :: rest) X :=
  ev_callV (as := [.int a1]) (rest := rest) dX3_readPart_78 vX3_put ml_3_111 isX3_put seX3_put npX3_put (rc_81 (by omega)) hdd (by show 64 * (d' + 1) ≤ 64 * d; omega) (by decide) rfl hs8 (Nat.le_refl n) (Nat.le_refl _) (Nat.le_refl _) hEx k
theorem qX3_readPart_87 {g : GG} {d d' n : Nat} {post post1 : Option Value → LX → Prop} {L : List (Option Value)} {rest : List Value} {X : LX} {a1 : Nat} (hn : 146 ≤ n) (hdd : d' + 1 ≤ d) (hs8 : (rest.map fun v => v.category).sum ≤ 8) (hEx : Ex g mX3_isSignOf d' n n [.ref 81, .ref a1] X post1) (k : ∀ v X1, post1 v X1 → Ev g mX3_readPart d n n post n 90 L (v.toList ++ rest) X1) : Ev g mX3_readPart d n n post n 87 L (.ref a1 :: .ref 81 :: rest) X :=
  ev_callV (as := [.ref a1]) (rest := rest) dX3_readPart_87 vX3_isSignOf ml_3_107 isX3_isSignOf seX3_isSignOf npX3_isSignOf (rc_81 (by omega)) hdd (by show 64 * (d' + 1) ≤ 64 * d; omega) (by decide) rfl hs8 (Nat.le_refl n) (Nat.le_refl _) (Nat.le_refl _) hEx k
theorem qX3_readPart_100 {g : GG} {d d' n : Nat} {post post1 : Option Value → LX → Prop} {L : List (Option Value)} {rest : List Value} {X : LX}  (hn : 146 ≤ n) (hdd : d' + 1 ≤ d) (hs8 : (rest.map fun v => v.category).sum ≤ 8) (hEx : Ex g mX3_step d' n n [.ref 81] X post1) (k : ∀ v X1, post1 v X1 → Ev g mX3_readPart d n n post n 103 L (v.toList ++ rest) X1) : Ev g mX3_readPart d n n post n 100 L (.ref 81 :: rest) X :=
  ev_callV (as := []) (rest := rest) dX3_readPart_100 vX3_step ml_3_43 isX3_step seX3_step npX3_step (rc_81 (by omega)) hdd (by show 64 * (d' + 1) ≤ 64 * d; omega) (by decide) rfl hs8 (Nat.le_refl n) (Nat.le_refl _) (Nat.le_refl _) hEx k
theorem qX3_readPart_109 {g : GG} {d d' n : Nat} {post post1 : Option Value → LX → Prop} {L : List (Option Value)} {rest : List Value} {X : LX} {a1 : Int32} {a2 : Int32} {a3 : Int32} (hn : 146 ≤ n) (hdd : d' + 1 ≤ d) (hs8 : (rest.map fun v => v.category).sum ≤ 8) (hEx : Ex g mX3_readLevel d' n n [.ref 81, .int a1, .int a2, .int a3] X post1) (k : ∀ v X1, post1 v X1 → Ev g mX3_readPart d n n post n 112 L (v.toList ++ rest) X1) : Ev g mX3_readPart d n n post n 109 L (.int a3 :: .int a2 :: .int a1 :: .ref 81 :: rest) X :=
  ev_callV (as := [.int a1, .int a2, .int a3]) (rest := rest) dX3_readPart_109 vX3_readLevel ml_3_52 isX3_readLevel seX3_readLevel npX3_readLevel (rc_81 (by omega)) hdd (by show 64 * (d' + 1) ≤ 64 * d; omega) (by decide) rfl hs8 (Nat.le_refl n) (Nat.le_refl _) (Nat.le_refl _) hEx k
theorem qX3_readPart_115 {g : GG} {d d' n : Nat} {post post1 : Option Value → LX → Prop} {L : List (Option Value)} {rest : List Value} {X : LX} {a1 : Nat} (hn : 146 ≤ n) (hdd : d' + 1 ≤ d) (hs8 : (rest.map fun v => v.category).sum ≤ 8) (hEx : Ex g mX3_isSignOf d' n n [.ref 81, .ref a1] X post1) (k : ∀ v X1, post1 v X1 → Ev g mX3_readPart d n n post n 118 L (v.toList ++ rest) X1) : Ev g mX3_readPart d n n post n 115 L (.ref a1 :: .ref 81 :: rest) X :=
  ev_callV (as := [.ref a1]) (rest := rest) dX3_readPart_115 vX3_isSignOf ml_3_107 isX3_isSignOf seX3_isSignOf npX3_isSignOf (rc_81 (by omega)) hdd (by show 64 * (d' + 1) ≤ 64 * d; omega) (by decide) rfl hs8 (Nat.le_refl n) (Nat.le_refl _) (Nat.le_refl _) hEx k
theorem qX3_readPart_122 {g : GG} {d d' n : Nat} {post post1 : Option Value → LX → Prop} {L : List (Option Value)} {rest : List Value} {X : LX}  (hn : 146 ≤ n) (hdd : d' + 1 ≤ d) (hs8 : (rest.map fun v => v.category).sum ≤ 8) (hEx : Ex g mX3_step d' n n [.ref 81] X post1) (k : ∀ v X1, post1 v X1 → Ev g mX3_readPart d n n post n 125 L (v.toList ++ rest) X1) : Ev g mX3_readPart d n n post n 122 L (.ref 81 :: rest) X :=
  ev_callV (as := []) (rest := rest) dX3_readPart_122 vX3_step ml_3_43 isX3_step seX3_step npX3_step (rc_81 (by omega)) hdd (by show 64 * (d' + 1) ≤ 64 * d; omega) (by decide) rfl hs8 (Nat.le_refl n) (Nat.le_refl _) (Nat.le_refl _) hEx k
theorem qX3_readPart_129 {g : GG} {d d' n : Nat} {post post1 : Option Value → LX → Prop} {L : List (Option Value)} {rest : List Value} {X : LX}  (hn : 146 ≤ n) (hdd : d' + 1 ≤ d) (hs8 : (rest.map fun v => v.category).sum ≤ 8) (hEx : Ex g mX3_fail d' n n [.ref 81] X post1) (k : ∀ v X1, post1 v X1 → Ev g mX3_readPart d n n post n 132 L (v.toList ++ rest) X1) : Ev g mX3_readPart d n n post n 129 L (.ref 81 :: rest) X :=
  ev_callV (as := []) (rest := rest) dX3_readPart_129 vX3_fail ml_3_63 isX3_fail seX3_fail npX3_fail (rc_81 (by omega)) hdd (by show 64 * (d' + 1) ≤ 64 * d; omega) (by decide) rfl hs8 (Nat.le_refl n) (Nat.le_refl _) (Nat.le_refl _) hEx k
theorem qX3_readPart_136 {g : GG} {d d' n : Nat} {post post1 : Option Value → LX → Prop} {L : List (Option Value)} {rest : List Value} {X : LX}  (hn : 146 ≤ n) (hdd : d' + 1 ≤ d) (hs8 : (rest.map fun v => v.category).sum ≤ 8) (hEx : Ex g mX3_fail d' n n [.ref 81] X post1) (k : ∀ v X1, post1 v X1 → Ev g mX3_readPart d n n post n 139 L (v.toList ++ rest) X1) : Ev g mX3_readPart d n n post n 136 L (.ref 81 :: rest) X :=
  ev_callV (as := []) (rest := rest) dX3_readPart_136 vX3_fail ml_3_63 isX3_fail seX3_fail npX3_fail (rc_81 (by omega)) hdd (by show 64 * (d' + 1) ≤ 64 * d; omega) (by decide) rfl hs8 (Nat.le_refl n) (Nat.le_refl _) (Nat.le_refl _) hEx k
theorem qX3_readTape_32 {g : GG} {d d' n : Nat} {post post1 : Option Value → LX → Prop} {L : List (Option Value)} {rest : List Value} {X : LX}  (hn : 146 ≤ n) (hdd : d' + 1 ≤ d) (hs8 : (rest.map fun v => v.category).sum ≤ 8) (hEx : Ex g mX3_step d' n n [.ref 81] X post1) (k : ∀ v X1, post1 v X1 → Ev g mX3_readTape d n n post n 35 L (v.toList ++ rest) X1) : Ev g mX3_readTape d n n post n 32 L (.ref 81 :: rest) X :=
  ev_callV (as := []) (rest := rest) dX3_readTape_32 vX3_step ml_3_43 isX3_step seX3_step npX3_step (rc_81 (by omega)) hdd (by show 64 * (d' + 1) ≤ 64 * d; omega) (by decide) rfl hs8 (Nat.le_refl n) (Nat.le_refl _) (Nat.le_refl _) hEx k
theorem qX3_readTape_38 {g : GG} {d d' n : Nat} {post post1 : Option Value → LX → Prop} {L : List (Option Value)} {rest : List Value} {X : LX} {a1 : Nat} (hn : 146 ≤ n) (hdd : d' + 1 ≤ d) (hs8 : (rest.map fun v => v.category).sum ≤ 8) (hEx : Ex g mX3_readWord d' n n [.ref 81, .ref a1] X post1) (k : ∀ v X1, post1 v X1 → Ev g mX3_readTape d n n post n 41 L (v.toList ++ rest) X1) : Ev g mX3_readTape d n n post n 38 L (.ref a1 :: .ref 81 :: rest) X :=
  ev_callV (as := [.ref a1]) (rest := rest) dX3_readTape_38 vX3_readWord ml_3_48 isX3_readWord seX3_readWord npX3_readWord (rc_81 (by omega)) hdd (by show 64 * (d' + 1) ≤ 64 * d; omega) (by decide) rfl hs8 (Nat.le_refl n) (Nat.le_refl _) (Nat.le_refl _) hEx k
theorem qX3_readTape_45 {g : GG} {d d' n : Nat} {post post1 : Option Value → LX → Prop} {L : List (Option Value)} {rest : List Value} {X : LX} {a1 : Int32} {a2 : Int32} {a3 : Int32} (hn : 146 ≤ n) (hdd : d' + 1 ≤ d) (hs8 : (rest.map fun v => v.category).sum ≤ 8) (hEx : Ex g mX3_readLevel d' n n [.ref 81, .int a1, .int a2, .int a3] X post1) (k : ∀ v X1, post1 v X1 → Ev g mX3_readTape d n n post n 48 L (v.toList ++ rest) X1) : Ev g mX3_readTape d n n post n 45 L (.int a3 :: .int a2 :: .int a1 :: .ref 81 :: rest) X :=
  ev_callV (as := [.int a1, .int a2, .int a3]) (rest := rest) dX3_readTape_45 vX3_readLevel ml_3_52 isX3_readLevel seX3_readLevel npX3_readLevel (rc_81 (by omega)) hdd (by show 64 * (d' + 1) ≤ 64 * d; omega) (by decide) rfl hs8 (Nat.le_refl n) (Nat.le_refl _) (Nat.le_refl _) hEx k
theorem qX3_readTape_65 {g : GG} {d d' n : Nat} {post post1 : Option Value → LX → Prop} {L : List (Option Value)} {rest : List Value} {X : LX} {a1 : Nat} (hn : 146 ≤ n) (hdd : d' + 1 ≤ d) (hs8 : (rest.map fun v => v.category).sum ≤ 8) (hEx : Ex g mX3_readWord d' n n [.ref 81, .ref a1] X post1) (k : ∀ v X1, post1 v X1 → Ev g mX3_readTape d n n post n 68 L (v.toList ++ rest) X1) : Ev g mX3_readTape d n n post n 65 L (.ref a1 :: .ref 81 :: rest) X :=
  ev_callV (as := [.ref a1]) (rest := rest) dX3_readTape_65 vX3_readWord ml_3_48 isX3_readWord seX3_readWord npX3_readWord (rc_81 (by omega)) hdd (by show 64 * (d' + 1) ≤ 64 * d; omega) (by decide) rfl hs8 (Nat.le_refl n) (Nat.le_refl _) (Nat.le_refl _) hEx k
theorem qX3_readTape_72 {g : GG} {d d' n : Nat} {post post1 : Option Value → LX → Prop} {L : List (Option Value)} {rest : List Value} {X : LX} {a1 : Int32} {a2 : Int32} {a3 : Int32} (hn : 146 ≤ n) (hdd : d' + 1 ≤ d) (hs8 : (rest.map fun v => v.category).sum ≤ 8) (hEx : Ex g mX3_readLevel d' n n [.ref 81, .int a1, .int a2, .int a3] X post1) (k : ∀ v X1, post1 v X1 → Ev g mX3_readTape d n n post n 75 L (v.toList ++ rest) X1) : Ev g mX3_readTape d n n post n 72 L (.int a3 :: .int a2 :: .int a1 :: .ref 81 :: rest) X :=
  ev_callV (as := [.int a1, .int a2, .int a3]) (rest := rest) dX3_readTape_72 vX3_readLevel ml_3_52 isX3_readLevel seX3_readLevel npX3_readLevel (rc_81 (by omega)) hdd (by show 64 * (d' + 1) ≤ 64 * d; omega) (by decide) rfl hs8 (Nat.le_refl n) (Nat.le_refl _) (Nat.le_refl _) hEx k
theorem qX3_readTape_83 {g : GG} {d d' n : Nat} {post post1 : Option Value → LX → Prop} {L : List (Option Value)} {rest : List Value} {X : LX}  (hn : 146 ≤ n) (hdd : d' + 1 ≤ d) (hs8 : (rest.map fun v => v.category).sum ≤ 8) (hEx : Ex g mX3_fail d' n n [.ref 81] X post1) (k : ∀ v X1, post1 v X1 → Ev g mX3_readTape d n n post n 86 L (v.toList ++ rest) X1) : Ev g mX3_readTape d n n post n 83 L (.ref 81 :: rest) X :=
  ev_callV (as := []) (rest := rest) dX3_readTape_83 vX3_fail ml_3_63 isX3_fail seX3_fail npX3_fail (rc_81 (by omega)) hdd (by show 64 * (d' + 1) ≤ 64 * d; omega) (by decide) rfl hs8 (Nat.le_refl n) (Nat.le_refl _) (Nat.le_refl _) hEx k
theorem qX12_need_28 {g : GG} {d d' n : Nat} {post post1 : Option Value → LX → Prop} {L : List (Option Value)} {rest : List Value} {X : LX}  (hn : 146 ≤ n) (hdd : d' + 1 ≤ d) (hs8 : (rest.map fun v => v.category).sum ≤ 8) (hEx : Ex g mX12_next d' n n [.ref 133] X post1) (k : ∀ v X1, post1 v X1 → Ev g mX12_need d n n post n 31 L (v.toList ++ rest) X1) : Ev g mX12_need d n n post n 28 L (.ref 133 :: rest) X :=
  ev_callV (as := []) (rest := rest) dX12_need_28 vX12_next ml_12_144 isX12_next seX12_next npX12_next (rc_133 (by omega)) hdd (by show 64 * (d' + 1) ≤ 64 * d; omega) (by decide) rfl hs8 (Nat.le_refl n) (Nat.le_refl _) (Nat.le_refl _) hEx k
theorem qX12_word_18 {g : GG} {d d' n : Nat} {post post1 : Option Value → LX → Prop} {L : List (Option Value)} {rest : List Value} {X : LX}  {t : Nat} (ht : t < 14) (hn : 146 ≤ n) (hdd : d' + 1 ≤ d) (hs8 : (rest.map fun v => v.category).sum ≤ 8) (hEx : Ex g mJ0_length_8abf5 d' n n [.ref (1000 + t)] X post1) (k : ∀ v X1, post1 v X1 → Ev g mX12_word d n n post n 21 L (v.toList ++ rest) X1) : Ev g mX12_word d n n post n 18 L (.ref (1000 + t) :: rest) X :=
  ev_callV (as := []) (rest := rest) dX12_word_18 vJ0_length_8abf5 ml_12_147 isJ0_length_8abf5 seJ0_length_8abf5 npJ0_length_8abf5 (rcv_t ht) hdd (by show 64 * (d' + 1) ≤ 64 * d; omega) (by decide) rfl hs8 (Nat.le_refl n) (Nat.le_refl _) (Nat.le_refl _) hEx k
theorem qX12_word_38 {g : GG} {d d' n : Nat} {post post1 : Option Value → LX → Prop} {L : List (Option Value)} {rest : List Value} {X : LX}  {t : Nat} (ht : t < 14) (hn : 146 ≤ n) (hdd : d' + 1 ≤ d) (hs8 : (rest.map fun v => v.category).sum ≤ 8) (hEx : Ex g mJ0_length_8abf5 d' n n [.ref (1000 + t)] X post1) (k : ∀ v X1, post1 v X1 → Ev g mX12_word d n n post n 41 L (v.toList ++ rest) X1) : Ev g mX12_word d n n post n 38 L (.ref (1000 + t) :: rest) X :=
  ev_callV (as := []) (rest := rest) dX12_word_38 vJ0_length_8abf5 ml_12_147 isJ0_length_8abf5 seJ0_length_8abf5 npJ0_length_8abf5 (rcv_t ht) hdd (by show 64 * (d' + 1) ≤ 64 * d; omega) (by decide) rfl hs8 (Nat.le_refl n) (Nat.le_refl _) (Nat.le_refl _) hEx k
theorem qX12_word_57 {g : GG} {d d' n : Nat} {post post1 : Option Value → LX → Prop} {L : List (Option Value)} {rest : List Value} {X : LX} {a1 : Int32} {t : Nat} (ht : t < 14) (hn : 146 ≤ n) (hdd : d' + 1 ≤ d) (hs8 : (rest.map fun v => v.category).sum ≤ 8) (hEx : Ex g mJ0_charAt_5068e d' n n [.ref (1000 + t), .int a1] X post1) (k : ∀ v X1, post1 v X1 → Ev g mX12_word d n n post n 60 L (v.toList ++ rest) X1) : Ev g mX12_word d n n post n 57 L (.int a1 :: .ref (1000 + t) :: rest) X :=
  ev_callV (as := [.int a1]) (rest := rest) dX12_word_57 vJ0_charAt_5068e ml_12_153 isJ0_charAt_5068e seJ0_charAt_5068e npJ0_charAt_5068e (rcv_t ht) hdd (by show 64 * (d' + 1) ≤ 64 * d; omega) (by decide) rfl hs8 (Nat.le_refl n) (Nat.le_refl _) (Nat.le_refl _) hEx k
theorem qX12_word_77 {g : GG} {d d' n : Nat} {post post1 : Option Value → LX → Prop} {L : List (Option Value)} {rest : List Value} {X : LX} {a1 : Int32} (hn : 146 ≤ n) (hdd : d' + 1 ≤ d) (hs8 : (rest.map fun v => v.category).sum ≤ 8) (hEx : Ex g mX12_need d' n n [.ref 133, .int a1] X post1) (k : ∀ v X1, post1 v X1 → Ev g mX12_word d n n post n 80 L (v.toList ++ rest) X1) : Ev g mX12_word d n n post n 77 L (.int a1 :: .ref 133 :: rest) X :=
  ev_callV (as := [.int a1]) (rest := rest) dX12_word_77 vX12_need ml_12_157 isX12_need seX12_need npX12_need (rc_133 (by omega)) hdd (by show 64 * (d' + 1) ≤ 64 * d; omega) (by decide) rfl hs8 (Nat.le_refl n) (Nat.le_refl _) (Nat.le_refl _) hEx k
theorem qX12_signHere_16 {g : GG} {d d' n : Nat} {post post1 : Option Value → LX → Prop} {L : List (Option Value)} {rest : List Value} {X : LX} {a1 : Int32} {t : Nat} (ht : t < 14) (hn : 146 ≤ n) (hdd : d' + 1 ≤ d) (hs8 : (rest.map fun v => v.category).sum ≤ 8) (hEx : Ex g mJ0_charAt_5068e d' n n [.ref (1000 + t), .int a1] X post1) (k : ∀ v X1, post1 v X1 → Ev g mX12_signHere d n n post n 19 L (v.toList ++ rest) X1) : Ev g mX12_signHere d n n post n 16 L (.int a1 :: .ref (1000 + t) :: rest) X :=
  ev_callV (as := [.int a1]) (rest := rest) dX12_signHere_16 vJ0_charAt_5068e ml_12_153 isJ0_charAt_5068e seJ0_charAt_5068e npJ0_charAt_5068e (rcv_t ht) hdd (by show 64 * (d' + 1) ≤ 64 * d; omega) (by decide) rfl hs8 (Nat.le_refl n) (Nat.le_refl _) (Nat.le_refl _) hEx k
theorem qX12_signHere_19 {g : GG} {d d' n : Nat} {post post1 : Option Value → LX → Prop} {L : List (Option Value)} {rest : List Value} {X : LX} {a1 : Int32} (hn : 146 ≤ n) (hdd : d' + 1 ≤ d) (hs8 : (rest.map fun v => v.category).sum ≤ 8) (hEx : Ex g mX12_isSign d' n n [.ref 133, .int a1] X post1) (k : ∀ v X1, post1 v X1 → Ev g mX12_signHere d n n post n 22 L (v.toList ++ rest) X1) : Ev g mX12_signHere d n n post n 19 L (.int a1 :: .ref 133 :: rest) X :=
  ev_callV (as := [.int a1]) (rest := rest) dX12_signHere_19 vX12_isSign ml_12_165 isX12_isSign seX12_isSign npX12_isSign (rc_133 (by omega)) hdd (by show 64 * (d' + 1) ≤ 64 * d; omega) (by decide) rfl hs8 (Nat.le_refl n) (Nat.le_refl _) (Nat.le_refl _) hEx k
theorem qX12_part__54 {g : GG} {d d' n : Nat} {post post1 : Option Value → LX → Prop} {L : List (Option Value)} {rest : List Value} {X : LX} {a1 : Int32} (hn : 146 ≤ n) (hdd : d' + 1 ≤ d) (hs8 : (rest.map fun v => v.category).sum ≤ 8) (hEx : Ex g mX12_put d' n n [.ref 133, .int a1] X post1) (k : ∀ v X1, post1 v X1 → Ev g mX12_part_ d n n post n 57 L (v.toList ++ rest) X1) : Ev g mX12_part_ d n n post n 54 L (.int a1 :: .ref 133 :: rest) X :=
  ev_callV (as := [.int a1]) (rest := rest) dX12_part__54 vX12_put ml_12_168 isX12_put seX12_put npX12_put (rc_133 (by omega)) hdd (by show 64 * (d' + 1) ≤ 64 * d; omega) (by decide) rfl hs8 (Nat.le_refl n) (Nat.le_refl _) (Nat.le_refl _) hEx k
theorem qX12_part__68 {g : GG} {d d' n : Nat} {post post1 : Option Value → LX → Prop} {L : List (Option Value)} {rest : List Value} {X : LX}  (hn : 146 ≤ n) (hdd : d' + 1 ≤ d) (hs8 : (rest.map fun v => v.category).sum ≤ 8) (hEx : Ex g mX12_next d' n n [.ref 133] X post1) (k : ∀ v X1, post1 v X1 → Ev g mX12_part_ d n n post n 71 L (v.toList ++ rest) X1) : Ev g mX12_part_ d n n post n 68 L (.ref 133 :: rest) X :=
  ev_callV (as := []) (rest := rest) dX12_part__68 vX12_next ml_12_144 isX12_next seX12_next npX12_next (rc_133 (by omega)) hdd (by show 64 * (d' + 1) ≤ 64 * d; omega) (by decide) rfl hs8 (Nat.le_refl n) (Nat.le_refl _) (Nat.le_refl _) hEx k
theorem qX12_part__108 {g : GG} {d d' n : Nat} {post post1 : Option Value → LX → Prop} {L : List (Option Value)} {rest : List Value} {X : LX} {a1 : Int32} {t : Nat} (ht : t < 14) (hn : 146 ≤ n) (hdd : d' + 1 ≤ d) (hs8 : (rest.map fun v => v.category).sum ≤ 8) (hEx : Ex g mJ0_indexOf_0f7a4 d' n n [.ref (1000 + t), .int a1] X post1) (k : ∀ v X1, post1 v X1 → Ev g mX12_part_ d n n post n 111 L (v.toList ++ rest) X1) : Ev g mX12_part_ d n n post n 108 L (.int a1 :: .ref (1000 + t) :: rest) X :=
  ev_callV (as := [.int a1]) (rest := rest) dX12_part__108 vJ0_indexOf_0f7a4 ml_12_175 isJ0_indexOf_0f7a4 seJ0_indexOf_0f7a4 npJ0_indexOf_0f7a4 (rcv_t ht) hdd (by show 64 * (d' + 1) ≤ 64 * d; omega) (by decide) rfl hs8 (Nat.le_refl n) (Nat.le_refl _) (Nat.le_refl _) hEx k
theorem qX12_part__130 {g : GG} {d d' n : Nat} {post post1 : Option Value → LX → Prop} {L : List (Option Value)} {rest : List Value} {X : LX} {a1 : Int32} {t : Nat} (ht : t < 14) (hn : 146 ≤ n) (hdd : d' + 1 ≤ d) (hs8 : (rest.map fun v => v.category).sum ≤ 8) (hEx : Ex g mJ0_indexOf_0f7a4 d' n n [.ref (1000 + t), .int a1] X post1) (k : ∀ v X1, post1 v X1 → Ev g mX12_part_ d n n post n 133 L (v.toList ++ rest) X1) : Ev g mX12_part_ d n n post n 130 L (.int a1 :: .ref (1000 + t) :: rest) X :=
  ev_callV (as := [.int a1]) (rest := rest) dX12_part__130 vJ0_indexOf_0f7a4 ml_12_175 isJ0_indexOf_0f7a4 seJ0_indexOf_0f7a4 npJ0_indexOf_0f7a4 (rcv_t ht) hdd (by show 64 * (d' + 1) ≤ 64 * d; omega) (by decide) rfl hs8 (Nat.le_refl n) (Nat.le_refl _) (Nat.le_refl _) hEx k
theorem qX12_part__134 {g : GG} {d d' n : Nat} {post post1 : Option Value → LX → Prop} {L : List (Option Value)} {rest : List Value} {X : LX} {a1 : Int32} (hn : 146 ≤ n) (hdd : d' + 1 ≤ d) (hs8 : (rest.map fun v => v.category).sum ≤ 8) (hEx : Ex g mX12_put d' n n [.ref 133, .int a1] X post1) (k : ∀ v X1, post1 v X1 → Ev g mX12_part_ d n n post n 137 L (v.toList ++ rest) X1) : Ev g mX12_part_ d n n post n 134 L (.int a1 :: .ref 133 :: rest) X :=
  ev_callV (as := [.int a1]) (rest := rest) dX12_part__134 vX12_put ml_12_168 isX12_put seX12_put npX12_put (rc_133 (by omega)) hdd (by show 64 * (d' + 1) ≤ 64 * d; omega) (by decide) rfl hs8 (Nat.le_refl n) (Nat.le_refl _) (Nat.le_refl _) hEx k
theorem qX12_part__148 {g : GG} {d d' n : Nat} {post post1 : Option Value → LX → Prop} {L : List (Option Value)} {rest : List Value} {X : LX}  (hn : 146 ≤ n) (hdd : d' + 1 ≤ d) (hs8 : (rest.map fun v => v.category).sum ≤ 8) (hEx : Ex g mX12_next d' n n [.ref 133] X post1) (k : ∀ v X1, post1 v X1 → Ev g mX12_part_ d n n post n 151 L (v.toList ++ rest) X1) : Ev g mX12_part_ d n n post n 148 L (.ref 133 :: rest) X :=
  ev_callV (as := []) (rest := rest) dX12_part__148 vX12_next ml_12_144 isX12_next seX12_next npX12_next (rc_133 (by omega)) hdd (by show 64 * (d' + 1) ≤ 64 * d; omega) (by decide) rfl hs8 (Nat.le_refl n) (Nat.le_refl _) (Nat.le_refl _) hEx k
theorem qX12_part__157 {g : GG} {d d' n : Nat} {post post1 : Option Value → LX → Prop} {L : List (Option Value)} {rest : List Value} {X : LX} {a1 : Int32} (hn : 146 ≤ n) (hdd : d' + 1 ≤ d) (hs8 : (rest.map fun v => v.category).sum ≤ 8) (hEx : Ex g mX12_isSign d' n n [.ref 133, .int a1] X post1) (k : ∀ v X1, post1 v X1 → Ev g mX12_part_ d n n post n 160 L (v.toList ++ rest) X1) : Ev g mX12_part_ d n n post n 157 L (.int a1 :: .ref 133 :: rest) X :=
  ev_callV (as := [.int a1]) (rest := rest) dX12_part__157 vX12_isSign ml_12_165 isX12_isSign seX12_isSign npX12_isSign (rc_133 (by omega)) hdd (by show 64 * (d' + 1) ≤ 64 * d; omega) (by decide) rfl hs8 (Nat.le_refl n) (Nat.le_refl _) (Nat.le_refl _) hEx k
theorem qX12_part__183 {g : GG} {d d' n : Nat} {post post1 : Option Value → LX → Prop} {L : List (Option Value)} {rest : List Value} {X : LX}  (hn : 146 ≤ n) (hdd : d' + 1 ≤ d) (hs8 : (rest.map fun v => v.category).sum ≤ 8) (hEx : Ex g mX12_next d' n n [.ref 133] X post1) (k : ∀ v X1, post1 v X1 → Ev g mX12_part_ d n n post n 186 L (v.toList ++ rest) X1) : Ev g mX12_part_ d n n post n 183 L (.ref 133 :: rest) X :=
  ev_callV (as := []) (rest := rest) dX12_part__183 vX12_next ml_12_144 isX12_next seX12_next npX12_next (rc_133 (by omega)) hdd (by show 64 * (d' + 1) ≤ 64 * d; omega) (by decide) rfl hs8 (Nat.le_refl n) (Nat.le_refl _) (Nat.le_refl _) hEx k
theorem qX12_part__187 {g : GG} {d d' n : Nat} {post post1 : Option Value → LX → Prop} {L : List (Option Value)} {rest : List Value} {X : LX}  (hn : 146 ≤ n) (hdd : d' + 1 ≤ d) (hs8 : (rest.map fun v => v.category).sum ≤ 8) (hEx : Ex g mX12_part_ d' n n [.ref 133] X post1) (k : ∀ v X1, post1 v X1 → Ev g mX12_part_ d n n post n 190 L (v.toList ++ rest) X1) : Ev g mX12_part_ d n n post n 187 L (.ref 133 :: rest) X :=
  ev_callV (as := []) (rest := rest) dX12_part__187 vX12_part_ ml_12_182 isX12_part_ seX12_part_ npX12_part_ (rc_133 (by omega)) hdd (by show 64 * (d' + 1) ≤ 64 * d; omega) (by decide) rfl hs8 (Nat.le_refl n) (Nat.le_refl _) (Nat.le_refl _) hEx k
theorem qX12_part__203 {g : GG} {d d' n : Nat} {post post1 : Option Value → LX → Prop} {L : List (Option Value)} {rest : List Value} {X : LX} {a1 : Int32} (hn : 146 ≤ n) (hdd : d' + 1 ≤ d) (hs8 : (rest.map fun v => v.category).sum ≤ 8) (hEx : Ex g mX12_put d' n n [.ref 133, .int a1] X post1) (k : ∀ v X1, post1 v X1 → Ev g mX12_part_ d n n post n 206 L (v.toList ++ rest) X1) : Ev g mX12_part_ d n n post n 203 L (.int a1 :: .ref 133 :: rest) X :=
  ev_callV (as := [.int a1]) (rest := rest) dX12_part__203 vX12_put ml_12_168 isX12_put seX12_put npX12_put (rc_133 (by omega)) hdd (by show 64 * (d' + 1) ≤ 64 * d; omega) (by decide) rfl hs8 (Nat.le_refl n) (Nat.le_refl _) (Nat.le_refl _) hEx k
theorem qX12_part__212 {g : GG} {d d' n : Nat} {post post1 : Option Value → LX → Prop} {L : List (Option Value)} {rest : List Value} {X : LX} {a1 : Int32} (hn : 146 ≤ n) (hdd : d' + 1 ≤ d) (hs8 : (rest.map fun v => v.category).sum ≤ 8) (hEx : Ex g mX12_isSign d' n n [.ref 133, .int a1] X post1) (k : ∀ v X1, post1 v X1 → Ev g mX12_part_ d n n post n 215 L (v.toList ++ rest) X1) : Ev g mX12_part_ d n n post n 212 L (.int a1 :: .ref 133 :: rest) X :=
  ev_callV (as := [.int a1]) (rest := rest) dX12_part__212 vX12_isSign ml_12_165 isX12_isSign seX12_isSign npX12_isSign (rc_133 (by omega)) hdd (by show 64 * (d' + 1) ≤ 64 * d; omega) (by decide) rfl hs8 (Nat.le_refl n) (Nat.le_refl _) (Nat.le_refl _) hEx k
theorem qX12_part__238 {g : GG} {d d' n : Nat} {post post1 : Option Value → LX → Prop} {L : List (Option Value)} {rest : List Value} {X : LX}  (hn : 146 ≤ n) (hdd : d' + 1 ≤ d) (hs8 : (rest.map fun v => v.category).sum ≤ 8) (hEx : Ex g mX12_next d' n n [.ref 133] X post1) (k : ∀ v X1, post1 v X1 → Ev g mX12_part_ d n n post n 241 L (v.toList ++ rest) X1) : Ev g mX12_part_ d n n post n 238 L (.ref 133 :: rest) X :=
  ev_callV (as := []) (rest := rest) dX12_part__238 vX12_next ml_12_144 isX12_next seX12_next npX12_next (rc_133 (by omega)) hdd (by show 64 * (d' + 1) ≤ 64 * d; omega) (by decide) rfl hs8 (Nat.le_refl n) (Nat.le_refl _) (Nat.le_refl _) hEx k
theorem qX12_part__242 {g : GG} {d d' n : Nat} {post post1 : Option Value → LX → Prop} {L : List (Option Value)} {rest : List Value} {X : LX}  (hn : 146 ≤ n) (hdd : d' + 1 ≤ d) (hs8 : (rest.map fun v => v.category).sum ≤ 8) (hEx : Ex g mX12_either d' n n [.ref 133] X post1) (k : ∀ v X1, post1 v X1 → Ev g mX12_part_ d n n post n 245 L (v.toList ++ rest) X1) : Ev g mX12_part_ d n n post n 242 L (.ref 133 :: rest) X :=
  ev_callV (as := []) (rest := rest) dX12_part__242 vX12_either ml_12_189 isX12_either seX12_either npX12_either (rc_133 (by omega)) hdd (by show 64 * (d' + 1) ≤ 64 * d; omega) (by decide) rfl hs8 (Nat.le_refl n) (Nat.le_refl _) (Nat.le_refl _) hEx k
theorem qX12_part__249 {g : GG} {d d' n : Nat} {post post1 : Option Value → LX → Prop} {L : List (Option Value)} {rest : List Value} {X : LX} {a1 : Int32} (hn : 146 ≤ n) (hdd : d' + 1 ≤ d) (hs8 : (rest.map fun v => v.category).sum ≤ 8) (hEx : Ex g mX12_isSign d' n n [.ref 133, .int a1] X post1) (k : ∀ v X1, post1 v X1 → Ev g mX12_part_ d n n post n 252 L (v.toList ++ rest) X1) : Ev g mX12_part_ d n n post n 249 L (.int a1 :: .ref 133 :: rest) X :=
  ev_callV (as := [.int a1]) (rest := rest) dX12_part__249 vX12_isSign ml_12_165 isX12_isSign seX12_isSign npX12_isSign (rc_133 (by omega)) hdd (by show 64 * (d' + 1) ≤ 64 * d; omega) (by decide) rfl hs8 (Nat.le_refl n) (Nat.le_refl _) (Nat.le_refl _) hEx k
theorem qX12_part__252 {g : GG} {d d' n : Nat} {post post1 : Option Value → LX → Prop} {L : List (Option Value)} {rest : List Value} {X : LX} {a1 : Int32} (hn : 146 ≤ n) (hdd : d' + 1 ≤ d) (hs8 : (rest.map fun v => v.category).sum ≤ 8) (hEx : Ex g mX12_need d' n n [.ref 133, .int a1] X post1) (k : ∀ v X1, post1 v X1 → Ev g mX12_part_ d n n post n 255 L (v.toList ++ rest) X1) : Ev g mX12_part_ d n n post n 252 L (.int a1 :: .ref 133 :: rest) X :=
  ev_callV (as := [.int a1]) (rest := rest) dX12_part__252 vX12_need ml_12_157 isX12_need seX12_need npX12_need (rc_133 (by omega)) hdd (by show 64 * (d' + 1) ≤ 64 * d; omega) (by decide) rfl hs8 (Nat.le_refl n) (Nat.le_refl _) (Nat.le_refl _) hEx k
theorem qX12_term_1 {g : GG} {d d' n : Nat} {post post1 : Option Value → LX → Prop} {L : List (Option Value)} {rest : List Value} {X : LX}  (hn : 146 ≤ n) (hdd : d' + 1 ≤ d) (hs8 : (rest.map fun v => v.category).sum ≤ 8) (hEx : Ex g mX12_part_ d' n n [.ref 133] X post1) (k : ∀ v X1, post1 v X1 → Ev g mX12_term d n n post n 4 L (v.toList ++ rest) X1) : Ev g mX12_term d n n post n 1 L (.ref 133 :: rest) X :=
  ev_callV (as := []) (rest := rest) dX12_term_1 vX12_part_ ml_12_182 isX12_part_ seX12_part_ npX12_part_ (rc_133 (by omega)) hdd (by show 64 * (d' + 1) ≤ 64 * d; omega) (by decide) rfl hs8 (Nat.le_refl n) (Nat.le_refl _) (Nat.le_refl _) hEx k
theorem qX12_term_9 {g : GG} {d d' n : Nat} {post post1 : Option Value → LX → Prop} {L : List (Option Value)} {rest : List Value} {X : LX} {a1 : Int32} {a2 : Int32} (hn : 146 ≤ n) (hdd : d' + 1 ≤ d) (hs8 : (rest.map fun v => v.category).sum ≤ 8) (hEx : Ex g mX12_signHere d' n n [.ref 133, .int a1, .int a2] X post1) (k : ∀ v X1, post1 v X1 → Ev g mX12_term d n n post n 12 L (v.toList ++ rest) X1) : Ev g mX12_term d n n post n 9 L (.int a2 :: .int a1 :: .ref 133 :: rest) X :=
  ev_callV (as := [.int a1, .int a2]) (rest := rest) dX12_term_9 vX12_signHere ml_12_192 isX12_signHere seX12_signHere npX12_signHere (rc_133 (by omega)) hdd (by show 64 * (d' + 1) ≤ 64 * d; omega) (by decide) rfl hs8 (Nat.le_refl n) (Nat.le_refl _) (Nat.le_refl _) hEx k
theorem qX12_term_18 {g : GG} {d d' n : Nat} {post post1 : Option Value → LX → Prop} {L : List (Option Value)} {rest : List Value} {X : LX}  (hn : 146 ≤ n) (hdd : d' + 1 ≤ d) (hs8 : (rest.map fun v => v.category).sum ≤ 8) (hEx : Ex g mX12_next d' n n [.ref 133] X post1) (k : ∀ v X1, post1 v X1 → Ev g mX12_term d n n post n 21 L (v.toList ++ rest) X1) : Ev g mX12_term d n n post n 18 L (.ref 133 :: rest) X :=
  ev_callV (as := []) (rest := rest) dX12_term_18 vX12_next ml_12_144 isX12_next seX12_next npX12_next (rc_133 (by omega)) hdd (by show 64 * (d' + 1) ≤ 64 * d; omega) (by decide) rfl hs8 (Nat.le_refl n) (Nat.le_refl _) (Nat.le_refl _) hEx k
theorem qX12_term_22 {g : GG} {d d' n : Nat} {post post1 : Option Value → LX → Prop} {L : List (Option Value)} {rest : List Value} {X : LX}  (hn : 146 ≤ n) (hdd : d' + 1 ≤ d) (hs8 : (rest.map fun v => v.category).sum ≤ 8) (hEx : Ex g mX12_part_ d' n n [.ref 133] X post1) (k : ∀ v X1, post1 v X1 → Ev g mX12_term d n n post n 25 L (v.toList ++ rest) X1) : Ev g mX12_term d n n post n 22 L (.ref 133 :: rest) X :=
  ev_callV (as := []) (rest := rest) dX12_term_22 vX12_part_ ml_12_182 isX12_part_ seX12_part_ npX12_part_ (rc_133 (by omega)) hdd (by show 64 * (d' + 1) ≤ 64 * d; omega) (by decide) rfl hs8 (Nat.le_refl n) (Nat.le_refl _) (Nat.le_refl _) hEx k
theorem qX12_term_30 {g : GG} {d d' n : Nat} {post post1 : Option Value → LX → Prop} {L : List (Option Value)} {rest : List Value} {X : LX} {a1 : Int32} (hn : 146 ≤ n) (hdd : d' + 1 ≤ d) (hs8 : (rest.map fun v => v.category).sum ≤ 8) (hEx : Ex g mX12_put d' n n [.ref 133, .int a1] X post1) (k : ∀ v X1, post1 v X1 → Ev g mX12_term d n n post n 33 L (v.toList ++ rest) X1) : Ev g mX12_term d n n post n 30 L (.int a1 :: .ref 133 :: rest) X :=
  ev_callV (as := [.int a1]) (rest := rest) dX12_term_30 vX12_put ml_12_168 isX12_put seX12_put npX12_put (rc_133 (by omega)) hdd (by show 64 * (d' + 1) ≤ 64 * d; omega) (by decide) rfl hs8 (Nat.le_refl n) (Nat.le_refl _) (Nat.le_refl _) hEx k
theorem qX12_term_38 {g : GG} {d d' n : Nat} {post post1 : Option Value → LX → Prop} {L : List (Option Value)} {rest : List Value} {X : LX} {a1 : Int32} {a2 : Int32} (hn : 146 ≤ n) (hdd : d' + 1 ≤ d) (hs8 : (rest.map fun v => v.category).sum ≤ 8) (hEx : Ex g mX12_signHere d' n n [.ref 133, .int a1, .int a2] X post1) (k : ∀ v X1, post1 v X1 → Ev g mX12_term d n n post n 41 L (v.toList ++ rest) X1) : Ev g mX12_term d n n post n 38 L (.int a2 :: .int a1 :: .ref 133 :: rest) X :=
  ev_callV (as := [.int a1, .int a2]) (rest := rest) dX12_term_38 vX12_signHere ml_12_192 isX12_signHere seX12_signHere npX12_signHere (rc_133 (by omega)) hdd (by show 64 * (d' + 1) ≤ 64 * d; omega) (by decide) rfl hs8 (Nat.le_refl n) (Nat.le_refl _) (Nat.le_refl _) hEx k
theorem qX12_sum_1 {g : GG} {d d' n : Nat} {post post1 : Option Value → LX → Prop} {L : List (Option Value)} {rest : List Value} {X : LX}  (hn : 146 ≤ n) (hdd : d' + 1 ≤ d) (hs8 : (rest.map fun v => v.category).sum ≤ 8) (hEx : Ex g mX12_term d' n n [.ref 133] X post1) (k : ∀ v X1, post1 v X1 → Ev g mX12_sum d n n post n 4 L (v.toList ++ rest) X1) : Ev g mX12_sum d n n post n 1 L (.ref 133 :: rest) X :=
  ev_callV (as := []) (rest := rest) dX12_sum_1 vX12_term ml_12_196 isX12_term seX12_term npX12_term (rc_133 (by omega)) hdd (by show 64 * (d' + 1) ≤ 64 * d; omega) (by decide) rfl hs8 (Nat.le_refl n) (Nat.le_refl _) (Nat.le_refl _) hEx k
theorem qX12_sum_8 {g : GG} {d d' n : Nat} {post post1 : Option Value → LX → Prop} {L : List (Option Value)} {rest : List Value} {X : LX} {a1 : Int32} {a2 : Int32} (hn : 146 ≤ n) (hdd : d' + 1 ≤ d) (hs8 : (rest.map fun v => v.category).sum ≤ 8) (hEx : Ex g mX12_signHere d' n n [.ref 133, .int a1, .int a2] X post1) (k : ∀ v X1, post1 v X1 → Ev g mX12_sum d n n post n 11 L (v.toList ++ rest) X1) : Ev g mX12_sum d n n post n 8 L (.int a2 :: .int a1 :: .ref 133 :: rest) X :=
  ev_callV (as := [.int a1, .int a2]) (rest := rest) dX12_sum_8 vX12_signHere ml_12_192 isX12_signHere seX12_signHere npX12_signHere (rc_133 (by omega)) hdd (by show 64 * (d' + 1) ≤ 64 * d; omega) (by decide) rfl hs8 (Nat.le_refl n) (Nat.le_refl _) (Nat.le_refl _) hEx k
theorem qX12_sum_17 {g : GG} {d d' n : Nat} {post post1 : Option Value → LX → Prop} {L : List (Option Value)} {rest : List Value} {X : LX}  (hn : 146 ≤ n) (hdd : d' + 1 ≤ d) (hs8 : (rest.map fun v => v.category).sum ≤ 8) (hEx : Ex g mX12_next d' n n [.ref 133] X post1) (k : ∀ v X1, post1 v X1 → Ev g mX12_sum d n n post n 20 L (v.toList ++ rest) X1) : Ev g mX12_sum d n n post n 17 L (.ref 133 :: rest) X :=
  ev_callV (as := []) (rest := rest) dX12_sum_17 vX12_next ml_12_144 isX12_next seX12_next npX12_next (rc_133 (by omega)) hdd (by show 64 * (d' + 1) ≤ 64 * d; omega) (by decide) rfl hs8 (Nat.le_refl n) (Nat.le_refl _) (Nat.le_refl _) hEx k
theorem qX12_sum_21 {g : GG} {d d' n : Nat} {post post1 : Option Value → LX → Prop} {L : List (Option Value)} {rest : List Value} {X : LX}  (hn : 146 ≤ n) (hdd : d' + 1 ≤ d) (hs8 : (rest.map fun v => v.category).sum ≤ 8) (hEx : Ex g mX12_term d' n n [.ref 133] X post1) (k : ∀ v X1, post1 v X1 → Ev g mX12_sum d n n post n 24 L (v.toList ++ rest) X1) : Ev g mX12_sum d n n post n 21 L (.ref 133 :: rest) X :=
  ev_callV (as := []) (rest := rest) dX12_sum_21 vX12_term ml_12_196 isX12_term seX12_term npX12_term (rc_133 (by omega)) hdd (by show 64 * (d' + 1) ≤ 64 * d; omega) (by decide) rfl hs8 (Nat.le_refl n) (Nat.le_refl _) (Nat.le_refl _) hEx k
theorem qX12_sum_29 {g : GG} {d d' n : Nat} {post post1 : Option Value → LX → Prop} {L : List (Option Value)} {rest : List Value} {X : LX} {a1 : Int32} (hn : 146 ≤ n) (hdd : d' + 1 ≤ d) (hs8 : (rest.map fun v => v.category).sum ≤ 8) (hEx : Ex g mX12_put d' n n [.ref 133, .int a1] X post1) (k : ∀ v X1, post1 v X1 → Ev g mX12_sum d n n post n 32 L (v.toList ++ rest) X1) : Ev g mX12_sum d n n post n 29 L (.int a1 :: .ref 133 :: rest) X :=
  ev_callV (as := [.int a1]) (rest := rest) dX12_sum_29 vX12_put ml_12_168 isX12_put seX12_put npX12_put (rc_133 (by omega)) hdd (by show 64 * (d' + 1) ≤ 64 * d; omega) (by decide) rfl hs8 (Nat.le_refl n) (Nat.le_refl _) (Nat.le_refl _) hEx k
theorem qX12_sum_36 {g : GG} {d d' n : Nat} {post post1 : Option Value → LX → Prop} {L : List (Option Value)} {rest : List Value} {X : LX} {a1 : Int32} {a2 : Int32} (hn : 146 ≤ n) (hdd : d' + 1 ≤ d) (hs8 : (rest.map fun v => v.category).sum ≤ 8) (hEx : Ex g mX12_signHere d' n n [.ref 133, .int a1, .int a2] X post1) (k : ∀ v X1, post1 v X1 → Ev g mX12_sum d n n post n 39 L (v.toList ++ rest) X1) : Ev g mX12_sum d n n post n 36 L (.int a2 :: .int a1 :: .ref 133 :: rest) X :=
  ev_callV (as := [.int a1, .int a2]) (rest := rest) dX12_sum_36 vX12_signHere ml_12_192 isX12_signHere seX12_signHere npX12_signHere (rc_133 (by omega)) hdd (by show 64 * (d' + 1) ≤ 64 * d; omega) (by decide) rfl hs8 (Nat.le_refl n) (Nat.le_refl _) (Nat.le_refl _) hEx k
theorem qX12_test_1 {g : GG} {d d' n : Nat} {post post1 : Option Value → LX → Prop} {L : List (Option Value)} {rest : List Value} {X : LX}  (hn : 146 ≤ n) (hdd : d' + 1 ≤ d) (hs8 : (rest.map fun v => v.category).sum ≤ 8) (hEx : Ex g mX12_sum d' n n [.ref 133] X post1) (k : ∀ v X1, post1 v X1 → Ev g mX12_test d n n post n 4 L (v.toList ++ rest) X1) : Ev g mX12_test d n n post n 1 L (.ref 133 :: rest) X :=
  ev_callV (as := []) (rest := rest) dX12_test_1 vX12_sum ml_12_199 isX12_sum seX12_sum npX12_sum (rc_133 (by omega)) hdd (by show 64 * (d' + 1) ≤ 64 * d; omega) (by decide) rfl hs8 (Nat.le_refl n) (Nat.le_refl _) (Nat.le_refl _) hEx k
theorem qX12_test_7 {g : GG} {d d' n : Nat} {post post1 : Option Value → LX → Prop} {L : List (Option Value)} {rest : List Value} {X : LX} {a1 : Int32} {a2 : Int32} (hn : 146 ≤ n) (hdd : d' + 1 ≤ d) (hs8 : (rest.map fun v => v.category).sum ≤ 8) (hEx : Ex g mX12_signHere d' n n [.ref 133, .int a1, .int a2] X post1) (k : ∀ v X1, post1 v X1 → Ev g mX12_test d n n post n 10 L (v.toList ++ rest) X1) : Ev g mX12_test d n n post n 7 L (.int a2 :: .int a1 :: .ref 133 :: rest) X :=
  ev_callV (as := [.int a1, .int a2]) (rest := rest) dX12_test_7 vX12_signHere ml_12_192 isX12_signHere seX12_signHere npX12_signHere (rc_133 (by omega)) hdd (by show 64 * (d' + 1) ≤ 64 * d; omega) (by decide) rfl hs8 (Nat.le_refl n) (Nat.le_refl _) (Nat.le_refl _) hEx k
theorem qX12_test_16 {g : GG} {d d' n : Nat} {post post1 : Option Value → LX → Prop} {L : List (Option Value)} {rest : List Value} {X : LX}  (hn : 146 ≤ n) (hdd : d' + 1 ≤ d) (hs8 : (rest.map fun v => v.category).sum ≤ 8) (hEx : Ex g mX12_next d' n n [.ref 133] X post1) (k : ∀ v X1, post1 v X1 → Ev g mX12_test d n n post n 19 L (v.toList ++ rest) X1) : Ev g mX12_test d n n post n 16 L (.ref 133 :: rest) X :=
  ev_callV (as := []) (rest := rest) dX12_test_16 vX12_next ml_12_144 isX12_next seX12_next npX12_next (rc_133 (by omega)) hdd (by show 64 * (d' + 1) ≤ 64 * d; omega) (by decide) rfl hs8 (Nat.le_refl n) (Nat.le_refl _) (Nat.le_refl _) hEx k
theorem qX12_test_20 {g : GG} {d d' n : Nat} {post post1 : Option Value → LX → Prop} {L : List (Option Value)} {rest : List Value} {X : LX}  (hn : 146 ≤ n) (hdd : d' + 1 ≤ d) (hs8 : (rest.map fun v => v.category).sum ≤ 8) (hEx : Ex g mX12_sum d' n n [.ref 133] X post1) (k : ∀ v X1, post1 v X1 → Ev g mX12_test d n n post n 23 L (v.toList ++ rest) X1) : Ev g mX12_test d n n post n 20 L (.ref 133 :: rest) X :=
  ev_callV (as := []) (rest := rest) dX12_test_20 vX12_sum ml_12_199 isX12_sum seX12_sum npX12_sum (rc_133 (by omega)) hdd (by show 64 * (d' + 1) ≤ 64 * d; omega) (by decide) rfl hs8 (Nat.le_refl n) (Nat.le_refl _) (Nat.le_refl _) hEx k
theorem qX12_test_28 {g : GG} {d d' n : Nat} {post post1 : Option Value → LX → Prop} {L : List (Option Value)} {rest : List Value} {X : LX} {a1 : Int32} (hn : 146 ≤ n) (hdd : d' + 1 ≤ d) (hs8 : (rest.map fun v => v.category).sum ≤ 8) (hEx : Ex g mX12_put d' n n [.ref 133, .int a1] X post1) (k : ∀ v X1, post1 v X1 → Ev g mX12_test d n n post n 31 L (v.toList ++ rest) X1) : Ev g mX12_test d n n post n 28 L (.int a1 :: .ref 133 :: rest) X :=
  ev_callV (as := [.int a1]) (rest := rest) dX12_test_28 vX12_put ml_12_168 isX12_put seX12_put npX12_put (rc_133 (by omega)) hdd (by show 64 * (d' + 1) ≤ 64 * d; omega) (by decide) rfl hs8 (Nat.le_refl n) (Nat.le_refl _) (Nat.le_refl _) hEx k
theorem qX12_both_1 {g : GG} {d d' n : Nat} {post post1 : Option Value → LX → Prop} {L : List (Option Value)} {rest : List Value} {X : LX}  (hn : 146 ≤ n) (hdd : d' + 1 ≤ d) (hs8 : (rest.map fun v => v.category).sum ≤ 8) (hEx : Ex g mX12_test d' n n [.ref 133] X post1) (k : ∀ v X1, post1 v X1 → Ev g mX12_both d n n post n 4 L (v.toList ++ rest) X1) : Ev g mX12_both d n n post n 1 L (.ref 133 :: rest) X :=
  ev_callV (as := []) (rest := rest) dX12_both_1 vX12_test ml_12_202 isX12_test seX12_test npX12_test (rc_133 (by omega)) hdd (by show 64 * (d' + 1) ≤ 64 * d; omega) (by decide) rfl hs8 (Nat.le_refl n) (Nat.le_refl _) (Nat.le_refl _) hEx k
theorem qX12_both_7 {g : GG} {d d' n : Nat} {post post1 : Option Value → LX → Prop} {L : List (Option Value)} {rest : List Value} {X : LX} {a1 : Int32} {a2 : Int32} (hn : 146 ≤ n) (hdd : d' + 1 ≤ d) (hs8 : (rest.map fun v => v.category).sum ≤ 8) (hEx : Ex g mX12_signHere d' n n [.ref 133, .int a1, .int a2] X post1) (k : ∀ v X1, post1 v X1 → Ev g mX12_both d n n post n 10 L (v.toList ++ rest) X1) : Ev g mX12_both d n n post n 7 L (.int a2 :: .int a1 :: .ref 133 :: rest) X :=
  ev_callV (as := [.int a1, .int a2]) (rest := rest) dX12_both_7 vX12_signHere ml_12_192 isX12_signHere seX12_signHere npX12_signHere (rc_133 (by omega)) hdd (by show 64 * (d' + 1) ≤ 64 * d; omega) (by decide) rfl hs8 (Nat.le_refl n) (Nat.le_refl _) (Nat.le_refl _) hEx k
theorem qX12_both_14 {g : GG} {d d' n : Nat} {post post1 : Option Value → LX → Prop} {L : List (Option Value)} {rest : List Value} {X : LX}  (hn : 146 ≤ n) (hdd : d' + 1 ≤ d) (hs8 : (rest.map fun v => v.category).sum ≤ 8) (hEx : Ex g mX12_next d' n n [.ref 133] X post1) (k : ∀ v X1, post1 v X1 → Ev g mX12_both d n n post n 17 L (v.toList ++ rest) X1) : Ev g mX12_both d n n post n 14 L (.ref 133 :: rest) X :=
  ev_callV (as := []) (rest := rest) dX12_both_14 vX12_next ml_12_144 isX12_next seX12_next npX12_next (rc_133 (by omega)) hdd (by show 64 * (d' + 1) ≤ 64 * d; omega) (by decide) rfl hs8 (Nat.le_refl n) (Nat.le_refl _) (Nat.le_refl _) hEx k
theorem qX12_both_18 {g : GG} {d d' n : Nat} {post post1 : Option Value → LX → Prop} {L : List (Option Value)} {rest : List Value} {X : LX}  (hn : 146 ≤ n) (hdd : d' + 1 ≤ d) (hs8 : (rest.map fun v => v.category).sum ≤ 8) (hEx : Ex g mX12_test d' n n [.ref 133] X post1) (k : ∀ v X1, post1 v X1 → Ev g mX12_both d n n post n 21 L (v.toList ++ rest) X1) : Ev g mX12_both d n n post n 18 L (.ref 133 :: rest) X :=
  ev_callV (as := []) (rest := rest) dX12_both_18 vX12_test ml_12_202 isX12_test seX12_test npX12_test (rc_133 (by omega)) hdd (by show 64 * (d' + 1) ≤ 64 * d; omega) (by decide) rfl hs8 (Nat.le_refl n) (Nat.le_refl _) (Nat.le_refl _) hEx k
theorem qX12_both_24 {g : GG} {d d' n : Nat} {post post1 : Option Value → LX → Prop} {L : List (Option Value)} {rest : List Value} {X : LX} {a1 : Int32} (hn : 146 ≤ n) (hdd : d' + 1 ≤ d) (hs8 : (rest.map fun v => v.category).sum ≤ 8) (hEx : Ex g mX12_put d' n n [.ref 133, .int a1] X post1) (k : ∀ v X1, post1 v X1 → Ev g mX12_both d n n post n 27 L (v.toList ++ rest) X1) : Ev g mX12_both d n n post n 24 L (.int a1 :: .ref 133 :: rest) X :=
  ev_callV (as := [.int a1]) (rest := rest) dX12_both_24 vX12_put ml_12_168 isX12_put seX12_put npX12_put (rc_133 (by omega)) hdd (by show 64 * (d' + 1) ≤ 64 * d; omega) (by decide) rfl hs8 (Nat.le_refl n) (Nat.le_refl _) (Nat.le_refl _) hEx k
theorem qX12_either_1 {g : GG} {d d' n : Nat} {post post1 : Option Value → LX → Prop} {L : List (Option Value)} {rest : List Value} {X : LX}  (hn : 146 ≤ n) (hdd : d' + 1 ≤ d) (hs8 : (rest.map fun v => v.category).sum ≤ 8) (hEx : Ex g mX12_both d' n n [.ref 133] X post1) (k : ∀ v X1, post1 v X1 → Ev g mX12_either d n n post n 4 L (v.toList ++ rest) X1) : Ev g mX12_either d n n post n 1 L (.ref 133 :: rest) X :=
  ev_callV (as := []) (rest := rest) dX12_either_1 vX12_both ml_12_206 isX12_both seX12_both npX12_both (rc_133 (by omega)) hdd (by show 64 * (d' + 1) ≤ 64 * d; omega) (by decide) rfl hs8 (Nat.le_refl n) (Nat.le_refl _) (Nat.le_refl _) hEx k
theorem qX12_either_7 {g : GG} {d d' n : Nat} {post post1 : Option Value → LX → Prop} {L : List (Option Value)} {rest : List Value} {X : LX} {a1 : Int32} {a2 : Int32} (hn : 146 ≤ n) (hdd : d' + 1 ≤ d) (hs8 : (rest.map fun v => v.category).sum ≤ 8) (hEx : Ex g mX12_signHere d' n n [.ref 133, .int a1, .int a2] X post1) (k : ∀ v X1, post1 v X1 → Ev g mX12_either d n n post n 10 L (v.toList ++ rest) X1) : Ev g mX12_either d n n post n 7 L (.int a2 :: .int a1 :: .ref 133 :: rest) X :=
  ev_callV (as := [.int a1, .int a2]) (rest := rest) dX12_either_7 vX12_signHere ml_12_192 isX12_signHere seX12_signHere npX12_signHere (rc_133 (by omega)) hdd (by show 64 * (d' + 1) ≤ 64 * d; omega) (by decide) rfl hs8 (Nat.le_refl n) (Nat.le_refl _) (Nat.le_refl _) hEx k
theorem qX12_either_14 {g : GG} {d d' n : Nat} {post post1 : Option Value → LX → Prop} {L : List (Option Value)} {rest : List Value} {X : LX}  (hn : 146 ≤ n) (hdd : d' + 1 ≤ d) (hs8 : (rest.map fun v => v.category).sum ≤ 8) (hEx : Ex g mX12_next d' n n [.ref 133] X post1) (k : ∀ v X1, post1 v X1 → Ev g mX12_either d n n post n 17 L (v.toList ++ rest) X1) : Ev g mX12_either d n n post n 14 L (.ref 133 :: rest) X :=
  ev_callV (as := []) (rest := rest) dX12_either_14 vX12_next ml_12_144 isX12_next seX12_next npX12_next (rc_133 (by omega)) hdd (by show 64 * (d' + 1) ≤ 64 * d; omega) (by decide) rfl hs8 (Nat.le_refl n) (Nat.le_refl _) (Nat.le_refl _) hEx k
theorem qX12_either_18 {g : GG} {d d' n : Nat} {post post1 : Option Value → LX → Prop} {L : List (Option Value)} {rest : List Value} {X : LX}  (hn : 146 ≤ n) (hdd : d' + 1 ≤ d) (hs8 : (rest.map fun v => v.category).sum ≤ 8) (hEx : Ex g mX12_both d' n n [.ref 133] X post1) (k : ∀ v X1, post1 v X1 → Ev g mX12_either d n n post n 21 L (v.toList ++ rest) X1) : Ev g mX12_either d n n post n 18 L (.ref 133 :: rest) X :=
  ev_callV (as := []) (rest := rest) dX12_either_18 vX12_both ml_12_206 isX12_both seX12_both npX12_both (rc_133 (by omega)) hdd (by show 64 * (d' + 1) ≤ 64 * d; omega) (by decide) rfl hs8 (Nat.le_refl n) (Nat.le_refl _) (Nat.le_refl _) hEx k
theorem qX12_either_24 {g : GG} {d d' n : Nat} {post post1 : Option Value → LX → Prop} {L : List (Option Value)} {rest : List Value} {X : LX} {a1 : Int32} (hn : 146 ≤ n) (hdd : d' + 1 ≤ d) (hs8 : (rest.map fun v => v.category).sum ≤ 8) (hEx : Ex g mX12_put d' n n [.ref 133, .int a1] X post1) (k : ∀ v X1, post1 v X1 → Ev g mX12_either d n n post n 27 L (v.toList ++ rest) X1) : Ev g mX12_either d n n post n 24 L (.int a1 :: .ref 133 :: rest) X :=
  ev_callV (as := [.int a1]) (rest := rest) dX12_either_24 vX12_put ml_12_168 isX12_put seX12_put npX12_put (rc_133 (by omega)) hdd (by show 64 * (d' + 1) ≤ 64 * d; omega) (by decide) rfl hs8 (Nat.le_refl n) (Nat.le_refl _) (Nat.le_refl _) hEx k
theorem qX11_law_4 {g : GG} {d d' n : Nat} {post post1 : Option Value → LX → Prop} {L : List (Option Value)} {rest : List Value} {X : LX}  (hn : 146 ≤ n) (hdd : d' + 1 ≤ d) (hs8 : (rest.map fun v => v.category).sum ≤ 8) (hEx : Ex g mX3_readTape d' n n [.ref 81] X post1) (k : ∀ v X1, post1 v X1 → Ev g mX11_law d n n post n 7 L (v.toList ++ rest) X1) : Ev g mX11_law d n n post n 4 L (.ref 81 :: rest) X :=
  ev_callV (as := []) (rest := rest) dX11_law_4 vX3_readTape ml_11_222 isX3_readTape seX3_readTape npX3_readTape (rc_81 (by omega)) hdd (by show 64 * (d' + 1) ≤ 64 * d; omega) (by decide) rfl hs8 (Nat.le_refl n) (Nat.le_refl _) (Nat.le_refl _) hEx k
theorem qX11_law_64 {g : GG} {d d' n : Nat} {post post1 : Option Value → LX → Prop} {L : List (Option Value)} {rest : List Value} {X : LX} {a1 : Nat} {a2 : Int32} {a3 : Int32} (hn : 146 ≤ n) (hdd : d' + 1 ≤ d) (hs8 : (rest.map fun v => v.category).sum ≤ 8) (hEx : Ex g mX2_takeCode d' n n [.ref 77, .ref a1, .int a2, .int a3] X post1) (k : ∀ v X1, post1 v X1 → Ev g mX11_law d n n post n 67 L (v.toList ++ rest) X1) : Ev g mX11_law d n n post n 64 L (.int a3 :: .int a2 :: .ref a1 :: .ref 77 :: rest) X :=
  ev_callV (as := [.ref a1, .int a2, .int a3]) (rest := rest) dX11_law_64 vX2_takeCode ml_11_239 isX2_takeCode seX2_takeCode npX2_takeCode (rc_77 (by omega)) hdd (by show 64 * (d' + 1) ≤ 64 * d; omega) (by decide) rfl hs8 (Nat.le_refl n) (Nat.le_refl _) (Nat.le_refl _) hEx k
theorem qX12_law_36 {g : GG} {d d' n : Nat} {post post1 : Option Value → LX → Prop} {L : List (Option Value)} {rest : List Value} {X : LX}  (hn : 146 ≤ n) (hdd : d' + 1 ≤ d) (hs8 : (rest.map fun v => v.category).sum ≤ 8) (hEx : Ex g mX12_next d' n n [.ref 133] X post1) (k : ∀ v X1, post1 v X1 → Ev g mX12_law d n n post n 39 L (v.toList ++ rest) X1) : Ev g mX12_law d n n post n 36 L (.ref 133 :: rest) X :=
  ev_callV (as := []) (rest := rest) dX12_law_36 vX12_next ml_12_144 isX12_next seX12_next npX12_next (rc_133 (by omega)) hdd (by show 64 * (d' + 1) ≤ 64 * d; omega) (by decide) rfl hs8 (Nat.le_refl n) (Nat.le_refl _) (Nat.le_refl _) hEx k
theorem qX12_law_48 {g : GG} {d d' n : Nat} {post post1 : Option Value → LX → Prop} {L : List (Option Value)} {rest : List Value} {X : LX} {a1 : Nat} (hn : 146 ≤ n) (hdd : d' + 1 ≤ d) (hs8 : (rest.map fun v => v.category).sum ≤ 8) (hEx : Ex g mX12_word d' n n [.ref 133, .ref a1] X post1) (k : ∀ v X1, post1 v X1 → Ev g mX12_law d n n post n 51 L (v.toList ++ rest) X1) : Ev g mX12_law d n n post n 48 L (.ref a1 :: .ref 133 :: rest) X :=
  ev_callV (as := [.ref a1]) (rest := rest) dX12_law_48 vX12_word ml_12_213 isX12_word seX12_word npX12_word (rc_133 (by omega)) hdd (by show 64 * (d' + 1) ≤ 64 * d; omega) (by decide) rfl hs8 (Nat.le_refl n) (Nat.le_refl _) (Nat.le_refl _) hEx k
theorem qX12_law_52 {g : GG} {d d' n : Nat} {post post1 : Option Value → LX → Prop} {L : List (Option Value)} {rest : List Value} {X : LX}  (hn : 146 ≤ n) (hdd : d' + 1 ≤ d) (hs8 : (rest.map fun v => v.category).sum ≤ 8) (hEx : Ex g mX12_either d' n n [.ref 133] X post1) (k : ∀ v X1, post1 v X1 → Ev g mX12_law d n n post n 55 L (v.toList ++ rest) X1) : Ev g mX12_law d n n post n 52 L (.ref 133 :: rest) X :=
  ev_callV (as := []) (rest := rest) dX12_law_52 vX12_either ml_12_189 isX12_either seX12_either npX12_either (rc_133 (by omega)) hdd (by show 64 * (d' + 1) ≤ 64 * d; omega) (by decide) rfl hs8 (Nat.le_refl n) (Nat.le_refl _) (Nat.le_refl _) hEx k
theorem qX12_law_58 {g : GG} {d d' n : Nat} {post post1 : Option Value → LX → Prop} {L : List (Option Value)} {rest : List Value} {X : LX} {a1 : Int32} (hn : 146 ≤ n) (hdd : d' + 1 ≤ d) (hs8 : (rest.map fun v => v.category).sum ≤ 8) (hEx : Ex g mX12_put d' n n [.ref 133, .int a1] X post1) (k : ∀ v X1, post1 v X1 → Ev g mX12_law d n n post n 61 L (v.toList ++ rest) X1) : Ev g mX12_law d n n post n 58 L (.int a1 :: .ref 133 :: rest) X :=
  ev_callV (as := [.int a1]) (rest := rest) dX12_law_58 vX12_put ml_12_168 isX12_put seX12_put npX12_put (rc_133 (by omega)) hdd (by show 64 * (d' + 1) ≤ 64 * d; omega) (by decide) rfl hs8 (Nat.le_refl n) (Nat.le_refl _) (Nat.le_refl _) hEx k
theorem qX12_law_70 {g : GG} {d d' n : Nat} {post post1 : Option Value → LX → Prop} {L : List (Option Value)} {rest : List Value} {X : LX} {a1 : Nat} (hn : 146 ≤ n) (hdd : d' + 1 ≤ d) (hs8 : (rest.map fun v => v.category).sum ≤ 8) (hEx : Ex g mX12_word d' n n [.ref 133, .ref a1] X post1) (k : ∀ v X1, post1 v X1 → Ev g mX12_law d n n post n 73 L (v.toList ++ rest) X1) : Ev g mX12_law d n n post n 70 L (.ref a1 :: .ref 133 :: rest) X :=
  ev_callV (as := [.ref a1]) (rest := rest) dX12_law_70 vX12_word ml_12_213 isX12_word seX12_word npX12_word (rc_133 (by omega)) hdd (by show 64 * (d' + 1) ≤ 64 * d; omega) (by decide) rfl hs8 (Nat.le_refl n) (Nat.le_refl _) (Nat.le_refl _) hEx k
theorem qX12_law_74 {g : GG} {d d' n : Nat} {post post1 : Option Value → LX → Prop} {L : List (Option Value)} {rest : List Value} {X : LX}  (hn : 146 ≤ n) (hdd : d' + 1 ≤ d) (hs8 : (rest.map fun v => v.category).sum ≤ 8) (hEx : Ex g mX12_either d' n n [.ref 133] X post1) (k : ∀ v X1, post1 v X1 → Ev g mX12_law d n n post n 77 L (v.toList ++ rest) X1) : Ev g mX12_law d n n post n 74 L (.ref 133 :: rest) X :=
  ev_callV (as := []) (rest := rest) dX12_law_74 vX12_either ml_12_189 isX12_either seX12_either npX12_either (rc_133 (by omega)) hdd (by show 64 * (d' + 1) ≤ 64 * d; omega) (by decide) rfl hs8 (Nat.le_refl n) (Nat.le_refl _) (Nat.le_refl _) hEx k
theorem qX12_law_80 {g : GG} {d d' n : Nat} {post post1 : Option Value → LX → Prop} {L : List (Option Value)} {rest : List Value} {X : LX} {a1 : Int32} (hn : 146 ≤ n) (hdd : d' + 1 ≤ d) (hs8 : (rest.map fun v => v.category).sum ≤ 8) (hEx : Ex g mX12_put d' n n [.ref 133, .int a1] X post1) (k : ∀ v X1, post1 v X1 → Ev g mX12_law d n n post n 83 L (v.toList ++ rest) X1) : Ev g mX12_law d n n post n 80 L (.int a1 :: .ref 133 :: rest) X :=
  ev_callV (as := [.int a1]) (rest := rest) dX12_law_80 vX12_put ml_12_168 isX12_put seX12_put npX12_put (rc_133 (by omega)) hdd (by show 64 * (d' + 1) ≤ 64 * d; omega) (by decide) rfl hs8 (Nat.le_refl n) (Nat.le_refl _) (Nat.le_refl _) hEx k
