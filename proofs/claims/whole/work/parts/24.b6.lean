theorem bX1_needOfAll_0_0 {g : GG} {d n : Nat} {post : Option Value → LX → Prop} {X : LX} (hn : 146 ≤ n) (hX : Sh n X) {v1 : Int32} (k : Ev g mX1_needOfAll d n n post n 4 [some (.ref 1), some (.int v1), some (.int 0), some (.int 0)] [] X) : Ev g mX1_needOfAll d n n post n 0 [some (.ref 1), some (.int v1), none, none] [] X := by
  refine ev_iconst (v := 0) dX1_needOfAll_0 ki_0 ?_
  refine ev_istore_n dX1_needOfAll_1 (by decide) ?_
  refine ev_iconst (v := 0) dX1_needOfAll_2 ki_0 ?_
  refine ev_istore_n dX1_needOfAll_3 (by decide) ?_
  exact k
theorem bX1_needOfAll_4_0 {g : GG} {d n : Nat} {post : Option Value → LX → Prop} {X : LX} (hd : 4 ≤ d) (hn : 146 ≤ n) (hX : Sh n X) {v1 : Nat} {v2 : Int32} {v3 : Nat} (c0 : ¬ X 37 0 ≤ nI v3) (c1 : v3 < 12) (c2 : okK X) (c3 : v1 < 14) (c4 : num X 23 0 10) (k : Ev g mX1_needOfAll d n n post n 4 [some (.ref 1), some (.int (nI v1)), some (.int (v2 + (cNeed X v3 (cBox X v3) v1))), some (.int ((nI v3) + 1))] [] X) : Ev g mX1_needOfAll d n n post n 4 [some (.ref 1), some (.int (nI v1)), some (.int v2), some (.int (nI v3))] [] X := by
  refine ev_iload_n dX1_needOfAll_4 rfl ?_
  refine ev_aload_n dX1_needOfAll_5 rfl ?_
  refine ev_getS (q := 37) dX1_needOfAll_6 fo_1_28 (by omega) lo_1 rfl (sh_1_2 hX (by omega)) (by decide) ?_
  refine ev_getI dX1_needOfAll_9 fo_1_171 (by omega) lo_37 rfl ?_
  refine ev_icmpF (tgt := 35) dX1_needOfAll_12 (by decide) c0 ?_
  refine ev_iload_n dX1_needOfAll_15 rfl ?_
  refine ev_aload_n dX1_needOfAll_16 rfl ?_
  refine ev_iload_n dX1_needOfAll_17 rfl ?_
  refine ev_aload_n dX1_needOfAll_18 rfl ?_
  refine ev_iload_n dX1_needOfAll_19 rfl ?_
  refine e_Vi (as := [.int (nI v3)]) (rest := [.int (nI v3), .ref 1, .int v2]) dX1_needOfAll_20 vX1_boxToday ml_1_151 isX1_boxToday seX1_boxToday npX1_boxToday (rc_1 (by omega)) (by decide) rfl (Nat.le_of_ble_eq_true rfl) (by omega) (k_X1_boxToday (d := d - 1) (by omega) (by omega) hX c1 c2) ?_
  refine ev_iload_n dX1_needOfAll_23 rfl ?_
  refine e_Vi (as := [.int (nI v3), .int (cBox X v3), .int (nI v1)]) (rest := [.int v2]) dX1_needOfAll_24 vX1_needOf ml_1_172 isX1_needOf seX1_needOf npX1_needOf (rc_1 (by omega)) (by decide) rfl (Nat.le_of_ble_eq_true rfl) (by omega) (k_X1_needOf (d := d - 1) (by omega) (by omega) hX c1 c3 c4) ?_
  refine ev_iadd dX1_needOfAll_27 ?_
  refine ev_istore_n dX1_needOfAll_28 (by decide) ?_
  refine ev_iinc (v := (nI v3) + 1) dX1_needOfAll_29 rfl (by rw [show Int32.ofInt 1 = 1 from ki_1]) (by decide) ?_
  refine ev_goto (tgt := 4) dX1_needOfAll_32 (by decide) ?_
  exact k
theorem bX1_needOfAll_4_1 {g : GG} {d n : Nat} {post : Option Value → LX → Prop} {X : LX} (hn : 146 ≤ n) (hX : Sh n X) {v1 : Int32} {v2 : Int32} {v3 : Int32} (c0 : X 37 0 ≤ v3) (hp : post (some (.int v2)) X) : Ev g mX1_needOfAll d n n post n 4 [some (.ref 1), some (.int v1), some (.int v2), some (.int v3)] [] X := by
  refine ev_iload_n dX1_needOfAll_4 rfl ?_
  refine ev_aload_n dX1_needOfAll_5 rfl ?_
  refine ev_getS (q := 37) dX1_needOfAll_6 fo_1_28 (by omega) lo_1 rfl (sh_1_2 hX (by omega)) (by decide) ?_
  refine ev_getI dX1_needOfAll_9 fo_1_171 (by omega) lo_37 rfl ?_
  refine ev_icmpT (tgt := 35) dX1_needOfAll_12 (by decide) c0 ?_
  refine ev_iload_n dX1_needOfAll_35 rfl ?_
  exact ev_iret dX1_needOfAll_36 rfl rfl hp
theorem bX1_freezeBoxes_0_0 {g : GG} {d n : Nat} {post : Option Value → LX → Prop} {X : LX} (hn : 146 ≤ n) (hX : Sh n X)  (k : Ev g mX1_freezeBoxes d n n post n 2 [some (.ref 1), some (.int 0)] [] X) : Ev g mX1_freezeBoxes d n n post n 0 [some (.ref 1), none] [] X := by
  refine ev_iconst (v := 0) dX1_freezeBoxes_0 ki_0 ?_
  refine ev_istore_n dX1_freezeBoxes_1 (by decide) ?_
  exact k
theorem bX1_freezeBoxes_2_0 {g : GG} {d n : Nat} {post : Option Value → LX → Prop} {X : LX} (hd : 4 ≤ d) (hn : 146 ≤ n) (hX : Sh n X) {v1 : Nat} {j1 : Nat} (c0 : ¬ X 37 0 ≤ nI v1) (b0 : v1 < 12) (c1 : v1 < 12) (c2 : okK X) (hj1 : X 1 5 = nI j1) (b1 : j1 < 100) (k : Ev g mX1_freezeBoxes d n n post n 2 [some (.ref 1), some (.int ((nI v1) + 1))] [] (lx_up X (56 + 1 + v1) j1 (cBox X v1))) : Ev g mX1_freezeBoxes d n n post n 2 [some (.ref 1), some (.int (nI v1))] [] X := by
  refine ev_iload_n dX1_freezeBoxes_2 rfl ?_
  refine ev_aload_n dX1_freezeBoxes_3 rfl ?_
  refine ev_getS (q := 37) dX1_freezeBoxes_4 fo_1_28 (by omega) lo_1 rfl (sh_1_2 hX (by omega)) (by decide) ?_
  refine ev_getI dX1_freezeBoxes_7 fo_1_171 (by omega) lo_37 rfl ?_
  refine ev_icmpF (tgt := 38) dX1_freezeBoxes_10 (by decide) c0 ?_
  refine ev_aload_n dX1_freezeBoxes_13 rfl ?_
  refine ev_getS (q := 37) dX1_freezeBoxes_14 fo_1_28 (by omega) lo_1 rfl (sh_1_2 hX (by omega)) (by decide) ?_
  refine ev_getS (q := 56) dX1_freezeBoxes_17 fo_1_138 (by omega) lo_37 rfl (sh_37_7 hX (by omega)) (by decide) ?_
  refine ev_iload_n dX1_freezeBoxes_20 rfl ?_
  refine ev_aald (q := 56 + 1 + v1) dX1_freezeBoxes_21 (by omega) (Or.inl ly_56) rfl b0 (hX.2 56 v1 (by omega) (Or.inl (by rw [ly_56])) (by rw [ly_56]; exact b0)) (by first | omega | (have := LY_l ly_56; have := LY_lt (show (LY 56).1 < 99 by rw [ly_56]; exact (by decide : 2 < 99)); omega)) ?_
  refine ev_aload_n dX1_freezeBoxes_22 rfl ?_
  refine ev_getI dX1_freezeBoxes_23 fo_1_66 (by omega) lo_1 rfl ?_
  refine ev_aload_n dX1_freezeBoxes_26 rfl ?_
  refine ev_iload_n dX1_freezeBoxes_27 rfl ?_
  refine e_Vi (as := [.int (nI v1)]) (rest := [.int (X 1 5), .ref (56 + 1 + v1)]) dX1_freezeBoxes_28 vX1_boxToday ml_1_151 isX1_boxToday seX1_boxToday npX1_boxToday (rc_1 (by omega)) (by decide) rfl (Nat.le_of_ble_eq_true rfl) (by omega) (k_X1_boxToday (d := d - 1) (by omega) (by omega) hX c1 c2) ?_
  refine ev_iast dX1_freezeBoxes_31 (by have := b0; omega) (lyr_56 _ b0) hj1 b1 ?_
  have hX1 : Sh _ (lx_up X (56 + 1 + v1) j1 (cBox X v1)) := Sh.upA hX (by rw [(lyr_56 _ b0)]; exact (by decide : 0 < 2))
  refine ev_iinc (v := (nI v1) + 1) dX1_freezeBoxes_32 rfl (by rw [show Int32.ofInt 1 = 1 from ki_1]) (by decide) ?_
  refine ev_goto (tgt := 2) dX1_freezeBoxes_35 (by decide) ?_
  exact k
theorem bX1_freezeBoxes_2_1 {g : GG} {d n : Nat} {post : Option Value → LX → Prop} {X : LX} (hn : 146 ≤ n) (hX : Sh n X) {v1 : Int32} (c0 : X 37 0 ≤ v1) (hp : post none (lx_up X 1 8 1)) : Ev g mX1_freezeBoxes d n n post n 2 [some (.ref 1), some (.int v1)] [] X := by
  refine ev_iload_n dX1_freezeBoxes_2 rfl ?_
  refine ev_aload_n dX1_freezeBoxes_3 rfl ?_
  refine ev_getS (q := 37) dX1_freezeBoxes_4 fo_1_28 (by omega) lo_1 rfl (sh_1_2 hX (by omega)) (by decide) ?_
  refine ev_getI dX1_freezeBoxes_7 fo_1_171 (by omega) lo_37 rfl ?_
  refine ev_icmpT (tgt := 38) dX1_freezeBoxes_10 (by decide) c0 ?_
  refine ev_aload_n dX1_freezeBoxes_38 rfl ?_
  refine ev_iconst (v := 1) dX1_freezeBoxes_39 ki_1 ?_
  refine ev_putZ dX1_freezeBoxes_40 fo_1_72 (by omega) lo_1 rfl rfl rfl (by decide) ?_
  have hX1 : Sh _ (lx_up X 1 8 1) := Sh.upF hX (by rw [lo_1]; decide) (by decide)
  exact ev_ret dX1_freezeBoxes_43 rfl hp
theorem bX1_endWeek_0_0 {g : GG} {d n : Nat} {post : Option Value → LX → Prop} {X : LX} (hn : 146 ≤ n) (hX : Sh n X)  (k : Ev g mX1_endWeek d n n post n 2 [some (.ref 1), some (.int 0)] [] X) : Ev g mX1_endWeek d n n post n 0 [some (.ref 1), none] [] X := by
  refine ev_iconst (v := 0) dX1_endWeek_0 ki_0 ?_
  refine ev_istore_n dX1_endWeek_1 (by decide) ?_
  exact k
theorem bX1_endWeek_2_0 {g : GG} {d n : Nat} {post : Option Value → LX → Prop} {X : LX} (hn : 146 ≤ n) (hX : Sh n X) {v1 : Nat} {j1 : Nat} (c0 : ¬ X 69 0 ≤ nI v1) (b0 : v1 < 40) (hj1 : X 70 v1 = nI j1) (b1 : j1 < 14) (c1 : ¬ X 1 5 < (X 72 v1) + (X 7 j1)) (k : Ev g mX1_endWeek d n n post n 52 [some (.ref 1), some (.int (nI v1))] [.int (nI v1), .ref 69] X) : Ev g mX1_endWeek d n n post n 2 [some (.ref 1), some (.int (nI v1))] [] X := by
  refine ev_iload_n dX1_endWeek_2 rfl ?_
  refine ev_aload_n dX1_endWeek_3 rfl ?_
  refine ev_getS (q := 69) dX1_endWeek_4 fo_1_35 (by omega) lo_1 rfl (sh_1_3 hX (by omega)) (by decide) ?_
  refine ev_getI dX1_endWeek_7 fo_1_176 (by omega) lo_69 rfl ?_
  refine ev_icmpF (tgt := 61) dX1_endWeek_10 (by decide) c0 ?_
  refine ev_aload_n dX1_endWeek_13 rfl ?_
  refine ev_getS (q := 69) dX1_endWeek_14 fo_1_35 (by omega) lo_1 rfl (sh_1_3 hX (by omega)) (by decide) ?_
  refine ev_getS (q := 72) dX1_endWeek_17 fo_1_177 (by omega) lo_69 rfl (sh_69_3 hX (by omega)) (by decide) ?_
  refine ev_iload_n dX1_endWeek_20 rfl ?_
  refine ev_iald dX1_endWeek_21 (by omega) ly_72 rfl b0 ?_
  refine ev_aload_n dX1_endWeek_22 rfl ?_
  refine ev_getS (q := 2) dX1_endWeek_23 fo_1_12 (by omega) lo_1 rfl (sh_1_0 hX (by omega)) (by decide) ?_
  refine ev_getS (q := 7) dX1_endWeek_26 fo_1_180 (by omega) lo_2 rfl (sh_2_5 hX (by omega)) (by decide) ?_
  refine ev_aload_n dX1_endWeek_29 rfl ?_
  refine ev_getS (q := 69) dX1_endWeek_30 fo_1_35 (by omega) lo_1 rfl (sh_1_3 hX (by omega)) (by decide) ?_
  refine ev_getS (q := 70) dX1_endWeek_33 fo_1_183 (by omega) lo_69 rfl (sh_69_1 hX (by omega)) (by decide) ?_
  refine ev_iload_n dX1_endWeek_36 rfl ?_
  refine ev_iald dX1_endWeek_37 (by omega) ly_70 rfl b0 ?_
  refine ev_iald dX1_endWeek_38 (by omega) ly_7 hj1 b1 ?_
  refine ev_iadd dX1_endWeek_39 ?_
  refine ev_aload_n dX1_endWeek_40 rfl ?_
  refine ev_getI dX1_endWeek_41 fo_1_66 (by omega) lo_1 rfl ?_
  refine ev_icmpF (tgt := 55) dX1_endWeek_44 (by decide) c1 ?_
  refine ev_aload_n dX1_endWeek_47 rfl ?_
  refine ev_getS (q := 69) dX1_endWeek_48 fo_1_35 (by omega) lo_1 rfl (sh_1_3 hX (by omega)) (by decide) ?_
  refine ev_iload_n dX1_endWeek_51 rfl ?_
  exact k
theorem bX1_endWeek_2_1 {g : GG} {d n : Nat} {post : Option Value → LX → Prop} {X : LX} (hn : 146 ≤ n) (hX : Sh n X) {v1 : Nat} {j1 : Nat} (c0 : ¬ X 69 0 ≤ nI v1) (b0 : v1 < 40) (hj1 : X 70 v1 = nI j1) (b1 : j1 < 14) (c1 : X 1 5 < (X 72 v1) + (X 7 j1)) (k : Ev g mX1_endWeek d n n post n 2 [some (.ref 1), some (.int ((nI v1) + 1))] [] X) : Ev g mX1_endWeek d n n post n 2 [some (.ref 1), some (.int (nI v1))] [] X := by
  refine ev_iload_n dX1_endWeek_2 rfl ?_
  refine ev_aload_n dX1_endWeek_3 rfl ?_
  refine ev_getS (q := 69) dX1_endWeek_4 fo_1_35 (by omega) lo_1 rfl (sh_1_3 hX (by omega)) (by decide) ?_
  refine ev_getI dX1_endWeek_7 fo_1_176 (by omega) lo_69 rfl ?_
  refine ev_icmpF (tgt := 61) dX1_endWeek_10 (by decide) c0 ?_
  refine ev_aload_n dX1_endWeek_13 rfl ?_
  refine ev_getS (q := 69) dX1_endWeek_14 fo_1_35 (by omega) lo_1 rfl (sh_1_3 hX (by omega)) (by decide) ?_
  refine ev_getS (q := 72) dX1_endWeek_17 fo_1_177 (by omega) lo_69 rfl (sh_69_3 hX (by omega)) (by decide) ?_
  refine ev_iload_n dX1_endWeek_20 rfl ?_
  refine ev_iald dX1_endWeek_21 (by omega) ly_72 rfl b0 ?_
  refine ev_aload_n dX1_endWeek_22 rfl ?_
  refine ev_getS (q := 2) dX1_endWeek_23 fo_1_12 (by omega) lo_1 rfl (sh_1_0 hX (by omega)) (by decide) ?_
  refine ev_getS (q := 7) dX1_endWeek_26 fo_1_180 (by omega) lo_2 rfl (sh_2_5 hX (by omega)) (by decide) ?_
  refine ev_aload_n dX1_endWeek_29 rfl ?_
  refine ev_getS (q := 69) dX1_endWeek_30 fo_1_35 (by omega) lo_1 rfl (sh_1_3 hX (by omega)) (by decide) ?_
  refine ev_getS (q := 70) dX1_endWeek_33 fo_1_183 (by omega) lo_69 rfl (sh_69_1 hX (by omega)) (by decide) ?_
  refine ev_iload_n dX1_endWeek_36 rfl ?_
  refine ev_iald dX1_endWeek_37 (by omega) ly_70 rfl b0 ?_
  refine ev_iald dX1_endWeek_38 (by omega) ly_7 hj1 b1 ?_
  refine ev_iadd dX1_endWeek_39 ?_
  refine ev_aload_n dX1_endWeek_40 rfl ?_
  refine ev_getI dX1_endWeek_41 fo_1_66 (by omega) lo_1 rfl ?_
  refine ev_icmpT (tgt := 55) dX1_endWeek_44 (by decide) c1 ?_
  refine ev_iinc (v := (nI v1) + 1) dX1_endWeek_55 rfl (by rw [show Int32.ofInt 1 = 1 from ki_1]) (by decide) ?_
  refine ev_goto (tgt := 2) dX1_endWeek_58 (by decide) ?_
  exact k
theorem bX1_endWeek_2_2 {g : GG} {d n : Nat} {post : Option Value → LX → Prop} {X : LX} (hd : 1 ≤ d) (hn : 146 ≤ n) (hX : Sh n X) {v1 : Int32} (c0 : X 69 0 ≤ v1) (hp : post none (lx_row (lx_up (lx_up (lx_up X 1 5 ((X 1 5) + 1)) 1 6 0) 1 8 0) 42 (fillTo ((lx_up (lx_up (lx_up X 1 5 ((X 1 5) + 1)) 1 6 0) 1 8 0) 42) 0 12))) : Ev g mX1_endWeek d n n post n 2 [some (.ref 1), some (.int v1)] [] X := by
  refine ev_iload_n dX1_endWeek_2 rfl ?_
  refine ev_aload_n dX1_endWeek_3 rfl ?_
  refine ev_getS (q := 69) dX1_endWeek_4 fo_1_35 (by omega) lo_1 rfl (sh_1_3 hX (by omega)) (by decide) ?_
  refine ev_getI dX1_endWeek_7 fo_1_176 (by omega) lo_69 rfl ?_
  refine ev_icmpT (tgt := 61) dX1_endWeek_10 (by decide) c0 ?_
  refine ev_aload_n dX1_endWeek_61 rfl ?_
  refine ev_dup dX1_endWeek_62 rfl ?_
  refine ev_getI dX1_endWeek_63 fo_1_66 (by omega) lo_1 rfl ?_
  refine ev_iconst (v := 1) dX1_endWeek_66 ki_1 ?_
  refine ev_iadd dX1_endWeek_67 ?_
  refine ev_putI dX1_endWeek_68 fo_1_66 (by omega) lo_1 rfl rfl rfl ?_
  have hX1 : Sh _ (lx_up X 1 5 ((X 1 5) + 1)) := Sh.upF hX (by rw [lo_1]; decide) (by decide)
  refine ev_aload_n dX1_endWeek_71 rfl ?_
  refine ev_iconst (v := 0) dX1_endWeek_72 ki_0 ?_
  refine ev_putI dX1_endWeek_73 fo_1_69 (by omega) lo_1 rfl rfl rfl ?_
  have hX2 : Sh _ (lx_up (lx_up X 1 5 ((X 1 5) + 1)) 1 6 0) := Sh.upF hX1 (by rw [lo_1]; decide) (by decide)
  refine ev_aload_n dX1_endWeek_76 rfl ?_
  refine ev_iconst (v := 0) dX1_endWeek_77 ki_0 ?_
  refine ev_putZ dX1_endWeek_78 fo_1_72 (by omega) lo_1 rfl rfl rfl (by decide) ?_
  have hX3 : Sh _ (lx_up (lx_up (lx_up X 1 5 ((X 1 5) + 1)) 1 6 0) 1 8 0) := Sh.upF hX2 (by rw [lo_1]; decide) (by decide)
  refine ev_aload_n dX1_endWeek_81 rfl ?_
  refine ev_getS (q := 37) dX1_endWeek_82 fo_1_28 (by omega) lo_1 rfl (sh_1_2 hX3 (by omega)) (by decide) ?_
  refine ev_getS (q := 42) dX1_endWeek_85 fo_1_141 (by omega) lo_37 rfl (sh_37_5 hX3 (by omega)) (by decide) ?_
  refine ev_iconst (v := 0) dX1_endWeek_88 ki_0 ?_
  refine e_Sv (as := [.ref 42, .int 0]) (rest := []) dX1_endWeek_89 vJ7_fill_53178 ml_1_190 stJ7_fill_53178 npJ7_fill_53178 (by decide) rfl (Nat.le_of_ble_eq_true rfl) (by omega) (c_J7_fill_53178 (d := d - 1) (by omega) (by omega) hX3 (by omega) ly_42) ?_
  have hX4 : Sh _ (lx_row (lx_up (lx_up (lx_up X 1 5 ((X 1 5) + 1)) 1 6 0) 1 8 0) 42 (fillTo ((lx_up (lx_up (lx_up X 1 5 ((X 1 5) + 1)) 1 6 0) 1 8 0) 42) 0 12)) := Sh.row hX3 (by rw [ly_42]; exact (by decide : 0 < 2))
  exact ev_ret dX1_endWeek_92 rfl hp
theorem bX1_endWeek_55_0 {g : GG} {d n : Nat} {post : Option Value → LX → Prop} {X : LX} (hn : 146 ≤ n) (hX : Sh n X) {v1 : Int32} (k : Ev g mX1_endWeek d n n post n 2 [some (.ref 1), some (.int (v1 + 1))] [] X) : Ev g mX1_endWeek d n n post n 55 [some (.ref 1), some (.int v1)] [] X := by
  refine ev_iinc (v := v1 + 1) dX1_endWeek_55 rfl (by rw [show Int32.ofInt 1 = 1 from ki_1]) (by decide) ?_
  refine ev_goto (tgt := 2) dX1_endWeek_58 (by decide) ?_
  exact k
theorem bX4_draw_0_0 {g : GG} {d n : Nat} {post : Option Value → LX → Prop} {X : LX} (hn : 146 ≤ n) (hX : Sh n X) {v1 : Int32} {v2 : Int32} {v3 : Int32} (k : Ev g mX4_draw d n n post n 6 [some (.ref 69), some (.int v1), some (.int v2), some (.int v3), some (.int v2), some (.int 0), none] [] X) : Ev g mX4_draw d n n post n 0 [some (.ref 69), some (.int v1), some (.int v2), some (.int v3), none, none, none] [] X := by
  refine ev_iload_n dX4_draw_0 rfl ?_
  refine ev_istore dX4_draw_1 (by decide) ?_
  refine ev_iconst (v := 0) dX4_draw_3 ki_0 ?_
  refine ev_istore dX4_draw_4 (by decide) ?_
  exact k
theorem bX4_draw_6_0 {g : GG} {d n : Nat} {post : Option Value → LX → Prop} {X : LX} (hd : 1 ≤ d) (hn : 146 ≤ n) (hX : Sh n X) {v1 : Nat} {v2 : Int32} {v3 : Int32} {v4 : Int32} {v5 : Nat} (c0 : ¬ X 69 0 ≤ nI v5) (c1 : ¬ v4 ≤ 0) (b0 : v5 < 40) (c2 : X 70 v5 = nI v1) (c3 : ¬ (if (X 73 v5) < v4 then (X 73 v5) else v4) ≤ 0) (b1 : v1 < 14) (k : Ev g mX4_draw d n n post n 6 [some (.ref 69), some (.int (nI v1)), some (.int v2), some (.int v3), some (.int (v4 - (if (X 73 v5) < v4 then (X 73 v5) else v4))), some (.int ((nI v5) + 1)), none] [] (lx_up (lx_up (lx_up X 73 v5 ((X 73 v5) - (if (X 73 v5) < v4 then (X 73 v5) else v4))) 74 v5 ((X 74 v5) ||| (1 <<< (v3 &&& 31)))) 75 v1 ((X 75 v1) + (if (X 73 v5) < v4 then (X 73 v5) else v4)))) : Ev g mX4_draw d n n post n 6 [some (.ref 69), some (.int (nI v1)), some (.int v2), some (.int v3), some (.int v4), some (.int (nI v5)), none] [] X := by
  refine ev_iload dX4_draw_6 rfl ?_
  refine ev_aload_n dX4_draw_8 rfl ?_
  refine ev_getI dX4_draw_9 fo_4_33 (by omega) lo_69 rfl ?_
  refine ev_icmpF (tgt := 103) dX4_draw_12 (by decide) c0 ?_
  refine ev_iload dX4_draw_15 rfl ?_
  refine ev_ifF (tgt := 103) dX4_draw_17 (by decide) c1 ?_
  refine ev_aload_n dX4_draw_20 rfl ?_
  refine ev_getS (q := 70) dX4_draw_21 fo_4_9 (by omega) lo_69 rfl (sh_69_1 hX (by omega)) (by decide) ?_
  refine ev_iload dX4_draw_24 rfl ?_
  refine ev_iald dX4_draw_26 (by omega) ly_70 rfl b0 ?_
  refine ev_iload_n dX4_draw_27 rfl ?_
  refine ev_icmpF (tgt := 46) dX4_draw_28 (by decide) c2 ?_
  refine ev_iload dX4_draw_31 rfl ?_
  refine ev_aload_n dX4_draw_33 rfl ?_
  refine ev_getS (q := 73) dX4_draw_34 fo_4_21 (by omega) lo_69 rfl (sh_69_4 hX (by omega)) (by decide) ?_
  refine ev_iload dX4_draw_37 rfl ?_
  refine ev_iald dX4_draw_39 (by omega) ly_73 rfl b0 ?_
  refine e_min dX4_draw_40 mm_4_37 mn_st mx_in mn_co (Nat.le_of_ble_eq_true rfl) (by omega) ?_
  refine ev_goto (tgt := 47) dX4_draw_43 (by decide) ?_
  refine ev_istore dX4_draw_47 (by decide) ?_
  refine ev_iload dX4_draw_49 rfl ?_
  refine ev_ifF (tgt := 97) dX4_draw_51 (by decide) c3 ?_
  refine ev_aload_n dX4_draw_54 rfl ?_
  refine ev_getS (q := 73) dX4_draw_55 fo_4_21 (by omega) lo_69 rfl (sh_69_4 hX (by omega)) (by decide) ?_
  refine ev_iload dX4_draw_58 rfl ?_
  refine ev_dup2 dX4_draw_60 rfl rfl ?_
  refine ev_iald dX4_draw_61 (by omega) ly_73 rfl b0 ?_
  refine ev_iload dX4_draw_62 rfl ?_
  refine ev_isub dX4_draw_64 ?_
  refine ev_iast dX4_draw_65 (by omega) ly_73 rfl b0 ?_
  have hX1 : Sh _ (lx_up X 73 v5 ((X 73 v5) - (if (X 73 v5) < v4 then (X 73 v5) else v4))) := Sh.upA hX (by rw [ly_73]; exact (by decide : 0 < 2))
  refine ev_iload dX4_draw_66 rfl ?_
  refine ev_iload dX4_draw_68 rfl ?_
  refine ev_isub dX4_draw_70 ?_
  refine ev_istore dX4_draw_71 (by decide) ?_
  refine ev_aload_n dX4_draw_73 rfl ?_
  refine ev_getS (q := 74) dX4_draw_74 fo_4_24 (by omega) lo_69 rfl (sh_69_5 hX1 (by omega)) (by decide) ?_
  refine ev_iload dX4_draw_77 rfl ?_
  refine ev_dup2 dX4_draw_79 rfl rfl ?_
  refine ev_iald dX4_draw_80 (by omega) ly_74 rfl b0 ?_
  refine ev_iconst (v := 1) dX4_draw_81 ki_1 ?_
  refine ev_iload_n dX4_draw_82 rfl ?_
  refine ev_ishl dX4_draw_83 ?_
  refine ev_ior dX4_draw_84 ?_
  refine ev_iast dX4_draw_85 (by omega) ly_74 rfl b0 ?_
  have hX2 : Sh _ (lx_up (lx_up X 73 v5 ((X 73 v5) - (if (X 73 v5) < v4 then (X 73 v5) else v4))) 74 v5 ((X 74 v5) ||| (1 <<< (v3 &&& 31)))) := Sh.upA hX1 (by rw [ly_74]; exact (by decide : 0 < 2))
  refine ev_aload_n dX4_draw_86 rfl ?_
  refine ev_getS (q := 75) dX4_draw_87 fo_4_27 (by omega) lo_69 rfl (sh_69_6 hX2 (by omega)) (by decide) ?_
  refine ev_iload_n dX4_draw_90 rfl ?_
  refine ev_dup2 dX4_draw_91 rfl rfl ?_
  refine ev_iald dX4_draw_92 (by omega) ly_75 rfl b1 ?_
  refine ev_iload dX4_draw_93 rfl ?_
  refine ev_iadd dX4_draw_95 ?_
  refine ev_iast dX4_draw_96 (by omega) ly_75 rfl b1 ?_
  have hX3 : Sh _ (lx_up (lx_up (lx_up X 73 v5 ((X 73 v5) - (if (X 73 v5) < v4 then (X 73 v5) else v4))) 74 v5 ((X 74 v5) ||| (1 <<< (v3 &&& 31)))) 75 v1 ((X 75 v1) + (if (X 73 v5) < v4 then (X 73 v5) else v4))) := Sh.upA hX2 (by rw [ly_75]; exact (by decide : 0 < 2))
  refine ev_iinc (v := (nI v5) + 1) dX4_draw_97 rfl (by rw [show Int32.ofInt 1 = 1 from ki_1]) (by decide) ?_
  refine ev_goto (tgt := 6) dX4_draw_100 (by decide) ?_
  refine ev_wk (L := [some (.ref 69), some (.int (nI v1)), some (.int v2), some (.int v3), some (.int (v4 - (if (X 73 v5) < v4 then (X 73 v5) else v4))), some (.int ((nI v5) + 1)), some (.int (if (X 73 v5) < v4 then (X 73 v5) else v4))]) (L' := [some (.ref 69), some (.int (nI v1)), some (.int v2), some (.int v3), some (.int (v4 - (if (X 73 v5) < v4 then (X 73 v5) else v4))), some (.int ((nI v5) + 1)), none]) (by simp [lwk]) ?_
  exact k
theorem bX4_draw_6_1 {g : GG} {d n : Nat} {post : Option Value → LX → Prop} {X : LX} (hd : 1 ≤ d) (hn : 146 ≤ n) (hX : Sh n X) {v1 : Int32} {v2 : Int32} {v3 : Int32} {v4 : Int32} {v5 : Nat} (c0 : ¬ X 69 0 ≤ nI v5) (c1 : ¬ v4 ≤ 0) (b0 : v5 < 40) (c2 : X 70 v5 = v1) (c3 : (if (X 73 v5) < v4 then (X 73 v5) else v4) ≤ 0) (k : Ev g mX4_draw d n n post n 6 [some (.ref 69), some (.int v1), some (.int v2), some (.int v3), some (.int v4), some (.int ((nI v5) + 1)), none] [] X) : Ev g mX4_draw d n n post n 6 [some (.ref 69), some (.int v1), some (.int v2), some (.int v3), some (.int v4), some (.int (nI v5)), none] [] X := by
  refine ev_iload dX4_draw_6 rfl ?_
  refine ev_aload_n dX4_draw_8 rfl ?_
  refine ev_getI dX4_draw_9 fo_4_33 (by omega) lo_69 rfl ?_
  refine ev_icmpF (tgt := 103) dX4_draw_12 (by decide) c0 ?_
  refine ev_iload dX4_draw_15 rfl ?_
  refine ev_ifF (tgt := 103) dX4_draw_17 (by decide) c1 ?_
  refine ev_aload_n dX4_draw_20 rfl ?_
  refine ev_getS (q := 70) dX4_draw_21 fo_4_9 (by omega) lo_69 rfl (sh_69_1 hX (by omega)) (by decide) ?_
  refine ev_iload dX4_draw_24 rfl ?_
  refine ev_iald dX4_draw_26 (by omega) ly_70 rfl b0 ?_
  refine ev_iload_n dX4_draw_27 rfl ?_
  refine ev_icmpF (tgt := 46) dX4_draw_28 (by decide) c2 ?_
  refine ev_iload dX4_draw_31 rfl ?_
  refine ev_aload_n dX4_draw_33 rfl ?_
  refine ev_getS (q := 73) dX4_draw_34 fo_4_21 (by omega) lo_69 rfl (sh_69_4 hX (by omega)) (by decide) ?_
  refine ev_iload dX4_draw_37 rfl ?_
  refine ev_iald dX4_draw_39 (by omega) ly_73 rfl b0 ?_
  refine e_min dX4_draw_40 mm_4_37 mn_st mx_in mn_co (Nat.le_of_ble_eq_true rfl) (by omega) ?_
  refine ev_goto (tgt := 47) dX4_draw_43 (by decide) ?_
  refine ev_istore dX4_draw_47 (by decide) ?_
  refine ev_iload dX4_draw_49 rfl ?_
  refine ev_ifT (tgt := 97) dX4_draw_51 (by decide) c3 ?_
  refine ev_iinc (v := (nI v5) + 1) dX4_draw_97 rfl (by rw [show Int32.ofInt 1 = 1 from ki_1]) (by decide) ?_
  refine ev_goto (tgt := 6) dX4_draw_100 (by decide) ?_
  refine ev_wk (L := [some (.ref 69), some (.int v1), some (.int v2), some (.int v3), some (.int v4), some (.int ((nI v5) + 1)), some (.int (if (X 73 v5) < v4 then (X 73 v5) else v4))]) (L' := [some (.ref 69), some (.int v1), some (.int v2), some (.int v3), some (.int v4), some (.int ((nI v5) + 1)), none]) (by simp [lwk]) ?_
  exact k
theorem bX4_draw_6_2 {g : GG} {d n : Nat} {post : Option Value → LX → Prop} {X : LX} (hn : 146 ≤ n) (hX : Sh n X) {v1 : Int32} {v2 : Int32} {v3 : Int32} {v4 : Int32} {v5 : Nat} (c0 : ¬ X 69 0 ≤ nI v5) (c1 : ¬ v4 ≤ 0) (b0 : v5 < 40) (c2 : ¬ X 70 v5 = v1) (k : Ev g mX4_draw d n n post n 6 [some (.ref 69), some (.int v1), some (.int v2), some (.int v3), some (.int v4), some (.int ((nI v5) + 1)), none] [] X) : Ev g mX4_draw d n n post n 6 [some (.ref 69), some (.int v1), some (.int v2), some (.int v3), some (.int v4), some (.int (nI v5)), none] [] X := by
  refine ev_iload dX4_draw_6 rfl ?_
  refine ev_aload_n dX4_draw_8 rfl ?_
  refine ev_getI dX4_draw_9 fo_4_33 (by omega) lo_69 rfl ?_
  refine ev_icmpF (tgt := 103) dX4_draw_12 (by decide) c0 ?_
  refine ev_iload dX4_draw_15 rfl ?_
  refine ev_ifF (tgt := 103) dX4_draw_17 (by decide) c1 ?_
  refine ev_aload_n dX4_draw_20 rfl ?_
  refine ev_getS (q := 70) dX4_draw_21 fo_4_9 (by omega) lo_69 rfl (sh_69_1 hX (by omega)) (by decide) ?_
  refine ev_iload dX4_draw_24 rfl ?_
  refine ev_iald dX4_draw_26 (by omega) ly_70 rfl b0 ?_
  refine ev_iload_n dX4_draw_27 rfl ?_
  refine ev_icmpT (tgt := 46) dX4_draw_28 (by decide) c2 ?_
  refine ev_iconst (v := 0) dX4_draw_46 ki_0 ?_
  refine ev_istore dX4_draw_47 (by decide) ?_
  refine ev_iload dX4_draw_49 rfl ?_
  refine ev_ifT (tgt := 97) dX4_draw_51 (by decide) (by show (0 : Int32) ≤ 0; decide) ?_
  refine ev_iinc (v := (nI v5) + 1) dX4_draw_97 rfl (by rw [show Int32.ofInt 1 = 1 from ki_1]) (by decide) ?_
  refine ev_goto (tgt := 6) dX4_draw_100 (by decide) ?_
  refine ev_wk (L := [some (.ref 69), some (.int v1), some (.int v2), some (.int v3), some (.int v4), some (.int ((nI v5) + 1)), some (.int 0)]) (L' := [some (.ref 69), some (.int v1), some (.int v2), some (.int v3), some (.int v4), some (.int ((nI v5) + 1)), none]) (by simp [lwk]) ?_
  exact k
theorem bX4_draw_6_3 {g : GG} {d n : Nat} {post : Option Value → LX → Prop} {X : LX} (hn : 146 ≤ n) (hX : Sh n X) {v1 : Int32} {v2 : Int32} {v3 : Int32} {v4 : Int32} {v5 : Int32} (c0 : ¬ X 69 0 ≤ v5) (c1 : v4 ≤ 0) (hp : post none X) : Ev g mX4_draw d n n post n 6 [some (.ref 69), some (.int v1), some (.int v2), some (.int v3), some (.int v4), some (.int v5), none] [] X := by
  refine ev_iload dX4_draw_6 rfl ?_
  refine ev_aload_n dX4_draw_8 rfl ?_
  refine ev_getI dX4_draw_9 fo_4_33 (by omega) lo_69 rfl ?_
  refine ev_icmpF (tgt := 103) dX4_draw_12 (by decide) c0 ?_
  refine ev_iload dX4_draw_15 rfl ?_
  refine ev_ifT (tgt := 103) dX4_draw_17 (by decide) c1 ?_
  exact ev_ret dX4_draw_103 rfl hp
theorem bX4_draw_6_4 {g : GG} {d n : Nat} {post : Option Value → LX → Prop} {X : LX} (hn : 146 ≤ n) (hX : Sh n X) {v1 : Int32} {v2 : Int32} {v3 : Int32} {v4 : Int32} {v5 : Int32} (c0 : X 69 0 ≤ v5) (hp : post none X) : Ev g mX4_draw d n n post n 6 [some (.ref 69), some (.int v1), some (.int v2), some (.int v3), some (.int v4), some (.int v5), none] [] X := by
  refine ev_iload dX4_draw_6 rfl ?_
  refine ev_aload_n dX4_draw_8 rfl ?_
  refine ev_getI dX4_draw_9 fo_4_33 (by omega) lo_69 rfl ?_
  refine ev_icmpT (tgt := 103) dX4_draw_12 (by decide) c0 ?_
  exact ev_ret dX4_draw_103 rfl hp
theorem bX12_findNeeds_0_0 {g : GG} {d n : Nat} {post : Option Value → LX → Prop} {X : LX} (hn : 146 ≤ n) (hX : Sh n X)  (k : Ev g mX12_findNeeds d n n post n 2 [some (.ref 133), some (.int 0), none, none, none] [] X) : Ev g mX12_findNeeds d n n post n 0 [some (.ref 133), none, none, none, none] [] X := by
  refine ev_iconst (v := 0) dX12_findNeeds_0 ki_0 ?_
  refine ev_istore_n dX12_findNeeds_1 (by decide) ?_
  exact k
theorem bX12_findNeeds_2_0 {g : GG} {d n : Nat} {post : Option Value → LX → Prop} {X : LX} (hn : 146 ≤ n) (hX : Sh n X) {v1 : Nat} (c0 : ¬ 168 ≤ nI v1) (b0 : v1 < 168) (k : Ev g mX12_findNeeds d n n post n 2 [some (.ref 133), some (.int ((nI v1) + 1)), none, none, none] [] (lx_up X 140 v1 0)) : Ev g mX12_findNeeds d n n post n 2 [some (.ref 133), some (.int (nI v1)), none, none, none] [] X := by
  refine ev_iload_n dX12_findNeeds_2 rfl ?_
  refine ev_sipush (v := 168) dX12_findNeeds_3 ks_168 ?_
  refine ev_icmpF (tgt := 22) dX12_findNeeds_6 (by decide) c0 ?_
  refine ev_aload_n dX12_findNeeds_9 rfl ?_
  refine ev_getS (q := 140) dX12_findNeeds_10 fo_12_28 (by omega) lo_133 rfl (sh_133_9 hX (by omega)) (by decide) ?_
  refine ev_iload_n dX12_findNeeds_13 rfl ?_
  refine ev_iconst (v := 0) dX12_findNeeds_14 ki_0 ?_
  refine ev_iast dX12_findNeeds_15 (by omega) ly_140 rfl b0 ?_
  have hX1 : Sh _ (lx_up X 140 v1 0) := Sh.upA hX (by rw [ly_140]; exact (by decide : 0 < 2))
  refine ev_iinc (v := (nI v1) + 1) dX12_findNeeds_16 rfl (by rw [show Int32.ofInt 1 = 1 from ki_1]) (by decide) ?_
  refine ev_goto (tgt := 2) dX12_findNeeds_19 (by decide) ?_
  exact k
theorem bX12_findNeeds_2_1 {g : GG} {d n : Nat} {post : Option Value → LX → Prop} {X : LX} (hn : 146 ≤ n) (hX : Sh n X) {v1 : Int32} (c0 : 168 ≤ v1) (k : Ev g mX12_findNeeds d n n post n 24 [some (.ref 133), some (.int 0), none, none, none] [] X) : Ev g mX12_findNeeds d n n post n 2 [some (.ref 133), some (.int v1), none, none, none] [] X := by
  refine ev_iload_n dX12_findNeeds_2 rfl ?_
  refine ev_sipush (v := 168) dX12_findNeeds_3 ks_168 ?_
  refine ev_icmpT (tgt := 22) dX12_findNeeds_6 (by decide) c0 ?_
  refine ev_iconst (v := 0) dX12_findNeeds_22 ki_0 ?_
  refine ev_istore_n dX12_findNeeds_23 (by decide) ?_
  exact k
theorem bX12_findNeeds_24_0 {g : GG} {d n : Nat} {post : Option Value → LX → Prop} {X : LX} (hd : 5 ≤ d) (hn : 146 ≤ n) (hX : Sh n X) {v1 : Nat} (c0 : ¬ X 134 6 ≤ nI v1) (c1 : v1 < 12) (c2 : okN X) (k : Ev g mX12_findNeeds d n n post n 43 [some (.ref 133), some (.int (nI v1)), some (.int (mBox X v1)), some (.int 0), none] [] X) : Ev g mX12_findNeeds d n n post n 24 [some (.ref 133), some (.int (nI v1)), none, none, none] [] X := by
  refine ev_iload_n dX12_findNeeds_24 rfl ?_
  refine ev_aload_n dX12_findNeeds_25 rfl ?_
  refine ev_getS (q := 134) dX12_findNeeds_26 fo_12_9 (by omega) lo_133 rfl (sh_133_0 hX (by omega)) (by decide) ?_
  refine ev_bipush (v := 6) dX12_findNeeds_29 kb_6 ?_
  refine ev_iald dX12_findNeeds_31 (by omega) ly_134 nIl_6 (by decide) ?_
  refine ev_icmpF (tgt := 144) dX12_findNeeds_32 (by decide) c0 ?_
  refine ev_aload_n dX12_findNeeds_35 rfl ?_
  refine ev_iload_n dX12_findNeeds_36 rfl ?_
  refine e_Vi (as := [.int (nI v1)]) (rest := []) dX12_findNeeds_37 vX12_boxToday ml_12_115 isX12_boxToday seX12_boxToday npX12_boxToday (rc_133 (by omega)) (by decide) rfl (Nat.le_of_ble_eq_true rfl) (by omega) (k_X12_boxToday (d := d - 1) (by omega) (by omega) hX c1 c2) ?_
  refine ev_istore_n dX12_findNeeds_40 (by decide) ?_
  refine ev_iconst (v := 0) dX12_findNeeds_41 ki_0 ?_
  refine ev_istore_n dX12_findNeeds_42 (by decide) ?_
  exact k
theorem bX12_findNeeds_24_1 {g : GG} {d n : Nat} {post : Option Value → LX → Prop} {X : LX} (hn : 146 ≤ n) (hX : Sh n X) {v1 : Int32} (c0 : X 134 6 ≤ v1) (hp : post none X) : Ev g mX12_findNeeds d n n post n 24 [some (.ref 133), some (.int v1), none, none, none] [] X := by
  refine ev_iload_n dX12_findNeeds_24 rfl ?_
  refine ev_aload_n dX12_findNeeds_25 rfl ?_
  refine ev_getS (q := 134) dX12_findNeeds_26 fo_12_9 (by omega) lo_133 rfl (sh_133_0 hX (by omega)) (by decide) ?_
  refine ev_bipush (v := 6) dX12_findNeeds_29 kb_6 ?_
  refine ev_iald dX12_findNeeds_31 (by omega) ly_134 nIl_6 (by decide) ?_
  refine ev_icmpT (tgt := 144) dX12_findNeeds_32 (by decide) c0 ?_
  exact ev_ret dX12_findNeeds_144 rfl hp
theorem bX12_findNeeds_43_0 {g : GG} {d n : Nat} {post : Option Value → LX → Prop} {X : LX} (hn : 146 ≤ n) (hX : Sh n X) {v1 : Int32} {v2 : Int32} {v3 : Int32} (c0 : ¬ 10 ≤ v3) (k : Ev g mX12_findNeeds d n n post n 52 [some (.ref 133), some (.int v1), some (.int v2), some (.int v3), some (.int 0)] [] X) : Ev g mX12_findNeeds d n n post n 43 [some (.ref 133), some (.int v1), some (.int v2), some (.int v3), none] [] X := by
  refine ev_iload_n dX12_findNeeds_43 rfl ?_
  refine ev_bipush (v := 10) dX12_findNeeds_44 kb_10 ?_
  refine ev_icmpF (tgt := 138) dX12_findNeeds_46 (by decide) c0 ?_
  refine ev_iconst (v := 0) dX12_findNeeds_49 ki_0 ?_
  refine ev_istore dX12_findNeeds_50 (by decide) ?_
  exact k
theorem bX12_findNeeds_43_1 {g : GG} {d n : Nat} {post : Option Value → LX → Prop} {X : LX} (hn : 146 ≤ n) (hX : Sh n X) {v1 : Int32} {v2 : Int32} {v3 : Int32} (c0 : 10 ≤ v3) (k : Ev g mX12_findNeeds d n n post n 24 [some (.ref 133), some (.int (v1 + 1)), none, none, none] [] X) : Ev g mX12_findNeeds d n n post n 43 [some (.ref 133), some (.int v1), some (.int v2), some (.int v3), none] [] X := by
  refine ev_iload_n dX12_findNeeds_43 rfl ?_
  refine ev_bipush (v := 10) dX12_findNeeds_44 kb_10 ?_
  refine ev_icmpT (tgt := 138) dX12_findNeeds_46 (by decide) c0 ?_
  refine ev_iinc (v := v1 + 1) dX12_findNeeds_138 rfl (by rw [show Int32.ofInt 1 = 1 from ki_1]) (by decide) ?_
  refine ev_goto (tgt := 24) dX12_findNeeds_141 (by decide) ?_
  refine ev_wk (L := [some (.ref 133), some (.int (v1 + 1)), some (.int v2), some (.int v3), none]) (L' := [some (.ref 133), some (.int (v1 + 1)), none, none, none]) (by simp [lwk]) ?_
  exact k
theorem bX12_findNeeds_52_0 {g : GG} {d n : Nat} {post : Option Value → LX → Prop} {X : LX} (hd : 1 ≤ d) (hn : 146 ≤ n) (hX : Sh n X) {v1 : Nat} {v2 : Int32} {v3 : Nat} {v4 : Nat} {j1 : Nat} (b0 : ((318 + (13 * v3)) + 2) < 2156) (c0 : ¬ X 134 ((318 + (13 * v3)) + 2) ≤ nI v4) (c1 : (v2 >>> ((nI v3) &&& 31)) &&& 1 = 1) (b1 : ((318 + (13 * v3)) + (3 + v4)) < 2156) (hj1 : X 134 ((318 + (13 * v3)) + (3 + v4)) = nI j1) (b2 : ((14 * v1) + j1) < 168) (b3 : ((318 + (13 * v3)) + (8 + v4)) < 2156) (b4 : ((448 + (15 * v1)) + 1) < 2156) (k : Ev g mX12_findNeeds d n n post n 52 [some (.ref 133), some (.int (nI v1)), some (.int v2), some (.int (nI v3)), some (.int ((nI v4) + 1))] [] (lx_up X 140 ((14 * v1) + j1) ((X 140 ((14 * v1) + j1)) + ((X 134 ((318 + (13 * v3)) + (8 + v4))) * (X 134 ((448 + (15 * v1)) + 1)))))) : Ev g mX12_findNeeds d n n post n 52 [some (.ref 133), some (.int (nI v1)), some (.int v2), some (.int (nI v3)), some (.int (nI v4))] [] X := by
  refine ev_iload dX12_findNeeds_52 rfl ?_
  refine ev_aload_n dX12_findNeeds_54 rfl ?_
  refine ev_getS (q := 134) dX12_findNeeds_55 fo_12_9 (by omega) lo_133 rfl (sh_133_0 hX (by omega)) (by decide) ?_
  refine ev_iload_n dX12_findNeeds_58 rfl ?_
  refine ev_iconst (v := 2) dX12_findNeeds_59 ki_2 ?_
  refine e_Si (as := [.int (nI v3), .int 2]) (rest := [.ref 134, .int (nI v4)]) dX12_findNeeds_60 vX12_ofMeal ml_12_67 stX12_ofMeal npX12_ofMeal (by decide) rfl (Nat.le_of_ble_eq_true rfl) (by omega) (c_X12_ofMeal (d := d - 1) (by omega) (by omega) hX ) ?_
  refine ev_iald dX12_findNeeds_63 (by omega) ly_134 (by show (nI 318 + (nI 13 * nI v3)) + nI 2 = nI ((318 + (13 * v3)) + 2); simp only [pk_mul, nI_add]) b0 ?_
  refine ev_icmpF (tgt := 132) dX12_findNeeds_64 (by decide) c0 ?_
  refine ev_iload_n dX12_findNeeds_67 rfl ?_
  refine ev_iload_n dX12_findNeeds_68 rfl ?_
  refine e_Si (as := [.int v2, .int (nI v3)]) (rest := []) dX12_findNeeds_69 vX12_has ml_12_76 stX12_has npX12_has (by decide) rfl (Nat.le_of_ble_eq_true rfl) (by omega) (t_X12_has (d := d - 1) (by omega) (by omega) hX c1) ?_
  refine ev_ifF (tgt := 132) dX12_findNeeds_72 (by decide) (by show ¬ (1 : Int32) = 0; decide) ?_
  refine ev_aload_n dX12_findNeeds_75 rfl ?_
  refine ev_getS (q := 140) dX12_findNeeds_76 fo_12_28 (by omega) lo_133 rfl (sh_133_9 hX (by omega)) (by decide) ?_
  refine ev_bipush (v := 14) dX12_findNeeds_79 kb_14 ?_
  refine ev_iload_n dX12_findNeeds_81 rfl ?_
  refine ev_imul dX12_findNeeds_82 ?_
  refine ev_aload_n dX12_findNeeds_83 rfl ?_
  refine ev_getS (q := 134) dX12_findNeeds_84 fo_12_9 (by omega) lo_133 rfl (sh_133_0 hX (by omega)) (by decide) ?_
  refine ev_iload_n dX12_findNeeds_87 rfl ?_
  refine ev_iconst (v := 3) dX12_findNeeds_88 ki_3 ?_
  refine ev_iload dX12_findNeeds_89 rfl ?_
  refine ev_iadd dX12_findNeeds_91 ?_
  refine e_Si (as := [.int (nI v3), .int (3 + (nI v4))]) (rest := [.ref 134, .int (14 * (nI v1)), .ref 140]) dX12_findNeeds_92 vX12_ofMeal ml_12_67 stX12_ofMeal npX12_ofMeal (by decide) rfl (Nat.le_of_ble_eq_true rfl) (by omega) (c_X12_ofMeal (d := d - 1) (by omega) (by omega) hX ) ?_
  refine ev_iald dX12_findNeeds_95 (by omega) ly_134 (by show (nI 318 + (nI 13 * nI v3)) + (nI 3 + nI v4) = nI ((318 + (13 * v3)) + (3 + v4)); simp only [pk_mul, nI_add]) b1 ?_
  refine ev_iadd dX12_findNeeds_96 ?_
  refine ev_dup2 dX12_findNeeds_97 rfl rfl ?_
  refine ev_iald dX12_findNeeds_98 (by omega) ly_140 (by rw [hj1]; show (nI 14 * nI v1) + nI j1 = nI ((14 * v1) + j1); simp only [pk_mul, nI_add]) b2 ?_
  refine ev_aload_n dX12_findNeeds_99 rfl ?_
  refine ev_getS (q := 134) dX12_findNeeds_100 fo_12_9 (by omega) lo_133 rfl (sh_133_0 hX (by omega)) (by decide) ?_
  refine ev_iload_n dX12_findNeeds_103 rfl ?_
  refine ev_bipush (v := 8) dX12_findNeeds_104 kb_8 ?_
  refine ev_iload dX12_findNeeds_106 rfl ?_
  refine ev_iadd dX12_findNeeds_108 ?_
  refine e_Si (as := [.int (nI v3), .int (8 + (nI v4))]) (rest := [.ref 134, .int (X 140 ((14 * v1) + j1)), .int ((14 * (nI v1)) + (X 134 ((318 + (13 * v3)) + (3 + v4)))), .ref 140]) dX12_findNeeds_109 vX12_ofMeal ml_12_67 stX12_ofMeal npX12_ofMeal (by decide) rfl (Nat.le_of_ble_eq_true rfl) (by omega) (c_X12_ofMeal (d := d - 1) (by omega) (by omega) hX ) ?_
  refine ev_iald dX12_findNeeds_112 (by omega) ly_134 (by show (nI 318 + (nI 13 * nI v3)) + (nI 8 + nI v4) = nI ((318 + (13 * v3)) + (8 + v4)); simp only [pk_mul, nI_add]) b3 ?_
  refine ev_aload_n dX12_findNeeds_113 rfl ?_
  refine ev_getS (q := 134) dX12_findNeeds_114 fo_12_9 (by omega) lo_133 rfl (sh_133_0 hX (by omega)) (by decide) ?_
  refine ev_iload_n dX12_findNeeds_117 rfl ?_
  refine ev_iconst (v := 1) dX12_findNeeds_118 ki_1 ?_
  refine e_Si (as := [.int (nI v1), .int 1]) (rest := [.ref 134, .int (X 134 ((318 + (13 * v3)) + (8 + v4))), .int (X 140 ((14 * v1) + j1)), .int ((14 * (nI v1)) + (X 134 ((318 + (13 * v3)) + (3 + v4)))), .ref 140]) dX12_findNeeds_119 vX12_ofFamily ml_12_99 stX12_ofFamily npX12_ofFamily (by decide) rfl (Nat.le_of_ble_eq_true rfl) (by omega) (c_X12_ofFamily (d := d - 1) (by omega) (by omega) hX ) ?_
  refine ev_iald dX12_findNeeds_122 (by omega) ly_134 (by show (nI 448 + (nI 15 * nI v1)) + nI 1 = nI ((448 + (15 * v1)) + 1); simp only [pk_mul, nI_add]) b4 ?_
  refine ev_imul dX12_findNeeds_123 ?_
  refine ev_iadd dX12_findNeeds_124 ?_
  refine ev_iast dX12_findNeeds_125 (by omega) ly_140 (by rw [hj1]; show (nI 14 * nI v1) + nI j1 = nI ((14 * v1) + j1); simp only [pk_mul, nI_add]) b2 ?_
  have hX1 : Sh _ (lx_up X 140 ((14 * v1) + j1) ((X 140 ((14 * v1) + j1)) + ((X 134 ((318 + (13 * v3)) + (8 + v4))) * (X 134 ((448 + (15 * v1)) + 1))))) := Sh.upA hX (by rw [ly_140]; exact (by decide : 0 < 2))
  refine ev_iinc (v := (nI v4) + 1) dX12_findNeeds_126 rfl (by rw [show Int32.ofInt 1 = 1 from ki_1]) (by decide) ?_
  refine ev_goto (tgt := 52) dX12_findNeeds_129 (by decide) ?_
  exact k
theorem bX12_findNeeds_52_1 {g : GG} {d n : Nat} {post : Option Value → LX → Prop} {X : LX} (hd : 1 ≤ d) (hn : 146 ≤ n) (hX : Sh n X) {v1 : Int32} {v2 : Int32} {v3 : Nat} {v4 : Int32} (b0 : ((318 + (13 * v3)) + 2) < 2156) (c0 : ¬ X 134 ((318 + (13 * v3)) + 2) ≤ v4) (c1 : ¬ ((v2 >>> ((nI v3) &&& 31)) &&& 1 = 1)) (k : Ev g mX12_findNeeds d n n post n 43 [some (.ref 133), some (.int v1), some (.int v2), some (.int ((nI v3) + 1)), none] [] X) : Ev g mX12_findNeeds d n n post n 52 [some (.ref 133), some (.int v1), some (.int v2), some (.int (nI v3)), some (.int v4)] [] X := by
  refine ev_iload dX12_findNeeds_52 rfl ?_
  refine ev_aload_n dX12_findNeeds_54 rfl ?_
  refine ev_getS (q := 134) dX12_findNeeds_55 fo_12_9 (by omega) lo_133 rfl (sh_133_0 hX (by omega)) (by decide) ?_
  refine ev_iload_n dX12_findNeeds_58 rfl ?_
  refine ev_iconst (v := 2) dX12_findNeeds_59 ki_2 ?_
  refine e_Si (as := [.int (nI v3), .int 2]) (rest := [.ref 134, .int v4]) dX12_findNeeds_60 vX12_ofMeal ml_12_67 stX12_ofMeal npX12_ofMeal (by decide) rfl (Nat.le_of_ble_eq_true rfl) (by omega) (c_X12_ofMeal (d := d - 1) (by omega) (by omega) hX ) ?_
  refine ev_iald dX12_findNeeds_63 (by omega) ly_134 (by show (nI 318 + (nI 13 * nI v3)) + nI 2 = nI ((318 + (13 * v3)) + 2); simp only [pk_mul, nI_add]) b0 ?_
  refine ev_icmpF (tgt := 132) dX12_findNeeds_64 (by decide) c0 ?_
  refine ev_iload_n dX12_findNeeds_67 rfl ?_
  refine ev_iload_n dX12_findNeeds_68 rfl ?_
  refine e_Si (as := [.int v2, .int (nI v3)]) (rest := []) dX12_findNeeds_69 vX12_has ml_12_76 stX12_has npX12_has (by decide) rfl (Nat.le_of_ble_eq_true rfl) (by omega) (f_X12_has (d := d - 1) (by omega) (by omega) hX c1) ?_
  refine ev_ifT (tgt := 132) dX12_findNeeds_72 (by decide) (by show (0 : Int32) = 0; decide) ?_
  refine ev_iinc (v := (nI v3) + 1) dX12_findNeeds_132 rfl (by rw [show Int32.ofInt 1 = 1 from ki_1]) (by decide) ?_
  refine ev_goto (tgt := 43) dX12_findNeeds_135 (by decide) ?_
  refine ev_wk (L := [some (.ref 133), some (.int v1), some (.int v2), some (.int ((nI v3) + 1)), some (.int v4)]) (L' := [some (.ref 133), some (.int v1), some (.int v2), some (.int ((nI v3) + 1)), none]) (by simp [lwk]) ?_
  exact k
theorem bX12_findNeeds_52_2 {g : GG} {d n : Nat} {post : Option Value → LX → Prop} {X : LX} (hd : 1 ≤ d) (hn : 146 ≤ n) (hX : Sh n X) {v1 : Int32} {v2 : Int32} {v3 : Nat} {v4 : Int32} (b0 : ((318 + (13 * v3)) + 2) < 2156) (c0 : X 134 ((318 + (13 * v3)) + 2) ≤ v4) (k : Ev g mX12_findNeeds d n n post n 43 [some (.ref 133), some (.int v1), some (.int v2), some (.int ((nI v3) + 1)), none] [] X) : Ev g mX12_findNeeds d n n post n 52 [some (.ref 133), some (.int v1), some (.int v2), some (.int (nI v3)), some (.int v4)] [] X := by
  refine ev_iload dX12_findNeeds_52 rfl ?_
  refine ev_aload_n dX12_findNeeds_54 rfl ?_
  refine ev_getS (q := 134) dX12_findNeeds_55 fo_12_9 (by omega) lo_133 rfl (sh_133_0 hX (by omega)) (by decide) ?_
  refine ev_iload_n dX12_findNeeds_58 rfl ?_
  refine ev_iconst (v := 2) dX12_findNeeds_59 ki_2 ?_
  refine e_Si (as := [.int (nI v3), .int 2]) (rest := [.ref 134, .int v4]) dX12_findNeeds_60 vX12_ofMeal ml_12_67 stX12_ofMeal npX12_ofMeal (by decide) rfl (Nat.le_of_ble_eq_true rfl) (by omega) (c_X12_ofMeal (d := d - 1) (by omega) (by omega) hX ) ?_
  refine ev_iald dX12_findNeeds_63 (by omega) ly_134 (by show (nI 318 + (nI 13 * nI v3)) + nI 2 = nI ((318 + (13 * v3)) + 2); simp only [pk_mul, nI_add]) b0 ?_
  refine ev_icmpT (tgt := 132) dX12_findNeeds_64 (by decide) c0 ?_
  refine ev_iinc (v := (nI v3) + 1) dX12_findNeeds_132 rfl (by rw [show Int32.ofInt 1 = 1 from ki_1]) (by decide) ?_
  refine ev_goto (tgt := 43) dX12_findNeeds_135 (by decide) ?_
  refine ev_wk (L := [some (.ref 133), some (.int v1), some (.int v2), some (.int ((nI v3) + 1)), some (.int v4)]) (L' := [some (.ref 133), some (.int v1), some (.int v2), some (.int ((nI v3) + 1)), none]) (by simp [lwk]) ?_
  exact k
theorem bX12_throwLeft_0_0 {g : GG} {d n : Nat} {post : Option Value → LX → Prop} {X : LX} (hd : 1 ≤ d) (hn : 146 ≤ n) (hX : Sh n X) {v1 : Nat} {j1 : Nat} (b0 : ((628 + (5 * v1)) + 0) < 2156) (hj1 : X 134 ((628 + (5 * v1)) + 0) = nI j1) (b1 : ((10 + (8 * j1)) + 7) < 2156) (b2 : ((628 + (5 * v1)) + 3) < 2156) (hp : post none (lx_up (lx_up X 134 ((10 + (8 * j1)) + 7) ((X 134 ((10 + (8 * j1)) + 7)) + (X 134 ((628 + (5 * v1)) + 3)))) 134 ((628 + (5 * v1)) + 3) 0)) : Ev g mX12_throwLeft d n n post n 0 [some (.ref 133), some (.int (nI v1))] [] X := by
  refine ev_aload_n dX12_throwLeft_0 rfl ?_
  refine ev_getS (q := 134) dX12_throwLeft_1 fo_12_9 (by omega) lo_133 rfl (sh_133_0 hX (by omega)) (by decide) ?_
  refine ev_aload_n dX12_throwLeft_4 rfl ?_
  refine ev_getS (q := 134) dX12_throwLeft_5 fo_12_9 (by omega) lo_133 rfl (sh_133_0 hX (by omega)) (by decide) ?_
  refine ev_iload_n dX12_throwLeft_8 rfl ?_
  refine ev_iconst (v := 0) dX12_throwLeft_9 ki_0 ?_
  refine e_Si (as := [.int (nI v1), .int 0]) (rest := [.ref 134, .ref 134]) dX12_throwLeft_10 vX12_ofLot ml_12_261 stX12_ofLot npX12_ofLot (by decide) rfl (Nat.le_of_ble_eq_true rfl) (by omega) (c_X12_ofLot (d := d - 1) (by omega) (by omega) hX ) ?_
  refine ev_iald dX12_throwLeft_13 (by omega) ly_134 (by show (nI 628 + (nI 5 * nI v1)) + nI 0 = nI ((628 + (5 * v1)) + 0); simp only [pk_mul, nI_add]) b0 ?_
  refine ev_bipush (v := 7) dX12_throwLeft_14 kb_7 ?_
  refine e_Si (as := [.int (X 134 ((628 + (5 * v1)) + 0)), .int 7]) (rest := [.ref 134]) dX12_throwLeft_16 vX12_ofPart ml_12_59 stX12_ofPart npX12_ofPart (by decide) rfl (Nat.le_of_ble_eq_true rfl) (by omega) (c_X12_ofPart (d := d - 1) (by omega) (by omega) hX ) ?_
  refine ev_dup2 dX12_throwLeft_19 rfl rfl ?_
  refine ev_iald dX12_throwLeft_20 (by omega) ly_134 (by rw [hj1]; show (nI 10 + (nI 8 * nI j1)) + nI 7 = nI ((10 + (8 * j1)) + 7); simp only [pk_mul, nI_add]) b1 ?_
  refine ev_aload_n dX12_throwLeft_21 rfl ?_
  refine ev_getS (q := 134) dX12_throwLeft_22 fo_12_9 (by omega) lo_133 rfl (sh_133_0 hX (by omega)) (by decide) ?_
  refine ev_iload_n dX12_throwLeft_25 rfl ?_
  refine ev_iconst (v := 3) dX12_throwLeft_26 ki_3 ?_
  refine e_Si (as := [.int (nI v1), .int 3]) (rest := [.ref 134, .int (X 134 ((10 + (8 * j1)) + 7)), .int (10 + 8 * (X 134 ((628 + (5 * v1)) + 0)) + 7), .ref 134]) dX12_throwLeft_27 vX12_ofLot ml_12_261 stX12_ofLot npX12_ofLot (by decide) rfl (Nat.le_of_ble_eq_true rfl) (by omega) (c_X12_ofLot (d := d - 1) (by omega) (by omega) hX ) ?_
  refine ev_iald dX12_throwLeft_30 (by omega) ly_134 (by show (nI 628 + (nI 5 * nI v1)) + nI 3 = nI ((628 + (5 * v1)) + 3); simp only [pk_mul, nI_add]) b2 ?_
  refine ev_iadd dX12_throwLeft_31 ?_
  refine ev_iast dX12_throwLeft_32 (by omega) ly_134 (by rw [hj1]; show (nI 10 + (nI 8 * nI j1)) + nI 7 = nI ((10 + (8 * j1)) + 7); simp only [pk_mul, nI_add]) b1 ?_
  have hX1 : Sh _ (lx_up X 134 ((10 + (8 * j1)) + 7) ((X 134 ((10 + (8 * j1)) + 7)) + (X 134 ((628 + (5 * v1)) + 3)))) := Sh.upA hX (by rw [ly_134]; exact (by decide : 0 < 2))
  refine ev_aload_n dX12_throwLeft_33 rfl ?_
  refine ev_getS (q := 134) dX12_throwLeft_34 fo_12_9 (by omega) lo_133 rfl (sh_133_0 hX1 (by omega)) (by decide) ?_
  refine ev_iload_n dX12_throwLeft_37 rfl ?_
  refine ev_iconst (v := 3) dX12_throwLeft_38 ki_3 ?_
  refine e_Si (as := [.int (nI v1), .int 3]) (rest := [.ref 134]) dX12_throwLeft_39 vX12_ofLot ml_12_261 stX12_ofLot npX12_ofLot (by decide) rfl (Nat.le_of_ble_eq_true rfl) (by omega) (c_X12_ofLot (d := d - 1) (by omega) (by omega) hX1 ) ?_
  refine ev_iconst (v := 0) dX12_throwLeft_42 ki_0 ?_
  refine ev_iast dX12_throwLeft_43 (by omega) ly_134 (by show (nI 628 + (nI 5 * nI v1)) + nI 3 = nI ((628 + (5 * v1)) + 3); simp only [pk_mul, nI_add]) b2 ?_
  have hX2 : Sh _ (lx_up (lx_up X 134 ((10 + (8 * j1)) + 7) ((X 134 ((10 + (8 * j1)) + 7)) + (X 134 ((628 + (5 * v1)) + 3)))) 134 ((628 + (5 * v1)) + 3) 0) := Sh.upA hX1 (by rw [ly_134]; exact (by decide : 0 < 2))
  exact ev_ret dX12_throwLeft_44 rfl hp
theorem bX12_takes_0_0 {g : GG} {d n : Nat} {post : Option Value → LX → Prop} {X : LX} (hn : 146 ≤ n) (hX : Sh n X) {v1 : Int32} {v2 : Int32} {v3 : Int32} (k : Ev g mX12_takes d n n post n 6 [some (.ref 133), some (.int v1), some (.int v2), some (.int v3), some (.int v3), some (.int 0), none] [] X) : Ev g mX12_takes d n n post n 0 [some (.ref 133), some (.int v1), some (.int v2), some (.int v3), none, none, none] [] X := by
  refine ev_iload_n dX12_takes_0 rfl ?_
  refine ev_istore dX12_takes_1 (by decide) ?_
  refine ev_iconst (v := 0) dX12_takes_3 ki_0 ?_
  refine ev_istore dX12_takes_4 (by decide) ?_
  exact k
theorem bX12_takes_6_0 {g : GG} {d n : Nat} {post : Option Value → LX → Prop} {X : LX} (hd : 1 ≤ d) (hn : 146 ≤ n) (hX : Sh n X) {v1 : Int32} {v2 : Int32} {v3 : Int32} {v4 : Int32} {v5 : Nat} (c0 : ¬ X 134 7 ≤ nI v5) (b0 : ((628 + (5 * v5)) + 0) < 2156) (c1 : X 134 ((628 + (5 * v5)) + 0) = v2) (b1 : ((628 + (5 * v5)) + 3) < 2156) (b2 : ((628 + (5 * v5)) + 4) < 2156) (c2 : ¬ (if (X 134 ((628 + (5 * v5)) + 3)) < v4 then (X 134 ((628 + (5 * v5)) + 3)) else v4) ≤ 0) (k : Ev g mX12_takes d n n post n 6 [some (.ref 133), some (.int v1), some (.int v2), some (.int v3), some (.int (v4 - (if (X 134 ((628 + (5 * v5)) + 3)) < v4 then (X 134 ((628 + (5 * v5)) + 3)) else v4))), some (.int ((nI v5) + 1)), none] [] (lx_up (lx_up X 134 ((628 + (5 * v5)) + 3) ((X 134 ((628 + (5 * v5)) + 3)) - (if (X 134 ((628 + (5 * v5)) + 3)) < v4 then (X 134 ((628 + (5 * v5)) + 3)) else v4))) 134 ((628 + (5 * v5)) + 4) (((lx_up X 134 ((628 + (5 * v5)) + 3) ((X 134 ((628 + (5 * v5)) + 3)) - (if (X 134 ((628 + (5 * v5)) + 3)) < v4 then (X 134 ((628 + (5 * v5)) + 3)) else v4))) 134 ((628 + (5 * v5)) + 4)) ||| (1 <<< (v1 &&& 31))))) : Ev g mX12_takes d n n post n 6 [some (.ref 133), some (.int v1), some (.int v2), some (.int v3), some (.int v4), some (.int (nI v5)), none] [] X := by
  refine ev_iload dX12_takes_6 rfl ?_
  refine ev_aload_n dX12_takes_8 rfl ?_
  refine ev_getS (q := 134) dX12_takes_9 fo_12_9 (by omega) lo_133 rfl (sh_133_0 hX (by omega)) (by decide) ?_
  refine ev_bipush (v := 7) dX12_takes_12 kb_7 ?_
  refine ev_iald dX12_takes_14 (by omega) ly_134 nIl_7 (by decide) ?_
  refine ev_icmpF (tgt := 110) dX12_takes_15 (by decide) c0 ?_
  refine ev_aload_n dX12_takes_18 rfl ?_
  refine ev_getS (q := 134) dX12_takes_19 fo_12_9 (by omega) lo_133 rfl (sh_133_0 hX (by omega)) (by decide) ?_
  refine ev_iload dX12_takes_22 rfl ?_
  refine ev_iconst (v := 0) dX12_takes_24 ki_0 ?_
  refine e_Si (as := [.int (nI v5), .int 0]) (rest := [.ref 134]) dX12_takes_25 vX12_ofLot ml_12_261 stX12_ofLot npX12_ofLot (by decide) rfl (Nat.le_of_ble_eq_true rfl) (by omega) (c_X12_ofLot (d := d - 1) (by omega) (by omega) hX ) ?_
  refine ev_iald dX12_takes_28 (by omega) ly_134 (by show (nI 628 + (nI 5 * nI v5)) + nI 0 = nI ((628 + (5 * v5)) + 0); simp only [pk_mul, nI_add]) b0 ?_
  refine ev_iload_n dX12_takes_29 rfl ?_
  refine ev_icmpF (tgt := 52) dX12_takes_30 (by decide) c1 ?_
  refine ev_iload dX12_takes_33 rfl ?_
  refine ev_aload_n dX12_takes_35 rfl ?_
  refine ev_getS (q := 134) dX12_takes_36 fo_12_9 (by omega) lo_133 rfl (sh_133_0 hX (by omega)) (by decide) ?_
  refine ev_iload dX12_takes_39 rfl ?_
  refine ev_iconst (v := 3) dX12_takes_41 ki_3 ?_
  refine e_Si (as := [.int (nI v5), .int 3]) (rest := [.ref 134, .int v4]) dX12_takes_42 vX12_ofLot ml_12_261 stX12_ofLot npX12_ofLot (by decide) rfl (Nat.le_of_ble_eq_true rfl) (by omega) (c_X12_ofLot (d := d - 1) (by omega) (by omega) hX ) ?_
  refine ev_iald dX12_takes_45 (by omega) ly_134 (by show (nI 628 + (nI 5 * nI v5)) + nI 3 = nI ((628 + (5 * v5)) + 3); simp only [pk_mul, nI_add]) b1 ?_
  refine e_min dX12_takes_46 mm_12_118 mn_st mx_in mn_co (Nat.le_of_ble_eq_true rfl) (by omega) ?_
  refine ev_goto (tgt := 53) dX12_takes_49 (by decide) ?_
  refine ev_istore dX12_takes_53 (by decide) ?_
  refine ev_aload_n dX12_takes_55 rfl ?_
  refine ev_getS (q := 134) dX12_takes_56 fo_12_9 (by omega) lo_133 rfl (sh_133_0 hX (by omega)) (by decide) ?_
  refine ev_iload dX12_takes_59 rfl ?_
  refine ev_iconst (v := 3) dX12_takes_61 ki_3 ?_
  refine e_Si (as := [.int (nI v5), .int 3]) (rest := [.ref 134]) dX12_takes_62 vX12_ofLot ml_12_261 stX12_ofLot npX12_ofLot (by decide) rfl (Nat.le_of_ble_eq_true rfl) (by omega) (c_X12_ofLot (d := d - 1) (by omega) (by omega) hX ) ?_
  refine ev_dup2 dX12_takes_65 rfl rfl ?_
  refine ev_iald dX12_takes_66 (by omega) ly_134 (by show (nI 628 + (nI 5 * nI v5)) + nI 3 = nI ((628 + (5 * v5)) + 3); simp only [pk_mul, nI_add]) b1 ?_
  refine ev_iload dX12_takes_67 rfl ?_
  refine ev_isub dX12_takes_69 ?_
  refine ev_iast dX12_takes_70 (by omega) ly_134 (by show (nI 628 + (nI 5 * nI v5)) + nI 3 = nI ((628 + (5 * v5)) + 3); simp only [pk_mul, nI_add]) b1 ?_
  have hX1 : Sh _ (lx_up X 134 ((628 + (5 * v5)) + 3) ((X 134 ((628 + (5 * v5)) + 3)) - (if (X 134 ((628 + (5 * v5)) + 3)) < v4 then (X 134 ((628 + (5 * v5)) + 3)) else v4))) := Sh.upA hX (by rw [ly_134]; exact (by decide : 0 < 2))
  refine ev_aload_n dX12_takes_71 rfl ?_
  refine ev_getS (q := 134) dX12_takes_72 fo_12_9 (by omega) lo_133 rfl (sh_133_0 hX1 (by omega)) (by decide) ?_
  refine ev_iload dX12_takes_75 rfl ?_
  refine ev_iconst (v := 4) dX12_takes_77 ki_4 ?_
  refine e_Si (as := [.int (nI v5), .int 4]) (rest := [.ref 134]) dX12_takes_78 vX12_ofLot ml_12_261 stX12_ofLot npX12_ofLot (by decide) rfl (Nat.le_of_ble_eq_true rfl) (by omega) (c_X12_ofLot (d := d - 1) (by omega) (by omega) hX1 ) ?_
  refine ev_dup2 dX12_takes_81 rfl rfl ?_
  refine ev_iald dX12_takes_82 (by omega) ly_134 (by show (nI 628 + (nI 5 * nI v5)) + nI 4 = nI ((628 + (5 * v5)) + 4); simp only [pk_mul, nI_add]) b2 ?_
  refine ev_iload dX12_takes_83 rfl ?_
  refine ev_ifF (tgt := 94) dX12_takes_85 (by decide) c2 ?_
  refine ev_iconst (v := 1) dX12_takes_88 ki_1 ?_
  refine ev_iload_n dX12_takes_89 rfl ?_
  refine ev_ishl dX12_takes_90 ?_
  refine ev_goto (tgt := 95) dX12_takes_91 (by decide) ?_
  refine ev_ior dX12_takes_95 ?_
  refine ev_iast dX12_takes_96 (by omega) ly_134 (by show (nI 628 + (nI 5 * nI v5)) + nI 4 = nI ((628 + (5 * v5)) + 4); simp only [pk_mul, nI_add]) b2 ?_
  have hX2 : Sh _ (lx_up (lx_up X 134 ((628 + (5 * v5)) + 3) ((X 134 ((628 + (5 * v5)) + 3)) - (if (X 134 ((628 + (5 * v5)) + 3)) < v4 then (X 134 ((628 + (5 * v5)) + 3)) else v4))) 134 ((628 + (5 * v5)) + 4) (((lx_up X 134 ((628 + (5 * v5)) + 3) ((X 134 ((628 + (5 * v5)) + 3)) - (if (X 134 ((628 + (5 * v5)) + 3)) < v4 then (X 134 ((628 + (5 * v5)) + 3)) else v4))) 134 ((628 + (5 * v5)) + 4)) ||| (1 <<< (v1 &&& 31)))) := Sh.upA hX1 (by rw [ly_134]; exact (by decide : 0 < 2))
  refine ev_iload dX12_takes_97 rfl ?_
  refine ev_iload dX12_takes_99 rfl ?_
  refine ev_isub dX12_takes_101 ?_
  refine ev_istore dX12_takes_102 (by decide) ?_
  refine ev_iinc (v := (nI v5) + 1) dX12_takes_104 rfl (by rw [show Int32.ofInt 1 = 1 from ki_1]) (by decide) ?_
  refine ev_goto (tgt := 6) dX12_takes_107 (by decide) ?_
  refine ev_wk (L := [some (.ref 133), some (.int v1), some (.int v2), some (.int v3), some (.int (v4 - (if (X 134 ((628 + (5 * v5)) + 3)) < v4 then (X 134 ((628 + (5 * v5)) + 3)) else v4))), some (.int ((nI v5) + 1)), some (.int (if (X 134 ((628 + (5 * v5)) + 3)) < v4 then (X 134 ((628 + (5 * v5)) + 3)) else v4))]) (L' := [some (.ref 133), some (.int v1), some (.int v2), some (.int v3), some (.int (v4 - (if (X 134 ((628 + (5 * v5)) + 3)) < v4 then (X 134 ((628 + (5 * v5)) + 3)) else v4))), some (.int ((nI v5) + 1)), none]) (by simp [lwk]) ?_
  exact k
theorem bX12_takes_6_1 {g : GG} {d n : Nat} {post : Option Value → LX → Prop} {X : LX} (hd : 1 ≤ d) (hn : 146 ≤ n) (hX : Sh n X) {v1 : Int32} {v2 : Int32} {v3 : Int32} {v4 : Int32} {v5 : Nat} (c0 : ¬ X 134 7 ≤ nI v5) (b0 : ((628 + (5 * v5)) + 0) < 2156) (c1 : X 134 ((628 + (5 * v5)) + 0) = v2) (b1 : ((628 + (5 * v5)) + 3) < 2156) (b2 : ((628 + (5 * v5)) + 4) < 2156) (c2 : (if (X 134 ((628 + (5 * v5)) + 3)) < v4 then (X 134 ((628 + (5 * v5)) + 3)) else v4) ≤ 0) (k : Ev g mX12_takes d n n post n 6 [some (.ref 133), some (.int v1), some (.int v2), some (.int v3), some (.int (v4 - (if (X 134 ((628 + (5 * v5)) + 3)) < v4 then (X 134 ((628 + (5 * v5)) + 3)) else v4))), some (.int ((nI v5) + 1)), none] [] (lx_up (lx_up X 134 ((628 + (5 * v5)) + 3) ((X 134 ((628 + (5 * v5)) + 3)) - (if (X 134 ((628 + (5 * v5)) + 3)) < v4 then (X 134 ((628 + (5 * v5)) + 3)) else v4))) 134 ((628 + (5 * v5)) + 4) (((lx_up X 134 ((628 + (5 * v5)) + 3) ((X 134 ((628 + (5 * v5)) + 3)) - (if (X 134 ((628 + (5 * v5)) + 3)) < v4 then (X 134 ((628 + (5 * v5)) + 3)) else v4))) 134 ((628 + (5 * v5)) + 4)) ||| 0))) : Ev g mX12_takes d n n post n 6 [some (.ref 133), some (.int v1), some (.int v2), some (.int v3), some (.int v4), some (.int (nI v5)), none] [] X := by
  refine ev_iload dX12_takes_6 rfl ?_
  refine ev_aload_n dX12_takes_8 rfl ?_
  refine ev_getS (q := 134) dX12_takes_9 fo_12_9 (by omega) lo_133 rfl (sh_133_0 hX (by omega)) (by decide) ?_
  refine ev_bipush (v := 7) dX12_takes_12 kb_7 ?_
  refine ev_iald dX12_takes_14 (by omega) ly_134 nIl_7 (by decide) ?_
  refine ev_icmpF (tgt := 110) dX12_takes_15 (by decide) c0 ?_
  refine ev_aload_n dX12_takes_18 rfl ?_
  refine ev_getS (q := 134) dX12_takes_19 fo_12_9 (by omega) lo_133 rfl (sh_133_0 hX (by omega)) (by decide) ?_
  refine ev_iload dX12_takes_22 rfl ?_
  refine ev_iconst (v := 0) dX12_takes_24 ki_0 ?_
  refine e_Si (as := [.int (nI v5), .int 0]) (rest := [.ref 134]) dX12_takes_25 vX12_ofLot ml_12_261 stX12_ofLot npX12_ofLot (by decide) rfl (Nat.le_of_ble_eq_true rfl) (by omega) (c_X12_ofLot (d := d - 1) (by omega) (by omega) hX ) ?_
  refine ev_iald dX12_takes_28 (by omega) ly_134 (by show (nI 628 + (nI 5 * nI v5)) + nI 0 = nI ((628 + (5 * v5)) + 0); simp only [pk_mul, nI_add]) b0 ?_
  refine ev_iload_n dX12_takes_29 rfl ?_
  refine ev_icmpF (tgt := 52) dX12_takes_30 (by decide) c1 ?_
  refine ev_iload dX12_takes_33 rfl ?_
  refine ev_aload_n dX12_takes_35 rfl ?_
  refine ev_getS (q := 134) dX12_takes_36 fo_12_9 (by omega) lo_133 rfl (sh_133_0 hX (by omega)) (by decide) ?_
  refine ev_iload dX12_takes_39 rfl ?_
  refine ev_iconst (v := 3) dX12_takes_41 ki_3 ?_
  refine e_Si (as := [.int (nI v5), .int 3]) (rest := [.ref 134, .int v4]) dX12_takes_42 vX12_ofLot ml_12_261 stX12_ofLot npX12_ofLot (by decide) rfl (Nat.le_of_ble_eq_true rfl) (by omega) (c_X12_ofLot (d := d - 1) (by omega) (by omega) hX ) ?_
  refine ev_iald dX12_takes_45 (by omega) ly_134 (by show (nI 628 + (nI 5 * nI v5)) + nI 3 = nI ((628 + (5 * v5)) + 3); simp only [pk_mul, nI_add]) b1 ?_
  refine e_min dX12_takes_46 mm_12_118 mn_st mx_in mn_co (Nat.le_of_ble_eq_true rfl) (by omega) ?_
  refine ev_goto (tgt := 53) dX12_takes_49 (by decide) ?_
  refine ev_istore dX12_takes_53 (by decide) ?_
  refine ev_aload_n dX12_takes_55 rfl ?_
  refine ev_getS (q := 134) dX12_takes_56 fo_12_9 (by omega) lo_133 rfl (sh_133_0 hX (by omega)) (by decide) ?_
  refine ev_iload dX12_takes_59 rfl ?_
  refine ev_iconst (v := 3) dX12_takes_61 ki_3 ?_
  refine e_Si (as := [.int (nI v5), .int 3]) (rest := [.ref 134]) dX12_takes_62 vX12_ofLot ml_12_261 stX12_ofLot npX12_ofLot (by decide) rfl (Nat.le_of_ble_eq_true rfl) (by omega) (c_X12_ofLot (d := d - 1) (by omega) (by omega) hX ) ?_
  refine ev_dup2 dX12_takes_65 rfl rfl ?_
  refine ev_iald dX12_takes_66 (by omega) ly_134 (by show (nI 628 + (nI 5 * nI v5)) + nI 3 = nI ((628 + (5 * v5)) + 3); simp only [pk_mul, nI_add]) b1 ?_
  refine ev_iload dX12_takes_67 rfl ?_
  refine ev_isub dX12_takes_69 ?_
  refine ev_iast dX12_takes_70 (by omega) ly_134 (by show (nI 628 + (nI 5 * nI v5)) + nI 3 = nI ((628 + (5 * v5)) + 3); simp only [pk_mul, nI_add]) b1 ?_
  have hX1 : Sh _ (lx_up X 134 ((628 + (5 * v5)) + 3) ((X 134 ((628 + (5 * v5)) + 3)) - (if (X 134 ((628 + (5 * v5)) + 3)) < v4 then (X 134 ((628 + (5 * v5)) + 3)) else v4))) := Sh.upA hX (by rw [ly_134]; exact (by decide : 0 < 2))
  refine ev_aload_n dX12_takes_71 rfl ?_
  refine ev_getS (q := 134) dX12_takes_72 fo_12_9 (by omega) lo_133 rfl (sh_133_0 hX1 (by omega)) (by decide) ?_
  refine ev_iload dX12_takes_75 rfl ?_
  refine ev_iconst (v := 4) dX12_takes_77 ki_4 ?_
  refine e_Si (as := [.int (nI v5), .int 4]) (rest := [.ref 134]) dX12_takes_78 vX12_ofLot ml_12_261 stX12_ofLot npX12_ofLot (by decide) rfl (Nat.le_of_ble_eq_true rfl) (by omega) (c_X12_ofLot (d := d - 1) (by omega) (by omega) hX1 ) ?_
  refine ev_dup2 dX12_takes_81 rfl rfl ?_
  refine ev_iald dX12_takes_82 (by omega) ly_134 (by show (nI 628 + (nI 5 * nI v5)) + nI 4 = nI ((628 + (5 * v5)) + 4); simp only [pk_mul, nI_add]) b2 ?_
  refine ev_iload dX12_takes_83 rfl ?_
  refine ev_ifT (tgt := 94) dX12_takes_85 (by decide) c2 ?_
  refine ev_iconst (v := 0) dX12_takes_94 ki_0 ?_
  refine ev_ior dX12_takes_95 ?_
  refine ev_iast dX12_takes_96 (by omega) ly_134 (by show (nI 628 + (nI 5 * nI v5)) + nI 4 = nI ((628 + (5 * v5)) + 4); simp only [pk_mul, nI_add]) b2 ?_
  have hX2 : Sh _ (lx_up (lx_up X 134 ((628 + (5 * v5)) + 3) ((X 134 ((628 + (5 * v5)) + 3)) - (if (X 134 ((628 + (5 * v5)) + 3)) < v4 then (X 134 ((628 + (5 * v5)) + 3)) else v4))) 134 ((628 + (5 * v5)) + 4) (((lx_up X 134 ((628 + (5 * v5)) + 3) ((X 134 ((628 + (5 * v5)) + 3)) - (if (X 134 ((628 + (5 * v5)) + 3)) < v4 then (X 134 ((628 + (5 * v5)) + 3)) else v4))) 134 ((628 + (5 * v5)) + 4)) ||| 0)) := Sh.upA hX1 (by rw [ly_134]; exact (by decide : 0 < 2))
  refine ev_iload dX12_takes_97 rfl ?_
  refine ev_iload dX12_takes_99 rfl ?_
  refine ev_isub dX12_takes_101 ?_
  refine ev_istore dX12_takes_102 (by decide) ?_
  refine ev_iinc (v := (nI v5) + 1) dX12_takes_104 rfl (by rw [show Int32.ofInt 1 = 1 from ki_1]) (by decide) ?_
  refine ev_goto (tgt := 6) dX12_takes_107 (by decide) ?_
  refine ev_wk (L := [some (.ref 133), some (.int v1), some (.int v2), some (.int v3), some (.int (v4 - (if (X 134 ((628 + (5 * v5)) + 3)) < v4 then (X 134 ((628 + (5 * v5)) + 3)) else v4))), some (.int ((nI v5) + 1)), some (.int (if (X 134 ((628 + (5 * v5)) + 3)) < v4 then (X 134 ((628 + (5 * v5)) + 3)) else v4))]) (L' := [some (.ref 133), some (.int v1), some (.int v2), some (.int v3), some (.int (v4 - (if (X 134 ((628 + (5 * v5)) + 3)) < v4 then (X 134 ((628 + (5 * v5)) + 3)) else v4))), some (.int ((nI v5) + 1)), none]) (by simp [lwk]) ?_
  exact k
theorem bX12_takes_6_2 {g : GG} {d n : Nat} {post : Option Value → LX → Prop} {X : LX} (hd : 1 ≤ d) (hn : 146 ≤ n) (hX : Sh n X) {v1 : Int32} {v2 : Int32} {v3 : Int32} {v4 : Int32} {v5 : Nat} (c0 : ¬ X 134 7 ≤ nI v5) (b0 : ((628 + (5 * v5)) + 0) < 2156) (c1 : ¬ X 134 ((628 + (5 * v5)) + 0) = v2) (b1 : ((628 + (5 * v5)) + 3) < 2156) (b2 : ((628 + (5 * v5)) + 4) < 2156) (k : Ev g mX12_takes d n n post n 6 [some (.ref 133), some (.int v1), some (.int v2), some (.int v3), some (.int (v4 - 0)), some (.int ((nI v5) + 1)), none] [] (lx_up (lx_up X 134 ((628 + (5 * v5)) + 3) ((X 134 ((628 + (5 * v5)) + 3)) - 0)) 134 ((628 + (5 * v5)) + 4) (((lx_up X 134 ((628 + (5 * v5)) + 3) ((X 134 ((628 + (5 * v5)) + 3)) - 0)) 134 ((628 + (5 * v5)) + 4)) ||| 0))) : Ev g mX12_takes d n n post n 6 [some (.ref 133), some (.int v1), some (.int v2), some (.int v3), some (.int v4), some (.int (nI v5)), none] [] X := by
  refine ev_iload dX12_takes_6 rfl ?_
  refine ev_aload_n dX12_takes_8 rfl ?_
  refine ev_getS (q := 134) dX12_takes_9 fo_12_9 (by omega) lo_133 rfl (sh_133_0 hX (by omega)) (by decide) ?_
  refine ev_bipush (v := 7) dX12_takes_12 kb_7 ?_
  refine ev_iald dX12_takes_14 (by omega) ly_134 nIl_7 (by decide) ?_
  refine ev_icmpF (tgt := 110) dX12_takes_15 (by decide) c0 ?_
  refine ev_aload_n dX12_takes_18 rfl ?_
  refine ev_getS (q := 134) dX12_takes_19 fo_12_9 (by omega) lo_133 rfl (sh_133_0 hX (by omega)) (by decide) ?_
  refine ev_iload dX12_takes_22 rfl ?_
  refine ev_iconst (v := 0) dX12_takes_24 ki_0 ?_
  refine e_Si (as := [.int (nI v5), .int 0]) (rest := [.ref 134]) dX12_takes_25 vX12_ofLot ml_12_261 stX12_ofLot npX12_ofLot (by decide) rfl (Nat.le_of_ble_eq_true rfl) (by omega) (c_X12_ofLot (d := d - 1) (by omega) (by omega) hX ) ?_
  refine ev_iald dX12_takes_28 (by omega) ly_134 (by show (nI 628 + (nI 5 * nI v5)) + nI 0 = nI ((628 + (5 * v5)) + 0); simp only [pk_mul, nI_add]) b0 ?_
  refine ev_iload_n dX12_takes_29 rfl ?_
  refine ev_icmpT (tgt := 52) dX12_takes_30 (by decide) c1 ?_
  refine ev_iconst (v := 0) dX12_takes_52 ki_0 ?_
  refine ev_istore dX12_takes_53 (by decide) ?_
  refine ev_aload_n dX12_takes_55 rfl ?_
  refine ev_getS (q := 134) dX12_takes_56 fo_12_9 (by omega) lo_133 rfl (sh_133_0 hX (by omega)) (by decide) ?_
  refine ev_iload dX12_takes_59 rfl ?_
  refine ev_iconst (v := 3) dX12_takes_61 ki_3 ?_
  refine e_Si (as := [.int (nI v5), .int 3]) (rest := [.ref 134]) dX12_takes_62 vX12_ofLot ml_12_261 stX12_ofLot npX12_ofLot (by decide) rfl (Nat.le_of_ble_eq_true rfl) (by omega) (c_X12_ofLot (d := d - 1) (by omega) (by omega) hX ) ?_
  refine ev_dup2 dX12_takes_65 rfl rfl ?_
  refine ev_iald dX12_takes_66 (by omega) ly_134 (by show (nI 628 + (nI 5 * nI v5)) + nI 3 = nI ((628 + (5 * v5)) + 3); simp only [pk_mul, nI_add]) b1 ?_
  refine ev_iload dX12_takes_67 rfl ?_
  refine ev_isub dX12_takes_69 ?_
  refine ev_iast dX12_takes_70 (by omega) ly_134 (by show (nI 628 + (nI 5 * nI v5)) + nI 3 = nI ((628 + (5 * v5)) + 3); simp only [pk_mul, nI_add]) b1 ?_
  have hX1 : Sh _ (lx_up X 134 ((628 + (5 * v5)) + 3) ((X 134 ((628 + (5 * v5)) + 3)) - 0)) := Sh.upA hX (by rw [ly_134]; exact (by decide : 0 < 2))
  refine ev_aload_n dX12_takes_71 rfl ?_
  refine ev_getS (q := 134) dX12_takes_72 fo_12_9 (by omega) lo_133 rfl (sh_133_0 hX1 (by omega)) (by decide) ?_
  refine ev_iload dX12_takes_75 rfl ?_
  refine ev_iconst (v := 4) dX12_takes_77 ki_4 ?_
  refine e_Si (as := [.int (nI v5), .int 4]) (rest := [.ref 134]) dX12_takes_78 vX12_ofLot ml_12_261 stX12_ofLot npX12_ofLot (by decide) rfl (Nat.le_of_ble_eq_true rfl) (by omega) (c_X12_ofLot (d := d - 1) (by omega) (by omega) hX1 ) ?_
  refine ev_dup2 dX12_takes_81 rfl rfl ?_
  refine ev_iald dX12_takes_82 (by omega) ly_134 (by show (nI 628 + (nI 5 * nI v5)) + nI 4 = nI ((628 + (5 * v5)) + 4); simp only [pk_mul, nI_add]) b2 ?_
  refine ev_iload dX12_takes_83 rfl ?_
  refine ev_ifT (tgt := 94) dX12_takes_85 (by decide) (by show (0 : Int32) ≤ 0; decide) ?_
  refine ev_iconst (v := 0) dX12_takes_94 ki_0 ?_
  refine ev_ior dX12_takes_95 ?_
  refine ev_iast dX12_takes_96 (by omega) ly_134 (by show (nI 628 + (nI 5 * nI v5)) + nI 4 = nI ((628 + (5 * v5)) + 4); simp only [pk_mul, nI_add]) b2 ?_
  have hX2 : Sh _ (lx_up (lx_up X 134 ((628 + (5 * v5)) + 3) ((X 134 ((628 + (5 * v5)) + 3)) - 0)) 134 ((628 + (5 * v5)) + 4) (((lx_up X 134 ((628 + (5 * v5)) + 3) ((X 134 ((628 + (5 * v5)) + 3)) - 0)) 134 ((628 + (5 * v5)) + 4)) ||| 0)) := Sh.upA hX1 (by rw [ly_134]; exact (by decide : 0 < 2))
  refine ev_iload dX12_takes_97 rfl ?_
  refine ev_iload dX12_takes_99 rfl ?_
  refine ev_isub dX12_takes_101 ?_
  refine ev_istore dX12_takes_102 (by decide) ?_
  refine ev_iinc (v := (nI v5) + 1) dX12_takes_104 rfl (by rw [show Int32.ofInt 1 = 1 from ki_1]) (by decide) ?_
  refine ev_goto (tgt := 6) dX12_takes_107 (by decide) ?_
  refine ev_wk (L := [some (.ref 133), some (.int v1), some (.int v2), some (.int v3), some (.int (v4 - 0)), some (.int ((nI v5) + 1)), some (.int 0)]) (L' := [some (.ref 133), some (.int v1), some (.int v2), some (.int v3), some (.int (v4 - 0)), some (.int ((nI v5) + 1)), none]) (by simp [lwk]) ?_
  exact k
theorem bX12_takes_6_3 {g : GG} {d n : Nat} {post : Option Value → LX → Prop} {X : LX} (hd : 1 ≤ d) (hn : 146 ≤ n) (hX : Sh n X) {v1 : Int32} {v2 : Nat} {v3 : Int32} {v4 : Int32} {v5 : Int32} (c0 : X 134 7 ≤ v5) (b0 : ((10 + (8 * v2)) + 6) < 2156) (hp : post none (lx_up X 134 ((10 + (8 * v2)) + 6) ((X 134 ((10 + (8 * v2)) + 6)) + v3))) : Ev g mX12_takes d n n post n 6 [some (.ref 133), some (.int v1), some (.int (nI v2)), some (.int v3), some (.int v4), some (.int v5), none] [] X := by
  refine ev_iload dX12_takes_6 rfl ?_
  refine ev_aload_n dX12_takes_8 rfl ?_
  refine ev_getS (q := 134) dX12_takes_9 fo_12_9 (by omega) lo_133 rfl (sh_133_0 hX (by omega)) (by decide) ?_
  refine ev_bipush (v := 7) dX12_takes_12 kb_7 ?_
  refine ev_iald dX12_takes_14 (by omega) ly_134 nIl_7 (by decide) ?_
  refine ev_icmpT (tgt := 110) dX12_takes_15 (by decide) c0 ?_
  refine ev_aload_n dX12_takes_110 rfl ?_
  refine ev_getS (q := 134) dX12_takes_111 fo_12_9 (by omega) lo_133 rfl (sh_133_0 hX (by omega)) (by decide) ?_
  refine ev_iload_n dX12_takes_114 rfl ?_
  refine ev_bipush (v := 6) dX12_takes_115 kb_6 ?_
  refine e_Si (as := [.int (nI v2), .int 6]) (rest := [.ref 134]) dX12_takes_117 vX12_ofPart ml_12_59 stX12_ofPart npX12_ofPart (by decide) rfl (Nat.le_of_ble_eq_true rfl) (by omega) (c_X12_ofPart (d := d - 1) (by omega) (by omega) hX ) ?_
  refine ev_dup2 dX12_takes_120 rfl rfl ?_
  refine ev_iald dX12_takes_121 (by omega) ly_134 (by show (nI 10 + (nI 8 * nI v2)) + nI 6 = nI ((10 + (8 * v2)) + 6); simp only [pk_mul, nI_add]) b0 ?_
  refine ev_iload_n dX12_takes_122 rfl ?_
  refine ev_iadd dX12_takes_123 ?_
  refine ev_iast dX12_takes_124 (by omega) ly_134 (by show (nI 10 + (nI 8 * nI v2)) + nI 6 = nI ((10 + (8 * v2)) + 6); simp only [pk_mul, nI_add]) b0 ?_
  have hX1 : Sh _ (lx_up X 134 ((10 + (8 * v2)) + 6) ((X 134 ((10 + (8 * v2)) + 6)) + v3)) := Sh.upA hX (by rw [ly_134]; exact (by decide : 0 < 2))
  exact ev_ret dX12_takes_125 rfl hp
theorem bX12_picksOf_0_0 {g : GG} {d n : Nat} {post : Option Value → LX → Prop} {X : LX} (hn : 146 ≤ n) (hX : Sh n X) {v1 : Int32} {v2 : Int32} {v3 : Int32} (k : Ev g mX12_picksOf d n n post n 6 [some (.ref 133), some (.int v1), some (.int v2), some (.int v3), some (.int 0), some (.int 0), none] [] X) : Ev g mX12_picksOf d n n post n 0 [some (.ref 133), some (.int v1), some (.int v2), some (.int v3), none, none, none] [] X := by
  refine ev_iconst (v := 0) dX12_picksOf_0 ki_0 ?_
  refine ev_istore dX12_picksOf_1 (by decide) ?_
  refine ev_iconst (v := 0) dX12_picksOf_3 ki_0 ?_
  refine ev_istore dX12_picksOf_4 (by decide) ?_
  exact k
theorem bX12_picksOf_6_0 {g : GG} {d n : Nat} {post : Option Value → LX → Prop} {X : LX} (hn : 146 ≤ n) (hX : Sh n X) {v1 : Int32} {v2 : Int32} {v3 : Int32} {v4 : Int32} {v5 : Int32} (c0 : ¬ X 134 6 ≤ v5) (k : Ev g mX12_picksOf d n n post n 21 [some (.ref 133), some (.int v1), some (.int v2), some (.int v3), some (.int v4), some (.int v5), some (.int 0)] [] X) : Ev g mX12_picksOf d n n post n 6 [some (.ref 133), some (.int v1), some (.int v2), some (.int v3), some (.int v4), some (.int v5), none] [] X := by
  refine ev_iload dX12_picksOf_6 rfl ?_
  refine ev_aload_n dX12_picksOf_8 rfl ?_
  refine ev_getS (q := 134) dX12_picksOf_9 fo_12_9 (by omega) lo_133 rfl (sh_133_0 hX (by omega)) (by decide) ?_
  refine ev_bipush (v := 6) dX12_picksOf_12 kb_6 ?_
  refine ev_iald dX12_picksOf_14 (by omega) ly_134 nIl_6 (by decide) ?_
  refine ev_icmpF (tgt := 104) dX12_picksOf_15 (by decide) c0 ?_
  refine ev_iconst (v := 0) dX12_picksOf_18 ki_0 ?_
  refine ev_istore dX12_picksOf_19 (by decide) ?_
  exact k
theorem bX12_picksOf_6_1 {g : GG} {d n : Nat} {post : Option Value → LX → Prop} {X : LX} (hn : 146 ≤ n) (hX : Sh n X) {v1 : Int32} {v2 : Int32} {v3 : Int32} {v4 : Int32} {v5 : Int32} (c0 : X 134 6 ≤ v5) (hp : post (some (.int v4)) X) : Ev g mX12_picksOf d n n post n 6 [some (.ref 133), some (.int v1), some (.int v2), some (.int v3), some (.int v4), some (.int v5), none] [] X := by
  refine ev_iload dX12_picksOf_6 rfl ?_
  refine ev_aload_n dX12_picksOf_8 rfl ?_
  refine ev_getS (q := 134) dX12_picksOf_9 fo_12_9 (by omega) lo_133 rfl (sh_133_0 hX (by omega)) (by decide) ?_
  refine ev_bipush (v := 6) dX12_picksOf_12 kb_6 ?_
  refine ev_iald dX12_picksOf_14 (by omega) ly_134 nIl_6 (by decide) ?_
  refine ev_icmpT (tgt := 104) dX12_picksOf_15 (by decide) c0 ?_
  refine ev_iload dX12_picksOf_104 rfl ?_
  exact ev_iret dX12_picksOf_106 rfl rfl hp
theorem bX12_picksOf_21_0 {g : GG} {d n : Nat} {post : Option Value → LX → Prop} {X : LX} (hd : 1 ≤ d) (hn : 146 ≤ n) (hX : Sh n X) {v1 : Int32} {v2 : Int32} {v3 : Int32} {v4 : Int32} {v5 : Nat} {v6 : Nat} (c0 : ¬ X 134 4 ≤ nI v6) (c1 : (v3 >>> ((nI v5) &&& 31)) &&& 1 = 1) (c2 : v2 = 1) (b0 : ((14 * v5) + v6) < 168) (c3 : ¬ X 140 ((14 * v5) + v6) ≤ 0) (b1 : ((10 + (8 * v6)) + 2) < 2156) (c4 : X 134 ((10 + (8 * v6)) + 2) = v1) (k : Ev g mX12_picksOf d n n post n 21 [some (.ref 133), some (.int v1), some (.int v2), some (.int v3), some (.int (v4 + 1)), some (.int (nI v5)), some (.int ((nI v6) + 1))] [] X) : Ev g mX12_picksOf d n n post n 21 [some (.ref 133), some (.int v1), some (.int v2), some (.int v3), some (.int v4), some (.int (nI v5)), some (.int (nI v6))] [] X := by
  refine ev_iload dX12_picksOf_21 rfl ?_
  refine ev_aload_n dX12_picksOf_23 rfl ?_
  refine ev_getS (q := 134) dX12_picksOf_24 fo_12_9 (by omega) lo_133 rfl (sh_133_0 hX (by omega)) (by decide) ?_
  refine ev_iconst (v := 4) dX12_picksOf_27 ki_4 ?_
  refine ev_iald dX12_picksOf_28 (by omega) ly_134 nIl_4 (by decide) ?_
  refine ev_icmpF (tgt := 98) dX12_picksOf_29 (by decide) c0 ?_
  refine ev_iload_n dX12_picksOf_32 rfl ?_
  refine ev_iload dX12_picksOf_33 rfl ?_
  refine e_Si (as := [.int v3, .int (nI v5)]) (rest := []) dX12_picksOf_35 vX12_has ml_12_76 stX12_has npX12_has (by decide) rfl (Nat.le_of_ble_eq_true rfl) (by omega) (t_X12_has (d := d - 1) (by omega) (by omega) hX c1) ?_
  refine ev_iload_n dX12_picksOf_38 rfl ?_
  refine ev_iconst (v := 1) dX12_picksOf_39 ki_1 ?_
  refine ev_icmpF (tgt := 47) dX12_picksOf_40 (by decide) c2 ?_
  refine ev_iconst (v := 1) dX12_picksOf_43 ki_1 ?_
  refine ev_goto (tgt := 48) dX12_picksOf_44 (by decide) ?_
  refine ev_icmpF (tgt := 98) dX12_picksOf_48 (by decide) (by show (1 : Int32) = 1; decide) ?_
  refine ev_iload dX12_picksOf_51 rfl ?_
  refine ev_aload_n dX12_picksOf_53 rfl ?_
  refine ev_getS (q := 140) dX12_picksOf_54 fo_12_28 (by omega) lo_133 rfl (sh_133_9 hX (by omega)) (by decide) ?_
  refine ev_bipush (v := 14) dX12_picksOf_57 kb_14 ?_
  refine ev_iload dX12_picksOf_59 rfl ?_
  refine ev_imul dX12_picksOf_61 ?_
  refine ev_iload dX12_picksOf_62 rfl ?_
  refine ev_iadd dX12_picksOf_64 ?_
  refine ev_iald dX12_picksOf_65 (by omega) ly_140 (by show (nI 14 * nI v5) + nI v6 = nI ((14 * v5) + v6); simp only [pk_mul, nI_add]) b0 ?_
  refine ev_ifF (tgt := 88) dX12_picksOf_66 (by decide) c3 ?_
  refine ev_aload_n dX12_picksOf_69 rfl ?_
  refine ev_getS (q := 134) dX12_picksOf_70 fo_12_9 (by omega) lo_133 rfl (sh_133_0 hX (by omega)) (by decide) ?_
  refine ev_iload dX12_picksOf_73 rfl ?_
  refine ev_iconst (v := 2) dX12_picksOf_75 ki_2 ?_
  refine e_Si (as := [.int (nI v6), .int 2]) (rest := [.ref 134, .int v4]) dX12_picksOf_76 vX12_ofPart ml_12_59 stX12_ofPart npX12_ofPart (by decide) rfl (Nat.le_of_ble_eq_true rfl) (by omega) (c_X12_ofPart (d := d - 1) (by omega) (by omega) hX ) ?_
  refine ev_iald dX12_picksOf_79 (by omega) ly_134 (by show (nI 10 + (nI 8 * nI v6)) + nI 2 = nI ((10 + (8 * v6)) + 2); simp only [pk_mul, nI_add]) b1 ?_
  refine ev_iload_n dX12_picksOf_80 rfl ?_
  refine ev_icmpF (tgt := 88) dX12_picksOf_81 (by decide) c4 ?_
  refine ev_iconst (v := 1) dX12_picksOf_84 ki_1 ?_
  refine ev_goto (tgt := 89) dX12_picksOf_85 (by decide) ?_
  refine ev_iadd dX12_picksOf_89 ?_
  refine ev_istore dX12_picksOf_90 (by decide) ?_
  refine ev_iinc (v := (nI v6) + 1) dX12_picksOf_92 rfl (by rw [show Int32.ofInt 1 = 1 from ki_1]) (by decide) ?_
  refine ev_goto (tgt := 21) dX12_picksOf_95 (by decide) ?_
  exact k
theorem bX12_picksOf_21_1 {g : GG} {d n : Nat} {post : Option Value → LX → Prop} {X : LX} (hd : 1 ≤ d) (hn : 146 ≤ n) (hX : Sh n X) {v1 : Int32} {v2 : Int32} {v3 : Int32} {v4 : Int32} {v5 : Nat} {v6 : Nat} (c0 : ¬ X 134 4 ≤ nI v6) (c1 : (v3 >>> ((nI v5) &&& 31)) &&& 1 = 1) (c2 : v2 = 1) (b0 : ((14 * v5) + v6) < 168) (c3 : ¬ X 140 ((14 * v5) + v6) ≤ 0) (b1 : ((10 + (8 * v6)) + 2) < 2156) (c4 : ¬ X 134 ((10 + (8 * v6)) + 2) = v1) (k : Ev g mX12_picksOf d n n post n 21 [some (.ref 133), some (.int v1), some (.int v2), some (.int v3), some (.int (v4 + 0)), some (.int (nI v5)), some (.int ((nI v6) + 1))] [] X) : Ev g mX12_picksOf d n n post n 21 [some (.ref 133), some (.int v1), some (.int v2), some (.int v3), some (.int v4), some (.int (nI v5)), some (.int (nI v6))] [] X := by
  refine ev_iload dX12_picksOf_21 rfl ?_
  refine ev_aload_n dX12_picksOf_23 rfl ?_
  refine ev_getS (q := 134) dX12_picksOf_24 fo_12_9 (by omega) lo_133 rfl (sh_133_0 hX (by omega)) (by decide) ?_
  refine ev_iconst (v := 4) dX12_picksOf_27 ki_4 ?_
  refine ev_iald dX12_picksOf_28 (by omega) ly_134 nIl_4 (by decide) ?_
  refine ev_icmpF (tgt := 98) dX12_picksOf_29 (by decide) c0 ?_
  refine ev_iload_n dX12_picksOf_32 rfl ?_
  refine ev_iload dX12_picksOf_33 rfl ?_
  refine e_Si (as := [.int v3, .int (nI v5)]) (rest := []) dX12_picksOf_35 vX12_has ml_12_76 stX12_has npX12_has (by decide) rfl (Nat.le_of_ble_eq_true rfl) (by omega) (t_X12_has (d := d - 1) (by omega) (by omega) hX c1) ?_
  refine ev_iload_n dX12_picksOf_38 rfl ?_
  refine ev_iconst (v := 1) dX12_picksOf_39 ki_1 ?_
  refine ev_icmpF (tgt := 47) dX12_picksOf_40 (by decide) c2 ?_
  refine ev_iconst (v := 1) dX12_picksOf_43 ki_1 ?_
  refine ev_goto (tgt := 48) dX12_picksOf_44 (by decide) ?_
  refine ev_icmpF (tgt := 98) dX12_picksOf_48 (by decide) (by show (1 : Int32) = 1; decide) ?_
  refine ev_iload dX12_picksOf_51 rfl ?_
  refine ev_aload_n dX12_picksOf_53 rfl ?_
  refine ev_getS (q := 140) dX12_picksOf_54 fo_12_28 (by omega) lo_133 rfl (sh_133_9 hX (by omega)) (by decide) ?_
  refine ev_bipush (v := 14) dX12_picksOf_57 kb_14 ?_
  refine ev_iload dX12_picksOf_59 rfl ?_
  refine ev_imul dX12_picksOf_61 ?_
  refine ev_iload dX12_picksOf_62 rfl ?_
  refine ev_iadd dX12_picksOf_64 ?_
  refine ev_iald dX12_picksOf_65 (by omega) ly_140 (by show (nI 14 * nI v5) + nI v6 = nI ((14 * v5) + v6); simp only [pk_mul, nI_add]) b0 ?_
  refine ev_ifF (tgt := 88) dX12_picksOf_66 (by decide) c3 ?_
  refine ev_aload_n dX12_picksOf_69 rfl ?_
  refine ev_getS (q := 134) dX12_picksOf_70 fo_12_9 (by omega) lo_133 rfl (sh_133_0 hX (by omega)) (by decide) ?_
  refine ev_iload dX12_picksOf_73 rfl ?_
  refine ev_iconst (v := 2) dX12_picksOf_75 ki_2 ?_
  refine e_Si (as := [.int (nI v6), .int 2]) (rest := [.ref 134, .int v4]) dX12_picksOf_76 vX12_ofPart ml_12_59 stX12_ofPart npX12_ofPart (by decide) rfl (Nat.le_of_ble_eq_true rfl) (by omega) (c_X12_ofPart (d := d - 1) (by omega) (by omega) hX ) ?_
  refine ev_iald dX12_picksOf_79 (by omega) ly_134 (by show (nI 10 + (nI 8 * nI v6)) + nI 2 = nI ((10 + (8 * v6)) + 2); simp only [pk_mul, nI_add]) b1 ?_
  refine ev_iload_n dX12_picksOf_80 rfl ?_
  refine ev_icmpT (tgt := 88) dX12_picksOf_81 (by decide) c4 ?_
  refine ev_iconst (v := 0) dX12_picksOf_88 ki_0 ?_
  refine ev_iadd dX12_picksOf_89 ?_
  refine ev_istore dX12_picksOf_90 (by decide) ?_
  refine ev_iinc (v := (nI v6) + 1) dX12_picksOf_92 rfl (by rw [show Int32.ofInt 1 = 1 from ki_1]) (by decide) ?_
  refine ev_goto (tgt := 21) dX12_picksOf_95 (by decide) ?_
  exact k
theorem bX12_picksOf_21_2 {g : GG} {d n : Nat} {post : Option Value → LX → Prop} {X : LX} (hd : 1 ≤ d) (hn : 146 ≤ n) (hX : Sh n X) {v1 : Int32} {v2 : Int32} {v3 : Int32} {v4 : Int32} {v5 : Nat} {v6 : Nat} (c0 : ¬ X 134 4 ≤ nI v6) (c1 : (v3 >>> ((nI v5) &&& 31)) &&& 1 = 1) (c2 : v2 = 1) (b0 : ((14 * v5) + v6) < 168) (c3 : X 140 ((14 * v5) + v6) ≤ 0) (k : Ev g mX12_picksOf d n n post n 21 [some (.ref 133), some (.int v1), some (.int v2), some (.int v3), some (.int (v4 + 0)), some (.int (nI v5)), some (.int ((nI v6) + 1))] [] X) : Ev g mX12_picksOf d n n post n 21 [some (.ref 133), some (.int v1), some (.int v2), some (.int v3), some (.int v4), some (.int (nI v5)), some (.int (nI v6))] [] X := by
  refine ev_iload dX12_picksOf_21 rfl ?_
  refine ev_aload_n dX12_picksOf_23 rfl ?_
  refine ev_getS (q := 134) dX12_picksOf_24 fo_12_9 (by omega) lo_133 rfl (sh_133_0 hX (by omega)) (by decide) ?_
  refine ev_iconst (v := 4) dX12_picksOf_27 ki_4 ?_
  refine ev_iald dX12_picksOf_28 (by omega) ly_134 nIl_4 (by decide) ?_
  refine ev_icmpF (tgt := 98) dX12_picksOf_29 (by decide) c0 ?_
  refine ev_iload_n dX12_picksOf_32 rfl ?_
  refine ev_iload dX12_picksOf_33 rfl ?_
  refine e_Si (as := [.int v3, .int (nI v5)]) (rest := []) dX12_picksOf_35 vX12_has ml_12_76 stX12_has npX12_has (by decide) rfl (Nat.le_of_ble_eq_true rfl) (by omega) (t_X12_has (d := d - 1) (by omega) (by omega) hX c1) ?_
  refine ev_iload_n dX12_picksOf_38 rfl ?_
  refine ev_iconst (v := 1) dX12_picksOf_39 ki_1 ?_
  refine ev_icmpF (tgt := 47) dX12_picksOf_40 (by decide) c2 ?_
  refine ev_iconst (v := 1) dX12_picksOf_43 ki_1 ?_
  refine ev_goto (tgt := 48) dX12_picksOf_44 (by decide) ?_
  refine ev_icmpF (tgt := 98) dX12_picksOf_48 (by decide) (by show (1 : Int32) = 1; decide) ?_
  refine ev_iload dX12_picksOf_51 rfl ?_
  refine ev_aload_n dX12_picksOf_53 rfl ?_
  refine ev_getS (q := 140) dX12_picksOf_54 fo_12_28 (by omega) lo_133 rfl (sh_133_9 hX (by omega)) (by decide) ?_
  refine ev_bipush (v := 14) dX12_picksOf_57 kb_14 ?_
  refine ev_iload dX12_picksOf_59 rfl ?_
  refine ev_imul dX12_picksOf_61 ?_
  refine ev_iload dX12_picksOf_62 rfl ?_
  refine ev_iadd dX12_picksOf_64 ?_
  refine ev_iald dX12_picksOf_65 (by omega) ly_140 (by show (nI 14 * nI v5) + nI v6 = nI ((14 * v5) + v6); simp only [pk_mul, nI_add]) b0 ?_
  refine ev_ifT (tgt := 88) dX12_picksOf_66 (by decide) c3 ?_
  refine ev_iconst (v := 0) dX12_picksOf_88 ki_0 ?_
  refine ev_iadd dX12_picksOf_89 ?_
  refine ev_istore dX12_picksOf_90 (by decide) ?_
  refine ev_iinc (v := (nI v6) + 1) dX12_picksOf_92 rfl (by rw [show Int32.ofInt 1 = 1 from ki_1]) (by decide) ?_
  refine ev_goto (tgt := 21) dX12_picksOf_95 (by decide) ?_
  exact k
theorem bX12_picksOf_21_3 {g : GG} {d n : Nat} {post : Option Value → LX → Prop} {X : LX} (hd : 1 ≤ d) (hn : 146 ≤ n) (hX : Sh n X) {v1 : Int32} {v2 : Int32} {v3 : Int32} {v4 : Int32} {v5 : Int32} {v6 : Int32} (c0 : ¬ X 134 4 ≤ v6) (c1 : (v3 >>> (v5 &&& 31)) &&& 1 = 1) (c2 : ¬ v2 = 1) (k : Ev g mX12_picksOf d n n post n 6 [some (.ref 133), some (.int v1), some (.int v2), some (.int v3), some (.int v4), some (.int (v5 + 1)), none] [] X) : Ev g mX12_picksOf d n n post n 21 [some (.ref 133), some (.int v1), some (.int v2), some (.int v3), some (.int v4), some (.int v5), some (.int v6)] [] X := by
  refine ev_iload dX12_picksOf_21 rfl ?_
  refine ev_aload_n dX12_picksOf_23 rfl ?_
  refine ev_getS (q := 134) dX12_picksOf_24 fo_12_9 (by omega) lo_133 rfl (sh_133_0 hX (by omega)) (by decide) ?_
  refine ev_iconst (v := 4) dX12_picksOf_27 ki_4 ?_
  refine ev_iald dX12_picksOf_28 (by omega) ly_134 nIl_4 (by decide) ?_
  refine ev_icmpF (tgt := 98) dX12_picksOf_29 (by decide) c0 ?_
  refine ev_iload_n dX12_picksOf_32 rfl ?_
  refine ev_iload dX12_picksOf_33 rfl ?_
  refine e_Si (as := [.int v3, .int v5]) (rest := []) dX12_picksOf_35 vX12_has ml_12_76 stX12_has npX12_has (by decide) rfl (Nat.le_of_ble_eq_true rfl) (by omega) (t_X12_has (d := d - 1) (by omega) (by omega) hX c1) ?_
  refine ev_iload_n dX12_picksOf_38 rfl ?_
  refine ev_iconst (v := 1) dX12_picksOf_39 ki_1 ?_
  refine ev_icmpT (tgt := 47) dX12_picksOf_40 (by decide) c2 ?_
  refine ev_iconst (v := 0) dX12_picksOf_47 ki_0 ?_
  refine ev_icmpT (tgt := 98) dX12_picksOf_48 (by decide) (by show ¬ (1 : Int32) = 0; decide) ?_
  refine ev_iinc (v := v5 + 1) dX12_picksOf_98 rfl (by rw [show Int32.ofInt 1 = 1 from ki_1]) (by decide) ?_
  refine ev_goto (tgt := 6) dX12_picksOf_101 (by decide) ?_
  refine ev_wk (L := [some (.ref 133), some (.int v1), some (.int v2), some (.int v3), some (.int v4), some (.int (v5 + 1)), some (.int v6)]) (L' := [some (.ref 133), some (.int v1), some (.int v2), some (.int v3), some (.int v4), some (.int (v5 + 1)), none]) (by simp [lwk]) ?_
  exact k
theorem bX12_picksOf_21_4 {g : GG} {d n : Nat} {post : Option Value → LX → Prop} {X : LX} (hd : 1 ≤ d) (hn : 146 ≤ n) (hX : Sh n X) {v1 : Int32} {v2 : Int32} {v3 : Int32} {v4 : Int32} {v5 : Int32} {v6 : Int32} (c0 : ¬ X 134 4 ≤ v6) (c1 : ¬ ((v3 >>> (v5 &&& 31)) &&& 1 = 1)) (c2 : v2 = 1) (k : Ev g mX12_picksOf d n n post n 6 [some (.ref 133), some (.int v1), some (.int v2), some (.int v3), some (.int v4), some (.int (v5 + 1)), none] [] X) : Ev g mX12_picksOf d n n post n 21 [some (.ref 133), some (.int v1), some (.int v2), some (.int v3), some (.int v4), some (.int v5), some (.int v6)] [] X := by
  refine ev_iload dX12_picksOf_21 rfl ?_
  refine ev_aload_n dX12_picksOf_23 rfl ?_
  refine ev_getS (q := 134) dX12_picksOf_24 fo_12_9 (by omega) lo_133 rfl (sh_133_0 hX (by omega)) (by decide) ?_
  refine ev_iconst (v := 4) dX12_picksOf_27 ki_4 ?_
  refine ev_iald dX12_picksOf_28 (by omega) ly_134 nIl_4 (by decide) ?_
  refine ev_icmpF (tgt := 98) dX12_picksOf_29 (by decide) c0 ?_
  refine ev_iload_n dX12_picksOf_32 rfl ?_
  refine ev_iload dX12_picksOf_33 rfl ?_
  refine e_Si (as := [.int v3, .int v5]) (rest := []) dX12_picksOf_35 vX12_has ml_12_76 stX12_has npX12_has (by decide) rfl (Nat.le_of_ble_eq_true rfl) (by omega) (f_X12_has (d := d - 1) (by omega) (by omega) hX c1) ?_
  refine ev_iload_n dX12_picksOf_38 rfl ?_
  refine ev_iconst (v := 1) dX12_picksOf_39 ki_1 ?_
  refine ev_icmpF (tgt := 47) dX12_picksOf_40 (by decide) c2 ?_
  refine ev_iconst (v := 1) dX12_picksOf_43 ki_1 ?_
  refine ev_goto (tgt := 48) dX12_picksOf_44 (by decide) ?_
  refine ev_icmpT (tgt := 98) dX12_picksOf_48 (by decide) (by show ¬ (0 : Int32) = 1; decide) ?_
  refine ev_iinc (v := v5 + 1) dX12_picksOf_98 rfl (by rw [show Int32.ofInt 1 = 1 from ki_1]) (by decide) ?_
  refine ev_goto (tgt := 6) dX12_picksOf_101 (by decide) ?_
  refine ev_wk (L := [some (.ref 133), some (.int v1), some (.int v2), some (.int v3), some (.int v4), some (.int (v5 + 1)), some (.int v6)]) (L' := [some (.ref 133), some (.int v1), some (.int v2), some (.int v3), some (.int v4), some (.int (v5 + 1)), none]) (by simp [lwk]) ?_
  exact k
theorem bX12_picksOf_21_5 {g : GG} {d n : Nat} {post : Option Value → LX → Prop} {X : LX} (hd : 1 ≤ d) (hn : 146 ≤ n) (hX : Sh n X) {v1 : Int32} {v2 : Int32} {v3 : Int32} {v4 : Int32} {v5 : Nat} {v6 : Nat} (c0 : ¬ X 134 4 ≤ nI v6) (c1 : ¬ ((v3 >>> ((nI v5) &&& 31)) &&& 1 = 1)) (c2 : ¬ v2 = 1) (b0 : ((14 * v5) + v6) < 168) (c3 : ¬ X 140 ((14 * v5) + v6) ≤ 0) (b1 : ((10 + (8 * v6)) + 2) < 2156) (c4 : X 134 ((10 + (8 * v6)) + 2) = v1) (k : Ev g mX12_picksOf d n n post n 21 [some (.ref 133), some (.int v1), some (.int v2), some (.int v3), some (.int (v4 + 1)), some (.int (nI v5)), some (.int ((nI v6) + 1))] [] X) : Ev g mX12_picksOf d n n post n 21 [some (.ref 133), some (.int v1), some (.int v2), some (.int v3), some (.int v4), some (.int (nI v5)), some (.int (nI v6))] [] X := by
  refine ev_iload dX12_picksOf_21 rfl ?_
  refine ev_aload_n dX12_picksOf_23 rfl ?_
  refine ev_getS (q := 134) dX12_picksOf_24 fo_12_9 (by omega) lo_133 rfl (sh_133_0 hX (by omega)) (by decide) ?_
  refine ev_iconst (v := 4) dX12_picksOf_27 ki_4 ?_
  refine ev_iald dX12_picksOf_28 (by omega) ly_134 nIl_4 (by decide) ?_
  refine ev_icmpF (tgt := 98) dX12_picksOf_29 (by decide) c0 ?_
  refine ev_iload_n dX12_picksOf_32 rfl ?_
  refine ev_iload dX12_picksOf_33 rfl ?_
  refine e_Si (as := [.int v3, .int (nI v5)]) (rest := []) dX12_picksOf_35 vX12_has ml_12_76 stX12_has npX12_has (by decide) rfl (Nat.le_of_ble_eq_true rfl) (by omega) (f_X12_has (d := d - 1) (by omega) (by omega) hX c1) ?_
  refine ev_iload_n dX12_picksOf_38 rfl ?_
  refine ev_iconst (v := 1) dX12_picksOf_39 ki_1 ?_
  refine ev_icmpT (tgt := 47) dX12_picksOf_40 (by decide) c2 ?_
  refine ev_iconst (v := 0) dX12_picksOf_47 ki_0 ?_
  refine ev_icmpF (tgt := 98) dX12_picksOf_48 (by decide) (by show (0 : Int32) = 0; decide) ?_
  refine ev_iload dX12_picksOf_51 rfl ?_
  refine ev_aload_n dX12_picksOf_53 rfl ?_
  refine ev_getS (q := 140) dX12_picksOf_54 fo_12_28 (by omega) lo_133 rfl (sh_133_9 hX (by omega)) (by decide) ?_
  refine ev_bipush (v := 14) dX12_picksOf_57 kb_14 ?_
  refine ev_iload dX12_picksOf_59 rfl ?_
  refine ev_imul dX12_picksOf_61 ?_
  refine ev_iload dX12_picksOf_62 rfl ?_
  refine ev_iadd dX12_picksOf_64 ?_
  refine ev_iald dX12_picksOf_65 (by omega) ly_140 (by show (nI 14 * nI v5) + nI v6 = nI ((14 * v5) + v6); simp only [pk_mul, nI_add]) b0 ?_
  refine ev_ifF (tgt := 88) dX12_picksOf_66 (by decide) c3 ?_
  refine ev_aload_n dX12_picksOf_69 rfl ?_
  refine ev_getS (q := 134) dX12_picksOf_70 fo_12_9 (by omega) lo_133 rfl (sh_133_0 hX (by omega)) (by decide) ?_
  refine ev_iload dX12_picksOf_73 rfl ?_
  refine ev_iconst (v := 2) dX12_picksOf_75 ki_2 ?_
  refine e_Si (as := [.int (nI v6), .int 2]) (rest := [.ref 134, .int v4]) dX12_picksOf_76 vX12_ofPart ml_12_59 stX12_ofPart npX12_ofPart (by decide) rfl (Nat.le_of_ble_eq_true rfl) (by omega) (c_X12_ofPart (d := d - 1) (by omega) (by omega) hX ) ?_
  refine ev_iald dX12_picksOf_79 (by omega) ly_134 (by show (nI 10 + (nI 8 * nI v6)) + nI 2 = nI ((10 + (8 * v6)) + 2); simp only [pk_mul, nI_add]) b1 ?_
  refine ev_iload_n dX12_picksOf_80 rfl ?_
  refine ev_icmpF (tgt := 88) dX12_picksOf_81 (by decide) c4 ?_
  refine ev_iconst (v := 1) dX12_picksOf_84 ki_1 ?_
  refine ev_goto (tgt := 89) dX12_picksOf_85 (by decide) ?_
  refine ev_iadd dX12_picksOf_89 ?_
  refine ev_istore dX12_picksOf_90 (by decide) ?_
  refine ev_iinc (v := (nI v6) + 1) dX12_picksOf_92 rfl (by rw [show Int32.ofInt 1 = 1 from ki_1]) (by decide) ?_
  refine ev_goto (tgt := 21) dX12_picksOf_95 (by decide) ?_
  exact k
theorem bX12_picksOf_21_6 {g : GG} {d n : Nat} {post : Option Value → LX → Prop} {X : LX} (hd : 1 ≤ d) (hn : 146 ≤ n) (hX : Sh n X) {v1 : Int32} {v2 : Int32} {v3 : Int32} {v4 : Int32} {v5 : Nat} {v6 : Nat} (c0 : ¬ X 134 4 ≤ nI v6) (c1 : ¬ ((v3 >>> ((nI v5) &&& 31)) &&& 1 = 1)) (c2 : ¬ v2 = 1) (b0 : ((14 * v5) + v6) < 168) (c3 : ¬ X 140 ((14 * v5) + v6) ≤ 0) (b1 : ((10 + (8 * v6)) + 2) < 2156) (c4 : ¬ X 134 ((10 + (8 * v6)) + 2) = v1) (k : Ev g mX12_picksOf d n n post n 21 [some (.ref 133), some (.int v1), some (.int v2), some (.int v3), some (.int (v4 + 0)), some (.int (nI v5)), some (.int ((nI v6) + 1))] [] X) : Ev g mX12_picksOf d n n post n 21 [some (.ref 133), some (.int v1), some (.int v2), some (.int v3), some (.int v4), some (.int (nI v5)), some (.int (nI v6))] [] X := by
  refine ev_iload dX12_picksOf_21 rfl ?_
  refine ev_aload_n dX12_picksOf_23 rfl ?_
  refine ev_getS (q := 134) dX12_picksOf_24 fo_12_9 (by omega) lo_133 rfl (sh_133_0 hX (by omega)) (by decide) ?_
  refine ev_iconst (v := 4) dX12_picksOf_27 ki_4 ?_
  refine ev_iald dX12_picksOf_28 (by omega) ly_134 nIl_4 (by decide) ?_
  refine ev_icmpF (tgt := 98) dX12_picksOf_29 (by decide) c0 ?_
  refine ev_iload_n dX12_picksOf_32 rfl ?_
  refine ev_iload dX12_picksOf_33 rfl ?_
  refine e_Si (as := [.int v3, .int (nI v5)]) (rest := []) dX12_picksOf_35 vX12_has ml_12_76 stX12_has npX12_has (by decide) rfl (Nat.le_of_ble_eq_true rfl) (by omega) (f_X12_has (d := d - 1) (by omega) (by omega) hX c1) ?_
  refine ev_iload_n dX12_picksOf_38 rfl ?_
  refine ev_iconst (v := 1) dX12_picksOf_39 ki_1 ?_
  refine ev_icmpT (tgt := 47) dX12_picksOf_40 (by decide) c2 ?_
  refine ev_iconst (v := 0) dX12_picksOf_47 ki_0 ?_
  refine ev_icmpF (tgt := 98) dX12_picksOf_48 (by decide) (by show (0 : Int32) = 0; decide) ?_
  refine ev_iload dX12_picksOf_51 rfl ?_
  refine ev_aload_n dX12_picksOf_53 rfl ?_
  refine ev_getS (q := 140) dX12_picksOf_54 fo_12_28 (by omega) lo_133 rfl (sh_133_9 hX (by omega)) (by decide) ?_
  refine ev_bipush (v := 14) dX12_picksOf_57 kb_14 ?_
  refine ev_iload dX12_picksOf_59 rfl ?_
  refine ev_imul dX12_picksOf_61 ?_
  refine ev_iload dX12_picksOf_62 rfl ?_
  refine ev_iadd dX12_picksOf_64 ?_
  refine ev_iald dX12_picksOf_65 (by omega) ly_140 (by show (nI 14 * nI v5) + nI v6 = nI ((14 * v5) + v6); simp only [pk_mul, nI_add]) b0 ?_
  refine ev_ifF (tgt := 88) dX12_picksOf_66 (by decide) c3 ?_
  refine ev_aload_n dX12_picksOf_69 rfl ?_
  refine ev_getS (q := 134) dX12_picksOf_70 fo_12_9 (by omega) lo_133 rfl (sh_133_0 hX (by omega)) (by decide) ?_
  refine ev_iload dX12_picksOf_73 rfl ?_
  refine ev_iconst (v := 2) dX12_picksOf_75 ki_2 ?_
  refine e_Si (as := [.int (nI v6), .int 2]) (rest := [.ref 134, .int v4]) dX12_picksOf_76 vX12_ofPart ml_12_59 stX12_ofPart npX12_ofPart (by decide) rfl (Nat.le_of_ble_eq_true rfl) (by omega) (c_X12_ofPart (d := d - 1) (by omega) (by omega) hX ) ?_
  refine ev_iald dX12_picksOf_79 (by omega) ly_134 (by show (nI 10 + (nI 8 * nI v6)) + nI 2 = nI ((10 + (8 * v6)) + 2); simp only [pk_mul, nI_add]) b1 ?_
  refine ev_iload_n dX12_picksOf_80 rfl ?_
  refine ev_icmpT (tgt := 88) dX12_picksOf_81 (by decide) c4 ?_
  refine ev_iconst (v := 0) dX12_picksOf_88 ki_0 ?_
  refine ev_iadd dX12_picksOf_89 ?_
  refine ev_istore dX12_picksOf_90 (by decide) ?_
  refine ev_iinc (v := (nI v6) + 1) dX12_picksOf_92 rfl (by rw [show Int32.ofInt 1 = 1 from ki_1]) (by decide) ?_
  refine ev_goto (tgt := 21) dX12_picksOf_95 (by decide) ?_
  exact k
theorem bX12_picksOf_21_7 {g : GG} {d n : Nat} {post : Option Value → LX → Prop} {X : LX} (hd : 1 ≤ d) (hn : 146 ≤ n) (hX : Sh n X) {v1 : Int32} {v2 : Int32} {v3 : Int32} {v4 : Int32} {v5 : Nat} {v6 : Nat} (c0 : ¬ X 134 4 ≤ nI v6) (c1 : ¬ ((v3 >>> ((nI v5) &&& 31)) &&& 1 = 1)) (c2 : ¬ v2 = 1) (b0 : ((14 * v5) + v6) < 168) (c3 : X 140 ((14 * v5) + v6) ≤ 0) (k : Ev g mX12_picksOf d n n post n 21 [some (.ref 133), some (.int v1), some (.int v2), some (.int v3), some (.int (v4 + 0)), some (.int (nI v5)), some (.int ((nI v6) + 1))] [] X) : Ev g mX12_picksOf d n n post n 21 [some (.ref 133), some (.int v1), some (.int v2), some (.int v3), some (.int v4), some (.int (nI v5)), some (.int (nI v6))] [] X := by
  refine ev_iload dX12_picksOf_21 rfl ?_
  refine ev_aload_n dX12_picksOf_23 rfl ?_
  refine ev_getS (q := 134) dX12_picksOf_24 fo_12_9 (by omega) lo_133 rfl (sh_133_0 hX (by omega)) (by decide) ?_
  refine ev_iconst (v := 4) dX12_picksOf_27 ki_4 ?_
  refine ev_iald dX12_picksOf_28 (by omega) ly_134 nIl_4 (by decide) ?_
  refine ev_icmpF (tgt := 98) dX12_picksOf_29 (by decide) c0 ?_
  refine ev_iload_n dX12_picksOf_32 rfl ?_
  refine ev_iload dX12_picksOf_33 rfl ?_
  refine e_Si (as := [.int v3, .int (nI v5)]) (rest := []) dX12_picksOf_35 vX12_has ml_12_76 stX12_has npX12_has (by decide) rfl (Nat.le_of_ble_eq_true rfl) (by omega) (f_X12_has (d := d - 1) (by omega) (by omega) hX c1) ?_
  refine ev_iload_n dX12_picksOf_38 rfl ?_
  refine ev_iconst (v := 1) dX12_picksOf_39 ki_1 ?_
  refine ev_icmpT (tgt := 47) dX12_picksOf_40 (by decide) c2 ?_
  refine ev_iconst (v := 0) dX12_picksOf_47 ki_0 ?_
  refine ev_icmpF (tgt := 98) dX12_picksOf_48 (by decide) (by show (0 : Int32) = 0; decide) ?_
  refine ev_iload dX12_picksOf_51 rfl ?_
  refine ev_aload_n dX12_picksOf_53 rfl ?_
  refine ev_getS (q := 140) dX12_picksOf_54 fo_12_28 (by omega) lo_133 rfl (sh_133_9 hX (by omega)) (by decide) ?_
  refine ev_bipush (v := 14) dX12_picksOf_57 kb_14 ?_
  refine ev_iload dX12_picksOf_59 rfl ?_
  refine ev_imul dX12_picksOf_61 ?_
  refine ev_iload dX12_picksOf_62 rfl ?_
  refine ev_iadd dX12_picksOf_64 ?_
  refine ev_iald dX12_picksOf_65 (by omega) ly_140 (by show (nI 14 * nI v5) + nI v6 = nI ((14 * v5) + v6); simp only [pk_mul, nI_add]) b0 ?_
  refine ev_ifT (tgt := 88) dX12_picksOf_66 (by decide) c3 ?_
  refine ev_iconst (v := 0) dX12_picksOf_88 ki_0 ?_
  refine ev_iadd dX12_picksOf_89 ?_
  refine ev_istore dX12_picksOf_90 (by decide) ?_
  refine ev_iinc (v := (nI v6) + 1) dX12_picksOf_92 rfl (by rw [show Int32.ofInt 1 = 1 from ki_1]) (by decide) ?_
  refine ev_goto (tgt := 21) dX12_picksOf_95 (by decide) ?_
  exact k
theorem bX12_picksOf_21_8 {g : GG} {d n : Nat} {post : Option Value → LX → Prop} {X : LX} (hn : 146 ≤ n) (hX : Sh n X) {v1 : Int32} {v2 : Int32} {v3 : Int32} {v4 : Int32} {v5 : Int32} {v6 : Int32} (c0 : X 134 4 ≤ v6) (k : Ev g mX12_picksOf d n n post n 6 [some (.ref 133), some (.int v1), some (.int v2), some (.int v3), some (.int v4), some (.int (v5 + 1)), none] [] X) : Ev g mX12_picksOf d n n post n 21 [some (.ref 133), some (.int v1), some (.int v2), some (.int v3), some (.int v4), some (.int v5), some (.int v6)] [] X := by
  refine ev_iload dX12_picksOf_21 rfl ?_
  refine ev_aload_n dX12_picksOf_23 rfl ?_
  refine ev_getS (q := 134) dX12_picksOf_24 fo_12_9 (by omega) lo_133 rfl (sh_133_0 hX (by omega)) (by decide) ?_
  refine ev_iconst (v := 4) dX12_picksOf_27 ki_4 ?_
  refine ev_iald dX12_picksOf_28 (by omega) ly_134 nIl_4 (by decide) ?_
  refine ev_icmpT (tgt := 98) dX12_picksOf_29 (by decide) c0 ?_
  refine ev_iinc (v := v5 + 1) dX12_picksOf_98 rfl (by rw [show Int32.ofInt 1 = 1 from ki_1]) (by decide) ?_
  refine ev_goto (tgt := 6) dX12_picksOf_101 (by decide) ?_
  refine ev_wk (L := [some (.ref 133), some (.int v1), some (.int v2), some (.int v3), some (.int v4), some (.int (v5 + 1)), some (.int v6)]) (L' := [some (.ref 133), some (.int v1), some (.int v2), some (.int v3), some (.int v4), some (.int (v5 + 1)), none]) (by simp [lwk]) ?_
  exact k
theorem bX12_mostPicks_0_0 {g : GG} {d n : Nat} {post : Option Value → LX → Prop} {X : LX} (hn : 146 ≤ n) (hX : Sh n X) {v1 : Int32} (k : Ev g mX12_mostPicks d n n post n 4 [some (.ref 133), some (.int v1), some (.int 0), some (.int 0)] [] X) : Ev g mX12_mostPicks d n n post n 0 [some (.ref 133), some (.int v1), none, none] [] X := by
  refine ev_iconst (v := 0) dX12_mostPicks_0 ki_0 ?_
  refine ev_istore_n dX12_mostPicks_1 (by decide) ?_
  refine ev_iconst (v := 0) dX12_mostPicks_2 ki_0 ?_
  refine ev_istore_n dX12_mostPicks_3 (by decide) ?_
  exact k
theorem bX12_mostPicks_4_0 {g : GG} {d n : Nat} {post : Option Value → LX → Prop} {X : LX} (hn : 146 ≤ n) (hX : Sh n X) {v1 : Int32} {v2 : Int32} {v3 : Int32} (c0 : ¬ 8 ≤ v3) (k : Ev g mX12_mostPicks d n n post n 19 [some (.ref 133), some (.int v1), some (.int v2), some (.int v3)] [.int v1, .int (v3 - v3 / 2 * 2), .int (v3 / 2), .ref 133, .int v2] X) : Ev g mX12_mostPicks d n n post n 4 [some (.ref 133), some (.int v1), some (.int v2), some (.int v3)] [] X := by
  refine ev_iload_n dX12_mostPicks_4 rfl ?_
  refine ev_bipush (v := 8) dX12_mostPicks_5 kb_8 ?_
  refine ev_icmpF (tgt := 32) dX12_mostPicks_7 (by decide) c0 ?_
  refine ev_iload_n dX12_mostPicks_10 rfl ?_
  refine ev_aload_n dX12_mostPicks_11 rfl ?_
  refine ev_iload_n dX12_mostPicks_12 rfl ?_
  refine ev_iconst (v := 2) dX12_mostPicks_13 ki_2 ?_
  refine ev_idiv dX12_mostPicks_14 (by decide) ?_
  refine ev_iload_n dX12_mostPicks_15 rfl ?_
  refine ev_iconst (v := 2) dX12_mostPicks_16 ki_2 ?_
  refine ev_irem dX12_mostPicks_17 (by decide) ?_
  refine ev_iload_n dX12_mostPicks_18 rfl ?_
  exact k
theorem bX12_mostPicks_4_1 {g : GG} {d n : Nat} {post : Option Value → LX → Prop} {X : LX} (hn : 146 ≤ n) (hX : Sh n X) {v1 : Int32} {v2 : Int32} {v3 : Int32} (c0 : 8 ≤ v3) (hp : post (some (.int v2)) X) : Ev g mX12_mostPicks d n n post n 4 [some (.ref 133), some (.int v1), some (.int v2), some (.int v3)] [] X := by
  refine ev_iload_n dX12_mostPicks_4 rfl ?_
  refine ev_bipush (v := 8) dX12_mostPicks_5 kb_8 ?_
  refine ev_icmpT (tgt := 32) dX12_mostPicks_7 (by decide) c0 ?_
  refine ev_iload_n dX12_mostPicks_32 rfl ?_
  exact ev_iret dX12_mostPicks_33 rfl rfl hp
theorem bX12_mostPicks_22_0 {g : GG} {d n : Nat} {post : Option Value → LX → Prop} {X : LX} (hd : 1 ≤ d) (hn : 146 ≤ n) (hX : Sh n X) {v1 : Int32} {v2 : Int32} {v3 : Int32} {s0 : Int32} {s1 : Int32} (k : Ev g mX12_mostPicks d n n post n 4 [some (.ref 133), some (.int v1), some (.int (if s0 < s1 then s1 else s0)), some (.int (v3 + 1))] [] X) : Ev g mX12_mostPicks d n n post n 22 [some (.ref 133), some (.int v1), some (.int v2), some (.int v3)] [.int s1, .int s0] X := by
  refine e_max dX12_mostPicks_22 mm_12_81 mx_st mx_in mx_co (Nat.le_of_ble_eq_true rfl) (by omega) ?_
  refine ev_istore_n dX12_mostPicks_25 (by decide) ?_
  refine ev_iinc (v := v3 + 1) dX12_mostPicks_26 rfl (by rw [show Int32.ofInt 1 = 1 from ki_1]) (by decide) ?_
  refine ev_goto (tgt := 4) dX12_mostPicks_29 (by decide) ?_
  exact k
theorem bX10_gather_0_0 {g : GG} {d n : Nat} {post : Option Value → LX → Prop} {X : LX} (hn : 146 ≤ n) (hX : Sh n X)  (k : Ev g mX10_gather d n n post n 2 [some (.ref 110), some (.int 0), none, none] [] X) : Ev g mX10_gather d n n post n 0 [some (.ref 110), none, none, none] [] X := by
  refine ev_iconst (v := 0) dX10_gather_0 ki_0 ?_
  refine ev_istore_n dX10_gather_1 (by decide) ?_
  exact k
theorem bX10_gather_2_0 {g : GG} {d n : Nat} {post : Option Value → LX → Prop} {X : LX} (hd : 4 ≤ d) (hn : 146 ≤ n) (hX : Sh n X) {v1 : Nat} (c0 : ¬ X 37 0 ≤ nI v1) (c1 : v1 < 12) (c2 : okK X) (b0 : v1 < 12) (k : Ev g mX10_gather d n n post n 37 [some (.ref 110), some (.int (nI v1)), some (.int (cBox X v1)), some (.int 0)] [] (lx_row X (111 + 1 + v1) (fillTo (X (111 + 1 + v1)) 0 4))) : Ev g mX10_gather d n n post n 2 [some (.ref 110), some (.int (nI v1)), none, none] [] X := by
  refine ev_iload_n dX10_gather_2 rfl ?_
  refine ev_aload_n dX10_gather_3 rfl ?_
  refine ev_getS (q := 1) dX10_gather_4 fo_10_19 (by omega) lo_110 rfl (sh_110_0 hX (by omega)) (by decide) ?_
  refine ev_getS (q := 37) dX10_gather_7 fo_10_23 (by omega) lo_1 rfl (sh_1_2 hX (by omega)) (by decide) ?_
  refine ev_getI dX10_gather_10 fo_10_29 (by omega) lo_37 rfl ?_
  refine ev_icmpF (tgt := 99) dX10_gather_13 (by decide) c0 ?_
  refine ev_aload_n dX10_gather_16 rfl ?_
  refine ev_getS (q := 1) dX10_gather_17 fo_10_19 (by omega) lo_110 rfl (sh_110_0 hX (by omega)) (by decide) ?_
  refine ev_iload_n dX10_gather_20 rfl ?_
  refine e_Vi (as := [.int (nI v1)]) (rest := []) dX10_gather_21 vX1_boxToday ml_10_35 isX1_boxToday seX1_boxToday npX1_boxToday (rc_1 (by omega)) (by decide) rfl (Nat.le_of_ble_eq_true rfl) (by omega) (k_X1_boxToday (d := d - 1) (by omega) (by omega) hX c1 c2) ?_
  refine ev_istore_n dX10_gather_24 (by decide) ?_
  refine ev_aload_n dX10_gather_25 rfl ?_
  refine ev_getS (q := 111) dX10_gather_26 fo_10_11 (by omega) lo_110 rfl (sh_110_1 hX (by omega)) (by decide) ?_
  refine ev_iload_n dX10_gather_29 rfl ?_
  refine ev_aald (q := 111 + 1 + v1) dX10_gather_30 (by omega) (Or.inl ly_111) rfl b0 (hX.2 111 v1 (by omega) (Or.inl (by rw [ly_111])) (by rw [ly_111]; exact b0)) (by first | omega | (have := LY_l ly_111; have := LY_lt (show (LY 111).1 < 99 by rw [ly_111]; exact (by decide : 2 < 99)); omega)) ?_
  refine ev_iconst (v := 0) dX10_gather_31 ki_0 ?_
  refine e_Sv (as := [.ref (111 + 1 + v1), .int 0]) (rest := []) dX10_gather_32 vJ7_fill_53178 ml_10_39 stJ7_fill_53178 npJ7_fill_53178 (by decide) rfl (Nat.le_of_ble_eq_true rfl) (by omega) (c_J7_fill_53178 (d := d - 1) (by omega) (by omega) hX (by have := b0; omega) (lyr_111 _ b0)) ?_
  have hX1 : Sh _ (lx_row X (111 + 1 + v1) (fillTo (X (111 + 1 + v1)) 0 4)) := Sh.row hX (by rw [(lyr_111 _ b0)]; exact (by decide : 0 < 2))
  refine ev_iconst (v := 0) dX10_gather_35 ki_0 ?_
  refine ev_istore_n dX10_gather_36 (by decide) ?_
  exact k
theorem bX10_gather_2_1 {g : GG} {d n : Nat} {post : Option Value → LX → Prop} {X : LX} (hn : 146 ≤ n) (hX : Sh n X) {v1 : Int32} (c0 : X 37 0 ≤ v1) (hp : post none X) : Ev g mX10_gather d n n post n 2 [some (.ref 110), some (.int v1), none, none] [] X := by
  refine ev_iload_n dX10_gather_2 rfl ?_
  refine ev_aload_n dX10_gather_3 rfl ?_
  refine ev_getS (q := 1) dX10_gather_4 fo_10_19 (by omega) lo_110 rfl (sh_110_0 hX (by omega)) (by decide) ?_
  refine ev_getS (q := 37) dX10_gather_7 fo_10_23 (by omega) lo_1 rfl (sh_1_2 hX (by omega)) (by decide) ?_
  refine ev_getI dX10_gather_10 fo_10_29 (by omega) lo_37 rfl ?_
  refine ev_icmpT (tgt := 99) dX10_gather_13 (by decide) c0 ?_
  exact ev_ret dX10_gather_99 rfl hp
theorem bX10_gather_37_0 {g : GG} {d n : Nat} {post : Option Value → LX → Prop} {X : LX} (hd : 2 ≤ d) (hn : 146 ≤ n) (hX : Sh n X) {v1 : Nat} {v2 : Int32} {v3 : Nat} {j1 : Nat} (c0 : ¬ X 2 0 ≤ nI v3) (c1 : v1 < 12) (c2 : v3 < 14) (c3 : num X 23 0 10) (c4 : ¬ cNeed X v1 v2 v3 ≤ 0) (b0 : v1 < 12) (b1 : v3 < 14) (hj1 : X 6 v3 = nI j1) (b2 : j1 < 4) (k : Ev g mX10_gather d n n post n 37 [some (.ref 110), some (.int (nI v1)), some (.int v2), some (.int ((nI v3) + 1))] [] (lx_up X (111 + 1 + v1) j1 ((X (111 + 1 + v1) j1) + 1))) : Ev g mX10_gather d n n post n 37 [some (.ref 110), some (.int (nI v1)), some (.int v2), some (.int (nI v3))] [] X := by
  refine ev_iload_n dX10_gather_37 rfl ?_
  refine ev_aload_n dX10_gather_38 rfl ?_
  refine ev_getS (q := 1) dX10_gather_39 fo_10_19 (by omega) lo_110 rfl (sh_110_0 hX (by omega)) (by decide) ?_
  refine ev_getS (q := 2) dX10_gather_42 fo_10_45 (by omega) lo_1 rfl (sh_1_0 hX (by omega)) (by decide) ?_
  refine ev_getI dX10_gather_45 fo_10_49 (by omega) lo_2 rfl ?_
  refine ev_icmpF (tgt := 93) dX10_gather_48 (by decide) c0 ?_
  refine ev_aload_n dX10_gather_51 rfl ?_
  refine ev_getS (q := 1) dX10_gather_52 fo_10_19 (by omega) lo_110 rfl (sh_110_0 hX (by omega)) (by decide) ?_
  refine ev_iload_n dX10_gather_55 rfl ?_
  refine ev_iload_n dX10_gather_56 rfl ?_
  refine ev_iload_n dX10_gather_57 rfl ?_
  refine e_Vi (as := [.int (nI v1), .int v2, .int (nI v3)]) (rest := []) dX10_gather_58 vX1_needOf ml_10_52 isX1_needOf seX1_needOf npX1_needOf (rc_1 (by omega)) (by decide) rfl (Nat.le_of_ble_eq_true rfl) (by omega) (k_X1_needOf (d := d - 1) (by omega) (by omega) hX c1 c2 c3) ?_
  refine ev_ifF (tgt := 87) dX10_gather_61 (by decide) c4 ?_
  refine ev_aload_n dX10_gather_64 rfl ?_
  refine ev_getS (q := 111) dX10_gather_65 fo_10_11 (by omega) lo_110 rfl (sh_110_1 hX (by omega)) (by decide) ?_
  refine ev_iload_n dX10_gather_68 rfl ?_
  refine ev_aald (q := 111 + 1 + v1) dX10_gather_69 (by omega) (Or.inl ly_111) rfl b0 (hX.2 111 v1 (by omega) (Or.inl (by rw [ly_111])) (by rw [ly_111]; exact b0)) (by first | omega | (have := LY_l ly_111; have := LY_lt (show (LY 111).1 < 99 by rw [ly_111]; exact (by decide : 2 < 99)); omega)) ?_
  refine ev_aload_n dX10_gather_70 rfl ?_
  refine ev_getS (q := 1) dX10_gather_71 fo_10_19 (by omega) lo_110 rfl (sh_110_0 hX (by omega)) (by decide) ?_
  refine ev_getS (q := 2) dX10_gather_74 fo_10_45 (by omega) lo_1 rfl (sh_1_0 hX (by omega)) (by decide) ?_
  refine ev_getS (q := 6) dX10_gather_77 fo_10_56 (by omega) lo_2 rfl (sh_2_4 hX (by omega)) (by decide) ?_
  refine ev_iload_n dX10_gather_80 rfl ?_
  refine ev_iald dX10_gather_81 (by omega) ly_6 rfl b1 ?_
  refine ev_dup2 dX10_gather_82 rfl rfl ?_
  refine ev_iald dX10_gather_83 (by have := b0; omega) (lyr_111 _ b0) hj1 b2 ?_
  refine ev_iconst (v := 1) dX10_gather_84 ki_1 ?_
  refine ev_iadd dX10_gather_85 ?_
  refine ev_iast dX10_gather_86 (by have := b0; omega) (lyr_111 _ b0) hj1 b2 ?_
  have hX1 : Sh _ (lx_up X (111 + 1 + v1) j1 ((X (111 + 1 + v1) j1) + 1)) := Sh.upA hX (by rw [(lyr_111 _ b0)]; exact (by decide : 0 < 2))
  refine ev_iinc (v := (nI v3) + 1) dX10_gather_87 rfl (by rw [show Int32.ofInt 1 = 1 from ki_1]) (by decide) ?_
  refine ev_goto (tgt := 37) dX10_gather_90 (by decide) ?_
  exact k
theorem bX10_gather_37_1 {g : GG} {d n : Nat} {post : Option Value → LX → Prop} {X : LX} (hd : 2 ≤ d) (hn : 146 ≤ n) (hX : Sh n X) {v1 : Nat} {v2 : Int32} {v3 : Nat} (c0 : ¬ X 2 0 ≤ nI v3) (c1 : v1 < 12) (c2 : v3 < 14) (c3 : num X 23 0 10) (c4 : cNeed X v1 v2 v3 ≤ 0) (k : Ev g mX10_gather d n n post n 37 [some (.ref 110), some (.int (nI v1)), some (.int v2), some (.int ((nI v3) + 1))] [] X) : Ev g mX10_gather d n n post n 37 [some (.ref 110), some (.int (nI v1)), some (.int v2), some (.int (nI v3))] [] X := by
  refine ev_iload_n dX10_gather_37 rfl ?_
  refine ev_aload_n dX10_gather_38 rfl ?_
  refine ev_getS (q := 1) dX10_gather_39 fo_10_19 (by omega) lo_110 rfl (sh_110_0 hX (by omega)) (by decide) ?_
  refine ev_getS (q := 2) dX10_gather_42 fo_10_45 (by omega) lo_1 rfl (sh_1_0 hX (by omega)) (by decide) ?_
  refine ev_getI dX10_gather_45 fo_10_49 (by omega) lo_2 rfl ?_
  refine ev_icmpF (tgt := 93) dX10_gather_48 (by decide) c0 ?_
  refine ev_aload_n dX10_gather_51 rfl ?_
  refine ev_getS (q := 1) dX10_gather_52 fo_10_19 (by omega) lo_110 rfl (sh_110_0 hX (by omega)) (by decide) ?_
  refine ev_iload_n dX10_gather_55 rfl ?_
  refine ev_iload_n dX10_gather_56 rfl ?_
  refine ev_iload_n dX10_gather_57 rfl ?_
  refine e_Vi (as := [.int (nI v1), .int v2, .int (nI v3)]) (rest := []) dX10_gather_58 vX1_needOf ml_10_52 isX1_needOf seX1_needOf npX1_needOf (rc_1 (by omega)) (by decide) rfl (Nat.le_of_ble_eq_true rfl) (by omega) (k_X1_needOf (d := d - 1) (by omega) (by omega) hX c1 c2 c3) ?_
  refine ev_ifT (tgt := 87) dX10_gather_61 (by decide) c4 ?_
  refine ev_iinc (v := (nI v3) + 1) dX10_gather_87 rfl (by rw [show Int32.ofInt 1 = 1 from ki_1]) (by decide) ?_
  refine ev_goto (tgt := 37) dX10_gather_90 (by decide) ?_
  exact k
theorem bX10_gather_37_2 {g : GG} {d n : Nat} {post : Option Value → LX → Prop} {X : LX} (hn : 146 ≤ n) (hX : Sh n X) {v1 : Int32} {v2 : Int32} {v3 : Int32} (c0 : X 2 0 ≤ v3) (k : Ev g mX10_gather d n n post n 2 [some (.ref 110), some (.int (v1 + 1)), none, none] [] X) : Ev g mX10_gather d n n post n 37 [some (.ref 110), some (.int v1), some (.int v2), some (.int v3)] [] X := by
  refine ev_iload_n dX10_gather_37 rfl ?_
  refine ev_aload_n dX10_gather_38 rfl ?_
  refine ev_getS (q := 1) dX10_gather_39 fo_10_19 (by omega) lo_110 rfl (sh_110_0 hX (by omega)) (by decide) ?_
  refine ev_getS (q := 2) dX10_gather_42 fo_10_45 (by omega) lo_1 rfl (sh_1_0 hX (by omega)) (by decide) ?_
  refine ev_getI dX10_gather_45 fo_10_49 (by omega) lo_2 rfl ?_
  refine ev_icmpT (tgt := 93) dX10_gather_48 (by decide) c0 ?_
  refine ev_iinc (v := v1 + 1) dX10_gather_93 rfl (by rw [show Int32.ofInt 1 = 1 from ki_1]) (by decide) ?_
  refine ev_goto (tgt := 2) dX10_gather_96 (by decide) ?_
  refine ev_wk (L := [some (.ref 110), some (.int (v1 + 1)), some (.int v2), some (.int v3)]) (L' := [some (.ref 110), some (.int (v1 + 1)), none, none]) (by simp [lwk]) ?_
  exact k
theorem bX10_picksOf_0_0 {g : GG} {d n : Nat} {post : Option Value → LX → Prop} {X : LX} (hn : 146 ≤ n) (hX : Sh n X) {v1 : Int32} {v2 : Int32} {v3 : Int32} (k : Ev g mX10_picksOf d n n post n 1 [some (.ref 110), some (.int v1), some (.int v2), some (.int v3), none, none] [.ref 110] X) : Ev g mX10_picksOf d n n post n 0 [some (.ref 110), some (.int v1), some (.int v2), some (.int v3), none, none] [] X := by
  refine ev_aload_n dX10_picksOf_0 rfl ?_
  exact k
theorem bX10_picksOf_4_0 {g : GG} {d n : Nat} {post : Option Value → LX → Prop} {X : LX} (hn : 146 ≤ n) (hX : Sh n X) {v1 : Int32} {v2 : Int32} {v3 : Int32} (k : Ev g mX10_picksOf d n n post n 10 [some (.ref 110), some (.int v1), some (.int v2), some (.int v3), some (.int 0), some (.int 0)] [] X) : Ev g mX10_picksOf d n n post n 4 [some (.ref 110), some (.int v1), some (.int v2), some (.int v3), none, none] [] X := by
  refine ev_iconst (v := 0) dX10_picksOf_4 ki_0 ?_
  refine ev_istore dX10_picksOf_5 (by decide) ?_
  refine ev_iconst (v := 0) dX10_picksOf_7 ki_0 ?_
  refine ev_istore dX10_picksOf_8 (by decide) ?_
  exact k
theorem bX10_picksOf_10_0 {g : GG} {d n : Nat} {post : Option Value → LX → Prop} {X : LX} (hd : 1 ≤ d) (hn : 146 ≤ n) (hX : Sh n X) {v1 : Nat} {v2 : Int32} {v3 : Int32} {v4 : Int32} {v5 : Nat} (c0 : ¬ X 37 0 ≤ nI v5) (c1 : ¬ (v3 >>> ((nI v5) &&& 31)) &&& 1 = 0) (c2 : v2 = 1) (b0 : v5 < 12) (b1 : v1 < 4) (k : Ev g mX10_picksOf d n n post n 10 [some (.ref 110), some (.int (nI v1)), some (.int v2), some (.int v3), some (.int (v4 + (X (111 + 1 + v5) v1))), some (.int ((nI v5) + 1))] [] X) : Ev g mX10_picksOf d n n post n 10 [some (.ref 110), some (.int (nI v1)), some (.int v2), some (.int v3), some (.int v4), some (.int (nI v5))] [] X := by
  refine ev_iload dX10_picksOf_10 rfl ?_
  refine ev_aload_n dX10_picksOf_12 rfl ?_
  refine ev_getS (q := 1) dX10_picksOf_13 fo_10_19 (by omega) lo_110 rfl (sh_110_0 hX (by omega)) (by decide) ?_
  refine ev_getS (q := 37) dX10_picksOf_16 fo_10_23 (by omega) lo_1 rfl (sh_1_2 hX (by omega)) (by decide) ?_
  refine ev_getI dX10_picksOf_19 fo_10_29 (by omega) lo_37 rfl ?_
  refine ev_icmpF (tgt := 64) dX10_picksOf_22 (by decide) c0 ?_
  refine ev_iload_n dX10_picksOf_25 rfl ?_
  refine ev_iload dX10_picksOf_26 rfl ?_
  refine e_SNi (as := [.int v3, .int (nI v5)]) (rest := []) dX10_picksOf_28 vX11_hasBit ml_10_63 rfl rfl rfl stX11_hasBit npX11_hasBit (by decide) rfl (Nat.le_of_ble_eq_true rfl) (by omega) (t_X11_hasBit (d := d - 1) (by omega) (by omega) hX c1) ?_
  refine ev_iload_n dX10_picksOf_31 rfl ?_
  refine ev_iconst (v := 1) dX10_picksOf_32 ki_1 ?_
  refine ev_icmpF (tgt := 40) dX10_picksOf_33 (by decide) c2 ?_
  refine ev_iconst (v := 1) dX10_picksOf_36 ki_1 ?_
  refine ev_goto (tgt := 41) dX10_picksOf_37 (by decide) ?_
  refine ev_icmpF (tgt := 58) dX10_picksOf_41 (by decide) (by show (1 : Int32) = 1; decide) ?_
  refine ev_iload dX10_picksOf_44 rfl ?_
  refine ev_aload_n dX10_picksOf_46 rfl ?_
  refine ev_getS (q := 111) dX10_picksOf_47 fo_10_11 (by omega) lo_110 rfl (sh_110_1 hX (by omega)) (by decide) ?_
  refine ev_iload dX10_picksOf_50 rfl ?_
  refine ev_aald (q := 111 + 1 + v5) dX10_picksOf_52 (by omega) (Or.inl ly_111) rfl b0 (hX.2 111 v5 (by omega) (Or.inl (by rw [ly_111])) (by rw [ly_111]; exact b0)) (by first | omega | (have := LY_l ly_111; have := LY_lt (show (LY 111).1 < 99 by rw [ly_111]; exact (by decide : 2 < 99)); omega)) ?_
  refine ev_iload_n dX10_picksOf_53 rfl ?_
  refine ev_iald dX10_picksOf_54 (by have := b0; omega) (lyr_111 _ b0) rfl b1 ?_
  refine ev_iadd dX10_picksOf_55 ?_
  refine ev_istore dX10_picksOf_56 (by decide) ?_
  refine ev_iinc (v := (nI v5) + 1) dX10_picksOf_58 rfl (by rw [show Int32.ofInt 1 = 1 from ki_1]) (by decide) ?_
  refine ev_goto (tgt := 10) dX10_picksOf_61 (by decide) ?_
  exact k
theorem bX10_picksOf_10_1 {g : GG} {d n : Nat} {post : Option Value → LX → Prop} {X : LX} (hd : 1 ≤ d) (hn : 146 ≤ n) (hX : Sh n X) {v1 : Int32} {v2 : Int32} {v3 : Int32} {v4 : Int32} {v5 : Int32} (c0 : ¬ X 37 0 ≤ v5) (c1 : ¬ (v3 >>> (v5 &&& 31)) &&& 1 = 0) (c2 : ¬ v2 = 1) (k : Ev g mX10_picksOf d n n post n 10 [some (.ref 110), some (.int v1), some (.int v2), some (.int v3), some (.int v4), some (.int (v5 + 1))] [] X) : Ev g mX10_picksOf d n n post n 10 [some (.ref 110), some (.int v1), some (.int v2), some (.int v3), some (.int v4), some (.int v5)] [] X := by
  refine ev_iload dX10_picksOf_10 rfl ?_
  refine ev_aload_n dX10_picksOf_12 rfl ?_
  refine ev_getS (q := 1) dX10_picksOf_13 fo_10_19 (by omega) lo_110 rfl (sh_110_0 hX (by omega)) (by decide) ?_
  refine ev_getS (q := 37) dX10_picksOf_16 fo_10_23 (by omega) lo_1 rfl (sh_1_2 hX (by omega)) (by decide) ?_
  refine ev_getI dX10_picksOf_19 fo_10_29 (by omega) lo_37 rfl ?_
  refine ev_icmpF (tgt := 64) dX10_picksOf_22 (by decide) c0 ?_
  refine ev_iload_n dX10_picksOf_25 rfl ?_
  refine ev_iload dX10_picksOf_26 rfl ?_
  refine e_SNi (as := [.int v3, .int v5]) (rest := []) dX10_picksOf_28 vX11_hasBit ml_10_63 rfl rfl rfl stX11_hasBit npX11_hasBit (by decide) rfl (Nat.le_of_ble_eq_true rfl) (by omega) (t_X11_hasBit (d := d - 1) (by omega) (by omega) hX c1) ?_
  refine ev_iload_n dX10_picksOf_31 rfl ?_
  refine ev_iconst (v := 1) dX10_picksOf_32 ki_1 ?_
  refine ev_icmpT (tgt := 40) dX10_picksOf_33 (by decide) c2 ?_
  refine ev_iconst (v := 0) dX10_picksOf_40 ki_0 ?_
  refine ev_icmpT (tgt := 58) dX10_picksOf_41 (by decide) (by show ¬ (1 : Int32) = 0; decide) ?_
  refine ev_iinc (v := v5 + 1) dX10_picksOf_58 rfl (by rw [show Int32.ofInt 1 = 1 from ki_1]) (by decide) ?_
  refine ev_goto (tgt := 10) dX10_picksOf_61 (by decide) ?_
  exact k
theorem bX10_picksOf_10_2 {g : GG} {d n : Nat} {post : Option Value → LX → Prop} {X : LX} (hd : 1 ≤ d) (hn : 146 ≤ n) (hX : Sh n X) {v1 : Int32} {v2 : Int32} {v3 : Int32} {v4 : Int32} {v5 : Int32} (c0 : ¬ X 37 0 ≤ v5) (c1 : ¬ (¬ (v3 >>> (v5 &&& 31)) &&& 1 = 0)) (c2 : v2 = 1) (k : Ev g mX10_picksOf d n n post n 10 [some (.ref 110), some (.int v1), some (.int v2), some (.int v3), some (.int v4), some (.int (v5 + 1))] [] X) : Ev g mX10_picksOf d n n post n 10 [some (.ref 110), some (.int v1), some (.int v2), some (.int v3), some (.int v4), some (.int v5)] [] X := by
  refine ev_iload dX10_picksOf_10 rfl ?_
  refine ev_aload_n dX10_picksOf_12 rfl ?_
  refine ev_getS (q := 1) dX10_picksOf_13 fo_10_19 (by omega) lo_110 rfl (sh_110_0 hX (by omega)) (by decide) ?_
  refine ev_getS (q := 37) dX10_picksOf_16 fo_10_23 (by omega) lo_1 rfl (sh_1_2 hX (by omega)) (by decide) ?_
  refine ev_getI dX10_picksOf_19 fo_10_29 (by omega) lo_37 rfl ?_
  refine ev_icmpF (tgt := 64) dX10_picksOf_22 (by decide) c0 ?_
  refine ev_iload_n dX10_picksOf_25 rfl ?_
  refine ev_iload dX10_picksOf_26 rfl ?_
  refine e_SNi (as := [.int v3, .int v5]) (rest := []) dX10_picksOf_28 vX11_hasBit ml_10_63 rfl rfl rfl stX11_hasBit npX11_hasBit (by decide) rfl (Nat.le_of_ble_eq_true rfl) (by omega) (f_X11_hasBit (d := d - 1) (by omega) (by omega) hX c1) ?_
  refine ev_iload_n dX10_picksOf_31 rfl ?_
  refine ev_iconst (v := 1) dX10_picksOf_32 ki_1 ?_
  refine ev_icmpF (tgt := 40) dX10_picksOf_33 (by decide) c2 ?_
  refine ev_iconst (v := 1) dX10_picksOf_36 ki_1 ?_
  refine ev_goto (tgt := 41) dX10_picksOf_37 (by decide) ?_
  refine ev_icmpT (tgt := 58) dX10_picksOf_41 (by decide) (by show ¬ (0 : Int32) = 1; decide) ?_
  refine ev_iinc (v := v5 + 1) dX10_picksOf_58 rfl (by rw [show Int32.ofInt 1 = 1 from ki_1]) (by decide) ?_
  refine ev_goto (tgt := 10) dX10_picksOf_61 (by decide) ?_
  exact k
theorem bX10_picksOf_10_3 {g : GG} {d n : Nat} {post : Option Value → LX → Prop} {X : LX} (hd : 1 ≤ d) (hn : 146 ≤ n) (hX : Sh n X) {v1 : Nat} {v2 : Int32} {v3 : Int32} {v4 : Int32} {v5 : Nat} (c0 : ¬ X 37 0 ≤ nI v5) (c1 : ¬ (¬ (v3 >>> ((nI v5) &&& 31)) &&& 1 = 0)) (c2 : ¬ v2 = 1) (b0 : v5 < 12) (b1 : v1 < 4) (k : Ev g mX10_picksOf d n n post n 10 [some (.ref 110), some (.int (nI v1)), some (.int v2), some (.int v3), some (.int (v4 + (X (111 + 1 + v5) v1))), some (.int ((nI v5) + 1))] [] X) : Ev g mX10_picksOf d n n post n 10 [some (.ref 110), some (.int (nI v1)), some (.int v2), some (.int v3), some (.int v4), some (.int (nI v5))] [] X := by
  refine ev_iload dX10_picksOf_10 rfl ?_
  refine ev_aload_n dX10_picksOf_12 rfl ?_
  refine ev_getS (q := 1) dX10_picksOf_13 fo_10_19 (by omega) lo_110 rfl (sh_110_0 hX (by omega)) (by decide) ?_
  refine ev_getS (q := 37) dX10_picksOf_16 fo_10_23 (by omega) lo_1 rfl (sh_1_2 hX (by omega)) (by decide) ?_
  refine ev_getI dX10_picksOf_19 fo_10_29 (by omega) lo_37 rfl ?_
  refine ev_icmpF (tgt := 64) dX10_picksOf_22 (by decide) c0 ?_
  refine ev_iload_n dX10_picksOf_25 rfl ?_
  refine ev_iload dX10_picksOf_26 rfl ?_
  refine e_SNi (as := [.int v3, .int (nI v5)]) (rest := []) dX10_picksOf_28 vX11_hasBit ml_10_63 rfl rfl rfl stX11_hasBit npX11_hasBit (by decide) rfl (Nat.le_of_ble_eq_true rfl) (by omega) (f_X11_hasBit (d := d - 1) (by omega) (by omega) hX c1) ?_
  refine ev_iload_n dX10_picksOf_31 rfl ?_
  refine ev_iconst (v := 1) dX10_picksOf_32 ki_1 ?_
  refine ev_icmpT (tgt := 40) dX10_picksOf_33 (by decide) c2 ?_
  refine ev_iconst (v := 0) dX10_picksOf_40 ki_0 ?_
  refine ev_icmpF (tgt := 58) dX10_picksOf_41 (by decide) (by show (0 : Int32) = 0; decide) ?_
  refine ev_iload dX10_picksOf_44 rfl ?_
  refine ev_aload_n dX10_picksOf_46 rfl ?_
  refine ev_getS (q := 111) dX10_picksOf_47 fo_10_11 (by omega) lo_110 rfl (sh_110_1 hX (by omega)) (by decide) ?_
  refine ev_iload dX10_picksOf_50 rfl ?_
  refine ev_aald (q := 111 + 1 + v5) dX10_picksOf_52 (by omega) (Or.inl ly_111) rfl b0 (hX.2 111 v5 (by omega) (Or.inl (by rw [ly_111])) (by rw [ly_111]; exact b0)) (by first | omega | (have := LY_l ly_111; have := LY_lt (show (LY 111).1 < 99 by rw [ly_111]; exact (by decide : 2 < 99)); omega)) ?_
  refine ev_iload_n dX10_picksOf_53 rfl ?_
  refine ev_iald dX10_picksOf_54 (by have := b0; omega) (lyr_111 _ b0) rfl b1 ?_
  refine ev_iadd dX10_picksOf_55 ?_
  refine ev_istore dX10_picksOf_56 (by decide) ?_
  refine ev_iinc (v := (nI v5) + 1) dX10_picksOf_58 rfl (by rw [show Int32.ofInt 1 = 1 from ki_1]) (by decide) ?_
  refine ev_goto (tgt := 10) dX10_picksOf_61 (by decide) ?_
  exact k
theorem bX10_picksOf_10_4 {g : GG} {d n : Nat} {post : Option Value → LX → Prop} {X : LX} (hn : 146 ≤ n) (hX : Sh n X) {v1 : Int32} {v2 : Int32} {v3 : Int32} {v4 : Int32} {v5 : Int32} (c0 : X 37 0 ≤ v5) (hp : post (some (.int v4)) X) : Ev g mX10_picksOf d n n post n 10 [some (.ref 110), some (.int v1), some (.int v2), some (.int v3), some (.int v4), some (.int v5)] [] X := by
  refine ev_iload dX10_picksOf_10 rfl ?_
  refine ev_aload_n dX10_picksOf_12 rfl ?_
  refine ev_getS (q := 1) dX10_picksOf_13 fo_10_19 (by omega) lo_110 rfl (sh_110_0 hX (by omega)) (by decide) ?_
  refine ev_getS (q := 37) dX10_picksOf_16 fo_10_23 (by omega) lo_1 rfl (sh_1_2 hX (by omega)) (by decide) ?_
  refine ev_getI dX10_picksOf_19 fo_10_29 (by omega) lo_37 rfl ?_
  refine ev_icmpT (tgt := 64) dX10_picksOf_22 (by decide) c0 ?_
  refine ev_iload dX10_picksOf_64 rfl ?_
  exact ev_iret dX10_picksOf_66 rfl rfl hp
theorem bX10_seekFrom_0_0 {g : GG} {d n : Nat} {post : Option Value → LX → Prop} {X : LX} (hn : 146 ≤ n) (hX : Sh n X) {v1 : Int32} {v2 : Int32} {v3 : Int32} (c0 : ¬ v3 < X 110 3) (hp : post none X) : Ev g mX10_seekFrom d n n post n 0 [some (.ref 110), some (.int v1), some (.int v2), some (.int v3), none, none, none] [] X := by
  refine ev_iload_n dX10_seekFrom_0 rfl ?_
  refine ev_aload_n dX10_seekFrom_1 rfl ?_
  refine ev_getI dX10_seekFrom_2 fo_10_67 (by omega) lo_110 rfl ?_
  refine ev_icmpF (tgt := 9) dX10_seekFrom_5 (by decide) c0 ?_
  exact ev_ret dX10_seekFrom_8 rfl hp
theorem bX10_seekFrom_0_1 {g : GG} {d n : Nat} {post : Option Value → LX → Prop} {X : LX} (hn : 146 ≤ n) (hX : Sh n X) {v1 : Int32} {v2 : Int32} {v3 : Int32} (c0 : v3 < X 110 3) (c1 : ¬ 0 ≤ v1) (hp : post none (lx_up (lx_up X 110 3 v3) 110 4 v2)) : Ev g mX10_seekFrom d n n post n 0 [some (.ref 110), some (.int v1), some (.int v2), some (.int v3), none, none, none] [] X := by
  refine ev_iload_n dX10_seekFrom_0 rfl ?_
  refine ev_aload_n dX10_seekFrom_1 rfl ?_
  refine ev_getI dX10_seekFrom_2 fo_10_67 (by omega) lo_110 rfl ?_
  refine ev_icmpT (tgt := 9) dX10_seekFrom_5 (by decide) c0 ?_
  refine ev_iload_n dX10_seekFrom_9 rfl ?_
  refine ev_ifF (tgt := 24) dX10_seekFrom_10 (by decide) c1 ?_
  refine ev_aload_n dX10_seekFrom_13 rfl ?_
  refine ev_iload_n dX10_seekFrom_14 rfl ?_
  refine ev_putI dX10_seekFrom_15 fo_10_67 (by omega) lo_110 rfl rfl rfl ?_
  have hX1 : Sh _ (lx_up X 110 3 v3) := Sh.upF hX (by rw [lo_110]; decide) (by decide)
  refine ev_aload_n dX10_seekFrom_18 rfl ?_
  refine ev_iload_n dX10_seekFrom_19 rfl ?_
  refine ev_putI dX10_seekFrom_20 fo_10_70 (by omega) lo_110 rfl rfl rfl ?_
  have hX2 : Sh _ (lx_up (lx_up X 110 3 v3) 110 4 v2) := Sh.upF hX1 (by rw [lo_110]; decide) (by decide)
  exact ev_ret dX10_seekFrom_23 rfl hp
theorem bX10_seekFrom_0_2 {g : GG} {d n : Nat} {post : Option Value → LX → Prop} {X : LX} (hn : 146 ≤ n) (hX : Sh n X) {v1 : Int32} {v2 : Int32} {v3 : Int32} (c0 : v3 < X 110 3) (c1 : 0 ≤ v1) (k : Ev g mX10_seekFrom d n n post n 27 [some (.ref 110), some (.int v1), some (.int v2), some (.int v3), some (.int 0), none, none] [] X) : Ev g mX10_seekFrom d n n post n 0 [some (.ref 110), some (.int v1), some (.int v2), some (.int v3), none, none, none] [] X := by
  refine ev_iload_n dX10_seekFrom_0 rfl ?_
  refine ev_aload_n dX10_seekFrom_1 rfl ?_
  refine ev_getI dX10_seekFrom_2 fo_10_67 (by omega) lo_110 rfl ?_
  refine ev_icmpT (tgt := 9) dX10_seekFrom_5 (by decide) c0 ?_
  refine ev_iload_n dX10_seekFrom_9 rfl ?_
  refine ev_ifT (tgt := 24) dX10_seekFrom_10 (by decide) c1 ?_
  refine ev_iconst (v := 0) dX10_seekFrom_24 ki_0 ?_
  refine ev_istore dX10_seekFrom_25 (by decide) ?_
  exact k
theorem bX10_seekFrom_27_0 {g : GG} {d n : Nat} {post : Option Value → LX → Prop} {X : LX} (hn : 146 ≤ n) (hX : Sh n X) {v1 : Int32} {v2 : Int32} {v3 : Int32} {v4 : Int32} (c0 : ¬ 2 ≤ v4) (k : Ev g mX10_seekFrom d n n post n 39 [some (.ref 110), some (.int v1), some (.int v2), some (.int v3), some (.int v4), some (.int v3), some (.int 0)] [] X) : Ev g mX10_seekFrom d n n post n 27 [some (.ref 110), some (.int v1), some (.int v2), some (.int v3), some (.int v4), none, none] [] X := by
  refine ev_iload dX10_seekFrom_27 rfl ?_
  refine ev_iconst (v := 2) dX10_seekFrom_29 ki_2 ?_
  refine ev_icmpF (tgt := 148) dX10_seekFrom_30 (by decide) c0 ?_
  refine ev_iload_n dX10_seekFrom_33 rfl ?_
  refine ev_istore dX10_seekFrom_34 (by decide) ?_
  refine ev_iconst (v := 0) dX10_seekFrom_36 ki_0 ?_
  refine ev_istore dX10_seekFrom_37 (by decide) ?_
  exact k
theorem bX10_seekFrom_27_1 {g : GG} {d n : Nat} {post : Option Value → LX → Prop} {X : LX} (hn : 146 ≤ n) (hX : Sh n X) {v1 : Int32} {v2 : Int32} {v3 : Int32} {v4 : Int32} (c0 : 2 ≤ v4) (hp : post none X) : Ev g mX10_seekFrom d n n post n 27 [some (.ref 110), some (.int v1), some (.int v2), some (.int v3), some (.int v4), none, none] [] X := by
  refine ev_iload dX10_seekFrom_27 rfl ?_
  refine ev_iconst (v := 2) dX10_seekFrom_29 ki_2 ?_
  refine ev_icmpT (tgt := 148) dX10_seekFrom_30 (by decide) c0 ?_
  exact ev_ret dX10_seekFrom_148 rfl hp
theorem bX10_seekFrom_39_0 {g : GG} {d n : Nat} {post : Option Value → LX → Prop} {X : LX} (hd : 1 ≤ d) (hn : 146 ≤ n) (hX : Sh n X) {v1 : Nat} {v2 : Int32} {v3 : Int32} {v4 : Nat} {v5 : Int32} {v6 : Nat} (c0 : ¬ 4 ≤ nI v6) (b0 : v4 < 2) (b1 : v6 < 4) (b2 : v1 < 12) (k : Ev g mX10_seekFrom d n n post n 39 [some (.ref 110), some (.int (nI v1)), some (.int v2), some (.int v3), some (.int (nI v4)), some (.int (if v5 < ((lx_up X (124 + 1 + v4) v6 ((X (124 + 1 + v4) v6) + (X (111 + 1 + v1) v6))) (124 + 1 + v4) v6) then ((lx_up X (124 + 1 + v4) v6 ((X (124 + 1 + v4) v6) + (X (111 + 1 + v1) v6))) (124 + 1 + v4) v6) else v5)), some (.int ((nI v6) + 1))] [] (lx_up X (124 + 1 + v4) v6 ((X (124 + 1 + v4) v6) + (X (111 + 1 + v1) v6)))) : Ev g mX10_seekFrom d n n post n 39 [some (.ref 110), some (.int (nI v1)), some (.int v2), some (.int v3), some (.int (nI v4)), some (.int v5), some (.int (nI v6))] [] X := by
  refine ev_iload dX10_seekFrom_39 rfl ?_
  refine ev_iconst (v := 4) dX10_seekFrom_41 ki_4 ?_
  refine ev_icmpF (tgt := 90) dX10_seekFrom_42 (by decide) c0 ?_
  refine ev_aload_n dX10_seekFrom_45 rfl ?_
  refine ev_getS (q := 124) dX10_seekFrom_46 fo_10_16 (by omega) lo_110 rfl (sh_110_2 hX (by omega)) (by decide) ?_
  refine ev_iload dX10_seekFrom_49 rfl ?_
  refine ev_aald (q := 124 + 1 + v4) dX10_seekFrom_51 (by omega) (Or.inl ly_124) rfl b0 (hX.2 124 v4 (by omega) (Or.inl (by rw [ly_124])) (by rw [ly_124]; exact b0)) (by first | omega | (have := LY_l ly_124; have := LY_lt (show (LY 124).1 < 99 by rw [ly_124]; exact (by decide : 2 < 99)); omega)) ?_
  refine ev_iload dX10_seekFrom_52 rfl ?_
  refine ev_dup2 dX10_seekFrom_54 rfl rfl ?_
  refine ev_iald dX10_seekFrom_55 (by have := b0; omega) (lyr_124 _ b0) rfl b1 ?_
  refine ev_aload_n dX10_seekFrom_56 rfl ?_
  refine ev_getS (q := 111) dX10_seekFrom_57 fo_10_11 (by omega) lo_110 rfl (sh_110_1 hX (by omega)) (by decide) ?_
  refine ev_iload_n dX10_seekFrom_60 rfl ?_
  refine ev_aald (q := 111 + 1 + v1) dX10_seekFrom_61 (by omega) (Or.inl ly_111) rfl b2 (hX.2 111 v1 (by omega) (Or.inl (by rw [ly_111])) (by rw [ly_111]; exact b2)) (by first | omega | (have := LY_l ly_111; have := LY_lt (show (LY 111).1 < 99 by rw [ly_111]; exact (by decide : 2 < 99)); omega)) ?_
  refine ev_iload dX10_seekFrom_62 rfl ?_
  refine ev_iald dX10_seekFrom_64 (by have := b2; omega) (lyr_111 _ b2) rfl b1 ?_
  refine ev_iadd dX10_seekFrom_65 ?_
  refine ev_iast dX10_seekFrom_66 (by have := b0; omega) (lyr_124 _ b0) rfl b1 ?_
  have hX1 : Sh _ (lx_up X (124 + 1 + v4) v6 ((X (124 + 1 + v4) v6) + (X (111 + 1 + v1) v6))) := Sh.upA hX (by rw [(lyr_124 _ b0)]; exact (by decide : 0 < 2))
  refine ev_iload dX10_seekFrom_67 rfl ?_
  refine ev_aload_n dX10_seekFrom_69 rfl ?_
  refine ev_getS (q := 124) dX10_seekFrom_70 fo_10_16 (by omega) lo_110 rfl (sh_110_2 hX1 (by omega)) (by decide) ?_
  refine ev_iload dX10_seekFrom_73 rfl ?_
  refine ev_aald (q := 124 + 1 + v4) dX10_seekFrom_75 (by omega) (Or.inl ly_124) rfl b0 (hX1.2 124 v4 (by omega) (Or.inl (by rw [ly_124])) (by rw [ly_124]; exact b0)) (by first | omega | (have := LY_l ly_124; have := LY_lt (show (LY 124).1 < 99 by rw [ly_124]; exact (by decide : 2 < 99)); omega)) ?_
  refine ev_iload dX10_seekFrom_76 rfl ?_
  refine ev_iald dX10_seekFrom_78 (by have := b0; omega) (lyr_124 _ b0) rfl b1 ?_
  refine e_max dX10_seekFrom_79 mm_10_77 mx_st mx_in mx_co (Nat.le_of_ble_eq_true rfl) (by omega) ?_
  refine ev_istore dX10_seekFrom_82 (by decide) ?_
  refine ev_iinc (v := (nI v6) + 1) dX10_seekFrom_84 rfl (by rw [show Int32.ofInt 1 = 1 from ki_1]) (by decide) ?_
  refine ev_goto (tgt := 39) dX10_seekFrom_87 (by decide) ?_
  exact k
theorem bX10_seekFrom_39_1 {g : GG} {d n : Nat} {post : Option Value → LX → Prop} {X : LX} (hn : 146 ≤ n) (hX : Sh n X) {v1 : Int32} {v2 : Int32} {v3 : Int32} {v4 : Int32} {v5 : Int32} {v6 : Int32} (c0 : 4 ≤ v6) (k : Ev g mX10_seekFrom d n n post n 102 [some (.ref 110), some (.int v1), some (.int v2), some (.int v3), some (.int v4), some (.int v5), some (.int v6)] [.int v5, .int (v2 ||| (v4 <<< (v1 &&& 31))), .int (v1 - 1), .ref 110] X) : Ev g mX10_seekFrom d n n post n 39 [some (.ref 110), some (.int v1), some (.int v2), some (.int v3), some (.int v4), some (.int v5), some (.int v6)] [] X := by
  refine ev_iload dX10_seekFrom_39 rfl ?_
  refine ev_iconst (v := 4) dX10_seekFrom_41 ki_4 ?_
  refine ev_icmpT (tgt := 90) dX10_seekFrom_42 (by decide) c0 ?_
  refine ev_aload_n dX10_seekFrom_90 rfl ?_
  refine ev_iload_n dX10_seekFrom_91 rfl ?_
  refine ev_iconst (v := 1) dX10_seekFrom_92 ki_1 ?_
  refine ev_isub dX10_seekFrom_93 ?_
  refine ev_iload_n dX10_seekFrom_94 rfl ?_
  refine ev_iload dX10_seekFrom_95 rfl ?_
  refine ev_iload_n dX10_seekFrom_97 rfl ?_
  refine ev_ishl dX10_seekFrom_98 ?_
  refine ev_ior dX10_seekFrom_99 ?_
  refine ev_iload dX10_seekFrom_100 rfl ?_
  exact k
theorem bX10_seekFrom_105_0 {g : GG} {d n : Nat} {post : Option Value → LX → Prop} {X : LX} (hn : 146 ≤ n) (hX : Sh n X) {v1 : Int32} {v2 : Int32} {v3 : Int32} {v4 : Int32} {v5 : Int32} {v6 : Int32} (k : Ev g mX10_seekFrom d n n post n 108 [some (.ref 110), some (.int v1), some (.int v2), some (.int v3), some (.int v4), some (.int v5), some (.int 0)] [] X) : Ev g mX10_seekFrom d n n post n 105 [some (.ref 110), some (.int v1), some (.int v2), some (.int v3), some (.int v4), some (.int v5), some (.int v6)] [] X := by
  refine ev_iconst (v := 0) dX10_seekFrom_105 ki_0 ?_
  refine ev_istore dX10_seekFrom_106 (by decide) ?_
  exact k
theorem bX10_seekFrom_108_0 {g : GG} {d n : Nat} {post : Option Value → LX → Prop} {X : LX} (hn : 146 ≤ n) (hX : Sh n X) {v1 : Nat} {v2 : Int32} {v3 : Int32} {v4 : Nat} {v5 : Int32} {v6 : Nat} (c0 : ¬ 4 ≤ nI v6) (b0 : v4 < 2) (b1 : v6 < 4) (b2 : v1 < 12) (k : Ev g mX10_seekFrom d n n post n 108 [some (.ref 110), some (.int (nI v1)), some (.int v2), some (.int v3), some (.int (nI v4)), some (.int v5), some (.int ((nI v6) + 1))] [] (lx_up X (124 + 1 + v4) v6 ((X (124 + 1 + v4) v6) - (X (111 + 1 + v1) v6)))) : Ev g mX10_seekFrom d n n post n 108 [some (.ref 110), some (.int (nI v1)), some (.int v2), some (.int v3), some (.int (nI v4)), some (.int v5), some (.int (nI v6))] [] X := by
  refine ev_iload dX10_seekFrom_108 rfl ?_
  refine ev_iconst (v := 4) dX10_seekFrom_110 ki_4 ?_
  refine ev_icmpF (tgt := 142) dX10_seekFrom_111 (by decide) c0 ?_
  refine ev_aload_n dX10_seekFrom_114 rfl ?_
  refine ev_getS (q := 124) dX10_seekFrom_115 fo_10_16 (by omega) lo_110 rfl (sh_110_2 hX (by omega)) (by decide) ?_
  refine ev_iload dX10_seekFrom_118 rfl ?_
  refine ev_aald (q := 124 + 1 + v4) dX10_seekFrom_120 (by omega) (Or.inl ly_124) rfl b0 (hX.2 124 v4 (by omega) (Or.inl (by rw [ly_124])) (by rw [ly_124]; exact b0)) (by first | omega | (have := LY_l ly_124; have := LY_lt (show (LY 124).1 < 99 by rw [ly_124]; exact (by decide : 2 < 99)); omega)) ?_
  refine ev_iload dX10_seekFrom_121 rfl ?_
  refine ev_dup2 dX10_seekFrom_123 rfl rfl ?_
  refine ev_iald dX10_seekFrom_124 (by have := b0; omega) (lyr_124 _ b0) rfl b1 ?_
  refine ev_aload_n dX10_seekFrom_125 rfl ?_
  refine ev_getS (q := 111) dX10_seekFrom_126 fo_10_11 (by omega) lo_110 rfl (sh_110_1 hX (by omega)) (by decide) ?_
  refine ev_iload_n dX10_seekFrom_129 rfl ?_
  refine ev_aald (q := 111 + 1 + v1) dX10_seekFrom_130 (by omega) (Or.inl ly_111) rfl b2 (hX.2 111 v1 (by omega) (Or.inl (by rw [ly_111])) (by rw [ly_111]; exact b2)) (by first | omega | (have := LY_l ly_111; have := LY_lt (show (LY 111).1 < 99 by rw [ly_111]; exact (by decide : 2 < 99)); omega)) ?_
  refine ev_iload dX10_seekFrom_131 rfl ?_
  refine ev_iald dX10_seekFrom_133 (by have := b2; omega) (lyr_111 _ b2) rfl b1 ?_
  refine ev_isub dX10_seekFrom_134 ?_
  refine ev_iast dX10_seekFrom_135 (by have := b0; omega) (lyr_124 _ b0) rfl b1 ?_
  have hX1 : Sh _ (lx_up X (124 + 1 + v4) v6 ((X (124 + 1 + v4) v6) - (X (111 + 1 + v1) v6))) := Sh.upA hX (by rw [(lyr_124 _ b0)]; exact (by decide : 0 < 2))
  refine ev_iinc (v := (nI v6) + 1) dX10_seekFrom_136 rfl (by rw [show Int32.ofInt 1 = 1 from ki_1]) (by decide) ?_
  refine ev_goto (tgt := 108) dX10_seekFrom_139 (by decide) ?_
  exact k
theorem bX10_seekFrom_108_1 {g : GG} {d n : Nat} {post : Option Value → LX → Prop} {X : LX} (hn : 146 ≤ n) (hX : Sh n X) {v1 : Int32} {v2 : Int32} {v3 : Int32} {v4 : Int32} {v5 : Int32} {v6 : Int32} (c0 : 4 ≤ v6) (k : Ev g mX10_seekFrom d n n post n 27 [some (.ref 110), some (.int v1), some (.int v2), some (.int v3), some (.int (v4 + 1)), none, none] [] X) : Ev g mX10_seekFrom d n n post n 108 [some (.ref 110), some (.int v1), some (.int v2), some (.int v3), some (.int v4), some (.int v5), some (.int v6)] [] X := by
  refine ev_iload dX10_seekFrom_108 rfl ?_
  refine ev_iconst (v := 4) dX10_seekFrom_110 ki_4 ?_
  refine ev_icmpT (tgt := 142) dX10_seekFrom_111 (by decide) c0 ?_
  refine ev_iinc (v := v4 + 1) dX10_seekFrom_142 rfl (by rw [show Int32.ofInt 1 = 1 from ki_1]) (by decide) ?_
  refine ev_goto (tgt := 27) dX10_seekFrom_145 (by decide) ?_
  refine ev_wk (L := [some (.ref 110), some (.int v1), some (.int v2), some (.int v3), some (.int (v4 + 1)), some (.int v5), some (.int v6)]) (L' := [some (.ref 110), some (.int v1), some (.int v2), some (.int v3), some (.int (v4 + 1)), none, none]) (by simp [lwk]) ?_
  exact k
theorem bX10_seek_0_0 {g : GG} {d n : Nat} {post : Option Value → LX → Prop} {X : LX} (hn : 146 ≤ n) (hX : Sh n X)  (k : Ev g mX10_seek d n n post n 1 [some (.ref 110)] [.ref 110] X) : Ev g mX10_seek d n n post n 0 [some (.ref 110)] [] X := by
  refine ev_aload_n dX10_seek_0 rfl ?_
  exact k
theorem bX10_seek_4_0 {g : GG} {d n : Nat} {post : Option Value → LX → Prop} {X : LX} (hn : 146 ≤ n) (hX : Sh n X)  (k : Ev g mX10_seek d n n post n 31 [some (.ref 110)] [.int 0, .int 0, .int ((X 37 0) - 1), .ref 110] (lx_up (lx_up X 110 3 169) 110 4 0)) : Ev g mX10_seek d n n post n 4 [some (.ref 110)] [] X := by
  refine ev_aload_n dX10_seek_4 rfl ?_
  refine ev_sipush (v := 169) dX10_seek_5 ks_169 ?_
  refine ev_putI dX10_seek_8 fo_10_67 (by omega) lo_110 rfl rfl rfl ?_
  have hX1 : Sh _ (lx_up X 110 3 169) := Sh.upF hX (by rw [lo_110]; decide) (by decide)
  refine ev_aload_n dX10_seek_11 rfl ?_
  refine ev_iconst (v := 0) dX10_seek_12 ki_0 ?_
  refine ev_putI dX10_seek_13 fo_10_70 (by omega) lo_110 rfl rfl rfl ?_
  have hX2 : Sh _ (lx_up (lx_up X 110 3 169) 110 4 0) := Sh.upF hX1 (by rw [lo_110]; decide) (by decide)
  refine ev_aload_n dX10_seek_16 rfl ?_
  refine ev_aload_n dX10_seek_17 rfl ?_
  refine ev_getS (q := 1) dX10_seek_18 fo_10_19 (by omega) lo_110 rfl (sh_110_0 hX2 (by omega)) (by decide) ?_
  refine ev_getS (q := 37) dX10_seek_21 fo_10_23 (by omega) lo_1 rfl (sh_1_2 hX2 (by omega)) (by decide) ?_
  refine ev_getI dX10_seek_24 fo_10_29 (by omega) lo_37 rfl ?_
  refine ev_iconst (v := 1) dX10_seek_27 ki_1 ?_
  refine ev_isub dX10_seek_28 ?_
  refine ev_iconst (v := 0) dX10_seek_29 ki_0 ?_
  refine ev_iconst (v := 0) dX10_seek_30 ki_0 ?_
  exact k
theorem bX10_seek_34_0 {g : GG} {d n : Nat} {post : Option Value → LX → Prop} {X : LX} (hn : 146 ≤ n) (hX : Sh n X)  (hp : post none X) : Ev g mX10_seek d n n post n 34 [some (.ref 110)] [] X := by
  exact ev_ret dX10_seek_34 rfl hp
theorem bX6_gather_0_0 {g : GG} {d n : Nat} {post : Option Value → LX → Prop} {X : LX} (hn : 146 ≤ n) (hX : Sh n X)  (k : Ev g mX6_gather d n n post n 23 [some (.ref 84), some (.ref 23), some (.ref 37), some (.int 0), none] [] (lx_up X 84 3 0)) : Ev g mX6_gather d n n post n 0 [some (.ref 84), none, none, none, none] [] X := by
  refine ev_aload_n dX6_gather_0 rfl ?_
  refine ev_getS (q := 1) dX6_gather_1 fo_6_18 (by omega) lo_84 rfl (sh_84_0 hX (by omega)) (by decide) ?_
  refine ev_getS (q := 23) dX6_gather_4 fo_6_22 (by omega) lo_1 rfl (sh_1_1 hX (by omega)) (by decide) ?_
  refine ev_astore_n dX6_gather_7 (by decide) ?_
  refine ev_aload_n dX6_gather_8 rfl ?_
  refine ev_getS (q := 1) dX6_gather_9 fo_6_18 (by omega) lo_84 rfl (sh_84_0 hX (by omega)) (by decide) ?_
  refine ev_getS (q := 37) dX6_gather_12 fo_6_28 (by omega) lo_1 rfl (sh_1_2 hX (by omega)) (by decide) ?_
  refine ev_astore_n dX6_gather_15 (by decide) ?_
  refine ev_aload_n dX6_gather_16 rfl ?_
  refine ev_iconst (v := 0) dX6_gather_17 ki_0 ?_
  refine ev_putI dX6_gather_18 fo_6_32 (by omega) lo_84 rfl rfl rfl ?_
  have hX1 : Sh _ (lx_up X 84 3 0) := Sh.upF hX (by rw [lo_84]; decide) (by decide)
  refine ev_iconst (v := 0) dX6_gather_21 ki_0 ?_
  refine ev_istore_n dX6_gather_22 (by decide) ?_
  exact k
theorem bX6_gather_23_0 {g : GG} {d n : Nat} {post : Option Value → LX → Prop} {X : LX} (hd : 1 ≤ d) (hn : 146 ≤ n) (hX : Sh n X) {v3 : Nat} (c0 : ¬ X 23 0 ≤ nI v3) (c1 : v3 < 10) (c2 : num X 2 0 14) (b0 : v3 < 10) (c3 : isKd (lx_up X 86 v3 (cCost X v3)) v3 2) (k : Ev g mX6_gather d n n post n 23 [some (.ref 84), some (.ref 23), some (.ref 37), some (.int ((nI v3) + 1)), none] [] (lx_up (lx_up X 86 v3 (cCost X v3)) 84 3 ((X 84 3) ||| (1 <<< ((nI v3) &&& 31))))) : Ev g mX6_gather d n n post n 23 [some (.ref 84), some (.ref 23), some (.ref 37), some (.int (nI v3)), none] [] X := by
  refine ev_iload_n dX6_gather_23 rfl ?_
  refine ev_aload_n dX6_gather_24 rfl ?_
  refine ev_getI dX6_gather_25 fo_6_36 (by omega) lo_23 rfl ?_
  refine ev_icmpF (tgt := 72) dX6_gather_28 (by decide) c0 ?_
  refine ev_aload_n dX6_gather_31 rfl ?_
  refine ev_getS (q := 86) dX6_gather_32 fo_6_15 (by omega) lo_84 rfl (sh_84_2 hX (by omega)) (by decide) ?_
  refine ev_iload_n dX6_gather_35 rfl ?_
  refine ev_aload_n dX6_gather_36 rfl ?_
  refine ev_getS (q := 1) dX6_gather_37 fo_6_18 (by omega) lo_84 rfl (sh_84_0 hX (by omega)) (by decide) ?_
  refine ev_iload_n dX6_gather_40 rfl ?_
  refine e_Vi (as := [.int (nI v3)]) (rest := [.int (nI v3), .ref 86]) dX6_gather_41 vX1_costOf ml_6_41 isX1_costOf seX1_costOf npX1_costOf (rc_1 (by omega)) (by decide) rfl (Nat.le_of_ble_eq_true rfl) (by omega) (k_X1_costOf (d := d - 1) (by omega) (by omega) hX c1 c2) ?_
  refine ev_iast dX6_gather_44 (by omega) ly_86 rfl b0 ?_
  have hX1 : Sh _ (lx_up X 86 v3 (cCost X v3)) := Sh.upA hX (by rw [ly_86]; exact (by decide : 0 < 2))
  refine ev_aload_n dX6_gather_45 rfl ?_
  refine ev_iload_n dX6_gather_46 rfl ?_
  refine ev_iconst (v := 2) dX6_gather_47 ki_2 ?_
  refine e_Vi (as := [.int (nI v3), .int 2]) (rest := []) dX6_gather_48 vX5_isKind ml_6_45 isX5_isKind seX5_isKind npX5_isKind (rc_23 (by omega)) (by decide) rfl (Nat.le_of_ble_eq_true rfl) (by omega) (t_X5_isKind (d := d - 1) (by omega) (by omega) hX1 c1 c3) ?_
  refine ev_ifF (tgt := 66) dX6_gather_51 (by decide) (by show ¬ (1 : Int32) = 0; decide) ?_
  refine ev_aload_n dX6_gather_54 rfl ?_
  refine ev_dup dX6_gather_55 rfl ?_
  refine ev_getI dX6_gather_56 fo_6_32 (by omega) lo_84 rfl ?_
  refine ev_iconst (v := 1) dX6_gather_59 ki_1 ?_
  refine ev_iload_n dX6_gather_60 rfl ?_
  refine ev_ishl dX6_gather_61 ?_
  refine ev_ior dX6_gather_62 ?_
  refine ev_putI dX6_gather_63 fo_6_32 (by omega) lo_84 rfl rfl rfl ?_
  have hX2 : Sh _ (lx_up (lx_up X 86 v3 (cCost X v3)) 84 3 ((X 84 3) ||| (1 <<< ((nI v3) &&& 31)))) := Sh.upF hX1 (by rw [lo_84]; decide) (by decide)
  refine ev_iinc (v := (nI v3) + 1) dX6_gather_66 rfl (by rw [show Int32.ofInt 1 = 1 from ki_1]) (by decide) ?_
  refine ev_goto (tgt := 23) dX6_gather_69 (by decide) ?_
  exact k
theorem bX6_gather_23_1 {g : GG} {d n : Nat} {post : Option Value → LX → Prop} {X : LX} (hd : 1 ≤ d) (hn : 146 ≤ n) (hX : Sh n X) {v3 : Nat} (c0 : ¬ X 23 0 ≤ nI v3) (c1 : v3 < 10) (c2 : num X 2 0 14) (b0 : v3 < 10) (c3 : ¬ (isKd (lx_up X 86 v3 (cCost X v3)) v3 2)) (k : Ev g mX6_gather d n n post n 23 [some (.ref 84), some (.ref 23), some (.ref 37), some (.int ((nI v3) + 1)), none] [] (lx_up X 86 v3 (cCost X v3))) : Ev g mX6_gather d n n post n 23 [some (.ref 84), some (.ref 23), some (.ref 37), some (.int (nI v3)), none] [] X := by
  refine ev_iload_n dX6_gather_23 rfl ?_
  refine ev_aload_n dX6_gather_24 rfl ?_
  refine ev_getI dX6_gather_25 fo_6_36 (by omega) lo_23 rfl ?_
  refine ev_icmpF (tgt := 72) dX6_gather_28 (by decide) c0 ?_
  refine ev_aload_n dX6_gather_31 rfl ?_
  refine ev_getS (q := 86) dX6_gather_32 fo_6_15 (by omega) lo_84 rfl (sh_84_2 hX (by omega)) (by decide) ?_
  refine ev_iload_n dX6_gather_35 rfl ?_
  refine ev_aload_n dX6_gather_36 rfl ?_
  refine ev_getS (q := 1) dX6_gather_37 fo_6_18 (by omega) lo_84 rfl (sh_84_0 hX (by omega)) (by decide) ?_
  refine ev_iload_n dX6_gather_40 rfl ?_
  refine e_Vi (as := [.int (nI v3)]) (rest := [.int (nI v3), .ref 86]) dX6_gather_41 vX1_costOf ml_6_41 isX1_costOf seX1_costOf npX1_costOf (rc_1 (by omega)) (by decide) rfl (Nat.le_of_ble_eq_true rfl) (by omega) (k_X1_costOf (d := d - 1) (by omega) (by omega) hX c1 c2) ?_
  refine ev_iast dX6_gather_44 (by omega) ly_86 rfl b0 ?_
  have hX1 : Sh _ (lx_up X 86 v3 (cCost X v3)) := Sh.upA hX (by rw [ly_86]; exact (by decide : 0 < 2))
  refine ev_aload_n dX6_gather_45 rfl ?_
  refine ev_iload_n dX6_gather_46 rfl ?_
  refine ev_iconst (v := 2) dX6_gather_47 ki_2 ?_
  refine e_Vi (as := [.int (nI v3), .int 2]) (rest := []) dX6_gather_48 vX5_isKind ml_6_45 isX5_isKind seX5_isKind npX5_isKind (rc_23 (by omega)) (by decide) rfl (Nat.le_of_ble_eq_true rfl) (by omega) (f_X5_isKind (d := d - 1) (by omega) (by omega) hX1 c1 c3) ?_
  refine ev_ifT (tgt := 66) dX6_gather_51 (by decide) (by show (0 : Int32) = 0; decide) ?_
  refine ev_iinc (v := (nI v3) + 1) dX6_gather_66 rfl (by rw [show Int32.ofInt 1 = 1 from ki_1]) (by decide) ?_
  refine ev_goto (tgt := 23) dX6_gather_69 (by decide) ?_
  exact k
theorem bX6_gather_23_2 {g : GG} {d n : Nat} {post : Option Value → LX → Prop} {X : LX} (hn : 146 ≤ n) (hX : Sh n X) {v3 : Int32} (c0 : X 23 0 ≤ v3) (k : Ev g mX6_gather d n n post n 74 [some (.ref 84), some (.ref 23), some (.ref 37), some (.int 0), none] [] X) : Ev g mX6_gather d n n post n 23 [some (.ref 84), some (.ref 23), some (.ref 37), some (.int v3), none] [] X := by
  refine ev_iload_n dX6_gather_23 rfl ?_
  refine ev_aload_n dX6_gather_24 rfl ?_
  refine ev_getI dX6_gather_25 fo_6_36 (by omega) lo_23 rfl ?_
  refine ev_icmpT (tgt := 72) dX6_gather_28 (by decide) c0 ?_
  refine ev_iconst (v := 0) dX6_gather_72 ki_0 ?_
  refine ev_istore_n dX6_gather_73 (by decide) ?_
  exact k
theorem bX6_gather_74_0 {g : GG} {d n : Nat} {post : Option Value → LX → Prop} {X : LX} (hn : 146 ≤ n) (hX : Sh n X) {v3 : Nat} (c0 : ¬ X 37 0 ≤ nI v3) (b0 : v3 < 12) (k : Ev g mX6_gather d n n post n 92 [some (.ref 84), some (.ref 23), some (.ref 37), some (.int (nI v3)), some (.int 0)] [] (lx_up X 85 v3 0)) : Ev g mX6_gather d n n post n 74 [some (.ref 84), some (.ref 23), some (.ref 37), some (.int (nI v3)), none] [] X := by
  refine ev_iload_n dX6_gather_74 rfl ?_
  refine ev_aload_n dX6_gather_75 rfl ?_
  refine ev_getI dX6_gather_76 fo_6_49 (by omega) lo_37 rfl ?_
  refine ev_icmpF (tgt := 152) dX6_gather_79 (by decide) c0 ?_
  refine ev_aload_n dX6_gather_82 rfl ?_
  refine ev_getS (q := 85) dX6_gather_83 fo_6_9 (by omega) lo_84 rfl (sh_84_1 hX (by omega)) (by decide) ?_
  refine ev_iload_n dX6_gather_86 rfl ?_
  refine ev_iconst (v := 0) dX6_gather_87 ki_0 ?_
  refine ev_iast dX6_gather_88 (by omega) ly_85 rfl b0 ?_
  have hX1 : Sh _ (lx_up X 85 v3 0) := Sh.upA hX (by rw [ly_85]; exact (by decide : 0 < 2))
  refine ev_iconst (v := 0) dX6_gather_89 ki_0 ?_
  refine ev_istore dX6_gather_90 (by decide) ?_
  exact k
theorem bX6_gather_74_1 {g : GG} {d n : Nat} {post : Option Value → LX → Prop} {X : LX} (hn : 146 ≤ n) (hX : Sh n X) {v3 : Int32} (c0 : X 37 0 ≤ v3) (hp : post none X) : Ev g mX6_gather d n n post n 74 [some (.ref 84), some (.ref 23), some (.ref 37), some (.int v3), none] [] X := by
  refine ev_iload_n dX6_gather_74 rfl ?_
  refine ev_aload_n dX6_gather_75 rfl ?_
  refine ev_getI dX6_gather_76 fo_6_49 (by omega) lo_37 rfl ?_
  refine ev_icmpT (tgt := 152) dX6_gather_79 (by decide) c0 ?_
  exact ev_ret dX6_gather_152 rfl hp
theorem bX6_gather_92_0 {g : GG} {d n : Nat} {post : Option Value → LX → Prop} {X : LX} (hd : 2 ≤ d) (hn : 146 ≤ n) (hX : Sh n X) {v3 : Nat} {v4 : Nat} (c0 : ¬ X 23 0 ≤ nI v4) (b0 : v3 < 12) (b1 : v4 < 10) (c1 : ¬ X (43 + 1 + v3) v4 < 5) (c2 : v3 < 12) (c3 : v4 < 10) (c4 : num X 2 0 14) (c5 : cMay X v3 v4) (k : Ev g mX6_gather d n n post n 92 [some (.ref 84), some (.ref 23), some (.ref 37), some (.int (nI v3)), some (.int ((nI v4) + 1))] [] (lx_up X 85 v3 ((X 85 v3) ||| (1 <<< ((nI v4) &&& 31))))) : Ev g mX6_gather d n n post n 92 [some (.ref 84), some (.ref 23), some (.ref 37), some (.int (nI v3)), some (.int (nI v4))] [] X := by
  refine ev_iload dX6_gather_92 rfl ?_
  refine ev_aload_n dX6_gather_94 rfl ?_
  refine ev_getI dX6_gather_95 fo_6_36 (by omega) lo_23 rfl ?_
  refine ev_icmpF (tgt := 146) dX6_gather_98 (by decide) c0 ?_
  refine ev_aload_n dX6_gather_101 rfl ?_
  refine ev_getS (q := 43) dX6_gather_102 fo_6_52 (by omega) lo_37 rfl (sh_37_6 hX (by omega)) (by decide) ?_
  refine ev_iload_n dX6_gather_105 rfl ?_
  refine ev_aald (q := 43 + 1 + v3) dX6_gather_106 (by omega) (Or.inl ly_43) rfl b0 (hX.2 43 v3 (by omega) (Or.inl (by rw [ly_43])) (by rw [ly_43]; exact b0)) (by first | omega | (have := LY_l ly_43; have := LY_lt (show (LY 43).1 < 99 by rw [ly_43]; exact (by decide : 2 < 99)); omega)) ?_
  refine ev_iload dX6_gather_107 rfl ?_
  refine ev_iald dX6_gather_109 (by have := b0; omega) (lyr_43 _ b0) rfl b1 ?_
  refine ev_iconst (v := 5) dX6_gather_110 ki_5 ?_
  refine ev_icmpF (tgt := 140) dX6_gather_111 (by decide) c1 ?_
  refine ev_aload_n dX6_gather_114 rfl ?_
  refine ev_getS (q := 1) dX6_gather_115 fo_6_18 (by omega) lo_84 rfl (sh_84_0 hX (by omega)) (by decide) ?_
  refine ev_iload_n dX6_gather_118 rfl ?_
  refine ev_iload dX6_gather_119 rfl ?_
  refine e_Vi (as := [.int (nI v3), .int (nI v4)]) (rest := []) dX6_gather_121 vX1_mayEat ml_6_56 isX1_mayEat seX1_mayEat npX1_mayEat (rc_1 (by omega)) (by decide) rfl (Nat.le_of_ble_eq_true rfl) (by omega) (t_X1_mayEat (d := d - 1) (by omega) (by omega) hX c2 c3 c4 c5) ?_
  refine ev_ifF (tgt := 140) dX6_gather_124 (by decide) (by show ¬ (1 : Int32) = 0; decide) ?_
  refine ev_aload_n dX6_gather_127 rfl ?_
  refine ev_getS (q := 85) dX6_gather_128 fo_6_9 (by omega) lo_84 rfl (sh_84_1 hX (by omega)) (by decide) ?_
  refine ev_iload_n dX6_gather_131 rfl ?_
  refine ev_dup2 dX6_gather_132 rfl rfl ?_
  refine ev_iald dX6_gather_133 (by omega) ly_85 rfl b0 ?_
  refine ev_iconst (v := 1) dX6_gather_134 ki_1 ?_
  refine ev_iload dX6_gather_135 rfl ?_
  refine ev_ishl dX6_gather_137 ?_
  refine ev_ior dX6_gather_138 ?_
  refine ev_iast dX6_gather_139 (by omega) ly_85 rfl b0 ?_
  have hX1 : Sh _ (lx_up X 85 v3 ((X 85 v3) ||| (1 <<< ((nI v4) &&& 31)))) := Sh.upA hX (by rw [ly_85]; exact (by decide : 0 < 2))
  refine ev_iinc (v := (nI v4) + 1) dX6_gather_140 rfl (by rw [show Int32.ofInt 1 = 1 from ki_1]) (by decide) ?_
  refine ev_goto (tgt := 92) dX6_gather_143 (by decide) ?_
  exact k
theorem bX6_gather_92_1 {g : GG} {d n : Nat} {post : Option Value → LX → Prop} {X : LX} (hd : 2 ≤ d) (hn : 146 ≤ n) (hX : Sh n X) {v3 : Nat} {v4 : Nat} (c0 : ¬ X 23 0 ≤ nI v4) (b0 : v3 < 12) (b1 : v4 < 10) (c1 : ¬ X (43 + 1 + v3) v4 < 5) (c2 : v3 < 12) (c3 : v4 < 10) (c4 : num X 2 0 14) (c5 : ¬ (cMay X v3 v4)) (k : Ev g mX6_gather d n n post n 92 [some (.ref 84), some (.ref 23), some (.ref 37), some (.int (nI v3)), some (.int ((nI v4) + 1))] [] X) : Ev g mX6_gather d n n post n 92 [some (.ref 84), some (.ref 23), some (.ref 37), some (.int (nI v3)), some (.int (nI v4))] [] X := by
  refine ev_iload dX6_gather_92 rfl ?_
  refine ev_aload_n dX6_gather_94 rfl ?_
  refine ev_getI dX6_gather_95 fo_6_36 (by omega) lo_23 rfl ?_
  refine ev_icmpF (tgt := 146) dX6_gather_98 (by decide) c0 ?_
  refine ev_aload_n dX6_gather_101 rfl ?_
  refine ev_getS (q := 43) dX6_gather_102 fo_6_52 (by omega) lo_37 rfl (sh_37_6 hX (by omega)) (by decide) ?_
  refine ev_iload_n dX6_gather_105 rfl ?_
  refine ev_aald (q := 43 + 1 + v3) dX6_gather_106 (by omega) (Or.inl ly_43) rfl b0 (hX.2 43 v3 (by omega) (Or.inl (by rw [ly_43])) (by rw [ly_43]; exact b0)) (by first | omega | (have := LY_l ly_43; have := LY_lt (show (LY 43).1 < 99 by rw [ly_43]; exact (by decide : 2 < 99)); omega)) ?_
  refine ev_iload dX6_gather_107 rfl ?_
  refine ev_iald dX6_gather_109 (by have := b0; omega) (lyr_43 _ b0) rfl b1 ?_
  refine ev_iconst (v := 5) dX6_gather_110 ki_5 ?_
  refine ev_icmpF (tgt := 140) dX6_gather_111 (by decide) c1 ?_
  refine ev_aload_n dX6_gather_114 rfl ?_
  refine ev_getS (q := 1) dX6_gather_115 fo_6_18 (by omega) lo_84 rfl (sh_84_0 hX (by omega)) (by decide) ?_
  refine ev_iload_n dX6_gather_118 rfl ?_
  refine ev_iload dX6_gather_119 rfl ?_
  refine e_Vi (as := [.int (nI v3), .int (nI v4)]) (rest := []) dX6_gather_121 vX1_mayEat ml_6_56 isX1_mayEat seX1_mayEat npX1_mayEat (rc_1 (by omega)) (by decide) rfl (Nat.le_of_ble_eq_true rfl) (by omega) (f_X1_mayEat (d := d - 1) (by omega) (by omega) hX c2 c3 c4 c5) ?_
  refine ev_ifT (tgt := 140) dX6_gather_124 (by decide) (by show (0 : Int32) = 0; decide) ?_
  refine ev_iinc (v := (nI v4) + 1) dX6_gather_140 rfl (by rw [show Int32.ofInt 1 = 1 from ki_1]) (by decide) ?_
  refine ev_goto (tgt := 92) dX6_gather_143 (by decide) ?_
  exact k
theorem bX6_gather_92_2 {g : GG} {d n : Nat} {post : Option Value → LX → Prop} {X : LX} (hn : 146 ≤ n) (hX : Sh n X) {v3 : Nat} {v4 : Nat} (c0 : ¬ X 23 0 ≤ nI v4) (b0 : v3 < 12) (b1 : v4 < 10) (c1 : X (43 + 1 + v3) v4 < 5) (k : Ev g mX6_gather d n n post n 92 [some (.ref 84), some (.ref 23), some (.ref 37), some (.int (nI v3)), some (.int ((nI v4) + 1))] [] X) : Ev g mX6_gather d n n post n 92 [some (.ref 84), some (.ref 23), some (.ref 37), some (.int (nI v3)), some (.int (nI v4))] [] X := by
  refine ev_iload dX6_gather_92 rfl ?_
  refine ev_aload_n dX6_gather_94 rfl ?_
  refine ev_getI dX6_gather_95 fo_6_36 (by omega) lo_23 rfl ?_
  refine ev_icmpF (tgt := 146) dX6_gather_98 (by decide) c0 ?_
  refine ev_aload_n dX6_gather_101 rfl ?_
  refine ev_getS (q := 43) dX6_gather_102 fo_6_52 (by omega) lo_37 rfl (sh_37_6 hX (by omega)) (by decide) ?_
  refine ev_iload_n dX6_gather_105 rfl ?_
  refine ev_aald (q := 43 + 1 + v3) dX6_gather_106 (by omega) (Or.inl ly_43) rfl b0 (hX.2 43 v3 (by omega) (Or.inl (by rw [ly_43])) (by rw [ly_43]; exact b0)) (by first | omega | (have := LY_l ly_43; have := LY_lt (show (LY 43).1 < 99 by rw [ly_43]; exact (by decide : 2 < 99)); omega)) ?_
  refine ev_iload dX6_gather_107 rfl ?_
  refine ev_iald dX6_gather_109 (by have := b0; omega) (lyr_43 _ b0) rfl b1 ?_
  refine ev_iconst (v := 5) dX6_gather_110 ki_5 ?_
  refine ev_icmpT (tgt := 140) dX6_gather_111 (by decide) c1 ?_
  refine ev_iinc (v := (nI v4) + 1) dX6_gather_140 rfl (by rw [show Int32.ofInt 1 = 1 from ki_1]) (by decide) ?_
  refine ev_goto (tgt := 92) dX6_gather_143 (by decide) ?_
  exact k
theorem bX6_gather_92_3 {g : GG} {d n : Nat} {post : Option Value → LX → Prop} {X : LX} (hn : 146 ≤ n) (hX : Sh n X) {v3 : Int32} {v4 : Int32} (c0 : X 23 0 ≤ v4) (k : Ev g mX6_gather d n n post n 74 [some (.ref 84), some (.ref 23), some (.ref 37), some (.int (v3 + 1)), none] [] X) : Ev g mX6_gather d n n post n 92 [some (.ref 84), some (.ref 23), some (.ref 37), some (.int v3), some (.int v4)] [] X := by
  refine ev_iload dX6_gather_92 rfl ?_
  refine ev_aload_n dX6_gather_94 rfl ?_
  refine ev_getI dX6_gather_95 fo_6_36 (by omega) lo_23 rfl ?_
  refine ev_icmpT (tgt := 146) dX6_gather_98 (by decide) c0 ?_
  refine ev_iinc (v := v3 + 1) dX6_gather_146 rfl (by rw [show Int32.ofInt 1 = 1 from ki_1]) (by decide) ?_
  refine ev_goto (tgt := 74) dX6_gather_149 (by decide) ?_
  refine ev_wk (L := [some (.ref 84), some (.ref 23), some (.ref 37), some (.int (v3 + 1)), some (.int v4)]) (L' := [some (.ref 84), some (.ref 23), some (.ref 37), some (.int (v3 + 1)), none]) (by simp [lwk]) ?_
  exact k
theorem bX6_keptBy_0_0 {g : GG} {d n : Nat} {post : Option Value → LX → Prop} {X : LX} (hd : 1 ≤ d) (hn : 146 ≤ n) (hX : Sh n X) {v1 : Int32} (k : Ev g mX6_keptBy d n n post n 14 [some (.ref 84), some (.int v1), some (.int (if (bc v1) < 2 then (bc v1) else 2)), some (.int 0), some (.int 0)] [] X) : Ev g mX6_keptBy d n n post n 0 [some (.ref 84), some (.int v1), none, none, none] [] X := by
  refine ev_iconst (v := 2) dX6_keptBy_0 ki_2 ?_
  refine ev_iload_n dX6_keptBy_1 rfl ?_
  refine e_Si (as := [.int v1]) (rest := [.int 2]) dX6_keptBy_2 vJ6_bitCount_0f7a4 ml_6_59 stJ6_bitCount_0f7a4 npJ6_bitCount_0f7a4 (by decide) rfl (Nat.le_of_ble_eq_true rfl) (by omega) (k_J6_bitCount_0f7a4 (d := d - 1) (by omega) (by omega) hX ) ?_
  refine e_min dX6_keptBy_5 mm_6_64 mn_st mx_in mn_co (Nat.le_of_ble_eq_true rfl) (by omega) ?_
  refine ev_istore_n dX6_keptBy_8 (by decide) ?_
  refine ev_iconst (v := 0) dX6_keptBy_9 ki_0 ?_
  refine ev_istore_n dX6_keptBy_10 (by decide) ?_
  refine ev_iconst (v := 0) dX6_keptBy_11 ki_0 ?_
  refine ev_istore dX6_keptBy_12 (by decide) ?_
  exact k
theorem bX6_keptBy_14_0 {g : GG} {d n : Nat} {post : Option Value → LX → Prop} {X : LX} (hd : 1 ≤ d) (hn : 146 ≤ n) (hX : Sh n X) {v1 : Int32} {v2 : Int32} {v3 : Int32} {v4 : Nat} (c0 : ¬ X 37 0 ≤ nI v4) (b0 : v4 < 12) (c1 : ¬ bc ((X 85 v4) &&& v1) < v2) (k : Ev g mX6_keptBy d n n post n 14 [some (.ref 84), some (.int v1), some (.int v2), some (.int (v3 + 1)), some (.int ((nI v4) + 1))] [] X) : Ev g mX6_keptBy d n n post n 14 [some (.ref 84), some (.int v1), some (.int v2), some (.int v3), some (.int (nI v4))] [] X := by
  refine ev_iload dX6_keptBy_14 rfl ?_
  refine ev_aload_n dX6_keptBy_16 rfl ?_
  refine ev_getS (q := 1) dX6_keptBy_17 fo_6_18 (by omega) lo_84 rfl (sh_84_0 hX (by omega)) (by decide) ?_
  refine ev_getS (q := 37) dX6_keptBy_20 fo_6_28 (by omega) lo_1 rfl (sh_1_2 hX (by omega)) (by decide) ?_
  refine ev_getI dX6_keptBy_23 fo_6_49 (by omega) lo_37 rfl ?_
  refine ev_icmpF (tgt := 54) dX6_keptBy_26 (by decide) c0 ?_
  refine ev_aload_n dX6_keptBy_29 rfl ?_
  refine ev_getS (q := 85) dX6_keptBy_30 fo_6_9 (by omega) lo_84 rfl (sh_84_1 hX (by omega)) (by decide) ?_
  refine ev_iload dX6_keptBy_33 rfl ?_
  refine ev_iald dX6_keptBy_35 (by omega) ly_85 rfl b0 ?_
  refine ev_iload_n dX6_keptBy_36 rfl ?_
  refine ev_iand dX6_keptBy_37 ?_
  refine e_Si (as := [.int ((X 85 v4) &&& v1)]) (rest := []) dX6_keptBy_38 vJ6_bitCount_0f7a4 ml_6_59 stJ6_bitCount_0f7a4 npJ6_bitCount_0f7a4 (by decide) rfl (Nat.le_of_ble_eq_true rfl) (by omega) (k_J6_bitCount_0f7a4 (d := d - 1) (by omega) (by omega) hX ) ?_
  refine ev_iload_n dX6_keptBy_41 rfl ?_
  refine ev_icmpF (tgt := 48) dX6_keptBy_42 (by decide) c1 ?_
  refine ev_iinc (v := v3 + 1) dX6_keptBy_45 rfl (by rw [show Int32.ofInt 1 = 1 from ki_1]) (by decide) ?_
  refine ev_iinc (v := (nI v4) + 1) dX6_keptBy_48 rfl (by rw [show Int32.ofInt 1 = 1 from ki_1]) (by decide) ?_
  refine ev_goto (tgt := 14) dX6_keptBy_51 (by decide) ?_
  exact k
theorem bX6_keptBy_14_1 {g : GG} {d n : Nat} {post : Option Value → LX → Prop} {X : LX} (hd : 1 ≤ d) (hn : 146 ≤ n) (hX : Sh n X) {v1 : Int32} {v2 : Int32} {v3 : Int32} {v4 : Nat} (c0 : ¬ X 37 0 ≤ nI v4) (b0 : v4 < 12) (c1 : bc ((X 85 v4) &&& v1) < v2) (k : Ev g mX6_keptBy d n n post n 14 [some (.ref 84), some (.int v1), some (.int v2), some (.int v3), some (.int ((nI v4) + 1))] [] X) : Ev g mX6_keptBy d n n post n 14 [some (.ref 84), some (.int v1), some (.int v2), some (.int v3), some (.int (nI v4))] [] X := by
  refine ev_iload dX6_keptBy_14 rfl ?_
  refine ev_aload_n dX6_keptBy_16 rfl ?_
  refine ev_getS (q := 1) dX6_keptBy_17 fo_6_18 (by omega) lo_84 rfl (sh_84_0 hX (by omega)) (by decide) ?_
  refine ev_getS (q := 37) dX6_keptBy_20 fo_6_28 (by omega) lo_1 rfl (sh_1_2 hX (by omega)) (by decide) ?_
  refine ev_getI dX6_keptBy_23 fo_6_49 (by omega) lo_37 rfl ?_
  refine ev_icmpF (tgt := 54) dX6_keptBy_26 (by decide) c0 ?_
  refine ev_aload_n dX6_keptBy_29 rfl ?_
  refine ev_getS (q := 85) dX6_keptBy_30 fo_6_9 (by omega) lo_84 rfl (sh_84_1 hX (by omega)) (by decide) ?_
  refine ev_iload dX6_keptBy_33 rfl ?_
  refine ev_iald dX6_keptBy_35 (by omega) ly_85 rfl b0 ?_
  refine ev_iload_n dX6_keptBy_36 rfl ?_
  refine ev_iand dX6_keptBy_37 ?_
  refine e_Si (as := [.int ((X 85 v4) &&& v1)]) (rest := []) dX6_keptBy_38 vJ6_bitCount_0f7a4 ml_6_59 stJ6_bitCount_0f7a4 npJ6_bitCount_0f7a4 (by decide) rfl (Nat.le_of_ble_eq_true rfl) (by omega) (k_J6_bitCount_0f7a4 (d := d - 1) (by omega) (by omega) hX ) ?_
  refine ev_iload_n dX6_keptBy_41 rfl ?_
  refine ev_icmpT (tgt := 48) dX6_keptBy_42 (by decide) c1 ?_
  refine ev_iinc (v := (nI v4) + 1) dX6_keptBy_48 rfl (by rw [show Int32.ofInt 1 = 1 from ki_1]) (by decide) ?_
  refine ev_goto (tgt := 14) dX6_keptBy_51 (by decide) ?_
  exact k
theorem bX6_keptBy_14_2 {g : GG} {d n : Nat} {post : Option Value → LX → Prop} {X : LX} (hn : 146 ≤ n) (hX : Sh n X) {v1 : Int32} {v2 : Int32} {v3 : Int32} {v4 : Int32} (c0 : X 37 0 ≤ v4) (hp : post (some (.int v3)) X) : Ev g mX6_keptBy d n n post n 14 [some (.ref 84), some (.int v1), some (.int v2), some (.int v3), some (.int v4)] [] X := by
  refine ev_iload dX6_keptBy_14 rfl ?_
  refine ev_aload_n dX6_keptBy_16 rfl ?_
  refine ev_getS (q := 1) dX6_keptBy_17 fo_6_18 (by omega) lo_84 rfl (sh_84_0 hX (by omega)) (by decide) ?_
  refine ev_getS (q := 37) dX6_keptBy_20 fo_6_28 (by omega) lo_1 rfl (sh_1_2 hX (by omega)) (by decide) ?_
  refine ev_getI dX6_keptBy_23 fo_6_49 (by omega) lo_37 rfl ?_
  refine ev_icmpT (tgt := 54) dX6_keptBy_26 (by decide) c0 ?_
  refine ev_iload_n dX6_keptBy_54 rfl ?_
  exact ev_iret dX6_keptBy_55 rfl rfl hp
theorem bX6_weigh_0_0 {g : GG} {d n : Nat} {post : Option Value → LX → Prop} {X : LX} (hn : 146 ≤ n) (hX : Sh n X) {v1 : Int32} (c0 : v1 &&& (X 84 3) = 0) (hp : post none X) : Ev g mX6_weigh d n n post n 0 [some (.ref 84), some (.int v1), none, none, none] [] X := by
  refine ev_iload_n dX6_weigh_0 rfl ?_
  refine ev_aload_n dX6_weigh_1 rfl ?_
  refine ev_getI dX6_weigh_2 fo_6_32 (by omega) lo_84 rfl ?_
  refine ev_iand dX6_weigh_5 ?_
  refine ev_ifF (tgt := 10) dX6_weigh_6 (by decide) c0 ?_
  exact ev_ret dX6_weigh_9 rfl hp
theorem bX6_weigh_0_1 {g : GG} {d n : Nat} {post : Option Value → LX → Prop} {X : LX} (hn : 146 ≤ n) (hX : Sh n X) {v1 : Int32} (c0 : ¬ v1 &&& (X 84 3) = 0) (k : Ev g mX6_weigh d n n post n 12 [some (.ref 84), some (.int v1), none, none, none] [.int v1, .ref 84] X) : Ev g mX6_weigh d n n post n 0 [some (.ref 84), some (.int v1), none, none, none] [] X := by
  refine ev_iload_n dX6_weigh_0 rfl ?_
  refine ev_aload_n dX6_weigh_1 rfl ?_
  refine ev_getI dX6_weigh_2 fo_6_32 (by omega) lo_84 rfl ?_
  refine ev_iand dX6_weigh_5 ?_
  refine ev_ifT (tgt := 10) dX6_weigh_6 (by decide) c0 ?_
  refine ev_aload_n dX6_weigh_10 rfl ?_
  refine ev_iload_n dX6_weigh_11 rfl ?_
  exact k
theorem bX6_weigh_15_0 {g : GG} {d n : Nat} {post : Option Value → LX → Prop} {X : LX} (hn : 146 ≤ n) (hX : Sh n X) {v1 : Int32} {s0 : Int32} (k : Ev g mX6_weigh d n n post n 21 [some (.ref 84), some (.int v1), some (.int s0), some (.int 0), some (.int 0)] [] X) : Ev g mX6_weigh d n n post n 15 [some (.ref 84), some (.int v1), none, none, none] [.int s0] X := by
  refine ev_istore_n dX6_weigh_15 (by decide) ?_
  refine ev_iconst (v := 0) dX6_weigh_16 ki_0 ?_
  refine ev_istore_n dX6_weigh_17 (by decide) ?_
  refine ev_iconst (v := 0) dX6_weigh_18 ki_0 ?_
  refine ev_istore dX6_weigh_19 (by decide) ?_
  exact k
theorem bX6_weigh_21_0 {g : GG} {d n : Nat} {post : Option Value → LX → Prop} {X : LX} (hd : 1 ≤ d) (hn : 146 ≤ n) (hX : Sh n X) {v1 : Int32} {v2 : Int32} {v3 : Int32} {v4 : Nat} (c0 : ¬ X 23 0 ≤ nI v4) (c1 : ¬ (v1 >>> ((nI v4) &&& 31)) &&& 1 = 0) (b0 : v4 < 10) (k : Ev g mX6_weigh d n n post n 21 [some (.ref 84), some (.int v1), some (.int v2), some (.int (v3 + (X 86 v4))), some (.int ((nI v4) + 1))] [] X) : Ev g mX6_weigh d n n post n 21 [some (.ref 84), some (.int v1), some (.int v2), some (.int v3), some (.int (nI v4))] [] X := by
  refine ev_iload dX6_weigh_21 rfl ?_
  refine ev_aload_n dX6_weigh_23 rfl ?_
  refine ev_getS (q := 1) dX6_weigh_24 fo_6_18 (by omega) lo_84 rfl (sh_84_0 hX (by omega)) (by decide) ?_
  refine ev_getS (q := 23) dX6_weigh_27 fo_6_22 (by omega) lo_1 rfl (sh_1_1 hX (by omega)) (by decide) ?_
  refine ev_getI dX6_weigh_30 fo_6_36 (by omega) lo_23 rfl ?_
  refine ev_icmpF (tgt := 61) dX6_weigh_33 (by decide) c0 ?_
  refine ev_iload_n dX6_weigh_36 rfl ?_
  refine ev_iload dX6_weigh_37 rfl ?_
  refine e_SNi (as := [.int v1, .int (nI v4)]) (rest := []) dX6_weigh_39 vX11_hasBit ml_6_104 rfl rfl rfl stX11_hasBit npX11_hasBit (by decide) rfl (Nat.le_of_ble_eq_true rfl) (by omega) (t_X11_hasBit (d := d - 1) (by omega) (by omega) hX c1) ?_
  refine ev_ifF (tgt := 55) dX6_weigh_42 (by decide) (by show ¬ (1 : Int32) = 0; decide) ?_
  refine ev_iload_n dX6_weigh_45 rfl ?_
  refine ev_aload_n dX6_weigh_46 rfl ?_
  refine ev_getS (q := 86) dX6_weigh_47 fo_6_15 (by omega) lo_84 rfl (sh_84_2 hX (by omega)) (by decide) ?_
  refine ev_iload dX6_weigh_50 rfl ?_
  refine ev_iald dX6_weigh_52 (by omega) ly_86 rfl b0 ?_
  refine ev_iadd dX6_weigh_53 ?_
  refine ev_istore_n dX6_weigh_54 (by decide) ?_
  refine ev_iinc (v := (nI v4) + 1) dX6_weigh_55 rfl (by rw [show Int32.ofInt 1 = 1 from ki_1]) (by decide) ?_
  refine ev_goto (tgt := 21) dX6_weigh_58 (by decide) ?_
  exact k
theorem bX6_weigh_21_1 {g : GG} {d n : Nat} {post : Option Value → LX → Prop} {X : LX} (hd : 1 ≤ d) (hn : 146 ≤ n) (hX : Sh n X) {v1 : Int32} {v2 : Int32} {v3 : Int32} {v4 : Int32} (c0 : ¬ X 23 0 ≤ v4) (c1 : ¬ (¬ (v1 >>> (v4 &&& 31)) &&& 1 = 0)) (k : Ev g mX6_weigh d n n post n 21 [some (.ref 84), some (.int v1), some (.int v2), some (.int v3), some (.int (v4 + 1))] [] X) : Ev g mX6_weigh d n n post n 21 [some (.ref 84), some (.int v1), some (.int v2), some (.int v3), some (.int v4)] [] X := by
  refine ev_iload dX6_weigh_21 rfl ?_
  refine ev_aload_n dX6_weigh_23 rfl ?_
  refine ev_getS (q := 1) dX6_weigh_24 fo_6_18 (by omega) lo_84 rfl (sh_84_0 hX (by omega)) (by decide) ?_
  refine ev_getS (q := 23) dX6_weigh_27 fo_6_22 (by omega) lo_1 rfl (sh_1_1 hX (by omega)) (by decide) ?_
  refine ev_getI dX6_weigh_30 fo_6_36 (by omega) lo_23 rfl ?_
  refine ev_icmpF (tgt := 61) dX6_weigh_33 (by decide) c0 ?_
  refine ev_iload_n dX6_weigh_36 rfl ?_
  refine ev_iload dX6_weigh_37 rfl ?_
  refine e_SNi (as := [.int v1, .int v4]) (rest := []) dX6_weigh_39 vX11_hasBit ml_6_104 rfl rfl rfl stX11_hasBit npX11_hasBit (by decide) rfl (Nat.le_of_ble_eq_true rfl) (by omega) (f_X11_hasBit (d := d - 1) (by omega) (by omega) hX c1) ?_
  refine ev_ifT (tgt := 55) dX6_weigh_42 (by decide) (by show (0 : Int32) = 0; decide) ?_
  refine ev_iinc (v := v4 + 1) dX6_weigh_55 rfl (by rw [show Int32.ofInt 1 = 1 from ki_1]) (by decide) ?_
  refine ev_goto (tgt := 21) dX6_weigh_58 (by decide) ?_
  exact k
theorem bX6_weigh_21_2 {g : GG} {d n : Nat} {post : Option Value → LX → Prop} {X : LX} (hn : 146 ≤ n) (hX : Sh n X) {v1 : Int32} {v2 : Int32} {v3 : Int32} {v4 : Int32} (c0 : X 23 0 ≤ v4) (c1 : ¬ X 84 6 < v2) (c2 : v2 = X 84 6) (c3 : ¬ X 84 7 ≤ v3) (hp : post none (lx_up (lx_up (lx_up X 84 6 v2) 84 7 v3) 84 8 v1)) : Ev g mX6_weigh d n n post n 21 [some (.ref 84), some (.int v1), some (.int v2), some (.int v3), some (.int v4)] [] X := by
  refine ev_iload dX6_weigh_21 rfl ?_
  refine ev_aload_n dX6_weigh_23 rfl ?_
  refine ev_getS (q := 1) dX6_weigh_24 fo_6_18 (by omega) lo_84 rfl (sh_84_0 hX (by omega)) (by decide) ?_
  refine ev_getS (q := 23) dX6_weigh_27 fo_6_22 (by omega) lo_1 rfl (sh_1_1 hX (by omega)) (by decide) ?_
  refine ev_getI dX6_weigh_30 fo_6_36 (by omega) lo_23 rfl ?_
  refine ev_icmpT (tgt := 61) dX6_weigh_33 (by decide) c0 ?_
  refine ev_iload_n dX6_weigh_61 rfl ?_
  refine ev_aload_n dX6_weigh_62 rfl ?_
  refine ev_getI dX6_weigh_63 fo_6_79 (by omega) lo_84 rfl ?_
  refine ev_icmpF (tgt := 85) dX6_weigh_66 (by decide) c1 ?_
  refine ev_iload_n dX6_weigh_69 rfl ?_
  refine ev_aload_n dX6_weigh_70 rfl ?_
  refine ev_getI dX6_weigh_71 fo_6_79 (by omega) lo_84 rfl ?_
  refine ev_icmpF (tgt := 100) dX6_weigh_74 (by decide) c2 ?_
  refine ev_iload_n dX6_weigh_77 rfl ?_
  refine ev_aload_n dX6_weigh_78 rfl ?_
  refine ev_getI dX6_weigh_79 fo_6_82 (by omega) lo_84 rfl ?_
  refine ev_icmpF (tgt := 100) dX6_weigh_82 (by decide) c3 ?_
  refine ev_aload_n dX6_weigh_85 rfl ?_
  refine ev_iload_n dX6_weigh_86 rfl ?_
  refine ev_putI dX6_weigh_87 fo_6_79 (by omega) lo_84 rfl rfl rfl ?_
  have hX1 : Sh _ (lx_up X 84 6 v2) := Sh.upF hX (by rw [lo_84]; decide) (by decide)
  refine ev_aload_n dX6_weigh_90 rfl ?_
  refine ev_iload_n dX6_weigh_91 rfl ?_
  refine ev_putI dX6_weigh_92 fo_6_82 (by omega) lo_84 rfl rfl rfl ?_
  have hX2 : Sh _ (lx_up (lx_up X 84 6 v2) 84 7 v3) := Sh.upF hX1 (by rw [lo_84]; decide) (by decide)
  refine ev_aload_n dX6_weigh_95 rfl ?_
  refine ev_iload_n dX6_weigh_96 rfl ?_
  refine ev_putI dX6_weigh_97 fo_6_85 (by omega) lo_84 rfl rfl rfl ?_
  have hX3 : Sh _ (lx_up (lx_up (lx_up X 84 6 v2) 84 7 v3) 84 8 v1) := Sh.upF hX2 (by rw [lo_84]; decide) (by decide)
  exact ev_ret dX6_weigh_100 rfl hp
theorem bX6_weigh_21_3 {g : GG} {d n : Nat} {post : Option Value → LX → Prop} {X : LX} (hn : 146 ≤ n) (hX : Sh n X) {v1 : Int32} {v2 : Int32} {v3 : Int32} {v4 : Int32} (c0 : X 23 0 ≤ v4) (c1 : ¬ X 84 6 < v2) (c2 : v2 = X 84 6) (c3 : X 84 7 ≤ v3) (hp : post none X) : Ev g mX6_weigh d n n post n 21 [some (.ref 84), some (.int v1), some (.int v2), some (.int v3), some (.int v4)] [] X := by
  refine ev_iload dX6_weigh_21 rfl ?_
  refine ev_aload_n dX6_weigh_23 rfl ?_
  refine ev_getS (q := 1) dX6_weigh_24 fo_6_18 (by omega) lo_84 rfl (sh_84_0 hX (by omega)) (by decide) ?_
  refine ev_getS (q := 23) dX6_weigh_27 fo_6_22 (by omega) lo_1 rfl (sh_1_1 hX (by omega)) (by decide) ?_
  refine ev_getI dX6_weigh_30 fo_6_36 (by omega) lo_23 rfl ?_
  refine ev_icmpT (tgt := 61) dX6_weigh_33 (by decide) c0 ?_
  refine ev_iload_n dX6_weigh_61 rfl ?_
  refine ev_aload_n dX6_weigh_62 rfl ?_
  refine ev_getI dX6_weigh_63 fo_6_79 (by omega) lo_84 rfl ?_
  refine ev_icmpF (tgt := 85) dX6_weigh_66 (by decide) c1 ?_
  refine ev_iload_n dX6_weigh_69 rfl ?_
  refine ev_aload_n dX6_weigh_70 rfl ?_
  refine ev_getI dX6_weigh_71 fo_6_79 (by omega) lo_84 rfl ?_
  refine ev_icmpF (tgt := 100) dX6_weigh_74 (by decide) c2 ?_
  refine ev_iload_n dX6_weigh_77 rfl ?_
  refine ev_aload_n dX6_weigh_78 rfl ?_
  refine ev_getI dX6_weigh_79 fo_6_82 (by omega) lo_84 rfl ?_
  refine ev_icmpT (tgt := 100) dX6_weigh_82 (by decide) c3 ?_
  exact ev_ret dX6_weigh_100 rfl hp
theorem bX6_weigh_21_4 {g : GG} {d n : Nat} {post : Option Value → LX → Prop} {X : LX} (hn : 146 ≤ n) (hX : Sh n X) {v1 : Int32} {v2 : Int32} {v3 : Int32} {v4 : Int32} (c0 : X 23 0 ≤ v4) (c1 : ¬ X 84 6 < v2) (c2 : ¬ v2 = X 84 6) (hp : post none X) : Ev g mX6_weigh d n n post n 21 [some (.ref 84), some (.int v1), some (.int v2), some (.int v3), some (.int v4)] [] X := by
  refine ev_iload dX6_weigh_21 rfl ?_
  refine ev_aload_n dX6_weigh_23 rfl ?_
  refine ev_getS (q := 1) dX6_weigh_24 fo_6_18 (by omega) lo_84 rfl (sh_84_0 hX (by omega)) (by decide) ?_
  refine ev_getS (q := 23) dX6_weigh_27 fo_6_22 (by omega) lo_1 rfl (sh_1_1 hX (by omega)) (by decide) ?_
  refine ev_getI dX6_weigh_30 fo_6_36 (by omega) lo_23 rfl ?_
  refine ev_icmpT (tgt := 61) dX6_weigh_33 (by decide) c0 ?_
  refine ev_iload_n dX6_weigh_61 rfl ?_
  refine ev_aload_n dX6_weigh_62 rfl ?_
  refine ev_getI dX6_weigh_63 fo_6_79 (by omega) lo_84 rfl ?_
  refine ev_icmpF (tgt := 85) dX6_weigh_66 (by decide) c1 ?_
  refine ev_iload_n dX6_weigh_69 rfl ?_
  refine ev_aload_n dX6_weigh_70 rfl ?_
  refine ev_getI dX6_weigh_71 fo_6_79 (by omega) lo_84 rfl ?_
  refine ev_icmpT (tgt := 100) dX6_weigh_74 (by decide) c2 ?_
  exact ev_ret dX6_weigh_100 rfl hp
theorem bX6_weigh_21_5 {g : GG} {d n : Nat} {post : Option Value → LX → Prop} {X : LX} (hn : 146 ≤ n) (hX : Sh n X) {v1 : Int32} {v2 : Int32} {v3 : Int32} {v4 : Int32} (c0 : X 23 0 ≤ v4) (c1 : X 84 6 < v2) (hp : post none (lx_up (lx_up (lx_up X 84 6 v2) 84 7 v3) 84 8 v1)) : Ev g mX6_weigh d n n post n 21 [some (.ref 84), some (.int v1), some (.int v2), some (.int v3), some (.int v4)] [] X := by
  refine ev_iload dX6_weigh_21 rfl ?_
  refine ev_aload_n dX6_weigh_23 rfl ?_
  refine ev_getS (q := 1) dX6_weigh_24 fo_6_18 (by omega) lo_84 rfl (sh_84_0 hX (by omega)) (by decide) ?_
  refine ev_getS (q := 23) dX6_weigh_27 fo_6_22 (by omega) lo_1 rfl (sh_1_1 hX (by omega)) (by decide) ?_
  refine ev_getI dX6_weigh_30 fo_6_36 (by omega) lo_23 rfl ?_
  refine ev_icmpT (tgt := 61) dX6_weigh_33 (by decide) c0 ?_
  refine ev_iload_n dX6_weigh_61 rfl ?_
  refine ev_aload_n dX6_weigh_62 rfl ?_
  refine ev_getI dX6_weigh_63 fo_6_79 (by omega) lo_84 rfl ?_
  refine ev_icmpT (tgt := 85) dX6_weigh_66 (by decide) c1 ?_
  refine ev_aload_n dX6_weigh_85 rfl ?_
  refine ev_iload_n dX6_weigh_86 rfl ?_
  refine ev_putI dX6_weigh_87 fo_6_79 (by omega) lo_84 rfl rfl rfl ?_
  have hX1 : Sh _ (lx_up X 84 6 v2) := Sh.upF hX (by rw [lo_84]; decide) (by decide)
  refine ev_aload_n dX6_weigh_90 rfl ?_
  refine ev_iload_n dX6_weigh_91 rfl ?_
  refine ev_putI dX6_weigh_92 fo_6_82 (by omega) lo_84 rfl rfl rfl ?_
  have hX2 : Sh _ (lx_up (lx_up X 84 6 v2) 84 7 v3) := Sh.upF hX1 (by rw [lo_84]; decide) (by decide)
  refine ev_aload_n dX6_weigh_95 rfl ?_
  refine ev_iload_n dX6_weigh_96 rfl ?_
  refine ev_putI dX6_weigh_97 fo_6_85 (by omega) lo_84 rfl rfl rfl ?_
  have hX3 : Sh _ (lx_up (lx_up (lx_up X 84 6 v2) 84 7 v3) 84 8 v1) := Sh.upF hX2 (by rw [lo_84]; decide) (by decide)
  exact ev_ret dX6_weigh_100 rfl hp
theorem bX6_seekFrom_0_0 {g : GG} {d n : Nat} {post : Option Value → LX → Prop} {X : LX} (hn : 146 ≤ n) (hX : Sh n X) {v1 : Int32} {v2 : Int32} {v3 : Int32} {v4 : Int32} (c0 : ¬ 0 < v2) (k : Ev g mX6_seekFrom d n n post n 6 [some (.ref 84), some (.int v1), some (.int v2), some (.int v3), some (.int v4), none, none] [.int v3, .ref 84] X) : Ev g mX6_seekFrom d n n post n 0 [some (.ref 84), some (.int v1), some (.int v2), some (.int v3), some (.int v4), none, none] [] X := by
  refine ev_iload_n dX6_seekFrom_0 rfl ?_
  refine ev_ifF (tgt := 10) dX6_seekFrom_1 (by decide) c0 ?_
  refine ev_aload_n dX6_seekFrom_4 rfl ?_
  refine ev_iload_n dX6_seekFrom_5 rfl ?_
  exact k
theorem bX6_seekFrom_0_1 {g : GG} {d n : Nat} {post : Option Value → LX → Prop} {X : LX} (hn : 146 ≤ n) (hX : Sh n X) {v1 : Int32} {v2 : Int32} {v3 : Int32} {v4 : Int32} (c0 : 0 < v2) (k : Ev g mX6_seekFrom d n n post n 13 [some (.ref 84), some (.int v1), some (.int v2), some (.int v3), some (.int v4), some (.int v1), none] [] X) : Ev g mX6_seekFrom d n n post n 0 [some (.ref 84), some (.int v1), some (.int v2), some (.int v3), some (.int v4), none, none] [] X := by
  refine ev_iload_n dX6_seekFrom_0 rfl ?_
  refine ev_ifT (tgt := 10) dX6_seekFrom_1 (by decide) c0 ?_
  refine ev_iload_n dX6_seekFrom_10 rfl ?_
  refine ev_istore dX6_seekFrom_11 (by decide) ?_
  exact k
theorem bX6_seekFrom_9_0 {g : GG} {d n : Nat} {post : Option Value → LX → Prop} {X : LX} (hn : 146 ≤ n) (hX : Sh n X) {v1 : Int32} {v2 : Int32} {v3 : Int32} {v4 : Int32} (hp : post none X) : Ev g mX6_seekFrom d n n post n 9 [some (.ref 84), some (.int v1), some (.int v2), some (.int v3), some (.int v4), none, none] [] X := by
  exact ev_ret dX6_seekFrom_9 rfl hp
theorem bX6_seekFrom_13_0 {g : GG} {d n : Nat} {post : Option Value → LX → Prop} {X : LX} (hn : 146 ≤ n) (hX : Sh n X) {v1 : Int32} {v2 : Int32} {v3 : Int32} {v4 : Int32} {v5 : Nat} (c0 : ¬ X 23 0 ≤ nI v5) (c1 : ¬ X 84 4 < X 84 5) (b0 : v5 < 10) (c2 : ¬ v4 &&& (1 <<< ((X 25 v5) &&& 31)) = 0) (k : Ev g mX6_seekFrom d n n post n 13 [some (.ref 84), some (.int v1), some (.int v2), some (.int v3), some (.int v4), some (.int ((nI v5) + 1)), none] [] X) : Ev g mX6_seekFrom d n n post n 13 [some (.ref 84), some (.int v1), some (.int v2), some (.int v3), some (.int v4), some (.int (nI v5)), none] [] X := by
  refine ev_iload dX6_seekFrom_13 rfl ?_
  refine ev_aload_n dX6_seekFrom_15 rfl ?_
  refine ev_getS (q := 1) dX6_seekFrom_16 fo_6_18 (by omega) lo_84 rfl (sh_84_0 hX (by omega)) (by decide) ?_
  refine ev_getS (q := 23) dX6_seekFrom_19 fo_6_22 (by omega) lo_1 rfl (sh_1_1 hX (by omega)) (by decide) ?_
  refine ev_getI dX6_seekFrom_22 fo_6_36 (by omega) lo_23 rfl ?_
  refine ev_icmpF (tgt := 116) dX6_seekFrom_25 (by decide) c0 ?_
  refine ev_aload_n dX6_seekFrom_28 rfl ?_
  refine ev_getI dX6_seekFrom_29 fo_6_76 (by omega) lo_84 rfl ?_
  refine ev_aload_n dX6_seekFrom_32 rfl ?_
  refine ev_getI dX6_seekFrom_33 fo_6_73 (by omega) lo_84 rfl ?_
  refine ev_icmpF (tgt := 116) dX6_seekFrom_36 (by decide) c1 ?_
  refine ev_iconst (v := 1) dX6_seekFrom_39 ki_1 ?_
  refine ev_aload_n dX6_seekFrom_40 rfl ?_
  refine ev_getS (q := 1) dX6_seekFrom_41 fo_6_18 (by omega) lo_84 rfl (sh_84_0 hX (by omega)) (by decide) ?_
  refine ev_getS (q := 23) dX6_seekFrom_44 fo_6_22 (by omega) lo_1 rfl (sh_1_1 hX (by omega)) (by decide) ?_
  refine ev_getS (q := 25) dX6_seekFrom_47 fo_6_98 (by omega) lo_23 rfl (sh_23_2 hX (by omega)) (by decide) ?_
  refine ev_iload dX6_seekFrom_50 rfl ?_
  refine ev_iald dX6_seekFrom_52 (by omega) ly_25 rfl b0 ?_
  refine ev_ishl dX6_seekFrom_53 ?_
  refine ev_istore dX6_seekFrom_54 (by decide) ?_
  refine ev_iload dX6_seekFrom_56 rfl ?_
  refine ev_iload dX6_seekFrom_58 rfl ?_
  refine ev_iand dX6_seekFrom_60 ?_
  refine ev_ifF (tgt := 67) dX6_seekFrom_61 (by decide) c2 ?_
  refine ev_goto (tgt := 110) dX6_seekFrom_64 (by decide) ?_
  refine ev_iinc (v := (nI v5) + 1) dX6_seekFrom_110 rfl (by rw [show Int32.ofInt 1 = 1 from ki_1]) (by decide) ?_
  refine ev_goto (tgt := 13) dX6_seekFrom_113 (by decide) ?_
  refine ev_wk (L := [some (.ref 84), some (.int v1), some (.int v2), some (.int v3), some (.int v4), some (.int ((nI v5) + 1)), some (.int (1 <<< ((X 25 v5) &&& 31)))]) (L' := [some (.ref 84), some (.int v1), some (.int v2), some (.int v3), some (.int v4), some (.int ((nI v5) + 1)), none]) (by simp [lwk]) ?_
  exact k
theorem bX6_seekFrom_13_1 {g : GG} {d n : Nat} {post : Option Value → LX → Prop} {X : LX} (hn : 146 ≤ n) (hX : Sh n X) {v1 : Int32} {v2 : Int32} {v3 : Int32} {v4 : Int32} {v5 : Nat} (c0 : ¬ X 23 0 ≤ nI v5) (c1 : ¬ X 84 4 < X 84 5) (b0 : v5 < 10) (c2 : v4 &&& (1 <<< ((X 25 v5) &&& 31)) = 0) (c3 : ¬ X 84 4 < (X 84 5) + 1) (k : Ev g mX6_seekFrom d n n post n 107 [some (.ref 84), some (.int v1), some (.int v2), some (.int v3), some (.int v4), some (.int (nI v5)), some (.int (1 <<< ((X 25 v5) &&& 31)))] [.int (v4 ||| (1 <<< ((X 25 v5) &&& 31))), .int (v3 ||| (1 <<< ((nI v5) &&& 31))), .int (v2 - 1), .int ((nI v5) + 1), .ref 84] (lx_up X 84 5 ((X 84 5) + 1))) : Ev g mX6_seekFrom d n n post n 13 [some (.ref 84), some (.int v1), some (.int v2), some (.int v3), some (.int v4), some (.int (nI v5)), none] [] X := by
  refine ev_iload dX6_seekFrom_13 rfl ?_
  refine ev_aload_n dX6_seekFrom_15 rfl ?_
  refine ev_getS (q := 1) dX6_seekFrom_16 fo_6_18 (by omega) lo_84 rfl (sh_84_0 hX (by omega)) (by decide) ?_
  refine ev_getS (q := 23) dX6_seekFrom_19 fo_6_22 (by omega) lo_1 rfl (sh_1_1 hX (by omega)) (by decide) ?_
  refine ev_getI dX6_seekFrom_22 fo_6_36 (by omega) lo_23 rfl ?_
  refine ev_icmpF (tgt := 116) dX6_seekFrom_25 (by decide) c0 ?_
  refine ev_aload_n dX6_seekFrom_28 rfl ?_
  refine ev_getI dX6_seekFrom_29 fo_6_76 (by omega) lo_84 rfl ?_
  refine ev_aload_n dX6_seekFrom_32 rfl ?_
  refine ev_getI dX6_seekFrom_33 fo_6_73 (by omega) lo_84 rfl ?_
  refine ev_icmpF (tgt := 116) dX6_seekFrom_36 (by decide) c1 ?_
  refine ev_iconst (v := 1) dX6_seekFrom_39 ki_1 ?_
  refine ev_aload_n dX6_seekFrom_40 rfl ?_
  refine ev_getS (q := 1) dX6_seekFrom_41 fo_6_18 (by omega) lo_84 rfl (sh_84_0 hX (by omega)) (by decide) ?_
  refine ev_getS (q := 23) dX6_seekFrom_44 fo_6_22 (by omega) lo_1 rfl (sh_1_1 hX (by omega)) (by decide) ?_
  refine ev_getS (q := 25) dX6_seekFrom_47 fo_6_98 (by omega) lo_23 rfl (sh_23_2 hX (by omega)) (by decide) ?_
  refine ev_iload dX6_seekFrom_50 rfl ?_
  refine ev_iald dX6_seekFrom_52 (by omega) ly_25 rfl b0 ?_
  refine ev_ishl dX6_seekFrom_53 ?_
  refine ev_istore dX6_seekFrom_54 (by decide) ?_
  refine ev_iload dX6_seekFrom_56 rfl ?_
  refine ev_iload dX6_seekFrom_58 rfl ?_
  refine ev_iand dX6_seekFrom_60 ?_
  refine ev_ifT (tgt := 67) dX6_seekFrom_61 (by decide) c2 ?_
  refine ev_aload_n dX6_seekFrom_67 rfl ?_
  refine ev_dup dX6_seekFrom_68 rfl ?_
  refine ev_getI dX6_seekFrom_69 fo_6_76 (by omega) lo_84 rfl ?_
  refine ev_iconst (v := 1) dX6_seekFrom_72 ki_1 ?_
  refine ev_iadd dX6_seekFrom_73 ?_
  refine ev_putI dX6_seekFrom_74 fo_6_76 (by omega) lo_84 rfl rfl rfl ?_
  have hX1 : Sh _ (lx_up X 84 5 ((X 84 5) + 1)) := Sh.upF hX (by rw [lo_84]; decide) (by decide)
  refine ev_aload_n dX6_seekFrom_77 rfl ?_
  refine ev_getI dX6_seekFrom_78 fo_6_76 (by omega) lo_84 rfl ?_
  refine ev_aload_n dX6_seekFrom_81 rfl ?_
  refine ev_getI dX6_seekFrom_82 fo_6_73 (by omega) lo_84 rfl ?_
  refine ev_icmpF (tgt := 110) dX6_seekFrom_85 (by decide) c3 ?_
  refine ev_aload_n dX6_seekFrom_88 rfl ?_
  refine ev_iload dX6_seekFrom_89 rfl ?_
  refine ev_iconst (v := 1) dX6_seekFrom_91 ki_1 ?_
  refine ev_iadd dX6_seekFrom_92 ?_
  refine ev_iload_n dX6_seekFrom_93 rfl ?_
  refine ev_iconst (v := 1) dX6_seekFrom_94 ki_1 ?_
  refine ev_isub dX6_seekFrom_95 ?_
  refine ev_iload_n dX6_seekFrom_96 rfl ?_
  refine ev_iconst (v := 1) dX6_seekFrom_97 ki_1 ?_
  refine ev_iload dX6_seekFrom_98 rfl ?_
  refine ev_ishl dX6_seekFrom_100 ?_
  refine ev_ior dX6_seekFrom_101 ?_
  refine ev_iload dX6_seekFrom_102 rfl ?_
  refine ev_iload dX6_seekFrom_104 rfl ?_
  refine ev_ior dX6_seekFrom_106 ?_
  exact k
theorem bX6_seekFrom_13_2 {g : GG} {d n : Nat} {post : Option Value → LX → Prop} {X : LX} (hn : 146 ≤ n) (hX : Sh n X) {v1 : Int32} {v2 : Int32} {v3 : Int32} {v4 : Int32} {v5 : Nat} (c0 : ¬ X 23 0 ≤ nI v5) (c1 : ¬ X 84 4 < X 84 5) (b0 : v5 < 10) (c2 : v4 &&& (1 <<< ((X 25 v5) &&& 31)) = 0) (c3 : X 84 4 < (X 84 5) + 1) (k : Ev g mX6_seekFrom d n n post n 13 [some (.ref 84), some (.int v1), some (.int v2), some (.int v3), some (.int v4), some (.int ((nI v5) + 1)), none] [] (lx_up X 84 5 ((X 84 5) + 1))) : Ev g mX6_seekFrom d n n post n 13 [some (.ref 84), some (.int v1), some (.int v2), some (.int v3), some (.int v4), some (.int (nI v5)), none] [] X := by
  refine ev_iload dX6_seekFrom_13 rfl ?_
  refine ev_aload_n dX6_seekFrom_15 rfl ?_
  refine ev_getS (q := 1) dX6_seekFrom_16 fo_6_18 (by omega) lo_84 rfl (sh_84_0 hX (by omega)) (by decide) ?_
  refine ev_getS (q := 23) dX6_seekFrom_19 fo_6_22 (by omega) lo_1 rfl (sh_1_1 hX (by omega)) (by decide) ?_
  refine ev_getI dX6_seekFrom_22 fo_6_36 (by omega) lo_23 rfl ?_
  refine ev_icmpF (tgt := 116) dX6_seekFrom_25 (by decide) c0 ?_
  refine ev_aload_n dX6_seekFrom_28 rfl ?_
  refine ev_getI dX6_seekFrom_29 fo_6_76 (by omega) lo_84 rfl ?_
  refine ev_aload_n dX6_seekFrom_32 rfl ?_
  refine ev_getI dX6_seekFrom_33 fo_6_73 (by omega) lo_84 rfl ?_
  refine ev_icmpF (tgt := 116) dX6_seekFrom_36 (by decide) c1 ?_
  refine ev_iconst (v := 1) dX6_seekFrom_39 ki_1 ?_
  refine ev_aload_n dX6_seekFrom_40 rfl ?_
  refine ev_getS (q := 1) dX6_seekFrom_41 fo_6_18 (by omega) lo_84 rfl (sh_84_0 hX (by omega)) (by decide) ?_
  refine ev_getS (q := 23) dX6_seekFrom_44 fo_6_22 (by omega) lo_1 rfl (sh_1_1 hX (by omega)) (by decide) ?_
  refine ev_getS (q := 25) dX6_seekFrom_47 fo_6_98 (by omega) lo_23 rfl (sh_23_2 hX (by omega)) (by decide) ?_
  refine ev_iload dX6_seekFrom_50 rfl ?_
  refine ev_iald dX6_seekFrom_52 (by omega) ly_25 rfl b0 ?_
  refine ev_ishl dX6_seekFrom_53 ?_
  refine ev_istore dX6_seekFrom_54 (by decide) ?_
  refine ev_iload dX6_seekFrom_56 rfl ?_
  refine ev_iload dX6_seekFrom_58 rfl ?_
  refine ev_iand dX6_seekFrom_60 ?_
  refine ev_ifT (tgt := 67) dX6_seekFrom_61 (by decide) c2 ?_
  refine ev_aload_n dX6_seekFrom_67 rfl ?_
  refine ev_dup dX6_seekFrom_68 rfl ?_
  refine ev_getI dX6_seekFrom_69 fo_6_76 (by omega) lo_84 rfl ?_
  refine ev_iconst (v := 1) dX6_seekFrom_72 ki_1 ?_
  refine ev_iadd dX6_seekFrom_73 ?_
  refine ev_putI dX6_seekFrom_74 fo_6_76 (by omega) lo_84 rfl rfl rfl ?_
  have hX1 : Sh _ (lx_up X 84 5 ((X 84 5) + 1)) := Sh.upF hX (by rw [lo_84]; decide) (by decide)
  refine ev_aload_n dX6_seekFrom_77 rfl ?_
  refine ev_getI dX6_seekFrom_78 fo_6_76 (by omega) lo_84 rfl ?_
  refine ev_aload_n dX6_seekFrom_81 rfl ?_
  refine ev_getI dX6_seekFrom_82 fo_6_73 (by omega) lo_84 rfl ?_
  refine ev_icmpT (tgt := 110) dX6_seekFrom_85 (by decide) c3 ?_
  refine ev_iinc (v := (nI v5) + 1) dX6_seekFrom_110 rfl (by rw [show Int32.ofInt 1 = 1 from ki_1]) (by decide) ?_
  refine ev_goto (tgt := 13) dX6_seekFrom_113 (by decide) ?_
  refine ev_wk (L := [some (.ref 84), some (.int v1), some (.int v2), some (.int v3), some (.int v4), some (.int ((nI v5) + 1)), some (.int (1 <<< ((X 25 v5) &&& 31)))]) (L' := [some (.ref 84), some (.int v1), some (.int v2), some (.int v3), some (.int v4), some (.int ((nI v5) + 1)), none]) (by simp [lwk]) ?_
  exact k
theorem bX6_seekFrom_13_3 {g : GG} {d n : Nat} {post : Option Value → LX → Prop} {X : LX} (hn : 146 ≤ n) (hX : Sh n X) {v1 : Int32} {v2 : Int32} {v3 : Int32} {v4 : Int32} {v5 : Int32} (c0 : ¬ X 23 0 ≤ v5) (c1 : X 84 4 < X 84 5) (hp : post none X) : Ev g mX6_seekFrom d n n post n 13 [some (.ref 84), some (.int v1), some (.int v2), some (.int v3), some (.int v4), some (.int v5), none] [] X := by
  refine ev_iload dX6_seekFrom_13 rfl ?_
  refine ev_aload_n dX6_seekFrom_15 rfl ?_
  refine ev_getS (q := 1) dX6_seekFrom_16 fo_6_18 (by omega) lo_84 rfl (sh_84_0 hX (by omega)) (by decide) ?_
  refine ev_getS (q := 23) dX6_seekFrom_19 fo_6_22 (by omega) lo_1 rfl (sh_1_1 hX (by omega)) (by decide) ?_
  refine ev_getI dX6_seekFrom_22 fo_6_36 (by omega) lo_23 rfl ?_
  refine ev_icmpF (tgt := 116) dX6_seekFrom_25 (by decide) c0 ?_
  refine ev_aload_n dX6_seekFrom_28 rfl ?_
  refine ev_getI dX6_seekFrom_29 fo_6_76 (by omega) lo_84 rfl ?_
  refine ev_aload_n dX6_seekFrom_32 rfl ?_
  refine ev_getI dX6_seekFrom_33 fo_6_73 (by omega) lo_84 rfl ?_
  refine ev_icmpT (tgt := 116) dX6_seekFrom_36 (by decide) c1 ?_
  exact ev_ret dX6_seekFrom_116 rfl hp
theorem bX6_seekFrom_13_4 {g : GG} {d n : Nat} {post : Option Value → LX → Prop} {X : LX} (hn : 146 ≤ n) (hX : Sh n X) {v1 : Int32} {v2 : Int32} {v3 : Int32} {v4 : Int32} {v5 : Int32} (c0 : X 23 0 ≤ v5) (hp : post none X) : Ev g mX6_seekFrom d n n post n 13 [some (.ref 84), some (.int v1), some (.int v2), some (.int v3), some (.int v4), some (.int v5), none] [] X := by
  refine ev_iload dX6_seekFrom_13 rfl ?_
  refine ev_aload_n dX6_seekFrom_15 rfl ?_
  refine ev_getS (q := 1) dX6_seekFrom_16 fo_6_18 (by omega) lo_84 rfl (sh_84_0 hX (by omega)) (by decide) ?_
  refine ev_getS (q := 23) dX6_seekFrom_19 fo_6_22 (by omega) lo_1 rfl (sh_1_1 hX (by omega)) (by decide) ?_
  refine ev_getI dX6_seekFrom_22 fo_6_36 (by omega) lo_23 rfl ?_
  refine ev_icmpT (tgt := 116) dX6_seekFrom_25 (by decide) c0 ?_
  exact ev_ret dX6_seekFrom_116 rfl hp
theorem bX6_seekFrom_110_0 {g : GG} {d n : Nat} {post : Option Value → LX → Prop} {X : LX} (hn : 146 ≤ n) (hX : Sh n X) {v1 : Int32} {v2 : Int32} {v3 : Int32} {v4 : Int32} {v5 : Int32} {v6 : Int32} (k : Ev g mX6_seekFrom d n n post n 13 [some (.ref 84), some (.int v1), some (.int v2), some (.int v3), some (.int v4), some (.int (v5 + 1)), none] [] X) : Ev g mX6_seekFrom d n n post n 110 [some (.ref 84), some (.int v1), some (.int v2), some (.int v3), some (.int v4), some (.int v5), some (.int v6)] [] X := by
  refine ev_iinc (v := v5 + 1) dX6_seekFrom_110 rfl (by rw [show Int32.ofInt 1 = 1 from ki_1]) (by decide) ?_
  refine ev_goto (tgt := 13) dX6_seekFrom_113 (by decide) ?_
  refine ev_wk (L := [some (.ref 84), some (.int v1), some (.int v2), some (.int v3), some (.int v4), some (.int (v5 + 1)), some (.int v6)]) (L' := [some (.ref 84), some (.int v1), some (.int v2), some (.int v3), some (.int v4), some (.int (v5 + 1)), none]) (by simp [lwk]) ?_
  exact k
theorem bX6_seek_0_0 {g : GG} {d n : Nat} {post : Option Value → LX → Prop} {X : LX} (hn : 146 ≤ n) (hX : Sh n X) {v1 : Int32} {v2 : Int32} (k : Ev g mX6_seek d n n post n 1 [some (.ref 84), some (.int v1), some (.int v2)] [.ref 84] X) : Ev g mX6_seek d n n post n 0 [some (.ref 84), some (.int v1), some (.int v2)] [] X := by
  refine ev_aload_n dX6_seek_0 rfl ?_
  exact k
theorem bX6_seek_4_0 {g : GG} {d n : Nat} {post : Option Value → LX → Prop} {X : LX} (hn : 146 ≤ n) (hX : Sh n X) {v1 : Int32} {v2 : Int32} (k : Ev g mX6_seek d n n post n 34 [some (.ref 84), some (.int v1), some (.int v2)] [.int 0, .int 0, .int v1, .int 0, .ref 84] (lx_up (lx_up (lx_up (lx_up (lx_up X 84 4 v2) 84 5 0) 84 6 (-1)) 84 7 0) 84 8 0)) : Ev g mX6_seek d n n post n 4 [some (.ref 84), some (.int v1), some (.int v2)] [] X := by
  refine ev_aload_n dX6_seek_4 rfl ?_
  refine ev_iload_n dX6_seek_5 rfl ?_
  refine ev_putI dX6_seek_6 fo_6_73 (by omega) lo_84 rfl rfl rfl ?_
  have hX1 : Sh _ (lx_up X 84 4 v2) := Sh.upF hX (by rw [lo_84]; decide) (by decide)
  refine ev_aload_n dX6_seek_9 rfl ?_
  refine ev_iconst (v := 0) dX6_seek_10 ki_0 ?_
  refine ev_putI dX6_seek_11 fo_6_76 (by omega) lo_84 rfl rfl rfl ?_
  have hX2 : Sh _ (lx_up (lx_up X 84 4 v2) 84 5 0) := Sh.upF hX1 (by rw [lo_84]; decide) (by decide)
  refine ev_aload_n dX6_seek_14 rfl ?_
  refine ev_iconst (v := (-1)) dX6_seek_15 ki_m1 ?_
  refine ev_putI dX6_seek_16 fo_6_79 (by omega) lo_84 rfl rfl rfl ?_
  have hX3 : Sh _ (lx_up (lx_up (lx_up X 84 4 v2) 84 5 0) 84 6 (-1)) := Sh.upF hX2 (by rw [lo_84]; decide) (by decide)
  refine ev_aload_n dX6_seek_19 rfl ?_
  refine ev_iconst (v := 0) dX6_seek_20 ki_0 ?_
  refine ev_putI dX6_seek_21 fo_6_82 (by omega) lo_84 rfl rfl rfl ?_
  have hX4 : Sh _ (lx_up (lx_up (lx_up (lx_up X 84 4 v2) 84 5 0) 84 6 (-1)) 84 7 0) := Sh.upF hX3 (by rw [lo_84]; decide) (by decide)
  refine ev_aload_n dX6_seek_24 rfl ?_
  refine ev_iconst (v := 0) dX6_seek_25 ki_0 ?_
  refine ev_putI dX6_seek_26 fo_6_85 (by omega) lo_84 rfl rfl rfl ?_
  have hX5 : Sh _ (lx_up (lx_up (lx_up (lx_up (lx_up X 84 4 v2) 84 5 0) 84 6 (-1)) 84 7 0) 84 8 0) := Sh.upF hX4 (by rw [lo_84]; decide) (by decide)
  refine ev_aload_n dX6_seek_29 rfl ?_
  refine ev_iconst (v := 0) dX6_seek_30 ki_0 ?_
  refine ev_iload_n dX6_seek_31 rfl ?_
  refine ev_iconst (v := 0) dX6_seek_32 ki_0 ?_
  refine ev_iconst (v := 0) dX6_seek_33 ki_0 ?_
  exact k
theorem bX6_seek_37_0 {g : GG} {d n : Nat} {post : Option Value → LX → Prop} {X : LX} (hn : 146 ≤ n) (hX : Sh n X) {v1 : Int32} {v2 : Int32} (c0 : ¬ X 84 5 ≤ X 84 4) (hp : post (some (.int (-1000000004))) X) : Ev g mX6_seek d n n post n 37 [some (.ref 84), some (.int v1), some (.int v2)] [] X := by
  refine ev_aload_n dX6_seek_37 rfl ?_
  refine ev_getI dX6_seek_38 fo_6_76 (by omega) lo_84 rfl ?_
  refine ev_aload_n dX6_seek_41 rfl ?_
  refine ev_getI dX6_seek_42 fo_6_73 (by omega) lo_84 rfl ?_
  refine ev_icmpF (tgt := 51) dX6_seek_45 (by decide) c0 ?_
  refine ev_ldc (v := (-1000000004)) dX6_seek_48 kw_6_92 ?_
  exact ev_iret dX6_seek_50 rfl rfl hp
theorem bX6_seek_37_1 {g : GG} {d n : Nat} {post : Option Value → LX → Prop} {X : LX} (hn : 146 ≤ n) (hX : Sh n X) {v1 : Int32} {v2 : Int32} (c0 : X 84 5 ≤ X 84 4) (c1 : ¬ 0 ≤ X 84 6) (hp : post (some (.int (-1000000002))) X) : Ev g mX6_seek d n n post n 37 [some (.ref 84), some (.int v1), some (.int v2)] [] X := by
  refine ev_aload_n dX6_seek_37 rfl ?_
  refine ev_getI dX6_seek_38 fo_6_76 (by omega) lo_84 rfl ?_
  refine ev_aload_n dX6_seek_41 rfl ?_
  refine ev_getI dX6_seek_42 fo_6_73 (by omega) lo_84 rfl ?_
  refine ev_icmpT (tgt := 51) dX6_seek_45 (by decide) c0 ?_
  refine ev_aload_n dX6_seek_51 rfl ?_
  refine ev_getI dX6_seek_52 fo_6_79 (by omega) lo_84 rfl ?_
  refine ev_ifF (tgt := 63) dX6_seek_55 (by decide) c1 ?_
  refine ev_ldc (v := (-1000000002)) dX6_seek_58 kw_6_93 ?_
  refine ev_goto (tgt := 64) dX6_seek_60 (by decide) ?_
  exact ev_iret dX6_seek_64 rfl rfl hp
theorem bX6_seek_37_2 {g : GG} {d n : Nat} {post : Option Value → LX → Prop} {X : LX} (hn : 146 ≤ n) (hX : Sh n X) {v1 : Int32} {v2 : Int32} (c0 : X 84 5 ≤ X 84 4) (c1 : 0 ≤ X 84 6) (hp : post (some (.int 0)) X) : Ev g mX6_seek d n n post n 37 [some (.ref 84), some (.int v1), some (.int v2)] [] X := by
  refine ev_aload_n dX6_seek_37 rfl ?_
  refine ev_getI dX6_seek_38 fo_6_76 (by omega) lo_84 rfl ?_
  refine ev_aload_n dX6_seek_41 rfl ?_
  refine ev_getI dX6_seek_42 fo_6_73 (by omega) lo_84 rfl ?_
  refine ev_icmpT (tgt := 51) dX6_seek_45 (by decide) c0 ?_
  refine ev_aload_n dX6_seek_51 rfl ?_
  refine ev_getI dX6_seek_52 fo_6_79 (by omega) lo_84 rfl ?_
  refine ev_ifT (tgt := 63) dX6_seek_55 (by decide) c1 ?_
  refine ev_iconst (v := 0) dX6_seek_63 ki_0 ?_
  exact ev_iret dX6_seek_64 rfl rfl hp
theorem bX12_keptBy_0_0 {g : GG} {d n : Nat} {post : Option Value → LX → Prop} {X : LX} (hd : 1 ≤ d) (hn : 146 ≤ n) (hX : Sh n X) {v1 : Int32} (c0 : ones v1 = 1) (k : Ev g mX12_keptBy d n n post n 19 [some (.ref 133), some (.int v1), some (.int 1), some (.int 0), some (.int 0), none, none] [] X) : Ev g mX12_keptBy d n n post n 0 [some (.ref 133), some (.int v1), none, none, none, none, none] [] X := by
  refine ev_iload_n dX12_keptBy_0 rfl ?_
  refine e_Si (as := [.int v1]) (rest := []) dX12_keptBy_1 vX12_ones ml_12_109 stX12_ones npX12_ones (by decide) rfl (Nat.le_of_ble_eq_true rfl) (by omega) (k_X12_ones (d := d - 1) (by omega) (by omega) hX ) ?_
  refine ev_iconst (v := 1) dX12_keptBy_4 ki_1 ?_
  refine ev_icmpF (tgt := 12) dX12_keptBy_5 (by decide) c0 ?_
  refine ev_iconst (v := 1) dX12_keptBy_8 ki_1 ?_
  refine ev_goto (tgt := 13) dX12_keptBy_9 (by decide) ?_
  refine ev_istore_n dX12_keptBy_13 (by decide) ?_
  refine ev_iconst (v := 0) dX12_keptBy_14 ki_0 ?_
  refine ev_istore_n dX12_keptBy_15 (by decide) ?_
  refine ev_iconst (v := 0) dX12_keptBy_16 ki_0 ?_
  refine ev_istore dX12_keptBy_17 (by decide) ?_
  exact k
theorem bX12_keptBy_0_1 {g : GG} {d n : Nat} {post : Option Value → LX → Prop} {X : LX} (hd : 1 ≤ d) (hn : 146 ≤ n) (hX : Sh n X) {v1 : Int32} (c0 : ¬ ones v1 = 1) (k : Ev g mX12_keptBy d n n post n 19 [some (.ref 133), some (.int v1), some (.int 2), some (.int 0), some (.int 0), none, none] [] X) : Ev g mX12_keptBy d n n post n 0 [some (.ref 133), some (.int v1), none, none, none, none, none] [] X := by
  refine ev_iload_n dX12_keptBy_0 rfl ?_
  refine e_Si (as := [.int v1]) (rest := []) dX12_keptBy_1 vX12_ones ml_12_109 stX12_ones npX12_ones (by decide) rfl (Nat.le_of_ble_eq_true rfl) (by omega) (k_X12_ones (d := d - 1) (by omega) (by omega) hX ) ?_
  refine ev_iconst (v := 1) dX12_keptBy_4 ki_1 ?_
  refine ev_icmpT (tgt := 12) dX12_keptBy_5 (by decide) c0 ?_
  refine ev_iconst (v := 2) dX12_keptBy_12 ki_2 ?_
  refine ev_istore_n dX12_keptBy_13 (by decide) ?_
  refine ev_iconst (v := 0) dX12_keptBy_14 ki_0 ?_
  refine ev_istore_n dX12_keptBy_15 (by decide) ?_
  refine ev_iconst (v := 0) dX12_keptBy_16 ki_0 ?_
  refine ev_istore dX12_keptBy_17 (by decide) ?_
  exact k
theorem bX12_keptBy_19_0 {g : GG} {d n : Nat} {post : Option Value → LX → Prop} {X : LX} (hn : 146 ≤ n) (hX : Sh n X) {v1 : Int32} {v2 : Int32} {v3 : Int32} {v4 : Int32} (c0 : ¬ X 134 6 ≤ v4) (k : Ev g mX12_keptBy d n n post n 37 [some (.ref 133), some (.int v1), some (.int v2), some (.int v3), some (.int v4), some (.int 0), some (.int 0)] [] X) : Ev g mX12_keptBy d n n post n 19 [some (.ref 133), some (.int v1), some (.int v2), some (.int v3), some (.int v4), none, none] [] X := by
  refine ev_iload dX12_keptBy_19 rfl ?_
  refine ev_aload_n dX12_keptBy_21 rfl ?_
  refine ev_getS (q := 134) dX12_keptBy_22 fo_12_9 (by omega) lo_133 rfl (sh_133_0 hX (by omega)) (by decide) ?_
  refine ev_bipush (v := 6) dX12_keptBy_25 kb_6 ?_
  refine ev_iald dX12_keptBy_27 (by omega) ly_134 nIl_6 (by decide) ?_
  refine ev_icmpF (tgt := 118) dX12_keptBy_28 (by decide) c0 ?_
  refine ev_iconst (v := 0) dX12_keptBy_31 ki_0 ?_
  refine ev_istore dX12_keptBy_32 (by decide) ?_
  refine ev_iconst (v := 0) dX12_keptBy_34 ki_0 ?_
  refine ev_istore dX12_keptBy_35 (by decide) ?_
  exact k
theorem bX12_keptBy_19_1 {g : GG} {d n : Nat} {post : Option Value → LX → Prop} {X : LX} (hn : 146 ≤ n) (hX : Sh n X) {v1 : Int32} {v2 : Int32} {v3 : Int32} {v4 : Int32} (c0 : X 134 6 ≤ v4) (hp : post (some (.int v3)) X) : Ev g mX12_keptBy d n n post n 19 [some (.ref 133), some (.int v1), some (.int v2), some (.int v3), some (.int v4), none, none] [] X := by
  refine ev_iload dX12_keptBy_19 rfl ?_
  refine ev_aload_n dX12_keptBy_21 rfl ?_
  refine ev_getS (q := 134) dX12_keptBy_22 fo_12_9 (by omega) lo_133 rfl (sh_133_0 hX (by omega)) (by decide) ?_
  refine ev_bipush (v := 6) dX12_keptBy_25 kb_6 ?_
  refine ev_iald dX12_keptBy_27 (by omega) ly_134 nIl_6 (by decide) ?_
  refine ev_icmpT (tgt := 118) dX12_keptBy_28 (by decide) c0 ?_
  refine ev_iload_n dX12_keptBy_118 rfl ?_
  exact ev_iret dX12_keptBy_119 rfl rfl hp
theorem bX12_keptBy_37_0 {g : GG} {d n : Nat} {post : Option Value → LX → Prop} {X : LX} (hd : 3 ≤ d) (hn : 146 ≤ n) (hX : Sh n X) {v1 : Int32} {v2 : Int32} {v3 : Int32} {v4 : Nat} {v5 : Int32} {v6 : Nat} (c0 : ¬ 10 ≤ nI v6) (c1 : (v1 >>> ((nI v6) &&& 31)) &&& 1 = 1) (c2 : v4 < 12) (c3 : v6 < 10) (c4 : okM X v6) (c5 : mMay X v4 v6) (b0 : ((448 + (15 * v4)) + (5 + v6)) < 2156) (c6 : ¬ X 134 ((448 + (15 * v4)) + (5 + v6)) < 5) (k : Ev g mX12_keptBy d n n post n 37 [some (.ref 133), some (.int v1), some (.int v2), some (.int v3), some (.int (nI v4)), some (.int (v5 + 1)), some (.int ((nI v6) + 1))] [] X) : Ev g mX12_keptBy d n n post n 37 [some (.ref 133), some (.int v1), some (.int v2), some (.int v3), some (.int (nI v4)), some (.int v5), some (.int (nI v6))] [] X := by
  refine ev_iload dX12_keptBy_37 rfl ?_
  refine ev_bipush (v := 10) dX12_keptBy_39 kb_10 ?_
  refine ev_icmpF (tgt := 98) dX12_keptBy_41 (by decide) c0 ?_
  refine ev_iload dX12_keptBy_44 rfl ?_
  refine ev_iload_n dX12_keptBy_46 rfl ?_
  refine ev_iload dX12_keptBy_47 rfl ?_
  refine e_Si (as := [.int v1, .int (nI v6)]) (rest := [.int v5]) dX12_keptBy_49 vX12_has ml_12_76 stX12_has npX12_has (by decide) rfl (Nat.le_of_ble_eq_true rfl) (by omega) (t_X12_has (d := d - 1) (by omega) (by omega) hX c1) ?_
  refine ev_ifF (tgt := 88) dX12_keptBy_52 (by decide) (by show ¬ (1 : Int32) = 0; decide) ?_
  refine ev_aload_n dX12_keptBy_55 rfl ?_
  refine ev_iload dX12_keptBy_56 rfl ?_
  refine ev_iload dX12_keptBy_58 rfl ?_
  refine e_Vi (as := [.int (nI v4), .int (nI v6)]) (rest := [.int v5]) dX12_keptBy_60 vX12_mayEat ml_12_106 isX12_mayEat seX12_mayEat npX12_mayEat (rc_133 (by omega)) (by decide) rfl (Nat.le_of_ble_eq_true rfl) (by omega) (t_X12_mayEat (d := d - 1) (by omega) (by omega) hX c2 c3 c4 c5) ?_
  refine ev_ifF (tgt := 88) dX12_keptBy_63 (by decide) (by show ¬ (1 : Int32) = 0; decide) ?_
  refine ev_aload_n dX12_keptBy_66 rfl ?_
  refine ev_getS (q := 134) dX12_keptBy_67 fo_12_9 (by omega) lo_133 rfl (sh_133_0 hX (by omega)) (by decide) ?_
  refine ev_iload dX12_keptBy_70 rfl ?_
  refine ev_iconst (v := 5) dX12_keptBy_72 ki_5 ?_
  refine ev_iload dX12_keptBy_73 rfl ?_
  refine ev_iadd dX12_keptBy_75 ?_
  refine e_Si (as := [.int (nI v4), .int (5 + (nI v6))]) (rest := [.ref 134, .int v5]) dX12_keptBy_76 vX12_ofFamily ml_12_99 stX12_ofFamily npX12_ofFamily (by decide) rfl (Nat.le_of_ble_eq_true rfl) (by omega) (c_X12_ofFamily (d := d - 1) (by omega) (by omega) hX ) ?_
  refine ev_iald dX12_keptBy_79 (by omega) ly_134 (by show (nI 448 + (nI 15 * nI v4)) + (nI 5 + nI v6) = nI ((448 + (15 * v4)) + (5 + v6)); simp only [pk_mul, nI_add]) b0 ?_
  refine ev_iconst (v := 5) dX12_keptBy_80 ki_5 ?_
  refine ev_icmpF (tgt := 88) dX12_keptBy_81 (by decide) c6 ?_
  refine ev_iconst (v := 1) dX12_keptBy_84 ki_1 ?_
  refine ev_goto (tgt := 89) dX12_keptBy_85 (by decide) ?_
  refine ev_iadd dX12_keptBy_89 ?_
  refine ev_istore dX12_keptBy_90 (by decide) ?_
  refine ev_iinc (v := (nI v6) + 1) dX12_keptBy_92 rfl (by rw [show Int32.ofInt 1 = 1 from ki_1]) (by decide) ?_
  refine ev_goto (tgt := 37) dX12_keptBy_95 (by decide) ?_
  exact k
theorem bX12_keptBy_37_1 {g : GG} {d n : Nat} {post : Option Value → LX → Prop} {X : LX} (hd : 3 ≤ d) (hn : 146 ≤ n) (hX : Sh n X) {v1 : Int32} {v2 : Int32} {v3 : Int32} {v4 : Nat} {v5 : Int32} {v6 : Nat} (c0 : ¬ 10 ≤ nI v6) (c1 : (v1 >>> ((nI v6) &&& 31)) &&& 1 = 1) (c2 : v4 < 12) (c3 : v6 < 10) (c4 : okM X v6) (c5 : mMay X v4 v6) (b0 : ((448 + (15 * v4)) + (5 + v6)) < 2156) (c6 : X 134 ((448 + (15 * v4)) + (5 + v6)) < 5) (k : Ev g mX12_keptBy d n n post n 37 [some (.ref 133), some (.int v1), some (.int v2), some (.int v3), some (.int (nI v4)), some (.int (v5 + 0)), some (.int ((nI v6) + 1))] [] X) : Ev g mX12_keptBy d n n post n 37 [some (.ref 133), some (.int v1), some (.int v2), some (.int v3), some (.int (nI v4)), some (.int v5), some (.int (nI v6))] [] X := by
  refine ev_iload dX12_keptBy_37 rfl ?_
  refine ev_bipush (v := 10) dX12_keptBy_39 kb_10 ?_
  refine ev_icmpF (tgt := 98) dX12_keptBy_41 (by decide) c0 ?_
  refine ev_iload dX12_keptBy_44 rfl ?_
  refine ev_iload_n dX12_keptBy_46 rfl ?_
  refine ev_iload dX12_keptBy_47 rfl ?_
  refine e_Si (as := [.int v1, .int (nI v6)]) (rest := [.int v5]) dX12_keptBy_49 vX12_has ml_12_76 stX12_has npX12_has (by decide) rfl (Nat.le_of_ble_eq_true rfl) (by omega) (t_X12_has (d := d - 1) (by omega) (by omega) hX c1) ?_
  refine ev_ifF (tgt := 88) dX12_keptBy_52 (by decide) (by show ¬ (1 : Int32) = 0; decide) ?_
  refine ev_aload_n dX12_keptBy_55 rfl ?_
  refine ev_iload dX12_keptBy_56 rfl ?_
  refine ev_iload dX12_keptBy_58 rfl ?_
  refine e_Vi (as := [.int (nI v4), .int (nI v6)]) (rest := [.int v5]) dX12_keptBy_60 vX12_mayEat ml_12_106 isX12_mayEat seX12_mayEat npX12_mayEat (rc_133 (by omega)) (by decide) rfl (Nat.le_of_ble_eq_true rfl) (by omega) (t_X12_mayEat (d := d - 1) (by omega) (by omega) hX c2 c3 c4 c5) ?_
  refine ev_ifF (tgt := 88) dX12_keptBy_63 (by decide) (by show ¬ (1 : Int32) = 0; decide) ?_
  refine ev_aload_n dX12_keptBy_66 rfl ?_
  refine ev_getS (q := 134) dX12_keptBy_67 fo_12_9 (by omega) lo_133 rfl (sh_133_0 hX (by omega)) (by decide) ?_
  refine ev_iload dX12_keptBy_70 rfl ?_
  refine ev_iconst (v := 5) dX12_keptBy_72 ki_5 ?_
  refine ev_iload dX12_keptBy_73 rfl ?_
  refine ev_iadd dX12_keptBy_75 ?_
  refine e_Si (as := [.int (nI v4), .int (5 + (nI v6))]) (rest := [.ref 134, .int v5]) dX12_keptBy_76 vX12_ofFamily ml_12_99 stX12_ofFamily npX12_ofFamily (by decide) rfl (Nat.le_of_ble_eq_true rfl) (by omega) (c_X12_ofFamily (d := d - 1) (by omega) (by omega) hX ) ?_
  refine ev_iald dX12_keptBy_79 (by omega) ly_134 (by show (nI 448 + (nI 15 * nI v4)) + (nI 5 + nI v6) = nI ((448 + (15 * v4)) + (5 + v6)); simp only [pk_mul, nI_add]) b0 ?_
  refine ev_iconst (v := 5) dX12_keptBy_80 ki_5 ?_
  refine ev_icmpT (tgt := 88) dX12_keptBy_81 (by decide) c6 ?_
  refine ev_iconst (v := 0) dX12_keptBy_88 ki_0 ?_
  refine ev_iadd dX12_keptBy_89 ?_
  refine ev_istore dX12_keptBy_90 (by decide) ?_
  refine ev_iinc (v := (nI v6) + 1) dX12_keptBy_92 rfl (by rw [show Int32.ofInt 1 = 1 from ki_1]) (by decide) ?_
  refine ev_goto (tgt := 37) dX12_keptBy_95 (by decide) ?_
  exact k
theorem bX12_keptBy_37_2 {g : GG} {d n : Nat} {post : Option Value → LX → Prop} {X : LX} (hd : 3 ≤ d) (hn : 146 ≤ n) (hX : Sh n X) {v1 : Int32} {v2 : Int32} {v3 : Int32} {v4 : Nat} {v5 : Int32} {v6 : Nat} (c0 : ¬ 10 ≤ nI v6) (c1 : (v1 >>> ((nI v6) &&& 31)) &&& 1 = 1) (c2 : v4 < 12) (c3 : v6 < 10) (c4 : okM X v6) (c5 : ¬ (mMay X v4 v6)) (k : Ev g mX12_keptBy d n n post n 37 [some (.ref 133), some (.int v1), some (.int v2), some (.int v3), some (.int (nI v4)), some (.int (v5 + 0)), some (.int ((nI v6) + 1))] [] X) : Ev g mX12_keptBy d n n post n 37 [some (.ref 133), some (.int v1), some (.int v2), some (.int v3), some (.int (nI v4)), some (.int v5), some (.int (nI v6))] [] X := by
  refine ev_iload dX12_keptBy_37 rfl ?_
  refine ev_bipush (v := 10) dX12_keptBy_39 kb_10 ?_
  refine ev_icmpF (tgt := 98) dX12_keptBy_41 (by decide) c0 ?_
  refine ev_iload dX12_keptBy_44 rfl ?_
  refine ev_iload_n dX12_keptBy_46 rfl ?_
  refine ev_iload dX12_keptBy_47 rfl ?_
  refine e_Si (as := [.int v1, .int (nI v6)]) (rest := [.int v5]) dX12_keptBy_49 vX12_has ml_12_76 stX12_has npX12_has (by decide) rfl (Nat.le_of_ble_eq_true rfl) (by omega) (t_X12_has (d := d - 1) (by omega) (by omega) hX c1) ?_
  refine ev_ifF (tgt := 88) dX12_keptBy_52 (by decide) (by show ¬ (1 : Int32) = 0; decide) ?_
  refine ev_aload_n dX12_keptBy_55 rfl ?_
  refine ev_iload dX12_keptBy_56 rfl ?_
  refine ev_iload dX12_keptBy_58 rfl ?_
  refine e_Vi (as := [.int (nI v4), .int (nI v6)]) (rest := [.int v5]) dX12_keptBy_60 vX12_mayEat ml_12_106 isX12_mayEat seX12_mayEat npX12_mayEat (rc_133 (by omega)) (by decide) rfl (Nat.le_of_ble_eq_true rfl) (by omega) (f_X12_mayEat (d := d - 1) (by omega) (by omega) hX c2 c3 c4 c5) ?_
  refine ev_ifT (tgt := 88) dX12_keptBy_63 (by decide) (by show (0 : Int32) = 0; decide) ?_
  refine ev_iconst (v := 0) dX12_keptBy_88 ki_0 ?_
  refine ev_iadd dX12_keptBy_89 ?_
  refine ev_istore dX12_keptBy_90 (by decide) ?_
  refine ev_iinc (v := (nI v6) + 1) dX12_keptBy_92 rfl (by rw [show Int32.ofInt 1 = 1 from ki_1]) (by decide) ?_
  refine ev_goto (tgt := 37) dX12_keptBy_95 (by decide) ?_
  exact k
theorem bX12_keptBy_37_3 {g : GG} {d n : Nat} {post : Option Value → LX → Prop} {X : LX} (hd : 1 ≤ d) (hn : 146 ≤ n) (hX : Sh n X) {v1 : Int32} {v2 : Int32} {v3 : Int32} {v4 : Int32} {v5 : Int32} {v6 : Int32} (c0 : ¬ 10 ≤ v6) (c1 : ¬ ((v1 >>> (v6 &&& 31)) &&& 1 = 1)) (k : Ev g mX12_keptBy d n n post n 37 [some (.ref 133), some (.int v1), some (.int v2), some (.int v3), some (.int v4), some (.int (v5 + 0)), some (.int (v6 + 1))] [] X) : Ev g mX12_keptBy d n n post n 37 [some (.ref 133), some (.int v1), some (.int v2), some (.int v3), some (.int v4), some (.int v5), some (.int v6)] [] X := by
  refine ev_iload dX12_keptBy_37 rfl ?_
  refine ev_bipush (v := 10) dX12_keptBy_39 kb_10 ?_
  refine ev_icmpF (tgt := 98) dX12_keptBy_41 (by decide) c0 ?_
  refine ev_iload dX12_keptBy_44 rfl ?_
  refine ev_iload_n dX12_keptBy_46 rfl ?_
  refine ev_iload dX12_keptBy_47 rfl ?_
  refine e_Si (as := [.int v1, .int v6]) (rest := [.int v5]) dX12_keptBy_49 vX12_has ml_12_76 stX12_has npX12_has (by decide) rfl (Nat.le_of_ble_eq_true rfl) (by omega) (f_X12_has (d := d - 1) (by omega) (by omega) hX c1) ?_
  refine ev_ifT (tgt := 88) dX12_keptBy_52 (by decide) (by show (0 : Int32) = 0; decide) ?_
  refine ev_iconst (v := 0) dX12_keptBy_88 ki_0 ?_
  refine ev_iadd dX12_keptBy_89 ?_
  refine ev_istore dX12_keptBy_90 (by decide) ?_
  refine ev_iinc (v := v6 + 1) dX12_keptBy_92 rfl (by rw [show Int32.ofInt 1 = 1 from ki_1]) (by decide) ?_
  refine ev_goto (tgt := 37) dX12_keptBy_95 (by decide) ?_
  exact k
theorem bX12_keptBy_37_4 {g : GG} {d n : Nat} {post : Option Value → LX → Prop} {X : LX} (hn : 146 ≤ n) (hX : Sh n X) {v1 : Int32} {v2 : Int32} {v3 : Int32} {v4 : Int32} {v5 : Int32} {v6 : Int32} (c0 : 10 ≤ v6) (c1 : ¬ v5 < v2) (k : Ev g mX12_keptBy d n n post n 19 [some (.ref 133), some (.int v1), some (.int v2), some (.int (v3 + 1)), some (.int (v4 + 1)), none, none] [] X) : Ev g mX12_keptBy d n n post n 37 [some (.ref 133), some (.int v1), some (.int v2), some (.int v3), some (.int v4), some (.int v5), some (.int v6)] [] X := by
  refine ev_iload dX12_keptBy_37 rfl ?_
  refine ev_bipush (v := 10) dX12_keptBy_39 kb_10 ?_
  refine ev_icmpT (tgt := 98) dX12_keptBy_41 (by decide) c0 ?_
  refine ev_iload_n dX12_keptBy_98 rfl ?_
  refine ev_iload dX12_keptBy_99 rfl ?_
  refine ev_iload_n dX12_keptBy_101 rfl ?_
  refine ev_icmpF (tgt := 109) dX12_keptBy_102 (by decide) c1 ?_
  refine ev_iconst (v := 1) dX12_keptBy_105 ki_1 ?_
  refine ev_goto (tgt := 110) dX12_keptBy_106 (by decide) ?_
  refine ev_iadd dX12_keptBy_110 ?_
  refine ev_istore_n dX12_keptBy_111 (by decide) ?_
  refine ev_iinc (v := v4 + 1) dX12_keptBy_112 rfl (by rw [show Int32.ofInt 1 = 1 from ki_1]) (by decide) ?_
  refine ev_goto (tgt := 19) dX12_keptBy_115 (by decide) ?_
  refine ev_wk (L := [some (.ref 133), some (.int v1), some (.int v2), some (.int (v3 + 1)), some (.int (v4 + 1)), some (.int v5), some (.int v6)]) (L' := [some (.ref 133), some (.int v1), some (.int v2), some (.int (v3 + 1)), some (.int (v4 + 1)), none, none]) (by simp [lwk]) ?_
  exact k
theorem bX12_keptBy_37_5 {g : GG} {d n : Nat} {post : Option Value → LX → Prop} {X : LX} (hn : 146 ≤ n) (hX : Sh n X) {v1 : Int32} {v2 : Int32} {v3 : Int32} {v4 : Int32} {v5 : Int32} {v6 : Int32} (c0 : 10 ≤ v6) (c1 : v5 < v2) (k : Ev g mX12_keptBy d n n post n 19 [some (.ref 133), some (.int v1), some (.int v2), some (.int (v3 + 0)), some (.int (v4 + 1)), none, none] [] X) : Ev g mX12_keptBy d n n post n 37 [some (.ref 133), some (.int v1), some (.int v2), some (.int v3), some (.int v4), some (.int v5), some (.int v6)] [] X := by
  refine ev_iload dX12_keptBy_37 rfl ?_
  refine ev_bipush (v := 10) dX12_keptBy_39 kb_10 ?_
  refine ev_icmpT (tgt := 98) dX12_keptBy_41 (by decide) c0 ?_
  refine ev_iload_n dX12_keptBy_98 rfl ?_
  refine ev_iload dX12_keptBy_99 rfl ?_
  refine ev_iload_n dX12_keptBy_101 rfl ?_
  refine ev_icmpT (tgt := 109) dX12_keptBy_102 (by decide) c1 ?_
  refine ev_iconst (v := 0) dX12_keptBy_109 ki_0 ?_
  refine ev_iadd dX12_keptBy_110 ?_
  refine ev_istore_n dX12_keptBy_111 (by decide) ?_
  refine ev_iinc (v := v4 + 1) dX12_keptBy_112 rfl (by rw [show Int32.ofInt 1 = 1 from ki_1]) (by decide) ?_
  refine ev_goto (tgt := 19) dX12_keptBy_115 (by decide) ?_
  refine ev_wk (L := [some (.ref 133), some (.int v1), some (.int v2), some (.int (v3 + 0)), some (.int (v4 + 1)), some (.int v5), some (.int v6)]) (L' := [some (.ref 133), some (.int v1), some (.int v2), some (.int (v3 + 0)), some (.int (v4 + 1)), none, none]) (by simp [lwk]) ?_
  exact k
theorem bX12_takeMenu_0_0 {g : GG} {d n : Nat} {post : Option Value → LX → Prop} {X : LX} (hn : 146 ≤ n) (hX : Sh n X) {v1 : Int32} (k : Ev g mX12_takeMenu d n n post n 7 [some (.ref 133), some (.int v1), some (.int 0), some (.int 0), some (.int 0)] [] X) : Ev g mX12_takeMenu d n n post n 0 [some (.ref 133), some (.int v1), none, none, none] [] X := by
  refine ev_iconst (v := 0) dX12_takeMenu_0 ki_0 ?_
  refine ev_istore_n dX12_takeMenu_1 (by decide) ?_
  refine ev_iconst (v := 0) dX12_takeMenu_2 ki_0 ?_
  refine ev_istore_n dX12_takeMenu_3 (by decide) ?_
  refine ev_iconst (v := 0) dX12_takeMenu_4 ki_0 ?_
  refine ev_istore dX12_takeMenu_5 (by decide) ?_
  exact k
theorem bX12_takeMenu_7_0 {g : GG} {d n : Nat} {post : Option Value → LX → Prop} {X : LX} (hd : 2 ≤ d) (hn : 146 ≤ n) (hX : Sh n X) {v1 : Int32} {v2 : Int32} {v3 : Int32} {v4 : Nat} (c0 : ¬ 10 ≤ nI v4) (c1 : v2 = 0) (c2 : (v1 >>> ((nI v4) &&& 31)) &&& 1 = 1) (c3 : v4 < 10) (c4 : 2 ≤ X 134 (318 + 13 * v4 + 0)) (c5 : okM X v4) (k : Ev g mX12_takeMenu d n n post n 7 [some (.ref 133), some (.int v1), some (.int 1), some (.int (v3 + (mCost X v4))), some (.int ((nI v4) + 1))] [] X) : Ev g mX12_takeMenu d n n post n 7 [some (.ref 133), some (.int v1), some (.int v2), some (.int v3), some (.int (nI v4))] [] X := by
  refine ev_iload dX12_takeMenu_7 rfl ?_
  refine ev_bipush (v := 10) dX12_takeMenu_9 kb_10 ?_
  refine ev_icmpF (tgt := 70) dX12_takeMenu_11 (by decide) c0 ?_
  refine ev_iload_n dX12_takeMenu_14 rfl ?_
  refine ev_ifF (tgt := 36) dX12_takeMenu_15 (by decide) c1 ?_
  refine ev_iload_n dX12_takeMenu_18 rfl ?_
  refine ev_iload dX12_takeMenu_19 rfl ?_
  refine e_Si (as := [.int v1, .int (nI v4)]) (rest := []) dX12_takeMenu_21 vX12_has ml_12_76 stX12_has npX12_has (by decide) rfl (Nat.le_of_ble_eq_true rfl) (by omega) (t_X12_has (d := d - 1) (by omega) (by omega) hX c2) ?_
  refine ev_ifF (tgt := 40) dX12_takeMenu_24 (by decide) (by show ¬ (1 : Int32) = 0; decide) ?_
  refine ev_aload_n dX12_takeMenu_27 rfl ?_
  refine ev_iload dX12_takeMenu_28 rfl ?_
  refine e_Vi (as := [.int (nI v4)]) (rest := []) dX12_takeMenu_30 vX12_isGreen ml_12_73 isX12_isGreen seX12_isGreen npX12_isGreen (rc_133 (by omega)) (by decide) rfl (Nat.le_of_ble_eq_true rfl) (by omega) (t_X12_isGreen (d := d - 1) (by omega) (by omega) hX c3 c4) ?_
  refine ev_ifF (tgt := 40) dX12_takeMenu_33 (by decide) (by show ¬ (1 : Int32) = 0; decide) ?_
  refine ev_iconst (v := 1) dX12_takeMenu_36 ki_1 ?_
  refine ev_goto (tgt := 41) dX12_takeMenu_37 (by decide) ?_
  refine ev_istore_n dX12_takeMenu_41 (by decide) ?_
  refine ev_iload_n dX12_takeMenu_42 rfl ?_
  refine ev_iload_n dX12_takeMenu_43 rfl ?_
  refine ev_iload dX12_takeMenu_44 rfl ?_
  refine e_Si (as := [.int v1, .int (nI v4)]) (rest := [.int v3]) dX12_takeMenu_46 vX12_has ml_12_76 stX12_has npX12_has (by decide) rfl (Nat.le_of_ble_eq_true rfl) (by omega) (t_X12_has (d := d - 1) (by omega) (by omega) hX c2) ?_
  refine ev_ifF (tgt := 61) dX12_takeMenu_49 (by decide) (by show ¬ (1 : Int32) = 0; decide) ?_
  refine ev_aload_n dX12_takeMenu_52 rfl ?_
  refine ev_iload dX12_takeMenu_53 rfl ?_
  refine e_Vi (as := [.int (nI v4)]) (rest := [.int v3]) dX12_takeMenu_55 vX12_cost ml_12_90 isX12_cost seX12_cost npX12_cost (rc_133 (by omega)) (by decide) rfl (Nat.le_of_ble_eq_true rfl) (by omega) (k_X12_cost (d := d - 1) (by omega) (by omega) hX c3 c5) ?_
  refine ev_goto (tgt := 62) dX12_takeMenu_58 (by decide) ?_
  refine ev_iadd dX12_takeMenu_62 ?_
  refine ev_istore_n dX12_takeMenu_63 (by decide) ?_
  refine ev_iinc (v := (nI v4) + 1) dX12_takeMenu_64 rfl (by rw [show Int32.ofInt 1 = 1 from ki_1]) (by decide) ?_
  refine ev_goto (tgt := 7) dX12_takeMenu_67 (by decide) ?_
  exact k
theorem bX12_takeMenu_7_1 {g : GG} {d n : Nat} {post : Option Value → LX → Prop} {X : LX} (hd : 2 ≤ d) (hn : 146 ≤ n) (hX : Sh n X) {v1 : Int32} {v2 : Int32} {v3 : Int32} {v4 : Nat} (c0 : ¬ 10 ≤ nI v4) (c1 : v2 = 0) (c2 : (v1 >>> ((nI v4) &&& 31)) &&& 1 = 1) (c3 : v4 < 10) (c4 : 2 ≤ X 134 (318 + 13 * v4 + 0)) (c5 : ¬ ((v1 >>> ((nI v4) &&& 31)) &&& 1 = 1)) (k : Ev g mX12_takeMenu d n n post n 7 [some (.ref 133), some (.int v1), some (.int 1), some (.int (v3 + 0)), some (.int ((nI v4) + 1))] [] X) : Ev g mX12_takeMenu d n n post n 7 [some (.ref 133), some (.int v1), some (.int v2), some (.int v3), some (.int (nI v4))] [] X := by
  refine ev_iload dX12_takeMenu_7 rfl ?_
  refine ev_bipush (v := 10) dX12_takeMenu_9 kb_10 ?_
  refine ev_icmpF (tgt := 70) dX12_takeMenu_11 (by decide) c0 ?_
  refine ev_iload_n dX12_takeMenu_14 rfl ?_
  refine ev_ifF (tgt := 36) dX12_takeMenu_15 (by decide) c1 ?_
  refine ev_iload_n dX12_takeMenu_18 rfl ?_
  refine ev_iload dX12_takeMenu_19 rfl ?_
  refine e_Si (as := [.int v1, .int (nI v4)]) (rest := []) dX12_takeMenu_21 vX12_has ml_12_76 stX12_has npX12_has (by decide) rfl (Nat.le_of_ble_eq_true rfl) (by omega) (t_X12_has (d := d - 1) (by omega) (by omega) hX c2) ?_
  refine ev_ifF (tgt := 40) dX12_takeMenu_24 (by decide) (by show ¬ (1 : Int32) = 0; decide) ?_
  refine ev_aload_n dX12_takeMenu_27 rfl ?_
  refine ev_iload dX12_takeMenu_28 rfl ?_
  refine e_Vi (as := [.int (nI v4)]) (rest := []) dX12_takeMenu_30 vX12_isGreen ml_12_73 isX12_isGreen seX12_isGreen npX12_isGreen (rc_133 (by omega)) (by decide) rfl (Nat.le_of_ble_eq_true rfl) (by omega) (t_X12_isGreen (d := d - 1) (by omega) (by omega) hX c3 c4) ?_
  refine ev_ifF (tgt := 40) dX12_takeMenu_33 (by decide) (by show ¬ (1 : Int32) = 0; decide) ?_
  refine ev_iconst (v := 1) dX12_takeMenu_36 ki_1 ?_
  refine ev_goto (tgt := 41) dX12_takeMenu_37 (by decide) ?_
  refine ev_istore_n dX12_takeMenu_41 (by decide) ?_
  refine ev_iload_n dX12_takeMenu_42 rfl ?_
  refine ev_iload_n dX12_takeMenu_43 rfl ?_
  refine ev_iload dX12_takeMenu_44 rfl ?_
  refine e_Si (as := [.int v1, .int (nI v4)]) (rest := [.int v3]) dX12_takeMenu_46 vX12_has ml_12_76 stX12_has npX12_has (by decide) rfl (Nat.le_of_ble_eq_true rfl) (by omega) (f_X12_has (d := d - 1) (by omega) (by omega) hX c5) ?_
  refine ev_ifT (tgt := 61) dX12_takeMenu_49 (by decide) (by show (0 : Int32) = 0; decide) ?_
  refine ev_iconst (v := 0) dX12_takeMenu_61 ki_0 ?_
  refine ev_iadd dX12_takeMenu_62 ?_
  refine ev_istore_n dX12_takeMenu_63 (by decide) ?_
  refine ev_iinc (v := (nI v4) + 1) dX12_takeMenu_64 rfl (by rw [show Int32.ofInt 1 = 1 from ki_1]) (by decide) ?_
  refine ev_goto (tgt := 7) dX12_takeMenu_67 (by decide) ?_
  exact k
theorem bX12_takeMenu_7_2 {g : GG} {d n : Nat} {post : Option Value → LX → Prop} {X : LX} (hd : 2 ≤ d) (hn : 146 ≤ n) (hX : Sh n X) {v1 : Int32} {v2 : Int32} {v3 : Int32} {v4 : Nat} (c0 : ¬ 10 ≤ nI v4) (c1 : v2 = 0) (c2 : (v1 >>> ((nI v4) &&& 31)) &&& 1 = 1) (c3 : v4 < 10) (c4 : ¬ (2 ≤ X 134 (318 + 13 * v4 + 0))) (c5 : okM X v4) (k : Ev g mX12_takeMenu d n n post n 7 [some (.ref 133), some (.int v1), some (.int 0), some (.int (v3 + (mCost X v4))), some (.int ((nI v4) + 1))] [] X) : Ev g mX12_takeMenu d n n post n 7 [some (.ref 133), some (.int v1), some (.int v2), some (.int v3), some (.int (nI v4))] [] X := by
  refine ev_iload dX12_takeMenu_7 rfl ?_
  refine ev_bipush (v := 10) dX12_takeMenu_9 kb_10 ?_
  refine ev_icmpF (tgt := 70) dX12_takeMenu_11 (by decide) c0 ?_
  refine ev_iload_n dX12_takeMenu_14 rfl ?_
  refine ev_ifF (tgt := 36) dX12_takeMenu_15 (by decide) c1 ?_
  refine ev_iload_n dX12_takeMenu_18 rfl ?_
  refine ev_iload dX12_takeMenu_19 rfl ?_
  refine e_Si (as := [.int v1, .int (nI v4)]) (rest := []) dX12_takeMenu_21 vX12_has ml_12_76 stX12_has npX12_has (by decide) rfl (Nat.le_of_ble_eq_true rfl) (by omega) (t_X12_has (d := d - 1) (by omega) (by omega) hX c2) ?_
  refine ev_ifF (tgt := 40) dX12_takeMenu_24 (by decide) (by show ¬ (1 : Int32) = 0; decide) ?_
  refine ev_aload_n dX12_takeMenu_27 rfl ?_
  refine ev_iload dX12_takeMenu_28 rfl ?_
  refine e_Vi (as := [.int (nI v4)]) (rest := []) dX12_takeMenu_30 vX12_isGreen ml_12_73 isX12_isGreen seX12_isGreen npX12_isGreen (rc_133 (by omega)) (by decide) rfl (Nat.le_of_ble_eq_true rfl) (by omega) (f_X12_isGreen (d := d - 1) (by omega) (by omega) hX c3 c4) ?_
  refine ev_ifT (tgt := 40) dX12_takeMenu_33 (by decide) (by show (0 : Int32) = 0; decide) ?_
  refine ev_iconst (v := 0) dX12_takeMenu_40 ki_0 ?_
  refine ev_istore_n dX12_takeMenu_41 (by decide) ?_
  refine ev_iload_n dX12_takeMenu_42 rfl ?_
  refine ev_iload_n dX12_takeMenu_43 rfl ?_
  refine ev_iload dX12_takeMenu_44 rfl ?_
  refine e_Si (as := [.int v1, .int (nI v4)]) (rest := [.int v3]) dX12_takeMenu_46 vX12_has ml_12_76 stX12_has npX12_has (by decide) rfl (Nat.le_of_ble_eq_true rfl) (by omega) (t_X12_has (d := d - 1) (by omega) (by omega) hX c2) ?_
  refine ev_ifF (tgt := 61) dX12_takeMenu_49 (by decide) (by show ¬ (1 : Int32) = 0; decide) ?_
  refine ev_aload_n dX12_takeMenu_52 rfl ?_
  refine ev_iload dX12_takeMenu_53 rfl ?_
  refine e_Vi (as := [.int (nI v4)]) (rest := [.int v3]) dX12_takeMenu_55 vX12_cost ml_12_90 isX12_cost seX12_cost npX12_cost (rc_133 (by omega)) (by decide) rfl (Nat.le_of_ble_eq_true rfl) (by omega) (k_X12_cost (d := d - 1) (by omega) (by omega) hX c3 c5) ?_
  refine ev_goto (tgt := 62) dX12_takeMenu_58 (by decide) ?_
  refine ev_iadd dX12_takeMenu_62 ?_
  refine ev_istore_n dX12_takeMenu_63 (by decide) ?_
  refine ev_iinc (v := (nI v4) + 1) dX12_takeMenu_64 rfl (by rw [show Int32.ofInt 1 = 1 from ki_1]) (by decide) ?_
  refine ev_goto (tgt := 7) dX12_takeMenu_67 (by decide) ?_
  exact k
theorem bX12_takeMenu_7_3 {g : GG} {d n : Nat} {post : Option Value → LX → Prop} {X : LX} (hd : 2 ≤ d) (hn : 146 ≤ n) (hX : Sh n X) {v1 : Int32} {v2 : Int32} {v3 : Int32} {v4 : Nat} (c0 : ¬ 10 ≤ nI v4) (c1 : v2 = 0) (c2 : (v1 >>> ((nI v4) &&& 31)) &&& 1 = 1) (c3 : v4 < 10) (c4 : ¬ (2 ≤ X 134 (318 + 13 * v4 + 0))) (c5 : ¬ ((v1 >>> ((nI v4) &&& 31)) &&& 1 = 1)) (k : Ev g mX12_takeMenu d n n post n 7 [some (.ref 133), some (.int v1), some (.int 0), some (.int (v3 + 0)), some (.int ((nI v4) + 1))] [] X) : Ev g mX12_takeMenu d n n post n 7 [some (.ref 133), some (.int v1), some (.int v2), some (.int v3), some (.int (nI v4))] [] X := by
  refine ev_iload dX12_takeMenu_7 rfl ?_
  refine ev_bipush (v := 10) dX12_takeMenu_9 kb_10 ?_
  refine ev_icmpF (tgt := 70) dX12_takeMenu_11 (by decide) c0 ?_
  refine ev_iload_n dX12_takeMenu_14 rfl ?_
  refine ev_ifF (tgt := 36) dX12_takeMenu_15 (by decide) c1 ?_
  refine ev_iload_n dX12_takeMenu_18 rfl ?_
  refine ev_iload dX12_takeMenu_19 rfl ?_
  refine e_Si (as := [.int v1, .int (nI v4)]) (rest := []) dX12_takeMenu_21 vX12_has ml_12_76 stX12_has npX12_has (by decide) rfl (Nat.le_of_ble_eq_true rfl) (by omega) (t_X12_has (d := d - 1) (by omega) (by omega) hX c2) ?_
  refine ev_ifF (tgt := 40) dX12_takeMenu_24 (by decide) (by show ¬ (1 : Int32) = 0; decide) ?_
  refine ev_aload_n dX12_takeMenu_27 rfl ?_
  refine ev_iload dX12_takeMenu_28 rfl ?_
  refine e_Vi (as := [.int (nI v4)]) (rest := []) dX12_takeMenu_30 vX12_isGreen ml_12_73 isX12_isGreen seX12_isGreen npX12_isGreen (rc_133 (by omega)) (by decide) rfl (Nat.le_of_ble_eq_true rfl) (by omega) (f_X12_isGreen (d := d - 1) (by omega) (by omega) hX c3 c4) ?_
  refine ev_ifT (tgt := 40) dX12_takeMenu_33 (by decide) (by show (0 : Int32) = 0; decide) ?_
  refine ev_iconst (v := 0) dX12_takeMenu_40 ki_0 ?_
  refine ev_istore_n dX12_takeMenu_41 (by decide) ?_
  refine ev_iload_n dX12_takeMenu_42 rfl ?_
  refine ev_iload_n dX12_takeMenu_43 rfl ?_
  refine ev_iload dX12_takeMenu_44 rfl ?_
  refine e_Si (as := [.int v1, .int (nI v4)]) (rest := [.int v3]) dX12_takeMenu_46 vX12_has ml_12_76 stX12_has npX12_has (by decide) rfl (Nat.le_of_ble_eq_true rfl) (by omega) (f_X12_has (d := d - 1) (by omega) (by omega) hX c5) ?_
  refine ev_ifT (tgt := 61) dX12_takeMenu_49 (by decide) (by show (0 : Int32) = 0; decide) ?_
  refine ev_iconst (v := 0) dX12_takeMenu_61 ki_0 ?_
  refine ev_iadd dX12_takeMenu_62 ?_
  refine ev_istore_n dX12_takeMenu_63 (by decide) ?_
  refine ev_iinc (v := (nI v4) + 1) dX12_takeMenu_64 rfl (by rw [show Int32.ofInt 1 = 1 from ki_1]) (by decide) ?_
  refine ev_goto (tgt := 7) dX12_takeMenu_67 (by decide) ?_
  exact k
theorem bX12_takeMenu_7_4 {g : GG} {d n : Nat} {post : Option Value → LX → Prop} {X : LX} (hd : 2 ≤ d) (hn : 146 ≤ n) (hX : Sh n X) {v1 : Int32} {v2 : Int32} {v3 : Int32} {v4 : Nat} (c0 : ¬ 10 ≤ nI v4) (c1 : v2 = 0) (c2 : ¬ ((v1 >>> ((nI v4) &&& 31)) &&& 1 = 1)) (c3 : (v1 >>> ((nI v4) &&& 31)) &&& 1 = 1) (c4 : v4 < 10) (c5 : okM X v4) (k : Ev g mX12_takeMenu d n n post n 7 [some (.ref 133), some (.int v1), some (.int 0), some (.int (v3 + (mCost X v4))), some (.int ((nI v4) + 1))] [] X) : Ev g mX12_takeMenu d n n post n 7 [some (.ref 133), some (.int v1), some (.int v2), some (.int v3), some (.int (nI v4))] [] X := by
  refine ev_iload dX12_takeMenu_7 rfl ?_
  refine ev_bipush (v := 10) dX12_takeMenu_9 kb_10 ?_
  refine ev_icmpF (tgt := 70) dX12_takeMenu_11 (by decide) c0 ?_
  refine ev_iload_n dX12_takeMenu_14 rfl ?_
  refine ev_ifF (tgt := 36) dX12_takeMenu_15 (by decide) c1 ?_
  refine ev_iload_n dX12_takeMenu_18 rfl ?_
  refine ev_iload dX12_takeMenu_19 rfl ?_
  refine e_Si (as := [.int v1, .int (nI v4)]) (rest := []) dX12_takeMenu_21 vX12_has ml_12_76 stX12_has npX12_has (by decide) rfl (Nat.le_of_ble_eq_true rfl) (by omega) (f_X12_has (d := d - 1) (by omega) (by omega) hX c2) ?_
  refine ev_ifT (tgt := 40) dX12_takeMenu_24 (by decide) (by show (0 : Int32) = 0; decide) ?_
  refine ev_iconst (v := 0) dX12_takeMenu_40 ki_0 ?_
  refine ev_istore_n dX12_takeMenu_41 (by decide) ?_
  refine ev_iload_n dX12_takeMenu_42 rfl ?_
  refine ev_iload_n dX12_takeMenu_43 rfl ?_
  refine ev_iload dX12_takeMenu_44 rfl ?_
  refine e_Si (as := [.int v1, .int (nI v4)]) (rest := [.int v3]) dX12_takeMenu_46 vX12_has ml_12_76 stX12_has npX12_has (by decide) rfl (Nat.le_of_ble_eq_true rfl) (by omega) (t_X12_has (d := d - 1) (by omega) (by omega) hX c3) ?_
  refine ev_ifF (tgt := 61) dX12_takeMenu_49 (by decide) (by show ¬ (1 : Int32) = 0; decide) ?_
  refine ev_aload_n dX12_takeMenu_52 rfl ?_
  refine ev_iload dX12_takeMenu_53 rfl ?_
  refine e_Vi (as := [.int (nI v4)]) (rest := [.int v3]) dX12_takeMenu_55 vX12_cost ml_12_90 isX12_cost seX12_cost npX12_cost (rc_133 (by omega)) (by decide) rfl (Nat.le_of_ble_eq_true rfl) (by omega) (k_X12_cost (d := d - 1) (by omega) (by omega) hX c4 c5) ?_
  refine ev_goto (tgt := 62) dX12_takeMenu_58 (by decide) ?_
  refine ev_iadd dX12_takeMenu_62 ?_
  refine ev_istore_n dX12_takeMenu_63 (by decide) ?_
  refine ev_iinc (v := (nI v4) + 1) dX12_takeMenu_64 rfl (by rw [show Int32.ofInt 1 = 1 from ki_1]) (by decide) ?_
  refine ev_goto (tgt := 7) dX12_takeMenu_67 (by decide) ?_
  exact k
theorem bX12_takeMenu_7_5 {g : GG} {d n : Nat} {post : Option Value → LX → Prop} {X : LX} (hd : 1 ≤ d) (hn : 146 ≤ n) (hX : Sh n X) {v1 : Int32} {v2 : Int32} {v3 : Int32} {v4 : Int32} (c0 : ¬ 10 ≤ v4) (c1 : v2 = 0) (c2 : ¬ ((v1 >>> (v4 &&& 31)) &&& 1 = 1)) (k : Ev g mX12_takeMenu d n n post n 7 [some (.ref 133), some (.int v1), some (.int 0), some (.int (v3 + 0)), some (.int (v4 + 1))] [] X) : Ev g mX12_takeMenu d n n post n 7 [some (.ref 133), some (.int v1), some (.int v2), some (.int v3), some (.int v4)] [] X := by
  refine ev_iload dX12_takeMenu_7 rfl ?_
  refine ev_bipush (v := 10) dX12_takeMenu_9 kb_10 ?_
  refine ev_icmpF (tgt := 70) dX12_takeMenu_11 (by decide) c0 ?_
  refine ev_iload_n dX12_takeMenu_14 rfl ?_
  refine ev_ifF (tgt := 36) dX12_takeMenu_15 (by decide) c1 ?_
  refine ev_iload_n dX12_takeMenu_18 rfl ?_
  refine ev_iload dX12_takeMenu_19 rfl ?_
  refine e_Si (as := [.int v1, .int v4]) (rest := []) dX12_takeMenu_21 vX12_has ml_12_76 stX12_has npX12_has (by decide) rfl (Nat.le_of_ble_eq_true rfl) (by omega) (f_X12_has (d := d - 1) (by omega) (by omega) hX c2) ?_
  refine ev_ifT (tgt := 40) dX12_takeMenu_24 (by decide) (by show (0 : Int32) = 0; decide) ?_
  refine ev_iconst (v := 0) dX12_takeMenu_40 ki_0 ?_
  refine ev_istore_n dX12_takeMenu_41 (by decide) ?_
  refine ev_iload_n dX12_takeMenu_42 rfl ?_
  refine ev_iload_n dX12_takeMenu_43 rfl ?_
  refine ev_iload dX12_takeMenu_44 rfl ?_
  refine e_Si (as := [.int v1, .int v4]) (rest := [.int v3]) dX12_takeMenu_46 vX12_has ml_12_76 stX12_has npX12_has (by decide) rfl (Nat.le_of_ble_eq_true rfl) (by omega) (f_X12_has (d := d - 1) (by omega) (by omega) hX c2) ?_
  refine ev_ifT (tgt := 61) dX12_takeMenu_49 (by decide) (by show (0 : Int32) = 0; decide) ?_
  refine ev_iconst (v := 0) dX12_takeMenu_61 ki_0 ?_
  refine ev_iadd dX12_takeMenu_62 ?_
  refine ev_istore_n dX12_takeMenu_63 (by decide) ?_
  refine ev_iinc (v := v4 + 1) dX12_takeMenu_64 rfl (by rw [show Int32.ofInt 1 = 1 from ki_1]) (by decide) ?_
  refine ev_goto (tgt := 7) dX12_takeMenu_67 (by decide) ?_
  exact k
theorem bX12_takeMenu_7_6 {g : GG} {d n : Nat} {post : Option Value → LX → Prop} {X : LX} (hd : 2 ≤ d) (hn : 146 ≤ n) (hX : Sh n X) {v1 : Int32} {v2 : Int32} {v3 : Int32} {v4 : Nat} (c0 : ¬ 10 ≤ nI v4) (c1 : ¬ v2 = 0) (c2 : (v1 >>> ((nI v4) &&& 31)) &&& 1 = 1) (c3 : v4 < 10) (c4 : okM X v4) (k : Ev g mX12_takeMenu d n n post n 7 [some (.ref 133), some (.int v1), some (.int 1), some (.int (v3 + (mCost X v4))), some (.int ((nI v4) + 1))] [] X) : Ev g mX12_takeMenu d n n post n 7 [some (.ref 133), some (.int v1), some (.int v2), some (.int v3), some (.int (nI v4))] [] X := by
  refine ev_iload dX12_takeMenu_7 rfl ?_
  refine ev_bipush (v := 10) dX12_takeMenu_9 kb_10 ?_
  refine ev_icmpF (tgt := 70) dX12_takeMenu_11 (by decide) c0 ?_
  refine ev_iload_n dX12_takeMenu_14 rfl ?_
  refine ev_ifT (tgt := 36) dX12_takeMenu_15 (by decide) c1 ?_
  refine ev_iconst (v := 1) dX12_takeMenu_36 ki_1 ?_
  refine ev_goto (tgt := 41) dX12_takeMenu_37 (by decide) ?_
  refine ev_istore_n dX12_takeMenu_41 (by decide) ?_
  refine ev_iload_n dX12_takeMenu_42 rfl ?_
  refine ev_iload_n dX12_takeMenu_43 rfl ?_
  refine ev_iload dX12_takeMenu_44 rfl ?_
  refine e_Si (as := [.int v1, .int (nI v4)]) (rest := [.int v3]) dX12_takeMenu_46 vX12_has ml_12_76 stX12_has npX12_has (by decide) rfl (Nat.le_of_ble_eq_true rfl) (by omega) (t_X12_has (d := d - 1) (by omega) (by omega) hX c2) ?_
  refine ev_ifF (tgt := 61) dX12_takeMenu_49 (by decide) (by show ¬ (1 : Int32) = 0; decide) ?_
  refine ev_aload_n dX12_takeMenu_52 rfl ?_
  refine ev_iload dX12_takeMenu_53 rfl ?_
  refine e_Vi (as := [.int (nI v4)]) (rest := [.int v3]) dX12_takeMenu_55 vX12_cost ml_12_90 isX12_cost seX12_cost npX12_cost (rc_133 (by omega)) (by decide) rfl (Nat.le_of_ble_eq_true rfl) (by omega) (k_X12_cost (d := d - 1) (by omega) (by omega) hX c3 c4) ?_
  refine ev_goto (tgt := 62) dX12_takeMenu_58 (by decide) ?_
  refine ev_iadd dX12_takeMenu_62 ?_
  refine ev_istore_n dX12_takeMenu_63 (by decide) ?_
  refine ev_iinc (v := (nI v4) + 1) dX12_takeMenu_64 rfl (by rw [show Int32.ofInt 1 = 1 from ki_1]) (by decide) ?_
  refine ev_goto (tgt := 7) dX12_takeMenu_67 (by decide) ?_
  exact k
theorem bX12_takeMenu_7_7 {g : GG} {d n : Nat} {post : Option Value → LX → Prop} {X : LX} (hd : 1 ≤ d) (hn : 146 ≤ n) (hX : Sh n X) {v1 : Int32} {v2 : Int32} {v3 : Int32} {v4 : Int32} (c0 : ¬ 10 ≤ v4) (c1 : ¬ v2 = 0) (c2 : ¬ ((v1 >>> (v4 &&& 31)) &&& 1 = 1)) (k : Ev g mX12_takeMenu d n n post n 7 [some (.ref 133), some (.int v1), some (.int 1), some (.int (v3 + 0)), some (.int (v4 + 1))] [] X) : Ev g mX12_takeMenu d n n post n 7 [some (.ref 133), some (.int v1), some (.int v2), some (.int v3), some (.int v4)] [] X := by
  refine ev_iload dX12_takeMenu_7 rfl ?_
  refine ev_bipush (v := 10) dX12_takeMenu_9 kb_10 ?_
  refine ev_icmpF (tgt := 70) dX12_takeMenu_11 (by decide) c0 ?_
  refine ev_iload_n dX12_takeMenu_14 rfl ?_
  refine ev_ifT (tgt := 36) dX12_takeMenu_15 (by decide) c1 ?_
  refine ev_iconst (v := 1) dX12_takeMenu_36 ki_1 ?_
  refine ev_goto (tgt := 41) dX12_takeMenu_37 (by decide) ?_
  refine ev_istore_n dX12_takeMenu_41 (by decide) ?_
  refine ev_iload_n dX12_takeMenu_42 rfl ?_
  refine ev_iload_n dX12_takeMenu_43 rfl ?_
  refine ev_iload dX12_takeMenu_44 rfl ?_
  refine e_Si (as := [.int v1, .int v4]) (rest := [.int v3]) dX12_takeMenu_46 vX12_has ml_12_76 stX12_has npX12_has (by decide) rfl (Nat.le_of_ble_eq_true rfl) (by omega) (f_X12_has (d := d - 1) (by omega) (by omega) hX c2) ?_
  refine ev_ifT (tgt := 61) dX12_takeMenu_49 (by decide) (by show (0 : Int32) = 0; decide) ?_
  refine ev_iconst (v := 0) dX12_takeMenu_61 ki_0 ?_
  refine ev_iadd dX12_takeMenu_62 ?_
  refine ev_istore_n dX12_takeMenu_63 (by decide) ?_
  refine ev_iinc (v := v4 + 1) dX12_takeMenu_64 rfl (by rw [show Int32.ofInt 1 = 1 from ki_1]) (by decide) ?_
  refine ev_goto (tgt := 7) dX12_takeMenu_67 (by decide) ?_
  exact k
theorem bX12_takeMenu_7_8 {g : GG} {d n : Nat} {post : Option Value → LX → Prop} {X : LX} (hn : 146 ≤ n) (hX : Sh n X) {v1 : Int32} {v2 : Int32} {v3 : Int32} {v4 : Int32} (c0 : 10 ≤ v4) (k : Ev g mX12_takeMenu d n n post n 72 [some (.ref 133), some (.int v1), some (.int v2), some (.int v3), some (.int v4)] [.int v1, .ref 133] X) : Ev g mX12_takeMenu d n n post n 7 [some (.ref 133), some (.int v1), some (.int v2), some (.int v3), some (.int v4)] [] X := by
  refine ev_iload dX12_takeMenu_7 rfl ?_
  refine ev_bipush (v := 10) dX12_takeMenu_9 kb_10 ?_
  refine ev_icmpT (tgt := 70) dX12_takeMenu_11 (by decide) c0 ?_
  refine ev_aload_n dX12_takeMenu_70 rfl ?_
  refine ev_iload_n dX12_takeMenu_71 rfl ?_
  exact k
theorem bX12_takeMenu_75_0 {g : GG} {d n : Nat} {post : Option Value → LX → Prop} {X : LX} (hn : 146 ≤ n) (hX : Sh n X) {v1 : Int32} {v2 : Int32} {v3 : Int32} {v4 : Int32} {s0 : Int32} (c0 : ¬ v2 = 0) (c1 : ¬ X 133 23 < 0) (c2 : ¬ X 133 24 < s0) (c3 : s0 = X 133 24) (c4 : ¬ X 133 25 ≤ v3) (hp : post none (lx_up (lx_up (lx_up X 133 23 v1) 133 24 s0) 133 25 v3)) : Ev g mX12_takeMenu d n n post n 75 [some (.ref 133), some (.int v1), some (.int v2), some (.int v3), some (.int v4)] [.int s0] X := by
  refine ev_istore dX12_takeMenu_75 (by decide) ?_
  refine ev_iload_n dX12_takeMenu_77 rfl ?_
  refine ev_ifF (tgt := 130) dX12_takeMenu_78 (by decide) c0 ?_
  refine ev_aload_n dX12_takeMenu_81 rfl ?_
  refine ev_getI dX12_takeMenu_82 fo_12_238 (by omega) lo_133 rfl ?_
  refine ev_ifF (tgt := 114) dX12_takeMenu_85 (by decide) c1 ?_
  refine ev_iload dX12_takeMenu_88 rfl ?_
  refine ev_aload_n dX12_takeMenu_90 rfl ?_
  refine ev_getI dX12_takeMenu_91 fo_12_241 (by omega) lo_133 rfl ?_
  refine ev_icmpF (tgt := 114) dX12_takeMenu_94 (by decide) c2 ?_
  refine ev_iload dX12_takeMenu_97 rfl ?_
  refine ev_aload_n dX12_takeMenu_99 rfl ?_
  refine ev_getI dX12_takeMenu_100 fo_12_241 (by omega) lo_133 rfl ?_
  refine ev_icmpF (tgt := 130) dX12_takeMenu_103 (by decide) c3 ?_
  refine ev_iload_n dX12_takeMenu_106 rfl ?_
  refine ev_aload_n dX12_takeMenu_107 rfl ?_
  refine ev_getI dX12_takeMenu_108 fo_12_244 (by omega) lo_133 rfl ?_
  refine ev_icmpF (tgt := 130) dX12_takeMenu_111 (by decide) c4 ?_
  refine ev_aload_n dX12_takeMenu_114 rfl ?_
  refine ev_iload_n dX12_takeMenu_115 rfl ?_
  refine ev_putI dX12_takeMenu_116 fo_12_238 (by omega) lo_133 rfl rfl rfl ?_
  have hX1 : Sh _ (lx_up X 133 23 v1) := Sh.upF hX (by rw [lo_133]; decide) (by decide)
  refine ev_aload_n dX12_takeMenu_119 rfl ?_
  refine ev_iload dX12_takeMenu_120 rfl ?_
  refine ev_putI dX12_takeMenu_122 fo_12_241 (by omega) lo_133 rfl rfl rfl ?_
  have hX2 : Sh _ (lx_up (lx_up X 133 23 v1) 133 24 s0) := Sh.upF hX1 (by rw [lo_133]; decide) (by decide)
  refine ev_aload_n dX12_takeMenu_125 rfl ?_
  refine ev_iload_n dX12_takeMenu_126 rfl ?_
  refine ev_putI dX12_takeMenu_127 fo_12_244 (by omega) lo_133 rfl rfl rfl ?_
  have hX3 : Sh _ (lx_up (lx_up (lx_up X 133 23 v1) 133 24 s0) 133 25 v3) := Sh.upF hX2 (by rw [lo_133]; decide) (by decide)
  exact ev_ret dX12_takeMenu_130 rfl hp
theorem bX12_takeMenu_75_1 {g : GG} {d n : Nat} {post : Option Value → LX → Prop} {X : LX} (hn : 146 ≤ n) (hX : Sh n X) {v1 : Int32} {v2 : Int32} {v3 : Int32} {v4 : Int32} {s0 : Int32} (c0 : ¬ v2 = 0) (c1 : ¬ X 133 23 < 0) (c2 : ¬ X 133 24 < s0) (c3 : s0 = X 133 24) (c4 : X 133 25 ≤ v3) (hp : post none X) : Ev g mX12_takeMenu d n n post n 75 [some (.ref 133), some (.int v1), some (.int v2), some (.int v3), some (.int v4)] [.int s0] X := by
  refine ev_istore dX12_takeMenu_75 (by decide) ?_
  refine ev_iload_n dX12_takeMenu_77 rfl ?_
  refine ev_ifF (tgt := 130) dX12_takeMenu_78 (by decide) c0 ?_
  refine ev_aload_n dX12_takeMenu_81 rfl ?_
  refine ev_getI dX12_takeMenu_82 fo_12_238 (by omega) lo_133 rfl ?_
  refine ev_ifF (tgt := 114) dX12_takeMenu_85 (by decide) c1 ?_
  refine ev_iload dX12_takeMenu_88 rfl ?_
  refine ev_aload_n dX12_takeMenu_90 rfl ?_
  refine ev_getI dX12_takeMenu_91 fo_12_241 (by omega) lo_133 rfl ?_
  refine ev_icmpF (tgt := 114) dX12_takeMenu_94 (by decide) c2 ?_
  refine ev_iload dX12_takeMenu_97 rfl ?_
  refine ev_aload_n dX12_takeMenu_99 rfl ?_
  refine ev_getI dX12_takeMenu_100 fo_12_241 (by omega) lo_133 rfl ?_
  refine ev_icmpF (tgt := 130) dX12_takeMenu_103 (by decide) c3 ?_
  refine ev_iload_n dX12_takeMenu_106 rfl ?_
  refine ev_aload_n dX12_takeMenu_107 rfl ?_
  refine ev_getI dX12_takeMenu_108 fo_12_244 (by omega) lo_133 rfl ?_
  refine ev_icmpT (tgt := 130) dX12_takeMenu_111 (by decide) c4 ?_
  exact ev_ret dX12_takeMenu_130 rfl hp
theorem bX12_takeMenu_75_2 {g : GG} {d n : Nat} {post : Option Value → LX → Prop} {X : LX} (hn : 146 ≤ n) (hX : Sh n X) {v1 : Int32} {v2 : Int32} {v3 : Int32} {v4 : Int32} {s0 : Int32} (c0 : ¬ v2 = 0) (c1 : ¬ X 133 23 < 0) (c2 : ¬ X 133 24 < s0) (c3 : ¬ s0 = X 133 24) (hp : post none X) : Ev g mX12_takeMenu d n n post n 75 [some (.ref 133), some (.int v1), some (.int v2), some (.int v3), some (.int v4)] [.int s0] X := by
  refine ev_istore dX12_takeMenu_75 (by decide) ?_
  refine ev_iload_n dX12_takeMenu_77 rfl ?_
  refine ev_ifF (tgt := 130) dX12_takeMenu_78 (by decide) c0 ?_
  refine ev_aload_n dX12_takeMenu_81 rfl ?_
  refine ev_getI dX12_takeMenu_82 fo_12_238 (by omega) lo_133 rfl ?_
  refine ev_ifF (tgt := 114) dX12_takeMenu_85 (by decide) c1 ?_
  refine ev_iload dX12_takeMenu_88 rfl ?_
  refine ev_aload_n dX12_takeMenu_90 rfl ?_
  refine ev_getI dX12_takeMenu_91 fo_12_241 (by omega) lo_133 rfl ?_
  refine ev_icmpF (tgt := 114) dX12_takeMenu_94 (by decide) c2 ?_
  refine ev_iload dX12_takeMenu_97 rfl ?_
  refine ev_aload_n dX12_takeMenu_99 rfl ?_
  refine ev_getI dX12_takeMenu_100 fo_12_241 (by omega) lo_133 rfl ?_
  refine ev_icmpT (tgt := 130) dX12_takeMenu_103 (by decide) c3 ?_
  exact ev_ret dX12_takeMenu_130 rfl hp
theorem bX12_takeMenu_75_3 {g : GG} {d n : Nat} {post : Option Value → LX → Prop} {X : LX} (hn : 146 ≤ n) (hX : Sh n X) {v1 : Int32} {v2 : Int32} {v3 : Int32} {v4 : Int32} {s0 : Int32} (c0 : ¬ v2 = 0) (c1 : ¬ X 133 23 < 0) (c2 : X 133 24 < s0) (hp : post none (lx_up (lx_up (lx_up X 133 23 v1) 133 24 s0) 133 25 v3)) : Ev g mX12_takeMenu d n n post n 75 [some (.ref 133), some (.int v1), some (.int v2), some (.int v3), some (.int v4)] [.int s0] X := by
  refine ev_istore dX12_takeMenu_75 (by decide) ?_
  refine ev_iload_n dX12_takeMenu_77 rfl ?_
  refine ev_ifF (tgt := 130) dX12_takeMenu_78 (by decide) c0 ?_
  refine ev_aload_n dX12_takeMenu_81 rfl ?_
  refine ev_getI dX12_takeMenu_82 fo_12_238 (by omega) lo_133 rfl ?_
  refine ev_ifF (tgt := 114) dX12_takeMenu_85 (by decide) c1 ?_
  refine ev_iload dX12_takeMenu_88 rfl ?_
  refine ev_aload_n dX12_takeMenu_90 rfl ?_
  refine ev_getI dX12_takeMenu_91 fo_12_241 (by omega) lo_133 rfl ?_
  refine ev_icmpT (tgt := 114) dX12_takeMenu_94 (by decide) c2 ?_
  refine ev_aload_n dX12_takeMenu_114 rfl ?_
  refine ev_iload_n dX12_takeMenu_115 rfl ?_
  refine ev_putI dX12_takeMenu_116 fo_12_238 (by omega) lo_133 rfl rfl rfl ?_
  have hX1 : Sh _ (lx_up X 133 23 v1) := Sh.upF hX (by rw [lo_133]; decide) (by decide)
  refine ev_aload_n dX12_takeMenu_119 rfl ?_
  refine ev_iload dX12_takeMenu_120 rfl ?_
  refine ev_putI dX12_takeMenu_122 fo_12_241 (by omega) lo_133 rfl rfl rfl ?_
  have hX2 : Sh _ (lx_up (lx_up X 133 23 v1) 133 24 s0) := Sh.upF hX1 (by rw [lo_133]; decide) (by decide)
  refine ev_aload_n dX12_takeMenu_125 rfl ?_
  refine ev_iload_n dX12_takeMenu_126 rfl ?_
  refine ev_putI dX12_takeMenu_127 fo_12_244 (by omega) lo_133 rfl rfl rfl ?_
  have hX3 : Sh _ (lx_up (lx_up (lx_up X 133 23 v1) 133 24 s0) 133 25 v3) := Sh.upF hX2 (by rw [lo_133]; decide) (by decide)
  exact ev_ret dX12_takeMenu_130 rfl hp
theorem bX12_takeMenu_75_4 {g : GG} {d n : Nat} {post : Option Value → LX → Prop} {X : LX} (hn : 146 ≤ n) (hX : Sh n X) {v1 : Int32} {v2 : Int32} {v3 : Int32} {v4 : Int32} {s0 : Int32} (c0 : ¬ v2 = 0) (c1 : X 133 23 < 0) (hp : post none (lx_up (lx_up (lx_up X 133 23 v1) 133 24 s0) 133 25 v3)) : Ev g mX12_takeMenu d n n post n 75 [some (.ref 133), some (.int v1), some (.int v2), some (.int v3), some (.int v4)] [.int s0] X := by
  refine ev_istore dX12_takeMenu_75 (by decide) ?_
  refine ev_iload_n dX12_takeMenu_77 rfl ?_
  refine ev_ifF (tgt := 130) dX12_takeMenu_78 (by decide) c0 ?_
  refine ev_aload_n dX12_takeMenu_81 rfl ?_
  refine ev_getI dX12_takeMenu_82 fo_12_238 (by omega) lo_133 rfl ?_
  refine ev_ifT (tgt := 114) dX12_takeMenu_85 (by decide) c1 ?_
  refine ev_aload_n dX12_takeMenu_114 rfl ?_
  refine ev_iload_n dX12_takeMenu_115 rfl ?_
  refine ev_putI dX12_takeMenu_116 fo_12_238 (by omega) lo_133 rfl rfl rfl ?_
  have hX1 : Sh _ (lx_up X 133 23 v1) := Sh.upF hX (by rw [lo_133]; decide) (by decide)
  refine ev_aload_n dX12_takeMenu_119 rfl ?_
  refine ev_iload dX12_takeMenu_120 rfl ?_
  refine ev_putI dX12_takeMenu_122 fo_12_241 (by omega) lo_133 rfl rfl rfl ?_
  have hX2 : Sh _ (lx_up (lx_up X 133 23 v1) 133 24 s0) := Sh.upF hX1 (by rw [lo_133]; decide) (by decide)
  refine ev_aload_n dX12_takeMenu_125 rfl ?_
  refine ev_iload_n dX12_takeMenu_126 rfl ?_
  refine ev_putI dX12_takeMenu_127 fo_12_244 (by omega) lo_133 rfl rfl rfl ?_
  have hX3 : Sh _ (lx_up (lx_up (lx_up X 133 23 v1) 133 24 s0) 133 25 v3) := Sh.upF hX2 (by rw [lo_133]; decide) (by decide)
  exact ev_ret dX12_takeMenu_130 rfl hp
theorem bX12_takeMenu_75_5 {g : GG} {d n : Nat} {post : Option Value → LX → Prop} {X : LX} (hn : 146 ≤ n) (hX : Sh n X) {v1 : Int32} {v2 : Int32} {v3 : Int32} {v4 : Int32} {s0 : Int32} (c0 : v2 = 0) (hp : post none X) : Ev g mX12_takeMenu d n n post n 75 [some (.ref 133), some (.int v1), some (.int v2), some (.int v3), some (.int v4)] [.int s0] X := by
  refine ev_istore dX12_takeMenu_75 (by decide) ?_
  refine ev_iload_n dX12_takeMenu_77 rfl ?_
  refine ev_ifT (tgt := 130) dX12_takeMenu_78 (by decide) c0 ?_
  exact ev_ret dX12_takeMenu_130 rfl hp
theorem bX12_menuFrom_0_0 {g : GG} {d n : Nat} {post : Option Value → LX → Prop} {X : LX} (hn : 146 ≤ n) (hX : Sh n X) {v1 : Int32} {v2 : Int32} {v3 : Int32} {v4 : Int32} (c0 : v2 = 0) (k : Ev g mX12_menuFrom d n n post n 6 [some (.ref 133), some (.int v1), some (.int v2), some (.int v3), some (.int v4), none, none] [.int v3, .ref 133] X) : Ev g mX12_menuFrom d n n post n 0 [some (.ref 133), some (.int v1), some (.int v2), some (.int v3), some (.int v4), none, none] [] X := by
  refine ev_iload_n dX12_menuFrom_0 rfl ?_
  refine ev_ifF (tgt := 10) dX12_menuFrom_1 (by decide) c0 ?_
  refine ev_aload_n dX12_menuFrom_4 rfl ?_
  refine ev_iload_n dX12_menuFrom_5 rfl ?_
  exact k
theorem bX12_menuFrom_0_1 {g : GG} {d n : Nat} {post : Option Value → LX → Prop} {X : LX} (hn : 146 ≤ n) (hX : Sh n X) {v1 : Int32} {v2 : Int32} {v3 : Int32} {v4 : Int32} (c0 : ¬ v2 = 0) (k : Ev g mX12_menuFrom d n n post n 13 [some (.ref 133), some (.int v1), some (.int v2), some (.int v3), some (.int v4), some (.int v1), none] [] X) : Ev g mX12_menuFrom d n n post n 0 [some (.ref 133), some (.int v1), some (.int v2), some (.int v3), some (.int v4), none, none] [] X := by
  refine ev_iload_n dX12_menuFrom_0 rfl ?_
  refine ev_ifT (tgt := 10) dX12_menuFrom_1 (by decide) c0 ?_
  refine ev_iload_n dX12_menuFrom_10 rfl ?_
  refine ev_istore dX12_menuFrom_11 (by decide) ?_
  exact k
theorem bX12_menuFrom_9_0 {g : GG} {d n : Nat} {post : Option Value → LX → Prop} {X : LX} (hn : 146 ≤ n) (hX : Sh n X) {v1 : Int32} {v2 : Int32} {v3 : Int32} {v4 : Int32} (hp : post none X) : Ev g mX12_menuFrom d n n post n 9 [some (.ref 133), some (.int v1), some (.int v2), some (.int v3), some (.int v4), none, none] [] X := by
  exact ev_ret dX12_menuFrom_9 rfl hp
theorem bX12_menuFrom_13_0 {g : GG} {d n : Nat} {post : Option Value → LX → Prop} {X : LX} (hd : 1 ≤ d) (hn : 146 ≤ n) (hX : Sh n X) {v1 : Int32} {v2 : Int32} {v3 : Int32} {v4 : Int32} {v5 : Nat} (c0 : ¬ X 134 5 ≤ nI v5) (c1 : X 133 22 = 0) (b0 : ((318 + (13 * v5)) + 1) < 2156) (c2 : (v4 >>> ((X 134 ((318 + (13 * v5)) + 1)) &&& 31)) &&& 1 = 1) (k : Ev g mX12_menuFrom d n n post n 13 [some (.ref 133), some (.int v1), some (.int v2), some (.int v3), some (.int v4), some (.int ((nI v5) + 1)), none] [] X) : Ev g mX12_menuFrom d n n post n 13 [some (.ref 133), some (.int v1), some (.int v2), some (.int v3), some (.int v4), some (.int (nI v5)), none] [] X := by
  refine ev_iload dX12_menuFrom_13 rfl ?_
  refine ev_aload_n dX12_menuFrom_15 rfl ?_
  refine ev_getS (q := 134) dX12_menuFrom_16 fo_12_9 (by omega) lo_133 rfl (sh_133_0 hX (by omega)) (by decide) ?_
  refine ev_iconst (v := 5) dX12_menuFrom_19 ki_5 ?_
  refine ev_iald dX12_menuFrom_20 (by omega) ly_134 nIl_5 (by decide) ?_
  refine ev_icmpF (tgt := 120) dX12_menuFrom_21 (by decide) c0 ?_
  refine ev_aload_n dX12_menuFrom_24 rfl ?_
  refine ev_getI dX12_menuFrom_25 fo_12_250 (by omega) lo_133 rfl ?_
  refine ev_ifF (tgt := 120) dX12_menuFrom_28 (by decide) c1 ?_
  refine ev_aload_n dX12_menuFrom_31 rfl ?_
  refine ev_getS (q := 134) dX12_menuFrom_32 fo_12_9 (by omega) lo_133 rfl (sh_133_0 hX (by omega)) (by decide) ?_
  refine ev_iload dX12_menuFrom_35 rfl ?_
  refine ev_iconst (v := 1) dX12_menuFrom_37 ki_1 ?_
  refine e_Si (as := [.int (nI v5), .int 1]) (rest := [.ref 134]) dX12_menuFrom_38 vX12_ofMeal ml_12_67 stX12_ofMeal npX12_ofMeal (by decide) rfl (Nat.le_of_ble_eq_true rfl) (by omega) (c_X12_ofMeal (d := d - 1) (by omega) (by omega) hX ) ?_
  refine ev_iald dX12_menuFrom_41 (by omega) ly_134 (by show (nI 318 + (nI 13 * nI v5)) + nI 1 = nI ((318 + (13 * v5)) + 1); simp only [pk_mul, nI_add]) b0 ?_
  refine ev_istore dX12_menuFrom_42 (by decide) ?_
  refine ev_iload dX12_menuFrom_44 rfl ?_
  refine ev_iload dX12_menuFrom_46 rfl ?_
  refine e_Si (as := [.int v4, .int (X 134 ((318 + (13 * v5)) + 1))]) (rest := []) dX12_menuFrom_48 vX12_has ml_12_76 stX12_has npX12_has (by decide) rfl (Nat.le_of_ble_eq_true rfl) (by omega) (t_X12_has (d := d - 1) (by omega) (by omega) hX c2) ?_
  refine ev_ifF (tgt := 57) dX12_menuFrom_51 (by decide) (by show ¬ (1 : Int32) = 0; decide) ?_
  refine ev_goto (tgt := 114) dX12_menuFrom_54 (by decide) ?_
  refine ev_iinc (v := (nI v5) + 1) dX12_menuFrom_114 rfl (by rw [show Int32.ofInt 1 = 1 from ki_1]) (by decide) ?_
  refine ev_goto (tgt := 13) dX12_menuFrom_117 (by decide) ?_
  refine ev_wk (L := [some (.ref 133), some (.int v1), some (.int v2), some (.int v3), some (.int v4), some (.int ((nI v5) + 1)), some (.int (X 134 ((318 + (13 * v5)) + 1)))]) (L' := [some (.ref 133), some (.int v1), some (.int v2), some (.int v3), some (.int v4), some (.int ((nI v5) + 1)), none]) (by simp [lwk]) ?_
  exact k
theorem bX12_menuFrom_13_1 {g : GG} {d n : Nat} {post : Option Value → LX → Prop} {X : LX} (hd : 1 ≤ d) (hn : 146 ≤ n) (hX : Sh n X) {v1 : Int32} {v2 : Int32} {v3 : Int32} {v4 : Int32} {v5 : Nat} (c0 : ¬ X 134 5 ≤ nI v5) (c1 : X 133 22 = 0) (b0 : ((318 + (13 * v5)) + 1) < 2156) (c2 : ¬ ((v4 >>> ((X 134 ((318 + (13 * v5)) + 1)) &&& 31)) &&& 1 = 1)) (c3 : X 133 21 = 0) (k : Ev g mX12_menuFrom d n n post n 13 [some (.ref 133), some (.int v1), some (.int v2), some (.int v3), some (.int v4), some (.int ((nI v5) + 1)), none] [] (lx_up X 133 22 1)) : Ev g mX12_menuFrom d n n post n 13 [some (.ref 133), some (.int v1), some (.int v2), some (.int v3), some (.int v4), some (.int (nI v5)), none] [] X := by
  refine ev_iload dX12_menuFrom_13 rfl ?_
  refine ev_aload_n dX12_menuFrom_15 rfl ?_
  refine ev_getS (q := 134) dX12_menuFrom_16 fo_12_9 (by omega) lo_133 rfl (sh_133_0 hX (by omega)) (by decide) ?_
  refine ev_iconst (v := 5) dX12_menuFrom_19 ki_5 ?_
  refine ev_iald dX12_menuFrom_20 (by omega) ly_134 nIl_5 (by decide) ?_
  refine ev_icmpF (tgt := 120) dX12_menuFrom_21 (by decide) c0 ?_
  refine ev_aload_n dX12_menuFrom_24 rfl ?_
  refine ev_getI dX12_menuFrom_25 fo_12_250 (by omega) lo_133 rfl ?_
  refine ev_ifF (tgt := 120) dX12_menuFrom_28 (by decide) c1 ?_
  refine ev_aload_n dX12_menuFrom_31 rfl ?_
  refine ev_getS (q := 134) dX12_menuFrom_32 fo_12_9 (by omega) lo_133 rfl (sh_133_0 hX (by omega)) (by decide) ?_
  refine ev_iload dX12_menuFrom_35 rfl ?_
  refine ev_iconst (v := 1) dX12_menuFrom_37 ki_1 ?_
  refine e_Si (as := [.int (nI v5), .int 1]) (rest := [.ref 134]) dX12_menuFrom_38 vX12_ofMeal ml_12_67 stX12_ofMeal npX12_ofMeal (by decide) rfl (Nat.le_of_ble_eq_true rfl) (by omega) (c_X12_ofMeal (d := d - 1) (by omega) (by omega) hX ) ?_
  refine ev_iald dX12_menuFrom_41 (by omega) ly_134 (by show (nI 318 + (nI 13 * nI v5)) + nI 1 = nI ((318 + (13 * v5)) + 1); simp only [pk_mul, nI_add]) b0 ?_
  refine ev_istore dX12_menuFrom_42 (by decide) ?_
  refine ev_iload dX12_menuFrom_44 rfl ?_
  refine ev_iload dX12_menuFrom_46 rfl ?_
  refine e_Si (as := [.int v4, .int (X 134 ((318 + (13 * v5)) + 1))]) (rest := []) dX12_menuFrom_48 vX12_has ml_12_76 stX12_has npX12_has (by decide) rfl (Nat.le_of_ble_eq_true rfl) (by omega) (f_X12_has (d := d - 1) (by omega) (by omega) hX c2) ?_
  refine ev_ifT (tgt := 57) dX12_menuFrom_51 (by decide) (by show (0 : Int32) = 0; decide) ?_
  refine ev_aload_n dX12_menuFrom_57 rfl ?_
  refine ev_aload_n dX12_menuFrom_58 rfl ?_
  refine ev_getI dX12_menuFrom_59 fo_12_253 (by omega) lo_133 rfl ?_
  refine ev_ifF (tgt := 69) dX12_menuFrom_62 (by decide) c3 ?_
  refine ev_iconst (v := 1) dX12_menuFrom_65 ki_1 ?_
  refine ev_goto (tgt := 70) dX12_menuFrom_66 (by decide) ?_
  refine ev_putZ dX12_menuFrom_70 fo_12_250 (by omega) lo_133 rfl rfl rfl (by decide) ?_
  have hX1 : Sh _ (lx_up X 133 22 1) := Sh.upF hX (by rw [lo_133]; decide) (by decide)
  refine ev_aload_n dX12_menuFrom_73 rfl ?_
  refine ev_getI dX12_menuFrom_74 fo_12_250 (by omega) lo_133 rfl ?_
  refine ev_ifT (tgt := 114) dX12_menuFrom_77 (by decide) (by show ¬ (1 : Int32) = 0; decide) ?_
  refine ev_iinc (v := (nI v5) + 1) dX12_menuFrom_114 rfl (by rw [show Int32.ofInt 1 = 1 from ki_1]) (by decide) ?_
  refine ev_goto (tgt := 13) dX12_menuFrom_117 (by decide) ?_
  refine ev_wk (L := [some (.ref 133), some (.int v1), some (.int v2), some (.int v3), some (.int v4), some (.int ((nI v5) + 1)), some (.int (X 134 ((318 + (13 * v5)) + 1)))]) (L' := [some (.ref 133), some (.int v1), some (.int v2), some (.int v3), some (.int v4), some (.int ((nI v5) + 1)), none]) (by simp [lwk]) ?_
  exact k
theorem bX12_menuFrom_13_2 {g : GG} {d n : Nat} {post : Option Value → LX → Prop} {X : LX} (hd : 1 ≤ d) (hn : 146 ≤ n) (hX : Sh n X) {v1 : Int32} {v2 : Int32} {v3 : Int32} {v4 : Int32} {v5 : Nat} (c0 : ¬ X 134 5 ≤ nI v5) (c1 : X 133 22 = 0) (b0 : ((318 + (13 * v5)) + 1) < 2156) (c2 : ¬ ((v4 >>> ((X 134 ((318 + (13 * v5)) + 1)) &&& 31)) &&& 1 = 1)) (c3 : ¬ X 133 21 = 0) (k : Ev g mX12_menuFrom d n n post n 111 [some (.ref 133), some (.int v1), some (.int v2), some (.int v3), some (.int v4), some (.int (nI v5)), some (.int (X 134 ((318 + (13 * v5)) + 1)))] [.int (v4 ||| (1 <<< ((X 134 ((318 + (13 * v5)) + 1)) &&& 31))), .int (v3 ||| (1 <<< ((nI v5) &&& 31))), .int (v2 - 1), .int ((nI v5) + 1), .ref 133] (lx_up (lx_up X 133 22 0) 133 21 ((X 133 21) - 1))) : Ev g mX12_menuFrom d n n post n 13 [some (.ref 133), some (.int v1), some (.int v2), some (.int v3), some (.int v4), some (.int (nI v5)), none] [] X := by
  refine ev_iload dX12_menuFrom_13 rfl ?_
  refine ev_aload_n dX12_menuFrom_15 rfl ?_
  refine ev_getS (q := 134) dX12_menuFrom_16 fo_12_9 (by omega) lo_133 rfl (sh_133_0 hX (by omega)) (by decide) ?_
  refine ev_iconst (v := 5) dX12_menuFrom_19 ki_5 ?_
  refine ev_iald dX12_menuFrom_20 (by omega) ly_134 nIl_5 (by decide) ?_
  refine ev_icmpF (tgt := 120) dX12_menuFrom_21 (by decide) c0 ?_
  refine ev_aload_n dX12_menuFrom_24 rfl ?_
  refine ev_getI dX12_menuFrom_25 fo_12_250 (by omega) lo_133 rfl ?_
  refine ev_ifF (tgt := 120) dX12_menuFrom_28 (by decide) c1 ?_
  refine ev_aload_n dX12_menuFrom_31 rfl ?_
  refine ev_getS (q := 134) dX12_menuFrom_32 fo_12_9 (by omega) lo_133 rfl (sh_133_0 hX (by omega)) (by decide) ?_
  refine ev_iload dX12_menuFrom_35 rfl ?_
  refine ev_iconst (v := 1) dX12_menuFrom_37 ki_1 ?_
  refine e_Si (as := [.int (nI v5), .int 1]) (rest := [.ref 134]) dX12_menuFrom_38 vX12_ofMeal ml_12_67 stX12_ofMeal npX12_ofMeal (by decide) rfl (Nat.le_of_ble_eq_true rfl) (by omega) (c_X12_ofMeal (d := d - 1) (by omega) (by omega) hX ) ?_
  refine ev_iald dX12_menuFrom_41 (by omega) ly_134 (by show (nI 318 + (nI 13 * nI v5)) + nI 1 = nI ((318 + (13 * v5)) + 1); simp only [pk_mul, nI_add]) b0 ?_
  refine ev_istore dX12_menuFrom_42 (by decide) ?_
  refine ev_iload dX12_menuFrom_44 rfl ?_
  refine ev_iload dX12_menuFrom_46 rfl ?_
  refine e_Si (as := [.int v4, .int (X 134 ((318 + (13 * v5)) + 1))]) (rest := []) dX12_menuFrom_48 vX12_has ml_12_76 stX12_has npX12_has (by decide) rfl (Nat.le_of_ble_eq_true rfl) (by omega) (f_X12_has (d := d - 1) (by omega) (by omega) hX c2) ?_
  refine ev_ifT (tgt := 57) dX12_menuFrom_51 (by decide) (by show (0 : Int32) = 0; decide) ?_
  refine ev_aload_n dX12_menuFrom_57 rfl ?_
  refine ev_aload_n dX12_menuFrom_58 rfl ?_
  refine ev_getI dX12_menuFrom_59 fo_12_253 (by omega) lo_133 rfl ?_
  refine ev_ifT (tgt := 69) dX12_menuFrom_62 (by decide) c3 ?_
  refine ev_iconst (v := 0) dX12_menuFrom_69 ki_0 ?_
  refine ev_putZ dX12_menuFrom_70 fo_12_250 (by omega) lo_133 rfl rfl rfl (by decide) ?_
  have hX1 : Sh _ (lx_up X 133 22 0) := Sh.upF hX (by rw [lo_133]; decide) (by decide)
  refine ev_aload_n dX12_menuFrom_73 rfl ?_
  refine ev_getI dX12_menuFrom_74 fo_12_250 (by omega) lo_133 rfl ?_
  refine ev_ifF (tgt := 114) dX12_menuFrom_77 (by decide) (by show (0 : Int32) = 0; decide) ?_
  refine ev_aload_n dX12_menuFrom_80 rfl ?_
  refine ev_dup dX12_menuFrom_81 rfl ?_
  refine ev_getI dX12_menuFrom_82 fo_12_253 (by omega) lo_133 rfl ?_
  refine ev_iconst (v := 1) dX12_menuFrom_85 ki_1 ?_
  refine ev_isub dX12_menuFrom_86 ?_
  refine ev_putI dX12_menuFrom_87 fo_12_253 (by omega) lo_133 rfl rfl rfl ?_
  have hX2 : Sh _ (lx_up (lx_up X 133 22 0) 133 21 ((X 133 21) - 1)) := Sh.upF hX1 (by rw [lo_133]; decide) (by decide)
  refine ev_aload_n dX12_menuFrom_90 rfl ?_
  refine ev_iload dX12_menuFrom_91 rfl ?_
  refine ev_iconst (v := 1) dX12_menuFrom_93 ki_1 ?_
  refine ev_iadd dX12_menuFrom_94 ?_
  refine ev_iload_n dX12_menuFrom_95 rfl ?_
  refine ev_iconst (v := 1) dX12_menuFrom_96 ki_1 ?_
  refine ev_isub dX12_menuFrom_97 ?_
  refine ev_iload_n dX12_menuFrom_98 rfl ?_
  refine ev_iconst (v := 1) dX12_menuFrom_99 ki_1 ?_
  refine ev_iload dX12_menuFrom_100 rfl ?_
  refine ev_ishl dX12_menuFrom_102 ?_
  refine ev_ior dX12_menuFrom_103 ?_
  refine ev_iload dX12_menuFrom_104 rfl ?_
  refine ev_iconst (v := 1) dX12_menuFrom_106 ki_1 ?_
  refine ev_iload dX12_menuFrom_107 rfl ?_
  refine ev_ishl dX12_menuFrom_109 ?_
  refine ev_ior dX12_menuFrom_110 ?_
  exact k
theorem bX12_menuFrom_13_3 {g : GG} {d n : Nat} {post : Option Value → LX → Prop} {X : LX} (hn : 146 ≤ n) (hX : Sh n X) {v1 : Int32} {v2 : Int32} {v3 : Int32} {v4 : Int32} {v5 : Int32} (c0 : ¬ X 134 5 ≤ v5) (c1 : ¬ X 133 22 = 0) (hp : post none X) : Ev g mX12_menuFrom d n n post n 13 [some (.ref 133), some (.int v1), some (.int v2), some (.int v3), some (.int v4), some (.int v5), none] [] X := by
  refine ev_iload dX12_menuFrom_13 rfl ?_
  refine ev_aload_n dX12_menuFrom_15 rfl ?_
  refine ev_getS (q := 134) dX12_menuFrom_16 fo_12_9 (by omega) lo_133 rfl (sh_133_0 hX (by omega)) (by decide) ?_
  refine ev_iconst (v := 5) dX12_menuFrom_19 ki_5 ?_
  refine ev_iald dX12_menuFrom_20 (by omega) ly_134 nIl_5 (by decide) ?_
  refine ev_icmpF (tgt := 120) dX12_menuFrom_21 (by decide) c0 ?_
  refine ev_aload_n dX12_menuFrom_24 rfl ?_
  refine ev_getI dX12_menuFrom_25 fo_12_250 (by omega) lo_133 rfl ?_
  refine ev_ifT (tgt := 120) dX12_menuFrom_28 (by decide) c1 ?_
  exact ev_ret dX12_menuFrom_120 rfl hp
theorem bX12_menuFrom_13_4 {g : GG} {d n : Nat} {post : Option Value → LX → Prop} {X : LX} (hn : 146 ≤ n) (hX : Sh n X) {v1 : Int32} {v2 : Int32} {v3 : Int32} {v4 : Int32} {v5 : Int32} (c0 : X 134 5 ≤ v5) (hp : post none X) : Ev g mX12_menuFrom d n n post n 13 [some (.ref 133), some (.int v1), some (.int v2), some (.int v3), some (.int v4), some (.int v5), none] [] X := by
  refine ev_iload dX12_menuFrom_13 rfl ?_
  refine ev_aload_n dX12_menuFrom_15 rfl ?_
  refine ev_getS (q := 134) dX12_menuFrom_16 fo_12_9 (by omega) lo_133 rfl (sh_133_0 hX (by omega)) (by decide) ?_
  refine ev_iconst (v := 5) dX12_menuFrom_19 ki_5 ?_
  refine ev_iald dX12_menuFrom_20 (by omega) ly_134 nIl_5 (by decide) ?_
  refine ev_icmpT (tgt := 120) dX12_menuFrom_21 (by decide) c0 ?_
  exact ev_ret dX12_menuFrom_120 rfl hp
theorem bX12_menuFrom_114_0 {g : GG} {d n : Nat} {post : Option Value → LX → Prop} {X : LX} (hn : 146 ≤ n) (hX : Sh n X) {v1 : Int32} {v2 : Int32} {v3 : Int32} {v4 : Int32} {v5 : Int32} {v6 : Int32} (k : Ev g mX12_menuFrom d n n post n 13 [some (.ref 133), some (.int v1), some (.int v2), some (.int v3), some (.int v4), some (.int (v5 + 1)), none] [] X) : Ev g mX12_menuFrom d n n post n 114 [some (.ref 133), some (.int v1), some (.int v2), some (.int v3), some (.int v4), some (.int v5), some (.int v6)] [] X := by
  refine ev_iinc (v := v5 + 1) dX12_menuFrom_114 rfl (by rw [show Int32.ofInt 1 = 1 from ki_1]) (by decide) ?_
  refine ev_goto (tgt := 13) dX12_menuFrom_117 (by decide) ?_
  refine ev_wk (L := [some (.ref 133), some (.int v1), some (.int v2), some (.int v3), some (.int v4), some (.int (v5 + 1)), some (.int v6)]) (L' := [some (.ref 133), some (.int v1), some (.int v2), some (.int v3), some (.int v4), some (.int (v5 + 1)), none]) (by simp [lwk]) ?_
  exact k
