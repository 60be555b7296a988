theorem bX11_heat_0_0 {g : GG} {d n : Nat} {post : Option Value → LX → Prop} {X : LX} (hd : 1 ≤ d) (hn : 146 ≤ n) (hX : Sh n X) {v1 : Int32} (c0 : 0 ≤ v1 ∧ v1 ≤ 60) (hp : post (some (.int (X 1 7))) (lx_up X 1 7 v1)) : Ev g mX11_heat d n n post n 0 [some (.ref 0), some (.int v1), none] [] X := by
  refine ev_iload_n dX11_heat_0 rfl ?_
  refine ev_iconst (v := 0) dX11_heat_1 ki_0 ?_
  refine ev_bipush (v := 60) dX11_heat_2 kb_60 ?_
  refine e_Si (as := [.int v1, .int 0, .int 60]) (rest := []) dX11_heat_4 vX11_isIn ml_11_57 stX11_isIn npX11_isIn (by decide) rfl (Nat.le_of_ble_eq_true rfl) (by omega) (t_X11_isIn (d := d - 1) (by omega) (by omega) hX c0) ?_
  refine ev_ifT (tgt := 13) dX11_heat_7 (by decide) (by show ¬ (1 : Int32) = 0; decide) ?_
  refine ev_aload_n dX11_heat_13 rfl ?_
  refine ev_getS (q := 1) dX11_heat_14 fo_11_10 (by omega) lo_0 rfl (sh_0_0 hX (by omega)) (by decide) ?_
  refine ev_getI dX11_heat_17 fo_11_248 (by omega) lo_1 rfl ?_
  refine ev_istore_n dX11_heat_20 (by decide) ?_
  refine ev_aload_n dX11_heat_21 rfl ?_
  refine ev_getS (q := 1) dX11_heat_22 fo_11_10 (by omega) lo_0 rfl (sh_0_0 hX (by omega)) (by decide) ?_
  refine ev_iload_n dX11_heat_25 rfl ?_
  refine ev_putI dX11_heat_26 fo_11_248 (by omega) lo_1 rfl rfl rfl ?_
  have hX1 : Sh _ (lx_up X 1 7 v1) := Sh.upF hX (by rw [lo_1]; decide) (by decide)
  refine ev_iload_n dX11_heat_29 rfl ?_
  exact ev_iret dX11_heat_30 rfl rfl hp
theorem bX11_heat_0_1 {g : GG} {d n : Nat} {post : Option Value → LX → Prop} {X : LX} (hd : 1 ≤ d) (hn : 146 ≤ n) (hX : Sh n X) {v1 : Int32} (c0 : ¬ (0 ≤ v1 ∧ v1 ≤ 60)) (hp : post (some (.int (-1000000001))) X) : Ev g mX11_heat d n n post n 0 [some (.ref 0), some (.int v1), none] [] X := by
  refine ev_iload_n dX11_heat_0 rfl ?_
  refine ev_iconst (v := 0) dX11_heat_1 ki_0 ?_
  refine ev_bipush (v := 60) dX11_heat_2 kb_60 ?_
  refine e_Si (as := [.int v1, .int 0, .int 60]) (rest := []) dX11_heat_4 vX11_isIn ml_11_57 stX11_isIn npX11_isIn (by decide) rfl (Nat.le_of_ble_eq_true rfl) (by omega) (f_X11_isIn (d := d - 1) (by omega) (by omega) hX c0) ?_
  refine ev_ifF (tgt := 13) dX11_heat_7 (by decide) (by show (0 : Int32) = 0; decide) ?_
  refine ev_ldc (v := (-1000000001)) dX11_heat_10 kw_11_61 ?_
  exact ev_iret dX11_heat_12 rfl rfl hp
theorem bX12_heat_0_0 {g : GG} {d n : Nat} {post : Option Value → LX → Prop} {X : LX} (hd : 1 ≤ d) (hn : 146 ≤ n) (hX : Sh n X) {v1 : Int32} (c0 : 0 ≤ v1 ∧ v1 ≤ 60) (hp : post (some (.int (X 134 1))) (lx_up X 134 1 v1)) : Ev g mX12_heat d n n post n 0 [some (.ref 133), some (.int v1), none] [] X := by
  refine ev_iload_n dX12_heat_0 rfl ?_
  refine ev_iconst (v := 0) dX12_heat_1 ki_0 ?_
  refine ev_bipush (v := 60) dX12_heat_2 kb_60 ?_
  refine e_Si (as := [.int v1, .int 0, .int 60]) (rest := []) dX12_heat_4 vX12_within ml_12_52 stX12_within npX12_within (by decide) rfl (Nat.le_of_ble_eq_true rfl) (by omega) (t_X12_within (d := d - 1) (by omega) (by omega) hX c0) ?_
  refine ev_ifT (tgt := 13) dX12_heat_7 (by decide) (by show ¬ (1 : Int32) = 0; decide) ?_
  refine ev_aload_n dX12_heat_13 rfl ?_
  refine ev_getS (q := 134) dX12_heat_14 fo_12_9 (by omega) lo_133 rfl (sh_133_0 hX (by omega)) (by decide) ?_
  refine ev_iconst (v := 1) dX12_heat_17 ki_1 ?_
  refine ev_iald dX12_heat_18 (by omega) ly_134 nIl_1 (by decide) ?_
  refine ev_istore_n dX12_heat_19 (by decide) ?_
  refine ev_aload_n dX12_heat_20 rfl ?_
  refine ev_getS (q := 134) dX12_heat_21 fo_12_9 (by omega) lo_133 rfl (sh_133_0 hX (by omega)) (by decide) ?_
  refine ev_iconst (v := 1) dX12_heat_24 ki_1 ?_
  refine ev_iload_n dX12_heat_25 rfl ?_
  refine ev_iast dX12_heat_26 (by omega) ly_134 nIl_1 (by decide) ?_
  have hX1 : Sh _ (lx_up X 134 1 v1) := Sh.upA hX (by rw [ly_134]; exact (by decide : 0 < 2))
  refine ev_iload_n dX12_heat_27 rfl ?_
  exact ev_iret dX12_heat_28 rfl rfl hp
theorem bX12_heat_0_1 {g : GG} {d n : Nat} {post : Option Value → LX → Prop} {X : LX} (hd : 1 ≤ d) (hn : 146 ≤ n) (hX : Sh n X) {v1 : Int32} (c0 : ¬ (0 ≤ v1 ∧ v1 ≤ 60)) (hp : post (some (.int (-1000000001))) X) : Ev g mX12_heat d n n post n 0 [some (.ref 133), some (.int v1), none] [] X := by
  refine ev_iload_n dX12_heat_0 rfl ?_
  refine ev_iconst (v := 0) dX12_heat_1 ki_0 ?_
  refine ev_bipush (v := 60) dX12_heat_2 kb_60 ?_
  refine e_Si (as := [.int v1, .int 0, .int 60]) (rest := []) dX12_heat_4 vX12_within ml_12_52 stX12_within npX12_within (by decide) rfl (Nat.le_of_ble_eq_true rfl) (by omega) (f_X12_within (d := d - 1) (by omega) (by omega) hX c0) ?_
  refine ev_ifF (tgt := 13) dX12_heat_7 (by decide) (by show (0 : Int32) = 0; decide) ?_
  refine ev_ldc (v := (-1000000001)) dX12_heat_10 kw_12_57 ?_
  exact ev_iret dX12_heat_12 rfl rfl hp
theorem bX11_trim_0_0 {g : GG} {d n : Nat} {post : Option Value → LX → Prop} {X : LX} (hd : 1 ≤ d) (hn : 146 ≤ n) (hX : Sh n X) {v1 : Int32} (c0 : 0 ≤ v1 ∧ v1 ≤ (X 81 1)) (hp : post (some (.int v1)) (lx_up X 81 1 v1)) : Ev g mX11_trim d n n post n 0 [some (.ref 0), some (.int v1)] [] X := by
  refine ev_iload_n dX11_trim_0 rfl ?_
  refine ev_iconst (v := 0) dX11_trim_1 ki_0 ?_
  refine ev_aload_n dX11_trim_2 rfl ?_
  refine ev_getS (q := 81) dX11_trim_3 fo_11_19 (by omega) lo_0 rfl (sh_0_1 hX (by omega)) (by decide) ?_
  refine ev_getI dX11_trim_6 fo_11_215 (by omega) lo_81 rfl ?_
  refine e_Si (as := [.int v1, .int 0, .int (X 81 1)]) (rest := []) dX11_trim_9 vX11_isIn ml_11_57 stX11_isIn npX11_isIn (by decide) rfl (Nat.le_of_ble_eq_true rfl) (by omega) (t_X11_isIn (d := d - 1) (by omega) (by omega) hX c0) ?_
  refine ev_ifT (tgt := 18) dX11_trim_12 (by decide) (by show ¬ (1 : Int32) = 0; decide) ?_
  refine ev_aload_n dX11_trim_18 rfl ?_
  refine ev_getS (q := 81) dX11_trim_19 fo_11_19 (by omega) lo_0 rfl (sh_0_1 hX (by omega)) (by decide) ?_
  refine ev_iload_n dX11_trim_22 rfl ?_
  refine ev_putI dX11_trim_23 fo_11_215 (by omega) lo_81 rfl rfl rfl ?_
  have hX1 : Sh _ (lx_up X 81 1 v1) := Sh.upF hX (by rw [lo_81]; decide) (by decide)
  refine ev_iload_n dX11_trim_26 rfl ?_
  exact ev_iret dX11_trim_27 rfl rfl hp
theorem bX11_trim_0_1 {g : GG} {d n : Nat} {post : Option Value → LX → Prop} {X : LX} (hd : 1 ≤ d) (hn : 146 ≤ n) (hX : Sh n X) {v1 : Int32} (c0 : ¬ (0 ≤ v1 ∧ v1 ≤ (X 81 1))) (hp : post (some (.int (-1000000001))) X) : Ev g mX11_trim d n n post n 0 [some (.ref 0), some (.int v1)] [] X := by
  refine ev_iload_n dX11_trim_0 rfl ?_
  refine ev_iconst (v := 0) dX11_trim_1 ki_0 ?_
  refine ev_aload_n dX11_trim_2 rfl ?_
  refine ev_getS (q := 81) dX11_trim_3 fo_11_19 (by omega) lo_0 rfl (sh_0_1 hX (by omega)) (by decide) ?_
  refine ev_getI dX11_trim_6 fo_11_215 (by omega) lo_81 rfl ?_
  refine e_Si (as := [.int v1, .int 0, .int (X 81 1)]) (rest := []) dX11_trim_9 vX11_isIn ml_11_57 stX11_isIn npX11_isIn (by decide) rfl (Nat.le_of_ble_eq_true rfl) (by omega) (f_X11_isIn (d := d - 1) (by omega) (by omega) hX c0) ?_
  refine ev_ifF (tgt := 18) dX11_trim_12 (by decide) (by show (0 : Int32) = 0; decide) ?_
  refine ev_ldc (v := (-1000000001)) dX11_trim_15 kw_11_61 ?_
  exact ev_iret dX11_trim_17 rfl rfl hp
theorem bX12_trim_0_0 {g : GG} {d n : Nat} {post : Option Value → LX → Prop} {X : LX} (hd : 1 ≤ d) (hn : 146 ≤ n) (hX : Sh n X) {v1 : Int32} (c0 : 0 ≤ v1 ∧ v1 ≤ (X 133 4)) (hp : post (some (.int v1)) (lx_up X 133 4 v1)) : Ev g mX12_trim d n n post n 0 [some (.ref 133), some (.int v1)] [] X := by
  refine ev_iload_n dX12_trim_0 rfl ?_
  refine ev_iconst (v := 0) dX12_trim_1 ki_0 ?_
  refine ev_aload_n dX12_trim_2 rfl ?_
  refine ev_getI dX12_trim_3 fo_12_121 (by omega) lo_133 rfl ?_
  refine e_Si (as := [.int v1, .int 0, .int (X 133 4)]) (rest := []) dX12_trim_6 vX12_within ml_12_52 stX12_within npX12_within (by decide) rfl (Nat.le_of_ble_eq_true rfl) (by omega) (t_X12_within (d := d - 1) (by omega) (by omega) hX c0) ?_
  refine ev_ifT (tgt := 15) dX12_trim_9 (by decide) (by show ¬ (1 : Int32) = 0; decide) ?_
  refine ev_aload_n dX12_trim_15 rfl ?_
  refine ev_iload_n dX12_trim_16 rfl ?_
  refine ev_putI dX12_trim_17 fo_12_121 (by omega) lo_133 rfl rfl rfl ?_
  have hX1 : Sh _ (lx_up X 133 4 v1) := Sh.upF hX (by rw [lo_133]; decide) (by decide)
  refine ev_iload_n dX12_trim_20 rfl ?_
  exact ev_iret dX12_trim_21 rfl rfl hp
theorem bX12_trim_0_1 {g : GG} {d n : Nat} {post : Option Value → LX → Prop} {X : LX} (hd : 1 ≤ d) (hn : 146 ≤ n) (hX : Sh n X) {v1 : Int32} (c0 : ¬ (0 ≤ v1 ∧ v1 ≤ (X 133 4))) (hp : post (some (.int (-1000000001))) X) : Ev g mX12_trim d n n post n 0 [some (.ref 133), some (.int v1)] [] X := by
  refine ev_iload_n dX12_trim_0 rfl ?_
  refine ev_iconst (v := 0) dX12_trim_1 ki_0 ?_
  refine ev_aload_n dX12_trim_2 rfl ?_
  refine ev_getI dX12_trim_3 fo_12_121 (by omega) lo_133 rfl ?_
  refine e_Si (as := [.int v1, .int 0, .int (X 133 4)]) (rest := []) dX12_trim_6 vX12_within ml_12_52 stX12_within npX12_within (by decide) rfl (Nat.le_of_ble_eq_true rfl) (by omega) (f_X12_within (d := d - 1) (by omega) (by omega) hX c0) ?_
  refine ev_ifF (tgt := 15) dX12_trim_9 (by decide) (by show (0 : Int32) = 0; decide) ?_
  refine ev_ldc (v := (-1000000001)) dX12_trim_12 kw_12_57 ?_
  exact ev_iret dX12_trim_14 rfl rfl hp
theorem bX11_unlike_0_0 {g : GG} {d n : Nat} {post : Option Value → LX → Prop} {X : LX} (hd : 1 ≤ d) (hn : 146 ≤ n) (hX : Sh n X) {v1 : Nat} {v2 : Nat} {v3 : Int32} (c0 : 0 ≤ (nI v1) ∧ (nI v1) < X 2 0) (c1 : 0 ≤ (nI v2) ∧ (nI v2) < X 2 0) (c2 : ¬ nI v1 = nI v2) (c3 : 1 ≤ v3 ∧ v3 ≤ 99) (b0 : v1 < 14) (b1 : v2 < 14) (hp : post (some (.int (X (8 + 1 + v1) v2))) (lx_up (lx_up X (8 + 1 + v1) v2 v3) (8 + 1 + v2) v1 v3)) : Ev g mX11_unlike d n n post n 0 [some (.ref 0), some (.int (nI v1)), some (.int (nI v2)), some (.int v3), none, none] [] X := by
  refine ev_aload_n dX11_unlike_0 rfl ?_
  refine ev_getS (q := 1) dX11_unlike_1 fo_11_10 (by omega) lo_0 rfl (sh_0_0 hX (by omega)) (by decide) ?_
  refine ev_getS (q := 2) dX11_unlike_4 fo_11_62 (by omega) lo_1 rfl (sh_1_0 hX (by omega)) (by decide) ?_
  refine ev_astore dX11_unlike_7 (by decide) ?_
  refine ev_aload dX11_unlike_9 rfl ?_
  refine ev_iload_n dX11_unlike_11 rfl ?_
  refine e_Vi (as := [.int (nI v1)]) (rest := []) dX11_unlike_12 vX7_has ml_11_88 isX7_has seX7_has npX7_has (rc_2 (by omega)) (by decide) rfl (Nat.le_of_ble_eq_true rfl) (by omega) (t_X7_has (d := d - 1) (by omega) (by omega) hX c0) ?_
  refine ev_ifF (tgt := 42) dX11_unlike_15 (by decide) (by show ¬ (1 : Int32) = 0; decide) ?_
  refine ev_aload dX11_unlike_18 rfl ?_
  refine ev_iload_n dX11_unlike_20 rfl ?_
  refine e_Vi (as := [.int (nI v2)]) (rest := []) dX11_unlike_21 vX7_has ml_11_88 isX7_has seX7_has npX7_has (rc_2 (by omega)) (by decide) rfl (Nat.le_of_ble_eq_true rfl) (by omega) (t_X7_has (d := d - 1) (by omega) (by omega) hX c1) ?_
  refine ev_ifF (tgt := 42) dX11_unlike_24 (by decide) (by show ¬ (1 : Int32) = 0; decide) ?_
  refine ev_iload_n dX11_unlike_27 rfl ?_
  refine ev_iload_n dX11_unlike_28 rfl ?_
  refine ev_icmpF (tgt := 42) dX11_unlike_29 (by decide) c2 ?_
  refine ev_iload_n dX11_unlike_32 rfl ?_
  refine ev_iconst (v := 1) dX11_unlike_33 ki_1 ?_
  refine ev_bipush (v := 99) dX11_unlike_34 kb_99 ?_
  refine e_Si (as := [.int v3, .int 1, .int 99]) (rest := []) dX11_unlike_36 vX11_isIn ml_11_57 stX11_isIn npX11_isIn (by decide) rfl (Nat.le_of_ble_eq_true rfl) (by omega) (t_X11_isIn (d := d - 1) (by omega) (by omega) hX c3) ?_
  refine ev_ifT (tgt := 45) dX11_unlike_39 (by decide) (by show ¬ (1 : Int32) = 0; decide) ?_
  refine ev_aload dX11_unlike_45 rfl ?_
  refine ev_getS (q := 8) dX11_unlike_47 fo_11_92 (by omega) lo_2 rfl (sh_2_6 hX (by omega)) (by decide) ?_
  refine ev_iload_n dX11_unlike_50 rfl ?_
  refine ev_aald (q := 8 + 1 + v1) dX11_unlike_51 (by omega) (Or.inl ly_8) rfl b0 (hX.2 8 v1 (by omega) (Or.inl (by rw [ly_8])) (by rw [ly_8]; exact b0)) (by first | omega | (have := LY_l ly_8; have := LY_lt (show (LY 8).1 < 99 by rw [ly_8]; exact (by decide : 2 < 99)); omega)) ?_
  refine ev_iload_n dX11_unlike_52 rfl ?_
  refine ev_iald dX11_unlike_53 (by have := b0; omega) (lyr_8 _ b0) rfl b1 ?_
  refine ev_istore dX11_unlike_54 (by decide) ?_
  refine ev_aload dX11_unlike_56 rfl ?_
  refine ev_getS (q := 8) dX11_unlike_58 fo_11_92 (by omega) lo_2 rfl (sh_2_6 hX (by omega)) (by decide) ?_
  refine ev_iload_n dX11_unlike_61 rfl ?_
  refine ev_aald (q := 8 + 1 + v1) dX11_unlike_62 (by omega) (Or.inl ly_8) rfl b0 (hX.2 8 v1 (by omega) (Or.inl (by rw [ly_8])) (by rw [ly_8]; exact b0)) (by first | omega | (have := LY_l ly_8; have := LY_lt (show (LY 8).1 < 99 by rw [ly_8]; exact (by decide : 2 < 99)); omega)) ?_
  refine ev_iload_n dX11_unlike_63 rfl ?_
  refine ev_iload_n dX11_unlike_64 rfl ?_
  refine ev_iast dX11_unlike_65 (by have := b0; omega) (lyr_8 _ b0) rfl b1 ?_
  have hX1 : Sh _ (lx_up X (8 + 1 + v1) v2 v3) := Sh.upA hX (by rw [(lyr_8 _ b0)]; exact (by decide : 0 < 2))
  refine ev_aload dX11_unlike_66 rfl ?_
  refine ev_getS (q := 8) dX11_unlike_68 fo_11_92 (by omega) lo_2 rfl (sh_2_6 hX1 (by omega)) (by decide) ?_
  refine ev_iload_n dX11_unlike_71 rfl ?_
  refine ev_aald (q := 8 + 1 + v2) dX11_unlike_72 (by omega) (Or.inl ly_8) rfl b1 (hX1.2 8 v2 (by omega) (Or.inl (by rw [ly_8])) (by rw [ly_8]; exact b1)) (by first | omega | (have := LY_l ly_8; have := LY_lt (show (LY 8).1 < 99 by rw [ly_8]; exact (by decide : 2 < 99)); omega)) ?_
  refine ev_iload_n dX11_unlike_73 rfl ?_
  refine ev_iload_n dX11_unlike_74 rfl ?_
  refine ev_iast dX11_unlike_75 (by have := b1; omega) (lyr_8 _ b1) rfl b0 ?_
  have hX2 : Sh _ (lx_up (lx_up X (8 + 1 + v1) v2 v3) (8 + 1 + v2) v1 v3) := Sh.upA hX1 (by rw [(lyr_8 _ b1)]; exact (by decide : 0 < 2))
  refine ev_iload dX11_unlike_76 rfl ?_
  exact ev_iret dX11_unlike_78 rfl rfl hp
theorem bX11_unlike_0_1 {g : GG} {d n : Nat} {post : Option Value → LX → Prop} {X : LX} (hd : 1 ≤ d) (hn : 146 ≤ n) (hX : Sh n X) {v1 : Int32} {v2 : Int32} {v3 : Int32} (c0 : 0 ≤ v1 ∧ v1 < X 2 0) (c1 : 0 ≤ v2 ∧ v2 < X 2 0) (c2 : ¬ v1 = v2) (c3 : ¬ (1 ≤ v3 ∧ v3 ≤ 99)) (hp : post (some (.int (-1000000001))) X) : Ev g mX11_unlike d n n post n 0 [some (.ref 0), some (.int v1), some (.int v2), some (.int v3), none, none] [] X := by
  refine ev_aload_n dX11_unlike_0 rfl ?_
  refine ev_getS (q := 1) dX11_unlike_1 fo_11_10 (by omega) lo_0 rfl (sh_0_0 hX (by omega)) (by decide) ?_
  refine ev_getS (q := 2) dX11_unlike_4 fo_11_62 (by omega) lo_1 rfl (sh_1_0 hX (by omega)) (by decide) ?_
  refine ev_astore dX11_unlike_7 (by decide) ?_
  refine ev_aload dX11_unlike_9 rfl ?_
  refine ev_iload_n dX11_unlike_11 rfl ?_
  refine e_Vi (as := [.int v1]) (rest := []) dX11_unlike_12 vX7_has ml_11_88 isX7_has seX7_has npX7_has (rc_2 (by omega)) (by decide) rfl (Nat.le_of_ble_eq_true rfl) (by omega) (t_X7_has (d := d - 1) (by omega) (by omega) hX c0) ?_
  refine ev_ifF (tgt := 42) dX11_unlike_15 (by decide) (by show ¬ (1 : Int32) = 0; decide) ?_
  refine ev_aload dX11_unlike_18 rfl ?_
  refine ev_iload_n dX11_unlike_20 rfl ?_
  refine e_Vi (as := [.int v2]) (rest := []) dX11_unlike_21 vX7_has ml_11_88 isX7_has seX7_has npX7_has (rc_2 (by omega)) (by decide) rfl (Nat.le_of_ble_eq_true rfl) (by omega) (t_X7_has (d := d - 1) (by omega) (by omega) hX c1) ?_
  refine ev_ifF (tgt := 42) dX11_unlike_24 (by decide) (by show ¬ (1 : Int32) = 0; decide) ?_
  refine ev_iload_n dX11_unlike_27 rfl ?_
  refine ev_iload_n dX11_unlike_28 rfl ?_
  refine ev_icmpF (tgt := 42) dX11_unlike_29 (by decide) c2 ?_
  refine ev_iload_n dX11_unlike_32 rfl ?_
  refine ev_iconst (v := 1) dX11_unlike_33 ki_1 ?_
  refine ev_bipush (v := 99) dX11_unlike_34 kb_99 ?_
  refine e_Si (as := [.int v3, .int 1, .int 99]) (rest := []) dX11_unlike_36 vX11_isIn ml_11_57 stX11_isIn npX11_isIn (by decide) rfl (Nat.le_of_ble_eq_true rfl) (by omega) (f_X11_isIn (d := d - 1) (by omega) (by omega) hX c3) ?_
  refine ev_ifF (tgt := 45) dX11_unlike_39 (by decide) (by show (0 : Int32) = 0; decide) ?_
  refine ev_ldc (v := (-1000000001)) dX11_unlike_42 kw_11_61 ?_
  exact ev_iret dX11_unlike_44 rfl rfl hp
theorem bX11_unlike_0_2 {g : GG} {d n : Nat} {post : Option Value → LX → Prop} {X : LX} (hd : 1 ≤ d) (hn : 146 ≤ n) (hX : Sh n X) {v1 : Int32} {v2 : Int32} {v3 : Int32} (c0 : 0 ≤ v1 ∧ v1 < X 2 0) (c1 : 0 ≤ v2 ∧ v2 < X 2 0) (c2 : v1 = v2) (hp : post (some (.int (-1000000001))) X) : Ev g mX11_unlike d n n post n 0 [some (.ref 0), some (.int v1), some (.int v2), some (.int v3), none, none] [] X := by
  refine ev_aload_n dX11_unlike_0 rfl ?_
  refine ev_getS (q := 1) dX11_unlike_1 fo_11_10 (by omega) lo_0 rfl (sh_0_0 hX (by omega)) (by decide) ?_
  refine ev_getS (q := 2) dX11_unlike_4 fo_11_62 (by omega) lo_1 rfl (sh_1_0 hX (by omega)) (by decide) ?_
  refine ev_astore dX11_unlike_7 (by decide) ?_
  refine ev_aload dX11_unlike_9 rfl ?_
  refine ev_iload_n dX11_unlike_11 rfl ?_
  refine e_Vi (as := [.int v1]) (rest := []) dX11_unlike_12 vX7_has ml_11_88 isX7_has seX7_has npX7_has (rc_2 (by omega)) (by decide) rfl (Nat.le_of_ble_eq_true rfl) (by omega) (t_X7_has (d := d - 1) (by omega) (by omega) hX c0) ?_
  refine ev_ifF (tgt := 42) dX11_unlike_15 (by decide) (by show ¬ (1 : Int32) = 0; decide) ?_
  refine ev_aload dX11_unlike_18 rfl ?_
  refine ev_iload_n dX11_unlike_20 rfl ?_
  refine e_Vi (as := [.int v2]) (rest := []) dX11_unlike_21 vX7_has ml_11_88 isX7_has seX7_has npX7_has (rc_2 (by omega)) (by decide) rfl (Nat.le_of_ble_eq_true rfl) (by omega) (t_X7_has (d := d - 1) (by omega) (by omega) hX c1) ?_
  refine ev_ifF (tgt := 42) dX11_unlike_24 (by decide) (by show ¬ (1 : Int32) = 0; decide) ?_
  refine ev_iload_n dX11_unlike_27 rfl ?_
  refine ev_iload_n dX11_unlike_28 rfl ?_
  refine ev_icmpT (tgt := 42) dX11_unlike_29 (by decide) c2 ?_
  refine ev_ldc (v := (-1000000001)) dX11_unlike_42 kw_11_61 ?_
  exact ev_iret dX11_unlike_44 rfl rfl hp
theorem bX11_unlike_0_3 {g : GG} {d n : Nat} {post : Option Value → LX → Prop} {X : LX} (hd : 1 ≤ d) (hn : 146 ≤ n) (hX : Sh n X) {v1 : Int32} {v2 : Int32} {v3 : Int32} (c0 : 0 ≤ v1 ∧ v1 < X 2 0) (c1 : ¬ (0 ≤ v2 ∧ v2 < X 2 0)) (hp : post (some (.int (-1000000001))) X) : Ev g mX11_unlike d n n post n 0 [some (.ref 0), some (.int v1), some (.int v2), some (.int v3), none, none] [] X := by
  refine ev_aload_n dX11_unlike_0 rfl ?_
  refine ev_getS (q := 1) dX11_unlike_1 fo_11_10 (by omega) lo_0 rfl (sh_0_0 hX (by omega)) (by decide) ?_
  refine ev_getS (q := 2) dX11_unlike_4 fo_11_62 (by omega) lo_1 rfl (sh_1_0 hX (by omega)) (by decide) ?_
  refine ev_astore dX11_unlike_7 (by decide) ?_
  refine ev_aload dX11_unlike_9 rfl ?_
  refine ev_iload_n dX11_unlike_11 rfl ?_
  refine e_Vi (as := [.int v1]) (rest := []) dX11_unlike_12 vX7_has ml_11_88 isX7_has seX7_has npX7_has (rc_2 (by omega)) (by decide) rfl (Nat.le_of_ble_eq_true rfl) (by omega) (t_X7_has (d := d - 1) (by omega) (by omega) hX c0) ?_
  refine ev_ifF (tgt := 42) dX11_unlike_15 (by decide) (by show ¬ (1 : Int32) = 0; decide) ?_
  refine ev_aload dX11_unlike_18 rfl ?_
  refine ev_iload_n dX11_unlike_20 rfl ?_
  refine e_Vi (as := [.int v2]) (rest := []) dX11_unlike_21 vX7_has ml_11_88 isX7_has seX7_has npX7_has (rc_2 (by omega)) (by decide) rfl (Nat.le_of_ble_eq_true rfl) (by omega) (f_X7_has (d := d - 1) (by omega) (by omega) hX c1) ?_
  refine ev_ifT (tgt := 42) dX11_unlike_24 (by decide) (by show (0 : Int32) = 0; decide) ?_
  refine ev_ldc (v := (-1000000001)) dX11_unlike_42 kw_11_61 ?_
  exact ev_iret dX11_unlike_44 rfl rfl hp
theorem bX11_unlike_0_4 {g : GG} {d n : Nat} {post : Option Value → LX → Prop} {X : LX} (hd : 1 ≤ d) (hn : 146 ≤ n) (hX : Sh n X) {v1 : Int32} {v2 : Int32} {v3 : Int32} (c0 : ¬ (0 ≤ v1 ∧ v1 < X 2 0)) (hp : post (some (.int (-1000000001))) X) : Ev g mX11_unlike d n n post n 0 [some (.ref 0), some (.int v1), some (.int v2), some (.int v3), none, none] [] X := by
  refine ev_aload_n dX11_unlike_0 rfl ?_
  refine ev_getS (q := 1) dX11_unlike_1 fo_11_10 (by omega) lo_0 rfl (sh_0_0 hX (by omega)) (by decide) ?_
  refine ev_getS (q := 2) dX11_unlike_4 fo_11_62 (by omega) lo_1 rfl (sh_1_0 hX (by omega)) (by decide) ?_
  refine ev_astore dX11_unlike_7 (by decide) ?_
  refine ev_aload dX11_unlike_9 rfl ?_
  refine ev_iload_n dX11_unlike_11 rfl ?_
  refine e_Vi (as := [.int v1]) (rest := []) dX11_unlike_12 vX7_has ml_11_88 isX7_has seX7_has npX7_has (rc_2 (by omega)) (by decide) rfl (Nat.le_of_ble_eq_true rfl) (by omega) (f_X7_has (d := d - 1) (by omega) (by omega) hX c0) ?_
  refine ev_ifT (tgt := 42) dX11_unlike_15 (by decide) (by show (0 : Int32) = 0; decide) ?_
  refine ev_ldc (v := (-1000000001)) dX11_unlike_42 kw_11_61 ?_
  exact ev_iret dX11_unlike_44 rfl rfl hp
theorem bX12_unlike_0_0 {g : GG} {d n : Nat} {post : Option Value → LX → Prop} {X : LX} (hd : 2 ≤ d) (hn : 146 ≤ n) (hX : Sh n X) {v1 : Nat} {v2 : Nat} {v3 : Int32} (c0 : 0 ≤ (nI v1) ∧ (nI v1) ≤ X 134 4 - 1) (c1 : 0 ≤ (nI v2) ∧ (nI v2) ≤ X 134 4 - 1) (c2 : ¬ nI v1 = nI v2) (c3 : 1 ≤ v3 ∧ v3 ≤ 99) (b0 : ((122 + (14 * v1)) + v2) < 2156) (b1 : ((122 + (14 * v2)) + v1) < 2156) (hp : post (some (.int (X 134 ((122 + (14 * v1)) + v2)))) (lx_up (lx_up X 134 ((122 + (14 * v1)) + v2) v3) 134 ((122 + (14 * v2)) + v1) v3)) : Ev g mX12_unlike d n n post n 0 [some (.ref 133), some (.int (nI v1)), some (.int (nI v2)), some (.int v3), none] [] X := by
  refine ev_aload_n dX12_unlike_0 rfl ?_
  refine ev_iload_n dX12_unlike_1 rfl ?_
  refine e_Vi (as := [.int (nI v1)]) (rest := []) dX12_unlike_2 vX12_isPart ml_12_63 isX12_isPart seX12_isPart npX12_isPart (rc_133 (by omega)) (by decide) rfl (Nat.le_of_ble_eq_true rfl) (by omega) (t_X12_isPart (d := d - 1) (by omega) (by omega) hX c0) ?_
  refine ev_ifF (tgt := 31) dX12_unlike_5 (by decide) (by show ¬ (1 : Int32) = 0; decide) ?_
  refine ev_aload_n dX12_unlike_8 rfl ?_
  refine ev_iload_n dX12_unlike_9 rfl ?_
  refine e_Vi (as := [.int (nI v2)]) (rest := []) dX12_unlike_10 vX12_isPart ml_12_63 isX12_isPart seX12_isPart npX12_isPart (rc_133 (by omega)) (by decide) rfl (Nat.le_of_ble_eq_true rfl) (by omega) (t_X12_isPart (d := d - 1) (by omega) (by omega) hX c1) ?_
  refine ev_ifF (tgt := 31) dX12_unlike_13 (by decide) (by show ¬ (1 : Int32) = 0; decide) ?_
  refine ev_iload_n dX12_unlike_16 rfl ?_
  refine ev_iload_n dX12_unlike_17 rfl ?_
  refine ev_icmpF (tgt := 31) dX12_unlike_18 (by decide) c2 ?_
  refine ev_iload_n dX12_unlike_21 rfl ?_
  refine ev_iconst (v := 1) dX12_unlike_22 ki_1 ?_
  refine ev_bipush (v := 99) dX12_unlike_23 kb_99 ?_
  refine e_Si (as := [.int v3, .int 1, .int 99]) (rest := []) dX12_unlike_25 vX12_within ml_12_52 stX12_within npX12_within (by decide) rfl (Nat.le_of_ble_eq_true rfl) (by omega) (t_X12_within (d := d - 1) (by omega) (by omega) hX c3) ?_
  refine ev_ifT (tgt := 34) dX12_unlike_28 (by decide) (by show ¬ (1 : Int32) = 0; decide) ?_
  refine ev_aload_n dX12_unlike_34 rfl ?_
  refine ev_getS (q := 134) dX12_unlike_35 fo_12_9 (by omega) lo_133 rfl (sh_133_0 hX (by omega)) (by decide) ?_
  refine ev_bipush (v := 122) dX12_unlike_38 kb_122 ?_
  refine ev_bipush (v := 14) dX12_unlike_40 kb_14 ?_
  refine ev_iload_n dX12_unlike_42 rfl ?_
  refine ev_imul dX12_unlike_43 ?_
  refine ev_iadd dX12_unlike_44 ?_
  refine ev_iload_n dX12_unlike_45 rfl ?_
  refine ev_iadd dX12_unlike_46 ?_
  refine ev_iald dX12_unlike_47 (by omega) ly_134 (by show (nI 122 + (nI 14 * nI v1)) + nI v2 = nI ((122 + (14 * v1)) + v2); simp only [pk_mul, nI_add]) b0 ?_
  refine ev_istore dX12_unlike_48 (by decide) ?_
  refine ev_aload_n dX12_unlike_50 rfl ?_
  refine ev_getS (q := 134) dX12_unlike_51 fo_12_9 (by omega) lo_133 rfl (sh_133_0 hX (by omega)) (by decide) ?_
  refine ev_bipush (v := 122) dX12_unlike_54 kb_122 ?_
  refine ev_bipush (v := 14) dX12_unlike_56 kb_14 ?_
  refine ev_iload_n dX12_unlike_58 rfl ?_
  refine ev_imul dX12_unlike_59 ?_
  refine ev_iadd dX12_unlike_60 ?_
  refine ev_iload_n dX12_unlike_61 rfl ?_
  refine ev_iadd dX12_unlike_62 ?_
  refine ev_iload_n dX12_unlike_63 rfl ?_
  refine ev_iast dX12_unlike_64 (by omega) ly_134 (by show (nI 122 + (nI 14 * nI v1)) + nI v2 = nI ((122 + (14 * v1)) + v2); simp only [pk_mul, nI_add]) b0 ?_
  have hX1 : Sh _ (lx_up X 134 ((122 + (14 * v1)) + v2) v3) := Sh.upA hX (by rw [ly_134]; exact (by decide : 0 < 2))
  refine ev_aload_n dX12_unlike_65 rfl ?_
  refine ev_getS (q := 134) dX12_unlike_66 fo_12_9 (by omega) lo_133 rfl (sh_133_0 hX1 (by omega)) (by decide) ?_
  refine ev_bipush (v := 122) dX12_unlike_69 kb_122 ?_
  refine ev_bipush (v := 14) dX12_unlike_71 kb_14 ?_
  refine ev_iload_n dX12_unlike_73 rfl ?_
  refine ev_imul dX12_unlike_74 ?_
  refine ev_iadd dX12_unlike_75 ?_
  refine ev_iload_n dX12_unlike_76 rfl ?_
  refine ev_iadd dX12_unlike_77 ?_
  refine ev_iload_n dX12_unlike_78 rfl ?_
  refine ev_iast dX12_unlike_79 (by omega) ly_134 (by show (nI 122 + (nI 14 * nI v2)) + nI v1 = nI ((122 + (14 * v2)) + v1); simp only [pk_mul, nI_add]) b1 ?_
  have hX2 : Sh _ (lx_up (lx_up X 134 ((122 + (14 * v1)) + v2) v3) 134 ((122 + (14 * v2)) + v1) v3) := Sh.upA hX1 (by rw [ly_134]; exact (by decide : 0 < 2))
  refine ev_iload dX12_unlike_80 rfl ?_
  exact ev_iret dX12_unlike_82 rfl rfl hp
theorem bX12_unlike_0_1 {g : GG} {d n : Nat} {post : Option Value → LX → Prop} {X : LX} (hd : 2 ≤ d) (hn : 146 ≤ n) (hX : Sh n X) {v1 : Int32} {v2 : Int32} {v3 : Int32} (c0 : 0 ≤ v1 ∧ v1 ≤ X 134 4 - 1) (c1 : 0 ≤ v2 ∧ v2 ≤ X 134 4 - 1) (c2 : ¬ v1 = v2) (c3 : ¬ (1 ≤ v3 ∧ v3 ≤ 99)) (hp : post (some (.int (-1000000001))) X) : Ev g mX12_unlike d n n post n 0 [some (.ref 133), some (.int v1), some (.int v2), some (.int v3), none] [] X := by
  refine ev_aload_n dX12_unlike_0 rfl ?_
  refine ev_iload_n dX12_unlike_1 rfl ?_
  refine e_Vi (as := [.int v1]) (rest := []) dX12_unlike_2 vX12_isPart ml_12_63 isX12_isPart seX12_isPart npX12_isPart (rc_133 (by omega)) (by decide) rfl (Nat.le_of_ble_eq_true rfl) (by omega) (t_X12_isPart (d := d - 1) (by omega) (by omega) hX c0) ?_
  refine ev_ifF (tgt := 31) dX12_unlike_5 (by decide) (by show ¬ (1 : Int32) = 0; decide) ?_
  refine ev_aload_n dX12_unlike_8 rfl ?_
  refine ev_iload_n dX12_unlike_9 rfl ?_
  refine e_Vi (as := [.int v2]) (rest := []) dX12_unlike_10 vX12_isPart ml_12_63 isX12_isPart seX12_isPart npX12_isPart (rc_133 (by omega)) (by decide) rfl (Nat.le_of_ble_eq_true rfl) (by omega) (t_X12_isPart (d := d - 1) (by omega) (by omega) hX c1) ?_
  refine ev_ifF (tgt := 31) dX12_unlike_13 (by decide) (by show ¬ (1 : Int32) = 0; decide) ?_
  refine ev_iload_n dX12_unlike_16 rfl ?_
  refine ev_iload_n dX12_unlike_17 rfl ?_
  refine ev_icmpF (tgt := 31) dX12_unlike_18 (by decide) c2 ?_
  refine ev_iload_n dX12_unlike_21 rfl ?_
  refine ev_iconst (v := 1) dX12_unlike_22 ki_1 ?_
  refine ev_bipush (v := 99) dX12_unlike_23 kb_99 ?_
  refine e_Si (as := [.int v3, .int 1, .int 99]) (rest := []) dX12_unlike_25 vX12_within ml_12_52 stX12_within npX12_within (by decide) rfl (Nat.le_of_ble_eq_true rfl) (by omega) (f_X12_within (d := d - 1) (by omega) (by omega) hX c3) ?_
  refine ev_ifF (tgt := 34) dX12_unlike_28 (by decide) (by show (0 : Int32) = 0; decide) ?_
  refine ev_ldc (v := (-1000000001)) dX12_unlike_31 kw_12_57 ?_
  exact ev_iret dX12_unlike_33 rfl rfl hp
theorem bX12_unlike_0_2 {g : GG} {d n : Nat} {post : Option Value → LX → Prop} {X : LX} (hd : 2 ≤ d) (hn : 146 ≤ n) (hX : Sh n X) {v1 : Int32} {v2 : Int32} {v3 : Int32} (c0 : 0 ≤ v1 ∧ v1 ≤ X 134 4 - 1) (c1 : 0 ≤ v2 ∧ v2 ≤ X 134 4 - 1) (c2 : v1 = v2) (hp : post (some (.int (-1000000001))) X) : Ev g mX12_unlike d n n post n 0 [some (.ref 133), some (.int v1), some (.int v2), some (.int v3), none] [] X := by
  refine ev_aload_n dX12_unlike_0 rfl ?_
  refine ev_iload_n dX12_unlike_1 rfl ?_
  refine e_Vi (as := [.int v1]) (rest := []) dX12_unlike_2 vX12_isPart ml_12_63 isX12_isPart seX12_isPart npX12_isPart (rc_133 (by omega)) (by decide) rfl (Nat.le_of_ble_eq_true rfl) (by omega) (t_X12_isPart (d := d - 1) (by omega) (by omega) hX c0) ?_
  refine ev_ifF (tgt := 31) dX12_unlike_5 (by decide) (by show ¬ (1 : Int32) = 0; decide) ?_
  refine ev_aload_n dX12_unlike_8 rfl ?_
  refine ev_iload_n dX12_unlike_9 rfl ?_
  refine e_Vi (as := [.int v2]) (rest := []) dX12_unlike_10 vX12_isPart ml_12_63 isX12_isPart seX12_isPart npX12_isPart (rc_133 (by omega)) (by decide) rfl (Nat.le_of_ble_eq_true rfl) (by omega) (t_X12_isPart (d := d - 1) (by omega) (by omega) hX c1) ?_
  refine ev_ifF (tgt := 31) dX12_unlike_13 (by decide) (by show ¬ (1 : Int32) = 0; decide) ?_
  refine ev_iload_n dX12_unlike_16 rfl ?_
  refine ev_iload_n dX12_unlike_17 rfl ?_
  refine ev_icmpT (tgt := 31) dX12_unlike_18 (by decide) c2 ?_
  refine ev_ldc (v := (-1000000001)) dX12_unlike_31 kw_12_57 ?_
  exact ev_iret dX12_unlike_33 rfl rfl hp
theorem bX12_unlike_0_3 {g : GG} {d n : Nat} {post : Option Value → LX → Prop} {X : LX} (hd : 2 ≤ d) (hn : 146 ≤ n) (hX : Sh n X) {v1 : Int32} {v2 : Int32} {v3 : Int32} (c0 : 0 ≤ v1 ∧ v1 ≤ X 134 4 - 1) (c1 : ¬ (0 ≤ v2 ∧ v2 ≤ X 134 4 - 1)) (hp : post (some (.int (-1000000001))) X) : Ev g mX12_unlike d n n post n 0 [some (.ref 133), some (.int v1), some (.int v2), some (.int v3), none] [] X := by
  refine ev_aload_n dX12_unlike_0 rfl ?_
  refine ev_iload_n dX12_unlike_1 rfl ?_
  refine e_Vi (as := [.int v1]) (rest := []) dX12_unlike_2 vX12_isPart ml_12_63 isX12_isPart seX12_isPart npX12_isPart (rc_133 (by omega)) (by decide) rfl (Nat.le_of_ble_eq_true rfl) (by omega) (t_X12_isPart (d := d - 1) (by omega) (by omega) hX c0) ?_
  refine ev_ifF (tgt := 31) dX12_unlike_5 (by decide) (by show ¬ (1 : Int32) = 0; decide) ?_
  refine ev_aload_n dX12_unlike_8 rfl ?_
  refine ev_iload_n dX12_unlike_9 rfl ?_
  refine e_Vi (as := [.int v2]) (rest := []) dX12_unlike_10 vX12_isPart ml_12_63 isX12_isPart seX12_isPart npX12_isPart (rc_133 (by omega)) (by decide) rfl (Nat.le_of_ble_eq_true rfl) (by omega) (f_X12_isPart (d := d - 1) (by omega) (by omega) hX c1) ?_
  refine ev_ifT (tgt := 31) dX12_unlike_13 (by decide) (by show (0 : Int32) = 0; decide) ?_
  refine ev_ldc (v := (-1000000001)) dX12_unlike_31 kw_12_57 ?_
  exact ev_iret dX12_unlike_33 rfl rfl hp
theorem bX12_unlike_0_4 {g : GG} {d n : Nat} {post : Option Value → LX → Prop} {X : LX} (hd : 2 ≤ d) (hn : 146 ≤ n) (hX : Sh n X) {v1 : Int32} {v2 : Int32} {v3 : Int32} (c0 : ¬ (0 ≤ v1 ∧ v1 ≤ X 134 4 - 1)) (hp : post (some (.int (-1000000001))) X) : Ev g mX12_unlike d n n post n 0 [some (.ref 133), some (.int v1), some (.int v2), some (.int v3), none] [] X := by
  refine ev_aload_n dX12_unlike_0 rfl ?_
  refine ev_iload_n dX12_unlike_1 rfl ?_
  refine e_Vi (as := [.int v1]) (rest := []) dX12_unlike_2 vX12_isPart ml_12_63 isX12_isPart seX12_isPart npX12_isPart (rc_133 (by omega)) (by decide) rfl (Nat.le_of_ble_eq_true rfl) (by omega) (f_X12_isPart (d := d - 1) (by omega) (by omega) hX c0) ?_
  refine ev_ifT (tgt := 31) dX12_unlike_5 (by decide) (by show (0 : Int32) = 0; decide) ?_
  refine ev_ldc (v := (-1000000001)) dX12_unlike_31 kw_12_57 ?_
  exact ev_iret dX12_unlike_33 rfl rfl hp
theorem bX11_meal_0_0 {g : GG} {d n : Nat} {post : Option Value → LX → Prop} {X : LX} (hd : 1 ≤ d) (hn : 146 ≤ n) (hX : Sh n X) {v1 : Int32} {v2 : Int32} (c0 : 0 ≤ v1 ∧ v1 ≤ 3) (c1 : 0 ≤ v2 ∧ v2 ≤ 15) (c2 : ¬ X 23 0 < 10) (hp : post (some (.int (-1000000003))) X) : Ev g mX11_meal d n n post n 0 [some (.ref 0), some (.int v1), some (.int v2), none, none] [] X := by
  refine ev_iload_n dX11_meal_0 rfl ?_
  refine ev_iconst (v := 0) dX11_meal_1 ki_0 ?_
  refine ev_iconst (v := 3) dX11_meal_2 ki_3 ?_
  refine e_Si (as := [.int v1, .int 0, .int 3]) (rest := []) dX11_meal_3 vX11_isIn ml_11_57 stX11_isIn npX11_isIn (by decide) rfl (Nat.le_of_ble_eq_true rfl) (by omega) (t_X11_isIn (d := d - 1) (by omega) (by omega) hX c0) ?_
  refine ev_ifF (tgt := 19) dX11_meal_6 (by decide) (by show ¬ (1 : Int32) = 0; decide) ?_
  refine ev_iload_n dX11_meal_9 rfl ?_
  refine ev_iconst (v := 0) dX11_meal_10 ki_0 ?_
  refine ev_bipush (v := 15) dX11_meal_11 kb_15 ?_
  refine e_Si (as := [.int v2, .int 0, .int 15]) (rest := []) dX11_meal_13 vX11_isIn ml_11_57 stX11_isIn npX11_isIn (by decide) rfl (Nat.le_of_ble_eq_true rfl) (by omega) (t_X11_isIn (d := d - 1) (by omega) (by omega) hX c1) ?_
  refine ev_ifT (tgt := 22) dX11_meal_16 (by decide) (by show ¬ (1 : Int32) = 0; decide) ?_
  refine ev_aload_n dX11_meal_22 rfl ?_
  refine ev_getS (q := 1) dX11_meal_23 fo_11_10 (by omega) lo_0 rfl (sh_0_0 hX (by omega)) (by decide) ?_
  refine ev_getS (q := 23) dX11_meal_26 fo_11_96 (by omega) lo_1 rfl (sh_1_1 hX (by omega)) (by decide) ?_
  refine ev_astore_n dX11_meal_29 (by decide) ?_
  refine ev_aload_n dX11_meal_30 rfl ?_
  refine ev_getI dX11_meal_31 fo_11_100 (by omega) lo_23 rfl ?_
  refine ev_bipush (v := 10) dX11_meal_34 kb_10 ?_
  refine ev_icmpF (tgt := 42) dX11_meal_36 (by decide) c2 ?_
  refine ev_ldc (v := (-1000000003)) dX11_meal_39 kw_11_72 ?_
  exact ev_iret dX11_meal_41 rfl rfl hp
theorem bX11_meal_0_1 {g : GG} {d n : Nat} {post : Option Value → LX → Prop} {X : LX} (hd : 1 ≤ d) (hn : 146 ≤ n) (hX : Sh n X) {v1 : Int32} {v2 : Int32} {j1 : Nat} (c0 : 0 ≤ v1 ∧ v1 ≤ 3) (c1 : 0 ≤ v2 ∧ v2 ≤ 15) (c2 : X 23 0 < 10) (hj1 : X 23 0 = nI j1) (b0 : j1 < 10) (hp : post (some (.int (X 23 0))) (lx_up (lx_up (lx_up X 23 0 ((X 23 0) + 1)) 24 j1 v1) 25 j1 v2)) : Ev g mX11_meal d n n post n 0 [some (.ref 0), some (.int v1), some (.int v2), none, none] [] X := by
  refine ev_iload_n dX11_meal_0 rfl ?_
  refine ev_iconst (v := 0) dX11_meal_1 ki_0 ?_
  refine ev_iconst (v := 3) dX11_meal_2 ki_3 ?_
  refine e_Si (as := [.int v1, .int 0, .int 3]) (rest := []) dX11_meal_3 vX11_isIn ml_11_57 stX11_isIn npX11_isIn (by decide) rfl (Nat.le_of_ble_eq_true rfl) (by omega) (t_X11_isIn (d := d - 1) (by omega) (by omega) hX c0) ?_
  refine ev_ifF (tgt := 19) dX11_meal_6 (by decide) (by show ¬ (1 : Int32) = 0; decide) ?_
  refine ev_iload_n dX11_meal_9 rfl ?_
  refine ev_iconst (v := 0) dX11_meal_10 ki_0 ?_
  refine ev_bipush (v := 15) dX11_meal_11 kb_15 ?_
  refine e_Si (as := [.int v2, .int 0, .int 15]) (rest := []) dX11_meal_13 vX11_isIn ml_11_57 stX11_isIn npX11_isIn (by decide) rfl (Nat.le_of_ble_eq_true rfl) (by omega) (t_X11_isIn (d := d - 1) (by omega) (by omega) hX c1) ?_
  refine ev_ifT (tgt := 22) dX11_meal_16 (by decide) (by show ¬ (1 : Int32) = 0; decide) ?_
  refine ev_aload_n dX11_meal_22 rfl ?_
  refine ev_getS (q := 1) dX11_meal_23 fo_11_10 (by omega) lo_0 rfl (sh_0_0 hX (by omega)) (by decide) ?_
  refine ev_getS (q := 23) dX11_meal_26 fo_11_96 (by omega) lo_1 rfl (sh_1_1 hX (by omega)) (by decide) ?_
  refine ev_astore_n dX11_meal_29 (by decide) ?_
  refine ev_aload_n dX11_meal_30 rfl ?_
  refine ev_getI dX11_meal_31 fo_11_100 (by omega) lo_23 rfl ?_
  refine ev_bipush (v := 10) dX11_meal_34 kb_10 ?_
  refine ev_icmpT (tgt := 42) dX11_meal_36 (by decide) c2 ?_
  refine ev_aload_n dX11_meal_42 rfl ?_
  refine ev_dup dX11_meal_43 rfl ?_
  refine ev_getI dX11_meal_44 fo_11_100 (by omega) lo_23 rfl ?_
  refine ev_dup_x1 dX11_meal_47 rfl rfl ?_
  refine ev_iconst (v := 1) dX11_meal_48 ki_1 ?_
  refine ev_iadd dX11_meal_49 ?_
  refine ev_putI dX11_meal_50 fo_11_100 (by omega) lo_23 rfl rfl rfl ?_
  have hX1 : Sh _ (lx_up X 23 0 ((X 23 0) + 1)) := Sh.upF hX (by rw [lo_23]; decide) (by decide)
  refine ev_istore dX11_meal_53 (by decide) ?_
  refine ev_aload_n dX11_meal_55 rfl ?_
  refine ev_getS (q := 24) dX11_meal_56 fo_11_103 (by omega) lo_23 rfl (sh_23_1 hX1 (by omega)) (by decide) ?_
  refine ev_iload dX11_meal_59 rfl ?_
  refine ev_iload_n dX11_meal_61 rfl ?_
  refine ev_iast dX11_meal_62 (by omega) ly_24 hj1 b0 ?_
  have hX2 : Sh _ (lx_up (lx_up X 23 0 ((X 23 0) + 1)) 24 j1 v1) := Sh.upA hX1 (by rw [ly_24]; exact (by decide : 0 < 2))
  refine ev_aload_n dX11_meal_63 rfl ?_
  refine ev_getS (q := 25) dX11_meal_64 fo_11_106 (by omega) lo_23 rfl (sh_23_2 hX2 (by omega)) (by decide) ?_
  refine ev_iload dX11_meal_67 rfl ?_
  refine ev_iload_n dX11_meal_69 rfl ?_
  refine ev_iast dX11_meal_70 (by omega) ly_25 hj1 b0 ?_
  have hX3 : Sh _ (lx_up (lx_up (lx_up X 23 0 ((X 23 0) + 1)) 24 j1 v1) 25 j1 v2) := Sh.upA hX2 (by rw [ly_25]; exact (by decide : 0 < 2))
  refine ev_iload dX11_meal_71 rfl ?_
  exact ev_iret dX11_meal_73 rfl rfl hp
theorem bX11_meal_0_2 {g : GG} {d n : Nat} {post : Option Value → LX → Prop} {X : LX} (hd : 1 ≤ d) (hn : 146 ≤ n) (hX : Sh n X) {v1 : Int32} {v2 : Int32} (c0 : 0 ≤ v1 ∧ v1 ≤ 3) (c1 : ¬ (0 ≤ v2 ∧ v2 ≤ 15)) (hp : post (some (.int (-1000000001))) X) : Ev g mX11_meal d n n post n 0 [some (.ref 0), some (.int v1), some (.int v2), none, none] [] X := by
  refine ev_iload_n dX11_meal_0 rfl ?_
  refine ev_iconst (v := 0) dX11_meal_1 ki_0 ?_
  refine ev_iconst (v := 3) dX11_meal_2 ki_3 ?_
  refine e_Si (as := [.int v1, .int 0, .int 3]) (rest := []) dX11_meal_3 vX11_isIn ml_11_57 stX11_isIn npX11_isIn (by decide) rfl (Nat.le_of_ble_eq_true rfl) (by omega) (t_X11_isIn (d := d - 1) (by omega) (by omega) hX c0) ?_
  refine ev_ifF (tgt := 19) dX11_meal_6 (by decide) (by show ¬ (1 : Int32) = 0; decide) ?_
  refine ev_iload_n dX11_meal_9 rfl ?_
  refine ev_iconst (v := 0) dX11_meal_10 ki_0 ?_
  refine ev_bipush (v := 15) dX11_meal_11 kb_15 ?_
  refine e_Si (as := [.int v2, .int 0, .int 15]) (rest := []) dX11_meal_13 vX11_isIn ml_11_57 stX11_isIn npX11_isIn (by decide) rfl (Nat.le_of_ble_eq_true rfl) (by omega) (f_X11_isIn (d := d - 1) (by omega) (by omega) hX c1) ?_
  refine ev_ifF (tgt := 22) dX11_meal_16 (by decide) (by show (0 : Int32) = 0; decide) ?_
  refine ev_ldc (v := (-1000000001)) dX11_meal_19 kw_11_61 ?_
  exact ev_iret dX11_meal_21 rfl rfl hp
theorem bX11_meal_0_3 {g : GG} {d n : Nat} {post : Option Value → LX → Prop} {X : LX} (hd : 1 ≤ d) (hn : 146 ≤ n) (hX : Sh n X) {v1 : Int32} {v2 : Int32} (c0 : ¬ (0 ≤ v1 ∧ v1 ≤ 3)) (hp : post (some (.int (-1000000001))) X) : Ev g mX11_meal d n n post n 0 [some (.ref 0), some (.int v1), some (.int v2), none, none] [] X := by
  refine ev_iload_n dX11_meal_0 rfl ?_
  refine ev_iconst (v := 0) dX11_meal_1 ki_0 ?_
  refine ev_iconst (v := 3) dX11_meal_2 ki_3 ?_
  refine e_Si (as := [.int v1, .int 0, .int 3]) (rest := []) dX11_meal_3 vX11_isIn ml_11_57 stX11_isIn npX11_isIn (by decide) rfl (Nat.le_of_ble_eq_true rfl) (by omega) (f_X11_isIn (d := d - 1) (by omega) (by omega) hX c0) ?_
  refine ev_ifT (tgt := 19) dX11_meal_6 (by decide) (by show (0 : Int32) = 0; decide) ?_
  refine ev_ldc (v := (-1000000001)) dX11_meal_19 kw_11_61 ?_
  exact ev_iret dX11_meal_21 rfl rfl hp
theorem bX12_meal_0_0 {g : GG} {d n : Nat} {post : Option Value → LX → Prop} {X : LX} (hd : 1 ≤ d) (hn : 146 ≤ n) (hX : Sh n X) {v1 : Int32} {v2 : Int32} (c0 : 0 ≤ v1 ∧ v1 ≤ 3) (c1 : 0 ≤ v2 ∧ v2 ≤ 15) (c2 : X 134 5 = 10) (hp : post (some (.int (-1000000003))) X) : Ev g mX12_meal d n n post n 0 [some (.ref 133), some (.int v1), some (.int v2), none] [] X := by
  refine ev_iload_n dX12_meal_0 rfl ?_
  refine ev_iconst (v := 0) dX12_meal_1 ki_0 ?_
  refine ev_iconst (v := 3) dX12_meal_2 ki_3 ?_
  refine e_Si (as := [.int v1, .int 0, .int 3]) (rest := []) dX12_meal_3 vX12_within ml_12_52 stX12_within npX12_within (by decide) rfl (Nat.le_of_ble_eq_true rfl) (by omega) (t_X12_within (d := d - 1) (by omega) (by omega) hX c0) ?_
  refine ev_ifF (tgt := 19) dX12_meal_6 (by decide) (by show ¬ (1 : Int32) = 0; decide) ?_
  refine ev_iload_n dX12_meal_9 rfl ?_
  refine ev_iconst (v := 0) dX12_meal_10 ki_0 ?_
  refine ev_bipush (v := 15) dX12_meal_11 kb_15 ?_
  refine e_Si (as := [.int v2, .int 0, .int 15]) (rest := []) dX12_meal_13 vX12_within ml_12_52 stX12_within npX12_within (by decide) rfl (Nat.le_of_ble_eq_true rfl) (by omega) (t_X12_within (d := d - 1) (by omega) (by omega) hX c1) ?_
  refine ev_ifT (tgt := 22) dX12_meal_16 (by decide) (by show ¬ (1 : Int32) = 0; decide) ?_
  refine ev_aload_n dX12_meal_22 rfl ?_
  refine ev_getS (q := 134) dX12_meal_23 fo_12_9 (by omega) lo_133 rfl (sh_133_0 hX (by omega)) (by decide) ?_
  refine ev_iconst (v := 5) dX12_meal_26 ki_5 ?_
  refine ev_iald dX12_meal_27 (by omega) ly_134 nIl_5 (by decide) ?_
  refine ev_istore_n dX12_meal_28 (by decide) ?_
  refine ev_iload_n dX12_meal_29 rfl ?_
  refine ev_bipush (v := 10) dX12_meal_30 kb_10 ?_
  refine ev_icmpF (tgt := 38) dX12_meal_32 (by decide) c2 ?_
  refine ev_ldc (v := (-1000000003)) dX12_meal_35 kw_12_58 ?_
  exact ev_iret dX12_meal_37 rfl rfl hp
theorem bX12_meal_0_1 {g : GG} {d n : Nat} {post : Option Value → LX → Prop} {X : LX} (hd : 1 ≤ d) (hn : 146 ≤ n) (hX : Sh n X) {v1 : Int32} {v2 : Int32} {j1 : Nat} (c0 : 0 ≤ v1 ∧ v1 ≤ 3) (c1 : 0 ≤ v2 ∧ v2 ≤ 15) (c2 : ¬ X 134 5 = 10) (hj1 : X 134 5 = nI j1) (b0 : ((318 + (13 * j1)) + 0) < 2156) (b1 : ((318 + (13 * j1)) + 1) < 2156) (hp : post (some (.int (X 134 5))) (lx_up (lx_up (lx_up X 134 ((318 + (13 * j1)) + 0) v1) 134 ((318 + (13 * j1)) + 1) v2) 134 5 (((lx_up (lx_up X 134 ((318 + (13 * j1)) + 0) v1) 134 ((318 + (13 * j1)) + 1) v2) 134 5) + 1))) : Ev g mX12_meal d n n post n 0 [some (.ref 133), some (.int v1), some (.int v2), none] [] X := by
  refine ev_iload_n dX12_meal_0 rfl ?_
  refine ev_iconst (v := 0) dX12_meal_1 ki_0 ?_
  refine ev_iconst (v := 3) dX12_meal_2 ki_3 ?_
  refine e_Si (as := [.int v1, .int 0, .int 3]) (rest := []) dX12_meal_3 vX12_within ml_12_52 stX12_within npX12_within (by decide) rfl (Nat.le_of_ble_eq_true rfl) (by omega) (t_X12_within (d := d - 1) (by omega) (by omega) hX c0) ?_
  refine ev_ifF (tgt := 19) dX12_meal_6 (by decide) (by show ¬ (1 : Int32) = 0; decide) ?_
  refine ev_iload_n dX12_meal_9 rfl ?_
  refine ev_iconst (v := 0) dX12_meal_10 ki_0 ?_
  refine ev_bipush (v := 15) dX12_meal_11 kb_15 ?_
  refine e_Si (as := [.int v2, .int 0, .int 15]) (rest := []) dX12_meal_13 vX12_within ml_12_52 stX12_within npX12_within (by decide) rfl (Nat.le_of_ble_eq_true rfl) (by omega) (t_X12_within (d := d - 1) (by omega) (by omega) hX c1) ?_
  refine ev_ifT (tgt := 22) dX12_meal_16 (by decide) (by show ¬ (1 : Int32) = 0; decide) ?_
  refine ev_aload_n dX12_meal_22 rfl ?_
  refine ev_getS (q := 134) dX12_meal_23 fo_12_9 (by omega) lo_133 rfl (sh_133_0 hX (by omega)) (by decide) ?_
  refine ev_iconst (v := 5) dX12_meal_26 ki_5 ?_
  refine ev_iald dX12_meal_27 (by omega) ly_134 nIl_5 (by decide) ?_
  refine ev_istore_n dX12_meal_28 (by decide) ?_
  refine ev_iload_n dX12_meal_29 rfl ?_
  refine ev_bipush (v := 10) dX12_meal_30 kb_10 ?_
  refine ev_icmpT (tgt := 38) dX12_meal_32 (by decide) c2 ?_
  refine ev_aload_n dX12_meal_38 rfl ?_
  refine ev_getS (q := 134) dX12_meal_39 fo_12_9 (by omega) lo_133 rfl (sh_133_0 hX (by omega)) (by decide) ?_
  refine ev_iload_n dX12_meal_42 rfl ?_
  refine ev_iconst (v := 0) dX12_meal_43 ki_0 ?_
  refine e_Si (as := [.int (X 134 5), .int 0]) (rest := [.ref 134]) dX12_meal_44 vX12_ofMeal ml_12_67 stX12_ofMeal npX12_ofMeal (by decide) rfl (Nat.le_of_ble_eq_true rfl) (by omega) (c_X12_ofMeal (d := d - 1) (by omega) (by omega) hX ) ?_
  refine ev_iload_n dX12_meal_47 rfl ?_
  refine ev_iast dX12_meal_48 (by omega) ly_134 (by rw [hj1]; show (nI 318 + (nI 13 * nI j1)) + nI 0 = nI ((318 + (13 * j1)) + 0); simp only [pk_mul, nI_add]) b0 ?_
  have hX1 : Sh _ (lx_up X 134 ((318 + (13 * j1)) + 0) v1) := Sh.upA hX (by rw [ly_134]; exact (by decide : 0 < 2))
  refine ev_aload_n dX12_meal_49 rfl ?_
  refine ev_getS (q := 134) dX12_meal_50 fo_12_9 (by omega) lo_133 rfl (sh_133_0 hX1 (by omega)) (by decide) ?_
  refine ev_iload_n dX12_meal_53 rfl ?_
  refine ev_iconst (v := 1) dX12_meal_54 ki_1 ?_
  refine e_Si (as := [.int (X 134 5), .int 1]) (rest := [.ref 134]) dX12_meal_55 vX12_ofMeal ml_12_67 stX12_ofMeal npX12_ofMeal (by decide) rfl (Nat.le_of_ble_eq_true rfl) (by omega) (c_X12_ofMeal (d := d - 1) (by omega) (by omega) hX1 ) ?_
  refine ev_iload_n dX12_meal_58 rfl ?_
  refine ev_iast dX12_meal_59 (by omega) ly_134 (by rw [hj1]; show (nI 318 + (nI 13 * nI j1)) + nI 1 = nI ((318 + (13 * j1)) + 1); simp only [pk_mul, nI_add]) b1 ?_
  have hX2 : Sh _ (lx_up (lx_up X 134 ((318 + (13 * j1)) + 0) v1) 134 ((318 + (13 * j1)) + 1) v2) := Sh.upA hX1 (by rw [ly_134]; exact (by decide : 0 < 2))
  refine ev_aload_n dX12_meal_60 rfl ?_
  refine ev_getS (q := 134) dX12_meal_61 fo_12_9 (by omega) lo_133 rfl (sh_133_0 hX2 (by omega)) (by decide) ?_
  refine ev_iconst (v := 5) dX12_meal_64 ki_5 ?_
  refine ev_dup2 dX12_meal_65 rfl rfl ?_
  refine ev_iald dX12_meal_66 (by omega) ly_134 nIl_5 (by decide) ?_
  refine ev_iconst (v := 1) dX12_meal_67 ki_1 ?_
  refine ev_iadd dX12_meal_68 ?_
  refine ev_iast dX12_meal_69 (by omega) ly_134 nIl_5 (by decide) ?_
  have hX3 : Sh _ (lx_up (lx_up (lx_up X 134 ((318 + (13 * j1)) + 0) v1) 134 ((318 + (13 * j1)) + 1) v2) 134 5 (((lx_up (lx_up X 134 ((318 + (13 * j1)) + 0) v1) 134 ((318 + (13 * j1)) + 1) v2) 134 5) + 1)) := Sh.upA hX2 (by rw [ly_134]; exact (by decide : 0 < 2))
  refine ev_iload_n dX12_meal_70 rfl ?_
  exact ev_iret dX12_meal_71 rfl rfl hp
theorem bX12_meal_0_2 {g : GG} {d n : Nat} {post : Option Value → LX → Prop} {X : LX} (hd : 1 ≤ d) (hn : 146 ≤ n) (hX : Sh n X) {v1 : Int32} {v2 : Int32} (c0 : 0 ≤ v1 ∧ v1 ≤ 3) (c1 : ¬ (0 ≤ v2 ∧ v2 ≤ 15)) (hp : post (some (.int (-1000000001))) X) : Ev g mX12_meal d n n post n 0 [some (.ref 133), some (.int v1), some (.int v2), none] [] X := by
  refine ev_iload_n dX12_meal_0 rfl ?_
  refine ev_iconst (v := 0) dX12_meal_1 ki_0 ?_
  refine ev_iconst (v := 3) dX12_meal_2 ki_3 ?_
  refine e_Si (as := [.int v1, .int 0, .int 3]) (rest := []) dX12_meal_3 vX12_within ml_12_52 stX12_within npX12_within (by decide) rfl (Nat.le_of_ble_eq_true rfl) (by omega) (t_X12_within (d := d - 1) (by omega) (by omega) hX c0) ?_
  refine ev_ifF (tgt := 19) dX12_meal_6 (by decide) (by show ¬ (1 : Int32) = 0; decide) ?_
  refine ev_iload_n dX12_meal_9 rfl ?_
  refine ev_iconst (v := 0) dX12_meal_10 ki_0 ?_
  refine ev_bipush (v := 15) dX12_meal_11 kb_15 ?_
  refine e_Si (as := [.int v2, .int 0, .int 15]) (rest := []) dX12_meal_13 vX12_within ml_12_52 stX12_within npX12_within (by decide) rfl (Nat.le_of_ble_eq_true rfl) (by omega) (f_X12_within (d := d - 1) (by omega) (by omega) hX c1) ?_
  refine ev_ifF (tgt := 22) dX12_meal_16 (by decide) (by show (0 : Int32) = 0; decide) ?_
  refine ev_ldc (v := (-1000000001)) dX12_meal_19 kw_12_57 ?_
  exact ev_iret dX12_meal_21 rfl rfl hp
theorem bX12_meal_0_3 {g : GG} {d n : Nat} {post : Option Value → LX → Prop} {X : LX} (hd : 1 ≤ d) (hn : 146 ≤ n) (hX : Sh n X) {v1 : Int32} {v2 : Int32} (c0 : ¬ (0 ≤ v1 ∧ v1 ≤ 3)) (hp : post (some (.int (-1000000001))) X) : Ev g mX12_meal d n n post n 0 [some (.ref 133), some (.int v1), some (.int v2), none] [] X := by
  refine ev_iload_n dX12_meal_0 rfl ?_
  refine ev_iconst (v := 0) dX12_meal_1 ki_0 ?_
  refine ev_iconst (v := 3) dX12_meal_2 ki_3 ?_
  refine e_Si (as := [.int v1, .int 0, .int 3]) (rest := []) dX12_meal_3 vX12_within ml_12_52 stX12_within npX12_within (by decide) rfl (Nat.le_of_ble_eq_true rfl) (by omega) (f_X12_within (d := d - 1) (by omega) (by omega) hX c0) ?_
  refine ev_ifT (tgt := 19) dX12_meal_6 (by decide) (by show (0 : Int32) = 0; decide) ?_
  refine ev_ldc (v := (-1000000001)) dX12_meal_19 kw_12_57 ?_
  exact ev_iret dX12_meal_21 rfl rfl hp
theorem bX11_part_0_0 {g : GG} {d n : Nat} {post : Option Value → LX → Prop} {X : LX} (hd : 1 ≤ d) (hn : 146 ≤ n) (hX : Sh n X) {v1 : Int32} {v2 : Int32} {v3 : Int32} (c0 : 0 ≤ v1 ∧ v1 ≤ 255) (c1 : 1 ≤ v3 ∧ v3 ≤ 20) (c2 : ¬ v2 < 0) (c3 : 1 ≤ (v2 / 100) ∧ (v2 / 100) ≤ 999) (c4 : ¬ 4 ≤ (v2 / 10) - (v2 / 10) / 10 * 10) (c5 : ¬ v2 - v2 / 10 * 10 < 6) (hp : post (some (.int (-1000000001))) X) : Ev g mX11_part d n n post n 0 [some (.ref 0), some (.int v1), some (.int v2), some (.int v3), none, none, none, none, none] [] X := by
  refine ev_iload_n dX11_part_0 rfl ?_
  refine ev_bipush (v := 100) dX11_part_1 kb_100 ?_
  refine ev_idiv dX11_part_3 (by decide) ?_
  refine ev_istore dX11_part_4 (by decide) ?_
  refine ev_iload_n dX11_part_6 rfl ?_
  refine ev_bipush (v := 10) dX11_part_7 kb_10 ?_
  refine ev_idiv dX11_part_9 (by decide) ?_
  refine ev_bipush (v := 10) dX11_part_10 kb_10 ?_
  refine ev_irem dX11_part_12 (by decide) ?_
  refine ev_istore dX11_part_13 (by decide) ?_
  refine ev_iload_n dX11_part_15 rfl ?_
  refine ev_bipush (v := 10) dX11_part_16 kb_10 ?_
  refine ev_irem dX11_part_18 (by decide) ?_
  refine ev_istore dX11_part_19 (by decide) ?_
  refine ev_iload_n dX11_part_21 rfl ?_
  refine ev_iconst (v := 0) dX11_part_22 ki_0 ?_
  refine ev_sipush (v := 255) dX11_part_23 ks_255 ?_
  refine e_Si (as := [.int v1, .int 0, .int 255]) (rest := []) dX11_part_26 vX11_isIn ml_11_57 stX11_isIn npX11_isIn (by decide) rfl (Nat.le_of_ble_eq_true rfl) (by omega) (t_X11_isIn (d := d - 1) (by omega) (by omega) hX c0) ?_
  refine ev_ifF (tgt := 42) dX11_part_29 (by decide) (by show ¬ (1 : Int32) = 0; decide) ?_
  refine ev_iload_n dX11_part_32 rfl ?_
  refine ev_iconst (v := 1) dX11_part_33 ki_1 ?_
  refine ev_bipush (v := 20) dX11_part_34 kb_20 ?_
  refine e_Si (as := [.int v3, .int 1, .int 20]) (rest := []) dX11_part_36 vX11_isIn ml_11_57 stX11_isIn npX11_isIn (by decide) rfl (Nat.le_of_ble_eq_true rfl) (by omega) (t_X11_isIn (d := d - 1) (by omega) (by omega) hX c1) ?_
  refine ev_ifT (tgt := 45) dX11_part_39 (by decide) (by show ¬ (1 : Int32) = 0; decide) ?_
  refine ev_iload_n dX11_part_45 rfl ?_
  refine ev_ifF (tgt := 74) dX11_part_46 (by decide) c2 ?_
  refine ev_iload dX11_part_49 rfl ?_
  refine ev_iconst (v := 1) dX11_part_51 ki_1 ?_
  refine ev_sipush (v := 999) dX11_part_52 ks_999 ?_
  refine e_Si (as := [.int (v2 / 100), .int 1, .int 999]) (rest := []) dX11_part_55 vX11_isIn ml_11_57 stX11_isIn npX11_isIn (by decide) rfl (Nat.le_of_ble_eq_true rfl) (by omega) (t_X11_isIn (d := d - 1) (by omega) (by omega) hX c3) ?_
  refine ev_ifF (tgt := 74) dX11_part_58 (by decide) (by show ¬ (1 : Int32) = 0; decide) ?_
  refine ev_iload dX11_part_61 rfl ?_
  refine ev_iconst (v := 4) dX11_part_63 ki_4 ?_
  refine ev_icmpF (tgt := 74) dX11_part_64 (by decide) c4 ?_
  refine ev_iload dX11_part_67 rfl ?_
  refine ev_bipush (v := 6) dX11_part_69 kb_6 ?_
  refine ev_icmpF (tgt := 77) dX11_part_71 (by decide) c5 ?_
  refine ev_ldc (v := (-1000000001)) dX11_part_74 kw_11_61 ?_
  exact ev_iret dX11_part_76 rfl rfl hp
theorem bX11_part_0_1 {g : GG} {d n : Nat} {post : Option Value → LX → Prop} {X : LX} (hd : 1 ≤ d) (hn : 146 ≤ n) (hX : Sh n X) {v1 : Int32} {v2 : Int32} {v3 : Int32} (c0 : 0 ≤ v1 ∧ v1 ≤ 255) (c1 : 1 ≤ v3 ∧ v3 ≤ 20) (c2 : ¬ v2 < 0) (c3 : 1 ≤ (v2 / 100) ∧ (v2 / 100) ≤ 999) (c4 : ¬ 4 ≤ (v2 / 10) - (v2 / 10) / 10 * 10) (c5 : v2 - v2 / 10 * 10 < 6) (c6 : ¬ X 2 0 < 14) (hp : post (some (.int (-1000000003))) X) : Ev g mX11_part d n n post n 0 [some (.ref 0), some (.int v1), some (.int v2), some (.int v3), none, none, none, none, none] [] X := by
  refine ev_iload_n dX11_part_0 rfl ?_
  refine ev_bipush (v := 100) dX11_part_1 kb_100 ?_
  refine ev_idiv dX11_part_3 (by decide) ?_
  refine ev_istore dX11_part_4 (by decide) ?_
  refine ev_iload_n dX11_part_6 rfl ?_
  refine ev_bipush (v := 10) dX11_part_7 kb_10 ?_
  refine ev_idiv dX11_part_9 (by decide) ?_
  refine ev_bipush (v := 10) dX11_part_10 kb_10 ?_
  refine ev_irem dX11_part_12 (by decide) ?_
  refine ev_istore dX11_part_13 (by decide) ?_
  refine ev_iload_n dX11_part_15 rfl ?_
  refine ev_bipush (v := 10) dX11_part_16 kb_10 ?_
  refine ev_irem dX11_part_18 (by decide) ?_
  refine ev_istore dX11_part_19 (by decide) ?_
  refine ev_iload_n dX11_part_21 rfl ?_
  refine ev_iconst (v := 0) dX11_part_22 ki_0 ?_
  refine ev_sipush (v := 255) dX11_part_23 ks_255 ?_
  refine e_Si (as := [.int v1, .int 0, .int 255]) (rest := []) dX11_part_26 vX11_isIn ml_11_57 stX11_isIn npX11_isIn (by decide) rfl (Nat.le_of_ble_eq_true rfl) (by omega) (t_X11_isIn (d := d - 1) (by omega) (by omega) hX c0) ?_
  refine ev_ifF (tgt := 42) dX11_part_29 (by decide) (by show ¬ (1 : Int32) = 0; decide) ?_
  refine ev_iload_n dX11_part_32 rfl ?_
  refine ev_iconst (v := 1) dX11_part_33 ki_1 ?_
  refine ev_bipush (v := 20) dX11_part_34 kb_20 ?_
  refine e_Si (as := [.int v3, .int 1, .int 20]) (rest := []) dX11_part_36 vX11_isIn ml_11_57 stX11_isIn npX11_isIn (by decide) rfl (Nat.le_of_ble_eq_true rfl) (by omega) (t_X11_isIn (d := d - 1) (by omega) (by omega) hX c1) ?_
  refine ev_ifT (tgt := 45) dX11_part_39 (by decide) (by show ¬ (1 : Int32) = 0; decide) ?_
  refine ev_iload_n dX11_part_45 rfl ?_
  refine ev_ifF (tgt := 74) dX11_part_46 (by decide) c2 ?_
  refine ev_iload dX11_part_49 rfl ?_
  refine ev_iconst (v := 1) dX11_part_51 ki_1 ?_
  refine ev_sipush (v := 999) dX11_part_52 ks_999 ?_
  refine e_Si (as := [.int (v2 / 100), .int 1, .int 999]) (rest := []) dX11_part_55 vX11_isIn ml_11_57 stX11_isIn npX11_isIn (by decide) rfl (Nat.le_of_ble_eq_true rfl) (by omega) (t_X11_isIn (d := d - 1) (by omega) (by omega) hX c3) ?_
  refine ev_ifF (tgt := 74) dX11_part_58 (by decide) (by show ¬ (1 : Int32) = 0; decide) ?_
  refine ev_iload dX11_part_61 rfl ?_
  refine ev_iconst (v := 4) dX11_part_63 ki_4 ?_
  refine ev_icmpF (tgt := 74) dX11_part_64 (by decide) c4 ?_
  refine ev_iload dX11_part_67 rfl ?_
  refine ev_bipush (v := 6) dX11_part_69 kb_6 ?_
  refine ev_icmpT (tgt := 77) dX11_part_71 (by decide) c5 ?_
  refine ev_aload_n dX11_part_77 rfl ?_
  refine ev_getS (q := 1) dX11_part_78 fo_11_10 (by omega) lo_0 rfl (sh_0_0 hX (by omega)) (by decide) ?_
  refine ev_getS (q := 2) dX11_part_81 fo_11_62 (by omega) lo_1 rfl (sh_1_0 hX (by omega)) (by decide) ?_
  refine ev_astore dX11_part_84 (by decide) ?_
  refine ev_aload dX11_part_86 rfl ?_
  refine ev_getI dX11_part_88 fo_11_66 (by omega) lo_2 rfl ?_
  refine ev_bipush (v := 14) dX11_part_91 kb_14 ?_
  refine ev_icmpF (tgt := 99) dX11_part_93 (by decide) c6 ?_
  refine ev_ldc (v := (-1000000003)) dX11_part_96 kw_11_72 ?_
  exact ev_iret dX11_part_98 rfl rfl hp
theorem bX11_part_0_2 {g : GG} {d n : Nat} {post : Option Value → LX → Prop} {X : LX} (hd : 1 ≤ d) (hn : 146 ≤ n) (hX : Sh n X) {v1 : Int32} {v2 : Int32} {v3 : Int32} {j1 : Nat} (c0 : 0 ≤ v1 ∧ v1 ≤ 255) (c1 : 1 ≤ v3 ∧ v3 ≤ 20) (c2 : ¬ v2 < 0) (c3 : 1 ≤ (v2 / 100) ∧ (v2 / 100) ≤ 999) (c4 : ¬ 4 ≤ (v2 / 10) - (v2 / 10) / 10 * 10) (c5 : v2 - v2 / 10 * 10 < 6) (c6 : X 2 0 < 14) (hj1 : X 2 0 = nI j1) (b0 : j1 < 14) (hp : post (some (.int (X 2 0))) (lx_up (lx_up (lx_up (lx_up (lx_up (lx_up X 2 0 ((X 2 0) + 1)) 3 j1 v1) 5 j1 (v2 / 100)) 6 j1 ((v2 / 10) - (v2 / 10) / 10 * 10)) 4 j1 (v2 - v2 / 10 * 10)) 7 j1 v3)) : Ev g mX11_part d n n post n 0 [some (.ref 0), some (.int v1), some (.int v2), some (.int v3), none, none, none, none, none] [] X := by
  refine ev_iload_n dX11_part_0 rfl ?_
  refine ev_bipush (v := 100) dX11_part_1 kb_100 ?_
  refine ev_idiv dX11_part_3 (by decide) ?_
  refine ev_istore dX11_part_4 (by decide) ?_
  refine ev_iload_n dX11_part_6 rfl ?_
  refine ev_bipush (v := 10) dX11_part_7 kb_10 ?_
  refine ev_idiv dX11_part_9 (by decide) ?_
  refine ev_bipush (v := 10) dX11_part_10 kb_10 ?_
  refine ev_irem dX11_part_12 (by decide) ?_
  refine ev_istore dX11_part_13 (by decide) ?_
  refine ev_iload_n dX11_part_15 rfl ?_
  refine ev_bipush (v := 10) dX11_part_16 kb_10 ?_
  refine ev_irem dX11_part_18 (by decide) ?_
  refine ev_istore dX11_part_19 (by decide) ?_
  refine ev_iload_n dX11_part_21 rfl ?_
  refine ev_iconst (v := 0) dX11_part_22 ki_0 ?_
  refine ev_sipush (v := 255) dX11_part_23 ks_255 ?_
  refine e_Si (as := [.int v1, .int 0, .int 255]) (rest := []) dX11_part_26 vX11_isIn ml_11_57 stX11_isIn npX11_isIn (by decide) rfl (Nat.le_of_ble_eq_true rfl) (by omega) (t_X11_isIn (d := d - 1) (by omega) (by omega) hX c0) ?_
  refine ev_ifF (tgt := 42) dX11_part_29 (by decide) (by show ¬ (1 : Int32) = 0; decide) ?_
  refine ev_iload_n dX11_part_32 rfl ?_
  refine ev_iconst (v := 1) dX11_part_33 ki_1 ?_
  refine ev_bipush (v := 20) dX11_part_34 kb_20 ?_
  refine e_Si (as := [.int v3, .int 1, .int 20]) (rest := []) dX11_part_36 vX11_isIn ml_11_57 stX11_isIn npX11_isIn (by decide) rfl (Nat.le_of_ble_eq_true rfl) (by omega) (t_X11_isIn (d := d - 1) (by omega) (by omega) hX c1) ?_
  refine ev_ifT (tgt := 45) dX11_part_39 (by decide) (by show ¬ (1 : Int32) = 0; decide) ?_
  refine ev_iload_n dX11_part_45 rfl ?_
  refine ev_ifF (tgt := 74) dX11_part_46 (by decide) c2 ?_
  refine ev_iload dX11_part_49 rfl ?_
  refine ev_iconst (v := 1) dX11_part_51 ki_1 ?_
  refine ev_sipush (v := 999) dX11_part_52 ks_999 ?_
  refine e_Si (as := [.int (v2 / 100), .int 1, .int 999]) (rest := []) dX11_part_55 vX11_isIn ml_11_57 stX11_isIn npX11_isIn (by decide) rfl (Nat.le_of_ble_eq_true rfl) (by omega) (t_X11_isIn (d := d - 1) (by omega) (by omega) hX c3) ?_
  refine ev_ifF (tgt := 74) dX11_part_58 (by decide) (by show ¬ (1 : Int32) = 0; decide) ?_
  refine ev_iload dX11_part_61 rfl ?_
  refine ev_iconst (v := 4) dX11_part_63 ki_4 ?_
  refine ev_icmpF (tgt := 74) dX11_part_64 (by decide) c4 ?_
  refine ev_iload dX11_part_67 rfl ?_
  refine ev_bipush (v := 6) dX11_part_69 kb_6 ?_
  refine ev_icmpT (tgt := 77) dX11_part_71 (by decide) c5 ?_
  refine ev_aload_n dX11_part_77 rfl ?_
  refine ev_getS (q := 1) dX11_part_78 fo_11_10 (by omega) lo_0 rfl (sh_0_0 hX (by omega)) (by decide) ?_
  refine ev_getS (q := 2) dX11_part_81 fo_11_62 (by omega) lo_1 rfl (sh_1_0 hX (by omega)) (by decide) ?_
  refine ev_astore dX11_part_84 (by decide) ?_
  refine ev_aload dX11_part_86 rfl ?_
  refine ev_getI dX11_part_88 fo_11_66 (by omega) lo_2 rfl ?_
  refine ev_bipush (v := 14) dX11_part_91 kb_14 ?_
  refine ev_icmpT (tgt := 99) dX11_part_93 (by decide) c6 ?_
  refine ev_aload dX11_part_99 rfl ?_
  refine ev_dup dX11_part_101 rfl ?_
  refine ev_getI dX11_part_102 fo_11_66 (by omega) lo_2 rfl ?_
  refine ev_dup_x1 dX11_part_105 rfl rfl ?_
  refine ev_iconst (v := 1) dX11_part_106 ki_1 ?_
  refine ev_iadd dX11_part_107 ?_
  refine ev_putI dX11_part_108 fo_11_66 (by omega) lo_2 rfl rfl rfl ?_
  have hX1 : Sh _ (lx_up X 2 0 ((X 2 0) + 1)) := Sh.upF hX (by rw [lo_2]; decide) (by decide)
  refine ev_istore dX11_part_111 (by decide) ?_
  refine ev_aload dX11_part_113 rfl ?_
  refine ev_getS (q := 3) dX11_part_115 fo_11_73 (by omega) lo_2 rfl (sh_2_1 hX1 (by omega)) (by decide) ?_
  refine ev_iload dX11_part_118 rfl ?_
  refine ev_iload_n dX11_part_120 rfl ?_
  refine ev_iast dX11_part_121 (by omega) ly_3 hj1 b0 ?_
  have hX2 : Sh _ (lx_up (lx_up X 2 0 ((X 2 0) + 1)) 3 j1 v1) := Sh.upA hX1 (by rw [ly_3]; exact (by decide : 0 < 2))
  refine ev_aload dX11_part_122 rfl ?_
  refine ev_getS (q := 5) dX11_part_124 fo_11_76 (by omega) lo_2 rfl (sh_2_3 hX2 (by omega)) (by decide) ?_
  refine ev_iload dX11_part_127 rfl ?_
  refine ev_iload dX11_part_129 rfl ?_
  refine ev_iast dX11_part_131 (by omega) ly_5 hj1 b0 ?_
  have hX3 : Sh _ (lx_up (lx_up (lx_up X 2 0 ((X 2 0) + 1)) 3 j1 v1) 5 j1 (v2 / 100)) := Sh.upA hX2 (by rw [ly_5]; exact (by decide : 0 < 2))
  refine ev_aload dX11_part_132 rfl ?_
  refine ev_getS (q := 6) dX11_part_134 fo_11_79 (by omega) lo_2 rfl (sh_2_4 hX3 (by omega)) (by decide) ?_
  refine ev_iload dX11_part_137 rfl ?_
  refine ev_iload dX11_part_139 rfl ?_
  refine ev_iast dX11_part_141 (by omega) ly_6 hj1 b0 ?_
  have hX4 : Sh _ (lx_up (lx_up (lx_up (lx_up X 2 0 ((X 2 0) + 1)) 3 j1 v1) 5 j1 (v2 / 100)) 6 j1 ((v2 / 10) - (v2 / 10) / 10 * 10)) := Sh.upA hX3 (by rw [ly_6]; exact (by decide : 0 < 2))
  refine ev_aload dX11_part_142 rfl ?_
  refine ev_getS (q := 4) dX11_part_144 fo_11_82 (by omega) lo_2 rfl (sh_2_2 hX4 (by omega)) (by decide) ?_
  refine ev_iload dX11_part_147 rfl ?_
  refine ev_iload dX11_part_149 rfl ?_
  refine ev_iast dX11_part_151 (by omega) ly_4 hj1 b0 ?_
  have hX5 : Sh _ (lx_up (lx_up (lx_up (lx_up (lx_up X 2 0 ((X 2 0) + 1)) 3 j1 v1) 5 j1 (v2 / 100)) 6 j1 ((v2 / 10) - (v2 / 10) / 10 * 10)) 4 j1 (v2 - v2 / 10 * 10)) := Sh.upA hX4 (by rw [ly_4]; exact (by decide : 0 < 2))
  refine ev_aload dX11_part_152 rfl ?_
  refine ev_getS (q := 7) dX11_part_154 fo_11_85 (by omega) lo_2 rfl (sh_2_5 hX5 (by omega)) (by decide) ?_
  refine ev_iload dX11_part_157 rfl ?_
  refine ev_iload_n dX11_part_159 rfl ?_
  refine ev_iast dX11_part_160 (by omega) ly_7 hj1 b0 ?_
  have hX6 : Sh _ (lx_up (lx_up (lx_up (lx_up (lx_up (lx_up X 2 0 ((X 2 0) + 1)) 3 j1 v1) 5 j1 (v2 / 100)) 6 j1 ((v2 / 10) - (v2 / 10) / 10 * 10)) 4 j1 (v2 - v2 / 10 * 10)) 7 j1 v3) := Sh.upA hX5 (by rw [ly_7]; exact (by decide : 0 < 2))
  refine ev_iload dX11_part_161 rfl ?_
  exact ev_iret dX11_part_163 rfl rfl hp
theorem bX11_part_0_3 {g : GG} {d n : Nat} {post : Option Value → LX → Prop} {X : LX} (hd : 1 ≤ d) (hn : 146 ≤ n) (hX : Sh n X) {v1 : Int32} {v2 : Int32} {v3 : Int32} (c0 : 0 ≤ v1 ∧ v1 ≤ 255) (c1 : 1 ≤ v3 ∧ v3 ≤ 20) (c2 : ¬ v2 < 0) (c3 : 1 ≤ (v2 / 100) ∧ (v2 / 100) ≤ 999) (c4 : 4 ≤ (v2 / 10) - (v2 / 10) / 10 * 10) (hp : post (some (.int (-1000000001))) X) : Ev g mX11_part d n n post n 0 [some (.ref 0), some (.int v1), some (.int v2), some (.int v3), none, none, none, none, none] [] X := by
  refine ev_iload_n dX11_part_0 rfl ?_
  refine ev_bipush (v := 100) dX11_part_1 kb_100 ?_
  refine ev_idiv dX11_part_3 (by decide) ?_
  refine ev_istore dX11_part_4 (by decide) ?_
  refine ev_iload_n dX11_part_6 rfl ?_
  refine ev_bipush (v := 10) dX11_part_7 kb_10 ?_
  refine ev_idiv dX11_part_9 (by decide) ?_
  refine ev_bipush (v := 10) dX11_part_10 kb_10 ?_
  refine ev_irem dX11_part_12 (by decide) ?_
  refine ev_istore dX11_part_13 (by decide) ?_
  refine ev_iload_n dX11_part_15 rfl ?_
  refine ev_bipush (v := 10) dX11_part_16 kb_10 ?_
  refine ev_irem dX11_part_18 (by decide) ?_
  refine ev_istore dX11_part_19 (by decide) ?_
  refine ev_iload_n dX11_part_21 rfl ?_
  refine ev_iconst (v := 0) dX11_part_22 ki_0 ?_
  refine ev_sipush (v := 255) dX11_part_23 ks_255 ?_
  refine e_Si (as := [.int v1, .int 0, .int 255]) (rest := []) dX11_part_26 vX11_isIn ml_11_57 stX11_isIn npX11_isIn (by decide) rfl (Nat.le_of_ble_eq_true rfl) (by omega) (t_X11_isIn (d := d - 1) (by omega) (by omega) hX c0) ?_
  refine ev_ifF (tgt := 42) dX11_part_29 (by decide) (by show ¬ (1 : Int32) = 0; decide) ?_
  refine ev_iload_n dX11_part_32 rfl ?_
  refine ev_iconst (v := 1) dX11_part_33 ki_1 ?_
  refine ev_bipush (v := 20) dX11_part_34 kb_20 ?_
  refine e_Si (as := [.int v3, .int 1, .int 20]) (rest := []) dX11_part_36 vX11_isIn ml_11_57 stX11_isIn npX11_isIn (by decide) rfl (Nat.le_of_ble_eq_true rfl) (by omega) (t_X11_isIn (d := d - 1) (by omega) (by omega) hX c1) ?_
  refine ev_ifT (tgt := 45) dX11_part_39 (by decide) (by show ¬ (1 : Int32) = 0; decide) ?_
  refine ev_iload_n dX11_part_45 rfl ?_
  refine ev_ifF (tgt := 74) dX11_part_46 (by decide) c2 ?_
  refine ev_iload dX11_part_49 rfl ?_
  refine ev_iconst (v := 1) dX11_part_51 ki_1 ?_
  refine ev_sipush (v := 999) dX11_part_52 ks_999 ?_
  refine e_Si (as := [.int (v2 / 100), .int 1, .int 999]) (rest := []) dX11_part_55 vX11_isIn ml_11_57 stX11_isIn npX11_isIn (by decide) rfl (Nat.le_of_ble_eq_true rfl) (by omega) (t_X11_isIn (d := d - 1) (by omega) (by omega) hX c3) ?_
  refine ev_ifF (tgt := 74) dX11_part_58 (by decide) (by show ¬ (1 : Int32) = 0; decide) ?_
  refine ev_iload dX11_part_61 rfl ?_
  refine ev_iconst (v := 4) dX11_part_63 ki_4 ?_
  refine ev_icmpT (tgt := 74) dX11_part_64 (by decide) c4 ?_
  refine ev_ldc (v := (-1000000001)) dX11_part_74 kw_11_61 ?_
  exact ev_iret dX11_part_76 rfl rfl hp
theorem bX11_part_0_4 {g : GG} {d n : Nat} {post : Option Value → LX → Prop} {X : LX} (hd : 1 ≤ d) (hn : 146 ≤ n) (hX : Sh n X) {v1 : Int32} {v2 : Int32} {v3 : Int32} (c0 : 0 ≤ v1 ∧ v1 ≤ 255) (c1 : 1 ≤ v3 ∧ v3 ≤ 20) (c2 : ¬ v2 < 0) (c3 : ¬ (1 ≤ (v2 / 100) ∧ (v2 / 100) ≤ 999)) (hp : post (some (.int (-1000000001))) X) : Ev g mX11_part d n n post n 0 [some (.ref 0), some (.int v1), some (.int v2), some (.int v3), none, none, none, none, none] [] X := by
  refine ev_iload_n dX11_part_0 rfl ?_
  refine ev_bipush (v := 100) dX11_part_1 kb_100 ?_
  refine ev_idiv dX11_part_3 (by decide) ?_
  refine ev_istore dX11_part_4 (by decide) ?_
  refine ev_iload_n dX11_part_6 rfl ?_
  refine ev_bipush (v := 10) dX11_part_7 kb_10 ?_
  refine ev_idiv dX11_part_9 (by decide) ?_
  refine ev_bipush (v := 10) dX11_part_10 kb_10 ?_
  refine ev_irem dX11_part_12 (by decide) ?_
  refine ev_istore dX11_part_13 (by decide) ?_
  refine ev_iload_n dX11_part_15 rfl ?_
  refine ev_bipush (v := 10) dX11_part_16 kb_10 ?_
  refine ev_irem dX11_part_18 (by decide) ?_
  refine ev_istore dX11_part_19 (by decide) ?_
  refine ev_iload_n dX11_part_21 rfl ?_
  refine ev_iconst (v := 0) dX11_part_22 ki_0 ?_
  refine ev_sipush (v := 255) dX11_part_23 ks_255 ?_
  refine e_Si (as := [.int v1, .int 0, .int 255]) (rest := []) dX11_part_26 vX11_isIn ml_11_57 stX11_isIn npX11_isIn (by decide) rfl (Nat.le_of_ble_eq_true rfl) (by omega) (t_X11_isIn (d := d - 1) (by omega) (by omega) hX c0) ?_
  refine ev_ifF (tgt := 42) dX11_part_29 (by decide) (by show ¬ (1 : Int32) = 0; decide) ?_
  refine ev_iload_n dX11_part_32 rfl ?_
  refine ev_iconst (v := 1) dX11_part_33 ki_1 ?_
  refine ev_bipush (v := 20) dX11_part_34 kb_20 ?_
  refine e_Si (as := [.int v3, .int 1, .int 20]) (rest := []) dX11_part_36 vX11_isIn ml_11_57 stX11_isIn npX11_isIn (by decide) rfl (Nat.le_of_ble_eq_true rfl) (by omega) (t_X11_isIn (d := d - 1) (by omega) (by omega) hX c1) ?_
  refine ev_ifT (tgt := 45) dX11_part_39 (by decide) (by show ¬ (1 : Int32) = 0; decide) ?_
  refine ev_iload_n dX11_part_45 rfl ?_
  refine ev_ifF (tgt := 74) dX11_part_46 (by decide) c2 ?_
  refine ev_iload dX11_part_49 rfl ?_
  refine ev_iconst (v := 1) dX11_part_51 ki_1 ?_
  refine ev_sipush (v := 999) dX11_part_52 ks_999 ?_
  refine e_Si (as := [.int (v2 / 100), .int 1, .int 999]) (rest := []) dX11_part_55 vX11_isIn ml_11_57 stX11_isIn npX11_isIn (by decide) rfl (Nat.le_of_ble_eq_true rfl) (by omega) (f_X11_isIn (d := d - 1) (by omega) (by omega) hX c3) ?_
  refine ev_ifT (tgt := 74) dX11_part_58 (by decide) (by show (0 : Int32) = 0; decide) ?_
  refine ev_ldc (v := (-1000000001)) dX11_part_74 kw_11_61 ?_
  exact ev_iret dX11_part_76 rfl rfl hp
theorem bX11_part_0_5 {g : GG} {d n : Nat} {post : Option Value → LX → Prop} {X : LX} (hd : 1 ≤ d) (hn : 146 ≤ n) (hX : Sh n X) {v1 : Int32} {v2 : Int32} {v3 : Int32} (c0 : 0 ≤ v1 ∧ v1 ≤ 255) (c1 : 1 ≤ v3 ∧ v3 ≤ 20) (c2 : v2 < 0) (hp : post (some (.int (-1000000001))) X) : Ev g mX11_part d n n post n 0 [some (.ref 0), some (.int v1), some (.int v2), some (.int v3), none, none, none, none, none] [] X := by
  refine ev_iload_n dX11_part_0 rfl ?_
  refine ev_bipush (v := 100) dX11_part_1 kb_100 ?_
  refine ev_idiv dX11_part_3 (by decide) ?_
  refine ev_istore dX11_part_4 (by decide) ?_
  refine ev_iload_n dX11_part_6 rfl ?_
  refine ev_bipush (v := 10) dX11_part_7 kb_10 ?_
  refine ev_idiv dX11_part_9 (by decide) ?_
  refine ev_bipush (v := 10) dX11_part_10 kb_10 ?_
  refine ev_irem dX11_part_12 (by decide) ?_
  refine ev_istore dX11_part_13 (by decide) ?_
  refine ev_iload_n dX11_part_15 rfl ?_
  refine ev_bipush (v := 10) dX11_part_16 kb_10 ?_
  refine ev_irem dX11_part_18 (by decide) ?_
  refine ev_istore dX11_part_19 (by decide) ?_
  refine ev_iload_n dX11_part_21 rfl ?_
  refine ev_iconst (v := 0) dX11_part_22 ki_0 ?_
  refine ev_sipush (v := 255) dX11_part_23 ks_255 ?_
  refine e_Si (as := [.int v1, .int 0, .int 255]) (rest := []) dX11_part_26 vX11_isIn ml_11_57 stX11_isIn npX11_isIn (by decide) rfl (Nat.le_of_ble_eq_true rfl) (by omega) (t_X11_isIn (d := d - 1) (by omega) (by omega) hX c0) ?_
  refine ev_ifF (tgt := 42) dX11_part_29 (by decide) (by show ¬ (1 : Int32) = 0; decide) ?_
  refine ev_iload_n dX11_part_32 rfl ?_
  refine ev_iconst (v := 1) dX11_part_33 ki_1 ?_
  refine ev_bipush (v := 20) dX11_part_34 kb_20 ?_
  refine e_Si (as := [.int v3, .int 1, .int 20]) (rest := []) dX11_part_36 vX11_isIn ml_11_57 stX11_isIn npX11_isIn (by decide) rfl (Nat.le_of_ble_eq_true rfl) (by omega) (t_X11_isIn (d := d - 1) (by omega) (by omega) hX c1) ?_
  refine ev_ifT (tgt := 45) dX11_part_39 (by decide) (by show ¬ (1 : Int32) = 0; decide) ?_
  refine ev_iload_n dX11_part_45 rfl ?_
  refine ev_ifT (tgt := 74) dX11_part_46 (by decide) c2 ?_
  refine ev_ldc (v := (-1000000001)) dX11_part_74 kw_11_61 ?_
  exact ev_iret dX11_part_76 rfl rfl hp
theorem bX11_part_0_6 {g : GG} {d n : Nat} {post : Option Value → LX → Prop} {X : LX} (hd : 1 ≤ d) (hn : 146 ≤ n) (hX : Sh n X) {v1 : Int32} {v2 : Int32} {v3 : Int32} (c0 : 0 ≤ v1 ∧ v1 ≤ 255) (c1 : ¬ (1 ≤ v3 ∧ v3 ≤ 20)) (hp : post (some (.int (-1000000001))) X) : Ev g mX11_part d n n post n 0 [some (.ref 0), some (.int v1), some (.int v2), some (.int v3), none, none, none, none, none] [] X := by
  refine ev_iload_n dX11_part_0 rfl ?_
  refine ev_bipush (v := 100) dX11_part_1 kb_100 ?_
  refine ev_idiv dX11_part_3 (by decide) ?_
  refine ev_istore dX11_part_4 (by decide) ?_
  refine ev_iload_n dX11_part_6 rfl ?_
  refine ev_bipush (v := 10) dX11_part_7 kb_10 ?_
  refine ev_idiv dX11_part_9 (by decide) ?_
  refine ev_bipush (v := 10) dX11_part_10 kb_10 ?_
  refine ev_irem dX11_part_12 (by decide) ?_
  refine ev_istore dX11_part_13 (by decide) ?_
  refine ev_iload_n dX11_part_15 rfl ?_
  refine ev_bipush (v := 10) dX11_part_16 kb_10 ?_
  refine ev_irem dX11_part_18 (by decide) ?_
  refine ev_istore dX11_part_19 (by decide) ?_
  refine ev_iload_n dX11_part_21 rfl ?_
  refine ev_iconst (v := 0) dX11_part_22 ki_0 ?_
  refine ev_sipush (v := 255) dX11_part_23 ks_255 ?_
  refine e_Si (as := [.int v1, .int 0, .int 255]) (rest := []) dX11_part_26 vX11_isIn ml_11_57 stX11_isIn npX11_isIn (by decide) rfl (Nat.le_of_ble_eq_true rfl) (by omega) (t_X11_isIn (d := d - 1) (by omega) (by omega) hX c0) ?_
  refine ev_ifF (tgt := 42) dX11_part_29 (by decide) (by show ¬ (1 : Int32) = 0; decide) ?_
  refine ev_iload_n dX11_part_32 rfl ?_
  refine ev_iconst (v := 1) dX11_part_33 ki_1 ?_
  refine ev_bipush (v := 20) dX11_part_34 kb_20 ?_
  refine e_Si (as := [.int v3, .int 1, .int 20]) (rest := []) dX11_part_36 vX11_isIn ml_11_57 stX11_isIn npX11_isIn (by decide) rfl (Nat.le_of_ble_eq_true rfl) (by omega) (f_X11_isIn (d := d - 1) (by omega) (by omega) hX c1) ?_
  refine ev_ifF (tgt := 45) dX11_part_39 (by decide) (by show (0 : Int32) = 0; decide) ?_
  refine ev_ldc (v := (-1000000001)) dX11_part_42 kw_11_61 ?_
  exact ev_iret dX11_part_44 rfl rfl hp
theorem bX11_part_0_7 {g : GG} {d n : Nat} {post : Option Value → LX → Prop} {X : LX} (hd : 1 ≤ d) (hn : 146 ≤ n) (hX : Sh n X) {v1 : Int32} {v2 : Int32} {v3 : Int32} (c0 : ¬ (0 ≤ v1 ∧ v1 ≤ 255)) (hp : post (some (.int (-1000000001))) X) : Ev g mX11_part d n n post n 0 [some (.ref 0), some (.int v1), some (.int v2), some (.int v3), none, none, none, none, none] [] X := by
  refine ev_iload_n dX11_part_0 rfl ?_
  refine ev_bipush (v := 100) dX11_part_1 kb_100 ?_
  refine ev_idiv dX11_part_3 (by decide) ?_
  refine ev_istore dX11_part_4 (by decide) ?_
  refine ev_iload_n dX11_part_6 rfl ?_
  refine ev_bipush (v := 10) dX11_part_7 kb_10 ?_
  refine ev_idiv dX11_part_9 (by decide) ?_
  refine ev_bipush (v := 10) dX11_part_10 kb_10 ?_
  refine ev_irem dX11_part_12 (by decide) ?_
  refine ev_istore dX11_part_13 (by decide) ?_
  refine ev_iload_n dX11_part_15 rfl ?_
  refine ev_bipush (v := 10) dX11_part_16 kb_10 ?_
  refine ev_irem dX11_part_18 (by decide) ?_
  refine ev_istore dX11_part_19 (by decide) ?_
  refine ev_iload_n dX11_part_21 rfl ?_
  refine ev_iconst (v := 0) dX11_part_22 ki_0 ?_
  refine ev_sipush (v := 255) dX11_part_23 ks_255 ?_
  refine e_Si (as := [.int v1, .int 0, .int 255]) (rest := []) dX11_part_26 vX11_isIn ml_11_57 stX11_isIn npX11_isIn (by decide) rfl (Nat.le_of_ble_eq_true rfl) (by omega) (f_X11_isIn (d := d - 1) (by omega) (by omega) hX c0) ?_
  refine ev_ifT (tgt := 42) dX11_part_29 (by decide) (by show (0 : Int32) = 0; decide) ?_
  refine ev_ldc (v := (-1000000001)) dX11_part_42 kw_11_61 ?_
  exact ev_iret dX11_part_44 rfl rfl hp
theorem bX12_part_0_0 {g : GG} {d n : Nat} {post : Option Value → LX → Prop} {X : LX} (hd : 1 ≤ d) (hn : 146 ≤ n) (hX : Sh n X) {v1 : Int32} {v2 : Int32} {v3 : Int32} (c0 : 100 ≤ v2 ∧ v2 ≤ 99999) (c1 : ¬ 5 < v2 - v2 / 10 * 10) (c2 : ¬ 4 ≤ (v2 / 10) - (v2 / 10) / 10 * 10) (c3 : 0 ≤ v1 ∧ v1 ≤ 255) (c4 : 1 ≤ v3 ∧ v3 ≤ 20) (c5 : X 134 4 = 14) (hp : post (some (.int (-1000000003))) X) : Ev g mX12_part d n n post n 0 [some (.ref 133), some (.int v1), some (.int v2), some (.int v3), none, none] [] X := by
  refine ev_iload_n dX12_part_0 rfl ?_
  refine ev_bipush (v := 100) dX12_part_1 kb_100 ?_
  refine ev_ldc (v := 99999) dX12_part_3 kw_12_56 ?_
  refine e_Si (as := [.int v2, .int 100, .int 99999]) (rest := []) dX12_part_5 vX12_within ml_12_52 stX12_within npX12_within (by decide) rfl (Nat.le_of_ble_eq_true rfl) (by omega) (t_X12_within (d := d - 1) (by omega) (by omega) hX c0) ?_
  refine ev_ifF (tgt := 34) dX12_part_8 (by decide) (by show ¬ (1 : Int32) = 0; decide) ?_
  refine ev_iload_n dX12_part_11 rfl ?_
  refine ev_bipush (v := 10) dX12_part_12 kb_10 ?_
  refine ev_irem dX12_part_14 (by decide) ?_
  refine ev_iconst (v := 5) dX12_part_15 ki_5 ?_
  refine ev_icmpF (tgt := 34) dX12_part_16 (by decide) c1 ?_
  refine ev_iload_n dX12_part_19 rfl ?_
  refine ev_bipush (v := 10) dX12_part_20 kb_10 ?_
  refine ev_idiv dX12_part_22 (by decide) ?_
  refine ev_bipush (v := 10) dX12_part_23 kb_10 ?_
  refine ev_irem dX12_part_25 (by decide) ?_
  refine ev_iconst (v := 4) dX12_part_26 ki_4 ?_
  refine ev_icmpF (tgt := 34) dX12_part_27 (by decide) c2 ?_
  refine ev_iconst (v := 1) dX12_part_30 ki_1 ?_
  refine ev_goto (tgt := 35) dX12_part_31 (by decide) ?_
  refine ev_istore dX12_part_35 (by decide) ?_
  refine ev_iload_n dX12_part_37 rfl ?_
  refine ev_iconst (v := 0) dX12_part_38 ki_0 ?_
  refine ev_sipush (v := 255) dX12_part_39 ks_255 ?_
  refine e_Si (as := [.int v1, .int 0, .int 255]) (rest := []) dX12_part_42 vX12_within ml_12_52 stX12_within npX12_within (by decide) rfl (Nat.le_of_ble_eq_true rfl) (by omega) (t_X12_within (d := d - 1) (by omega) (by omega) hX c3) ?_
  refine ev_ifF (tgt := 63) dX12_part_45 (by decide) (by show ¬ (1 : Int32) = 0; decide) ?_
  refine ev_iload dX12_part_48 rfl ?_
  refine ev_ifF (tgt := 63) dX12_part_50 (by decide) (by show ¬ (1 : Int32) = 0; decide) ?_
  refine ev_iload_n dX12_part_53 rfl ?_
  refine ev_iconst (v := 1) dX12_part_54 ki_1 ?_
  refine ev_bipush (v := 20) dX12_part_55 kb_20 ?_
  refine e_Si (as := [.int v3, .int 1, .int 20]) (rest := []) dX12_part_57 vX12_within ml_12_52 stX12_within npX12_within (by decide) rfl (Nat.le_of_ble_eq_true rfl) (by omega) (t_X12_within (d := d - 1) (by omega) (by omega) hX c4) ?_
  refine ev_ifT (tgt := 66) dX12_part_60 (by decide) (by show ¬ (1 : Int32) = 0; decide) ?_
  refine ev_aload_n dX12_part_66 rfl ?_
  refine ev_getS (q := 134) dX12_part_67 fo_12_9 (by omega) lo_133 rfl (sh_133_0 hX (by omega)) (by decide) ?_
  refine ev_iconst (v := 4) dX12_part_70 ki_4 ?_
  refine ev_iald dX12_part_71 (by omega) ly_134 nIl_4 (by decide) ?_
  refine ev_istore dX12_part_72 (by decide) ?_
  refine ev_iload dX12_part_74 rfl ?_
  refine ev_bipush (v := 14) dX12_part_76 kb_14 ?_
  refine ev_icmpF (tgt := 84) dX12_part_78 (by decide) c5 ?_
  refine ev_ldc (v := (-1000000003)) dX12_part_81 kw_12_58 ?_
  exact ev_iret dX12_part_83 rfl rfl hp
theorem bX12_part_0_1 {g : GG} {d n : Nat} {post : Option Value → LX → Prop} {X : LX} (hd : 1 ≤ d) (hn : 146 ≤ n) (hX : Sh n X) {v1 : Int32} {v2 : Int32} {v3 : Int32} {j1 : Nat} (c0 : 100 ≤ v2 ∧ v2 ≤ 99999) (c1 : ¬ 5 < v2 - v2 / 10 * 10) (c2 : ¬ 4 ≤ (v2 / 10) - (v2 / 10) / 10 * 10) (c3 : 0 ≤ v1 ∧ v1 ≤ 255) (c4 : 1 ≤ v3 ∧ v3 ≤ 20) (c5 : ¬ X 134 4 = 14) (hj1 : X 134 4 = nI j1) (b0 : ((10 + (8 * j1)) + 0) < 2156) (b1 : ((10 + (8 * j1)) + 1) < 2156) (b2 : ((10 + (8 * j1)) + 2) < 2156) (b3 : ((10 + (8 * j1)) + 3) < 2156) (b4 : ((10 + (8 * j1)) + 4) < 2156) (hp : post (some (.int (X 134 4))) (lx_up (lx_up (lx_up (lx_up (lx_up (lx_up X 134 ((10 + (8 * j1)) + 0) v1) 134 ((10 + (8 * j1)) + 1) (v2 / 100)) 134 ((10 + (8 * j1)) + 2) ((v2 / 10) - (v2 / 10) / 10 * 10)) 134 ((10 + (8 * j1)) + 3) (v2 - v2 / 10 * 10)) 134 ((10 + (8 * j1)) + 4) v3) 134 4 (((lx_up (lx_up (lx_up (lx_up (lx_up X 134 ((10 + (8 * j1)) + 0) v1) 134 ((10 + (8 * j1)) + 1) (v2 / 100)) 134 ((10 + (8 * j1)) + 2) ((v2 / 10) - (v2 / 10) / 10 * 10)) 134 ((10 + (8 * j1)) + 3) (v2 - v2 / 10 * 10)) 134 ((10 + (8 * j1)) + 4) v3) 134 4) + 1))) : Ev g mX12_part d n n post n 0 [some (.ref 133), some (.int v1), some (.int v2), some (.int v3), none, none] [] X := by
  refine ev_iload_n dX12_part_0 rfl ?_
  refine ev_bipush (v := 100) dX12_part_1 kb_100 ?_
  refine ev_ldc (v := 99999) dX12_part_3 kw_12_56 ?_
  refine e_Si (as := [.int v2, .int 100, .int 99999]) (rest := []) dX12_part_5 vX12_within ml_12_52 stX12_within npX12_within (by decide) rfl (Nat.le_of_ble_eq_true rfl) (by omega) (t_X12_within (d := d - 1) (by omega) (by omega) hX c0) ?_
  refine ev_ifF (tgt := 34) dX12_part_8 (by decide) (by show ¬ (1 : Int32) = 0; decide) ?_
  refine ev_iload_n dX12_part_11 rfl ?_
  refine ev_bipush (v := 10) dX12_part_12 kb_10 ?_
  refine ev_irem dX12_part_14 (by decide) ?_
  refine ev_iconst (v := 5) dX12_part_15 ki_5 ?_
  refine ev_icmpF (tgt := 34) dX12_part_16 (by decide) c1 ?_
  refine ev_iload_n dX12_part_19 rfl ?_
  refine ev_bipush (v := 10) dX12_part_20 kb_10 ?_
  refine ev_idiv dX12_part_22 (by decide) ?_
  refine ev_bipush (v := 10) dX12_part_23 kb_10 ?_
  refine ev_irem dX12_part_25 (by decide) ?_
  refine ev_iconst (v := 4) dX12_part_26 ki_4 ?_
  refine ev_icmpF (tgt := 34) dX12_part_27 (by decide) c2 ?_
  refine ev_iconst (v := 1) dX12_part_30 ki_1 ?_
  refine ev_goto (tgt := 35) dX12_part_31 (by decide) ?_
  refine ev_istore dX12_part_35 (by decide) ?_
  refine ev_iload_n dX12_part_37 rfl ?_
  refine ev_iconst (v := 0) dX12_part_38 ki_0 ?_
  refine ev_sipush (v := 255) dX12_part_39 ks_255 ?_
  refine e_Si (as := [.int v1, .int 0, .int 255]) (rest := []) dX12_part_42 vX12_within ml_12_52 stX12_within npX12_within (by decide) rfl (Nat.le_of_ble_eq_true rfl) (by omega) (t_X12_within (d := d - 1) (by omega) (by omega) hX c3) ?_
  refine ev_ifF (tgt := 63) dX12_part_45 (by decide) (by show ¬ (1 : Int32) = 0; decide) ?_
  refine ev_iload dX12_part_48 rfl ?_
  refine ev_ifF (tgt := 63) dX12_part_50 (by decide) (by show ¬ (1 : Int32) = 0; decide) ?_
  refine ev_iload_n dX12_part_53 rfl ?_
  refine ev_iconst (v := 1) dX12_part_54 ki_1 ?_
  refine ev_bipush (v := 20) dX12_part_55 kb_20 ?_
  refine e_Si (as := [.int v3, .int 1, .int 20]) (rest := []) dX12_part_57 vX12_within ml_12_52 stX12_within npX12_within (by decide) rfl (Nat.le_of_ble_eq_true rfl) (by omega) (t_X12_within (d := d - 1) (by omega) (by omega) hX c4) ?_
  refine ev_ifT (tgt := 66) dX12_part_60 (by decide) (by show ¬ (1 : Int32) = 0; decide) ?_
  refine ev_aload_n dX12_part_66 rfl ?_
  refine ev_getS (q := 134) dX12_part_67 fo_12_9 (by omega) lo_133 rfl (sh_133_0 hX (by omega)) (by decide) ?_
  refine ev_iconst (v := 4) dX12_part_70 ki_4 ?_
  refine ev_iald dX12_part_71 (by omega) ly_134 nIl_4 (by decide) ?_
  refine ev_istore dX12_part_72 (by decide) ?_
  refine ev_iload dX12_part_74 rfl ?_
  refine ev_bipush (v := 14) dX12_part_76 kb_14 ?_
  refine ev_icmpT (tgt := 84) dX12_part_78 (by decide) c5 ?_
  refine ev_aload_n dX12_part_84 rfl ?_
  refine ev_getS (q := 134) dX12_part_85 fo_12_9 (by omega) lo_133 rfl (sh_133_0 hX (by omega)) (by decide) ?_
  refine ev_iload dX12_part_88 rfl ?_
  refine ev_iconst (v := 0) dX12_part_90 ki_0 ?_
  refine e_Si (as := [.int (X 134 4), .int 0]) (rest := [.ref 134]) dX12_part_91 vX12_ofPart ml_12_59 stX12_ofPart npX12_ofPart (by decide) rfl (Nat.le_of_ble_eq_true rfl) (by omega) (c_X12_ofPart (d := d - 1) (by omega) (by omega) hX ) ?_
  refine ev_iload_n dX12_part_94 rfl ?_
  refine ev_iast dX12_part_95 (by omega) ly_134 (by rw [hj1]; show (nI 10 + (nI 8 * nI j1)) + nI 0 = nI ((10 + (8 * j1)) + 0); simp only [pk_mul, nI_add]) b0 ?_
  have hX1 : Sh _ (lx_up X 134 ((10 + (8 * j1)) + 0) v1) := Sh.upA hX (by rw [ly_134]; exact (by decide : 0 < 2))
  refine ev_aload_n dX12_part_96 rfl ?_
  refine ev_getS (q := 134) dX12_part_97 fo_12_9 (by omega) lo_133 rfl (sh_133_0 hX1 (by omega)) (by decide) ?_
  refine ev_iload dX12_part_100 rfl ?_
  refine ev_iconst (v := 1) dX12_part_102 ki_1 ?_
  refine e_Si (as := [.int (X 134 4), .int 1]) (rest := [.ref 134]) dX12_part_103 vX12_ofPart ml_12_59 stX12_ofPart npX12_ofPart (by decide) rfl (Nat.le_of_ble_eq_true rfl) (by omega) (c_X12_ofPart (d := d - 1) (by omega) (by omega) hX1 ) ?_
  refine ev_iload_n dX12_part_106 rfl ?_
  refine ev_bipush (v := 100) dX12_part_107 kb_100 ?_
  refine ev_idiv dX12_part_109 (by decide) ?_
  refine ev_iast dX12_part_110 (by omega) ly_134 (by rw [hj1]; show (nI 10 + (nI 8 * nI j1)) + nI 1 = nI ((10 + (8 * j1)) + 1); simp only [pk_mul, nI_add]) b1 ?_
  have hX2 : Sh _ (lx_up (lx_up X 134 ((10 + (8 * j1)) + 0) v1) 134 ((10 + (8 * j1)) + 1) (v2 / 100)) := Sh.upA hX1 (by rw [ly_134]; exact (by decide : 0 < 2))
  refine ev_aload_n dX12_part_111 rfl ?_
  refine ev_getS (q := 134) dX12_part_112 fo_12_9 (by omega) lo_133 rfl (sh_133_0 hX2 (by omega)) (by decide) ?_
  refine ev_iload dX12_part_115 rfl ?_
  refine ev_iconst (v := 2) dX12_part_117 ki_2 ?_
  refine e_Si (as := [.int (X 134 4), .int 2]) (rest := [.ref 134]) dX12_part_118 vX12_ofPart ml_12_59 stX12_ofPart npX12_ofPart (by decide) rfl (Nat.le_of_ble_eq_true rfl) (by omega) (c_X12_ofPart (d := d - 1) (by omega) (by omega) hX2 ) ?_
  refine ev_iload_n dX12_part_121 rfl ?_
  refine ev_bipush (v := 10) dX12_part_122 kb_10 ?_
  refine ev_idiv dX12_part_124 (by decide) ?_
  refine ev_bipush (v := 10) dX12_part_125 kb_10 ?_
  refine ev_irem dX12_part_127 (by decide) ?_
  refine ev_iast dX12_part_128 (by omega) ly_134 (by rw [hj1]; show (nI 10 + (nI 8 * nI j1)) + nI 2 = nI ((10 + (8 * j1)) + 2); simp only [pk_mul, nI_add]) b2 ?_
  have hX3 : Sh _ (lx_up (lx_up (lx_up X 134 ((10 + (8 * j1)) + 0) v1) 134 ((10 + (8 * j1)) + 1) (v2 / 100)) 134 ((10 + (8 * j1)) + 2) ((v2 / 10) - (v2 / 10) / 10 * 10)) := Sh.upA hX2 (by rw [ly_134]; exact (by decide : 0 < 2))
  refine ev_aload_n dX12_part_129 rfl ?_
  refine ev_getS (q := 134) dX12_part_130 fo_12_9 (by omega) lo_133 rfl (sh_133_0 hX3 (by omega)) (by decide) ?_
  refine ev_iload dX12_part_133 rfl ?_
  refine ev_iconst (v := 3) dX12_part_135 ki_3 ?_
  refine e_Si (as := [.int (X 134 4), .int 3]) (rest := [.ref 134]) dX12_part_136 vX12_ofPart ml_12_59 stX12_ofPart npX12_ofPart (by decide) rfl (Nat.le_of_ble_eq_true rfl) (by omega) (c_X12_ofPart (d := d - 1) (by omega) (by omega) hX3 ) ?_
  refine ev_iload_n dX12_part_139 rfl ?_
  refine ev_bipush (v := 10) dX12_part_140 kb_10 ?_
  refine ev_irem dX12_part_142 (by decide) ?_
  refine ev_iast dX12_part_143 (by omega) ly_134 (by rw [hj1]; show (nI 10 + (nI 8 * nI j1)) + nI 3 = nI ((10 + (8 * j1)) + 3); simp only [pk_mul, nI_add]) b3 ?_
  have hX4 : Sh _ (lx_up (lx_up (lx_up (lx_up X 134 ((10 + (8 * j1)) + 0) v1) 134 ((10 + (8 * j1)) + 1) (v2 / 100)) 134 ((10 + (8 * j1)) + 2) ((v2 / 10) - (v2 / 10) / 10 * 10)) 134 ((10 + (8 * j1)) + 3) (v2 - v2 / 10 * 10)) := Sh.upA hX3 (by rw [ly_134]; exact (by decide : 0 < 2))
  refine ev_aload_n dX12_part_144 rfl ?_
  refine ev_getS (q := 134) dX12_part_145 fo_12_9 (by omega) lo_133 rfl (sh_133_0 hX4 (by omega)) (by decide) ?_
  refine ev_iload dX12_part_148 rfl ?_
  refine ev_iconst (v := 4) dX12_part_150 ki_4 ?_
  refine e_Si (as := [.int (X 134 4), .int 4]) (rest := [.ref 134]) dX12_part_151 vX12_ofPart ml_12_59 stX12_ofPart npX12_ofPart (by decide) rfl (Nat.le_of_ble_eq_true rfl) (by omega) (c_X12_ofPart (d := d - 1) (by omega) (by omega) hX4 ) ?_
  refine ev_iload_n dX12_part_154 rfl ?_
  refine ev_iast dX12_part_155 (by omega) ly_134 (by rw [hj1]; show (nI 10 + (nI 8 * nI j1)) + nI 4 = nI ((10 + (8 * j1)) + 4); simp only [pk_mul, nI_add]) b4 ?_
  have hX5 : Sh _ (lx_up (lx_up (lx_up (lx_up (lx_up X 134 ((10 + (8 * j1)) + 0) v1) 134 ((10 + (8 * j1)) + 1) (v2 / 100)) 134 ((10 + (8 * j1)) + 2) ((v2 / 10) - (v2 / 10) / 10 * 10)) 134 ((10 + (8 * j1)) + 3) (v2 - v2 / 10 * 10)) 134 ((10 + (8 * j1)) + 4) v3) := Sh.upA hX4 (by rw [ly_134]; exact (by decide : 0 < 2))
  refine ev_aload_n dX12_part_156 rfl ?_
  refine ev_getS (q := 134) dX12_part_157 fo_12_9 (by omega) lo_133 rfl (sh_133_0 hX5 (by omega)) (by decide) ?_
  refine ev_iconst (v := 4) dX12_part_160 ki_4 ?_
  refine ev_dup2 dX12_part_161 rfl rfl ?_
  refine ev_iald dX12_part_162 (by omega) ly_134 nIl_4 (by decide) ?_
  refine ev_iconst (v := 1) dX12_part_163 ki_1 ?_
  refine ev_iadd dX12_part_164 ?_
  refine ev_iast dX12_part_165 (by omega) ly_134 nIl_4 (by decide) ?_
  have hX6 : Sh _ (lx_up (lx_up (lx_up (lx_up (lx_up (lx_up X 134 ((10 + (8 * j1)) + 0) v1) 134 ((10 + (8 * j1)) + 1) (v2 / 100)) 134 ((10 + (8 * j1)) + 2) ((v2 / 10) - (v2 / 10) / 10 * 10)) 134 ((10 + (8 * j1)) + 3) (v2 - v2 / 10 * 10)) 134 ((10 + (8 * j1)) + 4) v3) 134 4 (((lx_up (lx_up (lx_up (lx_up (lx_up X 134 ((10 + (8 * j1)) + 0) v1) 134 ((10 + (8 * j1)) + 1) (v2 / 100)) 134 ((10 + (8 * j1)) + 2) ((v2 / 10) - (v2 / 10) / 10 * 10)) 134 ((10 + (8 * j1)) + 3) (v2 - v2 / 10 * 10)) 134 ((10 + (8 * j1)) + 4) v3) 134 4) + 1)) := Sh.upA hX5 (by rw [ly_134]; exact (by decide : 0 < 2))
  refine ev_iload dX12_part_166 rfl ?_
  exact ev_iret dX12_part_168 rfl rfl hp
theorem bX12_part_0_2 {g : GG} {d n : Nat} {post : Option Value → LX → Prop} {X : LX} (hd : 1 ≤ d) (hn : 146 ≤ n) (hX : Sh n X) {v1 : Int32} {v2 : Int32} {v3 : Int32} (c0 : 100 ≤ v2 ∧ v2 ≤ 99999) (c1 : ¬ 5 < v2 - v2 / 10 * 10) (c2 : ¬ 4 ≤ (v2 / 10) - (v2 / 10) / 10 * 10) (c3 : 0 ≤ v1 ∧ v1 ≤ 255) (c4 : ¬ (1 ≤ v3 ∧ v3 ≤ 20)) (hp : post (some (.int (-1000000001))) X) : Ev g mX12_part d n n post n 0 [some (.ref 133), some (.int v1), some (.int v2), some (.int v3), none, none] [] X := by
  refine ev_iload_n dX12_part_0 rfl ?_
  refine ev_bipush (v := 100) dX12_part_1 kb_100 ?_
  refine ev_ldc (v := 99999) dX12_part_3 kw_12_56 ?_
  refine e_Si (as := [.int v2, .int 100, .int 99999]) (rest := []) dX12_part_5 vX12_within ml_12_52 stX12_within npX12_within (by decide) rfl (Nat.le_of_ble_eq_true rfl) (by omega) (t_X12_within (d := d - 1) (by omega) (by omega) hX c0) ?_
  refine ev_ifF (tgt := 34) dX12_part_8 (by decide) (by show ¬ (1 : Int32) = 0; decide) ?_
  refine ev_iload_n dX12_part_11 rfl ?_
  refine ev_bipush (v := 10) dX12_part_12 kb_10 ?_
  refine ev_irem dX12_part_14 (by decide) ?_
  refine ev_iconst (v := 5) dX12_part_15 ki_5 ?_
  refine ev_icmpF (tgt := 34) dX12_part_16 (by decide) c1 ?_
  refine ev_iload_n dX12_part_19 rfl ?_
  refine ev_bipush (v := 10) dX12_part_20 kb_10 ?_
  refine ev_idiv dX12_part_22 (by decide) ?_
  refine ev_bipush (v := 10) dX12_part_23 kb_10 ?_
  refine ev_irem dX12_part_25 (by decide) ?_
  refine ev_iconst (v := 4) dX12_part_26 ki_4 ?_
  refine ev_icmpF (tgt := 34) dX12_part_27 (by decide) c2 ?_
  refine ev_iconst (v := 1) dX12_part_30 ki_1 ?_
  refine ev_goto (tgt := 35) dX12_part_31 (by decide) ?_
  refine ev_istore dX12_part_35 (by decide) ?_
  refine ev_iload_n dX12_part_37 rfl ?_
  refine ev_iconst (v := 0) dX12_part_38 ki_0 ?_
  refine ev_sipush (v := 255) dX12_part_39 ks_255 ?_
  refine e_Si (as := [.int v1, .int 0, .int 255]) (rest := []) dX12_part_42 vX12_within ml_12_52 stX12_within npX12_within (by decide) rfl (Nat.le_of_ble_eq_true rfl) (by omega) (t_X12_within (d := d - 1) (by omega) (by omega) hX c3) ?_
  refine ev_ifF (tgt := 63) dX12_part_45 (by decide) (by show ¬ (1 : Int32) = 0; decide) ?_
  refine ev_iload dX12_part_48 rfl ?_
  refine ev_ifF (tgt := 63) dX12_part_50 (by decide) (by show ¬ (1 : Int32) = 0; decide) ?_
  refine ev_iload_n dX12_part_53 rfl ?_
  refine ev_iconst (v := 1) dX12_part_54 ki_1 ?_
  refine ev_bipush (v := 20) dX12_part_55 kb_20 ?_
  refine e_Si (as := [.int v3, .int 1, .int 20]) (rest := []) dX12_part_57 vX12_within ml_12_52 stX12_within npX12_within (by decide) rfl (Nat.le_of_ble_eq_true rfl) (by omega) (f_X12_within (d := d - 1) (by omega) (by omega) hX c4) ?_
  refine ev_ifF (tgt := 66) dX12_part_60 (by decide) (by show (0 : Int32) = 0; decide) ?_
  refine ev_ldc (v := (-1000000001)) dX12_part_63 kw_12_57 ?_
  exact ev_iret dX12_part_65 rfl rfl hp
theorem bX12_part_0_3 {g : GG} {d n : Nat} {post : Option Value → LX → Prop} {X : LX} (hd : 1 ≤ d) (hn : 146 ≤ n) (hX : Sh n X) {v1 : Int32} {v2 : Int32} {v3 : Int32} (c0 : 100 ≤ v2 ∧ v2 ≤ 99999) (c1 : ¬ 5 < v2 - v2 / 10 * 10) (c2 : ¬ 4 ≤ (v2 / 10) - (v2 / 10) / 10 * 10) (c3 : ¬ (0 ≤ v1 ∧ v1 ≤ 255)) (hp : post (some (.int (-1000000001))) X) : Ev g mX12_part d n n post n 0 [some (.ref 133), some (.int v1), some (.int v2), some (.int v3), none, none] [] X := by
  refine ev_iload_n dX12_part_0 rfl ?_
  refine ev_bipush (v := 100) dX12_part_1 kb_100 ?_
  refine ev_ldc (v := 99999) dX12_part_3 kw_12_56 ?_
  refine e_Si (as := [.int v2, .int 100, .int 99999]) (rest := []) dX12_part_5 vX12_within ml_12_52 stX12_within npX12_within (by decide) rfl (Nat.le_of_ble_eq_true rfl) (by omega) (t_X12_within (d := d - 1) (by omega) (by omega) hX c0) ?_
  refine ev_ifF (tgt := 34) dX12_part_8 (by decide) (by show ¬ (1 : Int32) = 0; decide) ?_
  refine ev_iload_n dX12_part_11 rfl ?_
  refine ev_bipush (v := 10) dX12_part_12 kb_10 ?_
  refine ev_irem dX12_part_14 (by decide) ?_
  refine ev_iconst (v := 5) dX12_part_15 ki_5 ?_
  refine ev_icmpF (tgt := 34) dX12_part_16 (by decide) c1 ?_
  refine ev_iload_n dX12_part_19 rfl ?_
  refine ev_bipush (v := 10) dX12_part_20 kb_10 ?_
  refine ev_idiv dX12_part_22 (by decide) ?_
  refine ev_bipush (v := 10) dX12_part_23 kb_10 ?_
  refine ev_irem dX12_part_25 (by decide) ?_
  refine ev_iconst (v := 4) dX12_part_26 ki_4 ?_
  refine ev_icmpF (tgt := 34) dX12_part_27 (by decide) c2 ?_
  refine ev_iconst (v := 1) dX12_part_30 ki_1 ?_
  refine ev_goto (tgt := 35) dX12_part_31 (by decide) ?_
  refine ev_istore dX12_part_35 (by decide) ?_
  refine ev_iload_n dX12_part_37 rfl ?_
  refine ev_iconst (v := 0) dX12_part_38 ki_0 ?_
  refine ev_sipush (v := 255) dX12_part_39 ks_255 ?_
  refine e_Si (as := [.int v1, .int 0, .int 255]) (rest := []) dX12_part_42 vX12_within ml_12_52 stX12_within npX12_within (by decide) rfl (Nat.le_of_ble_eq_true rfl) (by omega) (f_X12_within (d := d - 1) (by omega) (by omega) hX c3) ?_
  refine ev_ifT (tgt := 63) dX12_part_45 (by decide) (by show (0 : Int32) = 0; decide) ?_
  refine ev_ldc (v := (-1000000001)) dX12_part_63 kw_12_57 ?_
  exact ev_iret dX12_part_65 rfl rfl hp
theorem bX12_part_0_4 {g : GG} {d n : Nat} {post : Option Value → LX → Prop} {X : LX} (hd : 1 ≤ d) (hn : 146 ≤ n) (hX : Sh n X) {v1 : Int32} {v2 : Int32} {v3 : Int32} (c0 : 100 ≤ v2 ∧ v2 ≤ 99999) (c1 : ¬ 5 < v2 - v2 / 10 * 10) (c2 : 4 ≤ (v2 / 10) - (v2 / 10) / 10 * 10) (c3 : 0 ≤ v1 ∧ v1 ≤ 255) (hp : post (some (.int (-1000000001))) X) : Ev g mX12_part d n n post n 0 [some (.ref 133), some (.int v1), some (.int v2), some (.int v3), none, none] [] X := by
  refine ev_iload_n dX12_part_0 rfl ?_
  refine ev_bipush (v := 100) dX12_part_1 kb_100 ?_
  refine ev_ldc (v := 99999) dX12_part_3 kw_12_56 ?_
  refine e_Si (as := [.int v2, .int 100, .int 99999]) (rest := []) dX12_part_5 vX12_within ml_12_52 stX12_within npX12_within (by decide) rfl (Nat.le_of_ble_eq_true rfl) (by omega) (t_X12_within (d := d - 1) (by omega) (by omega) hX c0) ?_
  refine ev_ifF (tgt := 34) dX12_part_8 (by decide) (by show ¬ (1 : Int32) = 0; decide) ?_
  refine ev_iload_n dX12_part_11 rfl ?_
  refine ev_bipush (v := 10) dX12_part_12 kb_10 ?_
  refine ev_irem dX12_part_14 (by decide) ?_
  refine ev_iconst (v := 5) dX12_part_15 ki_5 ?_
  refine ev_icmpF (tgt := 34) dX12_part_16 (by decide) c1 ?_
  refine ev_iload_n dX12_part_19 rfl ?_
  refine ev_bipush (v := 10) dX12_part_20 kb_10 ?_
  refine ev_idiv dX12_part_22 (by decide) ?_
  refine ev_bipush (v := 10) dX12_part_23 kb_10 ?_
  refine ev_irem dX12_part_25 (by decide) ?_
  refine ev_iconst (v := 4) dX12_part_26 ki_4 ?_
  refine ev_icmpT (tgt := 34) dX12_part_27 (by decide) c2 ?_
  refine ev_iconst (v := 0) dX12_part_34 ki_0 ?_
  refine ev_istore dX12_part_35 (by decide) ?_
  refine ev_iload_n dX12_part_37 rfl ?_
  refine ev_iconst (v := 0) dX12_part_38 ki_0 ?_
  refine ev_sipush (v := 255) dX12_part_39 ks_255 ?_
  refine e_Si (as := [.int v1, .int 0, .int 255]) (rest := []) dX12_part_42 vX12_within ml_12_52 stX12_within npX12_within (by decide) rfl (Nat.le_of_ble_eq_true rfl) (by omega) (t_X12_within (d := d - 1) (by omega) (by omega) hX c3) ?_
  refine ev_ifF (tgt := 63) dX12_part_45 (by decide) (by show ¬ (1 : Int32) = 0; decide) ?_
  refine ev_iload dX12_part_48 rfl ?_
  refine ev_ifT (tgt := 63) dX12_part_50 (by decide) (by show (0 : Int32) = 0; decide) ?_
  refine ev_ldc (v := (-1000000001)) dX12_part_63 kw_12_57 ?_
  exact ev_iret dX12_part_65 rfl rfl hp
theorem bX12_part_0_5 {g : GG} {d n : Nat} {post : Option Value → LX → Prop} {X : LX} (hd : 1 ≤ d) (hn : 146 ≤ n) (hX : Sh n X) {v1 : Int32} {v2 : Int32} {v3 : Int32} (c0 : 100 ≤ v2 ∧ v2 ≤ 99999) (c1 : ¬ 5 < v2 - v2 / 10 * 10) (c2 : 4 ≤ (v2 / 10) - (v2 / 10) / 10 * 10) (c3 : ¬ (0 ≤ v1 ∧ v1 ≤ 255)) (hp : post (some (.int (-1000000001))) X) : Ev g mX12_part d n n post n 0 [some (.ref 133), some (.int v1), some (.int v2), some (.int v3), none, none] [] X := by
  refine ev_iload_n dX12_part_0 rfl ?_
  refine ev_bipush (v := 100) dX12_part_1 kb_100 ?_
  refine ev_ldc (v := 99999) dX12_part_3 kw_12_56 ?_
  refine e_Si (as := [.int v2, .int 100, .int 99999]) (rest := []) dX12_part_5 vX12_within ml_12_52 stX12_within npX12_within (by decide) rfl (Nat.le_of_ble_eq_true rfl) (by omega) (t_X12_within (d := d - 1) (by omega) (by omega) hX c0) ?_
  refine ev_ifF (tgt := 34) dX12_part_8 (by decide) (by show ¬ (1 : Int32) = 0; decide) ?_
  refine ev_iload_n dX12_part_11 rfl ?_
  refine ev_bipush (v := 10) dX12_part_12 kb_10 ?_
  refine ev_irem dX12_part_14 (by decide) ?_
  refine ev_iconst (v := 5) dX12_part_15 ki_5 ?_
  refine ev_icmpF (tgt := 34) dX12_part_16 (by decide) c1 ?_
  refine ev_iload_n dX12_part_19 rfl ?_
  refine ev_bipush (v := 10) dX12_part_20 kb_10 ?_
  refine ev_idiv dX12_part_22 (by decide) ?_
  refine ev_bipush (v := 10) dX12_part_23 kb_10 ?_
  refine ev_irem dX12_part_25 (by decide) ?_
  refine ev_iconst (v := 4) dX12_part_26 ki_4 ?_
  refine ev_icmpT (tgt := 34) dX12_part_27 (by decide) c2 ?_
  refine ev_iconst (v := 0) dX12_part_34 ki_0 ?_
  refine ev_istore dX12_part_35 (by decide) ?_
  refine ev_iload_n dX12_part_37 rfl ?_
  refine ev_iconst (v := 0) dX12_part_38 ki_0 ?_
  refine ev_sipush (v := 255) dX12_part_39 ks_255 ?_
  refine e_Si (as := [.int v1, .int 0, .int 255]) (rest := []) dX12_part_42 vX12_within ml_12_52 stX12_within npX12_within (by decide) rfl (Nat.le_of_ble_eq_true rfl) (by omega) (f_X12_within (d := d - 1) (by omega) (by omega) hX c3) ?_
  refine ev_ifT (tgt := 63) dX12_part_45 (by decide) (by show (0 : Int32) = 0; decide) ?_
  refine ev_ldc (v := (-1000000001)) dX12_part_63 kw_12_57 ?_
  exact ev_iret dX12_part_65 rfl rfl hp
theorem bX12_part_0_6 {g : GG} {d n : Nat} {post : Option Value → LX → Prop} {X : LX} (hd : 1 ≤ d) (hn : 146 ≤ n) (hX : Sh n X) {v1 : Int32} {v2 : Int32} {v3 : Int32} (c0 : 100 ≤ v2 ∧ v2 ≤ 99999) (c1 : 5 < v2 - v2 / 10 * 10) (c2 : 0 ≤ v1 ∧ v1 ≤ 255) (hp : post (some (.int (-1000000001))) X) : Ev g mX12_part d n n post n 0 [some (.ref 133), some (.int v1), some (.int v2), some (.int v3), none, none] [] X := by
  refine ev_iload_n dX12_part_0 rfl ?_
  refine ev_bipush (v := 100) dX12_part_1 kb_100 ?_
  refine ev_ldc (v := 99999) dX12_part_3 kw_12_56 ?_
  refine e_Si (as := [.int v2, .int 100, .int 99999]) (rest := []) dX12_part_5 vX12_within ml_12_52 stX12_within npX12_within (by decide) rfl (Nat.le_of_ble_eq_true rfl) (by omega) (t_X12_within (d := d - 1) (by omega) (by omega) hX c0) ?_
  refine ev_ifF (tgt := 34) dX12_part_8 (by decide) (by show ¬ (1 : Int32) = 0; decide) ?_
  refine ev_iload_n dX12_part_11 rfl ?_
  refine ev_bipush (v := 10) dX12_part_12 kb_10 ?_
  refine ev_irem dX12_part_14 (by decide) ?_
  refine ev_iconst (v := 5) dX12_part_15 ki_5 ?_
  refine ev_icmpT (tgt := 34) dX12_part_16 (by decide) c1 ?_
  refine ev_iconst (v := 0) dX12_part_34 ki_0 ?_
  refine ev_istore dX12_part_35 (by decide) ?_
  refine ev_iload_n dX12_part_37 rfl ?_
  refine ev_iconst (v := 0) dX12_part_38 ki_0 ?_
  refine ev_sipush (v := 255) dX12_part_39 ks_255 ?_
  refine e_Si (as := [.int v1, .int 0, .int 255]) (rest := []) dX12_part_42 vX12_within ml_12_52 stX12_within npX12_within (by decide) rfl (Nat.le_of_ble_eq_true rfl) (by omega) (t_X12_within (d := d - 1) (by omega) (by omega) hX c2) ?_
  refine ev_ifF (tgt := 63) dX12_part_45 (by decide) (by show ¬ (1 : Int32) = 0; decide) ?_
  refine ev_iload dX12_part_48 rfl ?_
  refine ev_ifT (tgt := 63) dX12_part_50 (by decide) (by show (0 : Int32) = 0; decide) ?_
  refine ev_ldc (v := (-1000000001)) dX12_part_63 kw_12_57 ?_
  exact ev_iret dX12_part_65 rfl rfl hp
theorem bX12_part_0_7 {g : GG} {d n : Nat} {post : Option Value → LX → Prop} {X : LX} (hd : 1 ≤ d) (hn : 146 ≤ n) (hX : Sh n X) {v1 : Int32} {v2 : Int32} {v3 : Int32} (c0 : 100 ≤ v2 ∧ v2 ≤ 99999) (c1 : 5 < v2 - v2 / 10 * 10) (c2 : ¬ (0 ≤ v1 ∧ v1 ≤ 255)) (hp : post (some (.int (-1000000001))) X) : Ev g mX12_part d n n post n 0 [some (.ref 133), some (.int v1), some (.int v2), some (.int v3), none, none] [] X := by
  refine ev_iload_n dX12_part_0 rfl ?_
  refine ev_bipush (v := 100) dX12_part_1 kb_100 ?_
  refine ev_ldc (v := 99999) dX12_part_3 kw_12_56 ?_
  refine e_Si (as := [.int v2, .int 100, .int 99999]) (rest := []) dX12_part_5 vX12_within ml_12_52 stX12_within npX12_within (by decide) rfl (Nat.le_of_ble_eq_true rfl) (by omega) (t_X12_within (d := d - 1) (by omega) (by omega) hX c0) ?_
  refine ev_ifF (tgt := 34) dX12_part_8 (by decide) (by show ¬ (1 : Int32) = 0; decide) ?_
  refine ev_iload_n dX12_part_11 rfl ?_
  refine ev_bipush (v := 10) dX12_part_12 kb_10 ?_
  refine ev_irem dX12_part_14 (by decide) ?_
  refine ev_iconst (v := 5) dX12_part_15 ki_5 ?_
  refine ev_icmpT (tgt := 34) dX12_part_16 (by decide) c1 ?_
  refine ev_iconst (v := 0) dX12_part_34 ki_0 ?_
  refine ev_istore dX12_part_35 (by decide) ?_
  refine ev_iload_n dX12_part_37 rfl ?_
  refine ev_iconst (v := 0) dX12_part_38 ki_0 ?_
  refine ev_sipush (v := 255) dX12_part_39 ks_255 ?_
  refine e_Si (as := [.int v1, .int 0, .int 255]) (rest := []) dX12_part_42 vX12_within ml_12_52 stX12_within npX12_within (by decide) rfl (Nat.le_of_ble_eq_true rfl) (by omega) (f_X12_within (d := d - 1) (by omega) (by omega) hX c2) ?_
  refine ev_ifT (tgt := 63) dX12_part_45 (by decide) (by show (0 : Int32) = 0; decide) ?_
  refine ev_ldc (v := (-1000000001)) dX12_part_63 kw_12_57 ?_
  exact ev_iret dX12_part_65 rfl rfl hp
theorem bX12_part_0_8 {g : GG} {d n : Nat} {post : Option Value → LX → Prop} {X : LX} (hd : 1 ≤ d) (hn : 146 ≤ n) (hX : Sh n X) {v1 : Int32} {v2 : Int32} {v3 : Int32} (c0 : ¬ (100 ≤ v2 ∧ v2 ≤ 99999)) (c1 : 0 ≤ v1 ∧ v1 ≤ 255) (hp : post (some (.int (-1000000001))) X) : Ev g mX12_part d n n post n 0 [some (.ref 133), some (.int v1), some (.int v2), some (.int v3), none, none] [] X := by
  refine ev_iload_n dX12_part_0 rfl ?_
  refine ev_bipush (v := 100) dX12_part_1 kb_100 ?_
  refine ev_ldc (v := 99999) dX12_part_3 kw_12_56 ?_
  refine e_Si (as := [.int v2, .int 100, .int 99999]) (rest := []) dX12_part_5 vX12_within ml_12_52 stX12_within npX12_within (by decide) rfl (Nat.le_of_ble_eq_true rfl) (by omega) (f_X12_within (d := d - 1) (by omega) (by omega) hX c0) ?_
  refine ev_ifT (tgt := 34) dX12_part_8 (by decide) (by show (0 : Int32) = 0; decide) ?_
  refine ev_iconst (v := 0) dX12_part_34 ki_0 ?_
  refine ev_istore dX12_part_35 (by decide) ?_
  refine ev_iload_n dX12_part_37 rfl ?_
  refine ev_iconst (v := 0) dX12_part_38 ki_0 ?_
  refine ev_sipush (v := 255) dX12_part_39 ks_255 ?_
  refine e_Si (as := [.int v1, .int 0, .int 255]) (rest := []) dX12_part_42 vX12_within ml_12_52 stX12_within npX12_within (by decide) rfl (Nat.le_of_ble_eq_true rfl) (by omega) (t_X12_within (d := d - 1) (by omega) (by omega) hX c1) ?_
  refine ev_ifF (tgt := 63) dX12_part_45 (by decide) (by show ¬ (1 : Int32) = 0; decide) ?_
  refine ev_iload dX12_part_48 rfl ?_
  refine ev_ifT (tgt := 63) dX12_part_50 (by decide) (by show (0 : Int32) = 0; decide) ?_
  refine ev_ldc (v := (-1000000001)) dX12_part_63 kw_12_57 ?_
  exact ev_iret dX12_part_65 rfl rfl hp
theorem bX12_part_0_9 {g : GG} {d n : Nat} {post : Option Value → LX → Prop} {X : LX} (hd : 1 ≤ d) (hn : 146 ≤ n) (hX : Sh n X) {v1 : Int32} {v2 : Int32} {v3 : Int32} (c0 : ¬ (100 ≤ v2 ∧ v2 ≤ 99999)) (c1 : ¬ (0 ≤ v1 ∧ v1 ≤ 255)) (hp : post (some (.int (-1000000001))) X) : Ev g mX12_part d n n post n 0 [some (.ref 133), some (.int v1), some (.int v2), some (.int v3), none, none] [] X := by
  refine ev_iload_n dX12_part_0 rfl ?_
  refine ev_bipush (v := 100) dX12_part_1 kb_100 ?_
  refine ev_ldc (v := 99999) dX12_part_3 kw_12_56 ?_
  refine e_Si (as := [.int v2, .int 100, .int 99999]) (rest := []) dX12_part_5 vX12_within ml_12_52 stX12_within npX12_within (by decide) rfl (Nat.le_of_ble_eq_true rfl) (by omega) (f_X12_within (d := d - 1) (by omega) (by omega) hX c0) ?_
  refine ev_ifT (tgt := 34) dX12_part_8 (by decide) (by show (0 : Int32) = 0; decide) ?_
  refine ev_iconst (v := 0) dX12_part_34 ki_0 ?_
  refine ev_istore dX12_part_35 (by decide) ?_
  refine ev_iload_n dX12_part_37 rfl ?_
  refine ev_iconst (v := 0) dX12_part_38 ki_0 ?_
  refine ev_sipush (v := 255) dX12_part_39 ks_255 ?_
  refine e_Si (as := [.int v1, .int 0, .int 255]) (rest := []) dX12_part_42 vX12_within ml_12_52 stX12_within npX12_within (by decide) rfl (Nat.le_of_ble_eq_true rfl) (by omega) (f_X12_within (d := d - 1) (by omega) (by omega) hX c1) ?_
  refine ev_ifT (tgt := 63) dX12_part_45 (by decide) (by show (0 : Int32) = 0; decide) ?_
  refine ev_ldc (v := (-1000000001)) dX12_part_63 kw_12_57 ?_
  exact ev_iret dX12_part_65 rfl rfl hp
theorem bX11_isOf_0_0 {g : GG} {d n : Nat} {post : Option Value → LX → Prop} {X : LX} (hd : 1 ≤ d) (hn : 146 ≤ n) (hX : Sh n X) {v1 : Nat} {v2 : Int32} (c0 : 0 ≤ (nI v1) ∧ (nI v1) < X 23 0) (c1 : 0 ≤ v2 ∧ v2 ≤ 3) (c2 : v1 < 10) (c3 : isKd X v1 v2) (hp : post (some (.int 1)) X) : Ev g mX11_isOf d n n post n 0 [some (.ref 0), some (.int (nI v1)), some (.int v2)] [] X := by
  refine ev_aload_n dX11_isOf_0 rfl ?_
  refine ev_getS (q := 1) dX11_isOf_1 fo_11_10 (by omega) lo_0 rfl (sh_0_0 hX (by omega)) (by decide) ?_
  refine ev_getS (q := 23) dX11_isOf_4 fo_11_96 (by omega) lo_1 rfl (sh_1_1 hX (by omega)) (by decide) ?_
  refine ev_iload_n dX11_isOf_7 rfl ?_
  refine e_Vi (as := [.int (nI v1)]) (rest := []) dX11_isOf_8 vX5_has ml_11_109 isX5_has seX5_has npX5_has (rc_23 (by omega)) (by decide) rfl (Nat.le_of_ble_eq_true rfl) (by omega) (t_X5_has (d := d - 1) (by omega) (by omega) hX c0) ?_
  refine ev_ifF (tgt := 23) dX11_isOf_11 (by decide) (by show ¬ (1 : Int32) = 0; decide) ?_
  refine ev_iload_n dX11_isOf_14 rfl ?_
  refine ev_iconst (v := 0) dX11_isOf_15 ki_0 ?_
  refine ev_iconst (v := 3) dX11_isOf_16 ki_3 ?_
  refine e_Si (as := [.int v2, .int 0, .int 3]) (rest := []) dX11_isOf_17 vX11_isIn ml_11_57 stX11_isIn npX11_isIn (by decide) rfl (Nat.le_of_ble_eq_true rfl) (by omega) (t_X11_isIn (d := d - 1) (by omega) (by omega) hX c1) ?_
  refine ev_ifT (tgt := 26) dX11_isOf_20 (by decide) (by show ¬ (1 : Int32) = 0; decide) ?_
  refine ev_aload_n dX11_isOf_26 rfl ?_
  refine ev_getS (q := 1) dX11_isOf_27 fo_11_10 (by omega) lo_0 rfl (sh_0_0 hX (by omega)) (by decide) ?_
  refine ev_getS (q := 23) dX11_isOf_30 fo_11_96 (by omega) lo_1 rfl (sh_1_1 hX (by omega)) (by decide) ?_
  refine ev_iload_n dX11_isOf_33 rfl ?_
  refine ev_iload_n dX11_isOf_34 rfl ?_
  refine e_Vi (as := [.int (nI v1), .int v2]) (rest := []) dX11_isOf_35 vX5_isKind ml_11_110 isX5_isKind seX5_isKind npX5_isKind (rc_23 (by omega)) (by decide) rfl (Nat.le_of_ble_eq_true rfl) (by omega) (t_X5_isKind (d := d - 1) (by omega) (by omega) hX c2 c3) ?_
  refine e_Si (as := [.int 1]) (rest := []) dX11_isOf_38 vX11_truth ml_11_114 stX11_truth npX11_truth (by decide) rfl (Nat.le_of_ble_eq_true rfl) (by omega) (t_X11_truth (d := d - 1) (by omega) (by omega) hX (by decide)) ?_
  exact ev_iret dX11_isOf_41 rfl rfl hp
theorem bX11_isOf_0_1 {g : GG} {d n : Nat} {post : Option Value → LX → Prop} {X : LX} (hd : 1 ≤ d) (hn : 146 ≤ n) (hX : Sh n X) {v1 : Nat} {v2 : Int32} (c0 : 0 ≤ (nI v1) ∧ (nI v1) < X 23 0) (c1 : 0 ≤ v2 ∧ v2 ≤ 3) (c2 : v1 < 10) (c3 : ¬ (isKd X v1 v2)) (hp : post (some (.int 0)) X) : Ev g mX11_isOf d n n post n 0 [some (.ref 0), some (.int (nI v1)), some (.int v2)] [] X := by
  refine ev_aload_n dX11_isOf_0 rfl ?_
  refine ev_getS (q := 1) dX11_isOf_1 fo_11_10 (by omega) lo_0 rfl (sh_0_0 hX (by omega)) (by decide) ?_
  refine ev_getS (q := 23) dX11_isOf_4 fo_11_96 (by omega) lo_1 rfl (sh_1_1 hX (by omega)) (by decide) ?_
  refine ev_iload_n dX11_isOf_7 rfl ?_
  refine e_Vi (as := [.int (nI v1)]) (rest := []) dX11_isOf_8 vX5_has ml_11_109 isX5_has seX5_has npX5_has (rc_23 (by omega)) (by decide) rfl (Nat.le_of_ble_eq_true rfl) (by omega) (t_X5_has (d := d - 1) (by omega) (by omega) hX c0) ?_
  refine ev_ifF (tgt := 23) dX11_isOf_11 (by decide) (by show ¬ (1 : Int32) = 0; decide) ?_
  refine ev_iload_n dX11_isOf_14 rfl ?_
  refine ev_iconst (v := 0) dX11_isOf_15 ki_0 ?_
  refine ev_iconst (v := 3) dX11_isOf_16 ki_3 ?_
  refine e_Si (as := [.int v2, .int 0, .int 3]) (rest := []) dX11_isOf_17 vX11_isIn ml_11_57 stX11_isIn npX11_isIn (by decide) rfl (Nat.le_of_ble_eq_true rfl) (by omega) (t_X11_isIn (d := d - 1) (by omega) (by omega) hX c1) ?_
  refine ev_ifT (tgt := 26) dX11_isOf_20 (by decide) (by show ¬ (1 : Int32) = 0; decide) ?_
  refine ev_aload_n dX11_isOf_26 rfl ?_
  refine ev_getS (q := 1) dX11_isOf_27 fo_11_10 (by omega) lo_0 rfl (sh_0_0 hX (by omega)) (by decide) ?_
  refine ev_getS (q := 23) dX11_isOf_30 fo_11_96 (by omega) lo_1 rfl (sh_1_1 hX (by omega)) (by decide) ?_
  refine ev_iload_n dX11_isOf_33 rfl ?_
  refine ev_iload_n dX11_isOf_34 rfl ?_
  refine e_Vi (as := [.int (nI v1), .int v2]) (rest := []) dX11_isOf_35 vX5_isKind ml_11_110 isX5_isKind seX5_isKind npX5_isKind (rc_23 (by omega)) (by decide) rfl (Nat.le_of_ble_eq_true rfl) (by omega) (f_X5_isKind (d := d - 1) (by omega) (by omega) hX c2 c3) ?_
  refine e_Si (as := [.int 0]) (rest := []) dX11_isOf_38 vX11_truth ml_11_114 stX11_truth npX11_truth (by decide) rfl (Nat.le_of_ble_eq_true rfl) (by omega) (f_X11_truth (d := d - 1) (by omega) (by omega) hX (by decide)) ?_
  exact ev_iret dX11_isOf_41 rfl rfl hp
theorem bX11_isOf_0_2 {g : GG} {d n : Nat} {post : Option Value → LX → Prop} {X : LX} (hd : 1 ≤ d) (hn : 146 ≤ n) (hX : Sh n X) {v1 : Int32} {v2 : Int32} (c0 : 0 ≤ v1 ∧ v1 < X 23 0) (c1 : ¬ (0 ≤ v2 ∧ v2 ≤ 3)) (hp : post (some (.int (-1000000001))) X) : Ev g mX11_isOf d n n post n 0 [some (.ref 0), some (.int v1), some (.int v2)] [] X := by
  refine ev_aload_n dX11_isOf_0 rfl ?_
  refine ev_getS (q := 1) dX11_isOf_1 fo_11_10 (by omega) lo_0 rfl (sh_0_0 hX (by omega)) (by decide) ?_
  refine ev_getS (q := 23) dX11_isOf_4 fo_11_96 (by omega) lo_1 rfl (sh_1_1 hX (by omega)) (by decide) ?_
  refine ev_iload_n dX11_isOf_7 rfl ?_
  refine e_Vi (as := [.int v1]) (rest := []) dX11_isOf_8 vX5_has ml_11_109 isX5_has seX5_has npX5_has (rc_23 (by omega)) (by decide) rfl (Nat.le_of_ble_eq_true rfl) (by omega) (t_X5_has (d := d - 1) (by omega) (by omega) hX c0) ?_
  refine ev_ifF (tgt := 23) dX11_isOf_11 (by decide) (by show ¬ (1 : Int32) = 0; decide) ?_
  refine ev_iload_n dX11_isOf_14 rfl ?_
  refine ev_iconst (v := 0) dX11_isOf_15 ki_0 ?_
  refine ev_iconst (v := 3) dX11_isOf_16 ki_3 ?_
  refine e_Si (as := [.int v2, .int 0, .int 3]) (rest := []) dX11_isOf_17 vX11_isIn ml_11_57 stX11_isIn npX11_isIn (by decide) rfl (Nat.le_of_ble_eq_true rfl) (by omega) (f_X11_isIn (d := d - 1) (by omega) (by omega) hX c1) ?_
  refine ev_ifF (tgt := 26) dX11_isOf_20 (by decide) (by show (0 : Int32) = 0; decide) ?_
  refine ev_ldc (v := (-1000000001)) dX11_isOf_23 kw_11_61 ?_
  exact ev_iret dX11_isOf_25 rfl rfl hp
theorem bX11_isOf_0_3 {g : GG} {d n : Nat} {post : Option Value → LX → Prop} {X : LX} (hd : 1 ≤ d) (hn : 146 ≤ n) (hX : Sh n X) {v1 : Int32} {v2 : Int32} (c0 : ¬ (0 ≤ v1 ∧ v1 < X 23 0)) (hp : post (some (.int (-1000000001))) X) : Ev g mX11_isOf d n n post n 0 [some (.ref 0), some (.int v1), some (.int v2)] [] X := by
  refine ev_aload_n dX11_isOf_0 rfl ?_
  refine ev_getS (q := 1) dX11_isOf_1 fo_11_10 (by omega) lo_0 rfl (sh_0_0 hX (by omega)) (by decide) ?_
  refine ev_getS (q := 23) dX11_isOf_4 fo_11_96 (by omega) lo_1 rfl (sh_1_1 hX (by omega)) (by decide) ?_
  refine ev_iload_n dX11_isOf_7 rfl ?_
  refine e_Vi (as := [.int v1]) (rest := []) dX11_isOf_8 vX5_has ml_11_109 isX5_has seX5_has npX5_has (rc_23 (by omega)) (by decide) rfl (Nat.le_of_ble_eq_true rfl) (by omega) (f_X5_has (d := d - 1) (by omega) (by omega) hX c0) ?_
  refine ev_ifT (tgt := 23) dX11_isOf_11 (by decide) (by show (0 : Int32) = 0; decide) ?_
  refine ev_ldc (v := (-1000000001)) dX11_isOf_23 kw_11_61 ?_
  exact ev_iret dX11_isOf_25 rfl rfl hp
theorem bX12_isOf_0_0 {g : GG} {d n : Nat} {post : Option Value → LX → Prop} {X : LX} (hd : 2 ≤ d) (hn : 146 ≤ n) (hX : Sh n X) {v1 : Nat} {v2 : Int32} (c0 : 0 ≤ (nI v1) ∧ (nI v1) ≤ X 134 5 - 1) (c1 : 0 ≤ v2 ∧ v2 ≤ 3) (c2 : ¬ v2 = 0) (b0 : ((318 + (13 * v1)) + 0) < 2156) (c3 : ¬ X 134 ((318 + (13 * v1)) + 0) = v2) (c4 : v2 = 2) (c5 : v1 < 10) (c6 : 2 ≤ X 134 (318 + 13 * v1 + 0)) (hp : post (some (.int 1)) X) : Ev g mX12_isOf d n n post n 0 [some (.ref 133), some (.int (nI v1)), some (.int v2)] [] X := by
  refine ev_aload_n dX12_isOf_0 rfl ?_
  refine ev_iload_n dX12_isOf_1 rfl ?_
  refine e_Vi (as := [.int (nI v1)]) (rest := []) dX12_isOf_2 vX12_isMeal ml_12_70 isX12_isMeal seX12_isMeal npX12_isMeal (rc_133 (by omega)) (by decide) rfl (Nat.le_of_ble_eq_true rfl) (by omega) (t_X12_isMeal (d := d - 1) (by omega) (by omega) hX c0) ?_
  refine ev_ifF (tgt := 17) dX12_isOf_5 (by decide) (by show ¬ (1 : Int32) = 0; decide) ?_
  refine ev_iload_n dX12_isOf_8 rfl ?_
  refine ev_iconst (v := 0) dX12_isOf_9 ki_0 ?_
  refine ev_iconst (v := 3) dX12_isOf_10 ki_3 ?_
  refine e_Si (as := [.int v2, .int 0, .int 3]) (rest := []) dX12_isOf_11 vX12_within ml_12_52 stX12_within npX12_within (by decide) rfl (Nat.le_of_ble_eq_true rfl) (by omega) (t_X12_within (d := d - 1) (by omega) (by omega) hX c1) ?_
  refine ev_ifT (tgt := 20) dX12_isOf_14 (by decide) (by show ¬ (1 : Int32) = 0; decide) ?_
  refine ev_iload_n dX12_isOf_20 rfl ?_
  refine ev_ifF (tgt := 51) dX12_isOf_21 (by decide) c2 ?_
  refine ev_aload_n dX12_isOf_24 rfl ?_
  refine ev_getS (q := 134) dX12_isOf_25 fo_12_9 (by omega) lo_133 rfl (sh_133_0 hX (by omega)) (by decide) ?_
  refine ev_iload_n dX12_isOf_28 rfl ?_
  refine ev_iconst (v := 0) dX12_isOf_29 ki_0 ?_
  refine e_Si (as := [.int (nI v1), .int 0]) (rest := [.ref 134]) dX12_isOf_30 vX12_ofMeal ml_12_67 stX12_ofMeal npX12_ofMeal (by decide) rfl (Nat.le_of_ble_eq_true rfl) (by omega) (c_X12_ofMeal (d := d - 1) (by omega) (by omega) hX ) ?_
  refine ev_iald dX12_isOf_33 (by omega) ly_134 (by show (nI 318 + (nI 13 * nI v1)) + nI 0 = nI ((318 + (13 * v1)) + 0); simp only [pk_mul, nI_add]) b0 ?_
  refine ev_iload_n dX12_isOf_34 rfl ?_
  refine ev_icmpF (tgt := 51) dX12_isOf_35 (by decide) c3 ?_
  refine ev_iload_n dX12_isOf_38 rfl ?_
  refine ev_iconst (v := 2) dX12_isOf_39 ki_2 ?_
  refine ev_icmpF (tgt := 55) dX12_isOf_40 (by decide) c4 ?_
  refine ev_aload_n dX12_isOf_43 rfl ?_
  refine ev_iload_n dX12_isOf_44 rfl ?_
  refine e_Vi (as := [.int (nI v1)]) (rest := []) dX12_isOf_45 vX12_isGreen ml_12_73 isX12_isGreen seX12_isGreen npX12_isGreen (rc_133 (by omega)) (by decide) rfl (Nat.le_of_ble_eq_true rfl) (by omega) (t_X12_isGreen (d := d - 1) (by omega) (by omega) hX c5 c6) ?_
  refine ev_ifF (tgt := 55) dX12_isOf_48 (by decide) (by show ¬ (1 : Int32) = 0; decide) ?_
  refine ev_iconst (v := 1) dX12_isOf_51 ki_1 ?_
  refine ev_goto (tgt := 56) dX12_isOf_52 (by decide) ?_
  exact ev_iret dX12_isOf_56 rfl rfl hp
theorem bX12_isOf_0_1 {g : GG} {d n : Nat} {post : Option Value → LX → Prop} {X : LX} (hd : 2 ≤ d) (hn : 146 ≤ n) (hX : Sh n X) {v1 : Nat} {v2 : Int32} (c0 : 0 ≤ (nI v1) ∧ (nI v1) ≤ X 134 5 - 1) (c1 : 0 ≤ v2 ∧ v2 ≤ 3) (c2 : ¬ v2 = 0) (b0 : ((318 + (13 * v1)) + 0) < 2156) (c3 : ¬ X 134 ((318 + (13 * v1)) + 0) = v2) (c4 : v2 = 2) (c5 : v1 < 10) (c6 : ¬ (2 ≤ X 134 (318 + 13 * v1 + 0))) (hp : post (some (.int 0)) X) : Ev g mX12_isOf d n n post n 0 [some (.ref 133), some (.int (nI v1)), some (.int v2)] [] X := by
  refine ev_aload_n dX12_isOf_0 rfl ?_
  refine ev_iload_n dX12_isOf_1 rfl ?_
  refine e_Vi (as := [.int (nI v1)]) (rest := []) dX12_isOf_2 vX12_isMeal ml_12_70 isX12_isMeal seX12_isMeal npX12_isMeal (rc_133 (by omega)) (by decide) rfl (Nat.le_of_ble_eq_true rfl) (by omega) (t_X12_isMeal (d := d - 1) (by omega) (by omega) hX c0) ?_
  refine ev_ifF (tgt := 17) dX12_isOf_5 (by decide) (by show ¬ (1 : Int32) = 0; decide) ?_
  refine ev_iload_n dX12_isOf_8 rfl ?_
  refine ev_iconst (v := 0) dX12_isOf_9 ki_0 ?_
  refine ev_iconst (v := 3) dX12_isOf_10 ki_3 ?_
  refine e_Si (as := [.int v2, .int 0, .int 3]) (rest := []) dX12_isOf_11 vX12_within ml_12_52 stX12_within npX12_within (by decide) rfl (Nat.le_of_ble_eq_true rfl) (by omega) (t_X12_within (d := d - 1) (by omega) (by omega) hX c1) ?_
  refine ev_ifT (tgt := 20) dX12_isOf_14 (by decide) (by show ¬ (1 : Int32) = 0; decide) ?_
  refine ev_iload_n dX12_isOf_20 rfl ?_
  refine ev_ifF (tgt := 51) dX12_isOf_21 (by decide) c2 ?_
  refine ev_aload_n dX12_isOf_24 rfl ?_
  refine ev_getS (q := 134) dX12_isOf_25 fo_12_9 (by omega) lo_133 rfl (sh_133_0 hX (by omega)) (by decide) ?_
  refine ev_iload_n dX12_isOf_28 rfl ?_
  refine ev_iconst (v := 0) dX12_isOf_29 ki_0 ?_
  refine e_Si (as := [.int (nI v1), .int 0]) (rest := [.ref 134]) dX12_isOf_30 vX12_ofMeal ml_12_67 stX12_ofMeal npX12_ofMeal (by decide) rfl (Nat.le_of_ble_eq_true rfl) (by omega) (c_X12_ofMeal (d := d - 1) (by omega) (by omega) hX ) ?_
  refine ev_iald dX12_isOf_33 (by omega) ly_134 (by show (nI 318 + (nI 13 * nI v1)) + nI 0 = nI ((318 + (13 * v1)) + 0); simp only [pk_mul, nI_add]) b0 ?_
  refine ev_iload_n dX12_isOf_34 rfl ?_
  refine ev_icmpF (tgt := 51) dX12_isOf_35 (by decide) c3 ?_
  refine ev_iload_n dX12_isOf_38 rfl ?_
  refine ev_iconst (v := 2) dX12_isOf_39 ki_2 ?_
  refine ev_icmpF (tgt := 55) dX12_isOf_40 (by decide) c4 ?_
  refine ev_aload_n dX12_isOf_43 rfl ?_
  refine ev_iload_n dX12_isOf_44 rfl ?_
  refine e_Vi (as := [.int (nI v1)]) (rest := []) dX12_isOf_45 vX12_isGreen ml_12_73 isX12_isGreen seX12_isGreen npX12_isGreen (rc_133 (by omega)) (by decide) rfl (Nat.le_of_ble_eq_true rfl) (by omega) (f_X12_isGreen (d := d - 1) (by omega) (by omega) hX c5 c6) ?_
  refine ev_ifT (tgt := 55) dX12_isOf_48 (by decide) (by show (0 : Int32) = 0; decide) ?_
  refine ev_iconst (v := 0) dX12_isOf_55 ki_0 ?_
  exact ev_iret dX12_isOf_56 rfl rfl hp
theorem bX12_isOf_0_2 {g : GG} {d n : Nat} {post : Option Value → LX → Prop} {X : LX} (hd : 2 ≤ d) (hn : 146 ≤ n) (hX : Sh n X) {v1 : Nat} {v2 : Int32} (c0 : 0 ≤ (nI v1) ∧ (nI v1) ≤ X 134 5 - 1) (c1 : 0 ≤ v2 ∧ v2 ≤ 3) (c2 : ¬ v2 = 0) (b0 : ((318 + (13 * v1)) + 0) < 2156) (c3 : ¬ X 134 ((318 + (13 * v1)) + 0) = v2) (c4 : ¬ v2 = 2) (hp : post (some (.int 0)) X) : Ev g mX12_isOf d n n post n 0 [some (.ref 133), some (.int (nI v1)), some (.int v2)] [] X := by
  refine ev_aload_n dX12_isOf_0 rfl ?_
  refine ev_iload_n dX12_isOf_1 rfl ?_
  refine e_Vi (as := [.int (nI v1)]) (rest := []) dX12_isOf_2 vX12_isMeal ml_12_70 isX12_isMeal seX12_isMeal npX12_isMeal (rc_133 (by omega)) (by decide) rfl (Nat.le_of_ble_eq_true rfl) (by omega) (t_X12_isMeal (d := d - 1) (by omega) (by omega) hX c0) ?_
  refine ev_ifF (tgt := 17) dX12_isOf_5 (by decide) (by show ¬ (1 : Int32) = 0; decide) ?_
  refine ev_iload_n dX12_isOf_8 rfl ?_
  refine ev_iconst (v := 0) dX12_isOf_9 ki_0 ?_
  refine ev_iconst (v := 3) dX12_isOf_10 ki_3 ?_
  refine e_Si (as := [.int v2, .int 0, .int 3]) (rest := []) dX12_isOf_11 vX12_within ml_12_52 stX12_within npX12_within (by decide) rfl (Nat.le_of_ble_eq_true rfl) (by omega) (t_X12_within (d := d - 1) (by omega) (by omega) hX c1) ?_
  refine ev_ifT (tgt := 20) dX12_isOf_14 (by decide) (by show ¬ (1 : Int32) = 0; decide) ?_
  refine ev_iload_n dX12_isOf_20 rfl ?_
  refine ev_ifF (tgt := 51) dX12_isOf_21 (by decide) c2 ?_
  refine ev_aload_n dX12_isOf_24 rfl ?_
  refine ev_getS (q := 134) dX12_isOf_25 fo_12_9 (by omega) lo_133 rfl (sh_133_0 hX (by omega)) (by decide) ?_
  refine ev_iload_n dX12_isOf_28 rfl ?_
  refine ev_iconst (v := 0) dX12_isOf_29 ki_0 ?_
  refine e_Si (as := [.int (nI v1), .int 0]) (rest := [.ref 134]) dX12_isOf_30 vX12_ofMeal ml_12_67 stX12_ofMeal npX12_ofMeal (by decide) rfl (Nat.le_of_ble_eq_true rfl) (by omega) (c_X12_ofMeal (d := d - 1) (by omega) (by omega) hX ) ?_
  refine ev_iald dX12_isOf_33 (by omega) ly_134 (by show (nI 318 + (nI 13 * nI v1)) + nI 0 = nI ((318 + (13 * v1)) + 0); simp only [pk_mul, nI_add]) b0 ?_
  refine ev_iload_n dX12_isOf_34 rfl ?_
  refine ev_icmpF (tgt := 51) dX12_isOf_35 (by decide) c3 ?_
  refine ev_iload_n dX12_isOf_38 rfl ?_
  refine ev_iconst (v := 2) dX12_isOf_39 ki_2 ?_
  refine ev_icmpT (tgt := 55) dX12_isOf_40 (by decide) c4 ?_
  refine ev_iconst (v := 0) dX12_isOf_55 ki_0 ?_
  exact ev_iret dX12_isOf_56 rfl rfl hp
theorem bX12_isOf_0_3 {g : GG} {d n : Nat} {post : Option Value → LX → Prop} {X : LX} (hd : 2 ≤ d) (hn : 146 ≤ n) (hX : Sh n X) {v1 : Nat} {v2 : Int32} (c0 : 0 ≤ (nI v1) ∧ (nI v1) ≤ X 134 5 - 1) (c1 : 0 ≤ v2 ∧ v2 ≤ 3) (c2 : ¬ v2 = 0) (b0 : ((318 + (13 * v1)) + 0) < 2156) (c3 : X 134 ((318 + (13 * v1)) + 0) = v2) (hp : post (some (.int 1)) X) : Ev g mX12_isOf d n n post n 0 [some (.ref 133), some (.int (nI v1)), some (.int v2)] [] X := by
  refine ev_aload_n dX12_isOf_0 rfl ?_
  refine ev_iload_n dX12_isOf_1 rfl ?_
  refine e_Vi (as := [.int (nI v1)]) (rest := []) dX12_isOf_2 vX12_isMeal ml_12_70 isX12_isMeal seX12_isMeal npX12_isMeal (rc_133 (by omega)) (by decide) rfl (Nat.le_of_ble_eq_true rfl) (by omega) (t_X12_isMeal (d := d - 1) (by omega) (by omega) hX c0) ?_
  refine ev_ifF (tgt := 17) dX12_isOf_5 (by decide) (by show ¬ (1 : Int32) = 0; decide) ?_
  refine ev_iload_n dX12_isOf_8 rfl ?_
  refine ev_iconst (v := 0) dX12_isOf_9 ki_0 ?_
  refine ev_iconst (v := 3) dX12_isOf_10 ki_3 ?_
  refine e_Si (as := [.int v2, .int 0, .int 3]) (rest := []) dX12_isOf_11 vX12_within ml_12_52 stX12_within npX12_within (by decide) rfl (Nat.le_of_ble_eq_true rfl) (by omega) (t_X12_within (d := d - 1) (by omega) (by omega) hX c1) ?_
  refine ev_ifT (tgt := 20) dX12_isOf_14 (by decide) (by show ¬ (1 : Int32) = 0; decide) ?_
  refine ev_iload_n dX12_isOf_20 rfl ?_
  refine ev_ifF (tgt := 51) dX12_isOf_21 (by decide) c2 ?_
  refine ev_aload_n dX12_isOf_24 rfl ?_
  refine ev_getS (q := 134) dX12_isOf_25 fo_12_9 (by omega) lo_133 rfl (sh_133_0 hX (by omega)) (by decide) ?_
  refine ev_iload_n dX12_isOf_28 rfl ?_
  refine ev_iconst (v := 0) dX12_isOf_29 ki_0 ?_
  refine e_Si (as := [.int (nI v1), .int 0]) (rest := [.ref 134]) dX12_isOf_30 vX12_ofMeal ml_12_67 stX12_ofMeal npX12_ofMeal (by decide) rfl (Nat.le_of_ble_eq_true rfl) (by omega) (c_X12_ofMeal (d := d - 1) (by omega) (by omega) hX ) ?_
  refine ev_iald dX12_isOf_33 (by omega) ly_134 (by show (nI 318 + (nI 13 * nI v1)) + nI 0 = nI ((318 + (13 * v1)) + 0); simp only [pk_mul, nI_add]) b0 ?_
  refine ev_iload_n dX12_isOf_34 rfl ?_
  refine ev_icmpT (tgt := 51) dX12_isOf_35 (by decide) c3 ?_
  refine ev_iconst (v := 1) dX12_isOf_51 ki_1 ?_
  refine ev_goto (tgt := 56) dX12_isOf_52 (by decide) ?_
  exact ev_iret dX12_isOf_56 rfl rfl hp
theorem bX12_isOf_0_4 {g : GG} {d n : Nat} {post : Option Value → LX → Prop} {X : LX} (hd : 2 ≤ d) (hn : 146 ≤ n) (hX : Sh n X) {v1 : Int32} {v2 : Int32} (c0 : 0 ≤ v1 ∧ v1 ≤ X 134 5 - 1) (c1 : 0 ≤ v2 ∧ v2 ≤ 3) (c2 : v2 = 0) (hp : post (some (.int 1)) X) : Ev g mX12_isOf d n n post n 0 [some (.ref 133), some (.int v1), some (.int v2)] [] X := by
  refine ev_aload_n dX12_isOf_0 rfl ?_
  refine ev_iload_n dX12_isOf_1 rfl ?_
  refine e_Vi (as := [.int v1]) (rest := []) dX12_isOf_2 vX12_isMeal ml_12_70 isX12_isMeal seX12_isMeal npX12_isMeal (rc_133 (by omega)) (by decide) rfl (Nat.le_of_ble_eq_true rfl) (by omega) (t_X12_isMeal (d := d - 1) (by omega) (by omega) hX c0) ?_
  refine ev_ifF (tgt := 17) dX12_isOf_5 (by decide) (by show ¬ (1 : Int32) = 0; decide) ?_
  refine ev_iload_n dX12_isOf_8 rfl ?_
  refine ev_iconst (v := 0) dX12_isOf_9 ki_0 ?_
  refine ev_iconst (v := 3) dX12_isOf_10 ki_3 ?_
  refine e_Si (as := [.int v2, .int 0, .int 3]) (rest := []) dX12_isOf_11 vX12_within ml_12_52 stX12_within npX12_within (by decide) rfl (Nat.le_of_ble_eq_true rfl) (by omega) (t_X12_within (d := d - 1) (by omega) (by omega) hX c1) ?_
  refine ev_ifT (tgt := 20) dX12_isOf_14 (by decide) (by show ¬ (1 : Int32) = 0; decide) ?_
  refine ev_iload_n dX12_isOf_20 rfl ?_
  refine ev_ifT (tgt := 51) dX12_isOf_21 (by decide) c2 ?_
  refine ev_iconst (v := 1) dX12_isOf_51 ki_1 ?_
  refine ev_goto (tgt := 56) dX12_isOf_52 (by decide) ?_
  exact ev_iret dX12_isOf_56 rfl rfl hp
theorem bX12_isOf_0_5 {g : GG} {d n : Nat} {post : Option Value → LX → Prop} {X : LX} (hd : 2 ≤ d) (hn : 146 ≤ n) (hX : Sh n X) {v1 : Int32} {v2 : Int32} (c0 : 0 ≤ v1 ∧ v1 ≤ X 134 5 - 1) (c1 : ¬ (0 ≤ v2 ∧ v2 ≤ 3)) (hp : post (some (.int (-1000000001))) X) : Ev g mX12_isOf d n n post n 0 [some (.ref 133), some (.int v1), some (.int v2)] [] X := by
  refine ev_aload_n dX12_isOf_0 rfl ?_
  refine ev_iload_n dX12_isOf_1 rfl ?_
  refine e_Vi (as := [.int v1]) (rest := []) dX12_isOf_2 vX12_isMeal ml_12_70 isX12_isMeal seX12_isMeal npX12_isMeal (rc_133 (by omega)) (by decide) rfl (Nat.le_of_ble_eq_true rfl) (by omega) (t_X12_isMeal (d := d - 1) (by omega) (by omega) hX c0) ?_
  refine ev_ifF (tgt := 17) dX12_isOf_5 (by decide) (by show ¬ (1 : Int32) = 0; decide) ?_
  refine ev_iload_n dX12_isOf_8 rfl ?_
  refine ev_iconst (v := 0) dX12_isOf_9 ki_0 ?_
  refine ev_iconst (v := 3) dX12_isOf_10 ki_3 ?_
  refine e_Si (as := [.int v2, .int 0, .int 3]) (rest := []) dX12_isOf_11 vX12_within ml_12_52 stX12_within npX12_within (by decide) rfl (Nat.le_of_ble_eq_true rfl) (by omega) (f_X12_within (d := d - 1) (by omega) (by omega) hX c1) ?_
  refine ev_ifF (tgt := 20) dX12_isOf_14 (by decide) (by show (0 : Int32) = 0; decide) ?_
  refine ev_ldc (v := (-1000000001)) dX12_isOf_17 kw_12_57 ?_
  exact ev_iret dX12_isOf_19 rfl rfl hp
theorem bX12_isOf_0_6 {g : GG} {d n : Nat} {post : Option Value → LX → Prop} {X : LX} (hd : 2 ≤ d) (hn : 146 ≤ n) (hX : Sh n X) {v1 : Int32} {v2 : Int32} (c0 : ¬ (0 ≤ v1 ∧ v1 ≤ X 134 5 - 1)) (hp : post (some (.int (-1000000001))) X) : Ev g mX12_isOf d n n post n 0 [some (.ref 133), some (.int v1), some (.int v2)] [] X := by
  refine ev_aload_n dX12_isOf_0 rfl ?_
  refine ev_iload_n dX12_isOf_1 rfl ?_
  refine e_Vi (as := [.int v1]) (rest := []) dX12_isOf_2 vX12_isMeal ml_12_70 isX12_isMeal seX12_isMeal npX12_isMeal (rc_133 (by omega)) (by decide) rfl (Nat.le_of_ble_eq_true rfl) (by omega) (f_X12_isMeal (d := d - 1) (by omega) (by omega) hX c0) ?_
  refine ev_ifT (tgt := 17) dX12_isOf_5 (by decide) (by show (0 : Int32) = 0; decide) ?_
  refine ev_ldc (v := (-1000000001)) dX12_isOf_17 kw_12_57 ?_
  exact ev_iret dX12_isOf_19 rfl rfl hp
theorem bX11_family_0_0 {g : GG} {d n : Nat} {post : Option Value → LX → Prop} {X : LX} (hd : 1 ≤ d) (hn : 146 ≤ n) (hX : Sh n X) {v1 : Int32} {v2 : Int32} (c0 : 0 ≤ v1 ∧ v1 ≤ 255) (c1 : ¬ v2 < 0) (c2 : 1 ≤ (v2 - v2 / 10 * 10) ∧ (v2 - v2 / 10 * 10) ≤ 6) (c3 : ¬ v2 / 10000 ≤ 1) (hp : post (some (.int (-1000000001))) X) : Ev g mX11_family d n n post n 0 [some (.ref 0), some (.int v1), some (.int v2), none, none, none, none, none] [] X := by
  refine ev_iload_n dX11_family_0 rfl ?_
  refine ev_bipush (v := 10) dX11_family_1 kb_10 ?_
  refine ev_irem dX11_family_3 (by decide) ?_
  refine ev_istore_n dX11_family_4 (by decide) ?_
  refine ev_iload_n dX11_family_5 rfl ?_
  refine ev_bipush (v := 10) dX11_family_6 kb_10 ?_
  refine ev_idiv dX11_family_8 (by decide) ?_
  refine ev_sipush (v := 1000) dX11_family_9 ks_1000 ?_
  refine ev_irem dX11_family_12 (by decide) ?_
  refine ev_istore dX11_family_13 (by decide) ?_
  refine ev_iload_n dX11_family_15 rfl ?_
  refine ev_sipush (v := 10000) dX11_family_16 ks_10000 ?_
  refine ev_idiv dX11_family_19 (by decide) ?_
  refine ev_istore dX11_family_20 (by decide) ?_
  refine ev_iload_n dX11_family_22 rfl ?_
  refine ev_iconst (v := 0) dX11_family_23 ki_0 ?_
  refine ev_sipush (v := 255) dX11_family_24 ks_255 ?_
  refine e_Si (as := [.int v1, .int 0, .int 255]) (rest := []) dX11_family_27 vX11_isIn ml_11_57 stX11_isIn npX11_isIn (by decide) rfl (Nat.le_of_ble_eq_true rfl) (by omega) (t_X11_isIn (d := d - 1) (by omega) (by omega) hX c0) ?_
  refine ev_ifF (tgt := 53) dX11_family_30 (by decide) (by show ¬ (1 : Int32) = 0; decide) ?_
  refine ev_iload_n dX11_family_33 rfl ?_
  refine ev_ifF (tgt := 53) dX11_family_34 (by decide) c1 ?_
  refine ev_iload_n dX11_family_37 rfl ?_
  refine ev_iconst (v := 1) dX11_family_38 ki_1 ?_
  refine ev_bipush (v := 6) dX11_family_39 kb_6 ?_
  refine e_Si (as := [.int (v2 - v2 / 10 * 10), .int 1, .int 6]) (rest := []) dX11_family_41 vX11_isIn ml_11_57 stX11_isIn npX11_isIn (by decide) rfl (Nat.le_of_ble_eq_true rfl) (by omega) (t_X11_isIn (d := d - 1) (by omega) (by omega) hX c2) ?_
  refine ev_ifF (tgt := 53) dX11_family_44 (by decide) (by show ¬ (1 : Int32) = 0; decide) ?_
  refine ev_iload dX11_family_47 rfl ?_
  refine ev_iconst (v := 1) dX11_family_49 ki_1 ?_
  refine ev_icmpF (tgt := 56) dX11_family_50 (by decide) c3 ?_
  refine ev_ldc (v := (-1000000001)) dX11_family_53 kw_11_61 ?_
  exact ev_iret dX11_family_55 rfl rfl hp
theorem bX11_family_0_1 {g : GG} {d n : Nat} {post : Option Value → LX → Prop} {X : LX} (hd : 1 ≤ d) (hn : 146 ≤ n) (hX : Sh n X) {v1 : Int32} {v2 : Int32} (c0 : 0 ≤ v1 ∧ v1 ≤ 255) (c1 : ¬ v2 < 0) (c2 : 1 ≤ (v2 - v2 / 10 * 10) ∧ (v2 - v2 / 10 * 10) ≤ 6) (c3 : v2 / 10000 ≤ 1) (c4 : ¬ X 37 0 < 12) (hp : post (some (.int (-1000000003))) X) : Ev g mX11_family d n n post n 0 [some (.ref 0), some (.int v1), some (.int v2), none, none, none, none, none] [] X := by
  refine ev_iload_n dX11_family_0 rfl ?_
  refine ev_bipush (v := 10) dX11_family_1 kb_10 ?_
  refine ev_irem dX11_family_3 (by decide) ?_
  refine ev_istore_n dX11_family_4 (by decide) ?_
  refine ev_iload_n dX11_family_5 rfl ?_
  refine ev_bipush (v := 10) dX11_family_6 kb_10 ?_
  refine ev_idiv dX11_family_8 (by decide) ?_
  refine ev_sipush (v := 1000) dX11_family_9 ks_1000 ?_
  refine ev_irem dX11_family_12 (by decide) ?_
  refine ev_istore dX11_family_13 (by decide) ?_
  refine ev_iload_n dX11_family_15 rfl ?_
  refine ev_sipush (v := 10000) dX11_family_16 ks_10000 ?_
  refine ev_idiv dX11_family_19 (by decide) ?_
  refine ev_istore dX11_family_20 (by decide) ?_
  refine ev_iload_n dX11_family_22 rfl ?_
  refine ev_iconst (v := 0) dX11_family_23 ki_0 ?_
  refine ev_sipush (v := 255) dX11_family_24 ks_255 ?_
  refine e_Si (as := [.int v1, .int 0, .int 255]) (rest := []) dX11_family_27 vX11_isIn ml_11_57 stX11_isIn npX11_isIn (by decide) rfl (Nat.le_of_ble_eq_true rfl) (by omega) (t_X11_isIn (d := d - 1) (by omega) (by omega) hX c0) ?_
  refine ev_ifF (tgt := 53) dX11_family_30 (by decide) (by show ¬ (1 : Int32) = 0; decide) ?_
  refine ev_iload_n dX11_family_33 rfl ?_
  refine ev_ifF (tgt := 53) dX11_family_34 (by decide) c1 ?_
  refine ev_iload_n dX11_family_37 rfl ?_
  refine ev_iconst (v := 1) dX11_family_38 ki_1 ?_
  refine ev_bipush (v := 6) dX11_family_39 kb_6 ?_
  refine e_Si (as := [.int (v2 - v2 / 10 * 10), .int 1, .int 6]) (rest := []) dX11_family_41 vX11_isIn ml_11_57 stX11_isIn npX11_isIn (by decide) rfl (Nat.le_of_ble_eq_true rfl) (by omega) (t_X11_isIn (d := d - 1) (by omega) (by omega) hX c2) ?_
  refine ev_ifF (tgt := 53) dX11_family_44 (by decide) (by show ¬ (1 : Int32) = 0; decide) ?_
  refine ev_iload dX11_family_47 rfl ?_
  refine ev_iconst (v := 1) dX11_family_49 ki_1 ?_
  refine ev_icmpT (tgt := 56) dX11_family_50 (by decide) c3 ?_
  refine ev_aload_n dX11_family_56 rfl ?_
  refine ev_getS (q := 1) dX11_family_57 fo_11_10 (by omega) lo_0 rfl (sh_0_0 hX (by omega)) (by decide) ?_
  refine ev_getS (q := 37) dX11_family_60 fo_11_144 (by omega) lo_1 rfl (sh_1_2 hX (by omega)) (by decide) ?_
  refine ev_astore dX11_family_63 (by decide) ?_
  refine ev_aload dX11_family_65 rfl ?_
  refine ev_getI dX11_family_67 fo_11_148 (by omega) lo_37 rfl ?_
  refine ev_bipush (v := 12) dX11_family_70 kb_12 ?_
  refine ev_icmpF (tgt := 78) dX11_family_72 (by decide) c4 ?_
  refine ev_ldc (v := (-1000000003)) dX11_family_75 kw_11_72 ?_
  exact ev_iret dX11_family_77 rfl rfl hp
theorem bX11_family_0_2 {g : GG} {d n : Nat} {post : Option Value → LX → Prop} {X : LX} (hd : 1 ≤ d) (hn : 146 ≤ n) (hX : Sh n X) {v1 : Int32} {v2 : Int32} {j1 : Nat} (c0 : 0 ≤ v1 ∧ v1 ≤ 255) (c1 : ¬ v2 < 0) (c2 : 1 ≤ (v2 - v2 / 10 * 10) ∧ (v2 - v2 / 10 * 10) ≤ 6) (c3 : v2 / 10000 ≤ 1) (c4 : X 37 0 < 12) (hj1 : X 37 0 = nI j1) (b0 : j1 < 12) (hp : post (some (.int (X 37 0))) (lx_up (lx_up (lx_up (lx_up (lx_up X 37 0 ((X 37 0) + 1)) 38 j1 v1) 39 j1 (v2 - v2 / 10 * 10)) 41 j1 ((v2 / 10) - (v2 / 10) / 1000 * 1000)) 40 j1 (v2 / 10000))) : Ev g mX11_family d n n post n 0 [some (.ref 0), some (.int v1), some (.int v2), none, none, none, none, none] [] X := by
  refine ev_iload_n dX11_family_0 rfl ?_
  refine ev_bipush (v := 10) dX11_family_1 kb_10 ?_
  refine ev_irem dX11_family_3 (by decide) ?_
  refine ev_istore_n dX11_family_4 (by decide) ?_
  refine ev_iload_n dX11_family_5 rfl ?_
  refine ev_bipush (v := 10) dX11_family_6 kb_10 ?_
  refine ev_idiv dX11_family_8 (by decide) ?_
  refine ev_sipush (v := 1000) dX11_family_9 ks_1000 ?_
  refine ev_irem dX11_family_12 (by decide) ?_
  refine ev_istore dX11_family_13 (by decide) ?_
  refine ev_iload_n dX11_family_15 rfl ?_
  refine ev_sipush (v := 10000) dX11_family_16 ks_10000 ?_
  refine ev_idiv dX11_family_19 (by decide) ?_
  refine ev_istore dX11_family_20 (by decide) ?_
  refine ev_iload_n dX11_family_22 rfl ?_
  refine ev_iconst (v := 0) dX11_family_23 ki_0 ?_
  refine ev_sipush (v := 255) dX11_family_24 ks_255 ?_
  refine e_Si (as := [.int v1, .int 0, .int 255]) (rest := []) dX11_family_27 vX11_isIn ml_11_57 stX11_isIn npX11_isIn (by decide) rfl (Nat.le_of_ble_eq_true rfl) (by omega) (t_X11_isIn (d := d - 1) (by omega) (by omega) hX c0) ?_
  refine ev_ifF (tgt := 53) dX11_family_30 (by decide) (by show ¬ (1 : Int32) = 0; decide) ?_
  refine ev_iload_n dX11_family_33 rfl ?_
  refine ev_ifF (tgt := 53) dX11_family_34 (by decide) c1 ?_
  refine ev_iload_n dX11_family_37 rfl ?_
  refine ev_iconst (v := 1) dX11_family_38 ki_1 ?_
  refine ev_bipush (v := 6) dX11_family_39 kb_6 ?_
  refine e_Si (as := [.int (v2 - v2 / 10 * 10), .int 1, .int 6]) (rest := []) dX11_family_41 vX11_isIn ml_11_57 stX11_isIn npX11_isIn (by decide) rfl (Nat.le_of_ble_eq_true rfl) (by omega) (t_X11_isIn (d := d - 1) (by omega) (by omega) hX c2) ?_
  refine ev_ifF (tgt := 53) dX11_family_44 (by decide) (by show ¬ (1 : Int32) = 0; decide) ?_
  refine ev_iload dX11_family_47 rfl ?_
  refine ev_iconst (v := 1) dX11_family_49 ki_1 ?_
  refine ev_icmpT (tgt := 56) dX11_family_50 (by decide) c3 ?_
  refine ev_aload_n dX11_family_56 rfl ?_
  refine ev_getS (q := 1) dX11_family_57 fo_11_10 (by omega) lo_0 rfl (sh_0_0 hX (by omega)) (by decide) ?_
  refine ev_getS (q := 37) dX11_family_60 fo_11_144 (by omega) lo_1 rfl (sh_1_2 hX (by omega)) (by decide) ?_
  refine ev_astore dX11_family_63 (by decide) ?_
  refine ev_aload dX11_family_65 rfl ?_
  refine ev_getI dX11_family_67 fo_11_148 (by omega) lo_37 rfl ?_
  refine ev_bipush (v := 12) dX11_family_70 kb_12 ?_
  refine ev_icmpT (tgt := 78) dX11_family_72 (by decide) c4 ?_
  refine ev_aload dX11_family_78 rfl ?_
  refine ev_dup dX11_family_80 rfl ?_
  refine ev_getI dX11_family_81 fo_11_148 (by omega) lo_37 rfl ?_
  refine ev_dup_x1 dX11_family_84 rfl rfl ?_
  refine ev_iconst (v := 1) dX11_family_85 ki_1 ?_
  refine ev_iadd dX11_family_86 ?_
  refine ev_putI dX11_family_87 fo_11_148 (by omega) lo_37 rfl rfl rfl ?_
  have hX1 : Sh _ (lx_up X 37 0 ((X 37 0) + 1)) := Sh.upF hX (by rw [lo_37]; decide) (by decide)
  refine ev_istore dX11_family_90 (by decide) ?_
  refine ev_aload dX11_family_92 rfl ?_
  refine ev_getS (q := 38) dX11_family_94 fo_11_151 (by omega) lo_37 rfl (sh_37_1 hX1 (by omega)) (by decide) ?_
  refine ev_iload dX11_family_97 rfl ?_
  refine ev_iload_n dX11_family_99 rfl ?_
  refine ev_iast dX11_family_100 (by omega) ly_38 hj1 b0 ?_
  have hX2 : Sh _ (lx_up (lx_up X 37 0 ((X 37 0) + 1)) 38 j1 v1) := Sh.upA hX1 (by rw [ly_38]; exact (by decide : 0 < 2))
  refine ev_aload dX11_family_101 rfl ?_
  refine ev_getS (q := 39) dX11_family_103 fo_11_154 (by omega) lo_37 rfl (sh_37_2 hX2 (by omega)) (by decide) ?_
  refine ev_iload dX11_family_106 rfl ?_
  refine ev_iload_n dX11_family_108 rfl ?_
  refine ev_iast dX11_family_109 (by omega) ly_39 hj1 b0 ?_
  have hX3 : Sh _ (lx_up (lx_up (lx_up X 37 0 ((X 37 0) + 1)) 38 j1 v1) 39 j1 (v2 - v2 / 10 * 10)) := Sh.upA hX2 (by rw [ly_39]; exact (by decide : 0 < 2))
  refine ev_aload dX11_family_110 rfl ?_
  refine ev_getS (q := 41) dX11_family_112 fo_11_157 (by omega) lo_37 rfl (sh_37_4 hX3 (by omega)) (by decide) ?_
  refine ev_iload dX11_family_115 rfl ?_
  refine ev_iload dX11_family_117 rfl ?_
  refine ev_iast dX11_family_119 (by omega) ly_41 hj1 b0 ?_
  have hX4 : Sh _ (lx_up (lx_up (lx_up (lx_up X 37 0 ((X 37 0) + 1)) 38 j1 v1) 39 j1 (v2 - v2 / 10 * 10)) 41 j1 ((v2 / 10) - (v2 / 10) / 1000 * 1000)) := Sh.upA hX3 (by rw [ly_41]; exact (by decide : 0 < 2))
  refine ev_aload dX11_family_120 rfl ?_
  refine ev_getS (q := 40) dX11_family_122 fo_11_160 (by omega) lo_37 rfl (sh_37_3 hX4 (by omega)) (by decide) ?_
  refine ev_iload dX11_family_125 rfl ?_
  refine ev_iload dX11_family_127 rfl ?_
  refine ev_iast dX11_family_129 (by omega) ly_40 hj1 b0 ?_
  have hX5 : Sh _ (lx_up (lx_up (lx_up (lx_up (lx_up X 37 0 ((X 37 0) + 1)) 38 j1 v1) 39 j1 (v2 - v2 / 10 * 10)) 41 j1 ((v2 / 10) - (v2 / 10) / 1000 * 1000)) 40 j1 (v2 / 10000)) := Sh.upA hX4 (by rw [ly_40]; exact (by decide : 0 < 2))
  refine ev_iload dX11_family_130 rfl ?_
  exact ev_iret dX11_family_132 rfl rfl hp
theorem bX11_family_0_3 {g : GG} {d n : Nat} {post : Option Value → LX → Prop} {X : LX} (hd : 1 ≤ d) (hn : 146 ≤ n) (hX : Sh n X) {v1 : Int32} {v2 : Int32} (c0 : 0 ≤ v1 ∧ v1 ≤ 255) (c1 : ¬ v2 < 0) (c2 : ¬ (1 ≤ (v2 - v2 / 10 * 10) ∧ (v2 - v2 / 10 * 10) ≤ 6)) (hp : post (some (.int (-1000000001))) X) : Ev g mX11_family d n n post n 0 [some (.ref 0), some (.int v1), some (.int v2), none, none, none, none, none] [] X := by
  refine ev_iload_n dX11_family_0 rfl ?_
  refine ev_bipush (v := 10) dX11_family_1 kb_10 ?_
  refine ev_irem dX11_family_3 (by decide) ?_
  refine ev_istore_n dX11_family_4 (by decide) ?_
  refine ev_iload_n dX11_family_5 rfl ?_
  refine ev_bipush (v := 10) dX11_family_6 kb_10 ?_
  refine ev_idiv dX11_family_8 (by decide) ?_
  refine ev_sipush (v := 1000) dX11_family_9 ks_1000 ?_
  refine ev_irem dX11_family_12 (by decide) ?_
  refine ev_istore dX11_family_13 (by decide) ?_
  refine ev_iload_n dX11_family_15 rfl ?_
  refine ev_sipush (v := 10000) dX11_family_16 ks_10000 ?_
  refine ev_idiv dX11_family_19 (by decide) ?_
  refine ev_istore dX11_family_20 (by decide) ?_
  refine ev_iload_n dX11_family_22 rfl ?_
  refine ev_iconst (v := 0) dX11_family_23 ki_0 ?_
  refine ev_sipush (v := 255) dX11_family_24 ks_255 ?_
  refine e_Si (as := [.int v1, .int 0, .int 255]) (rest := []) dX11_family_27 vX11_isIn ml_11_57 stX11_isIn npX11_isIn (by decide) rfl (Nat.le_of_ble_eq_true rfl) (by omega) (t_X11_isIn (d := d - 1) (by omega) (by omega) hX c0) ?_
  refine ev_ifF (tgt := 53) dX11_family_30 (by decide) (by show ¬ (1 : Int32) = 0; decide) ?_
  refine ev_iload_n dX11_family_33 rfl ?_
  refine ev_ifF (tgt := 53) dX11_family_34 (by decide) c1 ?_
  refine ev_iload_n dX11_family_37 rfl ?_
  refine ev_iconst (v := 1) dX11_family_38 ki_1 ?_
  refine ev_bipush (v := 6) dX11_family_39 kb_6 ?_
  refine e_Si (as := [.int (v2 - v2 / 10 * 10), .int 1, .int 6]) (rest := []) dX11_family_41 vX11_isIn ml_11_57 stX11_isIn npX11_isIn (by decide) rfl (Nat.le_of_ble_eq_true rfl) (by omega) (f_X11_isIn (d := d - 1) (by omega) (by omega) hX c2) ?_
  refine ev_ifT (tgt := 53) dX11_family_44 (by decide) (by show (0 : Int32) = 0; decide) ?_
  refine ev_ldc (v := (-1000000001)) dX11_family_53 kw_11_61 ?_
  exact ev_iret dX11_family_55 rfl rfl hp
theorem bX11_family_0_4 {g : GG} {d n : Nat} {post : Option Value → LX → Prop} {X : LX} (hd : 1 ≤ d) (hn : 146 ≤ n) (hX : Sh n X) {v1 : Int32} {v2 : Int32} (c0 : 0 ≤ v1 ∧ v1 ≤ 255) (c1 : v2 < 0) (hp : post (some (.int (-1000000001))) X) : Ev g mX11_family d n n post n 0 [some (.ref 0), some (.int v1), some (.int v2), none, none, none, none, none] [] X := by
  refine ev_iload_n dX11_family_0 rfl ?_
  refine ev_bipush (v := 10) dX11_family_1 kb_10 ?_
  refine ev_irem dX11_family_3 (by decide) ?_
  refine ev_istore_n dX11_family_4 (by decide) ?_
  refine ev_iload_n dX11_family_5 rfl ?_
  refine ev_bipush (v := 10) dX11_family_6 kb_10 ?_
  refine ev_idiv dX11_family_8 (by decide) ?_
  refine ev_sipush (v := 1000) dX11_family_9 ks_1000 ?_
  refine ev_irem dX11_family_12 (by decide) ?_
  refine ev_istore dX11_family_13 (by decide) ?_
  refine ev_iload_n dX11_family_15 rfl ?_
  refine ev_sipush (v := 10000) dX11_family_16 ks_10000 ?_
  refine ev_idiv dX11_family_19 (by decide) ?_
  refine ev_istore dX11_family_20 (by decide) ?_
  refine ev_iload_n dX11_family_22 rfl ?_
  refine ev_iconst (v := 0) dX11_family_23 ki_0 ?_
  refine ev_sipush (v := 255) dX11_family_24 ks_255 ?_
  refine e_Si (as := [.int v1, .int 0, .int 255]) (rest := []) dX11_family_27 vX11_isIn ml_11_57 stX11_isIn npX11_isIn (by decide) rfl (Nat.le_of_ble_eq_true rfl) (by omega) (t_X11_isIn (d := d - 1) (by omega) (by omega) hX c0) ?_
  refine ev_ifF (tgt := 53) dX11_family_30 (by decide) (by show ¬ (1 : Int32) = 0; decide) ?_
  refine ev_iload_n dX11_family_33 rfl ?_
  refine ev_ifT (tgt := 53) dX11_family_34 (by decide) c1 ?_
  refine ev_ldc (v := (-1000000001)) dX11_family_53 kw_11_61 ?_
  exact ev_iret dX11_family_55 rfl rfl hp
theorem bX11_family_0_5 {g : GG} {d n : Nat} {post : Option Value → LX → Prop} {X : LX} (hd : 1 ≤ d) (hn : 146 ≤ n) (hX : Sh n X) {v1 : Int32} {v2 : Int32} (c0 : ¬ (0 ≤ v1 ∧ v1 ≤ 255)) (hp : post (some (.int (-1000000001))) X) : Ev g mX11_family d n n post n 0 [some (.ref 0), some (.int v1), some (.int v2), none, none, none, none, none] [] X := by
  refine ev_iload_n dX11_family_0 rfl ?_
  refine ev_bipush (v := 10) dX11_family_1 kb_10 ?_
  refine ev_irem dX11_family_3 (by decide) ?_
  refine ev_istore_n dX11_family_4 (by decide) ?_
  refine ev_iload_n dX11_family_5 rfl ?_
  refine ev_bipush (v := 10) dX11_family_6 kb_10 ?_
  refine ev_idiv dX11_family_8 (by decide) ?_
  refine ev_sipush (v := 1000) dX11_family_9 ks_1000 ?_
  refine ev_irem dX11_family_12 (by decide) ?_
  refine ev_istore dX11_family_13 (by decide) ?_
  refine ev_iload_n dX11_family_15 rfl ?_
  refine ev_sipush (v := 10000) dX11_family_16 ks_10000 ?_
  refine ev_idiv dX11_family_19 (by decide) ?_
  refine ev_istore dX11_family_20 (by decide) ?_
  refine ev_iload_n dX11_family_22 rfl ?_
  refine ev_iconst (v := 0) dX11_family_23 ki_0 ?_
  refine ev_sipush (v := 255) dX11_family_24 ks_255 ?_
  refine e_Si (as := [.int v1, .int 0, .int 255]) (rest := []) dX11_family_27 vX11_isIn ml_11_57 stX11_isIn npX11_isIn (by decide) rfl (Nat.le_of_ble_eq_true rfl) (by omega) (f_X11_isIn (d := d - 1) (by omega) (by omega) hX c0) ?_
  refine ev_ifT (tgt := 53) dX11_family_30 (by decide) (by show (0 : Int32) = 0; decide) ?_
  refine ev_ldc (v := (-1000000001)) dX11_family_53 kw_11_61 ?_
  exact ev_iret dX11_family_55 rfl rfl hp
theorem bX12_family_0_0 {g : GG} {d n : Nat} {post : Option Value → LX → Prop} {X : LX} (hd : 1 ≤ d) (hn : 146 ≤ n) (hX : Sh n X) {v1 : Int32} {v2 : Int32} (c0 : 0 ≤ v1 ∧ v1 ≤ 255) (c1 : 0 ≤ v2 ∧ v2 ≤ 19999) (c2 : 1 ≤ (v2 - v2 / 10 * 10) ∧ (v2 - v2 / 10 * 10) ≤ 6) (c3 : X 134 6 = 12) (hp : post (some (.int (-1000000003))) X) : Ev g mX12_family d n n post n 0 [some (.ref 133), some (.int v1), some (.int v2), none, none] [] X := by
  refine ev_iload_n dX12_family_0 rfl ?_
  refine ev_iconst (v := 0) dX12_family_1 ki_0 ?_
  refine ev_sipush (v := 255) dX12_family_2 ks_255 ?_
  refine e_Si (as := [.int v1, .int 0, .int 255]) (rest := []) dX12_family_5 vX12_within ml_12_52 stX12_within npX12_within (by decide) rfl (Nat.le_of_ble_eq_true rfl) (by omega) (t_X12_within (d := d - 1) (by omega) (by omega) hX c0) ?_
  refine ev_ifF (tgt := 35) dX12_family_8 (by decide) (by show ¬ (1 : Int32) = 0; decide) ?_
  refine ev_iload_n dX12_family_11 rfl ?_
  refine ev_iconst (v := 0) dX12_family_12 ki_0 ?_
  refine ev_sipush (v := 19999) dX12_family_13 ks_19999 ?_
  refine e_Si (as := [.int v2, .int 0, .int 19999]) (rest := []) dX12_family_16 vX12_within ml_12_52 stX12_within npX12_within (by decide) rfl (Nat.le_of_ble_eq_true rfl) (by omega) (t_X12_within (d := d - 1) (by omega) (by omega) hX c1) ?_
  refine ev_ifF (tgt := 35) dX12_family_19 (by decide) (by show ¬ (1 : Int32) = 0; decide) ?_
  refine ev_iload_n dX12_family_22 rfl ?_
  refine ev_bipush (v := 10) dX12_family_23 kb_10 ?_
  refine ev_irem dX12_family_25 (by decide) ?_
  refine ev_iconst (v := 1) dX12_family_26 ki_1 ?_
  refine ev_bipush (v := 6) dX12_family_27 kb_6 ?_
  refine e_Si (as := [.int (v2 - v2 / 10 * 10), .int 1, .int 6]) (rest := []) dX12_family_29 vX12_within ml_12_52 stX12_within npX12_within (by decide) rfl (Nat.le_of_ble_eq_true rfl) (by omega) (t_X12_within (d := d - 1) (by omega) (by omega) hX c2) ?_
  refine ev_ifT (tgt := 38) dX12_family_32 (by decide) (by show ¬ (1 : Int32) = 0; decide) ?_
  refine ev_aload_n dX12_family_38 rfl ?_
  refine ev_getS (q := 134) dX12_family_39 fo_12_9 (by omega) lo_133 rfl (sh_133_0 hX (by omega)) (by decide) ?_
  refine ev_bipush (v := 6) dX12_family_42 kb_6 ?_
  refine ev_iald dX12_family_44 (by omega) ly_134 nIl_6 (by decide) ?_
  refine ev_istore_n dX12_family_45 (by decide) ?_
  refine ev_iload_n dX12_family_46 rfl ?_
  refine ev_bipush (v := 12) dX12_family_47 kb_12 ?_
  refine ev_icmpF (tgt := 55) dX12_family_49 (by decide) c3 ?_
  refine ev_ldc (v := (-1000000003)) dX12_family_52 kw_12_58 ?_
  exact ev_iret dX12_family_54 rfl rfl hp
theorem bX12_family_0_1 {g : GG} {d n : Nat} {post : Option Value → LX → Prop} {X : LX} (hd : 1 ≤ d) (hn : 146 ≤ n) (hX : Sh n X) {v1 : Int32} {v2 : Int32} {j1 : Nat} (c0 : 0 ≤ v1 ∧ v1 ≤ 255) (c1 : 0 ≤ v2 ∧ v2 ≤ 19999) (c2 : 1 ≤ (v2 - v2 / 10 * 10) ∧ (v2 - v2 / 10 * 10) ≤ 6) (c3 : ¬ X 134 6 = 12) (hj1 : X 134 6 = nI j1) (b0 : ((448 + (15 * j1)) + 0) < 2156) (b1 : ((448 + (15 * j1)) + 1) < 2156) (b2 : ((448 + (15 * j1)) + 2) < 2156) (b3 : ((448 + (15 * j1)) + 3) < 2156) (b4 : ((448 + (15 * j1)) + 4) < 2156) (k : Ev g mX12_family d n n post n 127 [some (.ref 133), some (.int v1), some (.int v2), some (.int (X 134 6)), some (.int 0)] [] (lx_up (lx_up (lx_up (lx_up (lx_up X 134 ((448 + (15 * j1)) + 0) v1) 134 ((448 + (15 * j1)) + 1) (v2 - v2 / 10 * 10)) 134 ((448 + (15 * j1)) + 2) (v2 / 10000)) 134 ((448 + (15 * j1)) + 3) ((v2 / 10) - (v2 / 10) / 1000 * 1000)) 134 ((448 + (15 * j1)) + 4) 0)) : Ev g mX12_family d n n post n 0 [some (.ref 133), some (.int v1), some (.int v2), none, none] [] X := by
  refine ev_iload_n dX12_family_0 rfl ?_
  refine ev_iconst (v := 0) dX12_family_1 ki_0 ?_
  refine ev_sipush (v := 255) dX12_family_2 ks_255 ?_
  refine e_Si (as := [.int v1, .int 0, .int 255]) (rest := []) dX12_family_5 vX12_within ml_12_52 stX12_within npX12_within (by decide) rfl (Nat.le_of_ble_eq_true rfl) (by omega) (t_X12_within (d := d - 1) (by omega) (by omega) hX c0) ?_
  refine ev_ifF (tgt := 35) dX12_family_8 (by decide) (by show ¬ (1 : Int32) = 0; decide) ?_
  refine ev_iload_n dX12_family_11 rfl ?_
  refine ev_iconst (v := 0) dX12_family_12 ki_0 ?_
  refine ev_sipush (v := 19999) dX12_family_13 ks_19999 ?_
  refine e_Si (as := [.int v2, .int 0, .int 19999]) (rest := []) dX12_family_16 vX12_within ml_12_52 stX12_within npX12_within (by decide) rfl (Nat.le_of_ble_eq_true rfl) (by omega) (t_X12_within (d := d - 1) (by omega) (by omega) hX c1) ?_
  refine ev_ifF (tgt := 35) dX12_family_19 (by decide) (by show ¬ (1 : Int32) = 0; decide) ?_
  refine ev_iload_n dX12_family_22 rfl ?_
  refine ev_bipush (v := 10) dX12_family_23 kb_10 ?_
  refine ev_irem dX12_family_25 (by decide) ?_
  refine ev_iconst (v := 1) dX12_family_26 ki_1 ?_
  refine ev_bipush (v := 6) dX12_family_27 kb_6 ?_
  refine e_Si (as := [.int (v2 - v2 / 10 * 10), .int 1, .int 6]) (rest := []) dX12_family_29 vX12_within ml_12_52 stX12_within npX12_within (by decide) rfl (Nat.le_of_ble_eq_true rfl) (by omega) (t_X12_within (d := d - 1) (by omega) (by omega) hX c2) ?_
  refine ev_ifT (tgt := 38) dX12_family_32 (by decide) (by show ¬ (1 : Int32) = 0; decide) ?_
  refine ev_aload_n dX12_family_38 rfl ?_
  refine ev_getS (q := 134) dX12_family_39 fo_12_9 (by omega) lo_133 rfl (sh_133_0 hX (by omega)) (by decide) ?_
  refine ev_bipush (v := 6) dX12_family_42 kb_6 ?_
  refine ev_iald dX12_family_44 (by omega) ly_134 nIl_6 (by decide) ?_
  refine ev_istore_n dX12_family_45 (by decide) ?_
  refine ev_iload_n dX12_family_46 rfl ?_
  refine ev_bipush (v := 12) dX12_family_47 kb_12 ?_
  refine ev_icmpT (tgt := 55) dX12_family_49 (by decide) c3 ?_
  refine ev_aload_n dX12_family_55 rfl ?_
  refine ev_getS (q := 134) dX12_family_56 fo_12_9 (by omega) lo_133 rfl (sh_133_0 hX (by omega)) (by decide) ?_
  refine ev_iload_n dX12_family_59 rfl ?_
  refine ev_iconst (v := 0) dX12_family_60 ki_0 ?_
  refine e_Si (as := [.int (X 134 6), .int 0]) (rest := [.ref 134]) dX12_family_61 vX12_ofFamily ml_12_99 stX12_ofFamily npX12_ofFamily (by decide) rfl (Nat.le_of_ble_eq_true rfl) (by omega) (c_X12_ofFamily (d := d - 1) (by omega) (by omega) hX ) ?_
  refine ev_iload_n dX12_family_64 rfl ?_
  refine ev_iast dX12_family_65 (by omega) ly_134 (by rw [hj1]; show (nI 448 + (nI 15 * nI j1)) + nI 0 = nI ((448 + (15 * j1)) + 0); simp only [pk_mul, nI_add]) b0 ?_
  have hX1 : Sh _ (lx_up X 134 ((448 + (15 * j1)) + 0) v1) := Sh.upA hX (by rw [ly_134]; exact (by decide : 0 < 2))
  refine ev_aload_n dX12_family_66 rfl ?_
  refine ev_getS (q := 134) dX12_family_67 fo_12_9 (by omega) lo_133 rfl (sh_133_0 hX1 (by omega)) (by decide) ?_
  refine ev_iload_n dX12_family_70 rfl ?_
  refine ev_iconst (v := 1) dX12_family_71 ki_1 ?_
  refine e_Si (as := [.int (X 134 6), .int 1]) (rest := [.ref 134]) dX12_family_72 vX12_ofFamily ml_12_99 stX12_ofFamily npX12_ofFamily (by decide) rfl (Nat.le_of_ble_eq_true rfl) (by omega) (c_X12_ofFamily (d := d - 1) (by omega) (by omega) hX1 ) ?_
  refine ev_iload_n dX12_family_75 rfl ?_
  refine ev_bipush (v := 10) dX12_family_76 kb_10 ?_
  refine ev_irem dX12_family_78 (by decide) ?_
  refine ev_iast dX12_family_79 (by omega) ly_134 (by rw [hj1]; show (nI 448 + (nI 15 * nI j1)) + nI 1 = nI ((448 + (15 * j1)) + 1); simp only [pk_mul, nI_add]) b1 ?_
  have hX2 : Sh _ (lx_up (lx_up X 134 ((448 + (15 * j1)) + 0) v1) 134 ((448 + (15 * j1)) + 1) (v2 - v2 / 10 * 10)) := Sh.upA hX1 (by rw [ly_134]; exact (by decide : 0 < 2))
  refine ev_aload_n dX12_family_80 rfl ?_
  refine ev_getS (q := 134) dX12_family_81 fo_12_9 (by omega) lo_133 rfl (sh_133_0 hX2 (by omega)) (by decide) ?_
  refine ev_iload_n dX12_family_84 rfl ?_
  refine ev_iconst (v := 2) dX12_family_85 ki_2 ?_
  refine e_Si (as := [.int (X 134 6), .int 2]) (rest := [.ref 134]) dX12_family_86 vX12_ofFamily ml_12_99 stX12_ofFamily npX12_ofFamily (by decide) rfl (Nat.le_of_ble_eq_true rfl) (by omega) (c_X12_ofFamily (d := d - 1) (by omega) (by omega) hX2 ) ?_
  refine ev_iload_n dX12_family_89 rfl ?_
  refine ev_sipush (v := 10000) dX12_family_90 ks_10000 ?_
  refine ev_idiv dX12_family_93 (by decide) ?_
  refine ev_iast dX12_family_94 (by omega) ly_134 (by rw [hj1]; show (nI 448 + (nI 15 * nI j1)) + nI 2 = nI ((448 + (15 * j1)) + 2); simp only [pk_mul, nI_add]) b2 ?_
  have hX3 : Sh _ (lx_up (lx_up (lx_up X 134 ((448 + (15 * j1)) + 0) v1) 134 ((448 + (15 * j1)) + 1) (v2 - v2 / 10 * 10)) 134 ((448 + (15 * j1)) + 2) (v2 / 10000)) := Sh.upA hX2 (by rw [ly_134]; exact (by decide : 0 < 2))
  refine ev_aload_n dX12_family_95 rfl ?_
  refine ev_getS (q := 134) dX12_family_96 fo_12_9 (by omega) lo_133 rfl (sh_133_0 hX3 (by omega)) (by decide) ?_
  refine ev_iload_n dX12_family_99 rfl ?_
  refine ev_iconst (v := 3) dX12_family_100 ki_3 ?_
  refine e_Si (as := [.int (X 134 6), .int 3]) (rest := [.ref 134]) dX12_family_101 vX12_ofFamily ml_12_99 stX12_ofFamily npX12_ofFamily (by decide) rfl (Nat.le_of_ble_eq_true rfl) (by omega) (c_X12_ofFamily (d := d - 1) (by omega) (by omega) hX3 ) ?_
  refine ev_iload_n dX12_family_104 rfl ?_
  refine ev_bipush (v := 10) dX12_family_105 kb_10 ?_
  refine ev_idiv dX12_family_107 (by decide) ?_
  refine ev_sipush (v := 1000) dX12_family_108 ks_1000 ?_
  refine ev_irem dX12_family_111 (by decide) ?_
  refine ev_iast dX12_family_112 (by omega) ly_134 (by rw [hj1]; show (nI 448 + (nI 15 * nI j1)) + nI 3 = nI ((448 + (15 * j1)) + 3); simp only [pk_mul, nI_add]) b3 ?_
  have hX4 : Sh _ (lx_up (lx_up (lx_up (lx_up X 134 ((448 + (15 * j1)) + 0) v1) 134 ((448 + (15 * j1)) + 1) (v2 - v2 / 10 * 10)) 134 ((448 + (15 * j1)) + 2) (v2 / 10000)) 134 ((448 + (15 * j1)) + 3) ((v2 / 10) - (v2 / 10) / 1000 * 1000)) := Sh.upA hX3 (by rw [ly_134]; exact (by decide : 0 < 2))
  refine ev_aload_n dX12_family_113 rfl ?_
  refine ev_getS (q := 134) dX12_family_114 fo_12_9 (by omega) lo_133 rfl (sh_133_0 hX4 (by omega)) (by decide) ?_
  refine ev_iload_n dX12_family_117 rfl ?_
  refine ev_iconst (v := 4) dX12_family_118 ki_4 ?_
  refine e_Si (as := [.int (X 134 6), .int 4]) (rest := [.ref 134]) dX12_family_119 vX12_ofFamily ml_12_99 stX12_ofFamily npX12_ofFamily (by decide) rfl (Nat.le_of_ble_eq_true rfl) (by omega) (c_X12_ofFamily (d := d - 1) (by omega) (by omega) hX4 ) ?_
  refine ev_iconst (v := 0) dX12_family_122 ki_0 ?_
  refine ev_iast dX12_family_123 (by omega) ly_134 (by rw [hj1]; show (nI 448 + (nI 15 * nI j1)) + nI 4 = nI ((448 + (15 * j1)) + 4); simp only [pk_mul, nI_add]) b4 ?_
  have hX5 : Sh _ (lx_up (lx_up (lx_up (lx_up (lx_up X 134 ((448 + (15 * j1)) + 0) v1) 134 ((448 + (15 * j1)) + 1) (v2 - v2 / 10 * 10)) 134 ((448 + (15 * j1)) + 2) (v2 / 10000)) 134 ((448 + (15 * j1)) + 3) ((v2 / 10) - (v2 / 10) / 1000 * 1000)) 134 ((448 + (15 * j1)) + 4) 0) := Sh.upA hX4 (by rw [ly_134]; exact (by decide : 0 < 2))
  refine ev_iconst (v := 0) dX12_family_124 ki_0 ?_
  refine ev_istore dX12_family_125 (by decide) ?_
  exact k
theorem bX12_family_0_2 {g : GG} {d n : Nat} {post : Option Value → LX → Prop} {X : LX} (hd : 1 ≤ d) (hn : 146 ≤ n) (hX : Sh n X) {v1 : Int32} {v2 : Int32} (c0 : 0 ≤ v1 ∧ v1 ≤ 255) (c1 : 0 ≤ v2 ∧ v2 ≤ 19999) (c2 : ¬ (1 ≤ (v2 - v2 / 10 * 10) ∧ (v2 - v2 / 10 * 10) ≤ 6)) (hp : post (some (.int (-1000000001))) X) : Ev g mX12_family d n n post n 0 [some (.ref 133), some (.int v1), some (.int v2), none, none] [] X := by
  refine ev_iload_n dX12_family_0 rfl ?_
  refine ev_iconst (v := 0) dX12_family_1 ki_0 ?_
  refine ev_sipush (v := 255) dX12_family_2 ks_255 ?_
  refine e_Si (as := [.int v1, .int 0, .int 255]) (rest := []) dX12_family_5 vX12_within ml_12_52 stX12_within npX12_within (by decide) rfl (Nat.le_of_ble_eq_true rfl) (by omega) (t_X12_within (d := d - 1) (by omega) (by omega) hX c0) ?_
  refine ev_ifF (tgt := 35) dX12_family_8 (by decide) (by show ¬ (1 : Int32) = 0; decide) ?_
  refine ev_iload_n dX12_family_11 rfl ?_
  refine ev_iconst (v := 0) dX12_family_12 ki_0 ?_
  refine ev_sipush (v := 19999) dX12_family_13 ks_19999 ?_
  refine e_Si (as := [.int v2, .int 0, .int 19999]) (rest := []) dX12_family_16 vX12_within ml_12_52 stX12_within npX12_within (by decide) rfl (Nat.le_of_ble_eq_true rfl) (by omega) (t_X12_within (d := d - 1) (by omega) (by omega) hX c1) ?_
  refine ev_ifF (tgt := 35) dX12_family_19 (by decide) (by show ¬ (1 : Int32) = 0; decide) ?_
  refine ev_iload_n dX12_family_22 rfl ?_
  refine ev_bipush (v := 10) dX12_family_23 kb_10 ?_
  refine ev_irem dX12_family_25 (by decide) ?_
  refine ev_iconst (v := 1) dX12_family_26 ki_1 ?_
  refine ev_bipush (v := 6) dX12_family_27 kb_6 ?_
  refine e_Si (as := [.int (v2 - v2 / 10 * 10), .int 1, .int 6]) (rest := []) dX12_family_29 vX12_within ml_12_52 stX12_within npX12_within (by decide) rfl (Nat.le_of_ble_eq_true rfl) (by omega) (f_X12_within (d := d - 1) (by omega) (by omega) hX c2) ?_
  refine ev_ifF (tgt := 38) dX12_family_32 (by decide) (by show (0 : Int32) = 0; decide) ?_
  refine ev_ldc (v := (-1000000001)) dX12_family_35 kw_12_57 ?_
  exact ev_iret dX12_family_37 rfl rfl hp
theorem bX12_family_0_3 {g : GG} {d n : Nat} {post : Option Value → LX → Prop} {X : LX} (hd : 1 ≤ d) (hn : 146 ≤ n) (hX : Sh n X) {v1 : Int32} {v2 : Int32} (c0 : 0 ≤ v1 ∧ v1 ≤ 255) (c1 : ¬ (0 ≤ v2 ∧ v2 ≤ 19999)) (hp : post (some (.int (-1000000001))) X) : Ev g mX12_family d n n post n 0 [some (.ref 133), some (.int v1), some (.int v2), none, none] [] X := by
  refine ev_iload_n dX12_family_0 rfl ?_
  refine ev_iconst (v := 0) dX12_family_1 ki_0 ?_
  refine ev_sipush (v := 255) dX12_family_2 ks_255 ?_
  refine e_Si (as := [.int v1, .int 0, .int 255]) (rest := []) dX12_family_5 vX12_within ml_12_52 stX12_within npX12_within (by decide) rfl (Nat.le_of_ble_eq_true rfl) (by omega) (t_X12_within (d := d - 1) (by omega) (by omega) hX c0) ?_
  refine ev_ifF (tgt := 35) dX12_family_8 (by decide) (by show ¬ (1 : Int32) = 0; decide) ?_
  refine ev_iload_n dX12_family_11 rfl ?_
  refine ev_iconst (v := 0) dX12_family_12 ki_0 ?_
  refine ev_sipush (v := 19999) dX12_family_13 ks_19999 ?_
  refine e_Si (as := [.int v2, .int 0, .int 19999]) (rest := []) dX12_family_16 vX12_within ml_12_52 stX12_within npX12_within (by decide) rfl (Nat.le_of_ble_eq_true rfl) (by omega) (f_X12_within (d := d - 1) (by omega) (by omega) hX c1) ?_
  refine ev_ifT (tgt := 35) dX12_family_19 (by decide) (by show (0 : Int32) = 0; decide) ?_
  refine ev_ldc (v := (-1000000001)) dX12_family_35 kw_12_57 ?_
  exact ev_iret dX12_family_37 rfl rfl hp
theorem bX12_family_0_4 {g : GG} {d n : Nat} {post : Option Value → LX → Prop} {X : LX} (hd : 1 ≤ d) (hn : 146 ≤ n) (hX : Sh n X) {v1 : Int32} {v2 : Int32} (c0 : ¬ (0 ≤ v1 ∧ v1 ≤ 255)) (hp : post (some (.int (-1000000001))) X) : Ev g mX12_family d n n post n 0 [some (.ref 133), some (.int v1), some (.int v2), none, none] [] X := by
  refine ev_iload_n dX12_family_0 rfl ?_
  refine ev_iconst (v := 0) dX12_family_1 ki_0 ?_
  refine ev_sipush (v := 255) dX12_family_2 ks_255 ?_
  refine e_Si (as := [.int v1, .int 0, .int 255]) (rest := []) dX12_family_5 vX12_within ml_12_52 stX12_within npX12_within (by decide) rfl (Nat.le_of_ble_eq_true rfl) (by omega) (f_X12_within (d := d - 1) (by omega) (by omega) hX c0) ?_
  refine ev_ifT (tgt := 35) dX12_family_8 (by decide) (by show (0 : Int32) = 0; decide) ?_
  refine ev_ldc (v := (-1000000001)) dX12_family_35 kw_12_57 ?_
  exact ev_iret dX12_family_37 rfl rfl hp
theorem bX12_family_127_0 {g : GG} {d n : Nat} {post : Option Value → LX → Prop} {X : LX} (hd : 1 ≤ d) (hn : 146 ≤ n) (hX : Sh n X) {v1 : Int32} {v2 : Int32} {v3 : Nat} {v4 : Nat} (c0 : ¬ 10 ≤ nI v4) (b0 : ((448 + (15 * v3)) + (5 + v4)) < 2156) (k : Ev g mX12_family d n n post n 127 [some (.ref 133), some (.int v1), some (.int v2), some (.int (nI v3)), some (.int ((nI v4) + 1))] [] (lx_up X 134 ((448 + (15 * v3)) + (5 + v4)) 5)) : Ev g mX12_family d n n post n 127 [some (.ref 133), some (.int v1), some (.int v2), some (.int (nI v3)), some (.int (nI v4))] [] X := by
  refine ev_iload dX12_family_127 rfl ?_
  refine ev_bipush (v := 10) dX12_family_129 kb_10 ?_
  refine ev_icmpF (tgt := 154) dX12_family_131 (by decide) c0 ?_
  refine ev_aload_n dX12_family_134 rfl ?_
  refine ev_getS (q := 134) dX12_family_135 fo_12_9 (by omega) lo_133 rfl (sh_133_0 hX (by omega)) (by decide) ?_
  refine ev_iload_n dX12_family_138 rfl ?_
  refine ev_iconst (v := 5) dX12_family_139 ki_5 ?_
  refine ev_iload dX12_family_140 rfl ?_
  refine ev_iadd dX12_family_142 ?_
  refine e_Si (as := [.int (nI v3), .int (5 + (nI v4))]) (rest := [.ref 134]) dX12_family_143 vX12_ofFamily ml_12_99 stX12_ofFamily npX12_ofFamily (by decide) rfl (Nat.le_of_ble_eq_true rfl) (by omega) (c_X12_ofFamily (d := d - 1) (by omega) (by omega) hX ) ?_
  refine ev_iconst (v := 5) dX12_family_146 ki_5 ?_
  refine ev_iast dX12_family_147 (by omega) ly_134 (by show (nI 448 + (nI 15 * nI v3)) + (nI 5 + nI v4) = nI ((448 + (15 * v3)) + (5 + v4)); simp only [pk_mul, nI_add]) b0 ?_
  have hX1 : Sh _ (lx_up X 134 ((448 + (15 * v3)) + (5 + v4)) 5) := Sh.upA hX (by rw [ly_134]; exact (by decide : 0 < 2))
  refine ev_iinc (v := (nI v4) + 1) dX12_family_148 rfl (by rw [show Int32.ofInt 1 = 1 from ki_1]) (by decide) ?_
  refine ev_goto (tgt := 127) dX12_family_151 (by decide) ?_
  exact k
theorem bX12_family_127_1 {g : GG} {d n : Nat} {post : Option Value → LX → Prop} {X : LX} (hn : 146 ≤ n) (hX : Sh n X) {v1 : Int32} {v2 : Int32} {v3 : Int32} {v4 : Int32} (c0 : 10 ≤ v4) (hp : post (some (.int v3)) (lx_up X 134 6 ((X 134 6) + 1))) : Ev g mX12_family d n n post n 127 [some (.ref 133), some (.int v1), some (.int v2), some (.int v3), some (.int v4)] [] X := by
  refine ev_iload dX12_family_127 rfl ?_
  refine ev_bipush (v := 10) dX12_family_129 kb_10 ?_
  refine ev_icmpT (tgt := 154) dX12_family_131 (by decide) c0 ?_
  refine ev_aload_n dX12_family_154 rfl ?_
  refine ev_getS (q := 134) dX12_family_155 fo_12_9 (by omega) lo_133 rfl (sh_133_0 hX (by omega)) (by decide) ?_
  refine ev_bipush (v := 6) dX12_family_158 kb_6 ?_
  refine ev_dup2 dX12_family_160 rfl rfl ?_
  refine ev_iald dX12_family_161 (by omega) ly_134 nIl_6 (by decide) ?_
  refine ev_iconst (v := 1) dX12_family_162 ki_1 ?_
  refine ev_iadd dX12_family_163 ?_
  refine ev_iast dX12_family_164 (by omega) ly_134 nIl_6 (by decide) ?_
  have hX1 : Sh _ (lx_up X 134 6 ((X 134 6) + 1)) := Sh.upA hX (by rw [ly_134]; exact (by decide : 0 < 2))
  refine ev_iload_n dX12_family_165 rfl ?_
  exact ev_iret dX12_family_166 rfl rfl hp
theorem bX11_likes_0_0 {g : GG} {d n : Nat} {post : Option Value → LX → Prop} {X : LX} (hd : 2 ≤ d) (hn : 146 ≤ n) (hX : Sh n X) {v1 : Nat} {v2 : Nat} {v3 : Int32} (c0 : 0 ≤ (nI v1) ∧ (nI v1) < X 37 0) (c1 : 0 ≤ (nI v2) ∧ (nI v2) < X 23 0) (c2 : 0 ≤ v3 ∧ v3 ≤ 9) (b0 : v1 < 12) (b1 : v2 < 10) (hp : post (some (.int (X (43 + 1 + v1) v2))) (lx_up X (43 + 1 + v1) v2 v3)) : Ev g mX11_likes d n n post n 0 [some (.ref 0), some (.int (nI v1)), some (.int (nI v2)), some (.int v3), none] [] X := by
  refine ev_aload_n dX11_likes_0 rfl ?_
  refine ev_getS (q := 1) dX11_likes_1 fo_11_10 (by omega) lo_0 rfl (sh_0_0 hX (by omega)) (by decide) ?_
  refine ev_getS (q := 37) dX11_likes_4 fo_11_144 (by omega) lo_1 rfl (sh_1_2 hX (by omega)) (by decide) ?_
  refine ev_iload_n dX11_likes_7 rfl ?_
  refine e_Vi (as := [.int (nI v1)]) (rest := []) dX11_likes_8 vX0_has ml_11_163 isX0_has seX0_has npX0_has (rc_37 (by omega)) (by decide) rfl (Nat.le_of_ble_eq_true rfl) (by omega) (t_X0_has (d := d - 1) (by omega) (by omega) hX c0) ?_
  refine ev_ifF (tgt := 35) dX11_likes_11 (by decide) (by show ¬ (1 : Int32) = 0; decide) ?_
  refine ev_aload_n dX11_likes_14 rfl ?_
  refine ev_getS (q := 1) dX11_likes_15 fo_11_10 (by omega) lo_0 rfl (sh_0_0 hX (by omega)) (by decide) ?_
  refine ev_getS (q := 23) dX11_likes_18 fo_11_96 (by omega) lo_1 rfl (sh_1_1 hX (by omega)) (by decide) ?_
  refine ev_iload_n dX11_likes_21 rfl ?_
  refine e_Vi (as := [.int (nI v2)]) (rest := []) dX11_likes_22 vX5_has ml_11_109 isX5_has seX5_has npX5_has (rc_23 (by omega)) (by decide) rfl (Nat.le_of_ble_eq_true rfl) (by omega) (t_X5_has (d := d - 1) (by omega) (by omega) hX c1) ?_
  refine ev_ifF (tgt := 35) dX11_likes_25 (by decide) (by show ¬ (1 : Int32) = 0; decide) ?_
  refine ev_iload_n dX11_likes_28 rfl ?_
  refine e_Si (as := [.int v3]) (rest := []) dX11_likes_29 vX11_isLikes ml_11_164 stX11_isLikes npX11_isLikes (by decide) rfl (Nat.le_of_ble_eq_true rfl) (by omega) (t_X11_isLikes (d := d - 1) (by omega) (by omega) hX c2) ?_
  refine ev_ifT (tgt := 38) dX11_likes_32 (by decide) (by show ¬ (1 : Int32) = 0; decide) ?_
  refine ev_aload_n dX11_likes_38 rfl ?_
  refine ev_getS (q := 1) dX11_likes_39 fo_11_10 (by omega) lo_0 rfl (sh_0_0 hX (by omega)) (by decide) ?_
  refine ev_getS (q := 37) dX11_likes_42 fo_11_144 (by omega) lo_1 rfl (sh_1_2 hX (by omega)) (by decide) ?_
  refine ev_getS (q := 43) dX11_likes_45 fo_11_167 (by omega) lo_37 rfl (sh_37_6 hX (by omega)) (by decide) ?_
  refine ev_iload_n dX11_likes_48 rfl ?_
  refine ev_aald (q := 43 + 1 + v1) dX11_likes_49 (by omega) (Or.inl ly_43) rfl b0 (hX.2 43 v1 (by omega) (Or.inl (by rw [ly_43])) (by rw [ly_43]; exact b0)) (by first | omega | (have := LY_l ly_43; have := LY_lt (show (LY 43).1 < 99 by rw [ly_43]; exact (by decide : 2 < 99)); omega)) ?_
  refine ev_iload_n dX11_likes_50 rfl ?_
  refine ev_iald dX11_likes_51 (by have := b0; omega) (lyr_43 _ b0) rfl b1 ?_
  refine ev_istore dX11_likes_52 (by decide) ?_
  refine ev_aload_n dX11_likes_54 rfl ?_
  refine ev_getS (q := 1) dX11_likes_55 fo_11_10 (by omega) lo_0 rfl (sh_0_0 hX (by omega)) (by decide) ?_
  refine ev_getS (q := 37) dX11_likes_58 fo_11_144 (by omega) lo_1 rfl (sh_1_2 hX (by omega)) (by decide) ?_
  refine ev_getS (q := 43) dX11_likes_61 fo_11_167 (by omega) lo_37 rfl (sh_37_6 hX (by omega)) (by decide) ?_
  refine ev_iload_n dX11_likes_64 rfl ?_
  refine ev_aald (q := 43 + 1 + v1) dX11_likes_65 (by omega) (Or.inl ly_43) rfl b0 (hX.2 43 v1 (by omega) (Or.inl (by rw [ly_43])) (by rw [ly_43]; exact b0)) (by first | omega | (have := LY_l ly_43; have := LY_lt (show (LY 43).1 < 99 by rw [ly_43]; exact (by decide : 2 < 99)); omega)) ?_
  refine ev_iload_n dX11_likes_66 rfl ?_
  refine ev_iload_n dX11_likes_67 rfl ?_
  refine ev_iast dX11_likes_68 (by have := b0; omega) (lyr_43 _ b0) rfl b1 ?_
  have hX1 : Sh _ (lx_up X (43 + 1 + v1) v2 v3) := Sh.upA hX (by rw [(lyr_43 _ b0)]; exact (by decide : 0 < 2))
  refine ev_iload dX11_likes_69 rfl ?_
  exact ev_iret dX11_likes_71 rfl rfl hp
theorem bX11_likes_0_1 {g : GG} {d n : Nat} {post : Option Value → LX → Prop} {X : LX} (hd : 2 ≤ d) (hn : 146 ≤ n) (hX : Sh n X) {v1 : Int32} {v2 : Int32} {v3 : Int32} (c0 : 0 ≤ v1 ∧ v1 < X 37 0) (c1 : 0 ≤ v2 ∧ v2 < X 23 0) (c2 : ¬ (0 ≤ v3 ∧ v3 ≤ 9)) (hp : post (some (.int (-1000000001))) X) : Ev g mX11_likes d n n post n 0 [some (.ref 0), some (.int v1), some (.int v2), some (.int v3), none] [] X := by
  refine ev_aload_n dX11_likes_0 rfl ?_
  refine ev_getS (q := 1) dX11_likes_1 fo_11_10 (by omega) lo_0 rfl (sh_0_0 hX (by omega)) (by decide) ?_
  refine ev_getS (q := 37) dX11_likes_4 fo_11_144 (by omega) lo_1 rfl (sh_1_2 hX (by omega)) (by decide) ?_
  refine ev_iload_n dX11_likes_7 rfl ?_
  refine e_Vi (as := [.int v1]) (rest := []) dX11_likes_8 vX0_has ml_11_163 isX0_has seX0_has npX0_has (rc_37 (by omega)) (by decide) rfl (Nat.le_of_ble_eq_true rfl) (by omega) (t_X0_has (d := d - 1) (by omega) (by omega) hX c0) ?_
  refine ev_ifF (tgt := 35) dX11_likes_11 (by decide) (by show ¬ (1 : Int32) = 0; decide) ?_
  refine ev_aload_n dX11_likes_14 rfl ?_
  refine ev_getS (q := 1) dX11_likes_15 fo_11_10 (by omega) lo_0 rfl (sh_0_0 hX (by omega)) (by decide) ?_
  refine ev_getS (q := 23) dX11_likes_18 fo_11_96 (by omega) lo_1 rfl (sh_1_1 hX (by omega)) (by decide) ?_
  refine ev_iload_n dX11_likes_21 rfl ?_
  refine e_Vi (as := [.int v2]) (rest := []) dX11_likes_22 vX5_has ml_11_109 isX5_has seX5_has npX5_has (rc_23 (by omega)) (by decide) rfl (Nat.le_of_ble_eq_true rfl) (by omega) (t_X5_has (d := d - 1) (by omega) (by omega) hX c1) ?_
  refine ev_ifF (tgt := 35) dX11_likes_25 (by decide) (by show ¬ (1 : Int32) = 0; decide) ?_
  refine ev_iload_n dX11_likes_28 rfl ?_
  refine e_Si (as := [.int v3]) (rest := []) dX11_likes_29 vX11_isLikes ml_11_164 stX11_isLikes npX11_isLikes (by decide) rfl (Nat.le_of_ble_eq_true rfl) (by omega) (f_X11_isLikes (d := d - 1) (by omega) (by omega) hX c2) ?_
  refine ev_ifF (tgt := 38) dX11_likes_32 (by decide) (by show (0 : Int32) = 0; decide) ?_
  refine ev_ldc (v := (-1000000001)) dX11_likes_35 kw_11_61 ?_
  exact ev_iret dX11_likes_37 rfl rfl hp
theorem bX11_likes_0_2 {g : GG} {d n : Nat} {post : Option Value → LX → Prop} {X : LX} (hd : 1 ≤ d) (hn : 146 ≤ n) (hX : Sh n X) {v1 : Int32} {v2 : Int32} {v3 : Int32} (c0 : 0 ≤ v1 ∧ v1 < X 37 0) (c1 : ¬ (0 ≤ v2 ∧ v2 < X 23 0)) (hp : post (some (.int (-1000000001))) X) : Ev g mX11_likes d n n post n 0 [some (.ref 0), some (.int v1), some (.int v2), some (.int v3), none] [] X := by
  refine ev_aload_n dX11_likes_0 rfl ?_
  refine ev_getS (q := 1) dX11_likes_1 fo_11_10 (by omega) lo_0 rfl (sh_0_0 hX (by omega)) (by decide) ?_
  refine ev_getS (q := 37) dX11_likes_4 fo_11_144 (by omega) lo_1 rfl (sh_1_2 hX (by omega)) (by decide) ?_
  refine ev_iload_n dX11_likes_7 rfl ?_
  refine e_Vi (as := [.int v1]) (rest := []) dX11_likes_8 vX0_has ml_11_163 isX0_has seX0_has npX0_has (rc_37 (by omega)) (by decide) rfl (Nat.le_of_ble_eq_true rfl) (by omega) (t_X0_has (d := d - 1) (by omega) (by omega) hX c0) ?_
  refine ev_ifF (tgt := 35) dX11_likes_11 (by decide) (by show ¬ (1 : Int32) = 0; decide) ?_
  refine ev_aload_n dX11_likes_14 rfl ?_
  refine ev_getS (q := 1) dX11_likes_15 fo_11_10 (by omega) lo_0 rfl (sh_0_0 hX (by omega)) (by decide) ?_
  refine ev_getS (q := 23) dX11_likes_18 fo_11_96 (by omega) lo_1 rfl (sh_1_1 hX (by omega)) (by decide) ?_
  refine ev_iload_n dX11_likes_21 rfl ?_
  refine e_Vi (as := [.int v2]) (rest := []) dX11_likes_22 vX5_has ml_11_109 isX5_has seX5_has npX5_has (rc_23 (by omega)) (by decide) rfl (Nat.le_of_ble_eq_true rfl) (by omega) (f_X5_has (d := d - 1) (by omega) (by omega) hX c1) ?_
  refine ev_ifT (tgt := 35) dX11_likes_25 (by decide) (by show (0 : Int32) = 0; decide) ?_
  refine ev_ldc (v := (-1000000001)) dX11_likes_35 kw_11_61 ?_
  exact ev_iret dX11_likes_37 rfl rfl hp
theorem bX11_likes_0_3 {g : GG} {d n : Nat} {post : Option Value → LX → Prop} {X : LX} (hd : 1 ≤ d) (hn : 146 ≤ n) (hX : Sh n X) {v1 : Int32} {v2 : Int32} {v3 : Int32} (c0 : ¬ (0 ≤ v1 ∧ v1 < X 37 0)) (hp : post (some (.int (-1000000001))) X) : Ev g mX11_likes d n n post n 0 [some (.ref 0), some (.int v1), some (.int v2), some (.int v3), none] [] X := by
  refine ev_aload_n dX11_likes_0 rfl ?_
  refine ev_getS (q := 1) dX11_likes_1 fo_11_10 (by omega) lo_0 rfl (sh_0_0 hX (by omega)) (by decide) ?_
  refine ev_getS (q := 37) dX11_likes_4 fo_11_144 (by omega) lo_1 rfl (sh_1_2 hX (by omega)) (by decide) ?_
  refine ev_iload_n dX11_likes_7 rfl ?_
  refine e_Vi (as := [.int v1]) (rest := []) dX11_likes_8 vX0_has ml_11_163 isX0_has seX0_has npX0_has (rc_37 (by omega)) (by decide) rfl (Nat.le_of_ble_eq_true rfl) (by omega) (f_X0_has (d := d - 1) (by omega) (by omega) hX c0) ?_
  refine ev_ifT (tgt := 35) dX11_likes_11 (by decide) (by show (0 : Int32) = 0; decide) ?_
  refine ev_ldc (v := (-1000000001)) dX11_likes_35 kw_11_61 ?_
  exact ev_iret dX11_likes_37 rfl rfl hp
theorem bX12_likes_0_0 {g : GG} {d n : Nat} {post : Option Value → LX → Prop} {X : LX} (hd : 2 ≤ d) (hn : 146 ≤ n) (hX : Sh n X) {v1 : Nat} {v2 : Nat} {v3 : Int32} (c0 : 0 ≤ (nI v1) ∧ (nI v1) ≤ X 134 6 - 1) (c1 : 0 ≤ (nI v2) ∧ (nI v2) ≤ X 134 5 - 1) (c2 : 0 ≤ v3 ∧ v3 ≤ 9) (b0 : ((448 + (15 * v1)) + (5 + v2)) < 2156) (hp : post (some (.int (X 134 ((448 + (15 * v1)) + (5 + v2))))) (lx_up X 134 ((448 + (15 * v1)) + (5 + v2)) v3)) : Ev g mX12_likes d n n post n 0 [some (.ref 133), some (.int (nI v1)), some (.int (nI v2)), some (.int v3), none] [] X := by
  refine ev_aload_n dX12_likes_0 rfl ?_
  refine ev_iload_n dX12_likes_1 rfl ?_
  refine e_Vi (as := [.int (nI v1)]) (rest := []) dX12_likes_2 vX12_isFamily ml_12_102 isX12_isFamily seX12_isFamily npX12_isFamily (rc_133 (by omega)) (by decide) rfl (Nat.le_of_ble_eq_true rfl) (by omega) (t_X12_isFamily (d := d - 1) (by omega) (by omega) hX c0) ?_
  refine ev_ifF (tgt := 26) dX12_likes_5 (by decide) (by show ¬ (1 : Int32) = 0; decide) ?_
  refine ev_aload_n dX12_likes_8 rfl ?_
  refine ev_iload_n dX12_likes_9 rfl ?_
  refine e_Vi (as := [.int (nI v2)]) (rest := []) dX12_likes_10 vX12_isMeal ml_12_70 isX12_isMeal seX12_isMeal npX12_isMeal (rc_133 (by omega)) (by decide) rfl (Nat.le_of_ble_eq_true rfl) (by omega) (t_X12_isMeal (d := d - 1) (by omega) (by omega) hX c1) ?_
  refine ev_ifF (tgt := 26) dX12_likes_13 (by decide) (by show ¬ (1 : Int32) = 0; decide) ?_
  refine ev_iload_n dX12_likes_16 rfl ?_
  refine ev_iconst (v := 0) dX12_likes_17 ki_0 ?_
  refine ev_bipush (v := 9) dX12_likes_18 kb_9 ?_
  refine e_Si (as := [.int v3, .int 0, .int 9]) (rest := []) dX12_likes_20 vX12_within ml_12_52 stX12_within npX12_within (by decide) rfl (Nat.le_of_ble_eq_true rfl) (by omega) (t_X12_within (d := d - 1) (by omega) (by omega) hX c2) ?_
  refine ev_ifT (tgt := 29) dX12_likes_23 (by decide) (by show ¬ (1 : Int32) = 0; decide) ?_
  refine ev_aload_n dX12_likes_29 rfl ?_
  refine ev_getS (q := 134) dX12_likes_30 fo_12_9 (by omega) lo_133 rfl (sh_133_0 hX (by omega)) (by decide) ?_
  refine ev_iload_n dX12_likes_33 rfl ?_
  refine ev_iconst (v := 5) dX12_likes_34 ki_5 ?_
  refine ev_iload_n dX12_likes_35 rfl ?_
  refine ev_iadd dX12_likes_36 ?_
  refine e_Si (as := [.int (nI v1), .int (5 + (nI v2))]) (rest := [.ref 134]) dX12_likes_37 vX12_ofFamily ml_12_99 stX12_ofFamily npX12_ofFamily (by decide) rfl (Nat.le_of_ble_eq_true rfl) (by omega) (c_X12_ofFamily (d := d - 1) (by omega) (by omega) hX ) ?_
  refine ev_iald dX12_likes_40 (by omega) ly_134 (by show (nI 448 + (nI 15 * nI v1)) + (nI 5 + nI v2) = nI ((448 + (15 * v1)) + (5 + v2)); simp only [pk_mul, nI_add]) b0 ?_
  refine ev_istore dX12_likes_41 (by decide) ?_
  refine ev_aload_n dX12_likes_43 rfl ?_
  refine ev_getS (q := 134) dX12_likes_44 fo_12_9 (by omega) lo_133 rfl (sh_133_0 hX (by omega)) (by decide) ?_
  refine ev_iload_n dX12_likes_47 rfl ?_
  refine ev_iconst (v := 5) dX12_likes_48 ki_5 ?_
  refine ev_iload_n dX12_likes_49 rfl ?_
  refine ev_iadd dX12_likes_50 ?_
  refine e_Si (as := [.int (nI v1), .int (5 + (nI v2))]) (rest := [.ref 134]) dX12_likes_51 vX12_ofFamily ml_12_99 stX12_ofFamily npX12_ofFamily (by decide) rfl (Nat.le_of_ble_eq_true rfl) (by omega) (c_X12_ofFamily (d := d - 1) (by omega) (by omega) hX ) ?_
  refine ev_iload_n dX12_likes_54 rfl ?_
  refine ev_iast dX12_likes_55 (by omega) ly_134 (by show (nI 448 + (nI 15 * nI v1)) + (nI 5 + nI v2) = nI ((448 + (15 * v1)) + (5 + v2)); simp only [pk_mul, nI_add]) b0 ?_
  have hX1 : Sh _ (lx_up X 134 ((448 + (15 * v1)) + (5 + v2)) v3) := Sh.upA hX (by rw [ly_134]; exact (by decide : 0 < 2))
  refine ev_iload dX12_likes_56 rfl ?_
  exact ev_iret dX12_likes_58 rfl rfl hp
theorem bX12_likes_0_1 {g : GG} {d n : Nat} {post : Option Value → LX → Prop} {X : LX} (hd : 2 ≤ d) (hn : 146 ≤ n) (hX : Sh n X) {v1 : Int32} {v2 : Int32} {v3 : Int32} (c0 : 0 ≤ v1 ∧ v1 ≤ X 134 6 - 1) (c1 : 0 ≤ v2 ∧ v2 ≤ X 134 5 - 1) (c2 : ¬ (0 ≤ v3 ∧ v3 ≤ 9)) (hp : post (some (.int (-1000000001))) X) : Ev g mX12_likes d n n post n 0 [some (.ref 133), some (.int v1), some (.int v2), some (.int v3), none] [] X := by
  refine ev_aload_n dX12_likes_0 rfl ?_
  refine ev_iload_n dX12_likes_1 rfl ?_
  refine e_Vi (as := [.int v1]) (rest := []) dX12_likes_2 vX12_isFamily ml_12_102 isX12_isFamily seX12_isFamily npX12_isFamily (rc_133 (by omega)) (by decide) rfl (Nat.le_of_ble_eq_true rfl) (by omega) (t_X12_isFamily (d := d - 1) (by omega) (by omega) hX c0) ?_
  refine ev_ifF (tgt := 26) dX12_likes_5 (by decide) (by show ¬ (1 : Int32) = 0; decide) ?_
  refine ev_aload_n dX12_likes_8 rfl ?_
  refine ev_iload_n dX12_likes_9 rfl ?_
  refine e_Vi (as := [.int v2]) (rest := []) dX12_likes_10 vX12_isMeal ml_12_70 isX12_isMeal seX12_isMeal npX12_isMeal (rc_133 (by omega)) (by decide) rfl (Nat.le_of_ble_eq_true rfl) (by omega) (t_X12_isMeal (d := d - 1) (by omega) (by omega) hX c1) ?_
  refine ev_ifF (tgt := 26) dX12_likes_13 (by decide) (by show ¬ (1 : Int32) = 0; decide) ?_
  refine ev_iload_n dX12_likes_16 rfl ?_
  refine ev_iconst (v := 0) dX12_likes_17 ki_0 ?_
  refine ev_bipush (v := 9) dX12_likes_18 kb_9 ?_
  refine e_Si (as := [.int v3, .int 0, .int 9]) (rest := []) dX12_likes_20 vX12_within ml_12_52 stX12_within npX12_within (by decide) rfl (Nat.le_of_ble_eq_true rfl) (by omega) (f_X12_within (d := d - 1) (by omega) (by omega) hX c2) ?_
  refine ev_ifF (tgt := 29) dX12_likes_23 (by decide) (by show (0 : Int32) = 0; decide) ?_
  refine ev_ldc (v := (-1000000001)) dX12_likes_26 kw_12_57 ?_
  exact ev_iret dX12_likes_28 rfl rfl hp
theorem bX12_likes_0_2 {g : GG} {d n : Nat} {post : Option Value → LX → Prop} {X : LX} (hd : 2 ≤ d) (hn : 146 ≤ n) (hX : Sh n X) {v1 : Int32} {v2 : Int32} {v3 : Int32} (c0 : 0 ≤ v1 ∧ v1 ≤ X 134 6 - 1) (c1 : ¬ (0 ≤ v2 ∧ v2 ≤ X 134 5 - 1)) (hp : post (some (.int (-1000000001))) X) : Ev g mX12_likes d n n post n 0 [some (.ref 133), some (.int v1), some (.int v2), some (.int v3), none] [] X := by
  refine ev_aload_n dX12_likes_0 rfl ?_
  refine ev_iload_n dX12_likes_1 rfl ?_
  refine e_Vi (as := [.int v1]) (rest := []) dX12_likes_2 vX12_isFamily ml_12_102 isX12_isFamily seX12_isFamily npX12_isFamily (rc_133 (by omega)) (by decide) rfl (Nat.le_of_ble_eq_true rfl) (by omega) (t_X12_isFamily (d := d - 1) (by omega) (by omega) hX c0) ?_
  refine ev_ifF (tgt := 26) dX12_likes_5 (by decide) (by show ¬ (1 : Int32) = 0; decide) ?_
  refine ev_aload_n dX12_likes_8 rfl ?_
  refine ev_iload_n dX12_likes_9 rfl ?_
  refine e_Vi (as := [.int v2]) (rest := []) dX12_likes_10 vX12_isMeal ml_12_70 isX12_isMeal seX12_isMeal npX12_isMeal (rc_133 (by omega)) (by decide) rfl (Nat.le_of_ble_eq_true rfl) (by omega) (f_X12_isMeal (d := d - 1) (by omega) (by omega) hX c1) ?_
  refine ev_ifT (tgt := 26) dX12_likes_13 (by decide) (by show (0 : Int32) = 0; decide) ?_
  refine ev_ldc (v := (-1000000001)) dX12_likes_26 kw_12_57 ?_
  exact ev_iret dX12_likes_28 rfl rfl hp
theorem bX12_likes_0_3 {g : GG} {d n : Nat} {post : Option Value → LX → Prop} {X : LX} (hd : 2 ≤ d) (hn : 146 ≤ n) (hX : Sh n X) {v1 : Int32} {v2 : Int32} {v3 : Int32} (c0 : ¬ (0 ≤ v1 ∧ v1 ≤ X 134 6 - 1)) (hp : post (some (.int (-1000000001))) X) : Ev g mX12_likes d n n post n 0 [some (.ref 133), some (.int v1), some (.int v2), some (.int v3), none] [] X := by
  refine ev_aload_n dX12_likes_0 rfl ?_
  refine ev_iload_n dX12_likes_1 rfl ?_
  refine e_Vi (as := [.int v1]) (rest := []) dX12_likes_2 vX12_isFamily ml_12_102 isX12_isFamily seX12_isFamily npX12_isFamily (rc_133 (by omega)) (by decide) rfl (Nat.le_of_ble_eq_true rfl) (by omega) (f_X12_isFamily (d := d - 1) (by omega) (by omega) hX c0) ?_
  refine ev_ifT (tgt := 26) dX12_likes_5 (by decide) (by show (0 : Int32) = 0; decide) ?_
  refine ev_ldc (v := (-1000000001)) dX12_likes_26 kw_12_57 ?_
  exact ev_iret dX12_likes_28 rfl rfl hp
theorem bX11_box_0_0 {g : GG} {d n : Nat} {post : Option Value → LX → Prop} {X : LX} (hd : 4 ≤ d) (hn : 146 ≤ n) (hX : Sh n X) {v1 : Nat} {v2 : Int32} (c0 : 0 ≤ (nI v1) ∧ (nI v1) < X 37 0) (c1 : 0 ≤ v2 ∧ v2 ≤ (X 1 5)) (c2 : v2 = X 1 5) (c3 : v1 < 12) (c4 : okK X) (hp : post (some (.int (cBox X v1))) X) : Ev g mX11_box d n n post n 0 [some (.ref 0), some (.int (nI v1)), some (.int v2)] [] X := by
  refine ev_aload_n dX11_box_0 rfl ?_
  refine ev_getS (q := 1) dX11_box_1 fo_11_10 (by omega) lo_0 rfl (sh_0_0 hX (by omega)) (by decide) ?_
  refine ev_getS (q := 37) dX11_box_4 fo_11_144 (by omega) lo_1 rfl (sh_1_2 hX (by omega)) (by decide) ?_
  refine ev_iload_n dX11_box_7 rfl ?_
  refine e_Vi (as := [.int (nI v1)]) (rest := []) dX11_box_8 vX0_has ml_11_163 isX0_has seX0_has npX0_has (rc_37 (by omega)) (by decide) rfl (Nat.le_of_ble_eq_true rfl) (by omega) (t_X0_has (d := d - 1) (by omega) (by omega) hX c0) ?_
  refine ev_ifF (tgt := 29) dX11_box_11 (by decide) (by show ¬ (1 : Int32) = 0; decide) ?_
  refine ev_iload_n dX11_box_14 rfl ?_
  refine ev_iconst (v := 0) dX11_box_15 ki_0 ?_
  refine ev_aload_n dX11_box_16 rfl ?_
  refine ev_getS (q := 1) dX11_box_17 fo_11_10 (by omega) lo_0 rfl (sh_0_0 hX (by omega)) (by decide) ?_
  refine ev_getI dX11_box_20 fo_11_203 (by omega) lo_1 rfl ?_
  refine e_Si (as := [.int v2, .int 0, .int (X 1 5)]) (rest := []) dX11_box_23 vX11_isIn ml_11_57 stX11_isIn npX11_isIn (by decide) rfl (Nat.le_of_ble_eq_true rfl) (by omega) (t_X11_isIn (d := d - 1) (by omega) (by omega) hX c1) ?_
  refine ev_ifT (tgt := 32) dX11_box_26 (by decide) (by show ¬ (1 : Int32) = 0; decide) ?_
  refine ev_iload_n dX11_box_32 rfl ?_
  refine ev_aload_n dX11_box_33 rfl ?_
  refine ev_getS (q := 1) dX11_box_34 fo_11_10 (by omega) lo_0 rfl (sh_0_0 hX (by omega)) (by decide) ?_
  refine ev_getI dX11_box_37 fo_11_203 (by omega) lo_1 rfl ?_
  refine ev_icmpF (tgt := 54) dX11_box_40 (by decide) c2 ?_
  refine ev_aload_n dX11_box_43 rfl ?_
  refine ev_getS (q := 1) dX11_box_44 fo_11_10 (by omega) lo_0 rfl (sh_0_0 hX (by omega)) (by decide) ?_
  refine ev_iload_n dX11_box_47 rfl ?_
  refine e_Vi (as := [.int (nI v1)]) (rest := []) dX11_box_48 vX1_boxToday ml_11_206 isX1_boxToday seX1_boxToday npX1_boxToday (rc_1 (by omega)) (by decide) rfl (Nat.le_of_ble_eq_true rfl) (by omega) (k_X1_boxToday (d := d - 1) (by omega) (by omega) hX c3 c4) ?_
  refine ev_goto (tgt := 68) dX11_box_51 (by decide) ?_
  exact ev_iret dX11_box_68 rfl rfl hp
theorem bX11_box_0_1 {g : GG} {d n : Nat} {post : Option Value → LX → Prop} {X : LX} (hd : 1 ≤ d) (hn : 146 ≤ n) (hX : Sh n X) {v1 : Nat} {v2 : Nat} (c0 : 0 ≤ (nI v1) ∧ (nI v1) < X 37 0) (c1 : 0 ≤ (nI v2) ∧ (nI v2) ≤ (X 1 5)) (c2 : ¬ nI v2 = X 1 5) (b0 : v1 < 12) (b1 : v2 < 100) (hp : post (some (.int (X (56 + 1 + v1) v2))) X) : Ev g mX11_box d n n post n 0 [some (.ref 0), some (.int (nI v1)), some (.int (nI v2))] [] X := by
  refine ev_aload_n dX11_box_0 rfl ?_
  refine ev_getS (q := 1) dX11_box_1 fo_11_10 (by omega) lo_0 rfl (sh_0_0 hX (by omega)) (by decide) ?_
  refine ev_getS (q := 37) dX11_box_4 fo_11_144 (by omega) lo_1 rfl (sh_1_2 hX (by omega)) (by decide) ?_
  refine ev_iload_n dX11_box_7 rfl ?_
  refine e_Vi (as := [.int (nI v1)]) (rest := []) dX11_box_8 vX0_has ml_11_163 isX0_has seX0_has npX0_has (rc_37 (by omega)) (by decide) rfl (Nat.le_of_ble_eq_true rfl) (by omega) (t_X0_has (d := d - 1) (by omega) (by omega) hX c0) ?_
  refine ev_ifF (tgt := 29) dX11_box_11 (by decide) (by show ¬ (1 : Int32) = 0; decide) ?_
  refine ev_iload_n dX11_box_14 rfl ?_
  refine ev_iconst (v := 0) dX11_box_15 ki_0 ?_
  refine ev_aload_n dX11_box_16 rfl ?_
  refine ev_getS (q := 1) dX11_box_17 fo_11_10 (by omega) lo_0 rfl (sh_0_0 hX (by omega)) (by decide) ?_
  refine ev_getI dX11_box_20 fo_11_203 (by omega) lo_1 rfl ?_
  refine e_Si (as := [.int (nI v2), .int 0, .int (X 1 5)]) (rest := []) dX11_box_23 vX11_isIn ml_11_57 stX11_isIn npX11_isIn (by decide) rfl (Nat.le_of_ble_eq_true rfl) (by omega) (t_X11_isIn (d := d - 1) (by omega) (by omega) hX c1) ?_
  refine ev_ifT (tgt := 32) dX11_box_26 (by decide) (by show ¬ (1 : Int32) = 0; decide) ?_
  refine ev_iload_n dX11_box_32 rfl ?_
  refine ev_aload_n dX11_box_33 rfl ?_
  refine ev_getS (q := 1) dX11_box_34 fo_11_10 (by omega) lo_0 rfl (sh_0_0 hX (by omega)) (by decide) ?_
  refine ev_getI dX11_box_37 fo_11_203 (by omega) lo_1 rfl ?_
  refine ev_icmpT (tgt := 54) dX11_box_40 (by decide) c2 ?_
  refine ev_aload_n dX11_box_54 rfl ?_
  refine ev_getS (q := 1) dX11_box_55 fo_11_10 (by omega) lo_0 rfl (sh_0_0 hX (by omega)) (by decide) ?_
  refine ev_getS (q := 37) dX11_box_58 fo_11_144 (by omega) lo_1 rfl (sh_1_2 hX (by omega)) (by decide) ?_
  refine ev_getS (q := 56) dX11_box_61 fo_11_209 (by omega) lo_37 rfl (sh_37_7 hX (by omega)) (by decide) ?_
  refine ev_iload_n dX11_box_64 rfl ?_
  refine ev_aald (q := 56 + 1 + v1) dX11_box_65 (by omega) (Or.inl ly_56) rfl b0 (hX.2 56 v1 (by omega) (Or.inl (by rw [ly_56])) (by rw [ly_56]; exact b0)) (by first | omega | (have := LY_l ly_56; have := LY_lt (show (LY 56).1 < 99 by rw [ly_56]; exact (by decide : 2 < 99)); omega)) ?_
  refine ev_iload_n dX11_box_66 rfl ?_
  refine ev_iald dX11_box_67 (by have := b0; omega) (lyr_56 _ b0) rfl b1 ?_
  exact ev_iret dX11_box_68 rfl rfl hp
theorem bX11_box_0_2 {g : GG} {d n : Nat} {post : Option Value → LX → Prop} {X : LX} (hd : 1 ≤ d) (hn : 146 ≤ n) (hX : Sh n X) {v1 : Int32} {v2 : Int32} (c0 : 0 ≤ v1 ∧ v1 < X 37 0) (c1 : ¬ (0 ≤ v2 ∧ v2 ≤ (X 1 5))) (hp : post (some (.int (-1000000001))) X) : Ev g mX11_box d n n post n 0 [some (.ref 0), some (.int v1), some (.int v2)] [] X := by
  refine ev_aload_n dX11_box_0 rfl ?_
  refine ev_getS (q := 1) dX11_box_1 fo_11_10 (by omega) lo_0 rfl (sh_0_0 hX (by omega)) (by decide) ?_
  refine ev_getS (q := 37) dX11_box_4 fo_11_144 (by omega) lo_1 rfl (sh_1_2 hX (by omega)) (by decide) ?_
  refine ev_iload_n dX11_box_7 rfl ?_
  refine e_Vi (as := [.int v1]) (rest := []) dX11_box_8 vX0_has ml_11_163 isX0_has seX0_has npX0_has (rc_37 (by omega)) (by decide) rfl (Nat.le_of_ble_eq_true rfl) (by omega) (t_X0_has (d := d - 1) (by omega) (by omega) hX c0) ?_
  refine ev_ifF (tgt := 29) dX11_box_11 (by decide) (by show ¬ (1 : Int32) = 0; decide) ?_
  refine ev_iload_n dX11_box_14 rfl ?_
  refine ev_iconst (v := 0) dX11_box_15 ki_0 ?_
  refine ev_aload_n dX11_box_16 rfl ?_
  refine ev_getS (q := 1) dX11_box_17 fo_11_10 (by omega) lo_0 rfl (sh_0_0 hX (by omega)) (by decide) ?_
  refine ev_getI dX11_box_20 fo_11_203 (by omega) lo_1 rfl ?_
  refine e_Si (as := [.int v2, .int 0, .int (X 1 5)]) (rest := []) dX11_box_23 vX11_isIn ml_11_57 stX11_isIn npX11_isIn (by decide) rfl (Nat.le_of_ble_eq_true rfl) (by omega) (f_X11_isIn (d := d - 1) (by omega) (by omega) hX c1) ?_
  refine ev_ifF (tgt := 32) dX11_box_26 (by decide) (by show (0 : Int32) = 0; decide) ?_
  refine ev_ldc (v := (-1000000001)) dX11_box_29 kw_11_61 ?_
  exact ev_iret dX11_box_31 rfl rfl hp
theorem bX11_box_0_3 {g : GG} {d n : Nat} {post : Option Value → LX → Prop} {X : LX} (hd : 1 ≤ d) (hn : 146 ≤ n) (hX : Sh n X) {v1 : Int32} {v2 : Int32} (c0 : ¬ (0 ≤ v1 ∧ v1 < X 37 0)) (hp : post (some (.int (-1000000001))) X) : Ev g mX11_box d n n post n 0 [some (.ref 0), some (.int v1), some (.int v2)] [] X := by
  refine ev_aload_n dX11_box_0 rfl ?_
  refine ev_getS (q := 1) dX11_box_1 fo_11_10 (by omega) lo_0 rfl (sh_0_0 hX (by omega)) (by decide) ?_
  refine ev_getS (q := 37) dX11_box_4 fo_11_144 (by omega) lo_1 rfl (sh_1_2 hX (by omega)) (by decide) ?_
  refine ev_iload_n dX11_box_7 rfl ?_
  refine e_Vi (as := [.int v1]) (rest := []) dX11_box_8 vX0_has ml_11_163 isX0_has seX0_has npX0_has (rc_37 (by omega)) (by decide) rfl (Nat.le_of_ble_eq_true rfl) (by omega) (f_X0_has (d := d - 1) (by omega) (by omega) hX c0) ?_
  refine ev_ifT (tgt := 29) dX11_box_11 (by decide) (by show (0 : Int32) = 0; decide) ?_
  refine ev_ldc (v := (-1000000001)) dX11_box_29 kw_11_61 ?_
  exact ev_iret dX11_box_31 rfl rfl hp
theorem bX12_box_0_0 {g : GG} {d n : Nat} {post : Option Value → LX → Prop} {X : LX} (hd : 5 ≤ d) (hn : 146 ≤ n) (hX : Sh n X) {v1 : Nat} {v2 : Int32} (c0 : 0 ≤ (nI v1) ∧ (nI v1) ≤ X 134 6 - 1) (c1 : 0 ≤ v2 ∧ v2 ≤ (X 134 0)) (c2 : v2 = X 134 0) (c3 : v1 < 12) (c4 : okN X) (hp : post (some (.int (mBox X v1))) X) : Ev g mX12_box d n n post n 0 [some (.ref 133), some (.int (nI v1)), some (.int v2)] [] X := by
  refine ev_aload_n dX12_box_0 rfl ?_
  refine ev_iload_n dX12_box_1 rfl ?_
  refine e_Vi (as := [.int (nI v1)]) (rest := []) dX12_box_2 vX12_isFamily ml_12_102 isX12_isFamily seX12_isFamily npX12_isFamily (rc_133 (by omega)) (by decide) rfl (Nat.le_of_ble_eq_true rfl) (by omega) (t_X12_isFamily (d := d - 1) (by omega) (by omega) hX c0) ?_
  refine ev_ifF (tgt := 22) dX12_box_5 (by decide) (by show ¬ (1 : Int32) = 0; decide) ?_
  refine ev_iload_n dX12_box_8 rfl ?_
  refine ev_iconst (v := 0) dX12_box_9 ki_0 ?_
  refine ev_aload_n dX12_box_10 rfl ?_
  refine ev_getS (q := 134) dX12_box_11 fo_12_9 (by omega) lo_133 rfl (sh_133_0 hX (by omega)) (by decide) ?_
  refine ev_iconst (v := 0) dX12_box_14 ki_0 ?_
  refine ev_iald dX12_box_15 (by omega) ly_134 nIl_0 (by decide) ?_
  refine e_Si (as := [.int v2, .int 0, .int (X 134 0)]) (rest := []) dX12_box_16 vX12_within ml_12_52 stX12_within npX12_within (by decide) rfl (Nat.le_of_ble_eq_true rfl) (by omega) (t_X12_within (d := d - 1) (by omega) (by omega) hX c1) ?_
  refine ev_ifT (tgt := 25) dX12_box_19 (by decide) (by show ¬ (1 : Int32) = 0; decide) ?_
  refine ev_iload_n dX12_box_25 rfl ?_
  refine ev_aload_n dX12_box_26 rfl ?_
  refine ev_getS (q := 134) dX12_box_27 fo_12_9 (by omega) lo_133 rfl (sh_133_0 hX (by omega)) (by decide) ?_
  refine ev_iconst (v := 0) dX12_box_30 ki_0 ?_
  refine ev_iald dX12_box_31 (by omega) ly_134 nIl_0 (by decide) ?_
  refine ev_icmpF (tgt := 43) dX12_box_32 (by decide) c2 ?_
  refine ev_aload_n dX12_box_35 rfl ?_
  refine ev_iload_n dX12_box_36 rfl ?_
  refine e_Vi (as := [.int (nI v1)]) (rest := []) dX12_box_37 vX12_boxToday ml_12_115 isX12_boxToday seX12_boxToday npX12_boxToday (rc_133 (by omega)) (by decide) rfl (Nat.le_of_ble_eq_true rfl) (by omega) (k_X12_boxToday (d := d - 1) (by omega) (by omega) hX c3 c4) ?_
  refine ev_goto (tgt := 58) dX12_box_40 (by decide) ?_
  exact ev_iret dX12_box_58 rfl rfl hp
theorem bX12_box_0_1 {g : GG} {d n : Nat} {post : Option Value → LX → Prop} {X : LX} (hd : 2 ≤ d) (hn : 146 ≤ n) (hX : Sh n X) {v1 : Nat} {v2 : Nat} (c0 : 0 ≤ (nI v1) ∧ (nI v1) ≤ X 134 6 - 1) (c1 : 0 ≤ (nI v2) ∧ (nI v2) ≤ (X 134 0)) (c2 : ¬ nI v2 = X 134 0) (b0 : ((828 + (12 * v2)) + v1) < 2156) (hp : post (some (.int (X 134 ((828 + (12 * v2)) + v1)))) X) : Ev g mX12_box d n n post n 0 [some (.ref 133), some (.int (nI v1)), some (.int (nI v2))] [] X := by
  refine ev_aload_n dX12_box_0 rfl ?_
  refine ev_iload_n dX12_box_1 rfl ?_
  refine e_Vi (as := [.int (nI v1)]) (rest := []) dX12_box_2 vX12_isFamily ml_12_102 isX12_isFamily seX12_isFamily npX12_isFamily (rc_133 (by omega)) (by decide) rfl (Nat.le_of_ble_eq_true rfl) (by omega) (t_X12_isFamily (d := d - 1) (by omega) (by omega) hX c0) ?_
  refine ev_ifF (tgt := 22) dX12_box_5 (by decide) (by show ¬ (1 : Int32) = 0; decide) ?_
  refine ev_iload_n dX12_box_8 rfl ?_
  refine ev_iconst (v := 0) dX12_box_9 ki_0 ?_
  refine ev_aload_n dX12_box_10 rfl ?_
  refine ev_getS (q := 134) dX12_box_11 fo_12_9 (by omega) lo_133 rfl (sh_133_0 hX (by omega)) (by decide) ?_
  refine ev_iconst (v := 0) dX12_box_14 ki_0 ?_
  refine ev_iald dX12_box_15 (by omega) ly_134 nIl_0 (by decide) ?_
  refine e_Si (as := [.int (nI v2), .int 0, .int (X 134 0)]) (rest := []) dX12_box_16 vX12_within ml_12_52 stX12_within npX12_within (by decide) rfl (Nat.le_of_ble_eq_true rfl) (by omega) (t_X12_within (d := d - 1) (by omega) (by omega) hX c1) ?_
  refine ev_ifT (tgt := 25) dX12_box_19 (by decide) (by show ¬ (1 : Int32) = 0; decide) ?_
  refine ev_iload_n dX12_box_25 rfl ?_
  refine ev_aload_n dX12_box_26 rfl ?_
  refine ev_getS (q := 134) dX12_box_27 fo_12_9 (by omega) lo_133 rfl (sh_133_0 hX (by omega)) (by decide) ?_
  refine ev_iconst (v := 0) dX12_box_30 ki_0 ?_
  refine ev_iald dX12_box_31 (by omega) ly_134 nIl_0 (by decide) ?_
  refine ev_icmpT (tgt := 43) dX12_box_32 (by decide) c2 ?_
  refine ev_aload_n dX12_box_43 rfl ?_
  refine ev_getS (q := 134) dX12_box_44 fo_12_9 (by omega) lo_133 rfl (sh_133_0 hX (by omega)) (by decide) ?_
  refine ev_sipush (v := 828) dX12_box_47 ks_828 ?_
  refine ev_bipush (v := 12) dX12_box_50 kb_12 ?_
  refine ev_iload_n dX12_box_52 rfl ?_
  refine ev_imul dX12_box_53 ?_
  refine ev_iadd dX12_box_54 ?_
  refine ev_iload_n dX12_box_55 rfl ?_
  refine ev_iadd dX12_box_56 ?_
  refine ev_iald dX12_box_57 (by omega) ly_134 (by show (nI 828 + (nI 12 * nI v2)) + nI v1 = nI ((828 + (12 * v2)) + v1); simp only [pk_mul, nI_add]) b0 ?_
  exact ev_iret dX12_box_58 rfl rfl hp
theorem bX12_box_0_2 {g : GG} {d n : Nat} {post : Option Value → LX → Prop} {X : LX} (hd : 2 ≤ d) (hn : 146 ≤ n) (hX : Sh n X) {v1 : Int32} {v2 : Int32} (c0 : 0 ≤ v1 ∧ v1 ≤ X 134 6 - 1) (c1 : ¬ (0 ≤ v2 ∧ v2 ≤ (X 134 0))) (hp : post (some (.int (-1000000001))) X) : Ev g mX12_box d n n post n 0 [some (.ref 133), some (.int v1), some (.int v2)] [] X := by
  refine ev_aload_n dX12_box_0 rfl ?_
  refine ev_iload_n dX12_box_1 rfl ?_
  refine e_Vi (as := [.int v1]) (rest := []) dX12_box_2 vX12_isFamily ml_12_102 isX12_isFamily seX12_isFamily npX12_isFamily (rc_133 (by omega)) (by decide) rfl (Nat.le_of_ble_eq_true rfl) (by omega) (t_X12_isFamily (d := d - 1) (by omega) (by omega) hX c0) ?_
  refine ev_ifF (tgt := 22) dX12_box_5 (by decide) (by show ¬ (1 : Int32) = 0; decide) ?_
  refine ev_iload_n dX12_box_8 rfl ?_
  refine ev_iconst (v := 0) dX12_box_9 ki_0 ?_
  refine ev_aload_n dX12_box_10 rfl ?_
  refine ev_getS (q := 134) dX12_box_11 fo_12_9 (by omega) lo_133 rfl (sh_133_0 hX (by omega)) (by decide) ?_
  refine ev_iconst (v := 0) dX12_box_14 ki_0 ?_
  refine ev_iald dX12_box_15 (by omega) ly_134 nIl_0 (by decide) ?_
  refine e_Si (as := [.int v2, .int 0, .int (X 134 0)]) (rest := []) dX12_box_16 vX12_within ml_12_52 stX12_within npX12_within (by decide) rfl (Nat.le_of_ble_eq_true rfl) (by omega) (f_X12_within (d := d - 1) (by omega) (by omega) hX c1) ?_
  refine ev_ifF (tgt := 25) dX12_box_19 (by decide) (by show (0 : Int32) = 0; decide) ?_
  refine ev_ldc (v := (-1000000001)) dX12_box_22 kw_12_57 ?_
  exact ev_iret dX12_box_24 rfl rfl hp
theorem bX12_box_0_3 {g : GG} {d n : Nat} {post : Option Value → LX → Prop} {X : LX} (hd : 2 ≤ d) (hn : 146 ≤ n) (hX : Sh n X) {v1 : Int32} {v2 : Int32} (c0 : ¬ (0 ≤ v1 ∧ v1 ≤ X 134 6 - 1)) (hp : post (some (.int (-1000000001))) X) : Ev g mX12_box d n n post n 0 [some (.ref 133), some (.int v1), some (.int v2)] [] X := by
  refine ev_aload_n dX12_box_0 rfl ?_
  refine ev_iload_n dX12_box_1 rfl ?_
  refine e_Vi (as := [.int v1]) (rest := []) dX12_box_2 vX12_isFamily ml_12_102 isX12_isFamily seX12_isFamily npX12_isFamily (rc_133 (by omega)) (by decide) rfl (Nat.le_of_ble_eq_true rfl) (by omega) (f_X12_isFamily (d := d - 1) (by omega) (by omega) hX c0) ?_
  refine ev_ifT (tgt := 22) dX12_box_5 (by decide) (by show (0 : Int32) = 0; decide) ?_
  refine ev_ldc (v := (-1000000001)) dX12_box_22 kw_12_57 ?_
  exact ev_iret dX12_box_24 rfl rfl hp
theorem bX11_lot_0_0 {g : GG} {d n : Nat} {post : Option Value → LX → Prop} {X : LX} (hd : 1 ≤ d) (hn : 146 ≤ n) (hX : Sh n X) {v1 : Int32} {v2 : Int32} (c0 : 0 ≤ v1 ∧ v1 < X 2 0) (c1 : 1 ≤ v2 ∧ v2 ≤ 99999) (c2 : ¬ X 69 0 < 40) (hp : post (some (.int (-1000000003))) X) : Ev g mX11_lot d n n post n 0 [some (.ref 0), some (.int v1), some (.int v2), none, none] [] X := by
  refine ev_aload_n dX11_lot_0 rfl ?_
  refine ev_getS (q := 1) dX11_lot_1 fo_11_10 (by omega) lo_0 rfl (sh_0_0 hX (by omega)) (by decide) ?_
  refine ev_getS (q := 2) dX11_lot_4 fo_11_62 (by omega) lo_1 rfl (sh_1_0 hX (by omega)) (by decide) ?_
  refine ev_iload_n dX11_lot_7 rfl ?_
  refine e_Vi (as := [.int v1]) (rest := []) dX11_lot_8 vX7_has ml_11_88 isX7_has seX7_has npX7_has (rc_2 (by omega)) (by decide) rfl (Nat.le_of_ble_eq_true rfl) (by omega) (t_X7_has (d := d - 1) (by omega) (by omega) hX c0) ?_
  refine ev_ifF (tgt := 25) dX11_lot_11 (by decide) (by show ¬ (1 : Int32) = 0; decide) ?_
  refine ev_iload_n dX11_lot_14 rfl ?_
  refine ev_iconst (v := 1) dX11_lot_15 ki_1 ?_
  refine ev_ldcw (v := 99999) dX11_lot_16 kw_11_277 ?_
  refine e_Si (as := [.int v2, .int 1, .int 99999]) (rest := []) dX11_lot_19 vX11_isIn ml_11_57 stX11_isIn npX11_isIn (by decide) rfl (Nat.le_of_ble_eq_true rfl) (by omega) (t_X11_isIn (d := d - 1) (by omega) (by omega) hX c1) ?_
  refine ev_ifT (tgt := 28) dX11_lot_22 (by decide) (by show ¬ (1 : Int32) = 0; decide) ?_
  refine ev_aload_n dX11_lot_28 rfl ?_
  refine ev_getS (q := 1) dX11_lot_29 fo_11_10 (by omega) lo_0 rfl (sh_0_0 hX (by omega)) (by decide) ?_
  refine ev_getS (q := 69) dX11_lot_32 fo_11_278 (by omega) lo_1 rfl (sh_1_3 hX (by omega)) (by decide) ?_
  refine ev_astore_n dX11_lot_35 (by decide) ?_
  refine ev_aload_n dX11_lot_36 rfl ?_
  refine ev_getI dX11_lot_37 fo_11_282 (by omega) lo_69 rfl ?_
  refine ev_bipush (v := 40) dX11_lot_40 kb_40 ?_
  refine ev_icmpF (tgt := 48) dX11_lot_42 (by decide) c2 ?_
  refine ev_ldc (v := (-1000000003)) dX11_lot_45 kw_11_72 ?_
  exact ev_iret dX11_lot_47 rfl rfl hp
theorem bX11_lot_0_1 {g : GG} {d n : Nat} {post : Option Value → LX → Prop} {X : LX} (hd : 1 ≤ d) (hn : 146 ≤ n) (hX : Sh n X) {v1 : Int32} {v2 : Int32} {j1 : Nat} (c0 : 0 ≤ v1 ∧ v1 < X 2 0) (c1 : 1 ≤ v2 ∧ v2 ≤ 99999) (c2 : X 69 0 < 40) (hj1 : X 69 0 = nI j1) (b0 : j1 < 40) (hp : post (some (.int (X 69 0))) (lx_up (lx_up (lx_up (lx_up (lx_up X 69 0 ((X 69 0) + 1)) 70 j1 v1) 71 j1 v2) 72 j1 (X 1 5)) 73 j1 v2)) : Ev g mX11_lot d n n post n 0 [some (.ref 0), some (.int v1), some (.int v2), none, none] [] X := by
  refine ev_aload_n dX11_lot_0 rfl ?_
  refine ev_getS (q := 1) dX11_lot_1 fo_11_10 (by omega) lo_0 rfl (sh_0_0 hX (by omega)) (by decide) ?_
  refine ev_getS (q := 2) dX11_lot_4 fo_11_62 (by omega) lo_1 rfl (sh_1_0 hX (by omega)) (by decide) ?_
  refine ev_iload_n dX11_lot_7 rfl ?_
  refine e_Vi (as := [.int v1]) (rest := []) dX11_lot_8 vX7_has ml_11_88 isX7_has seX7_has npX7_has (rc_2 (by omega)) (by decide) rfl (Nat.le_of_ble_eq_true rfl) (by omega) (t_X7_has (d := d - 1) (by omega) (by omega) hX c0) ?_
  refine ev_ifF (tgt := 25) dX11_lot_11 (by decide) (by show ¬ (1 : Int32) = 0; decide) ?_
  refine ev_iload_n dX11_lot_14 rfl ?_
  refine ev_iconst (v := 1) dX11_lot_15 ki_1 ?_
  refine ev_ldcw (v := 99999) dX11_lot_16 kw_11_277 ?_
  refine e_Si (as := [.int v2, .int 1, .int 99999]) (rest := []) dX11_lot_19 vX11_isIn ml_11_57 stX11_isIn npX11_isIn (by decide) rfl (Nat.le_of_ble_eq_true rfl) (by omega) (t_X11_isIn (d := d - 1) (by omega) (by omega) hX c1) ?_
  refine ev_ifT (tgt := 28) dX11_lot_22 (by decide) (by show ¬ (1 : Int32) = 0; decide) ?_
  refine ev_aload_n dX11_lot_28 rfl ?_
  refine ev_getS (q := 1) dX11_lot_29 fo_11_10 (by omega) lo_0 rfl (sh_0_0 hX (by omega)) (by decide) ?_
  refine ev_getS (q := 69) dX11_lot_32 fo_11_278 (by omega) lo_1 rfl (sh_1_3 hX (by omega)) (by decide) ?_
  refine ev_astore_n dX11_lot_35 (by decide) ?_
  refine ev_aload_n dX11_lot_36 rfl ?_
  refine ev_getI dX11_lot_37 fo_11_282 (by omega) lo_69 rfl ?_
  refine ev_bipush (v := 40) dX11_lot_40 kb_40 ?_
  refine ev_icmpT (tgt := 48) dX11_lot_42 (by decide) c2 ?_
  refine ev_aload_n dX11_lot_48 rfl ?_
  refine ev_dup dX11_lot_49 rfl ?_
  refine ev_getI dX11_lot_50 fo_11_282 (by omega) lo_69 rfl ?_
  refine ev_dup_x1 dX11_lot_53 rfl rfl ?_
  refine ev_iconst (v := 1) dX11_lot_54 ki_1 ?_
  refine ev_iadd dX11_lot_55 ?_
  refine ev_putI dX11_lot_56 fo_11_282 (by omega) lo_69 rfl rfl rfl ?_
  have hX1 : Sh _ (lx_up X 69 0 ((X 69 0) + 1)) := Sh.upF hX (by rw [lo_69]; decide) (by decide)
  refine ev_istore dX11_lot_59 (by decide) ?_
  refine ev_aload_n dX11_lot_61 rfl ?_
  refine ev_getS (q := 70) dX11_lot_62 fo_11_285 (by omega) lo_69 rfl (sh_69_1 hX1 (by omega)) (by decide) ?_
  refine ev_iload dX11_lot_65 rfl ?_
  refine ev_iload_n dX11_lot_67 rfl ?_
  refine ev_iast dX11_lot_68 (by omega) ly_70 hj1 b0 ?_
  have hX2 : Sh _ (lx_up (lx_up X 69 0 ((X 69 0) + 1)) 70 j1 v1) := Sh.upA hX1 (by rw [ly_70]; exact (by decide : 0 < 2))
  refine ev_aload_n dX11_lot_69 rfl ?_
  refine ev_getS (q := 71) dX11_lot_70 fo_11_288 (by omega) lo_69 rfl (sh_69_2 hX2 (by omega)) (by decide) ?_
  refine ev_iload dX11_lot_73 rfl ?_
  refine ev_iload_n dX11_lot_75 rfl ?_
  refine ev_iast dX11_lot_76 (by omega) ly_71 hj1 b0 ?_
  have hX3 : Sh _ (lx_up (lx_up (lx_up X 69 0 ((X 69 0) + 1)) 70 j1 v1) 71 j1 v2) := Sh.upA hX2 (by rw [ly_71]; exact (by decide : 0 < 2))
  refine ev_aload_n dX11_lot_77 rfl ?_
  refine ev_getS (q := 72) dX11_lot_78 fo_11_290 (by omega) lo_69 rfl (sh_69_3 hX3 (by omega)) (by decide) ?_
  refine ev_iload dX11_lot_81 rfl ?_
  refine ev_aload_n dX11_lot_83 rfl ?_
  refine ev_getS (q := 1) dX11_lot_84 fo_11_10 (by omega) lo_0 rfl (sh_0_0 hX3 (by omega)) (by decide) ?_
  refine ev_getI dX11_lot_87 fo_11_203 (by omega) lo_1 rfl ?_
  refine ev_iast dX11_lot_90 (by omega) ly_72 hj1 b0 ?_
  have hX4 : Sh _ (lx_up (lx_up (lx_up (lx_up X 69 0 ((X 69 0) + 1)) 70 j1 v1) 71 j1 v2) 72 j1 (X 1 5)) := Sh.upA hX3 (by rw [ly_72]; exact (by decide : 0 < 2))
  refine ev_aload_n dX11_lot_91 rfl ?_
  refine ev_getS (q := 73) dX11_lot_92 fo_11_293 (by omega) lo_69 rfl (sh_69_4 hX4 (by omega)) (by decide) ?_
  refine ev_iload dX11_lot_95 rfl ?_
  refine ev_iload_n dX11_lot_97 rfl ?_
  refine ev_iast dX11_lot_98 (by omega) ly_73 hj1 b0 ?_
  have hX5 : Sh _ (lx_up (lx_up (lx_up (lx_up (lx_up X 69 0 ((X 69 0) + 1)) 70 j1 v1) 71 j1 v2) 72 j1 (X 1 5)) 73 j1 v2) := Sh.upA hX4 (by rw [ly_73]; exact (by decide : 0 < 2))
  refine ev_iload dX11_lot_99 rfl ?_
  exact ev_iret dX11_lot_101 rfl rfl hp
theorem bX11_lot_0_2 {g : GG} {d n : Nat} {post : Option Value → LX → Prop} {X : LX} (hd : 1 ≤ d) (hn : 146 ≤ n) (hX : Sh n X) {v1 : Int32} {v2 : Int32} (c0 : 0 ≤ v1 ∧ v1 < X 2 0) (c1 : ¬ (1 ≤ v2 ∧ v2 ≤ 99999)) (hp : post (some (.int (-1000000001))) X) : Ev g mX11_lot d n n post n 0 [some (.ref 0), some (.int v1), some (.int v2), none, none] [] X := by
  refine ev_aload_n dX11_lot_0 rfl ?_
  refine ev_getS (q := 1) dX11_lot_1 fo_11_10 (by omega) lo_0 rfl (sh_0_0 hX (by omega)) (by decide) ?_
  refine ev_getS (q := 2) dX11_lot_4 fo_11_62 (by omega) lo_1 rfl (sh_1_0 hX (by omega)) (by decide) ?_
  refine ev_iload_n dX11_lot_7 rfl ?_
  refine e_Vi (as := [.int v1]) (rest := []) dX11_lot_8 vX7_has ml_11_88 isX7_has seX7_has npX7_has (rc_2 (by omega)) (by decide) rfl (Nat.le_of_ble_eq_true rfl) (by omega) (t_X7_has (d := d - 1) (by omega) (by omega) hX c0) ?_
  refine ev_ifF (tgt := 25) dX11_lot_11 (by decide) (by show ¬ (1 : Int32) = 0; decide) ?_
  refine ev_iload_n dX11_lot_14 rfl ?_
  refine ev_iconst (v := 1) dX11_lot_15 ki_1 ?_
  refine ev_ldcw (v := 99999) dX11_lot_16 kw_11_277 ?_
  refine e_Si (as := [.int v2, .int 1, .int 99999]) (rest := []) dX11_lot_19 vX11_isIn ml_11_57 stX11_isIn npX11_isIn (by decide) rfl (Nat.le_of_ble_eq_true rfl) (by omega) (f_X11_isIn (d := d - 1) (by omega) (by omega) hX c1) ?_
  refine ev_ifF (tgt := 28) dX11_lot_22 (by decide) (by show (0 : Int32) = 0; decide) ?_
  refine ev_ldc (v := (-1000000001)) dX11_lot_25 kw_11_61 ?_
  exact ev_iret dX11_lot_27 rfl rfl hp
theorem bX11_lot_0_3 {g : GG} {d n : Nat} {post : Option Value → LX → Prop} {X : LX} (hd : 1 ≤ d) (hn : 146 ≤ n) (hX : Sh n X) {v1 : Int32} {v2 : Int32} (c0 : ¬ (0 ≤ v1 ∧ v1 < X 2 0)) (hp : post (some (.int (-1000000001))) X) : Ev g mX11_lot d n n post n 0 [some (.ref 0), some (.int v1), some (.int v2), none, none] [] X := by
  refine ev_aload_n dX11_lot_0 rfl ?_
  refine ev_getS (q := 1) dX11_lot_1 fo_11_10 (by omega) lo_0 rfl (sh_0_0 hX (by omega)) (by decide) ?_
  refine ev_getS (q := 2) dX11_lot_4 fo_11_62 (by omega) lo_1 rfl (sh_1_0 hX (by omega)) (by decide) ?_
  refine ev_iload_n dX11_lot_7 rfl ?_
  refine e_Vi (as := [.int v1]) (rest := []) dX11_lot_8 vX7_has ml_11_88 isX7_has seX7_has npX7_has (rc_2 (by omega)) (by decide) rfl (Nat.le_of_ble_eq_true rfl) (by omega) (f_X7_has (d := d - 1) (by omega) (by omega) hX c0) ?_
  refine ev_ifT (tgt := 25) dX11_lot_11 (by decide) (by show (0 : Int32) = 0; decide) ?_
  refine ev_ldc (v := (-1000000001)) dX11_lot_25 kw_11_61 ?_
  exact ev_iret dX11_lot_27 rfl rfl hp
theorem bX12_lot_0_0 {g : GG} {d n : Nat} {post : Option Value → LX → Prop} {X : LX} (hd : 2 ≤ d) (hn : 146 ≤ n) (hX : Sh n X) {v1 : Int32} {v2 : Int32} (c0 : 0 ≤ v1 ∧ v1 ≤ X 134 4 - 1) (c1 : 1 ≤ v2 ∧ v2 ≤ 99999) (c2 : X 134 7 = 40) (hp : post (some (.int (-1000000003))) X) : Ev g mX12_lot d n n post n 0 [some (.ref 133), some (.int v1), some (.int v2), none] [] X := by
  refine ev_aload_n dX12_lot_0 rfl ?_
  refine ev_iload_n dX12_lot_1 rfl ?_
  refine e_Vi (as := [.int v1]) (rest := []) dX12_lot_2 vX12_isPart ml_12_63 isX12_isPart seX12_isPart npX12_isPart (rc_133 (by omega)) (by decide) rfl (Nat.le_of_ble_eq_true rfl) (by omega) (t_X12_isPart (d := d - 1) (by omega) (by omega) hX c0) ?_
  refine ev_ifF (tgt := 18) dX12_lot_5 (by decide) (by show ¬ (1 : Int32) = 0; decide) ?_
  refine ev_iload_n dX12_lot_8 rfl ?_
  refine ev_iconst (v := 1) dX12_lot_9 ki_1 ?_
  refine ev_ldc (v := 99999) dX12_lot_10 kw_12_56 ?_
  refine e_Si (as := [.int v2, .int 1, .int 99999]) (rest := []) dX12_lot_12 vX12_within ml_12_52 stX12_within npX12_within (by decide) rfl (Nat.le_of_ble_eq_true rfl) (by omega) (t_X12_within (d := d - 1) (by omega) (by omega) hX c1) ?_
  refine ev_ifT (tgt := 21) dX12_lot_15 (by decide) (by show ¬ (1 : Int32) = 0; decide) ?_
  refine ev_aload_n dX12_lot_21 rfl ?_
  refine ev_getS (q := 134) dX12_lot_22 fo_12_9 (by omega) lo_133 rfl (sh_133_0 hX (by omega)) (by decide) ?_
  refine ev_bipush (v := 7) dX12_lot_25 kb_7 ?_
  refine ev_iald dX12_lot_27 (by omega) ly_134 nIl_7 (by decide) ?_
  refine ev_istore_n dX12_lot_28 (by decide) ?_
  refine ev_iload_n dX12_lot_29 rfl ?_
  refine ev_bipush (v := 40) dX12_lot_30 kb_40 ?_
  refine ev_icmpF (tgt := 38) dX12_lot_32 (by decide) c2 ?_
  refine ev_ldc (v := (-1000000003)) dX12_lot_35 kw_12_58 ?_
  exact ev_iret dX12_lot_37 rfl rfl hp
theorem bX12_lot_0_1 {g : GG} {d n : Nat} {post : Option Value → LX → Prop} {X : LX} (hd : 2 ≤ d) (hn : 146 ≤ n) (hX : Sh n X) {v1 : Nat} {v2 : Int32} {j1 : Nat} (c0 : 0 ≤ (nI v1) ∧ (nI v1) ≤ X 134 4 - 1) (c1 : 1 ≤ v2 ∧ v2 ≤ 99999) (c2 : ¬ X 134 7 = 40) (hj1 : X 134 7 = nI j1) (b0 : ((628 + (5 * j1)) + 0) < 2156) (b1 : ((628 + (5 * j1)) + 1) < 2156) (b2 : ((628 + (5 * j1)) + 2) < 2156) (b3 : ((628 + (5 * j1)) + 3) < 2156) (b4 : ((628 + (5 * j1)) + 4) < 2156) (b5 : ((10 + (8 * v1)) + 5) < 2156) (hp : post (some (.int (X 134 7))) (lx_up (lx_up (lx_up (lx_up (lx_up (lx_up (lx_up X 134 ((628 + (5 * j1)) + 0) (nI v1)) 134 ((628 + (5 * j1)) + 1) v2) 134 ((628 + (5 * j1)) + 2) ((lx_up (lx_up X 134 ((628 + (5 * j1)) + 0) (nI v1)) 134 ((628 + (5 * j1)) + 1) v2) 134 0)) 134 ((628 + (5 * j1)) + 3) v2) 134 ((628 + (5 * j1)) + 4) 0) 134 ((10 + (8 * v1)) + 5) (((lx_up (lx_up (lx_up (lx_up (lx_up X 134 ((628 + (5 * j1)) + 0) (nI v1)) 134 ((628 + (5 * j1)) + 1) v2) 134 ((628 + (5 * j1)) + 2) ((lx_up (lx_up X 134 ((628 + (5 * j1)) + 0) (nI v1)) 134 ((628 + (5 * j1)) + 1) v2) 134 0)) 134 ((628 + (5 * j1)) + 3) v2) 134 ((628 + (5 * j1)) + 4) 0) 134 ((10 + (8 * v1)) + 5)) + v2)) 134 7 (((lx_up (lx_up (lx_up (lx_up (lx_up (lx_up X 134 ((628 + (5 * j1)) + 0) (nI v1)) 134 ((628 + (5 * j1)) + 1) v2) 134 ((628 + (5 * j1)) + 2) ((lx_up (lx_up X 134 ((628 + (5 * j1)) + 0) (nI v1)) 134 ((628 + (5 * j1)) + 1) v2) 134 0)) 134 ((628 + (5 * j1)) + 3) v2) 134 ((628 + (5 * j1)) + 4) 0) 134 ((10 + (8 * v1)) + 5) (((lx_up (lx_up (lx_up (lx_up (lx_up X 134 ((628 + (5 * j1)) + 0) (nI v1)) 134 ((628 + (5 * j1)) + 1) v2) 134 ((628 + (5 * j1)) + 2) ((lx_up (lx_up X 134 ((628 + (5 * j1)) + 0) (nI v1)) 134 ((628 + (5 * j1)) + 1) v2) 134 0)) 134 ((628 + (5 * j1)) + 3) v2) 134 ((628 + (5 * j1)) + 4) 0) 134 ((10 + (8 * v1)) + 5)) + v2)) 134 7) + 1))) : Ev g mX12_lot d n n post n 0 [some (.ref 133), some (.int (nI v1)), some (.int v2), none] [] X := by
  refine ev_aload_n dX12_lot_0 rfl ?_
  refine ev_iload_n dX12_lot_1 rfl ?_
  refine e_Vi (as := [.int (nI v1)]) (rest := []) dX12_lot_2 vX12_isPart ml_12_63 isX12_isPart seX12_isPart npX12_isPart (rc_133 (by omega)) (by decide) rfl (Nat.le_of_ble_eq_true rfl) (by omega) (t_X12_isPart (d := d - 1) (by omega) (by omega) hX c0) ?_
  refine ev_ifF (tgt := 18) dX12_lot_5 (by decide) (by show ¬ (1 : Int32) = 0; decide) ?_
  refine ev_iload_n dX12_lot_8 rfl ?_
  refine ev_iconst (v := 1) dX12_lot_9 ki_1 ?_
  refine ev_ldc (v := 99999) dX12_lot_10 kw_12_56 ?_
  refine e_Si (as := [.int v2, .int 1, .int 99999]) (rest := []) dX12_lot_12 vX12_within ml_12_52 stX12_within npX12_within (by decide) rfl (Nat.le_of_ble_eq_true rfl) (by omega) (t_X12_within (d := d - 1) (by omega) (by omega) hX c1) ?_
  refine ev_ifT (tgt := 21) dX12_lot_15 (by decide) (by show ¬ (1 : Int32) = 0; decide) ?_
  refine ev_aload_n dX12_lot_21 rfl ?_
  refine ev_getS (q := 134) dX12_lot_22 fo_12_9 (by omega) lo_133 rfl (sh_133_0 hX (by omega)) (by decide) ?_
  refine ev_bipush (v := 7) dX12_lot_25 kb_7 ?_
  refine ev_iald dX12_lot_27 (by omega) ly_134 nIl_7 (by decide) ?_
  refine ev_istore_n dX12_lot_28 (by decide) ?_
  refine ev_iload_n dX12_lot_29 rfl ?_
  refine ev_bipush (v := 40) dX12_lot_30 kb_40 ?_
  refine ev_icmpT (tgt := 38) dX12_lot_32 (by decide) c2 ?_
  refine ev_aload_n dX12_lot_38 rfl ?_
  refine ev_getS (q := 134) dX12_lot_39 fo_12_9 (by omega) lo_133 rfl (sh_133_0 hX (by omega)) (by decide) ?_
  refine ev_iload_n dX12_lot_42 rfl ?_
  refine ev_iconst (v := 0) dX12_lot_43 ki_0 ?_
  refine e_Si (as := [.int (X 134 7), .int 0]) (rest := [.ref 134]) dX12_lot_44 vX12_ofLot ml_12_261 stX12_ofLot npX12_ofLot (by decide) rfl (Nat.le_of_ble_eq_true rfl) (by omega) (c_X12_ofLot (d := d - 1) (by omega) (by omega) hX ) ?_
  refine ev_iload_n dX12_lot_47 rfl ?_
  refine ev_iast dX12_lot_48 (by omega) ly_134 (by rw [hj1]; show (nI 628 + (nI 5 * nI j1)) + nI 0 = nI ((628 + (5 * j1)) + 0); simp only [pk_mul, nI_add]) b0 ?_
  have hX1 : Sh _ (lx_up X 134 ((628 + (5 * j1)) + 0) (nI v1)) := Sh.upA hX (by rw [ly_134]; exact (by decide : 0 < 2))
  refine ev_aload_n dX12_lot_49 rfl ?_
  refine ev_getS (q := 134) dX12_lot_50 fo_12_9 (by omega) lo_133 rfl (sh_133_0 hX1 (by omega)) (by decide) ?_
  refine ev_iload_n dX12_lot_53 rfl ?_
  refine ev_iconst (v := 1) dX12_lot_54 ki_1 ?_
  refine e_Si (as := [.int (X 134 7), .int 1]) (rest := [.ref 134]) dX12_lot_55 vX12_ofLot ml_12_261 stX12_ofLot npX12_ofLot (by decide) rfl (Nat.le_of_ble_eq_true rfl) (by omega) (c_X12_ofLot (d := d - 1) (by omega) (by omega) hX1 ) ?_
  refine ev_iload_n dX12_lot_58 rfl ?_
  refine ev_iast dX12_lot_59 (by omega) ly_134 (by rw [hj1]; show (nI 628 + (nI 5 * nI j1)) + nI 1 = nI ((628 + (5 * j1)) + 1); simp only [pk_mul, nI_add]) b1 ?_
  have hX2 : Sh _ (lx_up (lx_up X 134 ((628 + (5 * j1)) + 0) (nI v1)) 134 ((628 + (5 * j1)) + 1) v2) := Sh.upA hX1 (by rw [ly_134]; exact (by decide : 0 < 2))
  refine ev_aload_n dX12_lot_60 rfl ?_
  refine ev_getS (q := 134) dX12_lot_61 fo_12_9 (by omega) lo_133 rfl (sh_133_0 hX2 (by omega)) (by decide) ?_
  refine ev_iload_n dX12_lot_64 rfl ?_
  refine ev_iconst (v := 2) dX12_lot_65 ki_2 ?_
  refine e_Si (as := [.int (X 134 7), .int 2]) (rest := [.ref 134]) dX12_lot_66 vX12_ofLot ml_12_261 stX12_ofLot npX12_ofLot (by decide) rfl (Nat.le_of_ble_eq_true rfl) (by omega) (c_X12_ofLot (d := d - 1) (by omega) (by omega) hX2 ) ?_
  refine ev_aload_n dX12_lot_69 rfl ?_
  refine ev_getS (q := 134) dX12_lot_70 fo_12_9 (by omega) lo_133 rfl (sh_133_0 hX2 (by omega)) (by decide) ?_
  refine ev_iconst (v := 0) dX12_lot_73 ki_0 ?_
  refine ev_iald dX12_lot_74 (by omega) ly_134 nIl_0 (by decide) ?_
  refine ev_iast dX12_lot_75 (by omega) ly_134 (by rw [hj1]; show (nI 628 + (nI 5 * nI j1)) + nI 2 = nI ((628 + (5 * j1)) + 2); simp only [pk_mul, nI_add]) b2 ?_
  have hX3 : Sh _ (lx_up (lx_up (lx_up X 134 ((628 + (5 * j1)) + 0) (nI v1)) 134 ((628 + (5 * j1)) + 1) v2) 134 ((628 + (5 * j1)) + 2) ((lx_up (lx_up X 134 ((628 + (5 * j1)) + 0) (nI v1)) 134 ((628 + (5 * j1)) + 1) v2) 134 0)) := Sh.upA hX2 (by rw [ly_134]; exact (by decide : 0 < 2))
  refine ev_aload_n dX12_lot_76 rfl ?_
  refine ev_getS (q := 134) dX12_lot_77 fo_12_9 (by omega) lo_133 rfl (sh_133_0 hX3 (by omega)) (by decide) ?_
  refine ev_iload_n dX12_lot_80 rfl ?_
  refine ev_iconst (v := 3) dX12_lot_81 ki_3 ?_
  refine e_Si (as := [.int (X 134 7), .int 3]) (rest := [.ref 134]) dX12_lot_82 vX12_ofLot ml_12_261 stX12_ofLot npX12_ofLot (by decide) rfl (Nat.le_of_ble_eq_true rfl) (by omega) (c_X12_ofLot (d := d - 1) (by omega) (by omega) hX3 ) ?_
  refine ev_iload_n dX12_lot_85 rfl ?_
  refine ev_iast dX12_lot_86 (by omega) ly_134 (by rw [hj1]; show (nI 628 + (nI 5 * nI j1)) + nI 3 = nI ((628 + (5 * j1)) + 3); simp only [pk_mul, nI_add]) b3 ?_
  have hX4 : Sh _ (lx_up (lx_up (lx_up (lx_up X 134 ((628 + (5 * j1)) + 0) (nI v1)) 134 ((628 + (5 * j1)) + 1) v2) 134 ((628 + (5 * j1)) + 2) ((lx_up (lx_up X 134 ((628 + (5 * j1)) + 0) (nI v1)) 134 ((628 + (5 * j1)) + 1) v2) 134 0)) 134 ((628 + (5 * j1)) + 3) v2) := Sh.upA hX3 (by rw [ly_134]; exact (by decide : 0 < 2))
  refine ev_aload_n dX12_lot_87 rfl ?_
  refine ev_getS (q := 134) dX12_lot_88 fo_12_9 (by omega) lo_133 rfl (sh_133_0 hX4 (by omega)) (by decide) ?_
  refine ev_iload_n dX12_lot_91 rfl ?_
  refine ev_iconst (v := 4) dX12_lot_92 ki_4 ?_
  refine e_Si (as := [.int (X 134 7), .int 4]) (rest := [.ref 134]) dX12_lot_93 vX12_ofLot ml_12_261 stX12_ofLot npX12_ofLot (by decide) rfl (Nat.le_of_ble_eq_true rfl) (by omega) (c_X12_ofLot (d := d - 1) (by omega) (by omega) hX4 ) ?_
  refine ev_iconst (v := 0) dX12_lot_96 ki_0 ?_
  refine ev_iast dX12_lot_97 (by omega) ly_134 (by rw [hj1]; show (nI 628 + (nI 5 * nI j1)) + nI 4 = nI ((628 + (5 * j1)) + 4); simp only [pk_mul, nI_add]) b4 ?_
  have hX5 : Sh _ (lx_up (lx_up (lx_up (lx_up (lx_up X 134 ((628 + (5 * j1)) + 0) (nI v1)) 134 ((628 + (5 * j1)) + 1) v2) 134 ((628 + (5 * j1)) + 2) ((lx_up (lx_up X 134 ((628 + (5 * j1)) + 0) (nI v1)) 134 ((628 + (5 * j1)) + 1) v2) 134 0)) 134 ((628 + (5 * j1)) + 3) v2) 134 ((628 + (5 * j1)) + 4) 0) := Sh.upA hX4 (by rw [ly_134]; exact (by decide : 0 < 2))
  refine ev_aload_n dX12_lot_98 rfl ?_
  refine ev_getS (q := 134) dX12_lot_99 fo_12_9 (by omega) lo_133 rfl (sh_133_0 hX5 (by omega)) (by decide) ?_
  refine ev_iload_n dX12_lot_102 rfl ?_
  refine ev_iconst (v := 5) dX12_lot_103 ki_5 ?_
  refine e_Si (as := [.int (nI v1), .int 5]) (rest := [.ref 134]) dX12_lot_104 vX12_ofPart ml_12_59 stX12_ofPart npX12_ofPart (by decide) rfl (Nat.le_of_ble_eq_true rfl) (by omega) (c_X12_ofPart (d := d - 1) (by omega) (by omega) hX5 ) ?_
  refine ev_dup2 dX12_lot_107 rfl rfl ?_
  refine ev_iald dX12_lot_108 (by omega) ly_134 (by show (nI 10 + (nI 8 * nI v1)) + nI 5 = nI ((10 + (8 * v1)) + 5); simp only [pk_mul, nI_add]) b5 ?_
  refine ev_iload_n dX12_lot_109 rfl ?_
  refine ev_iadd dX12_lot_110 ?_
  refine ev_iast dX12_lot_111 (by omega) ly_134 (by show (nI 10 + (nI 8 * nI v1)) + nI 5 = nI ((10 + (8 * v1)) + 5); simp only [pk_mul, nI_add]) b5 ?_
  have hX6 : Sh _ (lx_up (lx_up (lx_up (lx_up (lx_up (lx_up X 134 ((628 + (5 * j1)) + 0) (nI v1)) 134 ((628 + (5 * j1)) + 1) v2) 134 ((628 + (5 * j1)) + 2) ((lx_up (lx_up X 134 ((628 + (5 * j1)) + 0) (nI v1)) 134 ((628 + (5 * j1)) + 1) v2) 134 0)) 134 ((628 + (5 * j1)) + 3) v2) 134 ((628 + (5 * j1)) + 4) 0) 134 ((10 + (8 * v1)) + 5) (((lx_up (lx_up (lx_up (lx_up (lx_up X 134 ((628 + (5 * j1)) + 0) (nI v1)) 134 ((628 + (5 * j1)) + 1) v2) 134 ((628 + (5 * j1)) + 2) ((lx_up (lx_up X 134 ((628 + (5 * j1)) + 0) (nI v1)) 134 ((628 + (5 * j1)) + 1) v2) 134 0)) 134 ((628 + (5 * j1)) + 3) v2) 134 ((628 + (5 * j1)) + 4) 0) 134 ((10 + (8 * v1)) + 5)) + v2)) := Sh.upA hX5 (by rw [ly_134]; exact (by decide : 0 < 2))
  refine ev_aload_n dX12_lot_112 rfl ?_
  refine ev_getS (q := 134) dX12_lot_113 fo_12_9 (by omega) lo_133 rfl (sh_133_0 hX6 (by omega)) (by decide) ?_
  refine ev_bipush (v := 7) dX12_lot_116 kb_7 ?_
  refine ev_dup2 dX12_lot_118 rfl rfl ?_
  refine ev_iald dX12_lot_119 (by omega) ly_134 nIl_7 (by decide) ?_
  refine ev_iconst (v := 1) dX12_lot_120 ki_1 ?_
  refine ev_iadd dX12_lot_121 ?_
  refine ev_iast dX12_lot_122 (by omega) ly_134 nIl_7 (by decide) ?_
  have hX7 : Sh _ (lx_up (lx_up (lx_up (lx_up (lx_up (lx_up (lx_up X 134 ((628 + (5 * j1)) + 0) (nI v1)) 134 ((628 + (5 * j1)) + 1) v2) 134 ((628 + (5 * j1)) + 2) ((lx_up (lx_up X 134 ((628 + (5 * j1)) + 0) (nI v1)) 134 ((628 + (5 * j1)) + 1) v2) 134 0)) 134 ((628 + (5 * j1)) + 3) v2) 134 ((628 + (5 * j1)) + 4) 0) 134 ((10 + (8 * v1)) + 5) (((lx_up (lx_up (lx_up (lx_up (lx_up X 134 ((628 + (5 * j1)) + 0) (nI v1)) 134 ((628 + (5 * j1)) + 1) v2) 134 ((628 + (5 * j1)) + 2) ((lx_up (lx_up X 134 ((628 + (5 * j1)) + 0) (nI v1)) 134 ((628 + (5 * j1)) + 1) v2) 134 0)) 134 ((628 + (5 * j1)) + 3) v2) 134 ((628 + (5 * j1)) + 4) 0) 134 ((10 + (8 * v1)) + 5)) + v2)) 134 7 (((lx_up (lx_up (lx_up (lx_up (lx_up (lx_up X 134 ((628 + (5 * j1)) + 0) (nI v1)) 134 ((628 + (5 * j1)) + 1) v2) 134 ((628 + (5 * j1)) + 2) ((lx_up (lx_up X 134 ((628 + (5 * j1)) + 0) (nI v1)) 134 ((628 + (5 * j1)) + 1) v2) 134 0)) 134 ((628 + (5 * j1)) + 3) v2) 134 ((628 + (5 * j1)) + 4) 0) 134 ((10 + (8 * v1)) + 5) (((lx_up (lx_up (lx_up (lx_up (lx_up X 134 ((628 + (5 * j1)) + 0) (nI v1)) 134 ((628 + (5 * j1)) + 1) v2) 134 ((628 + (5 * j1)) + 2) ((lx_up (lx_up X 134 ((628 + (5 * j1)) + 0) (nI v1)) 134 ((628 + (5 * j1)) + 1) v2) 134 0)) 134 ((628 + (5 * j1)) + 3) v2) 134 ((628 + (5 * j1)) + 4) 0) 134 ((10 + (8 * v1)) + 5)) + v2)) 134 7) + 1)) := Sh.upA hX6 (by rw [ly_134]; exact (by decide : 0 < 2))
  refine ev_iload_n dX12_lot_123 rfl ?_
  exact ev_iret dX12_lot_124 rfl rfl hp
theorem bX12_lot_0_2 {g : GG} {d n : Nat} {post : Option Value → LX → Prop} {X : LX} (hd : 2 ≤ d) (hn : 146 ≤ n) (hX : Sh n X) {v1 : Int32} {v2 : Int32} (c0 : 0 ≤ v1 ∧ v1 ≤ X 134 4 - 1) (c1 : ¬ (1 ≤ v2 ∧ v2 ≤ 99999)) (hp : post (some (.int (-1000000001))) X) : Ev g mX12_lot d n n post n 0 [some (.ref 133), some (.int v1), some (.int v2), none] [] X := by
  refine ev_aload_n dX12_lot_0 rfl ?_
  refine ev_iload_n dX12_lot_1 rfl ?_
  refine e_Vi (as := [.int v1]) (rest := []) dX12_lot_2 vX12_isPart ml_12_63 isX12_isPart seX12_isPart npX12_isPart (rc_133 (by omega)) (by decide) rfl (Nat.le_of_ble_eq_true rfl) (by omega) (t_X12_isPart (d := d - 1) (by omega) (by omega) hX c0) ?_
  refine ev_ifF (tgt := 18) dX12_lot_5 (by decide) (by show ¬ (1 : Int32) = 0; decide) ?_
  refine ev_iload_n dX12_lot_8 rfl ?_
  refine ev_iconst (v := 1) dX12_lot_9 ki_1 ?_
  refine ev_ldc (v := 99999) dX12_lot_10 kw_12_56 ?_
  refine e_Si (as := [.int v2, .int 1, .int 99999]) (rest := []) dX12_lot_12 vX12_within ml_12_52 stX12_within npX12_within (by decide) rfl (Nat.le_of_ble_eq_true rfl) (by omega) (f_X12_within (d := d - 1) (by omega) (by omega) hX c1) ?_
  refine ev_ifF (tgt := 21) dX12_lot_15 (by decide) (by show (0 : Int32) = 0; decide) ?_
  refine ev_ldc (v := (-1000000001)) dX12_lot_18 kw_12_57 ?_
  exact ev_iret dX12_lot_20 rfl rfl hp
theorem bX12_lot_0_3 {g : GG} {d n : Nat} {post : Option Value → LX → Prop} {X : LX} (hd : 2 ≤ d) (hn : 146 ≤ n) (hX : Sh n X) {v1 : Int32} {v2 : Int32} (c0 : ¬ (0 ≤ v1 ∧ v1 ≤ X 134 4 - 1)) (hp : post (some (.int (-1000000001))) X) : Ev g mX12_lot d n n post n 0 [some (.ref 133), some (.int v1), some (.int v2), none] [] X := by
  refine ev_aload_n dX12_lot_0 rfl ?_
  refine ev_iload_n dX12_lot_1 rfl ?_
  refine e_Vi (as := [.int v1]) (rest := []) dX12_lot_2 vX12_isPart ml_12_63 isX12_isPart seX12_isPart npX12_isPart (rc_133 (by omega)) (by decide) rfl (Nat.le_of_ble_eq_true rfl) (by omega) (f_X12_isPart (d := d - 1) (by omega) (by omega) hX c0) ?_
  refine ev_ifT (tgt := 18) dX12_lot_5 (by decide) (by show (0 : Int32) = 0; decide) ?_
  refine ev_ldc (v := (-1000000001)) dX12_lot_18 kw_12_57 ?_
  exact ev_iret dX12_lot_20 rfl rfl hp
theorem bX11_told_0_0 {g : GG} {d n : Nat} {post : Option Value → LX → Prop} {X : LX} (hd : 1 ≤ d) (hn : 146 ≤ n) (hX : Sh n X) {v1 : Int32} {v2 : Int32} (c0 : 0 ≤ v1 ∧ v1 < X 69 0) (c1 : v2.toInt < 0 ∨ 3 < v2.toInt) (hp : post (some (.int (-1000000001))) X) : Ev g mX11_told d n n post n 0 [some (.ref 0), some (.int v1), some (.int v2)] [] X := by
  refine ev_aload_n dX11_told_0 rfl ?_
  refine ev_getS (q := 1) dX11_told_1 fo_11_10 (by omega) lo_0 rfl (sh_0_0 hX (by omega)) (by decide) ?_
  refine ev_getS (q := 69) dX11_told_4 fo_11_278 (by omega) lo_1 rfl (sh_1_3 hX (by omega)) (by decide) ?_
  refine ev_iload_n dX11_told_7 rfl ?_
  refine e_Vi (as := [.int v1]) (rest := []) dX11_told_8 vX4_has ml_11_296 isX4_has seX4_has npX4_has (rc_69 (by omega)) (by decide) rfl (Nat.le_of_ble_eq_true rfl) (by omega) (t_X4_has (d := d - 1) (by omega) (by omega) hX c0) ?_
  refine ev_ifT (tgt := 17) dX11_told_11 (by decide) (by show ¬ (1 : Int32) = 0; decide) ?_
  refine ev_iload_n dX11_told_17 rfl ?_
  refine ev_tabO (tgt := 100) dX11_told_18 c1 (by decide) ?_
  refine ev_ldc (v := (-1000000001)) dX11_told_100 kw_11_61 ?_
  exact ev_iret dX11_told_102 rfl rfl hp
theorem bX11_told_0_1 {g : GG} {d n : Nat} {post : Option Value → LX → Prop} {X : LX} (hd : 1 ≤ d) (hn : 146 ≤ n) (hX : Sh n X) {v1 : Nat} {v2 : Int32} (c0 : 0 ≤ (nI v1) ∧ (nI v1) < X 69 0) (c1 : v2 = 0) (b0 : v1 < 40) (hp : post (some (.int (X 70 v1))) X) : Ev g mX11_told d n n post n 0 [some (.ref 0), some (.int (nI v1)), some (.int v2)] [] X := by
  refine ev_aload_n dX11_told_0 rfl ?_
  refine ev_getS (q := 1) dX11_told_1 fo_11_10 (by omega) lo_0 rfl (sh_0_0 hX (by omega)) (by decide) ?_
  refine ev_getS (q := 69) dX11_told_4 fo_11_278 (by omega) lo_1 rfl (sh_1_3 hX (by omega)) (by decide) ?_
  refine ev_iload_n dX11_told_7 rfl ?_
  refine e_Vi (as := [.int (nI v1)]) (rest := []) dX11_told_8 vX4_has ml_11_296 isX4_has seX4_has npX4_has (rc_69 (by omega)) (by decide) rfl (Nat.le_of_ble_eq_true rfl) (by omega) (t_X4_has (d := d - 1) (by omega) (by omega) hX c0) ?_
  refine ev_ifT (tgt := 17) dX11_told_11 (by decide) (by show ¬ (1 : Int32) = 0; decide) ?_
  refine ev_iload_n dX11_told_17 rfl ?_
  refine ev_tabI (tgt := 48) (off := 30) dX11_told_18 (by rw [c1]; decide) (by rw [c1]; decide) (by rw [c1]; rfl) (by decide) ?_
  refine ev_aload_n dX11_told_48 rfl ?_
  refine ev_getS (q := 1) dX11_told_49 fo_11_10 (by omega) lo_0 rfl (sh_0_0 hX (by omega)) (by decide) ?_
  refine ev_getS (q := 69) dX11_told_52 fo_11_278 (by omega) lo_1 rfl (sh_1_3 hX (by omega)) (by decide) ?_
  refine ev_getS (q := 70) dX11_told_55 fo_11_285 (by omega) lo_69 rfl (sh_69_1 hX (by omega)) (by decide) ?_
  refine ev_iload_n dX11_told_58 rfl ?_
  refine ev_iald dX11_told_59 (by omega) ly_70 rfl b0 ?_
  exact ev_iret dX11_told_60 rfl rfl hp
theorem bX11_told_0_2 {g : GG} {d n : Nat} {post : Option Value → LX → Prop} {X : LX} (hd : 1 ≤ d) (hn : 146 ≤ n) (hX : Sh n X) {v1 : Nat} {v2 : Int32} (c0 : 0 ≤ (nI v1) ∧ (nI v1) < X 69 0) (c1 : v2 = 1) (b0 : v1 < 40) (hp : post (some (.int (X 71 v1))) X) : Ev g mX11_told d n n post n 0 [some (.ref 0), some (.int (nI v1)), some (.int v2)] [] X := by
  refine ev_aload_n dX11_told_0 rfl ?_
  refine ev_getS (q := 1) dX11_told_1 fo_11_10 (by omega) lo_0 rfl (sh_0_0 hX (by omega)) (by decide) ?_
  refine ev_getS (q := 69) dX11_told_4 fo_11_278 (by omega) lo_1 rfl (sh_1_3 hX (by omega)) (by decide) ?_
  refine ev_iload_n dX11_told_7 rfl ?_
  refine e_Vi (as := [.int (nI v1)]) (rest := []) dX11_told_8 vX4_has ml_11_296 isX4_has seX4_has npX4_has (rc_69 (by omega)) (by decide) rfl (Nat.le_of_ble_eq_true rfl) (by omega) (t_X4_has (d := d - 1) (by omega) (by omega) hX c0) ?_
  refine ev_ifT (tgt := 17) dX11_told_11 (by decide) (by show ¬ (1 : Int32) = 0; decide) ?_
  refine ev_iload_n dX11_told_17 rfl ?_
  refine ev_tabI (tgt := 61) (off := 43) dX11_told_18 (by rw [c1]; decide) (by rw [c1]; decide) (by rw [c1]; rfl) (by decide) ?_
  refine ev_aload_n dX11_told_61 rfl ?_
  refine ev_getS (q := 1) dX11_told_62 fo_11_10 (by omega) lo_0 rfl (sh_0_0 hX (by omega)) (by decide) ?_
  refine ev_getS (q := 69) dX11_told_65 fo_11_278 (by omega) lo_1 rfl (sh_1_3 hX (by omega)) (by decide) ?_
  refine ev_getS (q := 71) dX11_told_68 fo_11_288 (by omega) lo_69 rfl (sh_69_2 hX (by omega)) (by decide) ?_
  refine ev_iload_n dX11_told_71 rfl ?_
  refine ev_iald dX11_told_72 (by omega) ly_71 rfl b0 ?_
  exact ev_iret dX11_told_73 rfl rfl hp
theorem bX11_told_0_3 {g : GG} {d n : Nat} {post : Option Value → LX → Prop} {X : LX} (hd : 1 ≤ d) (hn : 146 ≤ n) (hX : Sh n X) {v1 : Nat} {v2 : Int32} (c0 : 0 ≤ (nI v1) ∧ (nI v1) < X 69 0) (c1 : v2 = 2) (b0 : v1 < 40) (hp : post (some (.int (X 72 v1))) X) : Ev g mX11_told d n n post n 0 [some (.ref 0), some (.int (nI v1)), some (.int v2)] [] X := by
  refine ev_aload_n dX11_told_0 rfl ?_
  refine ev_getS (q := 1) dX11_told_1 fo_11_10 (by omega) lo_0 rfl (sh_0_0 hX (by omega)) (by decide) ?_
  refine ev_getS (q := 69) dX11_told_4 fo_11_278 (by omega) lo_1 rfl (sh_1_3 hX (by omega)) (by decide) ?_
  refine ev_iload_n dX11_told_7 rfl ?_
  refine e_Vi (as := [.int (nI v1)]) (rest := []) dX11_told_8 vX4_has ml_11_296 isX4_has seX4_has npX4_has (rc_69 (by omega)) (by decide) rfl (Nat.le_of_ble_eq_true rfl) (by omega) (t_X4_has (d := d - 1) (by omega) (by omega) hX c0) ?_
  refine ev_ifT (tgt := 17) dX11_told_11 (by decide) (by show ¬ (1 : Int32) = 0; decide) ?_
  refine ev_iload_n dX11_told_17 rfl ?_
  refine ev_tabI (tgt := 74) (off := 56) dX11_told_18 (by rw [c1]; decide) (by rw [c1]; decide) (by rw [c1]; rfl) (by decide) ?_
  refine ev_aload_n dX11_told_74 rfl ?_
  refine ev_getS (q := 1) dX11_told_75 fo_11_10 (by omega) lo_0 rfl (sh_0_0 hX (by omega)) (by decide) ?_
  refine ev_getS (q := 69) dX11_told_78 fo_11_278 (by omega) lo_1 rfl (sh_1_3 hX (by omega)) (by decide) ?_
  refine ev_getS (q := 72) dX11_told_81 fo_11_290 (by omega) lo_69 rfl (sh_69_3 hX (by omega)) (by decide) ?_
  refine ev_iload_n dX11_told_84 rfl ?_
  refine ev_iald dX11_told_85 (by omega) ly_72 rfl b0 ?_
  exact ev_iret dX11_told_86 rfl rfl hp
theorem bX11_told_0_4 {g : GG} {d n : Nat} {post : Option Value → LX → Prop} {X : LX} (hd : 1 ≤ d) (hn : 146 ≤ n) (hX : Sh n X) {v1 : Nat} {v2 : Int32} (c0 : 0 ≤ (nI v1) ∧ (nI v1) < X 69 0) (c1 : v2 = 3) (b0 : v1 < 40) (hp : post (some (.int (X 73 v1))) X) : Ev g mX11_told d n n post n 0 [some (.ref 0), some (.int (nI v1)), some (.int v2)] [] X := by
  refine ev_aload_n dX11_told_0 rfl ?_
  refine ev_getS (q := 1) dX11_told_1 fo_11_10 (by omega) lo_0 rfl (sh_0_0 hX (by omega)) (by decide) ?_
  refine ev_getS (q := 69) dX11_told_4 fo_11_278 (by omega) lo_1 rfl (sh_1_3 hX (by omega)) (by decide) ?_
  refine ev_iload_n dX11_told_7 rfl ?_
  refine e_Vi (as := [.int (nI v1)]) (rest := []) dX11_told_8 vX4_has ml_11_296 isX4_has seX4_has npX4_has (rc_69 (by omega)) (by decide) rfl (Nat.le_of_ble_eq_true rfl) (by omega) (t_X4_has (d := d - 1) (by omega) (by omega) hX c0) ?_
  refine ev_ifT (tgt := 17) dX11_told_11 (by decide) (by show ¬ (1 : Int32) = 0; decide) ?_
  refine ev_iload_n dX11_told_17 rfl ?_
  refine ev_tabI (tgt := 87) (off := 69) dX11_told_18 (by rw [c1]; decide) (by rw [c1]; decide) (by rw [c1]; rfl) (by decide) ?_
  refine ev_aload_n dX11_told_87 rfl ?_
  refine ev_getS (q := 1) dX11_told_88 fo_11_10 (by omega) lo_0 rfl (sh_0_0 hX (by omega)) (by decide) ?_
  refine ev_getS (q := 69) dX11_told_91 fo_11_278 (by omega) lo_1 rfl (sh_1_3 hX (by omega)) (by decide) ?_
  refine ev_getS (q := 73) dX11_told_94 fo_11_293 (by omega) lo_69 rfl (sh_69_4 hX (by omega)) (by decide) ?_
  refine ev_iload_n dX11_told_97 rfl ?_
  refine ev_iald dX11_told_98 (by omega) ly_73 rfl b0 ?_
  exact ev_iret dX11_told_99 rfl rfl hp
theorem bX11_told_0_5 {g : GG} {d n : Nat} {post : Option Value → LX → Prop} {X : LX} (hd : 1 ≤ d) (hn : 146 ≤ n) (hX : Sh n X) {v1 : Int32} {v2 : Int32} (c0 : ¬ (0 ≤ v1 ∧ v1 < X 69 0)) (hp : post (some (.int (-1000000001))) X) : Ev g mX11_told d n n post n 0 [some (.ref 0), some (.int v1), some (.int v2)] [] X := by
  refine ev_aload_n dX11_told_0 rfl ?_
  refine ev_getS (q := 1) dX11_told_1 fo_11_10 (by omega) lo_0 rfl (sh_0_0 hX (by omega)) (by decide) ?_
  refine ev_getS (q := 69) dX11_told_4 fo_11_278 (by omega) lo_1 rfl (sh_1_3 hX (by omega)) (by decide) ?_
  refine ev_iload_n dX11_told_7 rfl ?_
  refine e_Vi (as := [.int v1]) (rest := []) dX11_told_8 vX4_has ml_11_296 isX4_has seX4_has npX4_has (rc_69 (by omega)) (by decide) rfl (Nat.le_of_ble_eq_true rfl) (by omega) (f_X4_has (d := d - 1) (by omega) (by omega) hX c0) ?_
  refine ev_ifF (tgt := 17) dX11_told_11 (by decide) (by show (0 : Int32) = 0; decide) ?_
  refine ev_ldc (v := (-1000000001)) dX11_told_14 kw_11_61 ?_
  exact ev_iret dX11_told_16 rfl rfl hp
theorem bX12_told_0_0 {g : GG} {d n : Nat} {post : Option Value → LX → Prop} {X : LX} (hd : 1 ≤ d) (hn : 146 ≤ n) (hX : Sh n X) {v1 : Nat} {v2 : Nat} (c0 : 0 ≤ (nI v1) ∧ (nI v1) ≤ ((X 134 7) - 1)) (c1 : 0 ≤ (nI v2) ∧ (nI v2) ≤ 3) (b0 : ((628 + (5 * v1)) + v2) < 2156) (hp : post (some (.int (X 134 ((628 + (5 * v1)) + v2)))) X) : Ev g mX12_told d n n post n 0 [some (.ref 133), some (.int (nI v1)), some (.int (nI v2))] [] X := by
  refine ev_iload_n dX12_told_0 rfl ?_
  refine ev_iconst (v := 0) dX12_told_1 ki_0 ?_
  refine ev_aload_n dX12_told_2 rfl ?_
  refine ev_getS (q := 134) dX12_told_3 fo_12_9 (by omega) lo_133 rfl (sh_133_0 hX (by omega)) (by decide) ?_
  refine ev_bipush (v := 7) dX12_told_6 kb_7 ?_
  refine ev_iald dX12_told_8 (by omega) ly_134 nIl_7 (by decide) ?_
  refine ev_iconst (v := 1) dX12_told_9 ki_1 ?_
  refine ev_isub dX12_told_10 ?_
  refine e_Si (as := [.int (nI v1), .int 0, .int ((X 134 7) - 1)]) (rest := []) dX12_told_11 vX12_within ml_12_52 stX12_within npX12_within (by decide) rfl (Nat.le_of_ble_eq_true rfl) (by omega) (t_X12_within (d := d - 1) (by omega) (by omega) hX c0) ?_
  refine ev_ifF (tgt := 26) dX12_told_14 (by decide) (by show ¬ (1 : Int32) = 0; decide) ?_
  refine ev_iload_n dX12_told_17 rfl ?_
  refine ev_iconst (v := 0) dX12_told_18 ki_0 ?_
  refine ev_iconst (v := 3) dX12_told_19 ki_3 ?_
  refine e_Si (as := [.int (nI v2), .int 0, .int 3]) (rest := []) dX12_told_20 vX12_within ml_12_52 stX12_within npX12_within (by decide) rfl (Nat.le_of_ble_eq_true rfl) (by omega) (t_X12_within (d := d - 1) (by omega) (by omega) hX c1) ?_
  refine ev_ifT (tgt := 31) dX12_told_23 (by decide) (by show ¬ (1 : Int32) = 0; decide) ?_
  refine ev_aload_n dX12_told_31 rfl ?_
  refine ev_getS (q := 134) dX12_told_32 fo_12_9 (by omega) lo_133 rfl (sh_133_0 hX (by omega)) (by decide) ?_
  refine ev_iload_n dX12_told_35 rfl ?_
  refine ev_iload_n dX12_told_36 rfl ?_
  refine e_Si (as := [.int (nI v1), .int (nI v2)]) (rest := [.ref 134]) dX12_told_37 vX12_ofLot ml_12_261 stX12_ofLot npX12_ofLot (by decide) rfl (Nat.le_of_ble_eq_true rfl) (by omega) (c_X12_ofLot (d := d - 1) (by omega) (by omega) hX ) ?_
  refine ev_iald dX12_told_40 (by omega) ly_134 (by show (nI 628 + (nI 5 * nI v1)) + nI v2 = nI ((628 + (5 * v1)) + v2); simp only [pk_mul, nI_add]) b0 ?_
  exact ev_iret dX12_told_41 rfl rfl hp
theorem bX12_told_0_1 {g : GG} {d n : Nat} {post : Option Value → LX → Prop} {X : LX} (hd : 1 ≤ d) (hn : 146 ≤ n) (hX : Sh n X) {v1 : Int32} {v2 : Int32} (c0 : 0 ≤ v1 ∧ v1 ≤ ((X 134 7) - 1)) (c1 : ¬ (0 ≤ v2 ∧ v2 ≤ 3)) (hp : post (some (.int (-1000000001))) X) : Ev g mX12_told d n n post n 0 [some (.ref 133), some (.int v1), some (.int v2)] [] X := by
  refine ev_iload_n dX12_told_0 rfl ?_
  refine ev_iconst (v := 0) dX12_told_1 ki_0 ?_
  refine ev_aload_n dX12_told_2 rfl ?_
  refine ev_getS (q := 134) dX12_told_3 fo_12_9 (by omega) lo_133 rfl (sh_133_0 hX (by omega)) (by decide) ?_
  refine ev_bipush (v := 7) dX12_told_6 kb_7 ?_
  refine ev_iald dX12_told_8 (by omega) ly_134 nIl_7 (by decide) ?_
  refine ev_iconst (v := 1) dX12_told_9 ki_1 ?_
  refine ev_isub dX12_told_10 ?_
  refine e_Si (as := [.int v1, .int 0, .int ((X 134 7) - 1)]) (rest := []) dX12_told_11 vX12_within ml_12_52 stX12_within npX12_within (by decide) rfl (Nat.le_of_ble_eq_true rfl) (by omega) (t_X12_within (d := d - 1) (by omega) (by omega) hX c0) ?_
  refine ev_ifF (tgt := 26) dX12_told_14 (by decide) (by show ¬ (1 : Int32) = 0; decide) ?_
  refine ev_iload_n dX12_told_17 rfl ?_
  refine ev_iconst (v := 0) dX12_told_18 ki_0 ?_
  refine ev_iconst (v := 3) dX12_told_19 ki_3 ?_
  refine e_Si (as := [.int v2, .int 0, .int 3]) (rest := []) dX12_told_20 vX12_within ml_12_52 stX12_within npX12_within (by decide) rfl (Nat.le_of_ble_eq_true rfl) (by omega) (f_X12_within (d := d - 1) (by omega) (by omega) hX c1) ?_
  refine ev_ifF (tgt := 31) dX12_told_23 (by decide) (by show (0 : Int32) = 0; decide) ?_
  refine ev_ldc (v := (-1000000001)) dX12_told_26 kw_12_57 ?_
  refine ev_goto (tgt := 41) dX12_told_28 (by decide) ?_
  exact ev_iret dX12_told_41 rfl rfl hp
theorem bX12_told_0_2 {g : GG} {d n : Nat} {post : Option Value → LX → Prop} {X : LX} (hd : 1 ≤ d) (hn : 146 ≤ n) (hX : Sh n X) {v1 : Int32} {v2 : Int32} (c0 : ¬ (0 ≤ v1 ∧ v1 ≤ ((X 134 7) - 1))) (hp : post (some (.int (-1000000001))) X) : Ev g mX12_told d n n post n 0 [some (.ref 133), some (.int v1), some (.int v2)] [] X := by
  refine ev_iload_n dX12_told_0 rfl ?_
  refine ev_iconst (v := 0) dX12_told_1 ki_0 ?_
  refine ev_aload_n dX12_told_2 rfl ?_
  refine ev_getS (q := 134) dX12_told_3 fo_12_9 (by omega) lo_133 rfl (sh_133_0 hX (by omega)) (by decide) ?_
  refine ev_bipush (v := 7) dX12_told_6 kb_7 ?_
  refine ev_iald dX12_told_8 (by omega) ly_134 nIl_7 (by decide) ?_
  refine ev_iconst (v := 1) dX12_told_9 ki_1 ?_
  refine ev_isub dX12_told_10 ?_
  refine e_Si (as := [.int v1, .int 0, .int ((X 134 7) - 1)]) (rest := []) dX12_told_11 vX12_within ml_12_52 stX12_within npX12_within (by decide) rfl (Nat.le_of_ble_eq_true rfl) (by omega) (f_X12_within (d := d - 1) (by omega) (by omega) hX c0) ?_
  refine ev_ifT (tgt := 26) dX12_told_14 (by decide) (by show (0 : Int32) = 0; decide) ?_
  refine ev_ldc (v := (-1000000001)) dX12_told_26 kw_12_57 ?_
  refine ev_goto (tgt := 41) dX12_told_28 (by decide) ?_
  exact ev_iret dX12_told_41 rfl rfl hp
theorem bX11_count_0_0 {g : GG} {d n : Nat} {post : Option Value → LX → Prop} {X : LX} (hn : 146 ≤ n) (hX : Sh n X) {v1 : Int32} (c0 : v1.toInt < 0 ∨ 8 < v1.toInt) (hp : post (some (.int (-1000000001))) X) : Ev g mX11_count d n n post n 0 [some (.ref 0), some (.int v1)] [] X := by
  refine ev_iload_n dX11_count_0 rfl ?_
  refine ev_tabO (tgt := 139) dX11_count_1 c0 (by decide) ?_
  refine ev_ldc (v := (-1000000001)) dX11_count_139 kw_11_61 ?_
  exact ev_iret dX11_count_141 rfl rfl hp
theorem bX11_count_0_1 {g : GG} {d n : Nat} {post : Option Value → LX → Prop} {X : LX} (hn : 146 ≤ n) (hX : Sh n X) {v1 : Int32} (c0 : v1 = 0) (hp : post (some (.int (X 2 0))) X) : Ev g mX11_count d n n post n 0 [some (.ref 0), some (.int v1)] [] X := by
  refine ev_iload_n dX11_count_0 rfl ?_
  refine ev_tabI (tgt := 52) (off := 51) dX11_count_1 (by rw [c0]; decide) (by rw [c0]; decide) (by rw [c0]; rfl) (by decide) ?_
  refine ev_aload_n dX11_count_52 rfl ?_
  refine ev_getS (q := 1) dX11_count_53 fo_11_10 (by omega) lo_0 rfl (sh_0_0 hX (by omega)) (by decide) ?_
  refine ev_getS (q := 2) dX11_count_56 fo_11_62 (by omega) lo_1 rfl (sh_1_0 hX (by omega)) (by decide) ?_
  refine ev_getI dX11_count_59 fo_11_66 (by omega) lo_2 rfl ?_
  exact ev_iret dX11_count_62 rfl rfl hp
theorem bX11_count_0_2 {g : GG} {d n : Nat} {post : Option Value → LX → Prop} {X : LX} (hn : 146 ≤ n) (hX : Sh n X) {v1 : Int32} (c0 : v1 = 1) (hp : post (some (.int (X 23 0))) X) : Ev g mX11_count d n n post n 0 [some (.ref 0), some (.int v1)] [] X := by
  refine ev_iload_n dX11_count_0 rfl ?_
  refine ev_tabI (tgt := 63) (off := 62) dX11_count_1 (by rw [c0]; decide) (by rw [c0]; decide) (by rw [c0]; rfl) (by decide) ?_
  refine ev_aload_n dX11_count_63 rfl ?_
  refine ev_getS (q := 1) dX11_count_64 fo_11_10 (by omega) lo_0 rfl (sh_0_0 hX (by omega)) (by decide) ?_
  refine ev_getS (q := 23) dX11_count_67 fo_11_96 (by omega) lo_1 rfl (sh_1_1 hX (by omega)) (by decide) ?_
  refine ev_getI dX11_count_70 fo_11_100 (by omega) lo_23 rfl ?_
  exact ev_iret dX11_count_73 rfl rfl hp
theorem bX11_count_0_3 {g : GG} {d n : Nat} {post : Option Value → LX → Prop} {X : LX} (hn : 146 ≤ n) (hX : Sh n X) {v1 : Int32} (c0 : v1 = 2) (hp : post (some (.int (X 37 0))) X) : Ev g mX11_count d n n post n 0 [some (.ref 0), some (.int v1)] [] X := by
  refine ev_iload_n dX11_count_0 rfl ?_
  refine ev_tabI (tgt := 74) (off := 73) dX11_count_1 (by rw [c0]; decide) (by rw [c0]; decide) (by rw [c0]; rfl) (by decide) ?_
  refine ev_aload_n dX11_count_74 rfl ?_
  refine ev_getS (q := 1) dX11_count_75 fo_11_10 (by omega) lo_0 rfl (sh_0_0 hX (by omega)) (by decide) ?_
  refine ev_getS (q := 37) dX11_count_78 fo_11_144 (by omega) lo_1 rfl (sh_1_2 hX (by omega)) (by decide) ?_
  refine ev_getI dX11_count_81 fo_11_148 (by omega) lo_37 rfl ?_
  exact ev_iret dX11_count_84 rfl rfl hp
theorem bX11_count_0_4 {g : GG} {d n : Nat} {post : Option Value → LX → Prop} {X : LX} (hn : 146 ≤ n) (hX : Sh n X) {v1 : Int32} (c0 : v1 = 3) (hp : post (some (.int (X 69 0))) X) : Ev g mX11_count d n n post n 0 [some (.ref 0), some (.int v1)] [] X := by
  refine ev_iload_n dX11_count_0 rfl ?_
  refine ev_tabI (tgt := 85) (off := 84) dX11_count_1 (by rw [c0]; decide) (by rw [c0]; decide) (by rw [c0]; rfl) (by decide) ?_
  refine ev_aload_n dX11_count_85 rfl ?_
  refine ev_getS (q := 1) dX11_count_86 fo_11_10 (by omega) lo_0 rfl (sh_0_0 hX (by omega)) (by decide) ?_
  refine ev_getS (q := 69) dX11_count_89 fo_11_278 (by omega) lo_1 rfl (sh_1_3 hX (by omega)) (by decide) ?_
  refine ev_getI dX11_count_92 fo_11_282 (by omega) lo_69 rfl ?_
  exact ev_iret dX11_count_95 rfl rfl hp
theorem bX11_count_0_5 {g : GG} {d n : Nat} {post : Option Value → LX → Prop} {X : LX} (hd : 1 ≤ d) (hn : 146 ≤ n) (hX : Sh n X) {v1 : Int32} (c0 : v1 = 4) (hp : post (some (.int (bc (X 1 6)))) X) : Ev g mX11_count d n n post n 0 [some (.ref 0), some (.int v1)] [] X := by
  refine ev_iload_n dX11_count_0 rfl ?_
  refine ev_tabI (tgt := 96) (off := 95) dX11_count_1 (by rw [c0]; decide) (by rw [c0]; decide) (by rw [c0]; rfl) (by decide) ?_
  refine ev_aload_n dX11_count_96 rfl ?_
  refine ev_getS (q := 1) dX11_count_97 fo_11_10 (by omega) lo_0 rfl (sh_0_0 hX (by omega)) (by decide) ?_
  refine ev_getI dX11_count_100 fo_11_118 (by omega) lo_1 rfl ?_
  refine e_Si (as := [.int (X 1 6)]) (rest := []) dX11_count_103 vJ6_bitCount_0f7a4 ml_11_260 stJ6_bitCount_0f7a4 npJ6_bitCount_0f7a4 (by decide) rfl (Nat.le_of_ble_eq_true rfl) (by omega) (k_J6_bitCount_0f7a4 (d := d - 1) (by omega) (by omega) hX ) ?_
  exact ev_iret dX11_count_106 rfl rfl hp
theorem bX11_count_0_6 {g : GG} {d n : Nat} {post : Option Value → LX → Prop} {X : LX} (hd : 1 ≤ d) (hn : 146 ≤ n) (hX : Sh n X) {v1 : Int32} (c0 : v1 = 5) (c1 : ¬ (X 1 8) = 0) (hp : post (some (.int 1)) X) : Ev g mX11_count d n n post n 0 [some (.ref 0), some (.int v1)] [] X := by
  refine ev_iload_n dX11_count_0 rfl ?_
  refine ev_tabI (tgt := 107) (off := 106) dX11_count_1 (by rw [c0]; decide) (by rw [c0]; decide) (by rw [c0]; rfl) (by decide) ?_
  refine ev_aload_n dX11_count_107 rfl ?_
  refine ev_getS (q := 1) dX11_count_108 fo_11_10 (by omega) lo_0 rfl (sh_0_0 hX (by omega)) (by decide) ?_
  refine ev_getI dX11_count_111 fo_11_196 (by omega) lo_1 rfl ?_
  refine e_Si (as := [.int (X 1 8)]) (rest := []) dX11_count_114 vX11_truth ml_11_114 stX11_truth npX11_truth (by decide) rfl (Nat.le_of_ble_eq_true rfl) (by omega) (t_X11_truth (d := d - 1) (by omega) (by omega) hX c1) ?_
  exact ev_iret dX11_count_117 rfl rfl hp
theorem bX11_count_0_7 {g : GG} {d n : Nat} {post : Option Value → LX → Prop} {X : LX} (hd : 1 ≤ d) (hn : 146 ≤ n) (hX : Sh n X) {v1 : Int32} (c0 : v1 = 5) (c1 : ¬ (¬ (X 1 8) = 0)) (hp : post (some (.int 0)) X) : Ev g mX11_count d n n post n 0 [some (.ref 0), some (.int v1)] [] X := by
  refine ev_iload_n dX11_count_0 rfl ?_
  refine ev_tabI (tgt := 107) (off := 106) dX11_count_1 (by rw [c0]; decide) (by rw [c0]; decide) (by rw [c0]; rfl) (by decide) ?_
  refine ev_aload_n dX11_count_107 rfl ?_
  refine ev_getS (q := 1) dX11_count_108 fo_11_10 (by omega) lo_0 rfl (sh_0_0 hX (by omega)) (by decide) ?_
  refine ev_getI dX11_count_111 fo_11_196 (by omega) lo_1 rfl ?_
  refine e_Si (as := [.int (X 1 8)]) (rest := []) dX11_count_114 vX11_truth ml_11_114 stX11_truth npX11_truth (by decide) rfl (Nat.le_of_ble_eq_true rfl) (by omega) (f_X11_truth (d := d - 1) (by omega) (by omega) hX c1) ?_
  exact ev_iret dX11_count_117 rfl rfl hp
theorem bX11_count_0_8 {g : GG} {d n : Nat} {post : Option Value → LX → Prop} {X : LX} (hn : 146 ≤ n) (hX : Sh n X) {v1 : Int32} (c0 : v1 = 6) (hp : post (some (.int (X 1 5))) X) : Ev g mX11_count d n n post n 0 [some (.ref 0), some (.int v1)] [] X := by
  refine ev_iload_n dX11_count_0 rfl ?_
  refine ev_tabI (tgt := 118) (off := 117) dX11_count_1 (by rw [c0]; decide) (by rw [c0]; decide) (by rw [c0]; rfl) (by decide) ?_
  refine ev_aload_n dX11_count_118 rfl ?_
  refine ev_getS (q := 1) dX11_count_119 fo_11_10 (by omega) lo_0 rfl (sh_0_0 hX (by omega)) (by decide) ?_
  refine ev_getI dX11_count_122 fo_11_203 (by omega) lo_1 rfl ?_
  exact ev_iret dX11_count_125 rfl rfl hp
theorem bX11_count_0_9 {g : GG} {d n : Nat} {post : Option Value → LX → Prop} {X : LX} (hn : 146 ≤ n) (hX : Sh n X) {v1 : Int32} (c0 : v1 = 7) (hp : post (some (.int (X 0 7))) X) : Ev g mX11_count d n n post n 0 [some (.ref 0), some (.int v1)] [] X := by
  refine ev_iload_n dX11_count_0 rfl ?_
  refine ev_tabI (tgt := 126) (off := 125) dX11_count_1 (by rw [c0]; decide) (by rw [c0]; decide) (by rw [c0]; rfl) (by decide) ?_
  refine ev_aload_n dX11_count_126 rfl ?_
  refine ev_getI dX11_count_127 fo_11_351 (by omega) lo_0 rfl ?_
  exact ev_iret dX11_count_130 rfl rfl hp
theorem bX11_count_0_10 {g : GG} {d n : Nat} {post : Option Value → LX → Prop} {X : LX} (hn : 146 ≤ n) (hX : Sh n X) {v1 : Int32} (c0 : v1 = 8) (hp : post (some (.int (X 81 1))) X) : Ev g mX11_count d n n post n 0 [some (.ref 0), some (.int v1)] [] X := by
  refine ev_iload_n dX11_count_0 rfl ?_
  refine ev_tabI (tgt := 131) (off := 130) dX11_count_1 (by rw [c0]; decide) (by rw [c0]; decide) (by rw [c0]; rfl) (by decide) ?_
  refine ev_aload_n dX11_count_131 rfl ?_
  refine ev_getS (q := 81) dX11_count_132 fo_11_19 (by omega) lo_0 rfl (sh_0_1 hX (by omega)) (by decide) ?_
  refine ev_getI dX11_count_135 fo_11_215 (by omega) lo_81 rfl ?_
  exact ev_iret dX11_count_138 rfl rfl hp
theorem bX12_count_0_0 {g : GG} {d n : Nat} {post : Option Value → LX → Prop} {X : LX} (hn : 146 ≤ n) (hX : Sh n X) {v1 : Int32} (c0 : v1.toInt < 0 ∨ 8 < v1.toInt) (hp : post (some (.int (-1000000001))) X) : Ev g mX12_count d n n post n 0 [some (.ref 133), some (.int v1)] [] X := by
  refine ev_iload_n dX12_count_0 rfl ?_
  refine ev_tabO (tgt := 117) dX12_count_1 c0 (by decide) ?_
  refine ev_ldc (v := (-1000000001)) dX12_count_117 kw_12_57 ?_
  exact ev_iret dX12_count_119 rfl rfl hp
theorem bX12_count_0_1 {g : GG} {d n : Nat} {post : Option Value → LX → Prop} {X : LX} (hn : 146 ≤ n) (hX : Sh n X) {v1 : Int32} (c0 : v1 = 0) (hp : post (some (.int (X 134 4))) X) : Ev g mX12_count d n n post n 0 [some (.ref 133), some (.int v1)] [] X := by
  refine ev_iload_n dX12_count_0 rfl ?_
  refine ev_tabI (tgt := 52) (off := 51) dX12_count_1 (by rw [c0]; decide) (by rw [c0]; decide) (by rw [c0]; rfl) (by decide) ?_
  refine ev_aload_n dX12_count_52 rfl ?_
  refine ev_getS (q := 134) dX12_count_53 fo_12_9 (by omega) lo_133 rfl (sh_133_0 hX (by omega)) (by decide) ?_
  refine ev_iconst (v := 4) dX12_count_56 ki_4 ?_
  refine ev_iald dX12_count_57 (by omega) ly_134 nIl_4 (by decide) ?_
  exact ev_iret dX12_count_58 rfl rfl hp
theorem bX12_count_0_2 {g : GG} {d n : Nat} {post : Option Value → LX → Prop} {X : LX} (hn : 146 ≤ n) (hX : Sh n X) {v1 : Int32} (c0 : v1 = 1) (hp : post (some (.int (X 134 5))) X) : Ev g mX12_count d n n post n 0 [some (.ref 133), some (.int v1)] [] X := by
  refine ev_iload_n dX12_count_0 rfl ?_
  refine ev_tabI (tgt := 59) (off := 58) dX12_count_1 (by rw [c0]; decide) (by rw [c0]; decide) (by rw [c0]; rfl) (by decide) ?_
  refine ev_aload_n dX12_count_59 rfl ?_
  refine ev_getS (q := 134) dX12_count_60 fo_12_9 (by omega) lo_133 rfl (sh_133_0 hX (by omega)) (by decide) ?_
  refine ev_iconst (v := 5) dX12_count_63 ki_5 ?_
  refine ev_iald dX12_count_64 (by omega) ly_134 nIl_5 (by decide) ?_
  exact ev_iret dX12_count_65 rfl rfl hp
theorem bX12_count_0_3 {g : GG} {d n : Nat} {post : Option Value → LX → Prop} {X : LX} (hn : 146 ≤ n) (hX : Sh n X) {v1 : Int32} (c0 : v1 = 2) (hp : post (some (.int (X 134 6))) X) : Ev g mX12_count d n n post n 0 [some (.ref 133), some (.int v1)] [] X := by
  refine ev_iload_n dX12_count_0 rfl ?_
  refine ev_tabI (tgt := 66) (off := 65) dX12_count_1 (by rw [c0]; decide) (by rw [c0]; decide) (by rw [c0]; rfl) (by decide) ?_
  refine ev_aload_n dX12_count_66 rfl ?_
  refine ev_getS (q := 134) dX12_count_67 fo_12_9 (by omega) lo_133 rfl (sh_133_0 hX (by omega)) (by decide) ?_
  refine ev_bipush (v := 6) dX12_count_70 kb_6 ?_
  refine ev_iald dX12_count_72 (by omega) ly_134 nIl_6 (by decide) ?_
  exact ev_iret dX12_count_73 rfl rfl hp
theorem bX12_count_0_4 {g : GG} {d n : Nat} {post : Option Value → LX → Prop} {X : LX} (hn : 146 ≤ n) (hX : Sh n X) {v1 : Int32} (c0 : v1 = 3) (hp : post (some (.int (X 134 7))) X) : Ev g mX12_count d n n post n 0 [some (.ref 133), some (.int v1)] [] X := by
  refine ev_iload_n dX12_count_0 rfl ?_
  refine ev_tabI (tgt := 74) (off := 73) dX12_count_1 (by rw [c0]; decide) (by rw [c0]; decide) (by rw [c0]; rfl) (by decide) ?_
  refine ev_aload_n dX12_count_74 rfl ?_
  refine ev_getS (q := 134) dX12_count_75 fo_12_9 (by omega) lo_133 rfl (sh_133_0 hX (by omega)) (by decide) ?_
  refine ev_bipush (v := 7) dX12_count_78 kb_7 ?_
  refine ev_iald dX12_count_80 (by omega) ly_134 nIl_7 (by decide) ?_
  exact ev_iret dX12_count_81 rfl rfl hp
theorem bX12_count_0_5 {g : GG} {d n : Nat} {post : Option Value → LX → Prop} {X : LX} (hd : 1 ≤ d) (hn : 146 ≤ n) (hX : Sh n X) {v1 : Int32} (c0 : v1 = 4) (hp : post (some (.int (ones (X 134 8)))) X) : Ev g mX12_count d n n post n 0 [some (.ref 133), some (.int v1)] [] X := by
  refine ev_iload_n dX12_count_0 rfl ?_
  refine ev_tabI (tgt := 82) (off := 81) dX12_count_1 (by rw [c0]; decide) (by rw [c0]; decide) (by rw [c0]; rfl) (by decide) ?_
  refine ev_aload_n dX12_count_82 rfl ?_
  refine ev_getS (q := 134) dX12_count_83 fo_12_9 (by omega) lo_133 rfl (sh_133_0 hX (by omega)) (by decide) ?_
  refine ev_bipush (v := 8) dX12_count_86 kb_8 ?_
  refine ev_iald dX12_count_88 (by omega) ly_134 nIl_8 (by decide) ?_
  refine e_Si (as := [.int (X 134 8)]) (rest := []) dX12_count_89 vX12_ones ml_12_109 stX12_ones npX12_ones (by decide) rfl (Nat.le_of_ble_eq_true rfl) (by omega) (k_X12_ones (d := d - 1) (by omega) (by omega) hX ) ?_
  exact ev_iret dX12_count_92 rfl rfl hp
theorem bX12_count_0_6 {g : GG} {d n : Nat} {post : Option Value → LX → Prop} {X : LX} (hn : 146 ≤ n) (hX : Sh n X) {v1 : Int32} (c0 : v1 = 5) (hp : post (some (.int (X 134 3))) X) : Ev g mX12_count d n n post n 0 [some (.ref 133), some (.int v1)] [] X := by
  refine ev_iload_n dX12_count_0 rfl ?_
  refine ev_tabI (tgt := 93) (off := 92) dX12_count_1 (by rw [c0]; decide) (by rw [c0]; decide) (by rw [c0]; rfl) (by decide) ?_
  refine ev_aload_n dX12_count_93 rfl ?_
  refine ev_getS (q := 134) dX12_count_94 fo_12_9 (by omega) lo_133 rfl (sh_133_0 hX (by omega)) (by decide) ?_
  refine ev_iconst (v := 3) dX12_count_97 ki_3 ?_
  refine ev_iald dX12_count_98 (by omega) ly_134 nIl_3 (by decide) ?_
  exact ev_iret dX12_count_99 rfl rfl hp
theorem bX12_count_0_7 {g : GG} {d n : Nat} {post : Option Value → LX → Prop} {X : LX} (hn : 146 ≤ n) (hX : Sh n X) {v1 : Int32} (c0 : v1 = 6) (hp : post (some (.int (X 134 0))) X) : Ev g mX12_count d n n post n 0 [some (.ref 133), some (.int v1)] [] X := by
  refine ev_iload_n dX12_count_0 rfl ?_
  refine ev_tabI (tgt := 100) (off := 99) dX12_count_1 (by rw [c0]; decide) (by rw [c0]; decide) (by rw [c0]; rfl) (by decide) ?_
  refine ev_aload_n dX12_count_100 rfl ?_
  refine ev_getS (q := 134) dX12_count_101 fo_12_9 (by omega) lo_133 rfl (sh_133_0 hX (by omega)) (by decide) ?_
  refine ev_iconst (v := 0) dX12_count_104 ki_0 ?_
  refine ev_iald dX12_count_105 (by omega) ly_134 nIl_0 (by decide) ?_
  exact ev_iret dX12_count_106 rfl rfl hp
theorem bX12_count_0_8 {g : GG} {d n : Nat} {post : Option Value → LX → Prop} {X : LX} (hn : 146 ≤ n) (hX : Sh n X) {v1 : Int32} (c0 : v1 = 7) (hp : post (some (.int (X 133 6))) X) : Ev g mX12_count d n n post n 0 [some (.ref 133), some (.int v1)] [] X := by
  refine ev_iload_n dX12_count_0 rfl ?_
  refine ev_tabI (tgt := 107) (off := 106) dX12_count_1 (by rw [c0]; decide) (by rw [c0]; decide) (by rw [c0]; rfl) (by decide) ?_
  refine ev_aload_n dX12_count_107 rfl ?_
  refine ev_getI dX12_count_108 fo_12_313 (by omega) lo_133 rfl ?_
  exact ev_iret dX12_count_111 rfl rfl hp
theorem bX12_count_0_9 {g : GG} {d n : Nat} {post : Option Value → LX → Prop} {X : LX} (hn : 146 ≤ n) (hX : Sh n X) {v1 : Int32} (c0 : v1 = 8) (hp : post (some (.int (X 133 4))) X) : Ev g mX12_count d n n post n 0 [some (.ref 133), some (.int v1)] [] X := by
  refine ev_iload_n dX12_count_0 rfl ?_
  refine ev_tabI (tgt := 112) (off := 111) dX12_count_1 (by rw [c0]; decide) (by rw [c0]; decide) (by rw [c0]; rfl) (by decide) ?_
  refine ev_aload_n dX12_count_112 rfl ?_
  refine ev_getI dX12_count_113 fo_12_121 (by omega) lo_133 rfl ?_
  exact ev_iret dX12_count_116 rfl rfl hp
theorem bX11_menu_0_0 {g : GG} {d n : Nat} {post : Option Value → LX → Prop} {X : LX} (hd : 1 ≤ d) (hn : 146 ≤ n) (hX : Sh n X) {v1 : Int32} (c0 : 0 ≤ v1 ∧ v1 >>> ((X 23 0) &&& 31) = 0) (c1 : ¬ X 1 8 = 0) (hp : post (some (.int (-1000000002))) X) : Ev g mX11_menu d n n post n 0 [some (.ref 0), some (.int v1)] [] X := by
  refine ev_iload_n dX11_menu_0 rfl ?_
  refine ev_aload_n dX11_menu_1 rfl ?_
  refine ev_getS (q := 1) dX11_menu_2 fo_11_10 (by omega) lo_0 rfl (sh_0_0 hX (by omega)) (by decide) ?_
  refine ev_getS (q := 23) dX11_menu_5 fo_11_96 (by omega) lo_1 rfl (sh_1_1 hX (by omega)) (by decide) ?_
  refine ev_getI dX11_menu_8 fo_11_100 (by omega) lo_23 rfl ?_
  refine e_Si (as := [.int v1, .int (X 23 0)]) (rest := []) dX11_menu_11 vX11_isBitsBelow ml_11_251 stX11_isBitsBelow npX11_isBitsBelow (by decide) rfl (Nat.le_of_ble_eq_true rfl) (by omega) (t_X11_isBitsBelow (d := d - 1) (by omega) (by omega) hX c0) ?_
  refine ev_ifT (tgt := 20) dX11_menu_14 (by decide) (by show ¬ (1 : Int32) = 0; decide) ?_
  refine ev_aload_n dX11_menu_20 rfl ?_
  refine ev_getS (q := 1) dX11_menu_21 fo_11_10 (by omega) lo_0 rfl (sh_0_0 hX (by omega)) (by decide) ?_
  refine ev_getI dX11_menu_24 fo_11_196 (by omega) lo_1 rfl ?_
  refine ev_ifF (tgt := 33) dX11_menu_27 (by decide) c1 ?_
  refine ev_ldc (v := (-1000000002)) dX11_menu_30 kw_11_124 ?_
  exact ev_iret dX11_menu_32 rfl rfl hp
theorem bX11_menu_0_1 {g : GG} {d n : Nat} {post : Option Value → LX → Prop} {X : LX} (hd : 1 ≤ d) (hn : 146 ≤ n) (hX : Sh n X) {v1 : Int32} (c0 : 0 ≤ v1 ∧ v1 >>> ((X 23 0) &&& 31) = 0) (c1 : X 1 8 = 0) (hp : post (some (.int (bc v1))) (lx_row (lx_up X 1 6 v1) 42 (fillTo ((lx_up X 1 6 v1) 42) 0 12))) : Ev g mX11_menu d n n post n 0 [some (.ref 0), some (.int v1)] [] X := by
  refine ev_iload_n dX11_menu_0 rfl ?_
  refine ev_aload_n dX11_menu_1 rfl ?_
  refine ev_getS (q := 1) dX11_menu_2 fo_11_10 (by omega) lo_0 rfl (sh_0_0 hX (by omega)) (by decide) ?_
  refine ev_getS (q := 23) dX11_menu_5 fo_11_96 (by omega) lo_1 rfl (sh_1_1 hX (by omega)) (by decide) ?_
  refine ev_getI dX11_menu_8 fo_11_100 (by omega) lo_23 rfl ?_
  refine e_Si (as := [.int v1, .int (X 23 0)]) (rest := []) dX11_menu_11 vX11_isBitsBelow ml_11_251 stX11_isBitsBelow npX11_isBitsBelow (by decide) rfl (Nat.le_of_ble_eq_true rfl) (by omega) (t_X11_isBitsBelow (d := d - 1) (by omega) (by omega) hX c0) ?_
  refine ev_ifT (tgt := 20) dX11_menu_14 (by decide) (by show ¬ (1 : Int32) = 0; decide) ?_
  refine ev_aload_n dX11_menu_20 rfl ?_
  refine ev_getS (q := 1) dX11_menu_21 fo_11_10 (by omega) lo_0 rfl (sh_0_0 hX (by omega)) (by decide) ?_
  refine ev_getI dX11_menu_24 fo_11_196 (by omega) lo_1 rfl ?_
  refine ev_ifT (tgt := 33) dX11_menu_27 (by decide) c1 ?_
  refine ev_aload_n dX11_menu_33 rfl ?_
  refine ev_getS (q := 1) dX11_menu_34 fo_11_10 (by omega) lo_0 rfl (sh_0_0 hX (by omega)) (by decide) ?_
  refine ev_iload_n dX11_menu_37 rfl ?_
  refine ev_putI dX11_menu_38 fo_11_118 (by omega) lo_1 rfl rfl rfl ?_
  have hX1 : Sh _ (lx_up X 1 6 v1) := Sh.upF hX (by rw [lo_1]; decide) (by decide)
  refine ev_aload_n dX11_menu_41 rfl ?_
  refine ev_getS (q := 1) dX11_menu_42 fo_11_10 (by omega) lo_0 rfl (sh_0_0 hX1 (by omega)) (by decide) ?_
  refine ev_getS (q := 37) dX11_menu_45 fo_11_144 (by omega) lo_1 rfl (sh_1_2 hX1 (by omega)) (by decide) ?_
  refine ev_getS (q := 42) dX11_menu_48 fo_11_200 (by omega) lo_37 rfl (sh_37_5 hX1 (by omega)) (by decide) ?_
  refine ev_iconst (v := 0) dX11_menu_51 ki_0 ?_
  refine e_Sv (as := [.ref 42, .int 0]) (rest := []) dX11_menu_52 vJ7_fill_53178 ml_11_254 stJ7_fill_53178 npJ7_fill_53178 (by decide) rfl (Nat.le_of_ble_eq_true rfl) (by omega) (c_J7_fill_53178 (d := d - 1) (by omega) (by omega) hX1 (by omega) ly_42) ?_
  have hX2 : Sh _ (lx_row (lx_up X 1 6 v1) 42 (fillTo ((lx_up X 1 6 v1) 42) 0 12)) := Sh.row hX1 (by rw [ly_42]; exact (by decide : 0 < 2))
  refine ev_iload_n dX11_menu_55 rfl ?_
  refine e_Si (as := [.int v1]) (rest := []) dX11_menu_56 vJ6_bitCount_0f7a4 ml_11_260 stJ6_bitCount_0f7a4 npJ6_bitCount_0f7a4 (by decide) rfl (Nat.le_of_ble_eq_true rfl) (by omega) (k_J6_bitCount_0f7a4 (d := d - 1) (by omega) (by omega) hX2 ) ?_
  exact ev_iret dX11_menu_59 rfl rfl hp
theorem bX11_menu_0_2 {g : GG} {d n : Nat} {post : Option Value → LX → Prop} {X : LX} (hd : 1 ≤ d) (hn : 146 ≤ n) (hX : Sh n X) {v1 : Int32} (c0 : ¬ (0 ≤ v1 ∧ v1 >>> ((X 23 0) &&& 31) = 0)) (hp : post (some (.int (-1000000001))) X) : Ev g mX11_menu d n n post n 0 [some (.ref 0), some (.int v1)] [] X := by
  refine ev_iload_n dX11_menu_0 rfl ?_
  refine ev_aload_n dX11_menu_1 rfl ?_
  refine ev_getS (q := 1) dX11_menu_2 fo_11_10 (by omega) lo_0 rfl (sh_0_0 hX (by omega)) (by decide) ?_
  refine ev_getS (q := 23) dX11_menu_5 fo_11_96 (by omega) lo_1 rfl (sh_1_1 hX (by omega)) (by decide) ?_
  refine ev_getI dX11_menu_8 fo_11_100 (by omega) lo_23 rfl ?_
  refine e_Si (as := [.int v1, .int (X 23 0)]) (rest := []) dX11_menu_11 vX11_isBitsBelow ml_11_251 stX11_isBitsBelow npX11_isBitsBelow (by decide) rfl (Nat.le_of_ble_eq_true rfl) (by omega) (f_X11_isBitsBelow (d := d - 1) (by omega) (by omega) hX c0) ?_
  refine ev_ifF (tgt := 20) dX11_menu_14 (by decide) (by show (0 : Int32) = 0; decide) ?_
  refine ev_ldc (v := (-1000000001)) dX11_menu_17 kw_11_61 ?_
  exact ev_iret dX11_menu_19 rfl rfl hp
theorem bX12_menu_0_0 {g : GG} {d n : Nat} {post : Option Value → LX → Prop} {X : LX} (hn : 146 ≤ n) (hX : Sh n X) {v1 : Int32} (k : Ev g mX12_menu d n n post n 2 [some (.ref 133), some (.int v1), none] [.int v1, .ref 133] X) : Ev g mX12_menu d n n post n 0 [some (.ref 133), some (.int v1), none] [] X := by
  refine ev_aload_n dX12_menu_0 rfl ?_
  refine ev_iload_n dX12_menu_1 rfl ?_
  exact k
theorem bX12_menu_5_0 {g : GG} {d n : Nat} {post : Option Value → LX → Prop} {X : LX} (hn : 146 ≤ n) (hX : Sh n X) {v1 : Int32} {s0 : Int32} (c0 : s0 = 0) (hp : post (some (.int (-1000000001))) X) : Ev g mX12_menu d n n post n 5 [some (.ref 133), some (.int v1), none] [.int s0] X := by
  refine ev_ifF (tgt := 11) dX12_menu_5 (by decide) c0 ?_
  refine ev_ldc (v := (-1000000001)) dX12_menu_8 kw_12_57 ?_
  exact ev_iret dX12_menu_10 rfl rfl hp
theorem bX12_menu_5_1 {g : GG} {d n : Nat} {post : Option Value → LX → Prop} {X : LX} (hn : 146 ≤ n) (hX : Sh n X) {v1 : Int32} {s0 : Int32} (c0 : ¬ s0 = 0) (c1 : X 134 3 = 1) (hp : post (some (.int (-1000000002))) X) : Ev g mX12_menu d n n post n 5 [some (.ref 133), some (.int v1), none] [.int s0] X := by
  refine ev_ifT (tgt := 11) dX12_menu_5 (by decide) c0 ?_
  refine ev_aload_n dX12_menu_11 rfl ?_
  refine ev_getS (q := 134) dX12_menu_12 fo_12_9 (by omega) lo_133 rfl (sh_133_0 hX (by omega)) (by decide) ?_
  refine ev_iconst (v := 3) dX12_menu_15 ki_3 ?_
  refine ev_iald dX12_menu_16 (by omega) ly_134 nIl_3 (by decide) ?_
  refine ev_iconst (v := 1) dX12_menu_17 ki_1 ?_
  refine ev_icmpF (tgt := 24) dX12_menu_18 (by decide) c1 ?_
  refine ev_ldc (v := (-1000000002)) dX12_menu_21 kw_12_80 ?_
  exact ev_iret dX12_menu_23 rfl rfl hp
theorem bX12_menu_5_2 {g : GG} {d n : Nat} {post : Option Value → LX → Prop} {X : LX} (hn : 146 ≤ n) (hX : Sh n X) {v1 : Int32} {s0 : Int32} (c0 : ¬ s0 = 0) (c1 : ¬ X 134 3 = 1) (k : Ev g mX12_menu d n n post n 34 [some (.ref 133), some (.int v1), some (.int 0)] [] (lx_up X 134 8 v1)) : Ev g mX12_menu d n n post n 5 [some (.ref 133), some (.int v1), none] [.int s0] X := by
  refine ev_ifT (tgt := 11) dX12_menu_5 (by decide) c0 ?_
  refine ev_aload_n dX12_menu_11 rfl ?_
  refine ev_getS (q := 134) dX12_menu_12 fo_12_9 (by omega) lo_133 rfl (sh_133_0 hX (by omega)) (by decide) ?_
  refine ev_iconst (v := 3) dX12_menu_15 ki_3 ?_
  refine ev_iald dX12_menu_16 (by omega) ly_134 nIl_3 (by decide) ?_
  refine ev_iconst (v := 1) dX12_menu_17 ki_1 ?_
  refine ev_icmpT (tgt := 24) dX12_menu_18 (by decide) c1 ?_
  refine ev_aload_n dX12_menu_24 rfl ?_
  refine ev_getS (q := 134) dX12_menu_25 fo_12_9 (by omega) lo_133 rfl (sh_133_0 hX (by omega)) (by decide) ?_
  refine ev_bipush (v := 8) dX12_menu_28 kb_8 ?_
  refine ev_iload_n dX12_menu_30 rfl ?_
  refine ev_iast dX12_menu_31 (by omega) ly_134 nIl_8 (by decide) ?_
  have hX1 : Sh _ (lx_up X 134 8 v1) := Sh.upA hX (by rw [ly_134]; exact (by decide : 0 < 2))
  refine ev_iconst (v := 0) dX12_menu_32 ki_0 ?_
  refine ev_istore_n dX12_menu_33 (by decide) ?_
  exact k
theorem bX12_menu_34_0 {g : GG} {d n : Nat} {post : Option Value → LX → Prop} {X : LX} (hd : 1 ≤ d) (hn : 146 ≤ n) (hX : Sh n X) {v1 : Int32} {v2 : Nat} (c0 : ¬ X 134 6 ≤ nI v2) (b0 : ((448 + (15 * v2)) + 4) < 2156) (k : Ev g mX12_menu d n n post n 34 [some (.ref 133), some (.int v1), some (.int ((nI v2) + 1))] [] (lx_up X 134 ((448 + (15 * v2)) + 4) 0)) : Ev g mX12_menu d n n post n 34 [some (.ref 133), some (.int v1), some (.int (nI v2))] [] X := by
  refine ev_iload_n dX12_menu_34 rfl ?_
  refine ev_aload_n dX12_menu_35 rfl ?_
  refine ev_getS (q := 134) dX12_menu_36 fo_12_9 (by omega) lo_133 rfl (sh_133_0 hX (by omega)) (by decide) ?_
  refine ev_bipush (v := 6) dX12_menu_39 kb_6 ?_
  refine ev_iald dX12_menu_41 (by omega) ly_134 nIl_6 (by decide) ?_
  refine ev_icmpF (tgt := 62) dX12_menu_42 (by decide) c0 ?_
  refine ev_aload_n dX12_menu_45 rfl ?_
  refine ev_getS (q := 134) dX12_menu_46 fo_12_9 (by omega) lo_133 rfl (sh_133_0 hX (by omega)) (by decide) ?_
  refine ev_iload_n dX12_menu_49 rfl ?_
  refine ev_iconst (v := 4) dX12_menu_50 ki_4 ?_
  refine e_Si (as := [.int (nI v2), .int 4]) (rest := [.ref 134]) dX12_menu_51 vX12_ofFamily ml_12_99 stX12_ofFamily npX12_ofFamily (by decide) rfl (Nat.le_of_ble_eq_true rfl) (by omega) (c_X12_ofFamily (d := d - 1) (by omega) (by omega) hX ) ?_
  refine ev_iconst (v := 0) dX12_menu_54 ki_0 ?_
  refine ev_iast dX12_menu_55 (by omega) ly_134 (by show (nI 448 + (nI 15 * nI v2)) + nI 4 = nI ((448 + (15 * v2)) + 4); simp only [pk_mul, nI_add]) b0 ?_
  have hX1 : Sh _ (lx_up X 134 ((448 + (15 * v2)) + 4) 0) := Sh.upA hX (by rw [ly_134]; exact (by decide : 0 < 2))
  refine ev_iinc (v := (nI v2) + 1) dX12_menu_56 rfl (by rw [show Int32.ofInt 1 = 1 from ki_1]) (by decide) ?_
  refine ev_goto (tgt := 34) dX12_menu_59 (by decide) ?_
  exact k
theorem bX12_menu_34_1 {g : GG} {d n : Nat} {post : Option Value → LX → Prop} {X : LX} (hd : 1 ≤ d) (hn : 146 ≤ n) (hX : Sh n X) {v1 : Int32} {v2 : Int32} (c0 : X 134 6 ≤ v2) (hp : post (some (.int (ones v1))) X) : Ev g mX12_menu d n n post n 34 [some (.ref 133), some (.int v1), some (.int v2)] [] X := by
  refine ev_iload_n dX12_menu_34 rfl ?_
  refine ev_aload_n dX12_menu_35 rfl ?_
  refine ev_getS (q := 134) dX12_menu_36 fo_12_9 (by omega) lo_133 rfl (sh_133_0 hX (by omega)) (by decide) ?_
  refine ev_bipush (v := 6) dX12_menu_39 kb_6 ?_
  refine ev_iald dX12_menu_41 (by omega) ly_134 nIl_6 (by decide) ?_
  refine ev_icmpT (tgt := 62) dX12_menu_42 (by decide) c0 ?_
  refine ev_iload_n dX12_menu_62 rfl ?_
  refine e_Si (as := [.int v1]) (rest := []) dX12_menu_63 vX12_ones ml_12_109 stX12_ones npX12_ones (by decide) rfl (Nat.le_of_ble_eq_true rfl) (by omega) (k_X12_ones (d := d - 1) (by omega) (by omega) hX ) ?_
  exact ev_iret dX12_menu_66 rfl rfl hp
theorem bX11_sheet_0_0 {g : GG} {d n : Nat} {post : Option Value → LX → Prop} {X : LX} (hd : 1 ≤ d) (hn : 146 ≤ n) (hX : Sh n X) {v1 : Int32} {v2 : Int32} (c0 : 0 ≤ v1 ∧ v1 < 2) (c1 : ¬ v2 ≤ 16) (hp : post (some (.int (-1000000001))) X) : Ev g mX11_sheet d n n post n 0 [some (.ref 0), some (.int v1), some (.int v2)] [] X := by
  refine ev_aload_n dX11_sheet_0 rfl ?_
  refine ev_getS (q := 127) dX11_sheet_1 fo_11_49 (by omega) lo_0 rfl (sh_0_5 hX (by omega)) (by decide) ?_
  refine ev_iload_n dX11_sheet_4 rfl ?_
  refine e_Vi (as := [.int v1]) (rest := []) dX11_sheet_5 vX9_isNumber ml_11_170 isX9_isNumber seX9_isNumber npX9_isNumber (rc_127 (by omega)) (by decide) rfl (Nat.le_of_ble_eq_true rfl) (by omega) (t_X9_isNumber (d := d - 1) (by omega) (by omega) hX c0) ?_
  refine ev_ifF (tgt := 17) dX11_sheet_8 (by decide) (by show ¬ (1 : Int32) = 0; decide) ?_
  refine ev_iload_n dX11_sheet_11 rfl ?_
  refine ev_bipush (v := 16) dX11_sheet_12 kb_16 ?_
  refine ev_icmpF (tgt := 20) dX11_sheet_14 (by decide) c1 ?_
  refine ev_ldc (v := (-1000000001)) dX11_sheet_17 kw_11_61 ?_
  exact ev_iret dX11_sheet_19 rfl rfl hp
theorem bX11_sheet_0_1 {g : GG} {d n : Nat} {post : Option Value → LX → Prop} {X : LX} (hd : 1 ≤ d) (hn : 146 ≤ n) (hX : Sh n X) {v1 : Int32} {v2 : Int32} (c0 : 0 ≤ v1 ∧ v1 < 2) (c1 : v2 ≤ 16) (c2 : ¬ 0 ≤ v2) (hp : post (some (.int (-1000000014))) X) : Ev g mX11_sheet d n n post n 0 [some (.ref 0), some (.int v1), some (.int v2)] [] X := by
  refine ev_aload_n dX11_sheet_0 rfl ?_
  refine ev_getS (q := 127) dX11_sheet_1 fo_11_49 (by omega) lo_0 rfl (sh_0_5 hX (by omega)) (by decide) ?_
  refine ev_iload_n dX11_sheet_4 rfl ?_
  refine e_Vi (as := [.int v1]) (rest := []) dX11_sheet_5 vX9_isNumber ml_11_170 isX9_isNumber seX9_isNumber npX9_isNumber (rc_127 (by omega)) (by decide) rfl (Nat.le_of_ble_eq_true rfl) (by omega) (t_X9_isNumber (d := d - 1) (by omega) (by omega) hX c0) ?_
  refine ev_ifF (tgt := 17) dX11_sheet_8 (by decide) (by show ¬ (1 : Int32) = 0; decide) ?_
  refine ev_iload_n dX11_sheet_11 rfl ?_
  refine ev_bipush (v := 16) dX11_sheet_12 kb_16 ?_
  refine ev_icmpT (tgt := 20) dX11_sheet_14 (by decide) c1 ?_
  refine ev_iload_n dX11_sheet_20 rfl ?_
  refine ev_ifF (tgt := 28) dX11_sheet_21 (by decide) c2 ?_
  refine ev_ldcw (v := (-1000000014)) dX11_sheet_24 kw_11_367 ?_
  exact ev_iret dX11_sheet_27 rfl rfl hp
theorem bX11_sheet_0_2 {g : GG} {d n : Nat} {post : Option Value → LX → Prop} {X : LX} (hd : 1 ≤ d) (hn : 146 ≤ n) (hX : Sh n X) {v1 : Nat} {v2 : Int32} (c0 : 0 ≤ (nI v1) ∧ (nI v1) < 2) (c1 : v2 ≤ 16) (c2 : 0 ≤ v2) (b0 : v1 < 2) (hp : post (some (.int v2)) (lx_up (lx_row X (128 + 1 + v1) (fillTo (X (128 + 1 + v1)) (0 : Int32).toInt16.toInt32 16)) 131 v1 v2)) : Ev g mX11_sheet d n n post n 0 [some (.ref 0), some (.int (nI v1)), some (.int v2)] [] X := by
  refine ev_aload_n dX11_sheet_0 rfl ?_
  refine ev_getS (q := 127) dX11_sheet_1 fo_11_49 (by omega) lo_0 rfl (sh_0_5 hX (by omega)) (by decide) ?_
  refine ev_iload_n dX11_sheet_4 rfl ?_
  refine e_Vi (as := [.int (nI v1)]) (rest := []) dX11_sheet_5 vX9_isNumber ml_11_170 isX9_isNumber seX9_isNumber npX9_isNumber (rc_127 (by omega)) (by decide) rfl (Nat.le_of_ble_eq_true rfl) (by omega) (t_X9_isNumber (d := d - 1) (by omega) (by omega) hX c0) ?_
  refine ev_ifF (tgt := 17) dX11_sheet_8 (by decide) (by show ¬ (1 : Int32) = 0; decide) ?_
  refine ev_iload_n dX11_sheet_11 rfl ?_
  refine ev_bipush (v := 16) dX11_sheet_12 kb_16 ?_
  refine ev_icmpT (tgt := 20) dX11_sheet_14 (by decide) c1 ?_
  refine ev_iload_n dX11_sheet_20 rfl ?_
  refine ev_ifT (tgt := 28) dX11_sheet_21 (by decide) c2 ?_
  refine ev_aload_n dX11_sheet_28 rfl ?_
  refine ev_getS (q := 127) dX11_sheet_29 fo_11_49 (by omega) lo_0 rfl (sh_0_5 hX (by omega)) (by decide) ?_
  refine ev_getS (q := 128) dX11_sheet_32 fo_11_186 (by omega) lo_127 rfl (sh_127_0 hX (by omega)) (by decide) ?_
  refine ev_iload_n dX11_sheet_35 rfl ?_
  refine ev_aald (q := 128 + 1 + v1) dX11_sheet_36 (by omega) (Or.inr ly_128) rfl b0 (hX.2 128 v1 (by omega) (Or.inr (by rw [ly_128])) (by rw [ly_128]; exact b0)) (by first | omega | (have := LY_l ly_128; have := LY_lt (show (LY 128).1 < 99 by rw [ly_128]; exact (by decide : 3 < 99)); omega)) ?_
  refine ev_iconst (v := 0) dX11_sheet_37 ki_0 ?_
  refine e_Sv (as := [.ref (128 + 1 + v1), .int 0]) (rest := []) dX11_sheet_38 vJ7_fill_fb410 ml_11_368 stJ7_fill_fb410 npJ7_fill_fb410 (by decide) rfl (Nat.le_of_ble_eq_true rfl) (by omega) (c_J7_fill_fb410 (d := d - 1) (by omega) (by omega) hX (by have := b0; omega) (lyr_128 _ b0)) ?_
  have hX1 : Sh _ (lx_row X (128 + 1 + v1) (fillTo (X (128 + 1 + v1)) (0 : Int32).toInt16.toInt32 16)) := Sh.row hX (by rw [(lyr_128 _ b0)]; exact (by decide : 1 < 2))
  refine ev_aload_n dX11_sheet_41 rfl ?_
  refine ev_getS (q := 127) dX11_sheet_42 fo_11_49 (by omega) lo_0 rfl (sh_0_5 hX1 (by omega)) (by decide) ?_
  refine ev_getS (q := 131) dX11_sheet_45 fo_11_177 (by omega) lo_127 rfl (sh_127_1 hX1 (by omega)) (by decide) ?_
  refine ev_iload_n dX11_sheet_48 rfl ?_
  refine ev_iload_n dX11_sheet_49 rfl ?_
  refine ev_iast dX11_sheet_50 (by omega) ly_131 rfl b0 ?_
  have hX2 : Sh _ (lx_up (lx_row X (128 + 1 + v1) (fillTo (X (128 + 1 + v1)) (0 : Int32).toInt16.toInt32 16)) 131 v1 v2) := Sh.upA hX1 (by rw [ly_131]; exact (by decide : 0 < 2))
  refine ev_iload_n dX11_sheet_51 rfl ?_
  exact ev_iret dX11_sheet_52 rfl rfl hp
theorem bX11_sheet_0_3 {g : GG} {d n : Nat} {post : Option Value → LX → Prop} {X : LX} (hd : 1 ≤ d) (hn : 146 ≤ n) (hX : Sh n X) {v1 : Int32} {v2 : Int32} (c0 : ¬ (0 ≤ v1 ∧ v1 < 2)) (hp : post (some (.int (-1000000001))) X) : Ev g mX11_sheet d n n post n 0 [some (.ref 0), some (.int v1), some (.int v2)] [] X := by
  refine ev_aload_n dX11_sheet_0 rfl ?_
  refine ev_getS (q := 127) dX11_sheet_1 fo_11_49 (by omega) lo_0 rfl (sh_0_5 hX (by omega)) (by decide) ?_
  refine ev_iload_n dX11_sheet_4 rfl ?_
  refine e_Vi (as := [.int v1]) (rest := []) dX11_sheet_5 vX9_isNumber ml_11_170 isX9_isNumber seX9_isNumber npX9_isNumber (rc_127 (by omega)) (by decide) rfl (Nat.le_of_ble_eq_true rfl) (by omega) (f_X9_isNumber (d := d - 1) (by omega) (by omega) hX c0) ?_
  refine ev_ifT (tgt := 17) dX11_sheet_8 (by decide) (by show (0 : Int32) = 0; decide) ?_
  refine ev_ldc (v := (-1000000001)) dX11_sheet_17 kw_11_61 ?_
  exact ev_iret dX11_sheet_19 rfl rfl hp
theorem bX12_sheet_0_0 {g : GG} {d n : Nat} {post : Option Value → LX → Prop} {X : LX} (hd : 1 ≤ d) (hn : 146 ≤ n) (hX : Sh n X) {v1 : Int32} {v2 : Int32} (c0 : 0 ≤ v1 ∧ v1 ≤ 1) (c1 : ¬ v2 ≤ 16) (hp : post (some (.int (-1000000001))) X) : Ev g mX12_sheet d n n post n 0 [some (.ref 133), some (.int v1), some (.int v2), none] [] X := by
  refine ev_iload_n dX12_sheet_0 rfl ?_
  refine ev_iconst (v := 0) dX12_sheet_1 ki_0 ?_
  refine ev_iconst (v := 1) dX12_sheet_2 ki_1 ?_
  refine e_Si (as := [.int v1, .int 0, .int 1]) (rest := []) dX12_sheet_3 vX12_within ml_12_52 stX12_within npX12_within (by decide) rfl (Nat.le_of_ble_eq_true rfl) (by omega) (t_X12_within (d := d - 1) (by omega) (by omega) hX c0) ?_
  refine ev_ifF (tgt := 15) dX12_sheet_6 (by decide) (by show ¬ (1 : Int32) = 0; decide) ?_
  refine ev_iload_n dX12_sheet_9 rfl ?_
  refine ev_bipush (v := 16) dX12_sheet_10 kb_16 ?_
  refine ev_icmpF (tgt := 18) dX12_sheet_12 (by decide) c1 ?_
  refine ev_ldc (v := (-1000000001)) dX12_sheet_15 kw_12_57 ?_
  exact ev_iret dX12_sheet_17 rfl rfl hp
theorem bX12_sheet_0_1 {g : GG} {d n : Nat} {post : Option Value → LX → Prop} {X : LX} (hd : 1 ≤ d) (hn : 146 ≤ n) (hX : Sh n X) {v1 : Int32} {v2 : Int32} (c0 : 0 ≤ v1 ∧ v1 ≤ 1) (c1 : v2 ≤ 16) (c2 : ¬ 0 ≤ v2) (hp : post (some (.int (-1000000014))) X) : Ev g mX12_sheet d n n post n 0 [some (.ref 133), some (.int v1), some (.int v2), none] [] X := by
  refine ev_iload_n dX12_sheet_0 rfl ?_
  refine ev_iconst (v := 0) dX12_sheet_1 ki_0 ?_
  refine ev_iconst (v := 1) dX12_sheet_2 ki_1 ?_
  refine e_Si (as := [.int v1, .int 0, .int 1]) (rest := []) dX12_sheet_3 vX12_within ml_12_52 stX12_within npX12_within (by decide) rfl (Nat.le_of_ble_eq_true rfl) (by omega) (t_X12_within (d := d - 1) (by omega) (by omega) hX c0) ?_
  refine ev_ifF (tgt := 15) dX12_sheet_6 (by decide) (by show ¬ (1 : Int32) = 0; decide) ?_
  refine ev_iload_n dX12_sheet_9 rfl ?_
  refine ev_bipush (v := 16) dX12_sheet_10 kb_16 ?_
  refine ev_icmpT (tgt := 18) dX12_sheet_12 (by decide) c1 ?_
  refine ev_iload_n dX12_sheet_18 rfl ?_
  refine ev_ifF (tgt := 26) dX12_sheet_19 (by decide) c2 ?_
  refine ev_ldcw (v := (-1000000014)) dX12_sheet_22 kw_12_319 ?_
  exact ev_iret dX12_sheet_25 rfl rfl hp
theorem bX12_sheet_0_2 {g : GG} {d n : Nat} {post : Option Value → LX → Prop} {X : LX} (hd : 1 ≤ d) (hn : 146 ≤ n) (hX : Sh n X) {v1 : Nat} {v2 : Int32} (c0 : 0 ≤ (nI v1) ∧ (nI v1) ≤ 1) (c1 : v2 ≤ 16) (c2 : 0 ≤ v2) (b0 : v1 < 2) (k : Ev g mX12_sheet d n n post n 35 [some (.ref 133), some (.int (nI v1)), some (.int v2), some (.int 0)] [] (lx_up X 138 v1 v2)) : Ev g mX12_sheet d n n post n 0 [some (.ref 133), some (.int (nI v1)), some (.int v2), none] [] X := by
  refine ev_iload_n dX12_sheet_0 rfl ?_
  refine ev_iconst (v := 0) dX12_sheet_1 ki_0 ?_
  refine ev_iconst (v := 1) dX12_sheet_2 ki_1 ?_
  refine e_Si (as := [.int (nI v1), .int 0, .int 1]) (rest := []) dX12_sheet_3 vX12_within ml_12_52 stX12_within npX12_within (by decide) rfl (Nat.le_of_ble_eq_true rfl) (by omega) (t_X12_within (d := d - 1) (by omega) (by omega) hX c0) ?_
  refine ev_ifF (tgt := 15) dX12_sheet_6 (by decide) (by show ¬ (1 : Int32) = 0; decide) ?_
  refine ev_iload_n dX12_sheet_9 rfl ?_
  refine ev_bipush (v := 16) dX12_sheet_10 kb_16 ?_
  refine ev_icmpT (tgt := 18) dX12_sheet_12 (by decide) c1 ?_
  refine ev_iload_n dX12_sheet_18 rfl ?_
  refine ev_ifT (tgt := 26) dX12_sheet_19 (by decide) c2 ?_
  refine ev_aload_n dX12_sheet_26 rfl ?_
  refine ev_getS (q := 138) dX12_sheet_27 fo_12_22 (by omega) lo_133 rfl (sh_133_7 hX (by omega)) (by decide) ?_
  refine ev_iload_n dX12_sheet_30 rfl ?_
  refine ev_iload_n dX12_sheet_31 rfl ?_
  refine ev_iast dX12_sheet_32 (by omega) ly_138 rfl b0 ?_
  have hX1 : Sh _ (lx_up X 138 v1 v2) := Sh.upA hX (by rw [ly_138]; exact (by decide : 0 < 2))
  refine ev_iconst (v := 0) dX12_sheet_33 ki_0 ?_
  refine ev_istore_n dX12_sheet_34 (by decide) ?_
  exact k
theorem bX12_sheet_0_3 {g : GG} {d n : Nat} {post : Option Value → LX → Prop} {X : LX} (hd : 1 ≤ d) (hn : 146 ≤ n) (hX : Sh n X) {v1 : Int32} {v2 : Int32} (c0 : ¬ (0 ≤ v1 ∧ v1 ≤ 1)) (hp : post (some (.int (-1000000001))) X) : Ev g mX12_sheet d n n post n 0 [some (.ref 133), some (.int v1), some (.int v2), none] [] X := by
  refine ev_iload_n dX12_sheet_0 rfl ?_
  refine ev_iconst (v := 0) dX12_sheet_1 ki_0 ?_
  refine ev_iconst (v := 1) dX12_sheet_2 ki_1 ?_
  refine e_Si (as := [.int v1, .int 0, .int 1]) (rest := []) dX12_sheet_3 vX12_within ml_12_52 stX12_within npX12_within (by decide) rfl (Nat.le_of_ble_eq_true rfl) (by omega) (f_X12_within (d := d - 1) (by omega) (by omega) hX c0) ?_
  refine ev_ifT (tgt := 15) dX12_sheet_6 (by decide) (by show (0 : Int32) = 0; decide) ?_
  refine ev_ldc (v := (-1000000001)) dX12_sheet_15 kw_12_57 ?_
  exact ev_iret dX12_sheet_17 rfl rfl hp
theorem bX12_sheet_35_0 {g : GG} {d n : Nat} {post : Option Value → LX → Prop} {X : LX} (hn : 146 ≤ n) (hX : Sh n X) {v1 : Nat} {v2 : Int32} {v3 : Nat} (c0 : ¬ 16 ≤ nI v3) (b0 : ((16 * v1) + v3) < 32) (k : Ev g mX12_sheet d n n post n 35 [some (.ref 133), some (.int (nI v1)), some (.int v2), some (.int ((nI v3) + 1))] [] (lx_up X 139 ((16 * v1) + v3) 0)) : Ev g mX12_sheet d n n post n 35 [some (.ref 133), some (.int (nI v1)), some (.int v2), some (.int (nI v3))] [] X := by
  refine ev_iload_n dX12_sheet_35 rfl ?_
  refine ev_bipush (v := 16) dX12_sheet_36 kb_16 ?_
  refine ev_icmpF (tgt := 59) dX12_sheet_38 (by decide) c0 ?_
  refine ev_aload_n dX12_sheet_41 rfl ?_
  refine ev_getS (q := 139) dX12_sheet_42 fo_12_25 (by omega) lo_133 rfl (sh_133_8 hX (by omega)) (by decide) ?_
  refine ev_bipush (v := 16) dX12_sheet_45 kb_16 ?_
  refine ev_iload_n dX12_sheet_47 rfl ?_
  refine ev_imul dX12_sheet_48 ?_
  refine ev_iload_n dX12_sheet_49 rfl ?_
  refine ev_iadd dX12_sheet_50 ?_
  refine ev_iconst (v := 0) dX12_sheet_51 ki_0 ?_
  refine ev_iast dX12_sheet_52 (by omega) ly_139 (by show (nI 16 * nI v1) + nI v3 = nI ((16 * v1) + v3); simp only [pk_mul, nI_add]) b0 ?_
  have hX1 : Sh _ (lx_up X 139 ((16 * v1) + v3) 0) := Sh.upA hX (by rw [ly_139]; exact (by decide : 0 < 2))
  refine ev_iinc (v := (nI v3) + 1) dX12_sheet_53 rfl (by rw [show Int32.ofInt 1 = 1 from ki_1]) (by decide) ?_
  refine ev_goto (tgt := 35) dX12_sheet_56 (by decide) ?_
  exact k
theorem bX12_sheet_35_1 {g : GG} {d n : Nat} {post : Option Value → LX → Prop} {X : LX} (hn : 146 ≤ n) (hX : Sh n X) {v1 : Int32} {v2 : Int32} {v3 : Int32} (c0 : 16 ≤ v3) (hp : post (some (.int v2)) X) : Ev g mX12_sheet d n n post n 35 [some (.ref 133), some (.int v1), some (.int v2), some (.int v3)] [] X := by
  refine ev_iload_n dX12_sheet_35 rfl ?_
  refine ev_bipush (v := 16) dX12_sheet_36 kb_16 ?_
  refine ev_icmpT (tgt := 59) dX12_sheet_38 (by decide) c0 ?_
  refine ev_iload_n dX12_sheet_59 rfl ?_
  exact ev_iret dX12_sheet_60 rfl rfl hp
theorem bX11_mark_0_0 {g : GG} {d n : Nat} {post : Option Value → LX → Prop} {X : LX} (hd : 1 ≤ d) (hn : 146 ≤ n) (hX : Sh n X) {v1 : Nat} {v2 : Int32} {v3 : Int32} (c0 : 0 ≤ (nI v1) ∧ (nI v1) < 2) (c1 : v1 < 2) (c2 : X 131 v1 < 0) (hp : post (some (.int (-1000000011))) X) : Ev g mX11_mark d n n post n 0 [some (.ref 0), some (.int (nI v1)), some (.int v2), some (.int v3), none] [] X := by
  refine ev_aload_n dX11_mark_0 rfl ?_
  refine ev_getS (q := 127) dX11_mark_1 fo_11_49 (by omega) lo_0 rfl (sh_0_5 hX (by omega)) (by decide) ?_
  refine ev_iload_n dX11_mark_4 rfl ?_
  refine e_Vi (as := [.int (nI v1)]) (rest := []) dX11_mark_5 vX9_isNumber ml_11_170 isX9_isNumber seX9_isNumber npX9_isNumber (rc_127 (by omega)) (by decide) rfl (Nat.le_of_ble_eq_true rfl) (by omega) (t_X9_isNumber (d := d - 1) (by omega) (by omega) hX c0) ?_
  refine ev_ifT (tgt := 14) dX11_mark_8 (by decide) (by show ¬ (1 : Int32) = 0; decide) ?_
  refine ev_aload_n dX11_mark_14 rfl ?_
  refine ev_getS (q := 127) dX11_mark_15 fo_11_49 (by omega) lo_0 rfl (sh_0_5 hX (by omega)) (by decide) ?_
  refine ev_iload_n dX11_mark_18 rfl ?_
  refine e_Vi (as := [.int (nI v1)]) (rest := []) dX11_mark_19 vX9_isMissing ml_11_173 isX9_isMissing seX9_isMissing npX9_isMissing (rc_127 (by omega)) (by decide) rfl (Nat.le_of_ble_eq_true rfl) (by omega) (t_X9_isMissing (d := d - 1) (by omega) (by omega) hX c1 c2) ?_
  refine ev_ifF (tgt := 28) dX11_mark_22 (by decide) (by show ¬ (1 : Int32) = 0; decide) ?_
  refine ev_ldc (v := (-1000000011)) dX11_mark_25 kw_11_176 ?_
  exact ev_iret dX11_mark_27 rfl rfl hp
theorem bX11_mark_0_1 {g : GG} {d n : Nat} {post : Option Value → LX → Prop} {X : LX} (hd : 1 ≤ d) (hn : 146 ≤ n) (hX : Sh n X) {v1 : Nat} {v2 : Nat} {v3 : Int32} (c0 : 0 ≤ (nI v1) ∧ (nI v1) < 2) (c1 : v1 < 2) (c2 : ¬ (X 131 v1 < 0)) (c3 : 0 ≤ (nI v2) ∧ (0 : Int32) ≤ 1 ∧ (nI v2) ≤ X 131 v1 ∧ 1 ≤ X 131 v1 - (nI v2)) (b0 : v1 < 2) (b1 : v2 < 16) (hp : post (some (.int (X (128 + 1 + v1) v2))) (lx_up X (128 + 1 + v1) v2 v3.toInt16.toInt32.toInt16.toInt32)) : Ev g mX11_mark d n n post n 0 [some (.ref 0), some (.int (nI v1)), some (.int (nI v2)), some (.int v3), none] [] X := by
  refine ev_aload_n dX11_mark_0 rfl ?_
  refine ev_getS (q := 127) dX11_mark_1 fo_11_49 (by omega) lo_0 rfl (sh_0_5 hX (by omega)) (by decide) ?_
  refine ev_iload_n dX11_mark_4 rfl ?_
  refine e_Vi (as := [.int (nI v1)]) (rest := []) dX11_mark_5 vX9_isNumber ml_11_170 isX9_isNumber seX9_isNumber npX9_isNumber (rc_127 (by omega)) (by decide) rfl (Nat.le_of_ble_eq_true rfl) (by omega) (t_X9_isNumber (d := d - 1) (by omega) (by omega) hX c0) ?_
  refine ev_ifT (tgt := 14) dX11_mark_8 (by decide) (by show ¬ (1 : Int32) = 0; decide) ?_
  refine ev_aload_n dX11_mark_14 rfl ?_
  refine ev_getS (q := 127) dX11_mark_15 fo_11_49 (by omega) lo_0 rfl (sh_0_5 hX (by omega)) (by decide) ?_
  refine ev_iload_n dX11_mark_18 rfl ?_
  refine e_Vi (as := [.int (nI v1)]) (rest := []) dX11_mark_19 vX9_isMissing ml_11_173 isX9_isMissing seX9_isMissing npX9_isMissing (rc_127 (by omega)) (by decide) rfl (Nat.le_of_ble_eq_true rfl) (by omega) (f_X9_isMissing (d := d - 1) (by omega) (by omega) hX c1 c2) ?_
  refine ev_ifT (tgt := 28) dX11_mark_22 (by decide) (by show (0 : Int32) = 0; decide) ?_
  refine ev_aload_n dX11_mark_28 rfl ?_
  refine ev_getS (q := 127) dX11_mark_29 fo_11_49 (by omega) lo_0 rfl (sh_0_5 hX (by omega)) (by decide) ?_
  refine ev_iload_n dX11_mark_32 rfl ?_
  refine ev_iload_n dX11_mark_33 rfl ?_
  refine ev_iconst (v := 1) dX11_mark_34 ki_1 ?_
  refine e_Vi (as := [.int (nI v1), .int (nI v2), .int 1]) (rest := []) dX11_mark_35 vX9_hasPlaces ml_11_371 isX9_hasPlaces seX9_hasPlaces npX9_hasPlaces (rc_127 (by omega)) (by decide) rfl (Nat.le_of_ble_eq_true rfl) (by omega) (t_X9_hasPlaces (d := d - 1) (by omega) (by omega) hX c1 c3) ?_
  refine ev_ifT (tgt := 45) dX11_mark_38 (by decide) (by show ¬ (1 : Int32) = 0; decide) ?_
  refine ev_aload_n dX11_mark_45 rfl ?_
  refine ev_getS (q := 127) dX11_mark_46 fo_11_49 (by omega) lo_0 rfl (sh_0_5 hX (by omega)) (by decide) ?_
  refine ev_getS (q := 128) dX11_mark_49 fo_11_186 (by omega) lo_127 rfl (sh_127_0 hX (by omega)) (by decide) ?_
  refine ev_iload_n dX11_mark_52 rfl ?_
  refine ev_aald (q := 128 + 1 + v1) dX11_mark_53 (by omega) (Or.inr ly_128) rfl b0 (hX.2 128 v1 (by omega) (Or.inr (by rw [ly_128])) (by rw [ly_128]; exact b0)) (by first | omega | (have := LY_l ly_128; have := LY_lt (show (LY 128).1 < 99 by rw [ly_128]; exact (by decide : 3 < 99)); omega)) ?_
  refine ev_iload_n dX11_mark_54 rfl ?_
  refine ev_sald dX11_mark_55 (by have := b0; omega) (lyr_128 _ b0) rfl b1 ?_
  refine ev_istore dX11_mark_56 (by decide) ?_
  refine ev_aload_n dX11_mark_58 rfl ?_
  refine ev_getS (q := 127) dX11_mark_59 fo_11_49 (by omega) lo_0 rfl (sh_0_5 hX (by omega)) (by decide) ?_
  refine ev_getS (q := 128) dX11_mark_62 fo_11_186 (by omega) lo_127 rfl (sh_127_0 hX (by omega)) (by decide) ?_
  refine ev_iload_n dX11_mark_65 rfl ?_
  refine ev_aald (q := 128 + 1 + v1) dX11_mark_66 (by omega) (Or.inr ly_128) rfl b0 (hX.2 128 v1 (by omega) (Or.inr (by rw [ly_128])) (by rw [ly_128]; exact b0)) (by first | omega | (have := LY_l ly_128; have := LY_lt (show (LY 128).1 < 99 by rw [ly_128]; exact (by decide : 3 < 99)); omega)) ?_
  refine ev_iload_n dX11_mark_67 rfl ?_
  refine ev_iload_n dX11_mark_68 rfl ?_
  refine ev_i2s dX11_mark_69 ?_
  refine ev_sast dX11_mark_70 (by have := b0; omega) (lyr_128 _ b0) rfl b1 ?_
  have hX1 : Sh _ (lx_up X (128 + 1 + v1) v2 v3.toInt16.toInt32.toInt16.toInt32) := Sh.upA hX (by rw [(lyr_128 _ b0)]; exact (by decide : 1 < 2))
  refine ev_iload dX11_mark_71 rfl ?_
  exact ev_iret dX11_mark_73 rfl rfl hp
theorem bX11_mark_0_2 {g : GG} {d n : Nat} {post : Option Value → LX → Prop} {X : LX} (hd : 1 ≤ d) (hn : 146 ≤ n) (hX : Sh n X) {v1 : Nat} {v2 : Int32} {v3 : Int32} (c0 : 0 ≤ (nI v1) ∧ (nI v1) < 2) (c1 : v1 < 2) (c2 : ¬ (X 131 v1 < 0)) (c3 : ¬ (0 ≤ v2 ∧ (0 : Int32) ≤ 1 ∧ v2 ≤ X 131 v1 ∧ 1 ≤ X 131 v1 - v2)) (hp : post (some (.int (-1000000013))) X) : Ev g mX11_mark d n n post n 0 [some (.ref 0), some (.int (nI v1)), some (.int v2), some (.int v3), none] [] X := by
  refine ev_aload_n dX11_mark_0 rfl ?_
  refine ev_getS (q := 127) dX11_mark_1 fo_11_49 (by omega) lo_0 rfl (sh_0_5 hX (by omega)) (by decide) ?_
  refine ev_iload_n dX11_mark_4 rfl ?_
  refine e_Vi (as := [.int (nI v1)]) (rest := []) dX11_mark_5 vX9_isNumber ml_11_170 isX9_isNumber seX9_isNumber npX9_isNumber (rc_127 (by omega)) (by decide) rfl (Nat.le_of_ble_eq_true rfl) (by omega) (t_X9_isNumber (d := d - 1) (by omega) (by omega) hX c0) ?_
  refine ev_ifT (tgt := 14) dX11_mark_8 (by decide) (by show ¬ (1 : Int32) = 0; decide) ?_
  refine ev_aload_n dX11_mark_14 rfl ?_
  refine ev_getS (q := 127) dX11_mark_15 fo_11_49 (by omega) lo_0 rfl (sh_0_5 hX (by omega)) (by decide) ?_
  refine ev_iload_n dX11_mark_18 rfl ?_
  refine e_Vi (as := [.int (nI v1)]) (rest := []) dX11_mark_19 vX9_isMissing ml_11_173 isX9_isMissing seX9_isMissing npX9_isMissing (rc_127 (by omega)) (by decide) rfl (Nat.le_of_ble_eq_true rfl) (by omega) (f_X9_isMissing (d := d - 1) (by omega) (by omega) hX c1 c2) ?_
  refine ev_ifT (tgt := 28) dX11_mark_22 (by decide) (by show (0 : Int32) = 0; decide) ?_
  refine ev_aload_n dX11_mark_28 rfl ?_
  refine ev_getS (q := 127) dX11_mark_29 fo_11_49 (by omega) lo_0 rfl (sh_0_5 hX (by omega)) (by decide) ?_
  refine ev_iload_n dX11_mark_32 rfl ?_
  refine ev_iload_n dX11_mark_33 rfl ?_
  refine ev_iconst (v := 1) dX11_mark_34 ki_1 ?_
  refine e_Vi (as := [.int (nI v1), .int v2, .int 1]) (rest := []) dX11_mark_35 vX9_hasPlaces ml_11_371 isX9_hasPlaces seX9_hasPlaces npX9_hasPlaces (rc_127 (by omega)) (by decide) rfl (Nat.le_of_ble_eq_true rfl) (by omega) (f_X9_hasPlaces (d := d - 1) (by omega) (by omega) hX c1 c3) ?_
  refine ev_ifF (tgt := 45) dX11_mark_38 (by decide) (by show (0 : Int32) = 0; decide) ?_
  refine ev_ldcw (v := (-1000000013)) dX11_mark_41 kw_11_374 ?_
  exact ev_iret dX11_mark_44 rfl rfl hp
theorem bX11_mark_0_3 {g : GG} {d n : Nat} {post : Option Value → LX → Prop} {X : LX} (hd : 1 ≤ d) (hn : 146 ≤ n) (hX : Sh n X) {v1 : Int32} {v2 : Int32} {v3 : Int32} (c0 : ¬ (0 ≤ v1 ∧ v1 < 2)) (hp : post (some (.int (-1000000001))) X) : Ev g mX11_mark d n n post n 0 [some (.ref 0), some (.int v1), some (.int v2), some (.int v3), none] [] X := by
  refine ev_aload_n dX11_mark_0 rfl ?_
  refine ev_getS (q := 127) dX11_mark_1 fo_11_49 (by omega) lo_0 rfl (sh_0_5 hX (by omega)) (by decide) ?_
  refine ev_iload_n dX11_mark_4 rfl ?_
  refine e_Vi (as := [.int v1]) (rest := []) dX11_mark_5 vX9_isNumber ml_11_170 isX9_isNumber seX9_isNumber npX9_isNumber (rc_127 (by omega)) (by decide) rfl (Nat.le_of_ble_eq_true rfl) (by omega) (f_X9_isNumber (d := d - 1) (by omega) (by omega) hX c0) ?_
  refine ev_ifF (tgt := 14) dX11_mark_8 (by decide) (by show (0 : Int32) = 0; decide) ?_
  refine ev_ldc (v := (-1000000001)) dX11_mark_11 kw_11_61 ?_
  exact ev_iret dX11_mark_13 rfl rfl hp
theorem bX12_mark_0_0 {g : GG} {d n : Nat} {post : Option Value → LX → Prop} {X : LX} (hd : 1 ≤ d) (hn : 146 ≤ n) (hX : Sh n X) {v1 : Nat} {v2 : Int32} {v3 : Int32} (c0 : 0 ≤ (nI v1) ∧ (nI v1) ≤ 1) (b0 : v1 < 2) (c1 : ¬ 0 ≤ X 138 v1) (hp : post (some (.int (-1000000011))) X) : Ev g mX12_mark d n n post n 0 [some (.ref 133), some (.int (nI v1)), some (.int v2), some (.int v3), none] [] X := by
  refine ev_iload_n dX12_mark_0 rfl ?_
  refine ev_iconst (v := 0) dX12_mark_1 ki_0 ?_
  refine ev_iconst (v := 1) dX12_mark_2 ki_1 ?_
  refine e_Si (as := [.int (nI v1), .int 0, .int 1]) (rest := []) dX12_mark_3 vX12_within ml_12_52 stX12_within npX12_within (by decide) rfl (Nat.le_of_ble_eq_true rfl) (by omega) (t_X12_within (d := d - 1) (by omega) (by omega) hX c0) ?_
  refine ev_ifT (tgt := 12) dX12_mark_6 (by decide) (by show ¬ (1 : Int32) = 0; decide) ?_
  refine ev_aload_n dX12_mark_12 rfl ?_
  refine ev_getS (q := 138) dX12_mark_13 fo_12_22 (by omega) lo_133 rfl (sh_133_7 hX (by omega)) (by decide) ?_
  refine ev_iload_n dX12_mark_16 rfl ?_
  refine ev_iald dX12_mark_17 (by omega) ly_138 rfl b0 ?_
  refine ev_ifF (tgt := 24) dX12_mark_18 (by decide) c1 ?_
  refine ev_ldc (v := (-1000000011)) dX12_mark_21 kw_12_105 ?_
  exact ev_iret dX12_mark_23 rfl rfl hp
theorem bX12_mark_0_1 {g : GG} {d n : Nat} {post : Option Value → LX → Prop} {X : LX} (hd : 1 ≤ d) (hn : 146 ≤ n) (hX : Sh n X) {v1 : Nat} {v2 : Nat} {v3 : Int32} (c0 : 0 ≤ (nI v1) ∧ (nI v1) ≤ 1) (b0 : v1 < 2) (c1 : 0 ≤ X 138 v1) (c2 : 0 ≤ (nI v2) ∧ (nI v2) ≤ ((X 138 v1) - 1)) (b1 : ((16 * v1) + v2) < 32) (hp : post (some (.int (X 139 ((16 * v1) + v2)))) (lx_up X 139 ((16 * v1) + v2) v3.toInt16.toInt32)) : Ev g mX12_mark d n n post n 0 [some (.ref 133), some (.int (nI v1)), some (.int (nI v2)), some (.int v3), none] [] X := by
  refine ev_iload_n dX12_mark_0 rfl ?_
  refine ev_iconst (v := 0) dX12_mark_1 ki_0 ?_
  refine ev_iconst (v := 1) dX12_mark_2 ki_1 ?_
  refine e_Si (as := [.int (nI v1), .int 0, .int 1]) (rest := []) dX12_mark_3 vX12_within ml_12_52 stX12_within npX12_within (by decide) rfl (Nat.le_of_ble_eq_true rfl) (by omega) (t_X12_within (d := d - 1) (by omega) (by omega) hX c0) ?_
  refine ev_ifT (tgt := 12) dX12_mark_6 (by decide) (by show ¬ (1 : Int32) = 0; decide) ?_
  refine ev_aload_n dX12_mark_12 rfl ?_
  refine ev_getS (q := 138) dX12_mark_13 fo_12_22 (by omega) lo_133 rfl (sh_133_7 hX (by omega)) (by decide) ?_
  refine ev_iload_n dX12_mark_16 rfl ?_
  refine ev_iald dX12_mark_17 (by omega) ly_138 rfl b0 ?_
  refine ev_ifT (tgt := 24) dX12_mark_18 (by decide) c1 ?_
  refine ev_iload_n dX12_mark_24 rfl ?_
  refine ev_iconst (v := 0) dX12_mark_25 ki_0 ?_
  refine ev_aload_n dX12_mark_26 rfl ?_
  refine ev_getS (q := 138) dX12_mark_27 fo_12_22 (by omega) lo_133 rfl (sh_133_7 hX (by omega)) (by decide) ?_
  refine ev_iload_n dX12_mark_30 rfl ?_
  refine ev_iald dX12_mark_31 (by omega) ly_138 rfl b0 ?_
  refine ev_iconst (v := 1) dX12_mark_32 ki_1 ?_
  refine ev_isub dX12_mark_33 ?_
  refine e_Si (as := [.int (nI v2), .int 0, .int ((X 138 v1) - 1)]) (rest := []) dX12_mark_34 vX12_within ml_12_52 stX12_within npX12_within (by decide) rfl (Nat.le_of_ble_eq_true rfl) (by omega) (t_X12_within (d := d - 1) (by omega) (by omega) hX c2) ?_
  refine ev_ifT (tgt := 44) dX12_mark_37 (by decide) (by show ¬ (1 : Int32) = 0; decide) ?_
  refine ev_aload_n dX12_mark_44 rfl ?_
  refine ev_getS (q := 139) dX12_mark_45 fo_12_25 (by omega) lo_133 rfl (sh_133_8 hX (by omega)) (by decide) ?_
  refine ev_bipush (v := 16) dX12_mark_48 kb_16 ?_
  refine ev_iload_n dX12_mark_50 rfl ?_
  refine ev_imul dX12_mark_51 ?_
  refine ev_iload_n dX12_mark_52 rfl ?_
  refine ev_iadd dX12_mark_53 ?_
  refine ev_iald dX12_mark_54 (by omega) ly_139 (by show (nI 16 * nI v1) + nI v2 = nI ((16 * v1) + v2); simp only [pk_mul, nI_add]) b1 ?_
  refine ev_istore dX12_mark_55 (by decide) ?_
  refine ev_aload_n dX12_mark_57 rfl ?_
  refine ev_getS (q := 139) dX12_mark_58 fo_12_25 (by omega) lo_133 rfl (sh_133_8 hX (by omega)) (by decide) ?_
  refine ev_bipush (v := 16) dX12_mark_61 kb_16 ?_
  refine ev_iload_n dX12_mark_63 rfl ?_
  refine ev_imul dX12_mark_64 ?_
  refine ev_iload_n dX12_mark_65 rfl ?_
  refine ev_iadd dX12_mark_66 ?_
  refine ev_iload_n dX12_mark_67 rfl ?_
  refine ev_i2s dX12_mark_68 ?_
  refine ev_iast dX12_mark_69 (by omega) ly_139 (by show (nI 16 * nI v1) + nI v2 = nI ((16 * v1) + v2); simp only [pk_mul, nI_add]) b1 ?_
  have hX1 : Sh _ (lx_up X 139 ((16 * v1) + v2) v3.toInt16.toInt32) := Sh.upA hX (by rw [ly_139]; exact (by decide : 0 < 2))
  refine ev_iload dX12_mark_70 rfl ?_
  exact ev_iret dX12_mark_72 rfl rfl hp
theorem bX12_mark_0_2 {g : GG} {d n : Nat} {post : Option Value → LX → Prop} {X : LX} (hd : 1 ≤ d) (hn : 146 ≤ n) (hX : Sh n X) {v1 : Nat} {v2 : Int32} {v3 : Int32} (c0 : 0 ≤ (nI v1) ∧ (nI v1) ≤ 1) (b0 : v1 < 2) (c1 : 0 ≤ X 138 v1) (c2 : ¬ (0 ≤ v2 ∧ v2 ≤ ((X 138 v1) - 1))) (hp : post (some (.int (-1000000013))) X) : Ev g mX12_mark d n n post n 0 [some (.ref 133), some (.int (nI v1)), some (.int v2), some (.int v3), none] [] X := by
  refine ev_iload_n dX12_mark_0 rfl ?_
  refine ev_iconst (v := 0) dX12_mark_1 ki_0 ?_
  refine ev_iconst (v := 1) dX12_mark_2 ki_1 ?_
  refine e_Si (as := [.int (nI v1), .int 0, .int 1]) (rest := []) dX12_mark_3 vX12_within ml_12_52 stX12_within npX12_within (by decide) rfl (Nat.le_of_ble_eq_true rfl) (by omega) (t_X12_within (d := d - 1) (by omega) (by omega) hX c0) ?_
  refine ev_ifT (tgt := 12) dX12_mark_6 (by decide) (by show ¬ (1 : Int32) = 0; decide) ?_
  refine ev_aload_n dX12_mark_12 rfl ?_
  refine ev_getS (q := 138) dX12_mark_13 fo_12_22 (by omega) lo_133 rfl (sh_133_7 hX (by omega)) (by decide) ?_
  refine ev_iload_n dX12_mark_16 rfl ?_
  refine ev_iald dX12_mark_17 (by omega) ly_138 rfl b0 ?_
  refine ev_ifT (tgt := 24) dX12_mark_18 (by decide) c1 ?_
  refine ev_iload_n dX12_mark_24 rfl ?_
  refine ev_iconst (v := 0) dX12_mark_25 ki_0 ?_
  refine ev_aload_n dX12_mark_26 rfl ?_
  refine ev_getS (q := 138) dX12_mark_27 fo_12_22 (by omega) lo_133 rfl (sh_133_7 hX (by omega)) (by decide) ?_
  refine ev_iload_n dX12_mark_30 rfl ?_
  refine ev_iald dX12_mark_31 (by omega) ly_138 rfl b0 ?_
  refine ev_iconst (v := 1) dX12_mark_32 ki_1 ?_
  refine ev_isub dX12_mark_33 ?_
  refine e_Si (as := [.int v2, .int 0, .int ((X 138 v1) - 1)]) (rest := []) dX12_mark_34 vX12_within ml_12_52 stX12_within npX12_within (by decide) rfl (Nat.le_of_ble_eq_true rfl) (by omega) (f_X12_within (d := d - 1) (by omega) (by omega) hX c2) ?_
  refine ev_ifF (tgt := 44) dX12_mark_37 (by decide) (by show (0 : Int32) = 0; decide) ?_
  refine ev_ldcw (v := (-1000000013)) dX12_mark_40 kw_12_320 ?_
  exact ev_iret dX12_mark_43 rfl rfl hp
theorem bX12_mark_0_3 {g : GG} {d n : Nat} {post : Option Value → LX → Prop} {X : LX} (hd : 1 ≤ d) (hn : 146 ≤ n) (hX : Sh n X) {v1 : Int32} {v2 : Int32} {v3 : Int32} (c0 : ¬ (0 ≤ v1 ∧ v1 ≤ 1)) (hp : post (some (.int (-1000000001))) X) : Ev g mX12_mark d n n post n 0 [some (.ref 133), some (.int v1), some (.int v2), some (.int v3), none] [] X := by
  refine ev_iload_n dX12_mark_0 rfl ?_
  refine ev_iconst (v := 0) dX12_mark_1 ki_0 ?_
  refine ev_iconst (v := 1) dX12_mark_2 ki_1 ?_
  refine e_Si (as := [.int v1, .int 0, .int 1]) (rest := []) dX12_mark_3 vX12_within ml_12_52 stX12_within npX12_within (by decide) rfl (Nat.le_of_ble_eq_true rfl) (by omega) (f_X12_within (d := d - 1) (by omega) (by omega) hX c0) ?_
  refine ev_ifF (tgt := 12) dX12_mark_6 (by decide) (by show (0 : Int32) = 0; decide) ?_
  refine ev_ldc (v := (-1000000001)) dX12_mark_9 kw_12_57 ?_
  exact ev_iret dX12_mark_11 rfl rfl hp
theorem bX11_lay_0_0 {g : GG} {d n : Nat} {post : Option Value → LX → Prop} {X : LX} (hd : 1 ≤ d) (hn : 146 ≤ n) (hX : Sh n X) {v1 : Int32} {v2 : Nat} (c0 : 0 ≤ v1 ∧ v1 < X 37 0) (c1 : 0 ≤ (nI v2) ∧ (nI v2) < 2) (c2 : v2 < 2) (c3 : X 131 v2 < 0) (hp : post (some (.int (-1000000011))) X) : Ev g mX11_lay d n n post n 0 [some (.ref 0), some (.int v1), some (.int (nI v2)), none, none, none, none] [] X := by
  refine ev_aload_n dX11_lay_0 rfl ?_
  refine ev_getS (q := 1) dX11_lay_1 fo_11_10 (by omega) lo_0 rfl (sh_0_0 hX (by omega)) (by decide) ?_
  refine ev_getS (q := 37) dX11_lay_4 fo_11_144 (by omega) lo_1 rfl (sh_1_2 hX (by omega)) (by decide) ?_
  refine ev_iload_n dX11_lay_7 rfl ?_
  refine e_Vi (as := [.int v1]) (rest := []) dX11_lay_8 vX0_has ml_11_163 isX0_has seX0_has npX0_has (rc_37 (by omega)) (by decide) rfl (Nat.le_of_ble_eq_true rfl) (by omega) (t_X0_has (d := d - 1) (by omega) (by omega) hX c0) ?_
  refine ev_ifF (tgt := 25) dX11_lay_11 (by decide) (by show ¬ (1 : Int32) = 0; decide) ?_
  refine ev_aload_n dX11_lay_14 rfl ?_
  refine ev_getS (q := 127) dX11_lay_15 fo_11_49 (by omega) lo_0 rfl (sh_0_5 hX (by omega)) (by decide) ?_
  refine ev_iload_n dX11_lay_18 rfl ?_
  refine e_Vi (as := [.int (nI v2)]) (rest := []) dX11_lay_19 vX9_isNumber ml_11_170 isX9_isNumber seX9_isNumber npX9_isNumber (rc_127 (by omega)) (by decide) rfl (Nat.le_of_ble_eq_true rfl) (by omega) (t_X9_isNumber (d := d - 1) (by omega) (by omega) hX c1) ?_
  refine ev_ifT (tgt := 28) dX11_lay_22 (by decide) (by show ¬ (1 : Int32) = 0; decide) ?_
  refine ev_aload_n dX11_lay_28 rfl ?_
  refine ev_getS (q := 127) dX11_lay_29 fo_11_49 (by omega) lo_0 rfl (sh_0_5 hX (by omega)) (by decide) ?_
  refine ev_iload_n dX11_lay_32 rfl ?_
  refine e_Vi (as := [.int (nI v2)]) (rest := []) dX11_lay_33 vX9_isMissing ml_11_173 isX9_isMissing seX9_isMissing npX9_isMissing (rc_127 (by omega)) (by decide) rfl (Nat.le_of_ble_eq_true rfl) (by omega) (t_X9_isMissing (d := d - 1) (by omega) (by omega) hX c2 c3) ?_
  refine ev_ifF (tgt := 42) dX11_lay_36 (by decide) (by show ¬ (1 : Int32) = 0; decide) ?_
  refine ev_ldc (v := (-1000000011)) dX11_lay_39 kw_11_176 ?_
  exact ev_iret dX11_lay_41 rfl rfl hp
theorem bX11_lay_0_1 {g : GG} {d n : Nat} {post : Option Value → LX → Prop} {X : LX} (hd : 1 ≤ d) (hn : 146 ≤ n) (hX : Sh n X) {v1 : Int32} {v2 : Nat} (c0 : 0 ≤ v1 ∧ v1 < X 37 0) (c1 : 0 ≤ (nI v2) ∧ (nI v2) < 2) (c2 : v2 < 2) (c3 : ¬ (X 131 v2 < 0)) (b0 : v2 < 2) (k : Ev g mX11_lay d n n post n 71 [some (.ref 0), some (.int v1), some (.int (nI v2)), some (.int (if (X 131 v2) < (X 23 0) then (X 131 v2) else (X 23 0))), some (.int 0), some (.int 0), none] [] X) : Ev g mX11_lay d n n post n 0 [some (.ref 0), some (.int v1), some (.int (nI v2)), none, none, none, none] [] X := by
  refine ev_aload_n dX11_lay_0 rfl ?_
  refine ev_getS (q := 1) dX11_lay_1 fo_11_10 (by omega) lo_0 rfl (sh_0_0 hX (by omega)) (by decide) ?_
  refine ev_getS (q := 37) dX11_lay_4 fo_11_144 (by omega) lo_1 rfl (sh_1_2 hX (by omega)) (by decide) ?_
  refine ev_iload_n dX11_lay_7 rfl ?_
  refine e_Vi (as := [.int v1]) (rest := []) dX11_lay_8 vX0_has ml_11_163 isX0_has seX0_has npX0_has (rc_37 (by omega)) (by decide) rfl (Nat.le_of_ble_eq_true rfl) (by omega) (t_X0_has (d := d - 1) (by omega) (by omega) hX c0) ?_
  refine ev_ifF (tgt := 25) dX11_lay_11 (by decide) (by show ¬ (1 : Int32) = 0; decide) ?_
  refine ev_aload_n dX11_lay_14 rfl ?_
  refine ev_getS (q := 127) dX11_lay_15 fo_11_49 (by omega) lo_0 rfl (sh_0_5 hX (by omega)) (by decide) ?_
  refine ev_iload_n dX11_lay_18 rfl ?_
  refine e_Vi (as := [.int (nI v2)]) (rest := []) dX11_lay_19 vX9_isNumber ml_11_170 isX9_isNumber seX9_isNumber npX9_isNumber (rc_127 (by omega)) (by decide) rfl (Nat.le_of_ble_eq_true rfl) (by omega) (t_X9_isNumber (d := d - 1) (by omega) (by omega) hX c1) ?_
  refine ev_ifT (tgt := 28) dX11_lay_22 (by decide) (by show ¬ (1 : Int32) = 0; decide) ?_
  refine ev_aload_n dX11_lay_28 rfl ?_
  refine ev_getS (q := 127) dX11_lay_29 fo_11_49 (by omega) lo_0 rfl (sh_0_5 hX (by omega)) (by decide) ?_
  refine ev_iload_n dX11_lay_32 rfl ?_
  refine e_Vi (as := [.int (nI v2)]) (rest := []) dX11_lay_33 vX9_isMissing ml_11_173 isX9_isMissing seX9_isMissing npX9_isMissing (rc_127 (by omega)) (by decide) rfl (Nat.le_of_ble_eq_true rfl) (by omega) (f_X9_isMissing (d := d - 1) (by omega) (by omega) hX c2 c3) ?_
  refine ev_ifT (tgt := 42) dX11_lay_36 (by decide) (by show (0 : Int32) = 0; decide) ?_
  refine ev_aload_n dX11_lay_42 rfl ?_
  refine ev_getS (q := 1) dX11_lay_43 fo_11_10 (by omega) lo_0 rfl (sh_0_0 hX (by omega)) (by decide) ?_
  refine ev_getS (q := 23) dX11_lay_46 fo_11_96 (by omega) lo_1 rfl (sh_1_1 hX (by omega)) (by decide) ?_
  refine ev_getI dX11_lay_49 fo_11_100 (by omega) lo_23 rfl ?_
  refine ev_aload_n dX11_lay_52 rfl ?_
  refine ev_getS (q := 127) dX11_lay_53 fo_11_49 (by omega) lo_0 rfl (sh_0_5 hX (by omega)) (by decide) ?_
  refine ev_getS (q := 131) dX11_lay_56 fo_11_177 (by omega) lo_127 rfl (sh_127_1 hX (by omega)) (by decide) ?_
  refine ev_iload_n dX11_lay_59 rfl ?_
  refine ev_iald dX11_lay_60 (by omega) ly_131 rfl b0 ?_
  refine e_min dX11_lay_61 mm_11_180 mn_st mx_in mn_co (Nat.le_of_ble_eq_true rfl) (by omega) ?_
  refine ev_istore_n dX11_lay_64 (by decide) ?_
  refine ev_iconst (v := 0) dX11_lay_65 ki_0 ?_
  refine ev_istore dX11_lay_66 (by decide) ?_
  refine ev_iconst (v := 0) dX11_lay_68 ki_0 ?_
  refine ev_istore dX11_lay_69 (by decide) ?_
  exact k
theorem bX11_lay_0_2 {g : GG} {d n : Nat} {post : Option Value → LX → Prop} {X : LX} (hd : 1 ≤ d) (hn : 146 ≤ n) (hX : Sh n X) {v1 : Int32} {v2 : Int32} (c0 : 0 ≤ v1 ∧ v1 < X 37 0) (c1 : ¬ (0 ≤ v2 ∧ v2 < 2)) (hp : post (some (.int (-1000000001))) X) : Ev g mX11_lay d n n post n 0 [some (.ref 0), some (.int v1), some (.int v2), none, none, none, none] [] X := by
  refine ev_aload_n dX11_lay_0 rfl ?_
  refine ev_getS (q := 1) dX11_lay_1 fo_11_10 (by omega) lo_0 rfl (sh_0_0 hX (by omega)) (by decide) ?_
  refine ev_getS (q := 37) dX11_lay_4 fo_11_144 (by omega) lo_1 rfl (sh_1_2 hX (by omega)) (by decide) ?_
  refine ev_iload_n dX11_lay_7 rfl ?_
  refine e_Vi (as := [.int v1]) (rest := []) dX11_lay_8 vX0_has ml_11_163 isX0_has seX0_has npX0_has (rc_37 (by omega)) (by decide) rfl (Nat.le_of_ble_eq_true rfl) (by omega) (t_X0_has (d := d - 1) (by omega) (by omega) hX c0) ?_
  refine ev_ifF (tgt := 25) dX11_lay_11 (by decide) (by show ¬ (1 : Int32) = 0; decide) ?_
  refine ev_aload_n dX11_lay_14 rfl ?_
  refine ev_getS (q := 127) dX11_lay_15 fo_11_49 (by omega) lo_0 rfl (sh_0_5 hX (by omega)) (by decide) ?_
  refine ev_iload_n dX11_lay_18 rfl ?_
  refine e_Vi (as := [.int v2]) (rest := []) dX11_lay_19 vX9_isNumber ml_11_170 isX9_isNumber seX9_isNumber npX9_isNumber (rc_127 (by omega)) (by decide) rfl (Nat.le_of_ble_eq_true rfl) (by omega) (f_X9_isNumber (d := d - 1) (by omega) (by omega) hX c1) ?_
  refine ev_ifF (tgt := 28) dX11_lay_22 (by decide) (by show (0 : Int32) = 0; decide) ?_
  refine ev_ldc (v := (-1000000001)) dX11_lay_25 kw_11_61 ?_
  exact ev_iret dX11_lay_27 rfl rfl hp
theorem bX11_lay_0_3 {g : GG} {d n : Nat} {post : Option Value → LX → Prop} {X : LX} (hd : 1 ≤ d) (hn : 146 ≤ n) (hX : Sh n X) {v1 : Int32} {v2 : Int32} (c0 : ¬ (0 ≤ v1 ∧ v1 < X 37 0)) (hp : post (some (.int (-1000000001))) X) : Ev g mX11_lay d n n post n 0 [some (.ref 0), some (.int v1), some (.int v2), none, none, none, none] [] X := by
  refine ev_aload_n dX11_lay_0 rfl ?_
  refine ev_getS (q := 1) dX11_lay_1 fo_11_10 (by omega) lo_0 rfl (sh_0_0 hX (by omega)) (by decide) ?_
  refine ev_getS (q := 37) dX11_lay_4 fo_11_144 (by omega) lo_1 rfl (sh_1_2 hX (by omega)) (by decide) ?_
  refine ev_iload_n dX11_lay_7 rfl ?_
  refine e_Vi (as := [.int v1]) (rest := []) dX11_lay_8 vX0_has ml_11_163 isX0_has seX0_has npX0_has (rc_37 (by omega)) (by decide) rfl (Nat.le_of_ble_eq_true rfl) (by omega) (f_X0_has (d := d - 1) (by omega) (by omega) hX c0) ?_
  refine ev_ifT (tgt := 25) dX11_lay_11 (by decide) (by show (0 : Int32) = 0; decide) ?_
  refine ev_ldc (v := (-1000000001)) dX11_lay_25 kw_11_61 ?_
  exact ev_iret dX11_lay_27 rfl rfl hp
theorem bX11_lay_71_0 {g : GG} {d n : Nat} {post : Option Value → LX → Prop} {X : LX} (hd : 2 ≤ d) (hn : 146 ≤ n) (hX : Sh n X) {v1 : Nat} {v2 : Nat} {v3 : Int32} {v4 : Int32} {v5 : Nat} (c0 : ¬ v3 ≤ nI v5) (b0 : v2 < 2) (b1 : v5 < 16) (c1 : 0 ≤ (X (128 + 1 + v2) v5) ∧ (X (128 + 1 + v2) v5) ≤ 9) (b2 : v1 < 12) (b3 : v5 < 10) (k : Ev g mX11_lay d n n post n 71 [some (.ref 0), some (.int (nI v1)), some (.int (nI v2)), some (.int v3), some (.int (v4 + 1)), some (.int ((nI v5) + 1)), none] [] (lx_up X (43 + 1 + v1) v5 (X (128 + 1 + v2) v5))) : Ev g mX11_lay d n n post n 71 [some (.ref 0), some (.int (nI v1)), some (.int (nI v2)), some (.int v3), some (.int v4), some (.int (nI v5)), none] [] X := by
  refine ev_iload dX11_lay_71 rfl ?_
  refine ev_iload_n dX11_lay_73 rfl ?_
  refine ev_icmpF (tgt := 125) dX11_lay_74 (by decide) c0 ?_
  refine ev_aload_n dX11_lay_77 rfl ?_
  refine ev_getS (q := 127) dX11_lay_78 fo_11_49 (by omega) lo_0 rfl (sh_0_5 hX (by omega)) (by decide) ?_
  refine ev_getS (q := 128) dX11_lay_81 fo_11_186 (by omega) lo_127 rfl (sh_127_0 hX (by omega)) (by decide) ?_
  refine ev_iload_n dX11_lay_84 rfl ?_
  refine ev_aald (q := 128 + 1 + v2) dX11_lay_85 (by omega) (Or.inr ly_128) rfl b0 (hX.2 128 v2 (by omega) (Or.inr (by rw [ly_128])) (by rw [ly_128]; exact b0)) (by first | omega | (have := LY_l ly_128; have := LY_lt (show (LY 128).1 < 99 by rw [ly_128]; exact (by decide : 3 < 99)); omega)) ?_
  refine ev_iload dX11_lay_86 rfl ?_
  refine ev_sald dX11_lay_88 (by have := b0; omega) (lyr_128 _ b0) rfl b1 ?_
  refine ev_istore dX11_lay_89 (by decide) ?_
  refine ev_iload dX11_lay_91 rfl ?_
  refine e_Si (as := [.int (X (128 + 1 + v2) v5)]) (rest := []) dX11_lay_93 vX11_isLikes ml_11_164 stX11_isLikes npX11_isLikes (by decide) rfl (Nat.le_of_ble_eq_true rfl) (by omega) (t_X11_isLikes (d := d - 1) (by omega) (by omega) hX c1) ?_
  refine ev_ifF (tgt := 119) dX11_lay_96 (by decide) (by show ¬ (1 : Int32) = 0; decide) ?_
  refine ev_aload_n dX11_lay_99 rfl ?_
  refine ev_getS (q := 1) dX11_lay_100 fo_11_10 (by omega) lo_0 rfl (sh_0_0 hX (by omega)) (by decide) ?_
  refine ev_getS (q := 37) dX11_lay_103 fo_11_144 (by omega) lo_1 rfl (sh_1_2 hX (by omega)) (by decide) ?_
  refine ev_getS (q := 43) dX11_lay_106 fo_11_167 (by omega) lo_37 rfl (sh_37_6 hX (by omega)) (by decide) ?_
  refine ev_iload_n dX11_lay_109 rfl ?_
  refine ev_aald (q := 43 + 1 + v1) dX11_lay_110 (by omega) (Or.inl ly_43) rfl b2 (hX.2 43 v1 (by omega) (Or.inl (by rw [ly_43])) (by rw [ly_43]; exact b2)) (by first | omega | (have := LY_l ly_43; have := LY_lt (show (LY 43).1 < 99 by rw [ly_43]; exact (by decide : 2 < 99)); omega)) ?_
  refine ev_iload dX11_lay_111 rfl ?_
  refine ev_iload dX11_lay_113 rfl ?_
  refine ev_iast dX11_lay_115 (by have := b2; omega) (lyr_43 _ b2) rfl b3 ?_
  have hX1 : Sh _ (lx_up X (43 + 1 + v1) v5 (X (128 + 1 + v2) v5)) := Sh.upA hX (by rw [(lyr_43 _ b2)]; exact (by decide : 0 < 2))
  refine ev_iinc (v := v4 + 1) dX11_lay_116 rfl (by rw [show Int32.ofInt 1 = 1 from ki_1]) (by decide) ?_
  refine ev_iinc (v := (nI v5) + 1) dX11_lay_119 rfl (by rw [show Int32.ofInt 1 = 1 from ki_1]) (by decide) ?_
  refine ev_goto (tgt := 71) dX11_lay_122 (by decide) ?_
  refine ev_wk (L := [some (.ref 0), some (.int (nI v1)), some (.int (nI v2)), some (.int v3), some (.int (v4 + 1)), some (.int ((nI v5) + 1)), some (.int (X (128 + 1 + v2) v5))]) (L' := [some (.ref 0), some (.int (nI v1)), some (.int (nI v2)), some (.int v3), some (.int (v4 + 1)), some (.int ((nI v5) + 1)), none]) (by simp [lwk]) ?_
  exact k
theorem bX11_lay_71_1 {g : GG} {d n : Nat} {post : Option Value → LX → Prop} {X : LX} (hd : 2 ≤ d) (hn : 146 ≤ n) (hX : Sh n X) {v1 : Int32} {v2 : Nat} {v3 : Int32} {v4 : Int32} {v5 : Nat} (c0 : ¬ v3 ≤ nI v5) (b0 : v2 < 2) (b1 : v5 < 16) (c1 : ¬ (0 ≤ (X (128 + 1 + v2) v5) ∧ (X (128 + 1 + v2) v5) ≤ 9)) (k : Ev g mX11_lay d n n post n 71 [some (.ref 0), some (.int v1), some (.int (nI v2)), some (.int v3), some (.int v4), some (.int ((nI v5) + 1)), none] [] X) : Ev g mX11_lay d n n post n 71 [some (.ref 0), some (.int v1), some (.int (nI v2)), some (.int v3), some (.int v4), some (.int (nI v5)), none] [] X := by
  refine ev_iload dX11_lay_71 rfl ?_
  refine ev_iload_n dX11_lay_73 rfl ?_
  refine ev_icmpF (tgt := 125) dX11_lay_74 (by decide) c0 ?_
  refine ev_aload_n dX11_lay_77 rfl ?_
  refine ev_getS (q := 127) dX11_lay_78 fo_11_49 (by omega) lo_0 rfl (sh_0_5 hX (by omega)) (by decide) ?_
  refine ev_getS (q := 128) dX11_lay_81 fo_11_186 (by omega) lo_127 rfl (sh_127_0 hX (by omega)) (by decide) ?_
  refine ev_iload_n dX11_lay_84 rfl ?_
  refine ev_aald (q := 128 + 1 + v2) dX11_lay_85 (by omega) (Or.inr ly_128) rfl b0 (hX.2 128 v2 (by omega) (Or.inr (by rw [ly_128])) (by rw [ly_128]; exact b0)) (by first | omega | (have := LY_l ly_128; have := LY_lt (show (LY 128).1 < 99 by rw [ly_128]; exact (by decide : 3 < 99)); omega)) ?_
  refine ev_iload dX11_lay_86 rfl ?_
  refine ev_sald dX11_lay_88 (by have := b0; omega) (lyr_128 _ b0) rfl b1 ?_
  refine ev_istore dX11_lay_89 (by decide) ?_
  refine ev_iload dX11_lay_91 rfl ?_
  refine e_Si (as := [.int (X (128 + 1 + v2) v5)]) (rest := []) dX11_lay_93 vX11_isLikes ml_11_164 stX11_isLikes npX11_isLikes (by decide) rfl (Nat.le_of_ble_eq_true rfl) (by omega) (f_X11_isLikes (d := d - 1) (by omega) (by omega) hX c1) ?_
  refine ev_ifT (tgt := 119) dX11_lay_96 (by decide) (by show (0 : Int32) = 0; decide) ?_
  refine ev_iinc (v := (nI v5) + 1) dX11_lay_119 rfl (by rw [show Int32.ofInt 1 = 1 from ki_1]) (by decide) ?_
  refine ev_goto (tgt := 71) dX11_lay_122 (by decide) ?_
  refine ev_wk (L := [some (.ref 0), some (.int v1), some (.int (nI v2)), some (.int v3), some (.int v4), some (.int ((nI v5) + 1)), some (.int (X (128 + 1 + v2) v5))]) (L' := [some (.ref 0), some (.int v1), some (.int (nI v2)), some (.int v3), some (.int v4), some (.int ((nI v5) + 1)), none]) (by simp [lwk]) ?_
  exact k
theorem bX11_lay_71_2 {g : GG} {d n : Nat} {post : Option Value → LX → Prop} {X : LX} (hn : 146 ≤ n) (hX : Sh n X) {v1 : Int32} {v2 : Int32} {v3 : Int32} {v4 : Int32} {v5 : Int32} (c0 : v3 ≤ v5) (hp : post (some (.int v4)) X) : Ev g mX11_lay d n n post n 71 [some (.ref 0), some (.int v1), some (.int v2), some (.int v3), some (.int v4), some (.int v5), none] [] X := by
  refine ev_iload dX11_lay_71 rfl ?_
  refine ev_iload_n dX11_lay_73 rfl ?_
  refine ev_icmpT (tgt := 125) dX11_lay_74 (by decide) c0 ?_
  refine ev_iload dX11_lay_125 rfl ?_
  exact ev_iret dX11_lay_127 rfl rfl hp
theorem bX12_lay_0_0 {g : GG} {d n : Nat} {post : Option Value → LX → Prop} {X : LX} (hd : 2 ≤ d) (hn : 146 ≤ n) (hX : Sh n X) {v1 : Int32} {v2 : Nat} (c0 : 0 ≤ v1 ∧ v1 ≤ X 134 6 - 1) (c1 : 0 ≤ (nI v2) ∧ (nI v2) ≤ 1) (b0 : v2 < 2) (c2 : ¬ 0 ≤ X 138 v2) (hp : post (some (.int (-1000000011))) X) : Ev g mX12_lay d n n post n 0 [some (.ref 133), some (.int v1), some (.int (nI v2)), none, none, none] [] X := by
  refine ev_aload_n dX12_lay_0 rfl ?_
  refine ev_iload_n dX12_lay_1 rfl ?_
  refine e_Vi (as := [.int v1]) (rest := []) dX12_lay_2 vX12_isFamily ml_12_102 isX12_isFamily seX12_isFamily npX12_isFamily (rc_133 (by omega)) (by decide) rfl (Nat.le_of_ble_eq_true rfl) (by omega) (t_X12_isFamily (d := d - 1) (by omega) (by omega) hX c0) ?_
  refine ev_ifF (tgt := 17) dX12_lay_5 (by decide) (by show ¬ (1 : Int32) = 0; decide) ?_
  refine ev_iload_n dX12_lay_8 rfl ?_
  refine ev_iconst (v := 0) dX12_lay_9 ki_0 ?_
  refine ev_iconst (v := 1) dX12_lay_10 ki_1 ?_
  refine e_Si (as := [.int (nI v2), .int 0, .int 1]) (rest := []) dX12_lay_11 vX12_within ml_12_52 stX12_within npX12_within (by decide) rfl (Nat.le_of_ble_eq_true rfl) (by omega) (t_X12_within (d := d - 1) (by omega) (by omega) hX c1) ?_
  refine ev_ifT (tgt := 20) dX12_lay_14 (by decide) (by show ¬ (1 : Int32) = 0; decide) ?_
  refine ev_aload_n dX12_lay_20 rfl ?_
  refine ev_getS (q := 138) dX12_lay_21 fo_12_22 (by omega) lo_133 rfl (sh_133_7 hX (by omega)) (by decide) ?_
  refine ev_iload_n dX12_lay_24 rfl ?_
  refine ev_iald dX12_lay_25 (by omega) ly_138 rfl b0 ?_
  refine ev_ifF (tgt := 32) dX12_lay_26 (by decide) c2 ?_
  refine ev_ldc (v := (-1000000011)) dX12_lay_29 kw_12_105 ?_
  exact ev_iret dX12_lay_31 rfl rfl hp
theorem bX12_lay_0_1 {g : GG} {d n : Nat} {post : Option Value → LX → Prop} {X : LX} (hd : 2 ≤ d) (hn : 146 ≤ n) (hX : Sh n X) {v1 : Int32} {v2 : Nat} (c0 : 0 ≤ v1 ∧ v1 ≤ X 134 6 - 1) (c1 : 0 ≤ (nI v2) ∧ (nI v2) ≤ 1) (b0 : v2 < 2) (c2 : 0 ≤ X 138 v2) (k : Ev g mX12_lay d n n post n 37 [some (.ref 133), some (.int v1), some (.int (nI v2)), some (.int 0), some (.int 0), none] [] X) : Ev g mX12_lay d n n post n 0 [some (.ref 133), some (.int v1), some (.int (nI v2)), none, none, none] [] X := by
  refine ev_aload_n dX12_lay_0 rfl ?_
  refine ev_iload_n dX12_lay_1 rfl ?_
  refine e_Vi (as := [.int v1]) (rest := []) dX12_lay_2 vX12_isFamily ml_12_102 isX12_isFamily seX12_isFamily npX12_isFamily (rc_133 (by omega)) (by decide) rfl (Nat.le_of_ble_eq_true rfl) (by omega) (t_X12_isFamily (d := d - 1) (by omega) (by omega) hX c0) ?_
  refine ev_ifF (tgt := 17) dX12_lay_5 (by decide) (by show ¬ (1 : Int32) = 0; decide) ?_
  refine ev_iload_n dX12_lay_8 rfl ?_
  refine ev_iconst (v := 0) dX12_lay_9 ki_0 ?_
  refine ev_iconst (v := 1) dX12_lay_10 ki_1 ?_
  refine e_Si (as := [.int (nI v2), .int 0, .int 1]) (rest := []) dX12_lay_11 vX12_within ml_12_52 stX12_within npX12_within (by decide) rfl (Nat.le_of_ble_eq_true rfl) (by omega) (t_X12_within (d := d - 1) (by omega) (by omega) hX c1) ?_
  refine ev_ifT (tgt := 20) dX12_lay_14 (by decide) (by show ¬ (1 : Int32) = 0; decide) ?_
  refine ev_aload_n dX12_lay_20 rfl ?_
  refine ev_getS (q := 138) dX12_lay_21 fo_12_22 (by omega) lo_133 rfl (sh_133_7 hX (by omega)) (by decide) ?_
  refine ev_iload_n dX12_lay_24 rfl ?_
  refine ev_iald dX12_lay_25 (by omega) ly_138 rfl b0 ?_
  refine ev_ifT (tgt := 32) dX12_lay_26 (by decide) c2 ?_
  refine ev_iconst (v := 0) dX12_lay_32 ki_0 ?_
  refine ev_istore_n dX12_lay_33 (by decide) ?_
  refine ev_iconst (v := 0) dX12_lay_34 ki_0 ?_
  refine ev_istore dX12_lay_35 (by decide) ?_
  exact k
theorem bX12_lay_0_2 {g : GG} {d n : Nat} {post : Option Value → LX → Prop} {X : LX} (hd : 2 ≤ d) (hn : 146 ≤ n) (hX : Sh n X) {v1 : Int32} {v2 : Int32} (c0 : 0 ≤ v1 ∧ v1 ≤ X 134 6 - 1) (c1 : ¬ (0 ≤ v2 ∧ v2 ≤ 1)) (hp : post (some (.int (-1000000001))) X) : Ev g mX12_lay d n n post n 0 [some (.ref 133), some (.int v1), some (.int v2), none, none, none] [] X := by
  refine ev_aload_n dX12_lay_0 rfl ?_
  refine ev_iload_n dX12_lay_1 rfl ?_
  refine e_Vi (as := [.int v1]) (rest := []) dX12_lay_2 vX12_isFamily ml_12_102 isX12_isFamily seX12_isFamily npX12_isFamily (rc_133 (by omega)) (by decide) rfl (Nat.le_of_ble_eq_true rfl) (by omega) (t_X12_isFamily (d := d - 1) (by omega) (by omega) hX c0) ?_
  refine ev_ifF (tgt := 17) dX12_lay_5 (by decide) (by show ¬ (1 : Int32) = 0; decide) ?_
  refine ev_iload_n dX12_lay_8 rfl ?_
  refine ev_iconst (v := 0) dX12_lay_9 ki_0 ?_
  refine ev_iconst (v := 1) dX12_lay_10 ki_1 ?_
  refine e_Si (as := [.int v2, .int 0, .int 1]) (rest := []) dX12_lay_11 vX12_within ml_12_52 stX12_within npX12_within (by decide) rfl (Nat.le_of_ble_eq_true rfl) (by omega) (f_X12_within (d := d - 1) (by omega) (by omega) hX c1) ?_
  refine ev_ifF (tgt := 20) dX12_lay_14 (by decide) (by show (0 : Int32) = 0; decide) ?_
  refine ev_ldc (v := (-1000000001)) dX12_lay_17 kw_12_57 ?_
  exact ev_iret dX12_lay_19 rfl rfl hp
theorem bX12_lay_0_3 {g : GG} {d n : Nat} {post : Option Value → LX → Prop} {X : LX} (hd : 2 ≤ d) (hn : 146 ≤ n) (hX : Sh n X) {v1 : Int32} {v2 : Int32} (c0 : ¬ (0 ≤ v1 ∧ v1 ≤ X 134 6 - 1)) (hp : post (some (.int (-1000000001))) X) : Ev g mX12_lay d n n post n 0 [some (.ref 133), some (.int v1), some (.int v2), none, none, none] [] X := by
  refine ev_aload_n dX12_lay_0 rfl ?_
  refine ev_iload_n dX12_lay_1 rfl ?_
  refine e_Vi (as := [.int v1]) (rest := []) dX12_lay_2 vX12_isFamily ml_12_102 isX12_isFamily seX12_isFamily npX12_isFamily (rc_133 (by omega)) (by decide) rfl (Nat.le_of_ble_eq_true rfl) (by omega) (f_X12_isFamily (d := d - 1) (by omega) (by omega) hX c0) ?_
  refine ev_ifT (tgt := 17) dX12_lay_5 (by decide) (by show (0 : Int32) = 0; decide) ?_
  refine ev_ldc (v := (-1000000001)) dX12_lay_17 kw_12_57 ?_
  exact ev_iret dX12_lay_19 rfl rfl hp
theorem bX12_lay_37_0 {g : GG} {d n : Nat} {post : Option Value → LX → Prop} {X : LX} (hd : 1 ≤ d) (hn : 146 ≤ n) (hX : Sh n X) {v1 : Nat} {v2 : Nat} {v3 : Int32} {v4 : Nat} (c0 : ¬ X 134 5 ≤ nI v4) (b0 : v2 < 2) (c1 : ¬ X 138 v2 ≤ nI v4) (b1 : ((16 * v2) + v4) < 32) (c2 : 0 ≤ (X 139 ((16 * v2) + v4)) ∧ (X 139 ((16 * v2) + v4)) ≤ 9) (b2 : ((448 + (15 * v1)) + (5 + v4)) < 2156) (k : Ev g mX12_lay d n n post n 37 [some (.ref 133), some (.int (nI v1)), some (.int (nI v2)), some (.int (v3 + 1)), some (.int ((nI v4) + 1)), none] [] (lx_up X 134 ((448 + (15 * v1)) + (5 + v4)) (X 139 ((16 * v2) + v4)))) : Ev g mX12_lay d n n post n 37 [some (.ref 133), some (.int (nI v1)), some (.int (nI v2)), some (.int v3), some (.int (nI v4)), none] [] X := by
  refine ev_iload dX12_lay_37 rfl ?_
  refine ev_aload_n dX12_lay_39 rfl ?_
  refine ev_getS (q := 134) dX12_lay_40 fo_12_9 (by omega) lo_133 rfl (sh_133_0 hX (by omega)) (by decide) ?_
  refine ev_iconst (v := 5) dX12_lay_43 ki_5 ?_
  refine ev_iald dX12_lay_44 (by omega) ly_134 nIl_5 (by decide) ?_
  refine ev_icmpF (tgt := 108) dX12_lay_45 (by decide) c0 ?_
  refine ev_iload dX12_lay_48 rfl ?_
  refine ev_aload_n dX12_lay_50 rfl ?_
  refine ev_getS (q := 138) dX12_lay_51 fo_12_22 (by omega) lo_133 rfl (sh_133_7 hX (by omega)) (by decide) ?_
  refine ev_iload_n dX12_lay_54 rfl ?_
  refine ev_iald dX12_lay_55 (by omega) ly_138 rfl b0 ?_
  refine ev_icmpF (tgt := 108) dX12_lay_56 (by decide) c1 ?_
  refine ev_aload_n dX12_lay_59 rfl ?_
  refine ev_getS (q := 139) dX12_lay_60 fo_12_25 (by omega) lo_133 rfl (sh_133_8 hX (by omega)) (by decide) ?_
  refine ev_bipush (v := 16) dX12_lay_63 kb_16 ?_
  refine ev_iload_n dX12_lay_65 rfl ?_
  refine ev_imul dX12_lay_66 ?_
  refine ev_iload dX12_lay_67 rfl ?_
  refine ev_iadd dX12_lay_69 ?_
  refine ev_iald dX12_lay_70 (by omega) ly_139 (by show (nI 16 * nI v2) + nI v4 = nI ((16 * v2) + v4); simp only [pk_mul, nI_add]) b1 ?_
  refine ev_istore dX12_lay_71 (by decide) ?_
  refine ev_iload dX12_lay_73 rfl ?_
  refine ev_iconst (v := 0) dX12_lay_75 ki_0 ?_
  refine ev_bipush (v := 9) dX12_lay_76 kb_9 ?_
  refine e_Si (as := [.int (X 139 ((16 * v2) + v4)), .int 0, .int 9]) (rest := []) dX12_lay_78 vX12_within ml_12_52 stX12_within npX12_within (by decide) rfl (Nat.le_of_ble_eq_true rfl) (by omega) (t_X12_within (d := d - 1) (by omega) (by omega) hX c2) ?_
  refine ev_ifF (tgt := 102) dX12_lay_81 (by decide) (by show ¬ (1 : Int32) = 0; decide) ?_
  refine ev_aload_n dX12_lay_84 rfl ?_
  refine ev_getS (q := 134) dX12_lay_85 fo_12_9 (by omega) lo_133 rfl (sh_133_0 hX (by omega)) (by decide) ?_
  refine ev_iload_n dX12_lay_88 rfl ?_
  refine ev_iconst (v := 5) dX12_lay_89 ki_5 ?_
  refine ev_iload dX12_lay_90 rfl ?_
  refine ev_iadd dX12_lay_92 ?_
  refine e_Si (as := [.int (nI v1), .int (5 + (nI v4))]) (rest := [.ref 134]) dX12_lay_93 vX12_ofFamily ml_12_99 stX12_ofFamily npX12_ofFamily (by decide) rfl (Nat.le_of_ble_eq_true rfl) (by omega) (c_X12_ofFamily (d := d - 1) (by omega) (by omega) hX ) ?_
  refine ev_iload dX12_lay_96 rfl ?_
  refine ev_iast dX12_lay_98 (by omega) ly_134 (by show (nI 448 + (nI 15 * nI v1)) + (nI 5 + nI v4) = nI ((448 + (15 * v1)) + (5 + v4)); simp only [pk_mul, nI_add]) b2 ?_
  have hX1 : Sh _ (lx_up X 134 ((448 + (15 * v1)) + (5 + v4)) (X 139 ((16 * v2) + v4))) := Sh.upA hX (by rw [ly_134]; exact (by decide : 0 < 2))
  refine ev_iinc (v := v3 + 1) dX12_lay_99 rfl (by rw [show Int32.ofInt 1 = 1 from ki_1]) (by decide) ?_
  refine ev_iinc (v := (nI v4) + 1) dX12_lay_102 rfl (by rw [show Int32.ofInt 1 = 1 from ki_1]) (by decide) ?_
  refine ev_goto (tgt := 37) dX12_lay_105 (by decide) ?_
  refine ev_wk (L := [some (.ref 133), some (.int (nI v1)), some (.int (nI v2)), some (.int (v3 + 1)), some (.int ((nI v4) + 1)), some (.int (X 139 ((16 * v2) + v4)))]) (L' := [some (.ref 133), some (.int (nI v1)), some (.int (nI v2)), some (.int (v3 + 1)), some (.int ((nI v4) + 1)), none]) (by simp [lwk]) ?_
  exact k
theorem bX12_lay_37_1 {g : GG} {d n : Nat} {post : Option Value → LX → Prop} {X : LX} (hd : 1 ≤ d) (hn : 146 ≤ n) (hX : Sh n X) {v1 : Int32} {v2 : Nat} {v3 : Int32} {v4 : Nat} (c0 : ¬ X 134 5 ≤ nI v4) (b0 : v2 < 2) (c1 : ¬ X 138 v2 ≤ nI v4) (b1 : ((16 * v2) + v4) < 32) (c2 : ¬ (0 ≤ (X 139 ((16 * v2) + v4)) ∧ (X 139 ((16 * v2) + v4)) ≤ 9)) (k : Ev g mX12_lay d n n post n 37 [some (.ref 133), some (.int v1), some (.int (nI v2)), some (.int v3), some (.int ((nI v4) + 1)), none] [] X) : Ev g mX12_lay d n n post n 37 [some (.ref 133), some (.int v1), some (.int (nI v2)), some (.int v3), some (.int (nI v4)), none] [] X := by
  refine ev_iload dX12_lay_37 rfl ?_
  refine ev_aload_n dX12_lay_39 rfl ?_
  refine ev_getS (q := 134) dX12_lay_40 fo_12_9 (by omega) lo_133 rfl (sh_133_0 hX (by omega)) (by decide) ?_
  refine ev_iconst (v := 5) dX12_lay_43 ki_5 ?_
  refine ev_iald dX12_lay_44 (by omega) ly_134 nIl_5 (by decide) ?_
  refine ev_icmpF (tgt := 108) dX12_lay_45 (by decide) c0 ?_
  refine ev_iload dX12_lay_48 rfl ?_
  refine ev_aload_n dX12_lay_50 rfl ?_
  refine ev_getS (q := 138) dX12_lay_51 fo_12_22 (by omega) lo_133 rfl (sh_133_7 hX (by omega)) (by decide) ?_
  refine ev_iload_n dX12_lay_54 rfl ?_
  refine ev_iald dX12_lay_55 (by omega) ly_138 rfl b0 ?_
  refine ev_icmpF (tgt := 108) dX12_lay_56 (by decide) c1 ?_
  refine ev_aload_n dX12_lay_59 rfl ?_
  refine ev_getS (q := 139) dX12_lay_60 fo_12_25 (by omega) lo_133 rfl (sh_133_8 hX (by omega)) (by decide) ?_
  refine ev_bipush (v := 16) dX12_lay_63 kb_16 ?_
  refine ev_iload_n dX12_lay_65 rfl ?_
  refine ev_imul dX12_lay_66 ?_
  refine ev_iload dX12_lay_67 rfl ?_
  refine ev_iadd dX12_lay_69 ?_
  refine ev_iald dX12_lay_70 (by omega) ly_139 (by show (nI 16 * nI v2) + nI v4 = nI ((16 * v2) + v4); simp only [pk_mul, nI_add]) b1 ?_
  refine ev_istore dX12_lay_71 (by decide) ?_
  refine ev_iload dX12_lay_73 rfl ?_
  refine ev_iconst (v := 0) dX12_lay_75 ki_0 ?_
  refine ev_bipush (v := 9) dX12_lay_76 kb_9 ?_
  refine e_Si (as := [.int (X 139 ((16 * v2) + v4)), .int 0, .int 9]) (rest := []) dX12_lay_78 vX12_within ml_12_52 stX12_within npX12_within (by decide) rfl (Nat.le_of_ble_eq_true rfl) (by omega) (f_X12_within (d := d - 1) (by omega) (by omega) hX c2) ?_
  refine ev_ifT (tgt := 102) dX12_lay_81 (by decide) (by show (0 : Int32) = 0; decide) ?_
  refine ev_iinc (v := (nI v4) + 1) dX12_lay_102 rfl (by rw [show Int32.ofInt 1 = 1 from ki_1]) (by decide) ?_
  refine ev_goto (tgt := 37) dX12_lay_105 (by decide) ?_
  refine ev_wk (L := [some (.ref 133), some (.int v1), some (.int (nI v2)), some (.int v3), some (.int ((nI v4) + 1)), some (.int (X 139 ((16 * v2) + v4)))]) (L' := [some (.ref 133), some (.int v1), some (.int (nI v2)), some (.int v3), some (.int ((nI v4) + 1)), none]) (by simp [lwk]) ?_
  exact k
theorem bX12_lay_37_2 {g : GG} {d n : Nat} {post : Option Value → LX → Prop} {X : LX} (hn : 146 ≤ n) (hX : Sh n X) {v1 : Int32} {v2 : Nat} {v3 : Int32} {v4 : Int32} (c0 : ¬ X 134 5 ≤ v4) (b0 : v2 < 2) (c1 : X 138 v2 ≤ v4) (hp : post (some (.int v3)) X) : Ev g mX12_lay d n n post n 37 [some (.ref 133), some (.int v1), some (.int (nI v2)), some (.int v3), some (.int v4), none] [] X := by
  refine ev_iload dX12_lay_37 rfl ?_
  refine ev_aload_n dX12_lay_39 rfl ?_
  refine ev_getS (q := 134) dX12_lay_40 fo_12_9 (by omega) lo_133 rfl (sh_133_0 hX (by omega)) (by decide) ?_
  refine ev_iconst (v := 5) dX12_lay_43 ki_5 ?_
  refine ev_iald dX12_lay_44 (by omega) ly_134 nIl_5 (by decide) ?_
  refine ev_icmpF (tgt := 108) dX12_lay_45 (by decide) c0 ?_
  refine ev_iload dX12_lay_48 rfl ?_
  refine ev_aload_n dX12_lay_50 rfl ?_
  refine ev_getS (q := 138) dX12_lay_51 fo_12_22 (by omega) lo_133 rfl (sh_133_7 hX (by omega)) (by decide) ?_
  refine ev_iload_n dX12_lay_54 rfl ?_
  refine ev_iald dX12_lay_55 (by omega) ly_138 rfl b0 ?_
  refine ev_icmpT (tgt := 108) dX12_lay_56 (by decide) c1 ?_
  refine ev_iload_n dX12_lay_108 rfl ?_
  exact ev_iret dX12_lay_109 rfl rfl hp
theorem bX12_lay_37_3 {g : GG} {d n : Nat} {post : Option Value → LX → Prop} {X : LX} (hn : 146 ≤ n) (hX : Sh n X) {v1 : Int32} {v2 : Int32} {v3 : Int32} {v4 : Int32} (c0 : X 134 5 ≤ v4) (hp : post (some (.int v3)) X) : Ev g mX12_lay d n n post n 37 [some (.ref 133), some (.int v1), some (.int v2), some (.int v3), some (.int v4), none] [] X := by
  refine ev_iload dX12_lay_37 rfl ?_
  refine ev_aload_n dX12_lay_39 rfl ?_
  refine ev_getS (q := 134) dX12_lay_40 fo_12_9 (by omega) lo_133 rfl (sh_133_0 hX (by omega)) (by decide) ?_
  refine ev_iconst (v := 5) dX12_lay_43 ki_5 ?_
  refine ev_iald dX12_lay_44 (by omega) ly_134 nIl_5 (by decide) ?_
  refine ev_icmpT (tgt := 108) dX12_lay_45 (by decide) c0 ?_
  refine ev_iload_n dX12_lay_108 rfl ?_
  exact ev_iret dX12_lay_109 rfl rfl hp
theorem bX11_with_0_0 {g : GG} {d n : Nat} {post : Option Value → LX → Prop} {X : LX} (hd : 1 ≤ d) (hn : 146 ≤ n) (hX : Sh n X) {v1 : Int32} {v2 : Int32} {v3 : Int32} (c0 : 0 ≤ v1 ∧ v1 < X 23 0) (c1 : 0 ≤ v2 ∧ v2 < X 2 0) (c2 : 1 ≤ v3 ∧ v3 ≤ 999) (c3 : ¬ ((X 1 6) >>> (v1 &&& 31)) &&& 1 = 0) (hp : post (some (.int (-1000000002))) X) : Ev g mX11_with d n n post n 0 [some (.ref 0), some (.int v1), some (.int v2), some (.int v3), none] [] X := by
  refine ev_aload_n dX11_with_0 rfl ?_
  refine ev_getS (q := 1) dX11_with_1 fo_11_10 (by omega) lo_0 rfl (sh_0_0 hX (by omega)) (by decide) ?_
  refine ev_getS (q := 23) dX11_with_4 fo_11_96 (by omega) lo_1 rfl (sh_1_1 hX (by omega)) (by decide) ?_
  refine ev_astore dX11_with_7 (by decide) ?_
  refine ev_aload dX11_with_9 rfl ?_
  refine ev_iload_n dX11_with_11 rfl ?_
  refine e_Vi (as := [.int v1]) (rest := []) dX11_with_12 vX5_has ml_11_109 isX5_has seX5_has npX5_has (rc_23 (by omega)) (by decide) rfl (Nat.le_of_ble_eq_true rfl) (by omega) (t_X5_has (d := d - 1) (by omega) (by omega) hX c0) ?_
  refine ev_ifF (tgt := 43) dX11_with_15 (by decide) (by show ¬ (1 : Int32) = 0; decide) ?_
  refine ev_aload_n dX11_with_18 rfl ?_
  refine ev_getS (q := 1) dX11_with_19 fo_11_10 (by omega) lo_0 rfl (sh_0_0 hX (by omega)) (by decide) ?_
  refine ev_getS (q := 2) dX11_with_22 fo_11_62 (by omega) lo_1 rfl (sh_1_0 hX (by omega)) (by decide) ?_
  refine ev_iload_n dX11_with_25 rfl ?_
  refine e_Vi (as := [.int v2]) (rest := []) dX11_with_26 vX7_has ml_11_88 isX7_has seX7_has npX7_has (rc_2 (by omega)) (by decide) rfl (Nat.le_of_ble_eq_true rfl) (by omega) (t_X7_has (d := d - 1) (by omega) (by omega) hX c1) ?_
  refine ev_ifF (tgt := 43) dX11_with_29 (by decide) (by show ¬ (1 : Int32) = 0; decide) ?_
  refine ev_iload_n dX11_with_32 rfl ?_
  refine ev_iconst (v := 1) dX11_with_33 ki_1 ?_
  refine ev_sipush (v := 999) dX11_with_34 ks_999 ?_
  refine e_Si (as := [.int v3, .int 1, .int 999]) (rest := []) dX11_with_37 vX11_isIn ml_11_57 stX11_isIn npX11_isIn (by decide) rfl (Nat.le_of_ble_eq_true rfl) (by omega) (t_X11_isIn (d := d - 1) (by omega) (by omega) hX c2) ?_
  refine ev_ifT (tgt := 46) dX11_with_40 (by decide) (by show ¬ (1 : Int32) = 0; decide) ?_
  refine ev_aload_n dX11_with_46 rfl ?_
  refine ev_getS (q := 1) dX11_with_47 fo_11_10 (by omega) lo_0 rfl (sh_0_0 hX (by omega)) (by decide) ?_
  refine ev_getI dX11_with_50 fo_11_118 (by omega) lo_1 rfl ?_
  refine ev_iload_n dX11_with_53 rfl ?_
  refine e_Si (as := [.int (X 1 6), .int v1]) (rest := []) dX11_with_54 vX11_hasBit ml_11_121 stX11_hasBit npX11_hasBit (by decide) rfl (Nat.le_of_ble_eq_true rfl) (by omega) (t_X11_hasBit (d := d - 1) (by omega) (by omega) hX c3) ?_
  refine ev_ifF (tgt := 63) dX11_with_57 (by decide) (by show ¬ (1 : Int32) = 0; decide) ?_
  refine ev_ldc (v := (-1000000002)) dX11_with_60 kw_11_124 ?_
  exact ev_iret dX11_with_62 rfl rfl hp
theorem bX11_with_0_1 {g : GG} {d n : Nat} {post : Option Value → LX → Prop} {X : LX} (hd : 1 ≤ d) (hn : 146 ≤ n) (hX : Sh n X) {v1 : Nat} {v2 : Nat} {v3 : Int32} (c0 : 0 ≤ (nI v1) ∧ (nI v1) < X 23 0) (c1 : 0 ≤ (nI v2) ∧ (nI v2) < X 2 0) (c2 : 1 ≤ v3 ∧ v3 ≤ 999) (c3 : ¬ (¬ ((X 1 6) >>> ((nI v1) &&& 31)) &&& 1 = 0)) (b0 : v1 < 10) (b1 : v2 < 14) (c4 : X (26 + 1 + v1) v2 = 0) (c5 : v1 < 10) (c6 : ¬ cCnt X v1 < 5) (hp : post (some (.int (-1000000003))) X) : Ev g mX11_with d n n post n 0 [some (.ref 0), some (.int (nI v1)), some (.int (nI v2)), some (.int v3), none] [] X := by
  refine ev_aload_n dX11_with_0 rfl ?_
  refine ev_getS (q := 1) dX11_with_1 fo_11_10 (by omega) lo_0 rfl (sh_0_0 hX (by omega)) (by decide) ?_
  refine ev_getS (q := 23) dX11_with_4 fo_11_96 (by omega) lo_1 rfl (sh_1_1 hX (by omega)) (by decide) ?_
  refine ev_astore dX11_with_7 (by decide) ?_
  refine ev_aload dX11_with_9 rfl ?_
  refine ev_iload_n dX11_with_11 rfl ?_
  refine e_Vi (as := [.int (nI v1)]) (rest := []) dX11_with_12 vX5_has ml_11_109 isX5_has seX5_has npX5_has (rc_23 (by omega)) (by decide) rfl (Nat.le_of_ble_eq_true rfl) (by omega) (t_X5_has (d := d - 1) (by omega) (by omega) hX c0) ?_
  refine ev_ifF (tgt := 43) dX11_with_15 (by decide) (by show ¬ (1 : Int32) = 0; decide) ?_
  refine ev_aload_n dX11_with_18 rfl ?_
  refine ev_getS (q := 1) dX11_with_19 fo_11_10 (by omega) lo_0 rfl (sh_0_0 hX (by omega)) (by decide) ?_
  refine ev_getS (q := 2) dX11_with_22 fo_11_62 (by omega) lo_1 rfl (sh_1_0 hX (by omega)) (by decide) ?_
  refine ev_iload_n dX11_with_25 rfl ?_
  refine e_Vi (as := [.int (nI v2)]) (rest := []) dX11_with_26 vX7_has ml_11_88 isX7_has seX7_has npX7_has (rc_2 (by omega)) (by decide) rfl (Nat.le_of_ble_eq_true rfl) (by omega) (t_X7_has (d := d - 1) (by omega) (by omega) hX c1) ?_
  refine ev_ifF (tgt := 43) dX11_with_29 (by decide) (by show ¬ (1 : Int32) = 0; decide) ?_
  refine ev_iload_n dX11_with_32 rfl ?_
  refine ev_iconst (v := 1) dX11_with_33 ki_1 ?_
  refine ev_sipush (v := 999) dX11_with_34 ks_999 ?_
  refine e_Si (as := [.int v3, .int 1, .int 999]) (rest := []) dX11_with_37 vX11_isIn ml_11_57 stX11_isIn npX11_isIn (by decide) rfl (Nat.le_of_ble_eq_true rfl) (by omega) (t_X11_isIn (d := d - 1) (by omega) (by omega) hX c2) ?_
  refine ev_ifT (tgt := 46) dX11_with_40 (by decide) (by show ¬ (1 : Int32) = 0; decide) ?_
  refine ev_aload_n dX11_with_46 rfl ?_
  refine ev_getS (q := 1) dX11_with_47 fo_11_10 (by omega) lo_0 rfl (sh_0_0 hX (by omega)) (by decide) ?_
  refine ev_getI dX11_with_50 fo_11_118 (by omega) lo_1 rfl ?_
  refine ev_iload_n dX11_with_53 rfl ?_
  refine e_Si (as := [.int (X 1 6), .int (nI v1)]) (rest := []) dX11_with_54 vX11_hasBit ml_11_121 stX11_hasBit npX11_hasBit (by decide) rfl (Nat.le_of_ble_eq_true rfl) (by omega) (f_X11_hasBit (d := d - 1) (by omega) (by omega) hX c3) ?_
  refine ev_ifT (tgt := 63) dX11_with_57 (by decide) (by show (0 : Int32) = 0; decide) ?_
  refine ev_aload dX11_with_63 rfl ?_
  refine ev_getS (q := 26) dX11_with_65 fo_11_125 (by omega) lo_23 rfl (sh_23_3 hX (by omega)) (by decide) ?_
  refine ev_iload_n dX11_with_68 rfl ?_
  refine ev_aald (q := 26 + 1 + v1) dX11_with_69 (by omega) (Or.inl ly_26) rfl b0 (hX.2 26 v1 (by omega) (Or.inl (by rw [ly_26])) (by rw [ly_26]; exact b0)) (by first | omega | (have := LY_l ly_26; have := LY_lt (show (LY 26).1 < 99 by rw [ly_26]; exact (by decide : 2 < 99)); omega)) ?_
  refine ev_iload_n dX11_with_70 rfl ?_
  refine ev_iald dX11_with_71 (by have := b0; omega) (lyr_26 _ b0) rfl b1 ?_
  refine ev_ifF (tgt := 88) dX11_with_72 (by decide) c4 ?_
  refine ev_aload dX11_with_75 rfl ?_
  refine ev_iload_n dX11_with_77 rfl ?_
  refine e_Vi (as := [.int (nI v1)]) (rest := []) dX11_with_78 vX5_partsIn ml_11_128 isX5_partsIn seX5_partsIn npX5_partsIn (rc_23 (by omega)) (by decide) rfl (Nat.le_of_ble_eq_true rfl) (by omega) (k_X5_partsIn (d := d - 1) (by omega) (by omega) hX c5) ?_
  refine ev_iconst (v := 5) dX11_with_81 ki_5 ?_
  refine ev_icmpF (tgt := 88) dX11_with_82 (by decide) c6 ?_
  refine ev_ldc (v := (-1000000003)) dX11_with_85 kw_11_72 ?_
  exact ev_iret dX11_with_87 rfl rfl hp
theorem bX11_with_0_2 {g : GG} {d n : Nat} {post : Option Value → LX → Prop} {X : LX} (hd : 1 ≤ d) (hn : 146 ≤ n) (hX : Sh n X) {v1 : Nat} {v2 : Nat} {v3 : Int32} (c0 : 0 ≤ (nI v1) ∧ (nI v1) < X 23 0) (c1 : 0 ≤ (nI v2) ∧ (nI v2) < X 2 0) (c2 : 1 ≤ v3 ∧ v3 ≤ 999) (c3 : ¬ (¬ ((X 1 6) >>> ((nI v1) &&& 31)) &&& 1 = 0)) (b0 : v1 < 10) (b1 : v2 < 14) (c4 : X (26 + 1 + v1) v2 = 0) (c5 : v1 < 10) (c6 : cCnt X v1 < 5) (hp : post (some (.int (cCnt (lx_up X (26 + 1 + v1) v2 v3) v1))) (lx_up X (26 + 1 + v1) v2 v3)) : Ev g mX11_with d n n post n 0 [some (.ref 0), some (.int (nI v1)), some (.int (nI v2)), some (.int v3), none] [] X := by
  refine ev_aload_n dX11_with_0 rfl ?_
  refine ev_getS (q := 1) dX11_with_1 fo_11_10 (by omega) lo_0 rfl (sh_0_0 hX (by omega)) (by decide) ?_
  refine ev_getS (q := 23) dX11_with_4 fo_11_96 (by omega) lo_1 rfl (sh_1_1 hX (by omega)) (by decide) ?_
  refine ev_astore dX11_with_7 (by decide) ?_
  refine ev_aload dX11_with_9 rfl ?_
  refine ev_iload_n dX11_with_11 rfl ?_
  refine e_Vi (as := [.int (nI v1)]) (rest := []) dX11_with_12 vX5_has ml_11_109 isX5_has seX5_has npX5_has (rc_23 (by omega)) (by decide) rfl (Nat.le_of_ble_eq_true rfl) (by omega) (t_X5_has (d := d - 1) (by omega) (by omega) hX c0) ?_
  refine ev_ifF (tgt := 43) dX11_with_15 (by decide) (by show ¬ (1 : Int32) = 0; decide) ?_
  refine ev_aload_n dX11_with_18 rfl ?_
  refine ev_getS (q := 1) dX11_with_19 fo_11_10 (by omega) lo_0 rfl (sh_0_0 hX (by omega)) (by decide) ?_
  refine ev_getS (q := 2) dX11_with_22 fo_11_62 (by omega) lo_1 rfl (sh_1_0 hX (by omega)) (by decide) ?_
  refine ev_iload_n dX11_with_25 rfl ?_
  refine e_Vi (as := [.int (nI v2)]) (rest := []) dX11_with_26 vX7_has ml_11_88 isX7_has seX7_has npX7_has (rc_2 (by omega)) (by decide) rfl (Nat.le_of_ble_eq_true rfl) (by omega) (t_X7_has (d := d - 1) (by omega) (by omega) hX c1) ?_
  refine ev_ifF (tgt := 43) dX11_with_29 (by decide) (by show ¬ (1 : Int32) = 0; decide) ?_
  refine ev_iload_n dX11_with_32 rfl ?_
  refine ev_iconst (v := 1) dX11_with_33 ki_1 ?_
  refine ev_sipush (v := 999) dX11_with_34 ks_999 ?_
  refine e_Si (as := [.int v3, .int 1, .int 999]) (rest := []) dX11_with_37 vX11_isIn ml_11_57 stX11_isIn npX11_isIn (by decide) rfl (Nat.le_of_ble_eq_true rfl) (by omega) (t_X11_isIn (d := d - 1) (by omega) (by omega) hX c2) ?_
  refine ev_ifT (tgt := 46) dX11_with_40 (by decide) (by show ¬ (1 : Int32) = 0; decide) ?_
  refine ev_aload_n dX11_with_46 rfl ?_
  refine ev_getS (q := 1) dX11_with_47 fo_11_10 (by omega) lo_0 rfl (sh_0_0 hX (by omega)) (by decide) ?_
  refine ev_getI dX11_with_50 fo_11_118 (by omega) lo_1 rfl ?_
  refine ev_iload_n dX11_with_53 rfl ?_
  refine e_Si (as := [.int (X 1 6), .int (nI v1)]) (rest := []) dX11_with_54 vX11_hasBit ml_11_121 stX11_hasBit npX11_hasBit (by decide) rfl (Nat.le_of_ble_eq_true rfl) (by omega) (f_X11_hasBit (d := d - 1) (by omega) (by omega) hX c3) ?_
  refine ev_ifT (tgt := 63) dX11_with_57 (by decide) (by show (0 : Int32) = 0; decide) ?_
  refine ev_aload dX11_with_63 rfl ?_
  refine ev_getS (q := 26) dX11_with_65 fo_11_125 (by omega) lo_23 rfl (sh_23_3 hX (by omega)) (by decide) ?_
  refine ev_iload_n dX11_with_68 rfl ?_
  refine ev_aald (q := 26 + 1 + v1) dX11_with_69 (by omega) (Or.inl ly_26) rfl b0 (hX.2 26 v1 (by omega) (Or.inl (by rw [ly_26])) (by rw [ly_26]; exact b0)) (by first | omega | (have := LY_l ly_26; have := LY_lt (show (LY 26).1 < 99 by rw [ly_26]; exact (by decide : 2 < 99)); omega)) ?_
  refine ev_iload_n dX11_with_70 rfl ?_
  refine ev_iald dX11_with_71 (by have := b0; omega) (lyr_26 _ b0) rfl b1 ?_
  refine ev_ifF (tgt := 88) dX11_with_72 (by decide) c4 ?_
  refine ev_aload dX11_with_75 rfl ?_
  refine ev_iload_n dX11_with_77 rfl ?_
  refine e_Vi (as := [.int (nI v1)]) (rest := []) dX11_with_78 vX5_partsIn ml_11_128 isX5_partsIn seX5_partsIn npX5_partsIn (rc_23 (by omega)) (by decide) rfl (Nat.le_of_ble_eq_true rfl) (by omega) (k_X5_partsIn (d := d - 1) (by omega) (by omega) hX c5) ?_
  refine ev_iconst (v := 5) dX11_with_81 ki_5 ?_
  refine ev_icmpT (tgt := 88) dX11_with_82 (by decide) c6 ?_
  refine ev_aload dX11_with_88 rfl ?_
  refine ev_getS (q := 26) dX11_with_90 fo_11_125 (by omega) lo_23 rfl (sh_23_3 hX (by omega)) (by decide) ?_
  refine ev_iload_n dX11_with_93 rfl ?_
  refine ev_aald (q := 26 + 1 + v1) dX11_with_94 (by omega) (Or.inl ly_26) rfl b0 (hX.2 26 v1 (by omega) (Or.inl (by rw [ly_26])) (by rw [ly_26]; exact b0)) (by first | omega | (have := LY_l ly_26; have := LY_lt (show (LY 26).1 < 99 by rw [ly_26]; exact (by decide : 2 < 99)); omega)) ?_
  refine ev_iload_n dX11_with_95 rfl ?_
  refine ev_iload_n dX11_with_96 rfl ?_
  refine ev_iast dX11_with_97 (by have := b0; omega) (lyr_26 _ b0) rfl b1 ?_
  have hX1 : Sh _ (lx_up X (26 + 1 + v1) v2 v3) := Sh.upA hX (by rw [(lyr_26 _ b0)]; exact (by decide : 0 < 2))
  refine ev_aload dX11_with_98 rfl ?_
  refine ev_iload_n dX11_with_100 rfl ?_
  refine e_Vi (as := [.int (nI v1)]) (rest := []) dX11_with_101 vX5_partsIn ml_11_128 isX5_partsIn seX5_partsIn npX5_partsIn (rc_23 (by omega)) (by decide) rfl (Nat.le_of_ble_eq_true rfl) (by omega) (k_X5_partsIn (d := d - 1) (by omega) (by omega) hX1 c5) ?_
  exact ev_iret dX11_with_104 rfl rfl hp
theorem bX11_with_0_3 {g : GG} {d n : Nat} {post : Option Value → LX → Prop} {X : LX} (hd : 1 ≤ d) (hn : 146 ≤ n) (hX : Sh n X) {v1 : Nat} {v2 : Nat} {v3 : Int32} (c0 : 0 ≤ (nI v1) ∧ (nI v1) < X 23 0) (c1 : 0 ≤ (nI v2) ∧ (nI v2) < X 2 0) (c2 : 1 ≤ v3 ∧ v3 ≤ 999) (c3 : ¬ (¬ ((X 1 6) >>> ((nI v1) &&& 31)) &&& 1 = 0)) (b0 : v1 < 10) (b1 : v2 < 14) (c4 : ¬ X (26 + 1 + v1) v2 = 0) (c5 : v1 < 10) (hp : post (some (.int (cCnt (lx_up X (26 + 1 + v1) v2 v3) v1))) (lx_up X (26 + 1 + v1) v2 v3)) : Ev g mX11_with d n n post n 0 [some (.ref 0), some (.int (nI v1)), some (.int (nI v2)), some (.int v3), none] [] X := by
  refine ev_aload_n dX11_with_0 rfl ?_
  refine ev_getS (q := 1) dX11_with_1 fo_11_10 (by omega) lo_0 rfl (sh_0_0 hX (by omega)) (by decide) ?_
  refine ev_getS (q := 23) dX11_with_4 fo_11_96 (by omega) lo_1 rfl (sh_1_1 hX (by omega)) (by decide) ?_
  refine ev_astore dX11_with_7 (by decide) ?_
  refine ev_aload dX11_with_9 rfl ?_
  refine ev_iload_n dX11_with_11 rfl ?_
  refine e_Vi (as := [.int (nI v1)]) (rest := []) dX11_with_12 vX5_has ml_11_109 isX5_has seX5_has npX5_has (rc_23 (by omega)) (by decide) rfl (Nat.le_of_ble_eq_true rfl) (by omega) (t_X5_has (d := d - 1) (by omega) (by omega) hX c0) ?_
  refine ev_ifF (tgt := 43) dX11_with_15 (by decide) (by show ¬ (1 : Int32) = 0; decide) ?_
  refine ev_aload_n dX11_with_18 rfl ?_
  refine ev_getS (q := 1) dX11_with_19 fo_11_10 (by omega) lo_0 rfl (sh_0_0 hX (by omega)) (by decide) ?_
  refine ev_getS (q := 2) dX11_with_22 fo_11_62 (by omega) lo_1 rfl (sh_1_0 hX (by omega)) (by decide) ?_
  refine ev_iload_n dX11_with_25 rfl ?_
  refine e_Vi (as := [.int (nI v2)]) (rest := []) dX11_with_26 vX7_has ml_11_88 isX7_has seX7_has npX7_has (rc_2 (by omega)) (by decide) rfl (Nat.le_of_ble_eq_true rfl) (by omega) (t_X7_has (d := d - 1) (by omega) (by omega) hX c1) ?_
  refine ev_ifF (tgt := 43) dX11_with_29 (by decide) (by show ¬ (1 : Int32) = 0; decide) ?_
  refine ev_iload_n dX11_with_32 rfl ?_
  refine ev_iconst (v := 1) dX11_with_33 ki_1 ?_
  refine ev_sipush (v := 999) dX11_with_34 ks_999 ?_
  refine e_Si (as := [.int v3, .int 1, .int 999]) (rest := []) dX11_with_37 vX11_isIn ml_11_57 stX11_isIn npX11_isIn (by decide) rfl (Nat.le_of_ble_eq_true rfl) (by omega) (t_X11_isIn (d := d - 1) (by omega) (by omega) hX c2) ?_
  refine ev_ifT (tgt := 46) dX11_with_40 (by decide) (by show ¬ (1 : Int32) = 0; decide) ?_
  refine ev_aload_n dX11_with_46 rfl ?_
  refine ev_getS (q := 1) dX11_with_47 fo_11_10 (by omega) lo_0 rfl (sh_0_0 hX (by omega)) (by decide) ?_
  refine ev_getI dX11_with_50 fo_11_118 (by omega) lo_1 rfl ?_
  refine ev_iload_n dX11_with_53 rfl ?_
  refine e_Si (as := [.int (X 1 6), .int (nI v1)]) (rest := []) dX11_with_54 vX11_hasBit ml_11_121 stX11_hasBit npX11_hasBit (by decide) rfl (Nat.le_of_ble_eq_true rfl) (by omega) (f_X11_hasBit (d := d - 1) (by omega) (by omega) hX c3) ?_
  refine ev_ifT (tgt := 63) dX11_with_57 (by decide) (by show (0 : Int32) = 0; decide) ?_
  refine ev_aload dX11_with_63 rfl ?_
  refine ev_getS (q := 26) dX11_with_65 fo_11_125 (by omega) lo_23 rfl (sh_23_3 hX (by omega)) (by decide) ?_
  refine ev_iload_n dX11_with_68 rfl ?_
  refine ev_aald (q := 26 + 1 + v1) dX11_with_69 (by omega) (Or.inl ly_26) rfl b0 (hX.2 26 v1 (by omega) (Or.inl (by rw [ly_26])) (by rw [ly_26]; exact b0)) (by first | omega | (have := LY_l ly_26; have := LY_lt (show (LY 26).1 < 99 by rw [ly_26]; exact (by decide : 2 < 99)); omega)) ?_
  refine ev_iload_n dX11_with_70 rfl ?_
  refine ev_iald dX11_with_71 (by have := b0; omega) (lyr_26 _ b0) rfl b1 ?_
  refine ev_ifT (tgt := 88) dX11_with_72 (by decide) c4 ?_
  refine ev_aload dX11_with_88 rfl ?_
  refine ev_getS (q := 26) dX11_with_90 fo_11_125 (by omega) lo_23 rfl (sh_23_3 hX (by omega)) (by decide) ?_
  refine ev_iload_n dX11_with_93 rfl ?_
  refine ev_aald (q := 26 + 1 + v1) dX11_with_94 (by omega) (Or.inl ly_26) rfl b0 (hX.2 26 v1 (by omega) (Or.inl (by rw [ly_26])) (by rw [ly_26]; exact b0)) (by first | omega | (have := LY_l ly_26; have := LY_lt (show (LY 26).1 < 99 by rw [ly_26]; exact (by decide : 2 < 99)); omega)) ?_
  refine ev_iload_n dX11_with_95 rfl ?_
  refine ev_iload_n dX11_with_96 rfl ?_
  refine ev_iast dX11_with_97 (by have := b0; omega) (lyr_26 _ b0) rfl b1 ?_
  have hX1 : Sh _ (lx_up X (26 + 1 + v1) v2 v3) := Sh.upA hX (by rw [(lyr_26 _ b0)]; exact (by decide : 0 < 2))
  refine ev_aload dX11_with_98 rfl ?_
  refine ev_iload_n dX11_with_100 rfl ?_
  refine e_Vi (as := [.int (nI v1)]) (rest := []) dX11_with_101 vX5_partsIn ml_11_128 isX5_partsIn seX5_partsIn npX5_partsIn (rc_23 (by omega)) (by decide) rfl (Nat.le_of_ble_eq_true rfl) (by omega) (k_X5_partsIn (d := d - 1) (by omega) (by omega) hX1 c5) ?_
  exact ev_iret dX11_with_104 rfl rfl hp
theorem bX11_with_0_4 {g : GG} {d n : Nat} {post : Option Value → LX → Prop} {X : LX} (hd : 1 ≤ d) (hn : 146 ≤ n) (hX : Sh n X) {v1 : Int32} {v2 : Int32} {v3 : Int32} (c0 : 0 ≤ v1 ∧ v1 < X 23 0) (c1 : 0 ≤ v2 ∧ v2 < X 2 0) (c2 : ¬ (1 ≤ v3 ∧ v3 ≤ 999)) (hp : post (some (.int (-1000000001))) X) : Ev g mX11_with d n n post n 0 [some (.ref 0), some (.int v1), some (.int v2), some (.int v3), none] [] X := by
  refine ev_aload_n dX11_with_0 rfl ?_
  refine ev_getS (q := 1) dX11_with_1 fo_11_10 (by omega) lo_0 rfl (sh_0_0 hX (by omega)) (by decide) ?_
  refine ev_getS (q := 23) dX11_with_4 fo_11_96 (by omega) lo_1 rfl (sh_1_1 hX (by omega)) (by decide) ?_
  refine ev_astore dX11_with_7 (by decide) ?_
  refine ev_aload dX11_with_9 rfl ?_
  refine ev_iload_n dX11_with_11 rfl ?_
  refine e_Vi (as := [.int v1]) (rest := []) dX11_with_12 vX5_has ml_11_109 isX5_has seX5_has npX5_has (rc_23 (by omega)) (by decide) rfl (Nat.le_of_ble_eq_true rfl) (by omega) (t_X5_has (d := d - 1) (by omega) (by omega) hX c0) ?_
  refine ev_ifF (tgt := 43) dX11_with_15 (by decide) (by show ¬ (1 : Int32) = 0; decide) ?_
  refine ev_aload_n dX11_with_18 rfl ?_
  refine ev_getS (q := 1) dX11_with_19 fo_11_10 (by omega) lo_0 rfl (sh_0_0 hX (by omega)) (by decide) ?_
  refine ev_getS (q := 2) dX11_with_22 fo_11_62 (by omega) lo_1 rfl (sh_1_0 hX (by omega)) (by decide) ?_
  refine ev_iload_n dX11_with_25 rfl ?_
  refine e_Vi (as := [.int v2]) (rest := []) dX11_with_26 vX7_has ml_11_88 isX7_has seX7_has npX7_has (rc_2 (by omega)) (by decide) rfl (Nat.le_of_ble_eq_true rfl) (by omega) (t_X7_has (d := d - 1) (by omega) (by omega) hX c1) ?_
  refine ev_ifF (tgt := 43) dX11_with_29 (by decide) (by show ¬ (1 : Int32) = 0; decide) ?_
  refine ev_iload_n dX11_with_32 rfl ?_
  refine ev_iconst (v := 1) dX11_with_33 ki_1 ?_
  refine ev_sipush (v := 999) dX11_with_34 ks_999 ?_
  refine e_Si (as := [.int v3, .int 1, .int 999]) (rest := []) dX11_with_37 vX11_isIn ml_11_57 stX11_isIn npX11_isIn (by decide) rfl (Nat.le_of_ble_eq_true rfl) (by omega) (f_X11_isIn (d := d - 1) (by omega) (by omega) hX c2) ?_
  refine ev_ifF (tgt := 46) dX11_with_40 (by decide) (by show (0 : Int32) = 0; decide) ?_
  refine ev_ldc (v := (-1000000001)) dX11_with_43 kw_11_61 ?_
  exact ev_iret dX11_with_45 rfl rfl hp
theorem bX11_with_0_5 {g : GG} {d n : Nat} {post : Option Value → LX → Prop} {X : LX} (hd : 1 ≤ d) (hn : 146 ≤ n) (hX : Sh n X) {v1 : Int32} {v2 : Int32} {v3 : Int32} (c0 : 0 ≤ v1 ∧ v1 < X 23 0) (c1 : ¬ (0 ≤ v2 ∧ v2 < X 2 0)) (hp : post (some (.int (-1000000001))) X) : Ev g mX11_with d n n post n 0 [some (.ref 0), some (.int v1), some (.int v2), some (.int v3), none] [] X := by
  refine ev_aload_n dX11_with_0 rfl ?_
  refine ev_getS (q := 1) dX11_with_1 fo_11_10 (by omega) lo_0 rfl (sh_0_0 hX (by omega)) (by decide) ?_
  refine ev_getS (q := 23) dX11_with_4 fo_11_96 (by omega) lo_1 rfl (sh_1_1 hX (by omega)) (by decide) ?_
  refine ev_astore dX11_with_7 (by decide) ?_
  refine ev_aload dX11_with_9 rfl ?_
  refine ev_iload_n dX11_with_11 rfl ?_
  refine e_Vi (as := [.int v1]) (rest := []) dX11_with_12 vX5_has ml_11_109 isX5_has seX5_has npX5_has (rc_23 (by omega)) (by decide) rfl (Nat.le_of_ble_eq_true rfl) (by omega) (t_X5_has (d := d - 1) (by omega) (by omega) hX c0) ?_
  refine ev_ifF (tgt := 43) dX11_with_15 (by decide) (by show ¬ (1 : Int32) = 0; decide) ?_
  refine ev_aload_n dX11_with_18 rfl ?_
  refine ev_getS (q := 1) dX11_with_19 fo_11_10 (by omega) lo_0 rfl (sh_0_0 hX (by omega)) (by decide) ?_
  refine ev_getS (q := 2) dX11_with_22 fo_11_62 (by omega) lo_1 rfl (sh_1_0 hX (by omega)) (by decide) ?_
  refine ev_iload_n dX11_with_25 rfl ?_
  refine e_Vi (as := [.int v2]) (rest := []) dX11_with_26 vX7_has ml_11_88 isX7_has seX7_has npX7_has (rc_2 (by omega)) (by decide) rfl (Nat.le_of_ble_eq_true rfl) (by omega) (f_X7_has (d := d - 1) (by omega) (by omega) hX c1) ?_
  refine ev_ifT (tgt := 43) dX11_with_29 (by decide) (by show (0 : Int32) = 0; decide) ?_
  refine ev_ldc (v := (-1000000001)) dX11_with_43 kw_11_61 ?_
  exact ev_iret dX11_with_45 rfl rfl hp
theorem bX11_with_0_6 {g : GG} {d n : Nat} {post : Option Value → LX → Prop} {X : LX} (hd : 1 ≤ d) (hn : 146 ≤ n) (hX : Sh n X) {v1 : Int32} {v2 : Int32} {v3 : Int32} (c0 : ¬ (0 ≤ v1 ∧ v1 < X 23 0)) (hp : post (some (.int (-1000000001))) X) : Ev g mX11_with d n n post n 0 [some (.ref 0), some (.int v1), some (.int v2), some (.int v3), none] [] X := by
  refine ev_aload_n dX11_with_0 rfl ?_
  refine ev_getS (q := 1) dX11_with_1 fo_11_10 (by omega) lo_0 rfl (sh_0_0 hX (by omega)) (by decide) ?_
  refine ev_getS (q := 23) dX11_with_4 fo_11_96 (by omega) lo_1 rfl (sh_1_1 hX (by omega)) (by decide) ?_
  refine ev_astore dX11_with_7 (by decide) ?_
  refine ev_aload dX11_with_9 rfl ?_
  refine ev_iload_n dX11_with_11 rfl ?_
  refine e_Vi (as := [.int v1]) (rest := []) dX11_with_12 vX5_has ml_11_109 isX5_has seX5_has npX5_has (rc_23 (by omega)) (by decide) rfl (Nat.le_of_ble_eq_true rfl) (by omega) (f_X5_has (d := d - 1) (by omega) (by omega) hX c0) ?_
  refine ev_ifT (tgt := 43) dX11_with_15 (by decide) (by show (0 : Int32) = 0; decide) ?_
  refine ev_ldc (v := (-1000000001)) dX11_with_43 kw_11_61 ?_
  exact ev_iret dX11_with_45 rfl rfl hp
theorem bX12_with_0_0 {g : GG} {d n : Nat} {post : Option Value → LX → Prop} {X : LX} (hd : 2 ≤ d) (hn : 146 ≤ n) (hX : Sh n X) {v1 : Int32} {v2 : Int32} {v3 : Int32} (c0 : 0 ≤ v1 ∧ v1 ≤ X 134 5 - 1) (c1 : 0 ≤ v2 ∧ v2 ≤ X 134 4 - 1) (c2 : 1 ≤ v3 ∧ v3 ≤ 999) (c3 : ((X 134 8) >>> (v1 &&& 31)) &&& 1 = 1) (hp : post (some (.int (-1000000002))) X) : Ev g mX12_with d n n post n 0 [some (.ref 133), some (.int v1), some (.int v2), some (.int v3), none, none] [] X := by
  refine ev_aload_n dX12_with_0 rfl ?_
  refine ev_iload_n dX12_with_1 rfl ?_
  refine e_Vi (as := [.int v1]) (rest := []) dX12_with_2 vX12_isMeal ml_12_70 isX12_isMeal seX12_isMeal npX12_isMeal (rc_133 (by omega)) (by decide) rfl (Nat.le_of_ble_eq_true rfl) (by omega) (t_X12_isMeal (d := d - 1) (by omega) (by omega) hX c0) ?_
  refine ev_ifF (tgt := 27) dX12_with_5 (by decide) (by show ¬ (1 : Int32) = 0; decide) ?_
  refine ev_aload_n dX12_with_8 rfl ?_
  refine ev_iload_n dX12_with_9 rfl ?_
  refine e_Vi (as := [.int v2]) (rest := []) dX12_with_10 vX12_isPart ml_12_63 isX12_isPart seX12_isPart npX12_isPart (rc_133 (by omega)) (by decide) rfl (Nat.le_of_ble_eq_true rfl) (by omega) (t_X12_isPart (d := d - 1) (by omega) (by omega) hX c1) ?_
  refine ev_ifF (tgt := 27) dX12_with_13 (by decide) (by show ¬ (1 : Int32) = 0; decide) ?_
  refine ev_iload_n dX12_with_16 rfl ?_
  refine ev_iconst (v := 1) dX12_with_17 ki_1 ?_
  refine ev_sipush (v := 999) dX12_with_18 ks_999 ?_
  refine e_Si (as := [.int v3, .int 1, .int 999]) (rest := []) dX12_with_21 vX12_within ml_12_52 stX12_within npX12_within (by decide) rfl (Nat.le_of_ble_eq_true rfl) (by omega) (t_X12_within (d := d - 1) (by omega) (by omega) hX c2) ?_
  refine ev_ifT (tgt := 30) dX12_with_24 (by decide) (by show ¬ (1 : Int32) = 0; decide) ?_
  refine ev_aload_n dX12_with_30 rfl ?_
  refine ev_getS (q := 134) dX12_with_31 fo_12_9 (by omega) lo_133 rfl (sh_133_0 hX (by omega)) (by decide) ?_
  refine ev_bipush (v := 8) dX12_with_34 kb_8 ?_
  refine ev_iald dX12_with_36 (by omega) ly_134 nIl_8 (by decide) ?_
  refine ev_iload_n dX12_with_37 rfl ?_
  refine e_Si (as := [.int (X 134 8), .int v1]) (rest := []) dX12_with_38 vX12_has ml_12_76 stX12_has npX12_has (by decide) rfl (Nat.le_of_ble_eq_true rfl) (by omega) (t_X12_has (d := d - 1) (by omega) (by omega) hX c3) ?_
  refine ev_ifF (tgt := 47) dX12_with_41 (by decide) (by show ¬ (1 : Int32) = 0; decide) ?_
  refine ev_ldc (v := (-1000000002)) dX12_with_44 kw_12_80 ?_
  exact ev_iret dX12_with_46 rfl rfl hp
theorem bX12_with_0_1 {g : GG} {d n : Nat} {post : Option Value → LX → Prop} {X : LX} (hd : 2 ≤ d) (hn : 146 ≤ n) (hX : Sh n X) {v1 : Nat} {v2 : Int32} {v3 : Int32} (c0 : 0 ≤ (nI v1) ∧ (nI v1) ≤ X 134 5 - 1) (c1 : 0 ≤ v2 ∧ v2 ≤ X 134 4 - 1) (c2 : 1 ≤ v3 ∧ v3 ≤ 999) (c3 : ¬ (((X 134 8) >>> ((nI v1) &&& 31)) &&& 1 = 1)) (b0 : ((318 + (13 * v1)) + 2) < 2156) (k : Ev g mX12_with d n n post n 62 [some (.ref 133), some (.int (nI v1)), some (.int v2), some (.int v3), some (.int (X 134 ((318 + (13 * v1)) + 2))), some (.int 0)] [] X) : Ev g mX12_with d n n post n 0 [some (.ref 133), some (.int (nI v1)), some (.int v2), some (.int v3), none, none] [] X := by
  refine ev_aload_n dX12_with_0 rfl ?_
  refine ev_iload_n dX12_with_1 rfl ?_
  refine e_Vi (as := [.int (nI v1)]) (rest := []) dX12_with_2 vX12_isMeal ml_12_70 isX12_isMeal seX12_isMeal npX12_isMeal (rc_133 (by omega)) (by decide) rfl (Nat.le_of_ble_eq_true rfl) (by omega) (t_X12_isMeal (d := d - 1) (by omega) (by omega) hX c0) ?_
  refine ev_ifF (tgt := 27) dX12_with_5 (by decide) (by show ¬ (1 : Int32) = 0; decide) ?_
  refine ev_aload_n dX12_with_8 rfl ?_
  refine ev_iload_n dX12_with_9 rfl ?_
  refine e_Vi (as := [.int v2]) (rest := []) dX12_with_10 vX12_isPart ml_12_63 isX12_isPart seX12_isPart npX12_isPart (rc_133 (by omega)) (by decide) rfl (Nat.le_of_ble_eq_true rfl) (by omega) (t_X12_isPart (d := d - 1) (by omega) (by omega) hX c1) ?_
  refine ev_ifF (tgt := 27) dX12_with_13 (by decide) (by show ¬ (1 : Int32) = 0; decide) ?_
  refine ev_iload_n dX12_with_16 rfl ?_
  refine ev_iconst (v := 1) dX12_with_17 ki_1 ?_
  refine ev_sipush (v := 999) dX12_with_18 ks_999 ?_
  refine e_Si (as := [.int v3, .int 1, .int 999]) (rest := []) dX12_with_21 vX12_within ml_12_52 stX12_within npX12_within (by decide) rfl (Nat.le_of_ble_eq_true rfl) (by omega) (t_X12_within (d := d - 1) (by omega) (by omega) hX c2) ?_
  refine ev_ifT (tgt := 30) dX12_with_24 (by decide) (by show ¬ (1 : Int32) = 0; decide) ?_
  refine ev_aload_n dX12_with_30 rfl ?_
  refine ev_getS (q := 134) dX12_with_31 fo_12_9 (by omega) lo_133 rfl (sh_133_0 hX (by omega)) (by decide) ?_
  refine ev_bipush (v := 8) dX12_with_34 kb_8 ?_
  refine ev_iald dX12_with_36 (by omega) ly_134 nIl_8 (by decide) ?_
  refine ev_iload_n dX12_with_37 rfl ?_
  refine e_Si (as := [.int (X 134 8), .int (nI v1)]) (rest := []) dX12_with_38 vX12_has ml_12_76 stX12_has npX12_has (by decide) rfl (Nat.le_of_ble_eq_true rfl) (by omega) (f_X12_has (d := d - 1) (by omega) (by omega) hX c3) ?_
  refine ev_ifT (tgt := 47) dX12_with_41 (by decide) (by show (0 : Int32) = 0; decide) ?_
  refine ev_aload_n dX12_with_47 rfl ?_
  refine ev_getS (q := 134) dX12_with_48 fo_12_9 (by omega) lo_133 rfl (sh_133_0 hX (by omega)) (by decide) ?_
  refine ev_iload_n dX12_with_51 rfl ?_
  refine ev_iconst (v := 2) dX12_with_52 ki_2 ?_
  refine e_Si (as := [.int (nI v1), .int 2]) (rest := [.ref 134]) dX12_with_53 vX12_ofMeal ml_12_67 stX12_ofMeal npX12_ofMeal (by decide) rfl (Nat.le_of_ble_eq_true rfl) (by omega) (c_X12_ofMeal (d := d - 1) (by omega) (by omega) hX ) ?_
  refine ev_iald dX12_with_56 (by omega) ly_134 (by show (nI 318 + (nI 13 * nI v1)) + nI 2 = nI ((318 + (13 * v1)) + 2); simp only [pk_mul, nI_add]) b0 ?_
  refine ev_istore dX12_with_57 (by decide) ?_
  refine ev_iconst (v := 0) dX12_with_59 ki_0 ?_
  refine ev_istore dX12_with_60 (by decide) ?_
  exact k
theorem bX12_with_0_2 {g : GG} {d n : Nat} {post : Option Value → LX → Prop} {X : LX} (hd : 2 ≤ d) (hn : 146 ≤ n) (hX : Sh n X) {v1 : Int32} {v2 : Int32} {v3 : Int32} (c0 : 0 ≤ v1 ∧ v1 ≤ X 134 5 - 1) (c1 : 0 ≤ v2 ∧ v2 ≤ X 134 4 - 1) (c2 : ¬ (1 ≤ v3 ∧ v3 ≤ 999)) (hp : post (some (.int (-1000000001))) X) : Ev g mX12_with d n n post n 0 [some (.ref 133), some (.int v1), some (.int v2), some (.int v3), none, none] [] X := by
  refine ev_aload_n dX12_with_0 rfl ?_
  refine ev_iload_n dX12_with_1 rfl ?_
  refine e_Vi (as := [.int v1]) (rest := []) dX12_with_2 vX12_isMeal ml_12_70 isX12_isMeal seX12_isMeal npX12_isMeal (rc_133 (by omega)) (by decide) rfl (Nat.le_of_ble_eq_true rfl) (by omega) (t_X12_isMeal (d := d - 1) (by omega) (by omega) hX c0) ?_
  refine ev_ifF (tgt := 27) dX12_with_5 (by decide) (by show ¬ (1 : Int32) = 0; decide) ?_
  refine ev_aload_n dX12_with_8 rfl ?_
  refine ev_iload_n dX12_with_9 rfl ?_
  refine e_Vi (as := [.int v2]) (rest := []) dX12_with_10 vX12_isPart ml_12_63 isX12_isPart seX12_isPart npX12_isPart (rc_133 (by omega)) (by decide) rfl (Nat.le_of_ble_eq_true rfl) (by omega) (t_X12_isPart (d := d - 1) (by omega) (by omega) hX c1) ?_
  refine ev_ifF (tgt := 27) dX12_with_13 (by decide) (by show ¬ (1 : Int32) = 0; decide) ?_
  refine ev_iload_n dX12_with_16 rfl ?_
  refine ev_iconst (v := 1) dX12_with_17 ki_1 ?_
  refine ev_sipush (v := 999) dX12_with_18 ks_999 ?_
  refine e_Si (as := [.int v3, .int 1, .int 999]) (rest := []) dX12_with_21 vX12_within ml_12_52 stX12_within npX12_within (by decide) rfl (Nat.le_of_ble_eq_true rfl) (by omega) (f_X12_within (d := d - 1) (by omega) (by omega) hX c2) ?_
  refine ev_ifF (tgt := 30) dX12_with_24 (by decide) (by show (0 : Int32) = 0; decide) ?_
  refine ev_ldc (v := (-1000000001)) dX12_with_27 kw_12_57 ?_
  exact ev_iret dX12_with_29 rfl rfl hp
theorem bX12_with_0_3 {g : GG} {d n : Nat} {post : Option Value → LX → Prop} {X : LX} (hd : 2 ≤ d) (hn : 146 ≤ n) (hX : Sh n X) {v1 : Int32} {v2 : Int32} {v3 : Int32} (c0 : 0 ≤ v1 ∧ v1 ≤ X 134 5 - 1) (c1 : ¬ (0 ≤ v2 ∧ v2 ≤ X 134 4 - 1)) (hp : post (some (.int (-1000000001))) X) : Ev g mX12_with d n n post n 0 [some (.ref 133), some (.int v1), some (.int v2), some (.int v3), none, none] [] X := by
  refine ev_aload_n dX12_with_0 rfl ?_
  refine ev_iload_n dX12_with_1 rfl ?_
  refine e_Vi (as := [.int v1]) (rest := []) dX12_with_2 vX12_isMeal ml_12_70 isX12_isMeal seX12_isMeal npX12_isMeal (rc_133 (by omega)) (by decide) rfl (Nat.le_of_ble_eq_true rfl) (by omega) (t_X12_isMeal (d := d - 1) (by omega) (by omega) hX c0) ?_
  refine ev_ifF (tgt := 27) dX12_with_5 (by decide) (by show ¬ (1 : Int32) = 0; decide) ?_
  refine ev_aload_n dX12_with_8 rfl ?_
  refine ev_iload_n dX12_with_9 rfl ?_
  refine e_Vi (as := [.int v2]) (rest := []) dX12_with_10 vX12_isPart ml_12_63 isX12_isPart seX12_isPart npX12_isPart (rc_133 (by omega)) (by decide) rfl (Nat.le_of_ble_eq_true rfl) (by omega) (f_X12_isPart (d := d - 1) (by omega) (by omega) hX c1) ?_
  refine ev_ifT (tgt := 27) dX12_with_13 (by decide) (by show (0 : Int32) = 0; decide) ?_
  refine ev_ldc (v := (-1000000001)) dX12_with_27 kw_12_57 ?_
  exact ev_iret dX12_with_29 rfl rfl hp
theorem bX12_with_0_4 {g : GG} {d n : Nat} {post : Option Value → LX → Prop} {X : LX} (hd : 2 ≤ d) (hn : 146 ≤ n) (hX : Sh n X) {v1 : Int32} {v2 : Int32} {v3 : Int32} (c0 : ¬ (0 ≤ v1 ∧ v1 ≤ X 134 5 - 1)) (hp : post (some (.int (-1000000001))) X) : Ev g mX12_with d n n post n 0 [some (.ref 133), some (.int v1), some (.int v2), some (.int v3), none, none] [] X := by
  refine ev_aload_n dX12_with_0 rfl ?_
  refine ev_iload_n dX12_with_1 rfl ?_
  refine e_Vi (as := [.int v1]) (rest := []) dX12_with_2 vX12_isMeal ml_12_70 isX12_isMeal seX12_isMeal npX12_isMeal (rc_133 (by omega)) (by decide) rfl (Nat.le_of_ble_eq_true rfl) (by omega) (f_X12_isMeal (d := d - 1) (by omega) (by omega) hX c0) ?_
  refine ev_ifT (tgt := 27) dX12_with_5 (by decide) (by show (0 : Int32) = 0; decide) ?_
  refine ev_ldc (v := (-1000000001)) dX12_with_27 kw_12_57 ?_
  exact ev_iret dX12_with_29 rfl rfl hp
theorem bX12_with_62_0 {g : GG} {d n : Nat} {post : Option Value → LX → Prop} {X : LX} (hd : 1 ≤ d) (hn : 146 ≤ n) (hX : Sh n X) {v1 : Nat} {v2 : Int32} {v3 : Int32} {v4 : Int32} {v5 : Nat} (c0 : ¬ v4 ≤ nI v5) (b0 : ((318 + (13 * v1)) + (3 + v5)) < 2156) (c1 : ¬ X 134 ((318 + (13 * v1)) + (3 + v5)) = v2) (k : Ev g mX12_with d n n post n 62 [some (.ref 133), some (.int (nI v1)), some (.int v2), some (.int v3), some (.int v4), some (.int ((nI v5) + 1))] [] X) : Ev g mX12_with d n n post n 62 [some (.ref 133), some (.int (nI v1)), some (.int v2), some (.int v3), some (.int v4), some (.int (nI v5))] [] X := by
  refine ev_iload dX12_with_62 rfl ?_
  refine ev_iload dX12_with_64 rfl ?_
  refine ev_icmpF (tgt := 92) dX12_with_66 (by decide) c0 ?_
  refine ev_aload_n dX12_with_69 rfl ?_
  refine ev_getS (q := 134) dX12_with_70 fo_12_9 (by omega) lo_133 rfl (sh_133_0 hX (by omega)) (by decide) ?_
  refine ev_iload_n dX12_with_73 rfl ?_
  refine ev_iconst (v := 3) dX12_with_74 ki_3 ?_
  refine ev_iload dX12_with_75 rfl ?_
  refine ev_iadd dX12_with_77 ?_
  refine e_Si (as := [.int (nI v1), .int (3 + (nI v5))]) (rest := [.ref 134]) dX12_with_78 vX12_ofMeal ml_12_67 stX12_ofMeal npX12_ofMeal (by decide) rfl (Nat.le_of_ble_eq_true rfl) (by omega) (c_X12_ofMeal (d := d - 1) (by omega) (by omega) hX ) ?_
  refine ev_iald dX12_with_81 (by omega) ly_134 (by show (nI 318 + (nI 13 * nI v1)) + (nI 3 + nI v5) = nI ((318 + (13 * v1)) + (3 + v5)); simp only [pk_mul, nI_add]) b0 ?_
  refine ev_iload_n dX12_with_82 rfl ?_
  refine ev_icmpF (tgt := 92) dX12_with_83 (by decide) c1 ?_
  refine ev_iinc (v := (nI v5) + 1) dX12_with_86 rfl (by rw [show Int32.ofInt 1 = 1 from ki_1]) (by decide) ?_
  refine ev_goto (tgt := 62) dX12_with_89 (by decide) ?_
  exact k
theorem bX12_with_62_1 {g : GG} {d n : Nat} {post : Option Value → LX → Prop} {X : LX} (hd : 1 ≤ d) (hn : 146 ≤ n) (hX : Sh n X) {v1 : Nat} {v2 : Int32} {v3 : Int32} {v4 : Int32} {v5 : Nat} (c0 : ¬ v4 ≤ nI v5) (b0 : ((318 + (13 * v1)) + (3 + v5)) < 2156) (c1 : X 134 ((318 + (13 * v1)) + (3 + v5)) = v2) (c2 : nI v5 = 5) (hp : post (some (.int (-1000000003))) X) : Ev g mX12_with d n n post n 62 [some (.ref 133), some (.int (nI v1)), some (.int v2), some (.int v3), some (.int v4), some (.int (nI v5))] [] X := by
  refine ev_iload dX12_with_62 rfl ?_
  refine ev_iload dX12_with_64 rfl ?_
  refine ev_icmpF (tgt := 92) dX12_with_66 (by decide) c0 ?_
  refine ev_aload_n dX12_with_69 rfl ?_
  refine ev_getS (q := 134) dX12_with_70 fo_12_9 (by omega) lo_133 rfl (sh_133_0 hX (by omega)) (by decide) ?_
  refine ev_iload_n dX12_with_73 rfl ?_
  refine ev_iconst (v := 3) dX12_with_74 ki_3 ?_
  refine ev_iload dX12_with_75 rfl ?_
  refine ev_iadd dX12_with_77 ?_
  refine e_Si (as := [.int (nI v1), .int (3 + (nI v5))]) (rest := [.ref 134]) dX12_with_78 vX12_ofMeal ml_12_67 stX12_ofMeal npX12_ofMeal (by decide) rfl (Nat.le_of_ble_eq_true rfl) (by omega) (c_X12_ofMeal (d := d - 1) (by omega) (by omega) hX ) ?_
  refine ev_iald dX12_with_81 (by omega) ly_134 (by show (nI 318 + (nI 13 * nI v1)) + (nI 3 + nI v5) = nI ((318 + (13 * v1)) + (3 + v5)); simp only [pk_mul, nI_add]) b0 ?_
  refine ev_iload_n dX12_with_82 rfl ?_
  refine ev_icmpT (tgt := 92) dX12_with_83 (by decide) c1 ?_
  refine ev_iload dX12_with_92 rfl ?_
  refine ev_iconst (v := 5) dX12_with_94 ki_5 ?_
  refine ev_icmpF (tgt := 101) dX12_with_95 (by decide) c2 ?_
  refine ev_ldc (v := (-1000000003)) dX12_with_98 kw_12_58 ?_
  exact ev_iret dX12_with_100 rfl rfl hp
theorem bX12_with_62_2 {g : GG} {d n : Nat} {post : Option Value → LX → Prop} {X : LX} (hd : 1 ≤ d) (hn : 146 ≤ n) (hX : Sh n X) {v1 : Nat} {v2 : Int32} {v3 : Int32} {v4 : Int32} {v5 : Nat} (c0 : ¬ v4 ≤ nI v5) (b0 : ((318 + (13 * v1)) + (3 + v5)) < 2156) (c1 : X 134 ((318 + (13 * v1)) + (3 + v5)) = v2) (c2 : ¬ nI v5 = 5) (b1 : ((318 + (13 * v1)) + (8 + v5)) < 2156) (b2 : ((318 + (13 * v1)) + 2) < 2156) (hp : post (some (.int ((lx_up (lx_up (lx_up X 134 ((318 + (13 * v1)) + (3 + v5)) v2) 134 ((318 + (13 * v1)) + (8 + v5)) v3) 134 ((318 + (13 * v1)) + 2) (if v4 < ((nI v5) + 1) then ((nI v5) + 1) else v4)) 134 ((318 + (13 * v1)) + 2)))) (lx_up (lx_up (lx_up X 134 ((318 + (13 * v1)) + (3 + v5)) v2) 134 ((318 + (13 * v1)) + (8 + v5)) v3) 134 ((318 + (13 * v1)) + 2) (if v4 < ((nI v5) + 1) then ((nI v5) + 1) else v4))) : Ev g mX12_with d n n post n 62 [some (.ref 133), some (.int (nI v1)), some (.int v2), some (.int v3), some (.int v4), some (.int (nI v5))] [] X := by
  refine ev_iload dX12_with_62 rfl ?_
  refine ev_iload dX12_with_64 rfl ?_
  refine ev_icmpF (tgt := 92) dX12_with_66 (by decide) c0 ?_
  refine ev_aload_n dX12_with_69 rfl ?_
  refine ev_getS (q := 134) dX12_with_70 fo_12_9 (by omega) lo_133 rfl (sh_133_0 hX (by omega)) (by decide) ?_
  refine ev_iload_n dX12_with_73 rfl ?_
  refine ev_iconst (v := 3) dX12_with_74 ki_3 ?_
  refine ev_iload dX12_with_75 rfl ?_
  refine ev_iadd dX12_with_77 ?_
  refine e_Si (as := [.int (nI v1), .int (3 + (nI v5))]) (rest := [.ref 134]) dX12_with_78 vX12_ofMeal ml_12_67 stX12_ofMeal npX12_ofMeal (by decide) rfl (Nat.le_of_ble_eq_true rfl) (by omega) (c_X12_ofMeal (d := d - 1) (by omega) (by omega) hX ) ?_
  refine ev_iald dX12_with_81 (by omega) ly_134 (by show (nI 318 + (nI 13 * nI v1)) + (nI 3 + nI v5) = nI ((318 + (13 * v1)) + (3 + v5)); simp only [pk_mul, nI_add]) b0 ?_
  refine ev_iload_n dX12_with_82 rfl ?_
  refine ev_icmpT (tgt := 92) dX12_with_83 (by decide) c1 ?_
  refine ev_iload dX12_with_92 rfl ?_
  refine ev_iconst (v := 5) dX12_with_94 ki_5 ?_
  refine ev_icmpT (tgt := 101) dX12_with_95 (by decide) c2 ?_
  refine ev_aload_n dX12_with_101 rfl ?_
  refine ev_getS (q := 134) dX12_with_102 fo_12_9 (by omega) lo_133 rfl (sh_133_0 hX (by omega)) (by decide) ?_
  refine ev_iload_n dX12_with_105 rfl ?_
  refine ev_iconst (v := 3) dX12_with_106 ki_3 ?_
  refine ev_iload dX12_with_107 rfl ?_
  refine ev_iadd dX12_with_109 ?_
  refine e_Si (as := [.int (nI v1), .int (3 + (nI v5))]) (rest := [.ref 134]) dX12_with_110 vX12_ofMeal ml_12_67 stX12_ofMeal npX12_ofMeal (by decide) rfl (Nat.le_of_ble_eq_true rfl) (by omega) (c_X12_ofMeal (d := d - 1) (by omega) (by omega) hX ) ?_
  refine ev_iload_n dX12_with_113 rfl ?_
  refine ev_iast dX12_with_114 (by omega) ly_134 (by show (nI 318 + (nI 13 * nI v1)) + (nI 3 + nI v5) = nI ((318 + (13 * v1)) + (3 + v5)); simp only [pk_mul, nI_add]) b0 ?_
  have hX1 : Sh _ (lx_up X 134 ((318 + (13 * v1)) + (3 + v5)) v2) := Sh.upA hX (by rw [ly_134]; exact (by decide : 0 < 2))
  refine ev_aload_n dX12_with_115 rfl ?_
  refine ev_getS (q := 134) dX12_with_116 fo_12_9 (by omega) lo_133 rfl (sh_133_0 hX1 (by omega)) (by decide) ?_
  refine ev_iload_n dX12_with_119 rfl ?_
  refine ev_bipush (v := 8) dX12_with_120 kb_8 ?_
  refine ev_iload dX12_with_122 rfl ?_
  refine ev_iadd dX12_with_124 ?_
  refine e_Si (as := [.int (nI v1), .int (8 + (nI v5))]) (rest := [.ref 134]) dX12_with_125 vX12_ofMeal ml_12_67 stX12_ofMeal npX12_ofMeal (by decide) rfl (Nat.le_of_ble_eq_true rfl) (by omega) (c_X12_ofMeal (d := d - 1) (by omega) (by omega) hX1 ) ?_
  refine ev_iload_n dX12_with_128 rfl ?_
  refine ev_iast dX12_with_129 (by omega) ly_134 (by show (nI 318 + (nI 13 * nI v1)) + (nI 8 + nI v5) = nI ((318 + (13 * v1)) + (8 + v5)); simp only [pk_mul, nI_add]) b1 ?_
  have hX2 : Sh _ (lx_up (lx_up X 134 ((318 + (13 * v1)) + (3 + v5)) v2) 134 ((318 + (13 * v1)) + (8 + v5)) v3) := Sh.upA hX1 (by rw [ly_134]; exact (by decide : 0 < 2))
  refine ev_aload_n dX12_with_130 rfl ?_
  refine ev_getS (q := 134) dX12_with_131 fo_12_9 (by omega) lo_133 rfl (sh_133_0 hX2 (by omega)) (by decide) ?_
  refine ev_iload_n dX12_with_134 rfl ?_
  refine ev_iconst (v := 2) dX12_with_135 ki_2 ?_
  refine e_Si (as := [.int (nI v1), .int 2]) (rest := [.ref 134]) dX12_with_136 vX12_ofMeal ml_12_67 stX12_ofMeal npX12_ofMeal (by decide) rfl (Nat.le_of_ble_eq_true rfl) (by omega) (c_X12_ofMeal (d := d - 1) (by omega) (by omega) hX2 ) ?_
  refine ev_iload dX12_with_139 rfl ?_
  refine ev_iload dX12_with_141 rfl ?_
  refine ev_iconst (v := 1) dX12_with_143 ki_1 ?_
  refine ev_iadd dX12_with_144 ?_
  refine e_max dX12_with_145 mm_12_81 mx_st mx_in mx_co (Nat.le_of_ble_eq_true rfl) (by omega) ?_
  refine ev_iast dX12_with_148 (by omega) ly_134 (by show (nI 318 + (nI 13 * nI v1)) + nI 2 = nI ((318 + (13 * v1)) + 2); simp only [pk_mul, nI_add]) b2 ?_
  have hX3 : Sh _ (lx_up (lx_up (lx_up X 134 ((318 + (13 * v1)) + (3 + v5)) v2) 134 ((318 + (13 * v1)) + (8 + v5)) v3) 134 ((318 + (13 * v1)) + 2) (if v4 < ((nI v5) + 1) then ((nI v5) + 1) else v4)) := Sh.upA hX2 (by rw [ly_134]; exact (by decide : 0 < 2))
  refine ev_aload_n dX12_with_149 rfl ?_
  refine ev_getS (q := 134) dX12_with_150 fo_12_9 (by omega) lo_133 rfl (sh_133_0 hX3 (by omega)) (by decide) ?_
  refine ev_iload_n dX12_with_153 rfl ?_
  refine ev_iconst (v := 2) dX12_with_154 ki_2 ?_
  refine e_Si (as := [.int (nI v1), .int 2]) (rest := [.ref 134]) dX12_with_155 vX12_ofMeal ml_12_67 stX12_ofMeal npX12_ofMeal (by decide) rfl (Nat.le_of_ble_eq_true rfl) (by omega) (c_X12_ofMeal (d := d - 1) (by omega) (by omega) hX3 ) ?_
  refine ev_iald dX12_with_158 (by omega) ly_134 (by show (nI 318 + (nI 13 * nI v1)) + nI 2 = nI ((318 + (13 * v1)) + 2); simp only [pk_mul, nI_add]) b2 ?_
  exact ev_iret dX12_with_159 rfl rfl hp
theorem bX12_with_62_3 {g : GG} {d n : Nat} {post : Option Value → LX → Prop} {X : LX} (hn : 146 ≤ n) (hX : Sh n X) {v1 : Int32} {v2 : Int32} {v3 : Int32} {v4 : Int32} {v5 : Int32} (c0 : v4 ≤ v5) (c1 : v5 = 5) (hp : post (some (.int (-1000000003))) X) : Ev g mX12_with d n n post n 62 [some (.ref 133), some (.int v1), some (.int v2), some (.int v3), some (.int v4), some (.int v5)] [] X := by
  refine ev_iload dX12_with_62 rfl ?_
  refine ev_iload dX12_with_64 rfl ?_
  refine ev_icmpT (tgt := 92) dX12_with_66 (by decide) c0 ?_
  refine ev_iload dX12_with_92 rfl ?_
  refine ev_iconst (v := 5) dX12_with_94 ki_5 ?_
  refine ev_icmpF (tgt := 101) dX12_with_95 (by decide) c1 ?_
  refine ev_ldc (v := (-1000000003)) dX12_with_98 kw_12_58 ?_
  exact ev_iret dX12_with_100 rfl rfl hp
theorem bX12_with_62_4 {g : GG} {d n : Nat} {post : Option Value → LX → Prop} {X : LX} (hd : 1 ≤ d) (hn : 146 ≤ n) (hX : Sh n X) {v1 : Nat} {v2 : Int32} {v3 : Int32} {v4 : Int32} {v5 : Nat} (c0 : v4 ≤ nI v5) (c1 : ¬ nI v5 = 5) (b0 : ((318 + (13 * v1)) + (3 + v5)) < 2156) (b1 : ((318 + (13 * v1)) + (8 + v5)) < 2156) (b2 : ((318 + (13 * v1)) + 2) < 2156) (hp : post (some (.int ((lx_up (lx_up (lx_up X 134 ((318 + (13 * v1)) + (3 + v5)) v2) 134 ((318 + (13 * v1)) + (8 + v5)) v3) 134 ((318 + (13 * v1)) + 2) (if v4 < ((nI v5) + 1) then ((nI v5) + 1) else v4)) 134 ((318 + (13 * v1)) + 2)))) (lx_up (lx_up (lx_up X 134 ((318 + (13 * v1)) + (3 + v5)) v2) 134 ((318 + (13 * v1)) + (8 + v5)) v3) 134 ((318 + (13 * v1)) + 2) (if v4 < ((nI v5) + 1) then ((nI v5) + 1) else v4))) : Ev g mX12_with d n n post n 62 [some (.ref 133), some (.int (nI v1)), some (.int v2), some (.int v3), some (.int v4), some (.int (nI v5))] [] X := by
  refine ev_iload dX12_with_62 rfl ?_
  refine ev_iload dX12_with_64 rfl ?_
  refine ev_icmpT (tgt := 92) dX12_with_66 (by decide) c0 ?_
  refine ev_iload dX12_with_92 rfl ?_
  refine ev_iconst (v := 5) dX12_with_94 ki_5 ?_
  refine ev_icmpT (tgt := 101) dX12_with_95 (by decide) c1 ?_
  refine ev_aload_n dX12_with_101 rfl ?_
  refine ev_getS (q := 134) dX12_with_102 fo_12_9 (by omega) lo_133 rfl (sh_133_0 hX (by omega)) (by decide) ?_
  refine ev_iload_n dX12_with_105 rfl ?_
  refine ev_iconst (v := 3) dX12_with_106 ki_3 ?_
  refine ev_iload dX12_with_107 rfl ?_
  refine ev_iadd dX12_with_109 ?_
  refine e_Si (as := [.int (nI v1), .int (3 + (nI v5))]) (rest := [.ref 134]) dX12_with_110 vX12_ofMeal ml_12_67 stX12_ofMeal npX12_ofMeal (by decide) rfl (Nat.le_of_ble_eq_true rfl) (by omega) (c_X12_ofMeal (d := d - 1) (by omega) (by omega) hX ) ?_
  refine ev_iload_n dX12_with_113 rfl ?_
  refine ev_iast dX12_with_114 (by omega) ly_134 (by show (nI 318 + (nI 13 * nI v1)) + (nI 3 + nI v5) = nI ((318 + (13 * v1)) + (3 + v5)); simp only [pk_mul, nI_add]) b0 ?_
  have hX1 : Sh _ (lx_up X 134 ((318 + (13 * v1)) + (3 + v5)) v2) := Sh.upA hX (by rw [ly_134]; exact (by decide : 0 < 2))
  refine ev_aload_n dX12_with_115 rfl ?_
  refine ev_getS (q := 134) dX12_with_116 fo_12_9 (by omega) lo_133 rfl (sh_133_0 hX1 (by omega)) (by decide) ?_
  refine ev_iload_n dX12_with_119 rfl ?_
  refine ev_bipush (v := 8) dX12_with_120 kb_8 ?_
  refine ev_iload dX12_with_122 rfl ?_
  refine ev_iadd dX12_with_124 ?_
  refine e_Si (as := [.int (nI v1), .int (8 + (nI v5))]) (rest := [.ref 134]) dX12_with_125 vX12_ofMeal ml_12_67 stX12_ofMeal npX12_ofMeal (by decide) rfl (Nat.le_of_ble_eq_true rfl) (by omega) (c_X12_ofMeal (d := d - 1) (by omega) (by omega) hX1 ) ?_
  refine ev_iload_n dX12_with_128 rfl ?_
  refine ev_iast dX12_with_129 (by omega) ly_134 (by show (nI 318 + (nI 13 * nI v1)) + (nI 8 + nI v5) = nI ((318 + (13 * v1)) + (8 + v5)); simp only [pk_mul, nI_add]) b1 ?_
  have hX2 : Sh _ (lx_up (lx_up X 134 ((318 + (13 * v1)) + (3 + v5)) v2) 134 ((318 + (13 * v1)) + (8 + v5)) v3) := Sh.upA hX1 (by rw [ly_134]; exact (by decide : 0 < 2))
  refine ev_aload_n dX12_with_130 rfl ?_
  refine ev_getS (q := 134) dX12_with_131 fo_12_9 (by omega) lo_133 rfl (sh_133_0 hX2 (by omega)) (by decide) ?_
  refine ev_iload_n dX12_with_134 rfl ?_
  refine ev_iconst (v := 2) dX12_with_135 ki_2 ?_
  refine e_Si (as := [.int (nI v1), .int 2]) (rest := [.ref 134]) dX12_with_136 vX12_ofMeal ml_12_67 stX12_ofMeal npX12_ofMeal (by decide) rfl (Nat.le_of_ble_eq_true rfl) (by omega) (c_X12_ofMeal (d := d - 1) (by omega) (by omega) hX2 ) ?_
  refine ev_iload dX12_with_139 rfl ?_
  refine ev_iload dX12_with_141 rfl ?_
  refine ev_iconst (v := 1) dX12_with_143 ki_1 ?_
  refine ev_iadd dX12_with_144 ?_
  refine e_max dX12_with_145 mm_12_81 mx_st mx_in mx_co (Nat.le_of_ble_eq_true rfl) (by omega) ?_
  refine ev_iast dX12_with_148 (by omega) ly_134 (by show (nI 318 + (nI 13 * nI v1)) + nI 2 = nI ((318 + (13 * v1)) + 2); simp only [pk_mul, nI_add]) b2 ?_
  have hX3 : Sh _ (lx_up (lx_up (lx_up X 134 ((318 + (13 * v1)) + (3 + v5)) v2) 134 ((318 + (13 * v1)) + (8 + v5)) v3) 134 ((318 + (13 * v1)) + 2) (if v4 < ((nI v5) + 1) then ((nI v5) + 1) else v4)) := Sh.upA hX2 (by rw [ly_134]; exact (by decide : 0 < 2))
  refine ev_aload_n dX12_with_149 rfl ?_
  refine ev_getS (q := 134) dX12_with_150 fo_12_9 (by omega) lo_133 rfl (sh_133_0 hX3 (by omega)) (by decide) ?_
  refine ev_iload_n dX12_with_153 rfl ?_
  refine ev_iconst (v := 2) dX12_with_154 ki_2 ?_
  refine e_Si (as := [.int (nI v1), .int 2]) (rest := [.ref 134]) dX12_with_155 vX12_ofMeal ml_12_67 stX12_ofMeal npX12_ofMeal (by decide) rfl (Nat.le_of_ble_eq_true rfl) (by omega) (c_X12_ofMeal (d := d - 1) (by omega) (by omega) hX3 ) ?_
  refine ev_iald dX12_with_158 (by omega) ly_134 (by show (nI 318 + (nI 13 * nI v1)) + nI 2 = nI ((318 + (13 * v1)) + 2); simp only [pk_mul, nI_add]) b2 ?_
  exact ev_iret dX12_with_159 rfl rfl hp
