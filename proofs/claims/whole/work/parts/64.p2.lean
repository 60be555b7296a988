/-! BLOCKS of best, shifts. -/
theorem bX11_best_0_0 {g : GG} {d n : Nat} {post : Option Value → LX → Prop} {X : LX} (hd : 1 ≤ d) (hn : 146 ≤ n) (hX : Sh n X) {v1 : Int32} {v2 : Int32} (c0 : 1 ≤ v1 ∧ v1 ≤ 4) (c1 : 1 ≤ v2 ∧ v2 ≤ 2000) (k : Ev g mX11_best d n n post n 29 [some (.ref 0), some (.int v1), some (.int v2), none] [.int v2, .int v1, .ref 84] X) : Ev g mX11_best d n n post n 0 [some (.ref 0), some (.int v1), some (.int v2), none] [] X := by
  refine ev_iload_n dX11_best_0 rfl ?_
  refine ev_iconst (v := 1) dX11_best_1 ki_1 ?_
  refine ev_iconst (v := 4) dX11_best_2 ki_4 ?_
  refine e_Si (as := [.int v1, .int 1, .int 4]) (rest := []) dX11_best_3 vX11_isIn ml_11_57 stX11_isIn npX11_isIn (by decide) rfl (Nat.le_of_ble_eq_true rfl) (by omega) (t_X11_isIn (d := d - 1) (by omega) (by omega) hX c0) ?_
  refine ev_ifF (tgt := 20) dX11_best_6 (by decide) (by show ¬ (1 : Int32) = 0; decide) ?_
  refine ev_iload_n dX11_best_9 rfl ?_
  refine ev_iconst (v := 1) dX11_best_10 ki_1 ?_
  refine ev_sipush (v := 2000) dX11_best_11 ks_2000 ?_
  refine e_Si (as := [.int v2, .int 1, .int 2000]) (rest := []) dX11_best_14 vX11_isIn ml_11_57 stX11_isIn npX11_isIn (by decide) rfl (Nat.le_of_ble_eq_true rfl) (by omega) (t_X11_isIn (d := d - 1) (by omega) (by omega) hX c1) ?_
  refine ev_ifT (tgt := 23) dX11_best_17 (by decide) (by show ¬ (1 : Int32) = 0; decide) ?_
  refine ev_aload_n dX11_best_23 rfl ?_
  refine ev_getS (q := 84) dX11_best_24 fo_11_28 (by omega) lo_0 rfl (sh_0_2 hX (by omega)) (by decide) ?_
  refine ev_iload_n dX11_best_27 rfl ?_
  refine ev_iload_n dX11_best_28 rfl ?_
  exact k
theorem bX11_best_0_1 {g : GG} {d n : Nat} {post : Option Value → LX → Prop} {X : LX} (hd : 1 ≤ d) (hn : 146 ≤ n) (hX : Sh n X) {v1 : Int32} {v2 : Int32} (c0 : 1 ≤ v1 ∧ v1 ≤ 4) (c1 : ¬ (1 ≤ v2 ∧ v2 ≤ 2000)) (hp : post (some (.int (-1000000001))) X) : Ev g mX11_best d n n post n 0 [some (.ref 0), some (.int v1), some (.int v2), none] [] X := by
  refine ev_iload_n dX11_best_0 rfl ?_
  refine ev_iconst (v := 1) dX11_best_1 ki_1 ?_
  refine ev_iconst (v := 4) dX11_best_2 ki_4 ?_
  refine e_Si (as := [.int v1, .int 1, .int 4]) (rest := []) dX11_best_3 vX11_isIn ml_11_57 stX11_isIn npX11_isIn (by decide) rfl (Nat.le_of_ble_eq_true rfl) (by omega) (t_X11_isIn (d := d - 1) (by omega) (by omega) hX c0) ?_
  refine ev_ifF (tgt := 20) dX11_best_6 (by decide) (by show ¬ (1 : Int32) = 0; decide) ?_
  refine ev_iload_n dX11_best_9 rfl ?_
  refine ev_iconst (v := 1) dX11_best_10 ki_1 ?_
  refine ev_sipush (v := 2000) dX11_best_11 ks_2000 ?_
  refine e_Si (as := [.int v2, .int 1, .int 2000]) (rest := []) dX11_best_14 vX11_isIn ml_11_57 stX11_isIn npX11_isIn (by decide) rfl (Nat.le_of_ble_eq_true rfl) (by omega) (f_X11_isIn (d := d - 1) (by omega) (by omega) hX c1) ?_
  refine ev_ifF (tgt := 23) dX11_best_17 (by decide) (by show (0 : Int32) = 0; decide) ?_
  refine ev_ldc (v := (-1000000001)) dX11_best_20 kw_11_61 ?_
  exact ev_iret dX11_best_22 rfl rfl hp
theorem bX11_best_0_2 {g : GG} {d n : Nat} {post : Option Value → LX → Prop} {X : LX} (hd : 1 ≤ d) (hn : 146 ≤ n) (hX : Sh n X) {v1 : Int32} {v2 : Int32} (c0 : ¬ (1 ≤ v1 ∧ v1 ≤ 4)) (hp : post (some (.int (-1000000001))) X) : Ev g mX11_best d n n post n 0 [some (.ref 0), some (.int v1), some (.int v2), none] [] X := by
  refine ev_iload_n dX11_best_0 rfl ?_
  refine ev_iconst (v := 1) dX11_best_1 ki_1 ?_
  refine ev_iconst (v := 4) dX11_best_2 ki_4 ?_
  refine e_Si (as := [.int v1, .int 1, .int 4]) (rest := []) dX11_best_3 vX11_isIn ml_11_57 stX11_isIn npX11_isIn (by decide) rfl (Nat.le_of_ble_eq_true rfl) (by omega) (f_X11_isIn (d := d - 1) (by omega) (by omega) hX c0) ?_
  refine ev_ifT (tgt := 20) dX11_best_6 (by decide) (by show (0 : Int32) = 0; decide) ?_
  refine ev_ldc (v := (-1000000001)) dX11_best_20 kw_11_61 ?_
  exact ev_iret dX11_best_22 rfl rfl hp
theorem bX11_best_32_0 {g : GG} {d n : Nat} {post : Option Value → LX → Prop} {X : LX} (hn : 146 ≤ n) (hX : Sh n X) {v1 : Int32} {v2 : Int32} {s0 : Int32} (c0 : s0 = 0) (hp : post (some (.int (X 84 8))) X) : Ev g mX11_best d n n post n 32 [some (.ref 0), some (.int v1), some (.int v2), none] [.int s0] X := by
  refine ev_istore_n dX11_best_32 (by decide) ?_
  refine ev_iload_n dX11_best_33 rfl ?_
  refine ev_ifF (tgt := 47) dX11_best_34 (by decide) c0 ?_
  refine ev_aload_n dX11_best_37 rfl ?_
  refine ev_getS (q := 84) dX11_best_38 fo_11_28 (by omega) lo_0 rfl (sh_0_2 hX (by omega)) (by decide) ?_
  refine ev_getI dX11_best_41 fo_11_268 (by omega) lo_84 rfl ?_
  refine ev_goto (tgt := 48) dX11_best_44 (by decide) ?_
  exact ev_iret dX11_best_48 rfl rfl hp
theorem bX11_best_32_1 {g : GG} {d n : Nat} {post : Option Value → LX → Prop} {X : LX} (hn : 146 ≤ n) (hX : Sh n X) {v1 : Int32} {v2 : Int32} {s0 : Int32} (c0 : ¬ s0 = 0) (hp : post (some (.int s0)) X) : Ev g mX11_best d n n post n 32 [some (.ref 0), some (.int v1), some (.int v2), none] [.int s0] X := by
  refine ev_istore_n dX11_best_32 (by decide) ?_
  refine ev_iload_n dX11_best_33 rfl ?_
  refine ev_ifT (tgt := 47) dX11_best_34 (by decide) c0 ?_
  refine ev_iload_n dX11_best_47 rfl ?_
  exact ev_iret dX11_best_48 rfl rfl hp
theorem bX12_best_0_0 {g : GG} {d n : Nat} {post : Option Value → LX → Prop} {X : LX} (hd : 1 ≤ d) (hn : 146 ≤ n) (hX : Sh n X) {v1 : Int32} {v2 : Int32} (c0 : 1 ≤ v1 ∧ v1 ≤ 4) (c1 : 1 ≤ v2 ∧ v2 ≤ 2000) (k : Ev g mX12_best d n n post n 43 [some (.ref 133), some (.int v1), some (.int v2)] [.int 0, .int 0, .int v1, .int 0, .ref 133] (lx_up (lx_up (lx_up X 133 23 (-1)) 133 21 v2) 133 22 0)) : Ev g mX12_best d n n post n 0 [some (.ref 133), some (.int v1), some (.int v2)] [] X := by
  refine ev_iload_n dX12_best_0 rfl ?_
  refine ev_iconst (v := 1) dX12_best_1 ki_1 ?_
  refine ev_iconst (v := 4) dX12_best_2 ki_4 ?_
  refine e_Si (as := [.int v1, .int 1, .int 4]) (rest := []) dX12_best_3 vX12_within ml_12_52 stX12_within npX12_within (by decide) rfl (Nat.le_of_ble_eq_true rfl) (by omega) (t_X12_within (d := d - 1) (by omega) (by omega) hX c0) ?_
  refine ev_ifF (tgt := 20) dX12_best_6 (by decide) (by show ¬ (1 : Int32) = 0; decide) ?_
  refine ev_iload_n dX12_best_9 rfl ?_
  refine ev_iconst (v := 1) dX12_best_10 ki_1 ?_
  refine ev_sipush (v := 2000) dX12_best_11 ks_2000 ?_
  refine e_Si (as := [.int v2, .int 1, .int 2000]) (rest := []) dX12_best_14 vX12_within ml_12_52 stX12_within npX12_within (by decide) rfl (Nat.le_of_ble_eq_true rfl) (by omega) (t_X12_within (d := d - 1) (by omega) (by omega) hX c1) ?_
  refine ev_ifT (tgt := 23) dX12_best_17 (by decide) (by show ¬ (1 : Int32) = 0; decide) ?_
  refine ev_aload_n dX12_best_23 rfl ?_
  refine ev_iconst (v := (-1)) dX12_best_24 ki_m1 ?_
  refine ev_putI dX12_best_25 fo_12_238 (by omega) lo_133 rfl rfl rfl ?_
  have hX1 : Sh _ (lx_up X 133 23 (-1)) := Sh.upF hX (by rw [lo_133]; decide) (by decide)
  refine ev_aload_n dX12_best_28 rfl ?_
  refine ev_iload_n dX12_best_29 rfl ?_
  refine ev_putI dX12_best_30 fo_12_253 (by omega) lo_133 rfl rfl rfl ?_
  have hX2 : Sh _ (lx_up (lx_up X 133 23 (-1)) 133 21 v2) := Sh.upF hX1 (by rw [lo_133]; decide) (by decide)
  refine ev_aload_n dX12_best_33 rfl ?_
  refine ev_iconst (v := 0) dX12_best_34 ki_0 ?_
  refine ev_putZ dX12_best_35 fo_12_250 (by omega) lo_133 rfl rfl rfl (by decide) ?_
  have hX3 : Sh _ (lx_up (lx_up (lx_up X 133 23 (-1)) 133 21 v2) 133 22 0) := Sh.upF hX2 (by rw [lo_133]; decide) (by decide)
  refine ev_aload_n dX12_best_38 rfl ?_
  refine ev_iconst (v := 0) dX12_best_39 ki_0 ?_
  refine ev_iload_n dX12_best_40 rfl ?_
  refine ev_iconst (v := 0) dX12_best_41 ki_0 ?_
  refine ev_iconst (v := 0) dX12_best_42 ki_0 ?_
  exact k
theorem bX12_best_0_1 {g : GG} {d n : Nat} {post : Option Value → LX → Prop} {X : LX} (hd : 1 ≤ d) (hn : 146 ≤ n) (hX : Sh n X) {v1 : Int32} {v2 : Int32} (c0 : 1 ≤ v1 ∧ v1 ≤ 4) (c1 : ¬ (1 ≤ v2 ∧ v2 ≤ 2000)) (hp : post (some (.int (-1000000001))) X) : Ev g mX12_best d n n post n 0 [some (.ref 133), some (.int v1), some (.int v2)] [] X := by
  refine ev_iload_n dX12_best_0 rfl ?_
  refine ev_iconst (v := 1) dX12_best_1 ki_1 ?_
  refine ev_iconst (v := 4) dX12_best_2 ki_4 ?_
  refine e_Si (as := [.int v1, .int 1, .int 4]) (rest := []) dX12_best_3 vX12_within ml_12_52 stX12_within npX12_within (by decide) rfl (Nat.le_of_ble_eq_true rfl) (by omega) (t_X12_within (d := d - 1) (by omega) (by omega) hX c0) ?_
  refine ev_ifF (tgt := 20) dX12_best_6 (by decide) (by show ¬ (1 : Int32) = 0; decide) ?_
  refine ev_iload_n dX12_best_9 rfl ?_
  refine ev_iconst (v := 1) dX12_best_10 ki_1 ?_
  refine ev_sipush (v := 2000) dX12_best_11 ks_2000 ?_
  refine e_Si (as := [.int v2, .int 1, .int 2000]) (rest := []) dX12_best_14 vX12_within ml_12_52 stX12_within npX12_within (by decide) rfl (Nat.le_of_ble_eq_true rfl) (by omega) (f_X12_within (d := d - 1) (by omega) (by omega) hX c1) ?_
  refine ev_ifF (tgt := 23) dX12_best_17 (by decide) (by show (0 : Int32) = 0; decide) ?_
  refine ev_ldc (v := (-1000000001)) dX12_best_20 kw_12_57 ?_
  exact ev_iret dX12_best_22 rfl rfl hp
theorem bX12_best_0_2 {g : GG} {d n : Nat} {post : Option Value → LX → Prop} {X : LX} (hd : 1 ≤ d) (hn : 146 ≤ n) (hX : Sh n X) {v1 : Int32} {v2 : Int32} (c0 : ¬ (1 ≤ v1 ∧ v1 ≤ 4)) (hp : post (some (.int (-1000000001))) X) : Ev g mX12_best d n n post n 0 [some (.ref 133), some (.int v1), some (.int v2)] [] X := by
  refine ev_iload_n dX12_best_0 rfl ?_
  refine ev_iconst (v := 1) dX12_best_1 ki_1 ?_
  refine ev_iconst (v := 4) dX12_best_2 ki_4 ?_
  refine e_Si (as := [.int v1, .int 1, .int 4]) (rest := []) dX12_best_3 vX12_within ml_12_52 stX12_within npX12_within (by decide) rfl (Nat.le_of_ble_eq_true rfl) (by omega) (f_X12_within (d := d - 1) (by omega) (by omega) hX c0) ?_
  refine ev_ifT (tgt := 20) dX12_best_6 (by decide) (by show (0 : Int32) = 0; decide) ?_
  refine ev_ldc (v := (-1000000001)) dX12_best_20 kw_12_57 ?_
  exact ev_iret dX12_best_22 rfl rfl hp
theorem bX12_best_46_0 {g : GG} {d n : Nat} {post : Option Value → LX → Prop} {X : LX} (hn : 146 ≤ n) (hX : Sh n X) {v1 : Int32} {v2 : Int32} (c0 : ¬ X 133 22 = 0) (hp : post (some (.int (-1000000004))) X) : Ev g mX12_best d n n post n 46 [some (.ref 133), some (.int v1), some (.int v2)] [] X := by
  refine ev_aload_n dX12_best_46 rfl ?_
  refine ev_getI dX12_best_47 fo_12_250 (by omega) lo_133 rfl ?_
  refine ev_ifF (tgt := 59) dX12_best_50 (by decide) c0 ?_
  refine ev_ldcw (v := (-1000000004)) dX12_best_53 kw_12_260 ?_
  refine ev_goto (tgt := 75) dX12_best_56 (by decide) ?_
  exact ev_iret dX12_best_75 rfl rfl hp
theorem bX12_best_46_1 {g : GG} {d n : Nat} {post : Option Value → LX → Prop} {X : LX} (hn : 146 ≤ n) (hX : Sh n X) {v1 : Int32} {v2 : Int32} (c0 : X 133 22 = 0) (c1 : ¬ 0 ≤ X 133 23) (hp : post (some (.int (-1000000002))) X) : Ev g mX12_best d n n post n 46 [some (.ref 133), some (.int v1), some (.int v2)] [] X := by
  refine ev_aload_n dX12_best_46 rfl ?_
  refine ev_getI dX12_best_47 fo_12_250 (by omega) lo_133 rfl ?_
  refine ev_ifT (tgt := 59) dX12_best_50 (by decide) c0 ?_
  refine ev_aload_n dX12_best_59 rfl ?_
  refine ev_getI dX12_best_60 fo_12_238 (by omega) lo_133 rfl ?_
  refine ev_ifF (tgt := 71) dX12_best_63 (by decide) c1 ?_
  refine ev_ldc (v := (-1000000002)) dX12_best_66 kw_12_80 ?_
  refine ev_goto (tgt := 75) dX12_best_68 (by decide) ?_
  exact ev_iret dX12_best_75 rfl rfl hp
theorem bX12_best_46_2 {g : GG} {d n : Nat} {post : Option Value → LX → Prop} {X : LX} (hn : 146 ≤ n) (hX : Sh n X) {v1 : Int32} {v2 : Int32} (c0 : X 133 22 = 0) (c1 : 0 ≤ X 133 23) (hp : post (some (.int (X 133 23))) X) : Ev g mX12_best d n n post n 46 [some (.ref 133), some (.int v1), some (.int v2)] [] X := by
  refine ev_aload_n dX12_best_46 rfl ?_
  refine ev_getI dX12_best_47 fo_12_250 (by omega) lo_133 rfl ?_
  refine ev_ifT (tgt := 59) dX12_best_50 (by decide) c0 ?_
  refine ev_aload_n dX12_best_59 rfl ?_
  refine ev_getI dX12_best_60 fo_12_238 (by omega) lo_133 rfl ?_
  refine ev_ifT (tgt := 71) dX12_best_63 (by decide) c1 ?_
  refine ev_aload_n dX12_best_71 rfl ?_
  refine ev_getI dX12_best_72 fo_12_238 (by omega) lo_133 rfl ?_
  exact ev_iret dX12_best_75 rfl rfl hp
theorem bX11_shifts_0_0 {g : GG} {d n : Nat} {post : Option Value → LX → Prop} {X : LX} (hd : 1 ≤ d) (hn : 146 ≤ n) (hX : Sh n X) {v1 : Int32} (c0 : 0 ≤ v1 ∧ v1 ≤ 1) (k : Ev g mX11_shifts d n n post n 16 [some (.ref 0), some (.int v1)] [.ref 110] X) : Ev g mX11_shifts d n n post n 0 [some (.ref 0), some (.int v1)] [] X := by
  refine ev_iload_n dX11_shifts_0 rfl ?_
  refine ev_iconst (v := 0) dX11_shifts_1 ki_0 ?_
  refine ev_iconst (v := 1) dX11_shifts_2 ki_1 ?_
  refine e_Si (as := [.int v1, .int 0, .int 1]) (rest := []) dX11_shifts_3 vX11_isIn ml_11_57 stX11_isIn npX11_isIn (by decide) rfl (Nat.le_of_ble_eq_true rfl) (by omega) (t_X11_isIn (d := d - 1) (by omega) (by omega) hX c0) ?_
  refine ev_ifT (tgt := 12) dX11_shifts_6 (by decide) (by show ¬ (1 : Int32) = 0; decide) ?_
  refine ev_aload_n dX11_shifts_12 rfl ?_
  refine ev_getS (q := 110) dX11_shifts_13 fo_11_42 (by omega) lo_0 rfl (sh_0_4 hX (by omega)) (by decide) ?_
  exact k
theorem bX11_shifts_0_1 {g : GG} {d n : Nat} {post : Option Value → LX → Prop} {X : LX} (hd : 1 ≤ d) (hn : 146 ≤ n) (hX : Sh n X) {v1 : Int32} (c0 : ¬ (0 ≤ v1 ∧ v1 ≤ 1)) (hp : post (some (.int (-1000000001))) X) : Ev g mX11_shifts d n n post n 0 [some (.ref 0), some (.int v1)] [] X := by
  refine ev_iload_n dX11_shifts_0 rfl ?_
  refine ev_iconst (v := 0) dX11_shifts_1 ki_0 ?_
  refine ev_iconst (v := 1) dX11_shifts_2 ki_1 ?_
  refine e_Si (as := [.int v1, .int 0, .int 1]) (rest := []) dX11_shifts_3 vX11_isIn ml_11_57 stX11_isIn npX11_isIn (by decide) rfl (Nat.le_of_ble_eq_true rfl) (by omega) (f_X11_isIn (d := d - 1) (by omega) (by omega) hX c0) ?_
  refine ev_ifF (tgt := 12) dX11_shifts_6 (by decide) (by show (0 : Int32) = 0; decide) ?_
  refine ev_ldc (v := (-1000000001)) dX11_shifts_9 kw_11_61 ?_
  exact ev_iret dX11_shifts_11 rfl rfl hp
theorem bX11_shifts_19_0 {g : GG} {d n : Nat} {post : Option Value → LX → Prop} {X : LX} (hn : 146 ≤ n) (hX : Sh n X) {v1 : Int32} (c0 : v1 = 0) (hp : post (some (.int (X 110 3))) X) : Ev g mX11_shifts d n n post n 19 [some (.ref 0), some (.int v1)] [] X := by
  refine ev_iload_n dX11_shifts_19 rfl ?_
  refine ev_ifF (tgt := 33) dX11_shifts_20 (by decide) c0 ?_
  refine ev_aload_n dX11_shifts_23 rfl ?_
  refine ev_getS (q := 110) dX11_shifts_24 fo_11_42 (by omega) lo_0 rfl (sh_0_4 hX (by omega)) (by decide) ?_
  refine ev_getI dX11_shifts_27 fo_11_341 (by omega) lo_110 rfl ?_
  refine ev_goto (tgt := 40) dX11_shifts_30 (by decide) ?_
  exact ev_iret dX11_shifts_40 rfl rfl hp
theorem bX11_shifts_19_1 {g : GG} {d n : Nat} {post : Option Value → LX → Prop} {X : LX} (hn : 146 ≤ n) (hX : Sh n X) {v1 : Int32} (c0 : ¬ v1 = 0) (hp : post (some (.int (X 110 4))) X) : Ev g mX11_shifts d n n post n 19 [some (.ref 0), some (.int v1)] [] X := by
  refine ev_iload_n dX11_shifts_19 rfl ?_
  refine ev_ifT (tgt := 33) dX11_shifts_20 (by decide) c0 ?_
  refine ev_aload_n dX11_shifts_33 rfl ?_
  refine ev_getS (q := 110) dX11_shifts_34 fo_11_42 (by omega) lo_0 rfl (sh_0_4 hX (by omega)) (by decide) ?_
  refine ev_getI dX11_shifts_37 fo_11_344 (by omega) lo_110 rfl ?_
  exact ev_iret dX11_shifts_40 rfl rfl hp
theorem bX12_shifts_0_0 {g : GG} {d n : Nat} {post : Option Value → LX → Prop} {X : LX} (hd : 1 ≤ d) (hn : 146 ≤ n) (hX : Sh n X) {v1 : Int32} (c0 : 0 ≤ v1 ∧ v1 ≤ 1) (k : Ev g mX12_shifts d n n post n 16 [some (.ref 133), some (.int v1), some (.int 0), some (.int 0), none, none, none] [] X) : Ev g mX12_shifts d n n post n 0 [some (.ref 133), some (.int v1), none, none, none, none, none] [] X := by
  refine ev_iload_n dX12_shifts_0 rfl ?_
  refine ev_iconst (v := 0) dX12_shifts_1 ki_0 ?_
  refine ev_iconst (v := 1) dX12_shifts_2 ki_1 ?_
  refine e_Si (as := [.int v1, .int 0, .int 1]) (rest := []) dX12_shifts_3 vX12_within ml_12_52 stX12_within npX12_within (by decide) rfl (Nat.le_of_ble_eq_true rfl) (by omega) (t_X12_within (d := d - 1) (by omega) (by omega) hX c0) ?_
  refine ev_ifT (tgt := 12) dX12_shifts_6 (by decide) (by show ¬ (1 : Int32) = 0; decide) ?_
  refine ev_iconst (v := 0) dX12_shifts_12 ki_0 ?_
  refine ev_istore_n dX12_shifts_13 (by decide) ?_
  refine ev_iconst (v := 0) dX12_shifts_14 ki_0 ?_
  refine ev_istore_n dX12_shifts_15 (by decide) ?_
  exact k
theorem bX12_shifts_0_1 {g : GG} {d n : Nat} {post : Option Value → LX → Prop} {X : LX} (hd : 1 ≤ d) (hn : 146 ≤ n) (hX : Sh n X) {v1 : Int32} (c0 : ¬ (0 ≤ v1 ∧ v1 ≤ 1)) (hp : post (some (.int (-1000000001))) X) : Ev g mX12_shifts d n n post n 0 [some (.ref 133), some (.int v1), none, none, none, none, none] [] X := by
  refine ev_iload_n dX12_shifts_0 rfl ?_
  refine ev_iconst (v := 0) dX12_shifts_1 ki_0 ?_
  refine ev_iconst (v := 1) dX12_shifts_2 ki_1 ?_
  refine e_Si (as := [.int v1, .int 0, .int 1]) (rest := []) dX12_shifts_3 vX12_within ml_12_52 stX12_within npX12_within (by decide) rfl (Nat.le_of_ble_eq_true rfl) (by omega) (f_X12_within (d := d - 1) (by omega) (by omega) hX c0) ?_
  refine ev_ifF (tgt := 12) dX12_shifts_6 (by decide) (by show (0 : Int32) = 0; decide) ?_
  refine ev_ldc (v := (-1000000001)) dX12_shifts_9 kw_12_57 ?_
  exact ev_iret dX12_shifts_11 rfl rfl hp
theorem bX12_shifts_16_0 {g : GG} {d n : Nat} {post : Option Value → LX → Prop} {X : LX} (hd : 5 ≤ d) (hn : 146 ≤ n) (hX : Sh n X) {v1 : Int32} {v2 : Int32} {v3 : Nat} (c0 : ¬ X 134 6 ≤ nI v3) (c1 : v3 < 12) (c2 : okN X) (c3 : ¬ mBox X v3 = 0) (k : Ev g mX12_shifts d n n post n 16 [some (.ref 133), some (.int v1), some (.int (v2 ||| (1 <<< ((nI v3) &&& 31)))), some (.int ((nI v3) + 1)), none, none, none] [] X) : Ev g mX12_shifts d n n post n 16 [some (.ref 133), some (.int v1), some (.int v2), some (.int (nI v3)), none, none, none] [] X := by
  refine ev_iload_n dX12_shifts_16 rfl ?_
  refine ev_aload_n dX12_shifts_17 rfl ?_
  refine ev_getS (q := 134) dX12_shifts_18 fo_12_9 (by omega) lo_133 rfl (sh_133_0 hX (by omega)) (by decide) ?_
  refine ev_bipush (v := 6) dX12_shifts_21 kb_6 ?_
  refine ev_iald dX12_shifts_23 (by omega) ly_134 nIl_6 (by decide) ?_
  refine ev_icmpF (tgt := 51) dX12_shifts_24 (by decide) c0 ?_
  refine ev_iload_n dX12_shifts_27 rfl ?_
  refine ev_aload_n dX12_shifts_28 rfl ?_
  refine ev_iload_n dX12_shifts_29 rfl ?_
  refine e_Vi (as := [.int (nI v3)]) (rest := [.int v2]) dX12_shifts_30 vX12_boxToday ml_12_115 isX12_boxToday seX12_boxToday npX12_boxToday (rc_133 (by omega)) (by decide) rfl (Nat.le_of_ble_eq_true rfl) (by omega) (k_X12_boxToday (d := d - 1) (by omega) (by omega) hX c1 c2) ?_
  refine ev_ifF (tgt := 42) dX12_shifts_33 (by decide) c3 ?_
  refine ev_iconst (v := 1) dX12_shifts_36 ki_1 ?_
  refine ev_iload_n dX12_shifts_37 rfl ?_
  refine ev_ishl dX12_shifts_38 ?_
  refine ev_goto (tgt := 43) dX12_shifts_39 (by decide) ?_
  refine ev_ior dX12_shifts_43 ?_
  refine ev_istore_n dX12_shifts_44 (by decide) ?_
  refine ev_iinc (v := (nI v3) + 1) dX12_shifts_45 rfl (by rw [show Int32.ofInt 1 = 1 from ki_1]) (by decide) ?_
  refine ev_goto (tgt := 16) dX12_shifts_48 (by decide) ?_
  exact k
theorem bX12_shifts_16_1 {g : GG} {d n : Nat} {post : Option Value → LX → Prop} {X : LX} (hd : 5 ≤ d) (hn : 146 ≤ n) (hX : Sh n X) {v1 : Int32} {v2 : Int32} {v3 : Nat} (c0 : ¬ X 134 6 ≤ nI v3) (c1 : v3 < 12) (c2 : okN X) (c3 : mBox X v3 = 0) (k : Ev g mX12_shifts d n n post n 16 [some (.ref 133), some (.int v1), some (.int (v2 ||| 0)), some (.int ((nI v3) + 1)), none, none, none] [] X) : Ev g mX12_shifts d n n post n 16 [some (.ref 133), some (.int v1), some (.int v2), some (.int (nI v3)), none, none, none] [] X := by
  refine ev_iload_n dX12_shifts_16 rfl ?_
  refine ev_aload_n dX12_shifts_17 rfl ?_
  refine ev_getS (q := 134) dX12_shifts_18 fo_12_9 (by omega) lo_133 rfl (sh_133_0 hX (by omega)) (by decide) ?_
  refine ev_bipush (v := 6) dX12_shifts_21 kb_6 ?_
  refine ev_iald dX12_shifts_23 (by omega) ly_134 nIl_6 (by decide) ?_
  refine ev_icmpF (tgt := 51) dX12_shifts_24 (by decide) c0 ?_
  refine ev_iload_n dX12_shifts_27 rfl ?_
  refine ev_aload_n dX12_shifts_28 rfl ?_
  refine ev_iload_n dX12_shifts_29 rfl ?_
  refine e_Vi (as := [.int (nI v3)]) (rest := [.int v2]) dX12_shifts_30 vX12_boxToday ml_12_115 isX12_boxToday seX12_boxToday npX12_boxToday (rc_133 (by omega)) (by decide) rfl (Nat.le_of_ble_eq_true rfl) (by omega) (k_X12_boxToday (d := d - 1) (by omega) (by omega) hX c1 c2) ?_
  refine ev_ifT (tgt := 42) dX12_shifts_33 (by decide) c3 ?_
  refine ev_iconst (v := 0) dX12_shifts_42 ki_0 ?_
  refine ev_ior dX12_shifts_43 ?_
  refine ev_istore_n dX12_shifts_44 (by decide) ?_
  refine ev_iinc (v := (nI v3) + 1) dX12_shifts_45 rfl (by rw [show Int32.ofInt 1 = 1 from ki_1]) (by decide) ?_
  refine ev_goto (tgt := 16) dX12_shifts_48 (by decide) ?_
  exact k
theorem bX12_shifts_16_2 {g : GG} {d n : Nat} {post : Option Value → LX → Prop} {X : LX} (hn : 146 ≤ n) (hX : Sh n X) {v1 : Int32} {v2 : Int32} {v3 : Int32} (c0 : X 134 6 ≤ v3) (k : Ev g mX12_shifts d n n post n 52 [some (.ref 133), some (.int v1), some (.int v2), some (.int v3), none, none, none] [.ref 133] X) : Ev g mX12_shifts d n n post n 16 [some (.ref 133), some (.int v1), some (.int v2), some (.int v3), none, none, none] [] X := by
  refine ev_iload_n dX12_shifts_16 rfl ?_
  refine ev_aload_n dX12_shifts_17 rfl ?_
  refine ev_getS (q := 134) dX12_shifts_18 fo_12_9 (by omega) lo_133 rfl (sh_133_0 hX (by omega)) (by decide) ?_
  refine ev_bipush (v := 6) dX12_shifts_21 kb_6 ?_
  refine ev_iald dX12_shifts_23 (by omega) ly_134 nIl_6 (by decide) ?_
  refine ev_icmpT (tgt := 51) dX12_shifts_24 (by decide) c0 ?_
  refine ev_aload_n dX12_shifts_51 rfl ?_
  exact k
theorem bX12_shifts_55_0 {g : GG} {d n : Nat} {post : Option Value → LX → Prop} {X : LX} (hn : 146 ≤ n) (hX : Sh n X) {v1 : Int32} {v2 : Int32} {v3 : Int32} (k : Ev g mX12_shifts d n n post n 57 [some (.ref 133), some (.int v1), some (.int v2), some (.int v3), none, none, none] [.int 0, .ref 133] X) : Ev g mX12_shifts d n n post n 55 [some (.ref 133), some (.int v1), some (.int v2), some (.int v3), none, none, none] [] X := by
  refine ev_aload_n dX12_shifts_55 rfl ?_
  refine ev_iconst (v := 0) dX12_shifts_56 ki_0 ?_
  exact k
theorem bX12_shifts_60_0 {g : GG} {d n : Nat} {post : Option Value → LX → Prop} {X : LX} (hn : 146 ≤ n) (hX : Sh n X) {v1 : Int32} {v2 : Int32} {v3 : Int32} {s0 : Int32} (k : Ev g mX12_shifts d n n post n 67 [some (.ref 133), some (.int v1), some (.int v2), some (.int s0), some (.int 0), some (.int 1), none] [] X) : Ev g mX12_shifts d n n post n 60 [some (.ref 133), some (.int v1), some (.int v2), some (.int v3), none, none, none] [.int s0] X := by
  refine ev_istore_n dX12_shifts_60 (by decide) ?_
  refine ev_iconst (v := 0) dX12_shifts_61 ki_0 ?_
  refine ev_istore dX12_shifts_62 (by decide) ?_
  refine ev_iconst (v := 1) dX12_shifts_64 ki_1 ?_
  refine ev_istore dX12_shifts_65 (by decide) ?_
  exact k
theorem bX12_shifts_67_0 {g : GG} {d n : Nat} {post : Option Value → LX → Prop} {X : LX} (hn : 146 ≤ n) (hX : Sh n X) {v1 : Int32} {v2 : Int32} {v3 : Int32} {v4 : Int32} {v5 : Int32} (c0 : ¬ v2 < v5) (c1 : v5 &&& (v2 ^^^ (-1)) = 0) (k : Ev g mX12_shifts d n n post n 85 [some (.ref 133), some (.int v1), some (.int v2), some (.int v3), some (.int v4), some (.int v5), none] [.int v5, .ref 133] X) : Ev g mX12_shifts d n n post n 67 [some (.ref 133), some (.int v1), some (.int v2), some (.int v3), some (.int v4), some (.int v5), none] [] X := by
  refine ev_iload dX12_shifts_67 rfl ?_
  refine ev_iload_n dX12_shifts_69 rfl ?_
  refine ev_icmpF (tgt := 118) dX12_shifts_70 (by decide) c0 ?_
  refine ev_iload dX12_shifts_73 rfl ?_
  refine ev_iload_n dX12_shifts_75 rfl ?_
  refine ev_iconst (v := (-1)) dX12_shifts_76 ki_m1 ?_
  refine ev_ixor dX12_shifts_77 ?_
  refine ev_iand dX12_shifts_78 ?_
  refine ev_ifF (tgt := 112) dX12_shifts_79 (by decide) c1 ?_
  refine ev_aload_n dX12_shifts_82 rfl ?_
  refine ev_iload dX12_shifts_83 rfl ?_
  exact k
theorem bX12_shifts_67_1 {g : GG} {d n : Nat} {post : Option Value → LX → Prop} {X : LX} (hn : 146 ≤ n) (hX : Sh n X) {v1 : Int32} {v2 : Int32} {v3 : Int32} {v4 : Int32} {v5 : Int32} (c0 : ¬ v2 < v5) (c1 : ¬ v5 &&& (v2 ^^^ (-1)) = 0) (k : Ev g mX12_shifts d n n post n 67 [some (.ref 133), some (.int v1), some (.int v2), some (.int v3), some (.int v4), some (.int (v5 + 1)), none] [] X) : Ev g mX12_shifts d n n post n 67 [some (.ref 133), some (.int v1), some (.int v2), some (.int v3), some (.int v4), some (.int v5), none] [] X := by
  refine ev_iload dX12_shifts_67 rfl ?_
  refine ev_iload_n dX12_shifts_69 rfl ?_
  refine ev_icmpF (tgt := 118) dX12_shifts_70 (by decide) c0 ?_
  refine ev_iload dX12_shifts_73 rfl ?_
  refine ev_iload_n dX12_shifts_75 rfl ?_
  refine ev_iconst (v := (-1)) dX12_shifts_76 ki_m1 ?_
  refine ev_ixor dX12_shifts_77 ?_
  refine ev_iand dX12_shifts_78 ?_
  refine ev_ifT (tgt := 112) dX12_shifts_79 (by decide) c1 ?_
  refine ev_iinc (v := v5 + 1) dX12_shifts_112 rfl (by rw [show Int32.ofInt 1 = 1 from ki_1]) (by decide) ?_
  refine ev_goto (tgt := 67) dX12_shifts_115 (by decide) ?_
  exact k
theorem bX12_shifts_67_2 {g : GG} {d n : Nat} {post : Option Value → LX → Prop} {X : LX} (hn : 146 ≤ n) (hX : Sh n X) {v1 : Int32} {v2 : Int32} {v3 : Int32} {v4 : Int32} {v5 : Int32} (c0 : v2 < v5) (c1 : v1 = 0) (hp : post (some (.int v3)) X) : Ev g mX12_shifts d n n post n 67 [some (.ref 133), some (.int v1), some (.int v2), some (.int v3), some (.int v4), some (.int v5), none] [] X := by
  refine ev_iload dX12_shifts_67 rfl ?_
  refine ev_iload_n dX12_shifts_69 rfl ?_
  refine ev_icmpT (tgt := 118) dX12_shifts_70 (by decide) c0 ?_
  refine ev_iload_n dX12_shifts_118 rfl ?_
  refine ev_ifF (tgt := 126) dX12_shifts_119 (by decide) c1 ?_
  refine ev_iload_n dX12_shifts_122 rfl ?_
  refine ev_goto (tgt := 128) dX12_shifts_123 (by decide) ?_
  exact ev_iret dX12_shifts_128 rfl rfl hp
theorem bX12_shifts_67_3 {g : GG} {d n : Nat} {post : Option Value → LX → Prop} {X : LX} (hn : 146 ≤ n) (hX : Sh n X) {v1 : Int32} {v2 : Int32} {v3 : Int32} {v4 : Int32} {v5 : Int32} (c0 : v2 < v5) (c1 : ¬ v1 = 0) (hp : post (some (.int v4)) X) : Ev g mX12_shifts d n n post n 67 [some (.ref 133), some (.int v1), some (.int v2), some (.int v3), some (.int v4), some (.int v5), none] [] X := by
  refine ev_iload dX12_shifts_67 rfl ?_
  refine ev_iload_n dX12_shifts_69 rfl ?_
  refine ev_icmpT (tgt := 118) dX12_shifts_70 (by decide) c0 ?_
  refine ev_iload_n dX12_shifts_118 rfl ?_
  refine ev_ifT (tgt := 126) dX12_shifts_119 (by decide) c1 ?_
  refine ev_iload dX12_shifts_126 rfl ?_
  exact ev_iret dX12_shifts_128 rfl rfl hp
theorem bX12_shifts_88_0 {g : GG} {d n : Nat} {post : Option Value → LX → Prop} {X : LX} (hd : 1 ≤ d) (hn : 146 ≤ n) (hX : Sh n X) {v1 : Int32} {v2 : Int32} {v3 : Int32} {v4 : Int32} {v5 : Int32} {s0 : Int32} (c0 : ¬ v3 ≤ s0) (k : Ev g mX12_shifts d n n post n 67 [some (.ref 133), some (.int v1), some (.int v2), some (.int (if v3 < s0 then v3 else s0)), some (.int v5), some (.int (v5 + 1)), none] [] X) : Ev g mX12_shifts d n n post n 88 [some (.ref 133), some (.int v1), some (.int v2), some (.int v3), some (.int v4), some (.int v5), none] [.int s0] X := by
  refine ev_istore dX12_shifts_88 (by decide) ?_
  refine ev_iload dX12_shifts_90 rfl ?_
  refine ev_iload_n dX12_shifts_92 rfl ?_
  refine ev_icmpF (tgt := 101) dX12_shifts_93 (by decide) c0 ?_
  refine ev_iload dX12_shifts_96 rfl ?_
  refine ev_goto (tgt := 103) dX12_shifts_98 (by decide) ?_
  refine ev_istore dX12_shifts_103 (by decide) ?_
  refine ev_iload dX12_shifts_105 rfl ?_
  refine ev_iload_n dX12_shifts_107 rfl ?_
  refine e_min dX12_shifts_108 mm_12_118 mn_st mx_in mn_co (Nat.le_of_ble_eq_true rfl) (by omega) ?_
  refine ev_istore_n dX12_shifts_111 (by decide) ?_
  refine ev_iinc (v := v5 + 1) dX12_shifts_112 rfl (by rw [show Int32.ofInt 1 = 1 from ki_1]) (by decide) ?_
  refine ev_goto (tgt := 67) dX12_shifts_115 (by decide) ?_
  refine ev_wk (L := [some (.ref 133), some (.int v1), some (.int v2), some (.int (if v3 < s0 then v3 else s0)), some (.int v5), some (.int (v5 + 1)), some (.int s0)]) (L' := [some (.ref 133), some (.int v1), some (.int v2), some (.int (if v3 < s0 then v3 else s0)), some (.int v5), some (.int (v5 + 1)), none]) (by simp [lwk]) ?_
  exact k
theorem bX12_shifts_88_1 {g : GG} {d n : Nat} {post : Option Value → LX → Prop} {X : LX} (hd : 1 ≤ d) (hn : 146 ≤ n) (hX : Sh n X) {v1 : Int32} {v2 : Int32} {v3 : Int32} {v4 : Int32} {v5 : Int32} {s0 : Int32} (c0 : v3 ≤ s0) (k : Ev g mX12_shifts d n n post n 67 [some (.ref 133), some (.int v1), some (.int v2), some (.int (if v3 < s0 then v3 else s0)), some (.int v4), some (.int (v5 + 1)), none] [] X) : Ev g mX12_shifts d n n post n 88 [some (.ref 133), some (.int v1), some (.int v2), some (.int v3), some (.int v4), some (.int v5), none] [.int s0] X := by
  refine ev_istore dX12_shifts_88 (by decide) ?_
  refine ev_iload dX12_shifts_90 rfl ?_
  refine ev_iload_n dX12_shifts_92 rfl ?_
  refine ev_icmpT (tgt := 101) dX12_shifts_93 (by decide) c0 ?_
  refine ev_iload dX12_shifts_101 rfl ?_
  refine ev_istore dX12_shifts_103 (by decide) ?_
  refine ev_iload dX12_shifts_105 rfl ?_
  refine ev_iload_n dX12_shifts_107 rfl ?_
  refine e_min dX12_shifts_108 mm_12_118 mn_st mx_in mn_co (Nat.le_of_ble_eq_true rfl) (by omega) ?_
  refine ev_istore_n dX12_shifts_111 (by decide) ?_
  refine ev_iinc (v := v5 + 1) dX12_shifts_112 rfl (by rw [show Int32.ofInt 1 = 1 from ki_1]) (by decide) ?_
  refine ev_goto (tgt := 67) dX12_shifts_115 (by decide) ?_
  refine ev_wk (L := [some (.ref 133), some (.int v1), some (.int v2), some (.int (if v3 < s0 then v3 else s0)), some (.int v4), some (.int (v5 + 1)), some (.int s0)]) (L' := [some (.ref 133), some (.int v1), some (.int v2), some (.int (if v3 < s0 then v3 else s0)), some (.int v4), some (.int (v5 + 1)), none]) (by simp [lwk]) ?_
  exact k
theorem qX11_best_29 {g : GG} {d d' n : Nat} {post post1 : Option Value → LX → Prop} {L : List (Option Value)} {rest : List Value} {X : LX} {a1 : Int32} {a2 : Int32} (hn : 146 ≤ n) (hdd : d' + 1 ≤ d) (hs8 : (rest.map fun v => v.category).sum ≤ 8) (hEx : Ex g mX6_seek d' n n [.ref 84, .int a1, .int a2] X post1) (k : ∀ v X1, post1 v X1 → Ev g mX11_best d n n post n 32 L (v.toList ++ rest) X1) : Ev g mX11_best d n n post n 29 L (.int a2 :: .int a1 :: .ref 84 :: rest) X :=
  ev_callV (as := [.int a1, .int a2]) (rest := rest) dX11_best_29 vX6_seek ml_11_265 isX6_seek seX6_seek npX6_seek (rc_84 (by omega)) hdd (by show 64 * (d' + 1) ≤ 64 * d; omega) (by decide) rfl hs8 (Nat.le_refl n) (Nat.le_refl _) (Nat.le_refl _) hEx k
theorem qX12_best_43 {g : GG} {d d' n : Nat} {post post1 : Option Value → LX → Prop} {L : List (Option Value)} {rest : List Value} {X : LX} {a1 : Int32} {a2 : Int32} {a3 : Int32} {a4 : Int32} (hn : 146 ≤ n) (hdd : d' + 1 ≤ d) (hs8 : (rest.map fun v => v.category).sum ≤ 8) (hEx : Ex g mX12_menuFrom d' n n [.ref 133, .int a1, .int a2, .int a3, .int a4] X post1) (k : ∀ v X1, post1 v X1 → Ev g mX12_best d n n post n 46 L (v.toList ++ rest) X1) : Ev g mX12_best d n n post n 43 L (.int a4 :: .int a3 :: .int a2 :: .int a1 :: .ref 133 :: rest) X :=
  ev_callV (as := [.int a1, .int a2, .int a3, .int a4]) (rest := rest) dX12_best_43 vX12_menuFrom ml_12_256 isX12_menuFrom seX12_menuFrom npX12_menuFrom (rc_133 (by omega)) hdd (by show 64 * (d' + 1) ≤ 64 * d; omega) (by decide) rfl hs8 (Nat.le_refl n) (Nat.le_refl _) (Nat.le_refl _) hEx k
theorem qX11_shifts_16 {g : GG} {d d' n : Nat} {post post1 : Option Value → LX → Prop} {L : List (Option Value)} {rest : List Value} {X : LX}  (hn : 146 ≤ n) (hdd : d' + 1 ≤ d) (hs8 : (rest.map fun v => v.category).sum ≤ 8) (hEx : Ex g mX10_seek d' n n [.ref 110] X post1) (k : ∀ v X1, post1 v X1 → Ev g mX11_shifts d n n post n 19 L (v.toList ++ rest) X1) : Ev g mX11_shifts d n n post n 16 L (.ref 110 :: rest) X :=
  ev_callV (as := []) (rest := rest) dX11_shifts_16 vX10_seek ml_11_339 isX10_seek seX10_seek npX10_seek (rc_110 (by omega)) hdd (by show 64 * (d' + 1) ≤ 64 * d; omega) (by decide) rfl hs8 (Nat.le_refl n) (Nat.le_refl _) (Nat.le_refl _) hEx k
theorem qX12_shifts_52 {g : GG} {d d' n : Nat} {post post1 : Option Value → LX → Prop} {L : List (Option Value)} {rest : List Value} {X : LX}  (hn : 146 ≤ n) (hdd : d' + 1 ≤ d) (hs8 : (rest.map fun v => v.category).sum ≤ 8) (hEx : Ex g mX12_findNeeds d' n n [.ref 133] X post1) (k : ∀ v X1, post1 v X1 → Ev g mX12_shifts d n n post n 55 L (v.toList ++ rest) X1) : Ev g mX12_shifts d n n post n 52 L (.ref 133 :: rest) X :=
  ev_callV (as := []) (rest := rest) dX12_shifts_52 vX12_findNeeds ml_12_264 isX12_findNeeds seX12_findNeeds npX12_findNeeds (rc_133 (by omega)) hdd (by show 64 * (d' + 1) ≤ 64 * d; omega) (by decide) rfl hs8 (Nat.le_refl n) (Nat.le_refl _) (Nat.le_refl _) hEx k
theorem qX12_shifts_57 {g : GG} {d d' n : Nat} {post post1 : Option Value → LX → Prop} {L : List (Option Value)} {rest : List Value} {X : LX} {a1 : Int32} (hn : 146 ≤ n) (hdd : d' + 1 ≤ d) (hs8 : (rest.map fun v => v.category).sum ≤ 8) (hEx : Ex g mX12_mostPicks d' n n [.ref 133, .int a1] X post1) (k : ∀ v X1, post1 v X1 → Ev g mX12_shifts d n n post n 60 L (v.toList ++ rest) X1) : Ev g mX12_shifts d n n post n 57 L (.int a1 :: .ref 133 :: rest) X :=
  ev_callV (as := [.int a1]) (rest := rest) dX12_shifts_57 vX12_mostPicks ml_12_310 isX12_mostPicks seX12_mostPicks npX12_mostPicks (rc_133 (by omega)) hdd (by show 64 * (d' + 1) ≤ 64 * d; omega) (by decide) rfl hs8 (Nat.le_refl n) (Nat.le_refl _) (Nat.le_refl _) hEx k
theorem qX12_shifts_85 {g : GG} {d d' n : Nat} {post post1 : Option Value → LX → Prop} {L : List (Option Value)} {rest : List Value} {X : LX} {a1 : Int32} (hn : 146 ≤ n) (hdd : d' + 1 ≤ d) (hs8 : (rest.map fun v => v.category).sum ≤ 8) (hEx : Ex g mX12_mostPicks d' n n [.ref 133, .int a1] X post1) (k : ∀ v X1, post1 v X1 → Ev g mX12_shifts d n n post n 88 L (v.toList ++ rest) X1) : Ev g mX12_shifts d n n post n 85 L (.int a1 :: .ref 133 :: rest) X :=
  ev_callV (as := [.int a1]) (rest := rest) dX12_shifts_85 vX12_mostPicks ml_12_310 isX12_mostPicks seX12_mostPicks npX12_mostPicks (rc_133 (by omega)) hdd (by show 64 * (d' + 1) ≤ 64 * d; omega) (by decide) rfl hs8 (Nat.le_refl n) (Nat.le_refl _) (Nat.le_refl _) hEx k
