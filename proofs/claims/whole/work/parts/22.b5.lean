theorem bX1_boxToday_0_0 {g : GG} {d n : Nat} {post : Option Value → LX → Prop} {X : LX} (hn : 146 ≤ n) (hX : Sh n X) {v1 : Nat} {j1 : Nat} (c0 : ¬ X 1 8 = 0) (b0 : v1 < 12) (hj1 : X 1 5 = nI j1) (b1 : j1 < 100) (hp : post (some (.int (X (56 + 1 + v1) j1))) X) : Ev g mX1_boxToday d n n post n 0 [some (.ref 1), some (.int (nI v1)), none, none, none] [] X := by
  refine ev_aload_n dX1_boxToday_0 rfl ?_
  refine ev_getI dX1_boxToday_1 fo_1_72 (by omega) lo_1 rfl ?_
  refine ev_ifF (tgt := 22) dX1_boxToday_4 (by decide) c0 ?_
  refine ev_aload_n dX1_boxToday_7 rfl ?_
  refine ev_getS (q := 37) dX1_boxToday_8 fo_1_28 (by omega) lo_1 rfl (sh_1_2 hX (by omega)) (by decide) ?_
  refine ev_getS (q := 56) dX1_boxToday_11 fo_1_138 (by omega) lo_37 rfl (sh_37_7 hX (by omega)) (by decide) ?_
  refine ev_iload_n dX1_boxToday_14 rfl ?_
  refine ev_aald (q := 56 + 1 + v1) dX1_boxToday_15 (by omega) (Or.inl ly_56) rfl b0 (hX.2 56 v1 (by omega) (Or.inl (by rw [ly_56])) (by rw [ly_56]; exact b0)) (by first | omega | (have := LY_l ly_56; have := LY_lt (show (LY 56).1 < 99 by rw [ly_56]; exact (by decide : 2 < 99)); omega)) ?_
  refine ev_aload_n dX1_boxToday_16 rfl ?_
  refine ev_getI dX1_boxToday_17 fo_1_66 (by omega) lo_1 rfl ?_
  refine ev_iald dX1_boxToday_20 (by have := b0; omega) (lyr_56 _ b0) hj1 b1 ?_
  exact ev_iret dX1_boxToday_21 rfl rfl hp
theorem bX1_boxToday_0_1 {g : GG} {d n : Nat} {post : Option Value → LX → Prop} {X : LX} (hn : 146 ≤ n) (hX : Sh n X) {v1 : Nat} (c0 : X 1 8 = 0) (b0 : v1 < 12) (c1 : X 42 v1 = (-1)) (hp : post (some (.int 0)) X) : Ev g mX1_boxToday d n n post n 0 [some (.ref 1), some (.int (nI v1)), none, none, none] [] X := by
  refine ev_aload_n dX1_boxToday_0 rfl ?_
  refine ev_getI dX1_boxToday_1 fo_1_72 (by omega) lo_1 rfl ?_
  refine ev_ifT (tgt := 22) dX1_boxToday_4 (by decide) c0 ?_
  refine ev_aload_n dX1_boxToday_22 rfl ?_
  refine ev_getS (q := 37) dX1_boxToday_23 fo_1_28 (by omega) lo_1 rfl (sh_1_2 hX (by omega)) (by decide) ?_
  refine ev_getS (q := 42) dX1_boxToday_26 fo_1_141 (by omega) lo_37 rfl (sh_37_5 hX (by omega)) (by decide) ?_
  refine ev_iload_n dX1_boxToday_29 rfl ?_
  refine ev_iald dX1_boxToday_30 (by omega) ly_42 rfl b0 ?_
  refine ev_istore_n dX1_boxToday_31 (by decide) ?_
  refine ev_iload_n dX1_boxToday_32 rfl ?_
  refine ev_iconst (v := (-1)) dX1_boxToday_33 ki_m1 ?_
  refine ev_icmpF (tgt := 39) dX1_boxToday_34 (by decide) c1 ?_
  refine ev_iconst (v := 0) dX1_boxToday_37 ki_0 ?_
  exact ev_iret dX1_boxToday_38 rfl rfl hp
theorem bX1_boxToday_0_2 {g : GG} {d n : Nat} {post : Option Value → LX → Prop} {X : LX} (hd : 1 ≤ d) (hn : 146 ≤ n) (hX : Sh n X) {v1 : Nat} (c0 : X 1 8 = 0) (b0 : v1 < 12) (c1 : ¬ X 42 v1 = (-1)) (k : Ev g mX1_boxToday d n n post n 47 [some (.ref 1), some (.int (nI v1)), some (.int (X 42 v1)), some (.int (X 42 v1)), some (.int (bc (X 42 v1)))] [] X) : Ev g mX1_boxToday d n n post n 0 [some (.ref 1), some (.int (nI v1)), none, none, none] [] X := by
  refine ev_aload_n dX1_boxToday_0 rfl ?_
  refine ev_getI dX1_boxToday_1 fo_1_72 (by omega) lo_1 rfl ?_
  refine ev_ifT (tgt := 22) dX1_boxToday_4 (by decide) c0 ?_
  refine ev_aload_n dX1_boxToday_22 rfl ?_
  refine ev_getS (q := 37) dX1_boxToday_23 fo_1_28 (by omega) lo_1 rfl (sh_1_2 hX (by omega)) (by decide) ?_
  refine ev_getS (q := 42) dX1_boxToday_26 fo_1_141 (by omega) lo_37 rfl (sh_37_5 hX (by omega)) (by decide) ?_
  refine ev_iload_n dX1_boxToday_29 rfl ?_
  refine ev_iald dX1_boxToday_30 (by omega) ly_42 rfl b0 ?_
  refine ev_istore_n dX1_boxToday_31 (by decide) ?_
  refine ev_iload_n dX1_boxToday_32 rfl ?_
  refine ev_iconst (v := (-1)) dX1_boxToday_33 ki_m1 ?_
  refine ev_icmpT (tgt := 39) dX1_boxToday_34 (by decide) c1 ?_
  refine ev_iload_n dX1_boxToday_39 rfl ?_
  refine ev_istore_n dX1_boxToday_40 (by decide) ?_
  refine ev_iload_n dX1_boxToday_41 rfl ?_
  refine e_Si (as := [.int (X 42 v1)]) (rest := []) dX1_boxToday_42 vJ6_bitCount_0f7a4 ml_1_106 stJ6_bitCount_0f7a4 npJ6_bitCount_0f7a4 (by decide) rfl (Nat.le_of_ble_eq_true rfl) (by omega) (k_J6_bitCount_0f7a4 (d := d - 1) (by omega) (by omega) hX ) ?_
  refine ev_istore dX1_boxToday_45 (by decide) ?_
  exact k
theorem bX1_boxToday_47_0 {g : GG} {d n : Nat} {post : Option Value → LX → Prop} {X : LX} (hd : 3 ≤ d) (hn : 146 ≤ n) (hX : Sh n X) {v1 : Nat} {v2 : Int32} {v3 : Int32} {v4 : Int32} (c0 : ¬ 2 ≤ v4) (c1 : v1 < 12) (c2 : num X 2 0 14) (c3 : num X 23 0 10) (c4 : num X 1 5 99) (k : Ev g mX1_boxToday d n n post n 47 [some (.ref 1), some (.int (nI v1)), some (.int v2), some (.int (v3 ||| (cGuess X v1 v3))), some (.int (v4 + 1))] [] X) : Ev g mX1_boxToday d n n post n 47 [some (.ref 1), some (.int (nI v1)), some (.int v2), some (.int v3), some (.int v4)] [] X := by
  refine ev_iload dX1_boxToday_47 rfl ?_
  refine ev_iconst (v := 2) dX1_boxToday_49 ki_2 ?_
  refine ev_icmpF (tgt := 68) dX1_boxToday_50 (by decide) c0 ?_
  refine ev_iload_n dX1_boxToday_53 rfl ?_
  refine ev_aload_n dX1_boxToday_54 rfl ?_
  refine ev_iload_n dX1_boxToday_55 rfl ?_
  refine ev_iload_n dX1_boxToday_56 rfl ?_
  refine e_Vi (as := [.int (nI v1), .int v3]) (rest := [.int v3]) dX1_boxToday_57 vX1_guess ml_1_144 isX1_guess seX1_guess npX1_guess (rc_1 (by omega)) (by decide) rfl (Nat.le_of_ble_eq_true rfl) (by omega) (k_X1_guess (d := d - 1) (by omega) (by omega) hX c1 c2 c3 c4) ?_
  refine ev_ior dX1_boxToday_60 ?_
  refine ev_istore_n dX1_boxToday_61 (by decide) ?_
  refine ev_iinc (v := v4 + 1) dX1_boxToday_62 rfl (by rw [show Int32.ofInt 1 = 1 from ki_1]) (by decide) ?_
  refine ev_goto (tgt := 47) dX1_boxToday_65 (by decide) ?_
  exact k
theorem bX1_boxToday_47_1 {g : GG} {d n : Nat} {post : Option Value → LX → Prop} {X : LX} (hn : 146 ≤ n) (hX : Sh n X) {v1 : Int32} {v2 : Int32} {v3 : Int32} {v4 : Int32} (c0 : 2 ≤ v4) (hp : post (some (.int v3)) X) : Ev g mX1_boxToday d n n post n 47 [some (.ref 1), some (.int v1), some (.int v2), some (.int v3), some (.int v4)] [] X := by
  refine ev_iload dX1_boxToday_47 rfl ?_
  refine ev_iconst (v := 2) dX1_boxToday_49 ki_2 ?_
  refine ev_icmpT (tgt := 68) dX1_boxToday_50 (by decide) c0 ?_
  refine ev_iload_n dX1_boxToday_68 rfl ?_
  exact ev_iret dX1_boxToday_69 rfl rfl hp
theorem bX12_boxToday_0_0 {g : GG} {d n : Nat} {post : Option Value → LX → Prop} {X : LX} (hn : 146 ≤ n) (hX : Sh n X) {v1 : Nat} {j1 : Nat} (c0 : X 134 3 = 1) (hj1 : X 134 0 = nI j1) (b0 : ((828 + (12 * j1)) + v1) < 2156) (hp : post (some (.int (X 134 ((828 + (12 * j1)) + v1)))) X) : Ev g mX12_boxToday d n n post n 0 [some (.ref 133), some (.int (nI v1)), none, none, none] [] X := by
  refine ev_aload_n dX12_boxToday_0 rfl ?_
  refine ev_getS (q := 134) dX12_boxToday_1 fo_12_9 (by omega) lo_133 rfl (sh_133_0 hX (by omega)) (by decide) ?_
  refine ev_iconst (v := 3) dX12_boxToday_4 ki_3 ?_
  refine ev_iald dX12_boxToday_5 (by omega) ly_134 nIl_3 (by decide) ?_
  refine ev_iconst (v := 1) dX12_boxToday_6 ki_1 ?_
  refine ev_icmpF (tgt := 31) dX12_boxToday_7 (by decide) c0 ?_
  refine ev_aload_n dX12_boxToday_10 rfl ?_
  refine ev_getS (q := 134) dX12_boxToday_11 fo_12_9 (by omega) lo_133 rfl (sh_133_0 hX (by omega)) (by decide) ?_
  refine ev_sipush (v := 828) dX12_boxToday_14 ks_828 ?_
  refine ev_bipush (v := 12) dX12_boxToday_17 kb_12 ?_
  refine ev_aload_n dX12_boxToday_19 rfl ?_
  refine ev_getS (q := 134) dX12_boxToday_20 fo_12_9 (by omega) lo_133 rfl (sh_133_0 hX (by omega)) (by decide) ?_
  refine ev_iconst (v := 0) dX12_boxToday_23 ki_0 ?_
  refine ev_iald dX12_boxToday_24 (by omega) ly_134 nIl_0 (by decide) ?_
  refine ev_imul dX12_boxToday_25 ?_
  refine ev_iadd dX12_boxToday_26 ?_
  refine ev_iload_n dX12_boxToday_27 rfl ?_
  refine ev_iadd dX12_boxToday_28 ?_
  refine ev_iald dX12_boxToday_29 (by omega) ly_134 (by rw [hj1]; show (nI 828 + (nI 12 * nI j1)) + nI v1 = nI ((828 + (12 * j1)) + v1); simp only [pk_mul, nI_add]) b0 ?_
  exact ev_iret dX12_boxToday_30 rfl rfl hp
theorem bX12_boxToday_0_1 {g : GG} {d n : Nat} {post : Option Value → LX → Prop} {X : LX} (hd : 1 ≤ d) (hn : 146 ≤ n) (hX : Sh n X) {v1 : Nat} (c0 : ¬ X 134 3 = 1) (b0 : ((448 + (15 * v1)) + 4) < 2156) (c1 : X 134 ((448 + (15 * v1)) + 4) = (-1)) (hp : post (some (.int 0)) X) : Ev g mX12_boxToday d n n post n 0 [some (.ref 133), some (.int (nI v1)), none, none, none] [] X := by
  refine ev_aload_n dX12_boxToday_0 rfl ?_
  refine ev_getS (q := 134) dX12_boxToday_1 fo_12_9 (by omega) lo_133 rfl (sh_133_0 hX (by omega)) (by decide) ?_
  refine ev_iconst (v := 3) dX12_boxToday_4 ki_3 ?_
  refine ev_iald dX12_boxToday_5 (by omega) ly_134 nIl_3 (by decide) ?_
  refine ev_iconst (v := 1) dX12_boxToday_6 ki_1 ?_
  refine ev_icmpT (tgt := 31) dX12_boxToday_7 (by decide) c0 ?_
  refine ev_aload_n dX12_boxToday_31 rfl ?_
  refine ev_getS (q := 134) dX12_boxToday_32 fo_12_9 (by omega) lo_133 rfl (sh_133_0 hX (by omega)) (by decide) ?_
  refine ev_iload_n dX12_boxToday_35 rfl ?_
  refine ev_iconst (v := 4) dX12_boxToday_36 ki_4 ?_
  refine e_Si (as := [.int (nI v1), .int 4]) (rest := [.ref 134]) dX12_boxToday_37 vX12_ofFamily ml_12_99 stX12_ofFamily npX12_ofFamily (by decide) rfl (Nat.le_of_ble_eq_true rfl) (by omega) (c_X12_ofFamily (d := d - 1) (by omega) (by omega) hX ) ?_
  refine ev_iald dX12_boxToday_40 (by omega) ly_134 (by show (nI 448 + (nI 15 * nI v1)) + nI 4 = nI ((448 + (15 * v1)) + 4); simp only [pk_mul, nI_add]) b0 ?_
  refine ev_istore_n dX12_boxToday_41 (by decide) ?_
  refine ev_iload_n dX12_boxToday_42 rfl ?_
  refine ev_iconst (v := (-1)) dX12_boxToday_43 ki_m1 ?_
  refine ev_icmpF (tgt := 49) dX12_boxToday_44 (by decide) c1 ?_
  refine ev_iconst (v := 0) dX12_boxToday_47 ki_0 ?_
  exact ev_iret dX12_boxToday_48 rfl rfl hp
theorem bX12_boxToday_0_2 {g : GG} {d n : Nat} {post : Option Value → LX → Prop} {X : LX} (hd : 1 ≤ d) (hn : 146 ≤ n) (hX : Sh n X) {v1 : Nat} (c0 : ¬ X 134 3 = 1) (b0 : ((448 + (15 * v1)) + 4) < 2156) (c1 : ¬ X 134 ((448 + (15 * v1)) + 4) = (-1)) (k : Ev g mX12_boxToday d n n post n 54 [some (.ref 133), some (.int (nI v1)), some (.int (X 134 ((448 + (15 * v1)) + 4))), some (.int (ones (X 134 ((448 + (15 * v1)) + 4)))), none] [] X) : Ev g mX12_boxToday d n n post n 0 [some (.ref 133), some (.int (nI v1)), none, none, none] [] X := by
  refine ev_aload_n dX12_boxToday_0 rfl ?_
  refine ev_getS (q := 134) dX12_boxToday_1 fo_12_9 (by omega) lo_133 rfl (sh_133_0 hX (by omega)) (by decide) ?_
  refine ev_iconst (v := 3) dX12_boxToday_4 ki_3 ?_
  refine ev_iald dX12_boxToday_5 (by omega) ly_134 nIl_3 (by decide) ?_
  refine ev_iconst (v := 1) dX12_boxToday_6 ki_1 ?_
  refine ev_icmpT (tgt := 31) dX12_boxToday_7 (by decide) c0 ?_
  refine ev_aload_n dX12_boxToday_31 rfl ?_
  refine ev_getS (q := 134) dX12_boxToday_32 fo_12_9 (by omega) lo_133 rfl (sh_133_0 hX (by omega)) (by decide) ?_
  refine ev_iload_n dX12_boxToday_35 rfl ?_
  refine ev_iconst (v := 4) dX12_boxToday_36 ki_4 ?_
  refine e_Si (as := [.int (nI v1), .int 4]) (rest := [.ref 134]) dX12_boxToday_37 vX12_ofFamily ml_12_99 stX12_ofFamily npX12_ofFamily (by decide) rfl (Nat.le_of_ble_eq_true rfl) (by omega) (c_X12_ofFamily (d := d - 1) (by omega) (by omega) hX ) ?_
  refine ev_iald dX12_boxToday_40 (by omega) ly_134 (by show (nI 448 + (nI 15 * nI v1)) + nI 4 = nI ((448 + (15 * v1)) + 4); simp only [pk_mul, nI_add]) b0 ?_
  refine ev_istore_n dX12_boxToday_41 (by decide) ?_
  refine ev_iload_n dX12_boxToday_42 rfl ?_
  refine ev_iconst (v := (-1)) dX12_boxToday_43 ki_m1 ?_
  refine ev_icmpT (tgt := 49) dX12_boxToday_44 (by decide) c1 ?_
  refine ev_iload_n dX12_boxToday_49 rfl ?_
  refine e_Si (as := [.int (X 134 ((448 + (15 * v1)) + 4))]) (rest := []) dX12_boxToday_50 vX12_ones ml_12_109 stX12_ones npX12_ones (by decide) rfl (Nat.le_of_ble_eq_true rfl) (by omega) (k_X12_ones (d := d - 1) (by omega) (by omega) hX ) ?_
  refine ev_istore_n dX12_boxToday_53 (by decide) ?_
  exact k
theorem bX12_boxToday_54_0 {g : GG} {d n : Nat} {post : Option Value → LX → Prop} {X : LX} (hd : 4 ≤ d) (hn : 146 ≤ n) (hX : Sh n X) {v1 : Nat} {v2 : Int32} {v3 : Int32} (c0 : ¬ 2 ≤ v3) (c1 : v1 < 12) (c2 : ∀ m, m < 10 → okM X m) (c3 : num X 134 0 99) (c4 : ¬ 0 ≤ mGuess X v1 v2) (k : Ev g mX12_boxToday d n n post n 54 [some (.ref 133), some (.int (nI v1)), some (.int (v2 ||| 0)), some (.int (v3 + 1)), none] [] X) : Ev g mX12_boxToday d n n post n 54 [some (.ref 133), some (.int (nI v1)), some (.int v2), some (.int v3), none] [] X := by
  refine ev_iload_n dX12_boxToday_54 rfl ?_
  refine ev_iconst (v := 2) dX12_boxToday_55 ki_2 ?_
  refine ev_icmpF (tgt := 89) dX12_boxToday_56 (by decide) c0 ?_
  refine ev_aload_n dX12_boxToday_59 rfl ?_
  refine ev_iload_n dX12_boxToday_60 rfl ?_
  refine ev_iload_n dX12_boxToday_61 rfl ?_
  refine e_Vi (as := [.int (nI v1), .int v2]) (rest := []) dX12_boxToday_62 vX12_guess ml_12_112 isX12_guess seX12_guess npX12_guess (rc_133 (by omega)) (by decide) rfl (Nat.le_of_ble_eq_true rfl) (by omega) (k_X12_guess (d := d - 1) (by omega) (by omega) hX c1 c2 c3) ?_
  refine ev_istore dX12_boxToday_65 (by decide) ?_
  refine ev_iload_n dX12_boxToday_67 rfl ?_
  refine ev_iload dX12_boxToday_68 rfl ?_
  refine ev_ifF (tgt := 77) dX12_boxToday_70 (by decide) c4 ?_
  refine ev_iconst (v := 0) dX12_boxToday_73 ki_0 ?_
  refine ev_goto (tgt := 81) dX12_boxToday_74 (by decide) ?_
  refine ev_ior dX12_boxToday_81 ?_
  refine ev_istore_n dX12_boxToday_82 (by decide) ?_
  refine ev_iinc (v := v3 + 1) dX12_boxToday_83 rfl (by rw [show Int32.ofInt 1 = 1 from ki_1]) (by decide) ?_
  refine ev_goto (tgt := 54) dX12_boxToday_86 (by decide) ?_
  refine ev_wk (L := [some (.ref 133), some (.int (nI v1)), some (.int (v2 ||| 0)), some (.int (v3 + 1)), some (.int (mGuess X v1 v2))]) (L' := [some (.ref 133), some (.int (nI v1)), some (.int (v2 ||| 0)), some (.int (v3 + 1)), none]) (by simp [lwk]) ?_
  exact k
theorem bX12_boxToday_54_1 {g : GG} {d n : Nat} {post : Option Value → LX → Prop} {X : LX} (hd : 4 ≤ d) (hn : 146 ≤ n) (hX : Sh n X) {v1 : Nat} {v2 : Int32} {v3 : Int32} (c0 : ¬ 2 ≤ v3) (c1 : v1 < 12) (c2 : ∀ m, m < 10 → okM X m) (c3 : num X 134 0 99) (c4 : 0 ≤ mGuess X v1 v2) (k : Ev g mX12_boxToday d n n post n 54 [some (.ref 133), some (.int (nI v1)), some (.int (v2 ||| (1 <<< ((mGuess X v1 v2) &&& 31)))), some (.int (v3 + 1)), none] [] X) : Ev g mX12_boxToday d n n post n 54 [some (.ref 133), some (.int (nI v1)), some (.int v2), some (.int v3), none] [] X := by
  refine ev_iload_n dX12_boxToday_54 rfl ?_
  refine ev_iconst (v := 2) dX12_boxToday_55 ki_2 ?_
  refine ev_icmpF (tgt := 89) dX12_boxToday_56 (by decide) c0 ?_
  refine ev_aload_n dX12_boxToday_59 rfl ?_
  refine ev_iload_n dX12_boxToday_60 rfl ?_
  refine ev_iload_n dX12_boxToday_61 rfl ?_
  refine e_Vi (as := [.int (nI v1), .int v2]) (rest := []) dX12_boxToday_62 vX12_guess ml_12_112 isX12_guess seX12_guess npX12_guess (rc_133 (by omega)) (by decide) rfl (Nat.le_of_ble_eq_true rfl) (by omega) (k_X12_guess (d := d - 1) (by omega) (by omega) hX c1 c2 c3) ?_
  refine ev_istore dX12_boxToday_65 (by decide) ?_
  refine ev_iload_n dX12_boxToday_67 rfl ?_
  refine ev_iload dX12_boxToday_68 rfl ?_
  refine ev_ifT (tgt := 77) dX12_boxToday_70 (by decide) c4 ?_
  refine ev_iconst (v := 1) dX12_boxToday_77 ki_1 ?_
  refine ev_iload dX12_boxToday_78 rfl ?_
  refine ev_ishl dX12_boxToday_80 ?_
  refine ev_ior dX12_boxToday_81 ?_
  refine ev_istore_n dX12_boxToday_82 (by decide) ?_
  refine ev_iinc (v := v3 + 1) dX12_boxToday_83 rfl (by rw [show Int32.ofInt 1 = 1 from ki_1]) (by decide) ?_
  refine ev_goto (tgt := 54) dX12_boxToday_86 (by decide) ?_
  refine ev_wk (L := [some (.ref 133), some (.int (nI v1)), some (.int (v2 ||| (1 <<< ((mGuess X v1 v2) &&& 31)))), some (.int (v3 + 1)), some (.int (mGuess X v1 v2))]) (L' := [some (.ref 133), some (.int (nI v1)), some (.int (v2 ||| (1 <<< ((mGuess X v1 v2) &&& 31)))), some (.int (v3 + 1)), none]) (by simp [lwk]) ?_
  exact k
theorem bX12_boxToday_54_2 {g : GG} {d n : Nat} {post : Option Value → LX → Prop} {X : LX} (hn : 146 ≤ n) (hX : Sh n X) {v1 : Int32} {v2 : Int32} {v3 : Int32} (c0 : 2 ≤ v3) (hp : post (some (.int v2)) X) : Ev g mX12_boxToday d n n post n 54 [some (.ref 133), some (.int v1), some (.int v2), some (.int v3), none] [] X := by
  refine ev_iload_n dX12_boxToday_54 rfl ?_
  refine ev_iconst (v := 2) dX12_boxToday_55 ki_2 ?_
  refine ev_icmpT (tgt := 89) dX12_boxToday_56 (by decide) c0 ?_
  refine ev_iload_n dX12_boxToday_89 rfl ?_
  exact ev_iret dX12_boxToday_90 rfl rfl hp
theorem bX11_choose_0_0 {g : GG} {d n : Nat} {post : Option Value → LX → Prop} {X : LX} (hd : 3 ≤ d) (hn : 146 ≤ n) (hX : Sh n X) {v1 : Nat} {v2 : Int32} (c0 : 0 ≤ (nI v1) ∧ (nI v1) < X 37 0) (c1 : ¬ v2 = (-1)) (c2 : v1 < 12) (c3 : num X 2 0 14) (c4 : num X 23 0 10) (c5 : cCh X v1 v2) (c6 : ¬ X 1 8 = 0) (hp : post (some (.int (-1000000002))) X) : Ev g mX11_choose d n n post n 0 [some (.ref 0), some (.int (nI v1)), some (.int v2), none] [] X := by
  refine ev_aload_n dX11_choose_0 rfl ?_
  refine ev_getS (q := 1) dX11_choose_1 fo_11_10 (by omega) lo_0 rfl (sh_0_0 hX (by omega)) (by decide) ?_
  refine ev_getS (q := 37) dX11_choose_4 fo_11_144 (by omega) lo_1 rfl (sh_1_2 hX (by omega)) (by decide) ?_
  refine ev_iload_n dX11_choose_7 rfl ?_
  refine e_Vi (as := [.int (nI v1)]) (rest := []) dX11_choose_8 vX0_has ml_11_163 isX0_has seX0_has npX0_has (rc_37 (by omega)) (by decide) rfl (Nat.le_of_ble_eq_true rfl) (by omega) (t_X0_has (d := d - 1) (by omega) (by omega) hX c0) ?_
  refine ev_ifT (tgt := 17) dX11_choose_11 (by decide) (by show ¬ (1 : Int32) = 0; decide) ?_
  refine ev_iload_n dX11_choose_17 rfl ?_
  refine ev_iconst (v := (-1)) dX11_choose_18 ki_m1 ?_
  refine ev_icmpF (tgt := 37) dX11_choose_19 (by decide) c1 ?_
  refine ev_aload_n dX11_choose_22 rfl ?_
  refine ev_getS (q := 1) dX11_choose_23 fo_11_10 (by omega) lo_0 rfl (sh_0_0 hX (by omega)) (by decide) ?_
  refine ev_iload_n dX11_choose_26 rfl ?_
  refine ev_iload_n dX11_choose_27 rfl ?_
  refine e_Vi (as := [.int (nI v1), .int v2]) (rest := []) dX11_choose_28 vX1_mayChoose ml_11_193 isX1_mayChoose seX1_mayChoose npX1_mayChoose (rc_1 (by omega)) (by decide) rfl (Nat.le_of_ble_eq_true rfl) (by omega) (t_X1_mayChoose (d := d - 1) (by omega) (by omega) hX c2 c3 c4 c5) ?_
  refine ev_ifT (tgt := 37) dX11_choose_31 (by decide) (by show ¬ (1 : Int32) = 0; decide) ?_
  refine ev_aload_n dX11_choose_37 rfl ?_
  refine ev_getS (q := 1) dX11_choose_38 fo_11_10 (by omega) lo_0 rfl (sh_0_0 hX (by omega)) (by decide) ?_
  refine ev_getI dX11_choose_41 fo_11_196 (by omega) lo_1 rfl ?_
  refine ev_ifF (tgt := 50) dX11_choose_44 (by decide) c6 ?_
  refine ev_ldc (v := (-1000000002)) dX11_choose_47 kw_11_124 ?_
  exact ev_iret dX11_choose_49 rfl rfl hp
theorem bX11_choose_0_1 {g : GG} {d n : Nat} {post : Option Value → LX → Prop} {X : LX} (hd : 3 ≤ d) (hn : 146 ≤ n) (hX : Sh n X) {v1 : Nat} {v2 : Int32} (c0 : 0 ≤ (nI v1) ∧ (nI v1) < X 37 0) (c1 : ¬ v2 = (-1)) (c2 : v1 < 12) (c3 : num X 2 0 14) (c4 : num X 23 0 10) (c5 : cCh X v1 v2) (c6 : X 1 8 = 0) (b0 : v1 < 12) (hp : post (some (.int (X 42 v1))) (lx_up X 42 v1 v2)) : Ev g mX11_choose d n n post n 0 [some (.ref 0), some (.int (nI v1)), some (.int v2), none] [] X := by
  refine ev_aload_n dX11_choose_0 rfl ?_
  refine ev_getS (q := 1) dX11_choose_1 fo_11_10 (by omega) lo_0 rfl (sh_0_0 hX (by omega)) (by decide) ?_
  refine ev_getS (q := 37) dX11_choose_4 fo_11_144 (by omega) lo_1 rfl (sh_1_2 hX (by omega)) (by decide) ?_
  refine ev_iload_n dX11_choose_7 rfl ?_
  refine e_Vi (as := [.int (nI v1)]) (rest := []) dX11_choose_8 vX0_has ml_11_163 isX0_has seX0_has npX0_has (rc_37 (by omega)) (by decide) rfl (Nat.le_of_ble_eq_true rfl) (by omega) (t_X0_has (d := d - 1) (by omega) (by omega) hX c0) ?_
  refine ev_ifT (tgt := 17) dX11_choose_11 (by decide) (by show ¬ (1 : Int32) = 0; decide) ?_
  refine ev_iload_n dX11_choose_17 rfl ?_
  refine ev_iconst (v := (-1)) dX11_choose_18 ki_m1 ?_
  refine ev_icmpF (tgt := 37) dX11_choose_19 (by decide) c1 ?_
  refine ev_aload_n dX11_choose_22 rfl ?_
  refine ev_getS (q := 1) dX11_choose_23 fo_11_10 (by omega) lo_0 rfl (sh_0_0 hX (by omega)) (by decide) ?_
  refine ev_iload_n dX11_choose_26 rfl ?_
  refine ev_iload_n dX11_choose_27 rfl ?_
  refine e_Vi (as := [.int (nI v1), .int v2]) (rest := []) dX11_choose_28 vX1_mayChoose ml_11_193 isX1_mayChoose seX1_mayChoose npX1_mayChoose (rc_1 (by omega)) (by decide) rfl (Nat.le_of_ble_eq_true rfl) (by omega) (t_X1_mayChoose (d := d - 1) (by omega) (by omega) hX c2 c3 c4 c5) ?_
  refine ev_ifT (tgt := 37) dX11_choose_31 (by decide) (by show ¬ (1 : Int32) = 0; decide) ?_
  refine ev_aload_n dX11_choose_37 rfl ?_
  refine ev_getS (q := 1) dX11_choose_38 fo_11_10 (by omega) lo_0 rfl (sh_0_0 hX (by omega)) (by decide) ?_
  refine ev_getI dX11_choose_41 fo_11_196 (by omega) lo_1 rfl ?_
  refine ev_ifT (tgt := 50) dX11_choose_44 (by decide) c6 ?_
  refine ev_aload_n dX11_choose_50 rfl ?_
  refine ev_getS (q := 1) dX11_choose_51 fo_11_10 (by omega) lo_0 rfl (sh_0_0 hX (by omega)) (by decide) ?_
  refine ev_getS (q := 37) dX11_choose_54 fo_11_144 (by omega) lo_1 rfl (sh_1_2 hX (by omega)) (by decide) ?_
  refine ev_getS (q := 42) dX11_choose_57 fo_11_200 (by omega) lo_37 rfl (sh_37_5 hX (by omega)) (by decide) ?_
  refine ev_iload_n dX11_choose_60 rfl ?_
  refine ev_iald dX11_choose_61 (by omega) ly_42 rfl b0 ?_
  refine ev_istore_n dX11_choose_62 (by decide) ?_
  refine ev_aload_n dX11_choose_63 rfl ?_
  refine ev_getS (q := 1) dX11_choose_64 fo_11_10 (by omega) lo_0 rfl (sh_0_0 hX (by omega)) (by decide) ?_
  refine ev_getS (q := 37) dX11_choose_67 fo_11_144 (by omega) lo_1 rfl (sh_1_2 hX (by omega)) (by decide) ?_
  refine ev_getS (q := 42) dX11_choose_70 fo_11_200 (by omega) lo_37 rfl (sh_37_5 hX (by omega)) (by decide) ?_
  refine ev_iload_n dX11_choose_73 rfl ?_
  refine ev_iload_n dX11_choose_74 rfl ?_
  refine ev_iast dX11_choose_75 (by omega) ly_42 rfl b0 ?_
  have hX1 : Sh _ (lx_up X 42 v1 v2) := Sh.upA hX (by rw [ly_42]; exact (by decide : 0 < 2))
  refine ev_iload_n dX11_choose_76 rfl ?_
  exact ev_iret dX11_choose_77 rfl rfl hp
theorem bX11_choose_0_2 {g : GG} {d n : Nat} {post : Option Value → LX → Prop} {X : LX} (hd : 3 ≤ d) (hn : 146 ≤ n) (hX : Sh n X) {v1 : Nat} {v2 : Int32} (c0 : 0 ≤ (nI v1) ∧ (nI v1) < X 37 0) (c1 : ¬ v2 = (-1)) (c2 : v1 < 12) (c3 : num X 2 0 14) (c4 : num X 23 0 10) (c5 : ¬ (cCh X v1 v2)) (hp : post (some (.int (-1000000001))) X) : Ev g mX11_choose d n n post n 0 [some (.ref 0), some (.int (nI v1)), some (.int v2), none] [] X := by
  refine ev_aload_n dX11_choose_0 rfl ?_
  refine ev_getS (q := 1) dX11_choose_1 fo_11_10 (by omega) lo_0 rfl (sh_0_0 hX (by omega)) (by decide) ?_
  refine ev_getS (q := 37) dX11_choose_4 fo_11_144 (by omega) lo_1 rfl (sh_1_2 hX (by omega)) (by decide) ?_
  refine ev_iload_n dX11_choose_7 rfl ?_
  refine e_Vi (as := [.int (nI v1)]) (rest := []) dX11_choose_8 vX0_has ml_11_163 isX0_has seX0_has npX0_has (rc_37 (by omega)) (by decide) rfl (Nat.le_of_ble_eq_true rfl) (by omega) (t_X0_has (d := d - 1) (by omega) (by omega) hX c0) ?_
  refine ev_ifT (tgt := 17) dX11_choose_11 (by decide) (by show ¬ (1 : Int32) = 0; decide) ?_
  refine ev_iload_n dX11_choose_17 rfl ?_
  refine ev_iconst (v := (-1)) dX11_choose_18 ki_m1 ?_
  refine ev_icmpF (tgt := 37) dX11_choose_19 (by decide) c1 ?_
  refine ev_aload_n dX11_choose_22 rfl ?_
  refine ev_getS (q := 1) dX11_choose_23 fo_11_10 (by omega) lo_0 rfl (sh_0_0 hX (by omega)) (by decide) ?_
  refine ev_iload_n dX11_choose_26 rfl ?_
  refine ev_iload_n dX11_choose_27 rfl ?_
  refine e_Vi (as := [.int (nI v1), .int v2]) (rest := []) dX11_choose_28 vX1_mayChoose ml_11_193 isX1_mayChoose seX1_mayChoose npX1_mayChoose (rc_1 (by omega)) (by decide) rfl (Nat.le_of_ble_eq_true rfl) (by omega) (f_X1_mayChoose (d := d - 1) (by omega) (by omega) hX c2 c3 c4 c5) ?_
  refine ev_ifF (tgt := 37) dX11_choose_31 (by decide) (by show (0 : Int32) = 0; decide) ?_
  refine ev_ldc (v := (-1000000001)) dX11_choose_34 kw_11_61 ?_
  exact ev_iret dX11_choose_36 rfl rfl hp
theorem bX11_choose_0_3 {g : GG} {d n : Nat} {post : Option Value → LX → Prop} {X : LX} (hd : 1 ≤ d) (hn : 146 ≤ n) (hX : Sh n X) {v1 : Int32} {v2 : Int32} (c0 : 0 ≤ v1 ∧ v1 < X 37 0) (c1 : v2 = (-1)) (c2 : ¬ X 1 8 = 0) (hp : post (some (.int (-1000000002))) X) : Ev g mX11_choose d n n post n 0 [some (.ref 0), some (.int v1), some (.int v2), none] [] X := by
  refine ev_aload_n dX11_choose_0 rfl ?_
  refine ev_getS (q := 1) dX11_choose_1 fo_11_10 (by omega) lo_0 rfl (sh_0_0 hX (by omega)) (by decide) ?_
  refine ev_getS (q := 37) dX11_choose_4 fo_11_144 (by omega) lo_1 rfl (sh_1_2 hX (by omega)) (by decide) ?_
  refine ev_iload_n dX11_choose_7 rfl ?_
  refine e_Vi (as := [.int v1]) (rest := []) dX11_choose_8 vX0_has ml_11_163 isX0_has seX0_has npX0_has (rc_37 (by omega)) (by decide) rfl (Nat.le_of_ble_eq_true rfl) (by omega) (t_X0_has (d := d - 1) (by omega) (by omega) hX c0) ?_
  refine ev_ifT (tgt := 17) dX11_choose_11 (by decide) (by show ¬ (1 : Int32) = 0; decide) ?_
  refine ev_iload_n dX11_choose_17 rfl ?_
  refine ev_iconst (v := (-1)) dX11_choose_18 ki_m1 ?_
  refine ev_icmpT (tgt := 37) dX11_choose_19 (by decide) c1 ?_
  refine ev_aload_n dX11_choose_37 rfl ?_
  refine ev_getS (q := 1) dX11_choose_38 fo_11_10 (by omega) lo_0 rfl (sh_0_0 hX (by omega)) (by decide) ?_
  refine ev_getI dX11_choose_41 fo_11_196 (by omega) lo_1 rfl ?_
  refine ev_ifF (tgt := 50) dX11_choose_44 (by decide) c2 ?_
  refine ev_ldc (v := (-1000000002)) dX11_choose_47 kw_11_124 ?_
  exact ev_iret dX11_choose_49 rfl rfl hp
theorem bX11_choose_0_4 {g : GG} {d n : Nat} {post : Option Value → LX → Prop} {X : LX} (hd : 1 ≤ d) (hn : 146 ≤ n) (hX : Sh n X) {v1 : Nat} {v2 : Int32} (c0 : 0 ≤ (nI v1) ∧ (nI v1) < X 37 0) (c1 : v2 = (-1)) (c2 : X 1 8 = 0) (b0 : v1 < 12) (hp : post (some (.int (X 42 v1))) (lx_up X 42 v1 v2)) : Ev g mX11_choose d n n post n 0 [some (.ref 0), some (.int (nI v1)), some (.int v2), none] [] X := by
  refine ev_aload_n dX11_choose_0 rfl ?_
  refine ev_getS (q := 1) dX11_choose_1 fo_11_10 (by omega) lo_0 rfl (sh_0_0 hX (by omega)) (by decide) ?_
  refine ev_getS (q := 37) dX11_choose_4 fo_11_144 (by omega) lo_1 rfl (sh_1_2 hX (by omega)) (by decide) ?_
  refine ev_iload_n dX11_choose_7 rfl ?_
  refine e_Vi (as := [.int (nI v1)]) (rest := []) dX11_choose_8 vX0_has ml_11_163 isX0_has seX0_has npX0_has (rc_37 (by omega)) (by decide) rfl (Nat.le_of_ble_eq_true rfl) (by omega) (t_X0_has (d := d - 1) (by omega) (by omega) hX c0) ?_
  refine ev_ifT (tgt := 17) dX11_choose_11 (by decide) (by show ¬ (1 : Int32) = 0; decide) ?_
  refine ev_iload_n dX11_choose_17 rfl ?_
  refine ev_iconst (v := (-1)) dX11_choose_18 ki_m1 ?_
  refine ev_icmpT (tgt := 37) dX11_choose_19 (by decide) c1 ?_
  refine ev_aload_n dX11_choose_37 rfl ?_
  refine ev_getS (q := 1) dX11_choose_38 fo_11_10 (by omega) lo_0 rfl (sh_0_0 hX (by omega)) (by decide) ?_
  refine ev_getI dX11_choose_41 fo_11_196 (by omega) lo_1 rfl ?_
  refine ev_ifT (tgt := 50) dX11_choose_44 (by decide) c2 ?_
  refine ev_aload_n dX11_choose_50 rfl ?_
  refine ev_getS (q := 1) dX11_choose_51 fo_11_10 (by omega) lo_0 rfl (sh_0_0 hX (by omega)) (by decide) ?_
  refine ev_getS (q := 37) dX11_choose_54 fo_11_144 (by omega) lo_1 rfl (sh_1_2 hX (by omega)) (by decide) ?_
  refine ev_getS (q := 42) dX11_choose_57 fo_11_200 (by omega) lo_37 rfl (sh_37_5 hX (by omega)) (by decide) ?_
  refine ev_iload_n dX11_choose_60 rfl ?_
  refine ev_iald dX11_choose_61 (by omega) ly_42 rfl b0 ?_
  refine ev_istore_n dX11_choose_62 (by decide) ?_
  refine ev_aload_n dX11_choose_63 rfl ?_
  refine ev_getS (q := 1) dX11_choose_64 fo_11_10 (by omega) lo_0 rfl (sh_0_0 hX (by omega)) (by decide) ?_
  refine ev_getS (q := 37) dX11_choose_67 fo_11_144 (by omega) lo_1 rfl (sh_1_2 hX (by omega)) (by decide) ?_
  refine ev_getS (q := 42) dX11_choose_70 fo_11_200 (by omega) lo_37 rfl (sh_37_5 hX (by omega)) (by decide) ?_
  refine ev_iload_n dX11_choose_73 rfl ?_
  refine ev_iload_n dX11_choose_74 rfl ?_
  refine ev_iast dX11_choose_75 (by omega) ly_42 rfl b0 ?_
  have hX1 : Sh _ (lx_up X 42 v1 v2) := Sh.upA hX (by rw [ly_42]; exact (by decide : 0 < 2))
  refine ev_iload_n dX11_choose_76 rfl ?_
  exact ev_iret dX11_choose_77 rfl rfl hp
theorem bX11_choose_0_5 {g : GG} {d n : Nat} {post : Option Value → LX → Prop} {X : LX} (hd : 1 ≤ d) (hn : 146 ≤ n) (hX : Sh n X) {v1 : Int32} {v2 : Int32} (c0 : ¬ (0 ≤ v1 ∧ v1 < X 37 0)) (hp : post (some (.int (-1000000001))) X) : Ev g mX11_choose d n n post n 0 [some (.ref 0), some (.int v1), some (.int v2), none] [] X := by
  refine ev_aload_n dX11_choose_0 rfl ?_
  refine ev_getS (q := 1) dX11_choose_1 fo_11_10 (by omega) lo_0 rfl (sh_0_0 hX (by omega)) (by decide) ?_
  refine ev_getS (q := 37) dX11_choose_4 fo_11_144 (by omega) lo_1 rfl (sh_1_2 hX (by omega)) (by decide) ?_
  refine ev_iload_n dX11_choose_7 rfl ?_
  refine e_Vi (as := [.int v1]) (rest := []) dX11_choose_8 vX0_has ml_11_163 isX0_has seX0_has npX0_has (rc_37 (by omega)) (by decide) rfl (Nat.le_of_ble_eq_true rfl) (by omega) (f_X0_has (d := d - 1) (by omega) (by omega) hX c0) ?_
  refine ev_ifF (tgt := 17) dX11_choose_11 (by decide) (by show (0 : Int32) = 0; decide) ?_
  refine ev_ldc (v := (-1000000001)) dX11_choose_14 kw_11_61 ?_
  exact ev_iret dX11_choose_16 rfl rfl hp
theorem bX12_choose_0_0 {g : GG} {d n : Nat} {post : Option Value → LX → Prop} {X : LX} (hd : 2 ≤ d) (hn : 146 ≤ n) (hX : Sh n X) {v1 : Int32} {v2 : Int32} (c0 : 0 ≤ v1 ∧ v1 ≤ X 134 6 - 1) (c1 : ¬ v2 = (-1)) (c2 : ¬ v2 < 0) (c3 : v2 &&& ((X 134 8) ^^^ (-1)) = 0) (c4 : ¬ 2 < ones v2) (k : Ev g mX12_choose d n n post n 48 [some (.ref 133), some (.int v1), some (.int v2), some (.int 1), some (.int 0)] [] X) : Ev g mX12_choose d n n post n 0 [some (.ref 133), some (.int v1), some (.int v2), none, none] [] X := by
  refine ev_aload_n dX12_choose_0 rfl ?_
  refine ev_iload_n dX12_choose_1 rfl ?_
  refine e_Vi (as := [.int v1]) (rest := []) dX12_choose_2 vX12_isFamily ml_12_102 isX12_isFamily seX12_isFamily npX12_isFamily (rc_133 (by omega)) (by decide) rfl (Nat.le_of_ble_eq_true rfl) (by omega) (t_X12_isFamily (d := d - 1) (by omega) (by omega) hX c0) ?_
  refine ev_ifF (tgt := 43) dX12_choose_5 (by decide) (by show ¬ (1 : Int32) = 0; decide) ?_
  refine ev_iload_n dX12_choose_8 rfl ?_
  refine ev_iconst (v := (-1)) dX12_choose_9 ki_m1 ?_
  refine ev_icmpF (tgt := 39) dX12_choose_10 (by decide) c1 ?_
  refine ev_iload_n dX12_choose_13 rfl ?_
  refine ev_ifF (tgt := 43) dX12_choose_14 (by decide) c2 ?_
  refine ev_iload_n dX12_choose_17 rfl ?_
  refine ev_aload_n dX12_choose_18 rfl ?_
  refine ev_getS (q := 134) dX12_choose_19 fo_12_9 (by omega) lo_133 rfl (sh_133_0 hX (by omega)) (by decide) ?_
  refine ev_bipush (v := 8) dX12_choose_22 kb_8 ?_
  refine ev_iald dX12_choose_24 (by omega) ly_134 nIl_8 (by decide) ?_
  refine ev_iconst (v := (-1)) dX12_choose_25 ki_m1 ?_
  refine ev_ixor dX12_choose_26 ?_
  refine ev_iand dX12_choose_27 ?_
  refine ev_ifF (tgt := 43) dX12_choose_28 (by decide) c3 ?_
  refine ev_iload_n dX12_choose_31 rfl ?_
  refine e_Si (as := [.int v2]) (rest := []) dX12_choose_32 vX12_ones ml_12_109 stX12_ones npX12_ones (by decide) rfl (Nat.le_of_ble_eq_true rfl) (by omega) (k_X12_ones (d := d - 1) (by omega) (by omega) hX ) ?_
  refine ev_iconst (v := 2) dX12_choose_35 ki_2 ?_
  refine ev_icmpF (tgt := 43) dX12_choose_36 (by decide) c4 ?_
  refine ev_iconst (v := 1) dX12_choose_39 ki_1 ?_
  refine ev_goto (tgt := 44) dX12_choose_40 (by decide) ?_
  refine ev_istore_n dX12_choose_44 (by decide) ?_
  refine ev_iconst (v := 0) dX12_choose_45 ki_0 ?_
  refine ev_istore dX12_choose_46 (by decide) ?_
  exact k
theorem bX12_choose_0_1 {g : GG} {d n : Nat} {post : Option Value → LX → Prop} {X : LX} (hd : 2 ≤ d) (hn : 146 ≤ n) (hX : Sh n X) {v1 : Int32} {v2 : Int32} (c0 : 0 ≤ v1 ∧ v1 ≤ X 134 6 - 1) (c1 : ¬ v2 = (-1)) (c2 : ¬ v2 < 0) (c3 : v2 &&& ((X 134 8) ^^^ (-1)) = 0) (c4 : 2 < ones v2) (k : Ev g mX12_choose d n n post n 48 [some (.ref 133), some (.int v1), some (.int v2), some (.int 0), some (.int 0)] [] X) : Ev g mX12_choose d n n post n 0 [some (.ref 133), some (.int v1), some (.int v2), none, none] [] X := by
  refine ev_aload_n dX12_choose_0 rfl ?_
  refine ev_iload_n dX12_choose_1 rfl ?_
  refine e_Vi (as := [.int v1]) (rest := []) dX12_choose_2 vX12_isFamily ml_12_102 isX12_isFamily seX12_isFamily npX12_isFamily (rc_133 (by omega)) (by decide) rfl (Nat.le_of_ble_eq_true rfl) (by omega) (t_X12_isFamily (d := d - 1) (by omega) (by omega) hX c0) ?_
  refine ev_ifF (tgt := 43) dX12_choose_5 (by decide) (by show ¬ (1 : Int32) = 0; decide) ?_
  refine ev_iload_n dX12_choose_8 rfl ?_
  refine ev_iconst (v := (-1)) dX12_choose_9 ki_m1 ?_
  refine ev_icmpF (tgt := 39) dX12_choose_10 (by decide) c1 ?_
  refine ev_iload_n dX12_choose_13 rfl ?_
  refine ev_ifF (tgt := 43) dX12_choose_14 (by decide) c2 ?_
  refine ev_iload_n dX12_choose_17 rfl ?_
  refine ev_aload_n dX12_choose_18 rfl ?_
  refine ev_getS (q := 134) dX12_choose_19 fo_12_9 (by omega) lo_133 rfl (sh_133_0 hX (by omega)) (by decide) ?_
  refine ev_bipush (v := 8) dX12_choose_22 kb_8 ?_
  refine ev_iald dX12_choose_24 (by omega) ly_134 nIl_8 (by decide) ?_
  refine ev_iconst (v := (-1)) dX12_choose_25 ki_m1 ?_
  refine ev_ixor dX12_choose_26 ?_
  refine ev_iand dX12_choose_27 ?_
  refine ev_ifF (tgt := 43) dX12_choose_28 (by decide) c3 ?_
  refine ev_iload_n dX12_choose_31 rfl ?_
  refine e_Si (as := [.int v2]) (rest := []) dX12_choose_32 vX12_ones ml_12_109 stX12_ones npX12_ones (by decide) rfl (Nat.le_of_ble_eq_true rfl) (by omega) (k_X12_ones (d := d - 1) (by omega) (by omega) hX ) ?_
  refine ev_iconst (v := 2) dX12_choose_35 ki_2 ?_
  refine ev_icmpT (tgt := 43) dX12_choose_36 (by decide) c4 ?_
  refine ev_iconst (v := 0) dX12_choose_43 ki_0 ?_
  refine ev_istore_n dX12_choose_44 (by decide) ?_
  refine ev_iconst (v := 0) dX12_choose_45 ki_0 ?_
  refine ev_istore dX12_choose_46 (by decide) ?_
  exact k
theorem bX12_choose_0_2 {g : GG} {d n : Nat} {post : Option Value → LX → Prop} {X : LX} (hd : 2 ≤ d) (hn : 146 ≤ n) (hX : Sh n X) {v1 : Int32} {v2 : Int32} (c0 : 0 ≤ v1 ∧ v1 ≤ X 134 6 - 1) (c1 : ¬ v2 = (-1)) (c2 : ¬ v2 < 0) (c3 : ¬ v2 &&& ((X 134 8) ^^^ (-1)) = 0) (k : Ev g mX12_choose d n n post n 48 [some (.ref 133), some (.int v1), some (.int v2), some (.int 0), some (.int 0)] [] X) : Ev g mX12_choose d n n post n 0 [some (.ref 133), some (.int v1), some (.int v2), none, none] [] X := by
  refine ev_aload_n dX12_choose_0 rfl ?_
  refine ev_iload_n dX12_choose_1 rfl ?_
  refine e_Vi (as := [.int v1]) (rest := []) dX12_choose_2 vX12_isFamily ml_12_102 isX12_isFamily seX12_isFamily npX12_isFamily (rc_133 (by omega)) (by decide) rfl (Nat.le_of_ble_eq_true rfl) (by omega) (t_X12_isFamily (d := d - 1) (by omega) (by omega) hX c0) ?_
  refine ev_ifF (tgt := 43) dX12_choose_5 (by decide) (by show ¬ (1 : Int32) = 0; decide) ?_
  refine ev_iload_n dX12_choose_8 rfl ?_
  refine ev_iconst (v := (-1)) dX12_choose_9 ki_m1 ?_
  refine ev_icmpF (tgt := 39) dX12_choose_10 (by decide) c1 ?_
  refine ev_iload_n dX12_choose_13 rfl ?_
  refine ev_ifF (tgt := 43) dX12_choose_14 (by decide) c2 ?_
  refine ev_iload_n dX12_choose_17 rfl ?_
  refine ev_aload_n dX12_choose_18 rfl ?_
  refine ev_getS (q := 134) dX12_choose_19 fo_12_9 (by omega) lo_133 rfl (sh_133_0 hX (by omega)) (by decide) ?_
  refine ev_bipush (v := 8) dX12_choose_22 kb_8 ?_
  refine ev_iald dX12_choose_24 (by omega) ly_134 nIl_8 (by decide) ?_
  refine ev_iconst (v := (-1)) dX12_choose_25 ki_m1 ?_
  refine ev_ixor dX12_choose_26 ?_
  refine ev_iand dX12_choose_27 ?_
  refine ev_ifT (tgt := 43) dX12_choose_28 (by decide) c3 ?_
  refine ev_iconst (v := 0) dX12_choose_43 ki_0 ?_
  refine ev_istore_n dX12_choose_44 (by decide) ?_
  refine ev_iconst (v := 0) dX12_choose_45 ki_0 ?_
  refine ev_istore dX12_choose_46 (by decide) ?_
  exact k
theorem bX12_choose_0_3 {g : GG} {d n : Nat} {post : Option Value → LX → Prop} {X : LX} (hd : 2 ≤ d) (hn : 146 ≤ n) (hX : Sh n X) {v1 : Int32} {v2 : Int32} (c0 : 0 ≤ v1 ∧ v1 ≤ X 134 6 - 1) (c1 : ¬ v2 = (-1)) (c2 : v2 < 0) (k : Ev g mX12_choose d n n post n 48 [some (.ref 133), some (.int v1), some (.int v2), some (.int 0), some (.int 0)] [] X) : Ev g mX12_choose d n n post n 0 [some (.ref 133), some (.int v1), some (.int v2), none, none] [] X := by
  refine ev_aload_n dX12_choose_0 rfl ?_
  refine ev_iload_n dX12_choose_1 rfl ?_
  refine e_Vi (as := [.int v1]) (rest := []) dX12_choose_2 vX12_isFamily ml_12_102 isX12_isFamily seX12_isFamily npX12_isFamily (rc_133 (by omega)) (by decide) rfl (Nat.le_of_ble_eq_true rfl) (by omega) (t_X12_isFamily (d := d - 1) (by omega) (by omega) hX c0) ?_
  refine ev_ifF (tgt := 43) dX12_choose_5 (by decide) (by show ¬ (1 : Int32) = 0; decide) ?_
  refine ev_iload_n dX12_choose_8 rfl ?_
  refine ev_iconst (v := (-1)) dX12_choose_9 ki_m1 ?_
  refine ev_icmpF (tgt := 39) dX12_choose_10 (by decide) c1 ?_
  refine ev_iload_n dX12_choose_13 rfl ?_
  refine ev_ifT (tgt := 43) dX12_choose_14 (by decide) c2 ?_
  refine ev_iconst (v := 0) dX12_choose_43 ki_0 ?_
  refine ev_istore_n dX12_choose_44 (by decide) ?_
  refine ev_iconst (v := 0) dX12_choose_45 ki_0 ?_
  refine ev_istore dX12_choose_46 (by decide) ?_
  exact k
theorem bX12_choose_0_4 {g : GG} {d n : Nat} {post : Option Value → LX → Prop} {X : LX} (hd : 2 ≤ d) (hn : 146 ≤ n) (hX : Sh n X) {v1 : Int32} {v2 : Int32} (c0 : 0 ≤ v1 ∧ v1 ≤ X 134 6 - 1) (c1 : v2 = (-1)) (k : Ev g mX12_choose d n n post n 48 [some (.ref 133), some (.int v1), some (.int v2), some (.int 1), some (.int 0)] [] X) : Ev g mX12_choose d n n post n 0 [some (.ref 133), some (.int v1), some (.int v2), none, none] [] X := by
  refine ev_aload_n dX12_choose_0 rfl ?_
  refine ev_iload_n dX12_choose_1 rfl ?_
  refine e_Vi (as := [.int v1]) (rest := []) dX12_choose_2 vX12_isFamily ml_12_102 isX12_isFamily seX12_isFamily npX12_isFamily (rc_133 (by omega)) (by decide) rfl (Nat.le_of_ble_eq_true rfl) (by omega) (t_X12_isFamily (d := d - 1) (by omega) (by omega) hX c0) ?_
  refine ev_ifF (tgt := 43) dX12_choose_5 (by decide) (by show ¬ (1 : Int32) = 0; decide) ?_
  refine ev_iload_n dX12_choose_8 rfl ?_
  refine ev_iconst (v := (-1)) dX12_choose_9 ki_m1 ?_
  refine ev_icmpT (tgt := 39) dX12_choose_10 (by decide) c1 ?_
  refine ev_iconst (v := 1) dX12_choose_39 ki_1 ?_
  refine ev_goto (tgt := 44) dX12_choose_40 (by decide) ?_
  refine ev_istore_n dX12_choose_44 (by decide) ?_
  refine ev_iconst (v := 0) dX12_choose_45 ki_0 ?_
  refine ev_istore dX12_choose_46 (by decide) ?_
  exact k
theorem bX12_choose_0_5 {g : GG} {d n : Nat} {post : Option Value → LX → Prop} {X : LX} (hd : 2 ≤ d) (hn : 146 ≤ n) (hX : Sh n X) {v1 : Int32} {v2 : Int32} (c0 : ¬ (0 ≤ v1 ∧ v1 ≤ X 134 6 - 1)) (k : Ev g mX12_choose d n n post n 48 [some (.ref 133), some (.int v1), some (.int v2), some (.int 0), some (.int 0)] [] X) : Ev g mX12_choose d n n post n 0 [some (.ref 133), some (.int v1), some (.int v2), none, none] [] X := by
  refine ev_aload_n dX12_choose_0 rfl ?_
  refine ev_iload_n dX12_choose_1 rfl ?_
  refine e_Vi (as := [.int v1]) (rest := []) dX12_choose_2 vX12_isFamily ml_12_102 isX12_isFamily seX12_isFamily npX12_isFamily (rc_133 (by omega)) (by decide) rfl (Nat.le_of_ble_eq_true rfl) (by omega) (f_X12_isFamily (d := d - 1) (by omega) (by omega) hX c0) ?_
  refine ev_ifT (tgt := 43) dX12_choose_5 (by decide) (by show (0 : Int32) = 0; decide) ?_
  refine ev_iconst (v := 0) dX12_choose_43 ki_0 ?_
  refine ev_istore_n dX12_choose_44 (by decide) ?_
  refine ev_iconst (v := 0) dX12_choose_45 ki_0 ?_
  refine ev_istore dX12_choose_46 (by decide) ?_
  exact k
theorem bX12_choose_48_0 {g : GG} {d n : Nat} {post : Option Value → LX → Prop} {X : LX} (hd : 3 ≤ d) (hn : 146 ≤ n) (hX : Sh n X) {v1 : Nat} {v2 : Int32} {v3 : Int32} {v4 : Nat} (c0 : ¬ 10 ≤ nI v4) (c1 : ¬ v3 = 0) (c2 : ¬ v2 < 0) (c3 : (v2 >>> ((nI v4) &&& 31)) &&& 1 = 1) (c4 : v1 < 12) (c5 : v4 < 10) (c6 : okM X v4) (c7 : mMay X v1 v4) (k : Ev g mX12_choose d n n post n 48 [some (.ref 133), some (.int (nI v1)), some (.int v2), some (.int 1), some (.int ((nI v4) + 1))] [] X) : Ev g mX12_choose d n n post n 48 [some (.ref 133), some (.int (nI v1)), some (.int v2), some (.int v3), some (.int (nI v4))] [] X := by
  refine ev_iload dX12_choose_48 rfl ?_
  refine ev_bipush (v := 10) dX12_choose_50 kb_10 ?_
  refine ev_icmpF (tgt := 94) dX12_choose_52 (by decide) c0 ?_
  refine ev_iload_n dX12_choose_55 rfl ?_
  refine ev_ifF (tgt := 94) dX12_choose_56 (by decide) c1 ?_
  refine ev_iload_n dX12_choose_59 rfl ?_
  refine ev_ifF (tgt := 94) dX12_choose_60 (by decide) c2 ?_
  refine ev_iload_n dX12_choose_63 rfl ?_
  refine ev_iload dX12_choose_64 rfl ?_
  refine e_Si (as := [.int v2, .int (nI v4)]) (rest := []) dX12_choose_66 vX12_has ml_12_76 stX12_has npX12_has (by decide) rfl (Nat.le_of_ble_eq_true rfl) (by omega) (t_X12_has (d := d - 1) (by omega) (by omega) hX c3) ?_
  refine ev_ifF (tgt := 82) dX12_choose_69 (by decide) (by show ¬ (1 : Int32) = 0; decide) ?_
  refine ev_aload_n dX12_choose_72 rfl ?_
  refine ev_iload_n dX12_choose_73 rfl ?_
  refine ev_iload dX12_choose_74 rfl ?_
  refine e_Vi (as := [.int (nI v1), .int (nI v4)]) (rest := []) dX12_choose_76 vX12_mayEat ml_12_106 isX12_mayEat seX12_mayEat npX12_mayEat (rc_133 (by omega)) (by decide) rfl (Nat.le_of_ble_eq_true rfl) (by omega) (t_X12_mayEat (d := d - 1) (by omega) (by omega) hX c4 c5 c6 c7) ?_
  refine ev_ifF (tgt := 86) dX12_choose_79 (by decide) (by show ¬ (1 : Int32) = 0; decide) ?_
  refine ev_iconst (v := 1) dX12_choose_82 ki_1 ?_
  refine ev_goto (tgt := 87) dX12_choose_83 (by decide) ?_
  refine ev_istore_n dX12_choose_87 (by decide) ?_
  refine ev_iinc (v := (nI v4) + 1) dX12_choose_88 rfl (by rw [show Int32.ofInt 1 = 1 from ki_1]) (by decide) ?_
  refine ev_goto (tgt := 48) dX12_choose_91 (by decide) ?_
  exact k
theorem bX12_choose_48_1 {g : GG} {d n : Nat} {post : Option Value → LX → Prop} {X : LX} (hd : 3 ≤ d) (hn : 146 ≤ n) (hX : Sh n X) {v1 : Nat} {v2 : Int32} {v3 : Int32} {v4 : Nat} (c0 : ¬ 10 ≤ nI v4) (c1 : ¬ v3 = 0) (c2 : ¬ v2 < 0) (c3 : (v2 >>> ((nI v4) &&& 31)) &&& 1 = 1) (c4 : v1 < 12) (c5 : v4 < 10) (c6 : okM X v4) (c7 : ¬ (mMay X v1 v4)) (k : Ev g mX12_choose d n n post n 48 [some (.ref 133), some (.int (nI v1)), some (.int v2), some (.int 0), some (.int ((nI v4) + 1))] [] X) : Ev g mX12_choose d n n post n 48 [some (.ref 133), some (.int (nI v1)), some (.int v2), some (.int v3), some (.int (nI v4))] [] X := by
  refine ev_iload dX12_choose_48 rfl ?_
  refine ev_bipush (v := 10) dX12_choose_50 kb_10 ?_
  refine ev_icmpF (tgt := 94) dX12_choose_52 (by decide) c0 ?_
  refine ev_iload_n dX12_choose_55 rfl ?_
  refine ev_ifF (tgt := 94) dX12_choose_56 (by decide) c1 ?_
  refine ev_iload_n dX12_choose_59 rfl ?_
  refine ev_ifF (tgt := 94) dX12_choose_60 (by decide) c2 ?_
  refine ev_iload_n dX12_choose_63 rfl ?_
  refine ev_iload dX12_choose_64 rfl ?_
  refine e_Si (as := [.int v2, .int (nI v4)]) (rest := []) dX12_choose_66 vX12_has ml_12_76 stX12_has npX12_has (by decide) rfl (Nat.le_of_ble_eq_true rfl) (by omega) (t_X12_has (d := d - 1) (by omega) (by omega) hX c3) ?_
  refine ev_ifF (tgt := 82) dX12_choose_69 (by decide) (by show ¬ (1 : Int32) = 0; decide) ?_
  refine ev_aload_n dX12_choose_72 rfl ?_
  refine ev_iload_n dX12_choose_73 rfl ?_
  refine ev_iload dX12_choose_74 rfl ?_
  refine e_Vi (as := [.int (nI v1), .int (nI v4)]) (rest := []) dX12_choose_76 vX12_mayEat ml_12_106 isX12_mayEat seX12_mayEat npX12_mayEat (rc_133 (by omega)) (by decide) rfl (Nat.le_of_ble_eq_true rfl) (by omega) (f_X12_mayEat (d := d - 1) (by omega) (by omega) hX c4 c5 c6 c7) ?_
  refine ev_ifT (tgt := 86) dX12_choose_79 (by decide) (by show (0 : Int32) = 0; decide) ?_
  refine ev_iconst (v := 0) dX12_choose_86 ki_0 ?_
  refine ev_istore_n dX12_choose_87 (by decide) ?_
  refine ev_iinc (v := (nI v4) + 1) dX12_choose_88 rfl (by rw [show Int32.ofInt 1 = 1 from ki_1]) (by decide) ?_
  refine ev_goto (tgt := 48) dX12_choose_91 (by decide) ?_
  exact k
theorem bX12_choose_48_2 {g : GG} {d n : Nat} {post : Option Value → LX → Prop} {X : LX} (hd : 1 ≤ d) (hn : 146 ≤ n) (hX : Sh n X) {v1 : Int32} {v2 : Int32} {v3 : Int32} {v4 : Int32} (c0 : ¬ 10 ≤ v4) (c1 : ¬ v3 = 0) (c2 : ¬ v2 < 0) (c3 : ¬ ((v2 >>> (v4 &&& 31)) &&& 1 = 1)) (k : Ev g mX12_choose d n n post n 48 [some (.ref 133), some (.int v1), some (.int v2), some (.int 1), some (.int (v4 + 1))] [] X) : Ev g mX12_choose d n n post n 48 [some (.ref 133), some (.int v1), some (.int v2), some (.int v3), some (.int v4)] [] X := by
  refine ev_iload dX12_choose_48 rfl ?_
  refine ev_bipush (v := 10) dX12_choose_50 kb_10 ?_
  refine ev_icmpF (tgt := 94) dX12_choose_52 (by decide) c0 ?_
  refine ev_iload_n dX12_choose_55 rfl ?_
  refine ev_ifF (tgt := 94) dX12_choose_56 (by decide) c1 ?_
  refine ev_iload_n dX12_choose_59 rfl ?_
  refine ev_ifF (tgt := 94) dX12_choose_60 (by decide) c2 ?_
  refine ev_iload_n dX12_choose_63 rfl ?_
  refine ev_iload dX12_choose_64 rfl ?_
  refine e_Si (as := [.int v2, .int v4]) (rest := []) dX12_choose_66 vX12_has ml_12_76 stX12_has npX12_has (by decide) rfl (Nat.le_of_ble_eq_true rfl) (by omega) (f_X12_has (d := d - 1) (by omega) (by omega) hX c3) ?_
  refine ev_ifT (tgt := 82) dX12_choose_69 (by decide) (by show (0 : Int32) = 0; decide) ?_
  refine ev_iconst (v := 1) dX12_choose_82 ki_1 ?_
  refine ev_goto (tgt := 87) dX12_choose_83 (by decide) ?_
  refine ev_istore_n dX12_choose_87 (by decide) ?_
  refine ev_iinc (v := v4 + 1) dX12_choose_88 rfl (by rw [show Int32.ofInt 1 = 1 from ki_1]) (by decide) ?_
  refine ev_goto (tgt := 48) dX12_choose_91 (by decide) ?_
  exact k
theorem bX12_choose_48_3 {g : GG} {d n : Nat} {post : Option Value → LX → Prop} {X : LX} (hn : 146 ≤ n) (hX : Sh n X) {v1 : Int32} {v2 : Int32} {v3 : Int32} {v4 : Int32} (c0 : ¬ 10 ≤ v4) (c1 : ¬ v3 = 0) (c2 : v2 < 0) (c3 : v3 = 0) (hp : post (some (.int (-1000000001))) X) : Ev g mX12_choose d n n post n 48 [some (.ref 133), some (.int v1), some (.int v2), some (.int v3), some (.int v4)] [] X := by
  refine ev_iload dX12_choose_48 rfl ?_
  refine ev_bipush (v := 10) dX12_choose_50 kb_10 ?_
  refine ev_icmpF (tgt := 94) dX12_choose_52 (by decide) c0 ?_
  refine ev_iload_n dX12_choose_55 rfl ?_
  refine ev_ifF (tgt := 94) dX12_choose_56 (by decide) c1 ?_
  refine ev_iload_n dX12_choose_59 rfl ?_
  refine ev_ifT (tgt := 94) dX12_choose_60 (by decide) c2 ?_
  refine ev_iload_n dX12_choose_94 rfl ?_
  refine ev_ifF (tgt := 101) dX12_choose_95 (by decide) c3 ?_
  refine ev_ldc (v := (-1000000001)) dX12_choose_98 kw_12_57 ?_
  exact ev_iret dX12_choose_100 rfl rfl hp
theorem bX12_choose_48_4 {g : GG} {d n : Nat} {post : Option Value → LX → Prop} {X : LX} (hn : 146 ≤ n) (hX : Sh n X) {v1 : Int32} {v2 : Int32} {v3 : Int32} {v4 : Int32} (c0 : ¬ 10 ≤ v4) (c1 : ¬ v3 = 0) (c2 : v2 < 0) (c3 : ¬ v3 = 0) (c4 : X 134 3 = 1) (hp : post (some (.int (-1000000002))) X) : Ev g mX12_choose d n n post n 48 [some (.ref 133), some (.int v1), some (.int v2), some (.int v3), some (.int v4)] [] X := by
  refine ev_iload dX12_choose_48 rfl ?_
  refine ev_bipush (v := 10) dX12_choose_50 kb_10 ?_
  refine ev_icmpF (tgt := 94) dX12_choose_52 (by decide) c0 ?_
  refine ev_iload_n dX12_choose_55 rfl ?_
  refine ev_ifF (tgt := 94) dX12_choose_56 (by decide) c1 ?_
  refine ev_iload_n dX12_choose_59 rfl ?_
  refine ev_ifT (tgt := 94) dX12_choose_60 (by decide) c2 ?_
  refine ev_iload_n dX12_choose_94 rfl ?_
  refine ev_ifT (tgt := 101) dX12_choose_95 (by decide) c3 ?_
  refine ev_aload_n dX12_choose_101 rfl ?_
  refine ev_getS (q := 134) dX12_choose_102 fo_12_9 (by omega) lo_133 rfl (sh_133_0 hX (by omega)) (by decide) ?_
  refine ev_iconst (v := 3) dX12_choose_105 ki_3 ?_
  refine ev_iald dX12_choose_106 (by omega) ly_134 nIl_3 (by decide) ?_
  refine ev_iconst (v := 1) dX12_choose_107 ki_1 ?_
  refine ev_icmpF (tgt := 114) dX12_choose_108 (by decide) c4 ?_
  refine ev_ldc (v := (-1000000002)) dX12_choose_111 kw_12_80 ?_
  exact ev_iret dX12_choose_113 rfl rfl hp
theorem bX12_choose_48_5 {g : GG} {d n : Nat} {post : Option Value → LX → Prop} {X : LX} (hd : 1 ≤ d) (hn : 146 ≤ n) (hX : Sh n X) {v1 : Nat} {v2 : Int32} {v3 : Int32} {v4 : Int32} (c0 : ¬ 10 ≤ v4) (c1 : ¬ v3 = 0) (c2 : v2 < 0) (c3 : ¬ v3 = 0) (c4 : ¬ X 134 3 = 1) (b0 : ((448 + (15 * v1)) + 4) < 2156) (hp : post (some (.int (X 134 ((448 + (15 * v1)) + 4)))) (lx_up X 134 ((448 + (15 * v1)) + 4) v2)) : Ev g mX12_choose d n n post n 48 [some (.ref 133), some (.int (nI v1)), some (.int v2), some (.int v3), some (.int v4)] [] X := by
  refine ev_iload dX12_choose_48 rfl ?_
  refine ev_bipush (v := 10) dX12_choose_50 kb_10 ?_
  refine ev_icmpF (tgt := 94) dX12_choose_52 (by decide) c0 ?_
  refine ev_iload_n dX12_choose_55 rfl ?_
  refine ev_ifF (tgt := 94) dX12_choose_56 (by decide) c1 ?_
  refine ev_iload_n dX12_choose_59 rfl ?_
  refine ev_ifT (tgt := 94) dX12_choose_60 (by decide) c2 ?_
  refine ev_iload_n dX12_choose_94 rfl ?_
  refine ev_ifT (tgt := 101) dX12_choose_95 (by decide) c3 ?_
  refine ev_aload_n dX12_choose_101 rfl ?_
  refine ev_getS (q := 134) dX12_choose_102 fo_12_9 (by omega) lo_133 rfl (sh_133_0 hX (by omega)) (by decide) ?_
  refine ev_iconst (v := 3) dX12_choose_105 ki_3 ?_
  refine ev_iald dX12_choose_106 (by omega) ly_134 nIl_3 (by decide) ?_
  refine ev_iconst (v := 1) dX12_choose_107 ki_1 ?_
  refine ev_icmpT (tgt := 114) dX12_choose_108 (by decide) c4 ?_
  refine ev_aload_n dX12_choose_114 rfl ?_
  refine ev_getS (q := 134) dX12_choose_115 fo_12_9 (by omega) lo_133 rfl (sh_133_0 hX (by omega)) (by decide) ?_
  refine ev_iload_n dX12_choose_118 rfl ?_
  refine ev_iconst (v := 4) dX12_choose_119 ki_4 ?_
  refine e_Si (as := [.int (nI v1), .int 4]) (rest := [.ref 134]) dX12_choose_120 vX12_ofFamily ml_12_99 stX12_ofFamily npX12_ofFamily (by decide) rfl (Nat.le_of_ble_eq_true rfl) (by omega) (c_X12_ofFamily (d := d - 1) (by omega) (by omega) hX ) ?_
  refine ev_iald dX12_choose_123 (by omega) ly_134 (by show (nI 448 + (nI 15 * nI v1)) + nI 4 = nI ((448 + (15 * v1)) + 4); simp only [pk_mul, nI_add]) b0 ?_
  refine ev_istore dX12_choose_124 (by decide) ?_
  refine ev_aload_n dX12_choose_126 rfl ?_
  refine ev_getS (q := 134) dX12_choose_127 fo_12_9 (by omega) lo_133 rfl (sh_133_0 hX (by omega)) (by decide) ?_
  refine ev_iload_n dX12_choose_130 rfl ?_
  refine ev_iconst (v := 4) dX12_choose_131 ki_4 ?_
  refine e_Si (as := [.int (nI v1), .int 4]) (rest := [.ref 134]) dX12_choose_132 vX12_ofFamily ml_12_99 stX12_ofFamily npX12_ofFamily (by decide) rfl (Nat.le_of_ble_eq_true rfl) (by omega) (c_X12_ofFamily (d := d - 1) (by omega) (by omega) hX ) ?_
  refine ev_iload_n dX12_choose_135 rfl ?_
  refine ev_iast dX12_choose_136 (by omega) ly_134 (by show (nI 448 + (nI 15 * nI v1)) + nI 4 = nI ((448 + (15 * v1)) + 4); simp only [pk_mul, nI_add]) b0 ?_
  have hX1 : Sh _ (lx_up X 134 ((448 + (15 * v1)) + 4) v2) := Sh.upA hX (by rw [ly_134]; exact (by decide : 0 < 2))
  refine ev_iload dX12_choose_137 rfl ?_
  exact ev_iret dX12_choose_139 rfl rfl hp
theorem bX12_choose_48_6 {g : GG} {d n : Nat} {post : Option Value → LX → Prop} {X : LX} (hn : 146 ≤ n) (hX : Sh n X) {v1 : Int32} {v2 : Int32} {v3 : Int32} {v4 : Int32} (c0 : ¬ 10 ≤ v4) (c1 : v3 = 0) (c2 : v3 = 0) (hp : post (some (.int (-1000000001))) X) : Ev g mX12_choose d n n post n 48 [some (.ref 133), some (.int v1), some (.int v2), some (.int v3), some (.int v4)] [] X := by
  refine ev_iload dX12_choose_48 rfl ?_
  refine ev_bipush (v := 10) dX12_choose_50 kb_10 ?_
  refine ev_icmpF (tgt := 94) dX12_choose_52 (by decide) c0 ?_
  refine ev_iload_n dX12_choose_55 rfl ?_
  refine ev_ifT (tgt := 94) dX12_choose_56 (by decide) c1 ?_
  refine ev_iload_n dX12_choose_94 rfl ?_
  refine ev_ifF (tgt := 101) dX12_choose_95 (by decide) c2 ?_
  refine ev_ldc (v := (-1000000001)) dX12_choose_98 kw_12_57 ?_
  exact ev_iret dX12_choose_100 rfl rfl hp
theorem bX12_choose_48_7 {g : GG} {d n : Nat} {post : Option Value → LX → Prop} {X : LX} (hn : 146 ≤ n) (hX : Sh n X) {v1 : Int32} {v2 : Int32} {v3 : Int32} {v4 : Int32} (c0 : ¬ 10 ≤ v4) (c1 : v3 = 0) (c2 : ¬ v3 = 0) (c3 : X 134 3 = 1) (hp : post (some (.int (-1000000002))) X) : Ev g mX12_choose d n n post n 48 [some (.ref 133), some (.int v1), some (.int v2), some (.int v3), some (.int v4)] [] X := by
  refine ev_iload dX12_choose_48 rfl ?_
  refine ev_bipush (v := 10) dX12_choose_50 kb_10 ?_
  refine ev_icmpF (tgt := 94) dX12_choose_52 (by decide) c0 ?_
  refine ev_iload_n dX12_choose_55 rfl ?_
  refine ev_ifT (tgt := 94) dX12_choose_56 (by decide) c1 ?_
  refine ev_iload_n dX12_choose_94 rfl ?_
  refine ev_ifT (tgt := 101) dX12_choose_95 (by decide) c2 ?_
  refine ev_aload_n dX12_choose_101 rfl ?_
  refine ev_getS (q := 134) dX12_choose_102 fo_12_9 (by omega) lo_133 rfl (sh_133_0 hX (by omega)) (by decide) ?_
  refine ev_iconst (v := 3) dX12_choose_105 ki_3 ?_
  refine ev_iald dX12_choose_106 (by omega) ly_134 nIl_3 (by decide) ?_
  refine ev_iconst (v := 1) dX12_choose_107 ki_1 ?_
  refine ev_icmpF (tgt := 114) dX12_choose_108 (by decide) c3 ?_
  refine ev_ldc (v := (-1000000002)) dX12_choose_111 kw_12_80 ?_
  exact ev_iret dX12_choose_113 rfl rfl hp
theorem bX12_choose_48_8 {g : GG} {d n : Nat} {post : Option Value → LX → Prop} {X : LX} (hd : 1 ≤ d) (hn : 146 ≤ n) (hX : Sh n X) {v1 : Nat} {v2 : Int32} {v3 : Int32} {v4 : Int32} (c0 : ¬ 10 ≤ v4) (c1 : v3 = 0) (c2 : ¬ v3 = 0) (c3 : ¬ X 134 3 = 1) (b0 : ((448 + (15 * v1)) + 4) < 2156) (hp : post (some (.int (X 134 ((448 + (15 * v1)) + 4)))) (lx_up X 134 ((448 + (15 * v1)) + 4) v2)) : Ev g mX12_choose d n n post n 48 [some (.ref 133), some (.int (nI v1)), some (.int v2), some (.int v3), some (.int v4)] [] X := by
  refine ev_iload dX12_choose_48 rfl ?_
  refine ev_bipush (v := 10) dX12_choose_50 kb_10 ?_
  refine ev_icmpF (tgt := 94) dX12_choose_52 (by decide) c0 ?_
  refine ev_iload_n dX12_choose_55 rfl ?_
  refine ev_ifT (tgt := 94) dX12_choose_56 (by decide) c1 ?_
  refine ev_iload_n dX12_choose_94 rfl ?_
  refine ev_ifT (tgt := 101) dX12_choose_95 (by decide) c2 ?_
  refine ev_aload_n dX12_choose_101 rfl ?_
  refine ev_getS (q := 134) dX12_choose_102 fo_12_9 (by omega) lo_133 rfl (sh_133_0 hX (by omega)) (by decide) ?_
  refine ev_iconst (v := 3) dX12_choose_105 ki_3 ?_
  refine ev_iald dX12_choose_106 (by omega) ly_134 nIl_3 (by decide) ?_
  refine ev_iconst (v := 1) dX12_choose_107 ki_1 ?_
  refine ev_icmpT (tgt := 114) dX12_choose_108 (by decide) c3 ?_
  refine ev_aload_n dX12_choose_114 rfl ?_
  refine ev_getS (q := 134) dX12_choose_115 fo_12_9 (by omega) lo_133 rfl (sh_133_0 hX (by omega)) (by decide) ?_
  refine ev_iload_n dX12_choose_118 rfl ?_
  refine ev_iconst (v := 4) dX12_choose_119 ki_4 ?_
  refine e_Si (as := [.int (nI v1), .int 4]) (rest := [.ref 134]) dX12_choose_120 vX12_ofFamily ml_12_99 stX12_ofFamily npX12_ofFamily (by decide) rfl (Nat.le_of_ble_eq_true rfl) (by omega) (c_X12_ofFamily (d := d - 1) (by omega) (by omega) hX ) ?_
  refine ev_iald dX12_choose_123 (by omega) ly_134 (by show (nI 448 + (nI 15 * nI v1)) + nI 4 = nI ((448 + (15 * v1)) + 4); simp only [pk_mul, nI_add]) b0 ?_
  refine ev_istore dX12_choose_124 (by decide) ?_
  refine ev_aload_n dX12_choose_126 rfl ?_
  refine ev_getS (q := 134) dX12_choose_127 fo_12_9 (by omega) lo_133 rfl (sh_133_0 hX (by omega)) (by decide) ?_
  refine ev_iload_n dX12_choose_130 rfl ?_
  refine ev_iconst (v := 4) dX12_choose_131 ki_4 ?_
  refine e_Si (as := [.int (nI v1), .int 4]) (rest := [.ref 134]) dX12_choose_132 vX12_ofFamily ml_12_99 stX12_ofFamily npX12_ofFamily (by decide) rfl (Nat.le_of_ble_eq_true rfl) (by omega) (c_X12_ofFamily (d := d - 1) (by omega) (by omega) hX ) ?_
  refine ev_iload_n dX12_choose_135 rfl ?_
  refine ev_iast dX12_choose_136 (by omega) ly_134 (by show (nI 448 + (nI 15 * nI v1)) + nI 4 = nI ((448 + (15 * v1)) + 4); simp only [pk_mul, nI_add]) b0 ?_
  have hX1 : Sh _ (lx_up X 134 ((448 + (15 * v1)) + 4) v2) := Sh.upA hX (by rw [ly_134]; exact (by decide : 0 < 2))
  refine ev_iload dX12_choose_137 rfl ?_
  exact ev_iret dX12_choose_139 rfl rfl hp
theorem bX12_choose_48_9 {g : GG} {d n : Nat} {post : Option Value → LX → Prop} {X : LX} (hn : 146 ≤ n) (hX : Sh n X) {v1 : Int32} {v2 : Int32} {v3 : Int32} {v4 : Int32} (c0 : 10 ≤ v4) (c1 : v3 = 0) (hp : post (some (.int (-1000000001))) X) : Ev g mX12_choose d n n post n 48 [some (.ref 133), some (.int v1), some (.int v2), some (.int v3), some (.int v4)] [] X := by
  refine ev_iload dX12_choose_48 rfl ?_
  refine ev_bipush (v := 10) dX12_choose_50 kb_10 ?_
  refine ev_icmpT (tgt := 94) dX12_choose_52 (by decide) c0 ?_
  refine ev_iload_n dX12_choose_94 rfl ?_
  refine ev_ifF (tgt := 101) dX12_choose_95 (by decide) c1 ?_
  refine ev_ldc (v := (-1000000001)) dX12_choose_98 kw_12_57 ?_
  exact ev_iret dX12_choose_100 rfl rfl hp
theorem bX12_choose_48_10 {g : GG} {d n : Nat} {post : Option Value → LX → Prop} {X : LX} (hn : 146 ≤ n) (hX : Sh n X) {v1 : Int32} {v2 : Int32} {v3 : Int32} {v4 : Int32} (c0 : 10 ≤ v4) (c1 : ¬ v3 = 0) (c2 : X 134 3 = 1) (hp : post (some (.int (-1000000002))) X) : Ev g mX12_choose d n n post n 48 [some (.ref 133), some (.int v1), some (.int v2), some (.int v3), some (.int v4)] [] X := by
  refine ev_iload dX12_choose_48 rfl ?_
  refine ev_bipush (v := 10) dX12_choose_50 kb_10 ?_
  refine ev_icmpT (tgt := 94) dX12_choose_52 (by decide) c0 ?_
  refine ev_iload_n dX12_choose_94 rfl ?_
  refine ev_ifT (tgt := 101) dX12_choose_95 (by decide) c1 ?_
  refine ev_aload_n dX12_choose_101 rfl ?_
  refine ev_getS (q := 134) dX12_choose_102 fo_12_9 (by omega) lo_133 rfl (sh_133_0 hX (by omega)) (by decide) ?_
  refine ev_iconst (v := 3) dX12_choose_105 ki_3 ?_
  refine ev_iald dX12_choose_106 (by omega) ly_134 nIl_3 (by decide) ?_
  refine ev_iconst (v := 1) dX12_choose_107 ki_1 ?_
  refine ev_icmpF (tgt := 114) dX12_choose_108 (by decide) c2 ?_
  refine ev_ldc (v := (-1000000002)) dX12_choose_111 kw_12_80 ?_
  exact ev_iret dX12_choose_113 rfl rfl hp
theorem bX12_choose_48_11 {g : GG} {d n : Nat} {post : Option Value → LX → Prop} {X : LX} (hd : 1 ≤ d) (hn : 146 ≤ n) (hX : Sh n X) {v1 : Nat} {v2 : Int32} {v3 : Int32} {v4 : Int32} (c0 : 10 ≤ v4) (c1 : ¬ v3 = 0) (c2 : ¬ X 134 3 = 1) (b0 : ((448 + (15 * v1)) + 4) < 2156) (hp : post (some (.int (X 134 ((448 + (15 * v1)) + 4)))) (lx_up X 134 ((448 + (15 * v1)) + 4) v2)) : Ev g mX12_choose d n n post n 48 [some (.ref 133), some (.int (nI v1)), some (.int v2), some (.int v3), some (.int v4)] [] X := by
  refine ev_iload dX12_choose_48 rfl ?_
  refine ev_bipush (v := 10) dX12_choose_50 kb_10 ?_
  refine ev_icmpT (tgt := 94) dX12_choose_52 (by decide) c0 ?_
  refine ev_iload_n dX12_choose_94 rfl ?_
  refine ev_ifT (tgt := 101) dX12_choose_95 (by decide) c1 ?_
  refine ev_aload_n dX12_choose_101 rfl ?_
  refine ev_getS (q := 134) dX12_choose_102 fo_12_9 (by omega) lo_133 rfl (sh_133_0 hX (by omega)) (by decide) ?_
  refine ev_iconst (v := 3) dX12_choose_105 ki_3 ?_
  refine ev_iald dX12_choose_106 (by omega) ly_134 nIl_3 (by decide) ?_
  refine ev_iconst (v := 1) dX12_choose_107 ki_1 ?_
  refine ev_icmpT (tgt := 114) dX12_choose_108 (by decide) c2 ?_
  refine ev_aload_n dX12_choose_114 rfl ?_
  refine ev_getS (q := 134) dX12_choose_115 fo_12_9 (by omega) lo_133 rfl (sh_133_0 hX (by omega)) (by decide) ?_
  refine ev_iload_n dX12_choose_118 rfl ?_
  refine ev_iconst (v := 4) dX12_choose_119 ki_4 ?_
  refine e_Si (as := [.int (nI v1), .int 4]) (rest := [.ref 134]) dX12_choose_120 vX12_ofFamily ml_12_99 stX12_ofFamily npX12_ofFamily (by decide) rfl (Nat.le_of_ble_eq_true rfl) (by omega) (c_X12_ofFamily (d := d - 1) (by omega) (by omega) hX ) ?_
  refine ev_iald dX12_choose_123 (by omega) ly_134 (by show (nI 448 + (nI 15 * nI v1)) + nI 4 = nI ((448 + (15 * v1)) + 4); simp only [pk_mul, nI_add]) b0 ?_
  refine ev_istore dX12_choose_124 (by decide) ?_
  refine ev_aload_n dX12_choose_126 rfl ?_
  refine ev_getS (q := 134) dX12_choose_127 fo_12_9 (by omega) lo_133 rfl (sh_133_0 hX (by omega)) (by decide) ?_
  refine ev_iload_n dX12_choose_130 rfl ?_
  refine ev_iconst (v := 4) dX12_choose_131 ki_4 ?_
  refine e_Si (as := [.int (nI v1), .int 4]) (rest := [.ref 134]) dX12_choose_132 vX12_ofFamily ml_12_99 stX12_ofFamily npX12_ofFamily (by decide) rfl (Nat.le_of_ble_eq_true rfl) (by omega) (c_X12_ofFamily (d := d - 1) (by omega) (by omega) hX ) ?_
  refine ev_iload_n dX12_choose_135 rfl ?_
  refine ev_iast dX12_choose_136 (by omega) ly_134 (by show (nI 448 + (nI 15 * nI v1)) + nI 4 = nI ((448 + (15 * v1)) + 4); simp only [pk_mul, nI_add]) b0 ?_
  have hX1 : Sh _ (lx_up X 134 ((448 + (15 * v1)) + 4) v2) := Sh.upA hX (by rw [ly_134]; exact (by decide : 0 < 2))
  refine ev_iload dX12_choose_137 rfl ?_
  exact ev_iret dX12_choose_139 rfl rfl hp
