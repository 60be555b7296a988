theorem bX1_mayEat_0_0 {g : GG} {d n : Nat} {post : Option Value → LX → Prop} {X : LX} (hd : 1 ≤ d) (hn : 146 ≤ n) (hX : Sh n X) {v1 : Nat} {v2 : Nat} (c0 : v2 < 10) (c1 : num X 2 0 14) (b0 : v1 < 12) (c2 : ¬ (cAll X v2) &&& (X 38 v1) = 0) (hp : post (some (.int 0)) X) : Ev g mX1_mayEat d n n post n 0 [some (.ref 1), some (.int (nI v1)), some (.int (nI v2))] [] X := by
  refine ev_aload_n dX1_mayEat_0 rfl ?_
  refine ev_iload_n dX1_mayEat_1 rfl ?_
  refine e_Vi (as := [.int (nI v2)]) (rest := []) dX1_mayEat_2 vX1_allergensOf ml_1_103 isX1_allergensOf seX1_allergensOf npX1_allergensOf (rc_1 (by omega)) (by decide) rfl (Nat.le_of_ble_eq_true rfl) (by omega) (k_X1_allergensOf (d := d - 1) (by omega) (by omega) hX c0 c1) ?_
  refine ev_aload_n dX1_mayEat_5 rfl ?_
  refine ev_getS (q := 37) dX1_mayEat_6 fo_1_28 (by omega) lo_1 rfl (sh_1_2 hX (by omega)) (by decide) ?_
  refine ev_getS (q := 38) dX1_mayEat_9 fo_1_121 (by omega) lo_37 rfl (sh_37_1 hX (by omega)) (by decide) ?_
  refine ev_iload_n dX1_mayEat_12 rfl ?_
  refine ev_iald dX1_mayEat_13 (by omega) ly_38 rfl b0 ?_
  refine ev_iand dX1_mayEat_14 ?_
  refine ev_ifF (tgt := 20) dX1_mayEat_15 (by decide) c2 ?_
  refine ev_iconst (v := 0) dX1_mayEat_18 ki_0 ?_
  exact ev_iret dX1_mayEat_19 rfl (by decide) hp
theorem bX1_mayEat_0_1 {g : GG} {d n : Nat} {post : Option Value → LX → Prop} {X : LX} (hd : 1 ≤ d) (hn : 146 ≤ n) (hX : Sh n X) {v1 : Nat} {v2 : Nat} (c0 : v2 < 10) (c1 : num X 2 0 14) (b0 : v1 < 12) (c2 : (cAll X v2) &&& (X 38 v1) = 0) (c3 : ¬ X 40 v1 = 0) (c4 : isKd X v2 2) (hp : post (some (.int 1)) X) : Ev g mX1_mayEat d n n post n 0 [some (.ref 1), some (.int (nI v1)), some (.int (nI v2))] [] X := by
  refine ev_aload_n dX1_mayEat_0 rfl ?_
  refine ev_iload_n dX1_mayEat_1 rfl ?_
  refine e_Vi (as := [.int (nI v2)]) (rest := []) dX1_mayEat_2 vX1_allergensOf ml_1_103 isX1_allergensOf seX1_allergensOf npX1_allergensOf (rc_1 (by omega)) (by decide) rfl (Nat.le_of_ble_eq_true rfl) (by omega) (k_X1_allergensOf (d := d - 1) (by omega) (by omega) hX c0 c1) ?_
  refine ev_aload_n dX1_mayEat_5 rfl ?_
  refine ev_getS (q := 37) dX1_mayEat_6 fo_1_28 (by omega) lo_1 rfl (sh_1_2 hX (by omega)) (by decide) ?_
  refine ev_getS (q := 38) dX1_mayEat_9 fo_1_121 (by omega) lo_37 rfl (sh_37_1 hX (by omega)) (by decide) ?_
  refine ev_iload_n dX1_mayEat_12 rfl ?_
  refine ev_iald dX1_mayEat_13 (by omega) ly_38 rfl b0 ?_
  refine ev_iand dX1_mayEat_14 ?_
  refine ev_ifT (tgt := 20) dX1_mayEat_15 (by decide) c2 ?_
  refine ev_aload_n dX1_mayEat_20 rfl ?_
  refine ev_getS (q := 37) dX1_mayEat_21 fo_1_28 (by omega) lo_1 rfl (sh_1_2 hX (by omega)) (by decide) ?_
  refine ev_getS (q := 40) dX1_mayEat_24 fo_1_124 (by omega) lo_37 rfl (sh_37_3 hX (by omega)) (by decide) ?_
  refine ev_iload_n dX1_mayEat_27 rfl ?_
  refine ev_iald dX1_mayEat_28 (by omega) ly_40 rfl b0 ?_
  refine ev_ifF (tgt := 44) dX1_mayEat_29 (by decide) c3 ?_
  refine ev_aload_n dX1_mayEat_32 rfl ?_
  refine ev_getS (q := 23) dX1_mayEat_33 fo_1_21 (by omega) lo_1 rfl (sh_1_1 hX (by omega)) (by decide) ?_
  refine ev_iload_n dX1_mayEat_36 rfl ?_
  refine ev_iconst (v := 2) dX1_mayEat_37 ki_2 ?_
  refine e_Vi (as := [.int (nI v2), .int 2]) (rest := []) dX1_mayEat_38 vX5_isKind ml_1_127 isX5_isKind seX5_isKind npX5_isKind (rc_23 (by omega)) (by decide) rfl (Nat.le_of_ble_eq_true rfl) (by omega) (t_X5_isKind (d := d - 1) (by omega) (by omega) hX c0 c4) ?_
  refine ev_ifF (tgt := 48) dX1_mayEat_41 (by decide) (by show ¬ (1 : Int32) = 0; decide) ?_
  refine ev_iconst (v := 1) dX1_mayEat_44 ki_1 ?_
  refine ev_goto (tgt := 49) dX1_mayEat_45 (by decide) ?_
  exact ev_iret dX1_mayEat_49 rfl (by decide) hp
theorem bX1_mayEat_0_2 {g : GG} {d n : Nat} {post : Option Value → LX → Prop} {X : LX} (hd : 1 ≤ d) (hn : 146 ≤ n) (hX : Sh n X) {v1 : Nat} {v2 : Nat} (c0 : v2 < 10) (c1 : num X 2 0 14) (b0 : v1 < 12) (c2 : (cAll X v2) &&& (X 38 v1) = 0) (c3 : ¬ X 40 v1 = 0) (c4 : ¬ (isKd X v2 2)) (hp : post (some (.int 0)) X) : Ev g mX1_mayEat d n n post n 0 [some (.ref 1), some (.int (nI v1)), some (.int (nI v2))] [] X := by
  refine ev_aload_n dX1_mayEat_0 rfl ?_
  refine ev_iload_n dX1_mayEat_1 rfl ?_
  refine e_Vi (as := [.int (nI v2)]) (rest := []) dX1_mayEat_2 vX1_allergensOf ml_1_103 isX1_allergensOf seX1_allergensOf npX1_allergensOf (rc_1 (by omega)) (by decide) rfl (Nat.le_of_ble_eq_true rfl) (by omega) (k_X1_allergensOf (d := d - 1) (by omega) (by omega) hX c0 c1) ?_
  refine ev_aload_n dX1_mayEat_5 rfl ?_
  refine ev_getS (q := 37) dX1_mayEat_6 fo_1_28 (by omega) lo_1 rfl (sh_1_2 hX (by omega)) (by decide) ?_
  refine ev_getS (q := 38) dX1_mayEat_9 fo_1_121 (by omega) lo_37 rfl (sh_37_1 hX (by omega)) (by decide) ?_
  refine ev_iload_n dX1_mayEat_12 rfl ?_
  refine ev_iald dX1_mayEat_13 (by omega) ly_38 rfl b0 ?_
  refine ev_iand dX1_mayEat_14 ?_
  refine ev_ifT (tgt := 20) dX1_mayEat_15 (by decide) c2 ?_
  refine ev_aload_n dX1_mayEat_20 rfl ?_
  refine ev_getS (q := 37) dX1_mayEat_21 fo_1_28 (by omega) lo_1 rfl (sh_1_2 hX (by omega)) (by decide) ?_
  refine ev_getS (q := 40) dX1_mayEat_24 fo_1_124 (by omega) lo_37 rfl (sh_37_3 hX (by omega)) (by decide) ?_
  refine ev_iload_n dX1_mayEat_27 rfl ?_
  refine ev_iald dX1_mayEat_28 (by omega) ly_40 rfl b0 ?_
  refine ev_ifF (tgt := 44) dX1_mayEat_29 (by decide) c3 ?_
  refine ev_aload_n dX1_mayEat_32 rfl ?_
  refine ev_getS (q := 23) dX1_mayEat_33 fo_1_21 (by omega) lo_1 rfl (sh_1_1 hX (by omega)) (by decide) ?_
  refine ev_iload_n dX1_mayEat_36 rfl ?_
  refine ev_iconst (v := 2) dX1_mayEat_37 ki_2 ?_
  refine e_Vi (as := [.int (nI v2), .int 2]) (rest := []) dX1_mayEat_38 vX5_isKind ml_1_127 isX5_isKind seX5_isKind npX5_isKind (rc_23 (by omega)) (by decide) rfl (Nat.le_of_ble_eq_true rfl) (by omega) (f_X5_isKind (d := d - 1) (by omega) (by omega) hX c0 c4) ?_
  refine ev_ifT (tgt := 48) dX1_mayEat_41 (by decide) (by show (0 : Int32) = 0; decide) ?_
  refine ev_iconst (v := 0) dX1_mayEat_48 ki_0 ?_
  exact ev_iret dX1_mayEat_49 rfl (by decide) hp
theorem bX1_mayEat_0_3 {g : GG} {d n : Nat} {post : Option Value → LX → Prop} {X : LX} (hd : 1 ≤ d) (hn : 146 ≤ n) (hX : Sh n X) {v1 : Nat} {v2 : Nat} (c0 : v2 < 10) (c1 : num X 2 0 14) (b0 : v1 < 12) (c2 : (cAll X v2) &&& (X 38 v1) = 0) (c3 : X 40 v1 = 0) (hp : post (some (.int 1)) X) : Ev g mX1_mayEat d n n post n 0 [some (.ref 1), some (.int (nI v1)), some (.int (nI v2))] [] X := by
  refine ev_aload_n dX1_mayEat_0 rfl ?_
  refine ev_iload_n dX1_mayEat_1 rfl ?_
  refine e_Vi (as := [.int (nI v2)]) (rest := []) dX1_mayEat_2 vX1_allergensOf ml_1_103 isX1_allergensOf seX1_allergensOf npX1_allergensOf (rc_1 (by omega)) (by decide) rfl (Nat.le_of_ble_eq_true rfl) (by omega) (k_X1_allergensOf (d := d - 1) (by omega) (by omega) hX c0 c1) ?_
  refine ev_aload_n dX1_mayEat_5 rfl ?_
  refine ev_getS (q := 37) dX1_mayEat_6 fo_1_28 (by omega) lo_1 rfl (sh_1_2 hX (by omega)) (by decide) ?_
  refine ev_getS (q := 38) dX1_mayEat_9 fo_1_121 (by omega) lo_37 rfl (sh_37_1 hX (by omega)) (by decide) ?_
  refine ev_iload_n dX1_mayEat_12 rfl ?_
  refine ev_iald dX1_mayEat_13 (by omega) ly_38 rfl b0 ?_
  refine ev_iand dX1_mayEat_14 ?_
  refine ev_ifT (tgt := 20) dX1_mayEat_15 (by decide) c2 ?_
  refine ev_aload_n dX1_mayEat_20 rfl ?_
  refine ev_getS (q := 37) dX1_mayEat_21 fo_1_28 (by omega) lo_1 rfl (sh_1_2 hX (by omega)) (by decide) ?_
  refine ev_getS (q := 40) dX1_mayEat_24 fo_1_124 (by omega) lo_37 rfl (sh_37_3 hX (by omega)) (by decide) ?_
  refine ev_iload_n dX1_mayEat_27 rfl ?_
  refine ev_iald dX1_mayEat_28 (by omega) ly_40 rfl b0 ?_
  refine ev_ifT (tgt := 44) dX1_mayEat_29 (by decide) c3 ?_
  refine ev_iconst (v := 1) dX1_mayEat_44 ki_1 ?_
  refine ev_goto (tgt := 49) dX1_mayEat_45 (by decide) ?_
  exact ev_iret dX1_mayEat_49 rfl (by decide) hp
theorem bX12_mayEat_0_0 {g : GG} {d n : Nat} {post : Option Value → LX → Prop} {X : LX} (hd : 2 ≤ d) (hn : 146 ≤ n) (hX : Sh n X) {v1 : Nat} {v2 : Nat} (c0 : v2 < 10) (c1 : okM X v2) (b0 : ((448 + (15 * v1)) + 0) < 2156) (c2 : (mAll X v2) &&& (X 134 ((448 + (15 * v1)) + 0)) = 0) (b1 : ((448 + (15 * v1)) + 2) < 2156) (c3 : ¬ X 134 ((448 + (15 * v1)) + 2) = 0) (c4 : 2 ≤ X 134 (318 + 13 * v2 + 0)) (hp : post (some (.int 1)) X) : Ev g mX12_mayEat d n n post n 0 [some (.ref 133), some (.int (nI v1)), some (.int (nI v2))] [] X := by
  refine ev_aload_n dX12_mayEat_0 rfl ?_
  refine ev_iload_n dX12_mayEat_1 rfl ?_
  refine e_Vi (as := [.int (nI v2)]) (rest := []) dX12_mayEat_2 vX12_allergens ml_12_86 isX12_allergens seX12_allergens npX12_allergens (rc_133 (by omega)) (by decide) rfl (Nat.le_of_ble_eq_true rfl) (by omega) (k_X12_allergens (d := d - 1) (by omega) (by omega) hX c0 c1) ?_
  refine ev_aload_n dX12_mayEat_5 rfl ?_
  refine ev_getS (q := 134) dX12_mayEat_6 fo_12_9 (by omega) lo_133 rfl (sh_133_0 hX (by omega)) (by decide) ?_
  refine ev_iload_n dX12_mayEat_9 rfl ?_
  refine ev_iconst (v := 0) dX12_mayEat_10 ki_0 ?_
  refine e_Si (as := [.int (nI v1), .int 0]) (rest := [.ref 134, .int (mAll X v2)]) dX12_mayEat_11 vX12_ofFamily ml_12_99 stX12_ofFamily npX12_ofFamily (by decide) rfl (Nat.le_of_ble_eq_true rfl) (by omega) (c_X12_ofFamily (d := d - 1) (by omega) (by omega) hX ) ?_
  refine ev_iald dX12_mayEat_14 (by omega) ly_134 (by show (nI 448 + (nI 15 * nI v1)) + nI 0 = nI ((448 + (15 * v1)) + 0); simp only [pk_mul, nI_add]) b0 ?_
  refine ev_iand dX12_mayEat_15 ?_
  refine ev_ifF (tgt := 44) dX12_mayEat_16 (by decide) c2 ?_
  refine ev_aload_n dX12_mayEat_19 rfl ?_
  refine ev_getS (q := 134) dX12_mayEat_20 fo_12_9 (by omega) lo_133 rfl (sh_133_0 hX (by omega)) (by decide) ?_
  refine ev_iload_n dX12_mayEat_23 rfl ?_
  refine ev_iconst (v := 2) dX12_mayEat_24 ki_2 ?_
  refine e_Si (as := [.int (nI v1), .int 2]) (rest := [.ref 134]) dX12_mayEat_25 vX12_ofFamily ml_12_99 stX12_ofFamily npX12_ofFamily (by decide) rfl (Nat.le_of_ble_eq_true rfl) (by omega) (c_X12_ofFamily (d := d - 1) (by omega) (by omega) hX ) ?_
  refine ev_iald dX12_mayEat_28 (by omega) ly_134 (by show (nI 448 + (nI 15 * nI v1)) + nI 2 = nI ((448 + (15 * v1)) + 2); simp only [pk_mul, nI_add]) b1 ?_
  refine ev_ifF (tgt := 40) dX12_mayEat_29 (by decide) c3 ?_
  refine ev_aload_n dX12_mayEat_32 rfl ?_
  refine ev_iload_n dX12_mayEat_33 rfl ?_
  refine e_Vi (as := [.int (nI v2)]) (rest := []) dX12_mayEat_34 vX12_isGreen ml_12_73 isX12_isGreen seX12_isGreen npX12_isGreen (rc_133 (by omega)) (by decide) rfl (Nat.le_of_ble_eq_true rfl) (by omega) (t_X12_isGreen (d := d - 1) (by omega) (by omega) hX c0 c4) ?_
  refine ev_ifF (tgt := 44) dX12_mayEat_37 (by decide) (by show ¬ (1 : Int32) = 0; decide) ?_
  refine ev_iconst (v := 1) dX12_mayEat_40 ki_1 ?_
  refine ev_goto (tgt := 45) dX12_mayEat_41 (by decide) ?_
  exact ev_iret dX12_mayEat_45 rfl (by decide) hp
theorem bX12_mayEat_0_1 {g : GG} {d n : Nat} {post : Option Value → LX → Prop} {X : LX} (hd : 2 ≤ d) (hn : 146 ≤ n) (hX : Sh n X) {v1 : Nat} {v2 : Nat} (c0 : v2 < 10) (c1 : okM X v2) (b0 : ((448 + (15 * v1)) + 0) < 2156) (c2 : (mAll X v2) &&& (X 134 ((448 + (15 * v1)) + 0)) = 0) (b1 : ((448 + (15 * v1)) + 2) < 2156) (c3 : ¬ X 134 ((448 + (15 * v1)) + 2) = 0) (c4 : ¬ (2 ≤ X 134 (318 + 13 * v2 + 0))) (hp : post (some (.int 0)) X) : Ev g mX12_mayEat d n n post n 0 [some (.ref 133), some (.int (nI v1)), some (.int (nI v2))] [] X := by
  refine ev_aload_n dX12_mayEat_0 rfl ?_
  refine ev_iload_n dX12_mayEat_1 rfl ?_
  refine e_Vi (as := [.int (nI v2)]) (rest := []) dX12_mayEat_2 vX12_allergens ml_12_86 isX12_allergens seX12_allergens npX12_allergens (rc_133 (by omega)) (by decide) rfl (Nat.le_of_ble_eq_true rfl) (by omega) (k_X12_allergens (d := d - 1) (by omega) (by omega) hX c0 c1) ?_
  refine ev_aload_n dX12_mayEat_5 rfl ?_
  refine ev_getS (q := 134) dX12_mayEat_6 fo_12_9 (by omega) lo_133 rfl (sh_133_0 hX (by omega)) (by decide) ?_
  refine ev_iload_n dX12_mayEat_9 rfl ?_
  refine ev_iconst (v := 0) dX12_mayEat_10 ki_0 ?_
  refine e_Si (as := [.int (nI v1), .int 0]) (rest := [.ref 134, .int (mAll X v2)]) dX12_mayEat_11 vX12_ofFamily ml_12_99 stX12_ofFamily npX12_ofFamily (by decide) rfl (Nat.le_of_ble_eq_true rfl) (by omega) (c_X12_ofFamily (d := d - 1) (by omega) (by omega) hX ) ?_
  refine ev_iald dX12_mayEat_14 (by omega) ly_134 (by show (nI 448 + (nI 15 * nI v1)) + nI 0 = nI ((448 + (15 * v1)) + 0); simp only [pk_mul, nI_add]) b0 ?_
  refine ev_iand dX12_mayEat_15 ?_
  refine ev_ifF (tgt := 44) dX12_mayEat_16 (by decide) c2 ?_
  refine ev_aload_n dX12_mayEat_19 rfl ?_
  refine ev_getS (q := 134) dX12_mayEat_20 fo_12_9 (by omega) lo_133 rfl (sh_133_0 hX (by omega)) (by decide) ?_
  refine ev_iload_n dX12_mayEat_23 rfl ?_
  refine ev_iconst (v := 2) dX12_mayEat_24 ki_2 ?_
  refine e_Si (as := [.int (nI v1), .int 2]) (rest := [.ref 134]) dX12_mayEat_25 vX12_ofFamily ml_12_99 stX12_ofFamily npX12_ofFamily (by decide) rfl (Nat.le_of_ble_eq_true rfl) (by omega) (c_X12_ofFamily (d := d - 1) (by omega) (by omega) hX ) ?_
  refine ev_iald dX12_mayEat_28 (by omega) ly_134 (by show (nI 448 + (nI 15 * nI v1)) + nI 2 = nI ((448 + (15 * v1)) + 2); simp only [pk_mul, nI_add]) b1 ?_
  refine ev_ifF (tgt := 40) dX12_mayEat_29 (by decide) c3 ?_
  refine ev_aload_n dX12_mayEat_32 rfl ?_
  refine ev_iload_n dX12_mayEat_33 rfl ?_
  refine e_Vi (as := [.int (nI v2)]) (rest := []) dX12_mayEat_34 vX12_isGreen ml_12_73 isX12_isGreen seX12_isGreen npX12_isGreen (rc_133 (by omega)) (by decide) rfl (Nat.le_of_ble_eq_true rfl) (by omega) (f_X12_isGreen (d := d - 1) (by omega) (by omega) hX c0 c4) ?_
  refine ev_ifT (tgt := 44) dX12_mayEat_37 (by decide) (by show (0 : Int32) = 0; decide) ?_
  refine ev_iconst (v := 0) dX12_mayEat_44 ki_0 ?_
  exact ev_iret dX12_mayEat_45 rfl (by decide) hp
theorem bX12_mayEat_0_2 {g : GG} {d n : Nat} {post : Option Value → LX → Prop} {X : LX} (hd : 2 ≤ d) (hn : 146 ≤ n) (hX : Sh n X) {v1 : Nat} {v2 : Nat} (c0 : v2 < 10) (c1 : okM X v2) (b0 : ((448 + (15 * v1)) + 0) < 2156) (c2 : (mAll X v2) &&& (X 134 ((448 + (15 * v1)) + 0)) = 0) (b1 : ((448 + (15 * v1)) + 2) < 2156) (c3 : X 134 ((448 + (15 * v1)) + 2) = 0) (hp : post (some (.int 1)) X) : Ev g mX12_mayEat d n n post n 0 [some (.ref 133), some (.int (nI v1)), some (.int (nI v2))] [] X := by
  refine ev_aload_n dX12_mayEat_0 rfl ?_
  refine ev_iload_n dX12_mayEat_1 rfl ?_
  refine e_Vi (as := [.int (nI v2)]) (rest := []) dX12_mayEat_2 vX12_allergens ml_12_86 isX12_allergens seX12_allergens npX12_allergens (rc_133 (by omega)) (by decide) rfl (Nat.le_of_ble_eq_true rfl) (by omega) (k_X12_allergens (d := d - 1) (by omega) (by omega) hX c0 c1) ?_
  refine ev_aload_n dX12_mayEat_5 rfl ?_
  refine ev_getS (q := 134) dX12_mayEat_6 fo_12_9 (by omega) lo_133 rfl (sh_133_0 hX (by omega)) (by decide) ?_
  refine ev_iload_n dX12_mayEat_9 rfl ?_
  refine ev_iconst (v := 0) dX12_mayEat_10 ki_0 ?_
  refine e_Si (as := [.int (nI v1), .int 0]) (rest := [.ref 134, .int (mAll X v2)]) dX12_mayEat_11 vX12_ofFamily ml_12_99 stX12_ofFamily npX12_ofFamily (by decide) rfl (Nat.le_of_ble_eq_true rfl) (by omega) (c_X12_ofFamily (d := d - 1) (by omega) (by omega) hX ) ?_
  refine ev_iald dX12_mayEat_14 (by omega) ly_134 (by show (nI 448 + (nI 15 * nI v1)) + nI 0 = nI ((448 + (15 * v1)) + 0); simp only [pk_mul, nI_add]) b0 ?_
  refine ev_iand dX12_mayEat_15 ?_
  refine ev_ifF (tgt := 44) dX12_mayEat_16 (by decide) c2 ?_
  refine ev_aload_n dX12_mayEat_19 rfl ?_
  refine ev_getS (q := 134) dX12_mayEat_20 fo_12_9 (by omega) lo_133 rfl (sh_133_0 hX (by omega)) (by decide) ?_
  refine ev_iload_n dX12_mayEat_23 rfl ?_
  refine ev_iconst (v := 2) dX12_mayEat_24 ki_2 ?_
  refine e_Si (as := [.int (nI v1), .int 2]) (rest := [.ref 134]) dX12_mayEat_25 vX12_ofFamily ml_12_99 stX12_ofFamily npX12_ofFamily (by decide) rfl (Nat.le_of_ble_eq_true rfl) (by omega) (c_X12_ofFamily (d := d - 1) (by omega) (by omega) hX ) ?_
  refine ev_iald dX12_mayEat_28 (by omega) ly_134 (by show (nI 448 + (nI 15 * nI v1)) + nI 2 = nI ((448 + (15 * v1)) + 2); simp only [pk_mul, nI_add]) b1 ?_
  refine ev_ifT (tgt := 40) dX12_mayEat_29 (by decide) c3 ?_
  refine ev_iconst (v := 1) dX12_mayEat_40 ki_1 ?_
  refine ev_goto (tgt := 45) dX12_mayEat_41 (by decide) ?_
  exact ev_iret dX12_mayEat_45 rfl (by decide) hp
theorem bX12_mayEat_0_3 {g : GG} {d n : Nat} {post : Option Value → LX → Prop} {X : LX} (hd : 2 ≤ d) (hn : 146 ≤ n) (hX : Sh n X) {v1 : Nat} {v2 : Nat} (c0 : v2 < 10) (c1 : okM X v2) (b0 : ((448 + (15 * v1)) + 0) < 2156) (c2 : ¬ (mAll X v2) &&& (X 134 ((448 + (15 * v1)) + 0)) = 0) (hp : post (some (.int 0)) X) : Ev g mX12_mayEat d n n post n 0 [some (.ref 133), some (.int (nI v1)), some (.int (nI v2))] [] X := by
  refine ev_aload_n dX12_mayEat_0 rfl ?_
  refine ev_iload_n dX12_mayEat_1 rfl ?_
  refine e_Vi (as := [.int (nI v2)]) (rest := []) dX12_mayEat_2 vX12_allergens ml_12_86 isX12_allergens seX12_allergens npX12_allergens (rc_133 (by omega)) (by decide) rfl (Nat.le_of_ble_eq_true rfl) (by omega) (k_X12_allergens (d := d - 1) (by omega) (by omega) hX c0 c1) ?_
  refine ev_aload_n dX12_mayEat_5 rfl ?_
  refine ev_getS (q := 134) dX12_mayEat_6 fo_12_9 (by omega) lo_133 rfl (sh_133_0 hX (by omega)) (by decide) ?_
  refine ev_iload_n dX12_mayEat_9 rfl ?_
  refine ev_iconst (v := 0) dX12_mayEat_10 ki_0 ?_
  refine e_Si (as := [.int (nI v1), .int 0]) (rest := [.ref 134, .int (mAll X v2)]) dX12_mayEat_11 vX12_ofFamily ml_12_99 stX12_ofFamily npX12_ofFamily (by decide) rfl (Nat.le_of_ble_eq_true rfl) (by omega) (c_X12_ofFamily (d := d - 1) (by omega) (by omega) hX ) ?_
  refine ev_iald dX12_mayEat_14 (by omega) ly_134 (by show (nI 448 + (nI 15 * nI v1)) + nI 0 = nI ((448 + (15 * v1)) + 0); simp only [pk_mul, nI_add]) b0 ?_
  refine ev_iand dX12_mayEat_15 ?_
  refine ev_ifT (tgt := 44) dX12_mayEat_16 (by decide) c2 ?_
  refine ev_iconst (v := 0) dX12_mayEat_44 ki_0 ?_
  exact ev_iret dX12_mayEat_45 rfl (by decide) hp
