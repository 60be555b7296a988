theorem bX1_allergensOf_0_0 {g : GG} {d n : Nat} {post : Option Value → LX → Prop} {X : LX} (hn : 146 ≤ n) (hX : Sh n X) {v1 : Int32} (k : Ev g mX1_allergensOf d n n post n 4 [some (.ref 1), some (.int v1), some (.int 0), some (.int 0)] [] X) : Ev g mX1_allergensOf d n n post n 0 [some (.ref 1), some (.int v1), none, none] [] X := by
  refine ev_iconst (v := 0) dX1_allergensOf_0 ki_0 ?_
  refine ev_istore_n dX1_allergensOf_1 (by decide) ?_
  refine ev_iconst (v := 0) dX1_allergensOf_2 ki_0 ?_
  refine ev_istore_n dX1_allergensOf_3 (by decide) ?_
  exact k
theorem bX1_allergensOf_4_0 {g : GG} {d n : Nat} {post : Option Value → LX → Prop} {X : LX} (hn : 146 ≤ n) (hX : Sh n X) {v1 : Nat} {v2 : Int32} {v3 : Nat} (c0 : ¬ X 2 0 ≤ nI v3) (b0 : v1 < 10) (b1 : v3 < 14) (c1 : ¬ X (26 + 1 + v1) v3 ≤ 0) (k : Ev g mX1_allergensOf d n n post n 4 [some (.ref 1), some (.int (nI v1)), some (.int (v2 ||| (X 3 v3))), some (.int ((nI v3) + 1))] [] X) : Ev g mX1_allergensOf d n n post n 4 [some (.ref 1), some (.int (nI v1)), some (.int v2), some (.int (nI v3))] [] X := by
  refine ev_iload_n dX1_allergensOf_4 rfl ?_
  refine ev_aload_n dX1_allergensOf_5 rfl ?_
  refine ev_getS (q := 2) dX1_allergensOf_6 fo_1_12 (by omega) lo_1 rfl (sh_1_0 hX (by omega)) (by decide) ?_
  refine ev_getI dX1_allergensOf_9 fo_1_76 (by omega) lo_2 rfl ?_
  refine ev_icmpF (tgt := 47) dX1_allergensOf_12 (by decide) c0 ?_
  refine ev_aload_n dX1_allergensOf_15 rfl ?_
  refine ev_getS (q := 23) dX1_allergensOf_16 fo_1_21 (by omega) lo_1 rfl (sh_1_1 hX (by omega)) (by decide) ?_
  refine ev_getS (q := 26) dX1_allergensOf_19 fo_1_79 (by omega) lo_23 rfl (sh_23_3 hX (by omega)) (by decide) ?_
  refine ev_iload_n dX1_allergensOf_22 rfl ?_
  refine ev_aald (q := 26 + 1 + v1) dX1_allergensOf_23 (by omega) (Or.inl ly_26) rfl b0 (hX.2 26 v1 (by omega) (Or.inl (by rw [ly_26])) (by rw [ly_26]; exact b0)) (by first | omega | (have := LY_l ly_26; have := LY_lt (show (LY 26).1 < 99 by rw [ly_26]; exact (by decide : 2 < 99)); omega)) ?_
  refine ev_iload_n dX1_allergensOf_24 rfl ?_
  refine ev_iald dX1_allergensOf_25 (by have := b0; omega) (lyr_26 _ b0) rfl b1 ?_
  refine ev_ifF (tgt := 41) dX1_allergensOf_26 (by decide) c1 ?_
  refine ev_iload_n dX1_allergensOf_29 rfl ?_
  refine ev_aload_n dX1_allergensOf_30 rfl ?_
  refine ev_getS (q := 2) dX1_allergensOf_31 fo_1_12 (by omega) lo_1 rfl (sh_1_0 hX (by omega)) (by decide) ?_
  refine ev_getS (q := 3) dX1_allergensOf_34 fo_1_83 (by omega) lo_2 rfl (sh_2_1 hX (by omega)) (by decide) ?_
  refine ev_iload_n dX1_allergensOf_37 rfl ?_
  refine ev_iald dX1_allergensOf_38 (by omega) ly_3 rfl b1 ?_
  refine ev_ior dX1_allergensOf_39 ?_
  refine ev_istore_n dX1_allergensOf_40 (by decide) ?_
  refine ev_iinc (v := (nI v3) + 1) dX1_allergensOf_41 rfl (by rw [show Int32.ofInt 1 = 1 from ki_1]) (by decide) ?_
  refine ev_goto (tgt := 4) dX1_allergensOf_44 (by decide) ?_
  exact k
theorem bX1_allergensOf_4_1 {g : GG} {d n : Nat} {post : Option Value → LX → Prop} {X : LX} (hn : 146 ≤ n) (hX : Sh n X) {v1 : Nat} {v2 : Int32} {v3 : Nat} (c0 : ¬ X 2 0 ≤ nI v3) (b0 : v1 < 10) (b1 : v3 < 14) (c1 : X (26 + 1 + v1) v3 ≤ 0) (k : Ev g mX1_allergensOf d n n post n 4 [some (.ref 1), some (.int (nI v1)), some (.int v2), some (.int ((nI v3) + 1))] [] X) : Ev g mX1_allergensOf d n n post n 4 [some (.ref 1), some (.int (nI v1)), some (.int v2), some (.int (nI v3))] [] X := by
  refine ev_iload_n dX1_allergensOf_4 rfl ?_
  refine ev_aload_n dX1_allergensOf_5 rfl ?_
  refine ev_getS (q := 2) dX1_allergensOf_6 fo_1_12 (by omega) lo_1 rfl (sh_1_0 hX (by omega)) (by decide) ?_
  refine ev_getI dX1_allergensOf_9 fo_1_76 (by omega) lo_2 rfl ?_
  refine ev_icmpF (tgt := 47) dX1_allergensOf_12 (by decide) c0 ?_
  refine ev_aload_n dX1_allergensOf_15 rfl ?_
  refine ev_getS (q := 23) dX1_allergensOf_16 fo_1_21 (by omega) lo_1 rfl (sh_1_1 hX (by omega)) (by decide) ?_
  refine ev_getS (q := 26) dX1_allergensOf_19 fo_1_79 (by omega) lo_23 rfl (sh_23_3 hX (by omega)) (by decide) ?_
  refine ev_iload_n dX1_allergensOf_22 rfl ?_
  refine ev_aald (q := 26 + 1 + v1) dX1_allergensOf_23 (by omega) (Or.inl ly_26) rfl b0 (hX.2 26 v1 (by omega) (Or.inl (by rw [ly_26])) (by rw [ly_26]; exact b0)) (by first | omega | (have := LY_l ly_26; have := LY_lt (show (LY 26).1 < 99 by rw [ly_26]; exact (by decide : 2 < 99)); omega)) ?_
  refine ev_iload_n dX1_allergensOf_24 rfl ?_
  refine ev_iald dX1_allergensOf_25 (by have := b0; omega) (lyr_26 _ b0) rfl b1 ?_
  refine ev_ifT (tgt := 41) dX1_allergensOf_26 (by decide) c1 ?_
  refine ev_iinc (v := (nI v3) + 1) dX1_allergensOf_41 rfl (by rw [show Int32.ofInt 1 = 1 from ki_1]) (by decide) ?_
  refine ev_goto (tgt := 4) dX1_allergensOf_44 (by decide) ?_
  exact k
theorem bX1_allergensOf_4_2 {g : GG} {d n : Nat} {post : Option Value → LX → Prop} {X : LX} (hn : 146 ≤ n) (hX : Sh n X) {v1 : Int32} {v2 : Int32} {v3 : Int32} (c0 : X 2 0 ≤ v3) (hp : post (some (.int v2)) X) : Ev g mX1_allergensOf d n n post n 4 [some (.ref 1), some (.int v1), some (.int v2), some (.int v3)] [] X := by
  refine ev_iload_n dX1_allergensOf_4 rfl ?_
  refine ev_aload_n dX1_allergensOf_5 rfl ?_
  refine ev_getS (q := 2) dX1_allergensOf_6 fo_1_12 (by omega) lo_1 rfl (sh_1_0 hX (by omega)) (by decide) ?_
  refine ev_getI dX1_allergensOf_9 fo_1_76 (by omega) lo_2 rfl ?_
  refine ev_icmpT (tgt := 47) dX1_allergensOf_12 (by decide) c0 ?_
  refine ev_iload_n dX1_allergensOf_47 rfl ?_
  exact ev_iret dX1_allergensOf_48 rfl rfl hp
theorem bX1_costOf_0_0 {g : GG} {d n : Nat} {post : Option Value → LX → Prop} {X : LX} (hn : 146 ≤ n) (hX : Sh n X) {v1 : Int32} (k : Ev g mX1_costOf d n n post n 4 [some (.ref 1), some (.int v1), some (.int 0), some (.int 0)] [] X) : Ev g mX1_costOf d n n post n 0 [some (.ref 1), some (.int v1), none, none] [] X := by
  refine ev_iconst (v := 0) dX1_costOf_0 ki_0 ?_
  refine ev_istore_n dX1_costOf_1 (by decide) ?_
  refine ev_iconst (v := 0) dX1_costOf_2 ki_0 ?_
  refine ev_istore_n dX1_costOf_3 (by decide) ?_
  exact k
theorem bX1_costOf_4_0 {g : GG} {d n : Nat} {post : Option Value → LX → Prop} {X : LX} (hn : 146 ≤ n) (hX : Sh n X) {v1 : Nat} {v2 : Int32} {v3 : Nat} (c0 : ¬ X 2 0 ≤ nI v3) (b0 : v1 < 10) (b1 : v3 < 14) (k : Ev g mX1_costOf d n n post n 4 [some (.ref 1), some (.int (nI v1)), some (.int (v2 + (((X (26 + 1 + v1) v3) * (X 5 v3)) / 100))), some (.int ((nI v3) + 1))] [] X) : Ev g mX1_costOf d n n post n 4 [some (.ref 1), some (.int (nI v1)), some (.int v2), some (.int (nI v3))] [] X := by
  refine ev_iload_n dX1_costOf_4 rfl ?_
  refine ev_aload_n dX1_costOf_5 rfl ?_
  refine ev_getS (q := 2) dX1_costOf_6 fo_1_12 (by omega) lo_1 rfl (sh_1_0 hX (by omega)) (by decide) ?_
  refine ev_getI dX1_costOf_9 fo_1_76 (by omega) lo_2 rfl ?_
  refine ev_icmpF (tgt := 48) dX1_costOf_12 (by decide) c0 ?_
  refine ev_iload_n dX1_costOf_15 rfl ?_
  refine ev_aload_n dX1_costOf_16 rfl ?_
  refine ev_getS (q := 23) dX1_costOf_17 fo_1_21 (by omega) lo_1 rfl (sh_1_1 hX (by omega)) (by decide) ?_
  refine ev_getS (q := 26) dX1_costOf_20 fo_1_79 (by omega) lo_23 rfl (sh_23_3 hX (by omega)) (by decide) ?_
  refine ev_iload_n dX1_costOf_23 rfl ?_
  refine ev_aald (q := 26 + 1 + v1) dX1_costOf_24 (by omega) (Or.inl ly_26) rfl b0 (hX.2 26 v1 (by omega) (Or.inl (by rw [ly_26])) (by rw [ly_26]; exact b0)) (by first | omega | (have := LY_l ly_26; have := LY_lt (show (LY 26).1 < 99 by rw [ly_26]; exact (by decide : 2 < 99)); omega)) ?_
  refine ev_iload_n dX1_costOf_25 rfl ?_
  refine ev_iald dX1_costOf_26 (by have := b0; omega) (lyr_26 _ b0) rfl b1 ?_
  refine ev_aload_n dX1_costOf_27 rfl ?_
  refine ev_getS (q := 2) dX1_costOf_28 fo_1_12 (by omega) lo_1 rfl (sh_1_0 hX (by omega)) (by decide) ?_
  refine ev_getS (q := 5) dX1_costOf_31 fo_1_87 (by omega) lo_2 rfl (sh_2_3 hX (by omega)) (by decide) ?_
  refine ev_iload_n dX1_costOf_34 rfl ?_
  refine ev_iald dX1_costOf_35 (by omega) ly_5 rfl b1 ?_
  refine ev_imul dX1_costOf_36 ?_
  refine ev_bipush (v := 100) dX1_costOf_37 kb_100 ?_
  refine ev_idiv dX1_costOf_39 (by decide) ?_
  refine ev_iadd dX1_costOf_40 ?_
  refine ev_istore_n dX1_costOf_41 (by decide) ?_
  refine ev_iinc (v := (nI v3) + 1) dX1_costOf_42 rfl (by rw [show Int32.ofInt 1 = 1 from ki_1]) (by decide) ?_
  refine ev_goto (tgt := 4) dX1_costOf_45 (by decide) ?_
  exact k
theorem bX1_costOf_4_1 {g : GG} {d n : Nat} {post : Option Value → LX → Prop} {X : LX} (hn : 146 ≤ n) (hX : Sh n X) {v1 : Int32} {v2 : Int32} {v3 : Int32} (c0 : X 2 0 ≤ v3) (hp : post (some (.int v2)) X) : Ev g mX1_costOf d n n post n 4 [some (.ref 1), some (.int v1), some (.int v2), some (.int v3)] [] X := by
  refine ev_iload_n dX1_costOf_4 rfl ?_
  refine ev_aload_n dX1_costOf_5 rfl ?_
  refine ev_getS (q := 2) dX1_costOf_6 fo_1_12 (by omega) lo_1 rfl (sh_1_0 hX (by omega)) (by decide) ?_
  refine ev_getI dX1_costOf_9 fo_1_76 (by omega) lo_2 rfl ?_
  refine ev_icmpT (tgt := 48) dX1_costOf_12 (by decide) c0 ?_
  refine ev_iload_n dX1_costOf_48 rfl ?_
  exact ev_iret dX1_costOf_49 rfl rfl hp
theorem bX12_allergens_0_0 {g : GG} {d n : Nat} {post : Option Value → LX → Prop} {X : LX} (hn : 146 ≤ n) (hX : Sh n X) {v1 : Int32} (k : Ev g mX12_allergens d n n post n 4 [some (.ref 133), some (.int v1), some (.int 0), some (.int 0)] [] X) : Ev g mX12_allergens d n n post n 0 [some (.ref 133), some (.int v1), none, none] [] X := by
  refine ev_iconst (v := 0) dX12_allergens_0 ki_0 ?_
  refine ev_istore_n dX12_allergens_1 (by decide) ?_
  refine ev_iconst (v := 0) dX12_allergens_2 ki_0 ?_
  refine ev_istore_n dX12_allergens_3 (by decide) ?_
  exact k
theorem bX12_allergens_4_0 {g : GG} {d n : Nat} {post : Option Value → LX → Prop} {X : LX} (hd : 1 ≤ d) (hn : 146 ≤ n) (hX : Sh n X) {v1 : Nat} {v2 : Int32} {v3 : Nat} {j1 : Nat} (b0 : ((318 + (13 * v1)) + 2) < 2156) (c0 : ¬ X 134 ((318 + (13 * v1)) + 2) ≤ nI v3) (b1 : ((318 + (13 * v1)) + (3 + v3)) < 2156) (hj1 : X 134 ((318 + (13 * v1)) + (3 + v3)) = nI j1) (b2 : ((10 + (8 * j1)) + 0) < 2156) (k : Ev g mX12_allergens d n n post n 4 [some (.ref 133), some (.int (nI v1)), some (.int (v2 ||| (X 134 ((10 + (8 * j1)) + 0)))), some (.int ((nI v3) + 1))] [] X) : Ev g mX12_allergens d n n post n 4 [some (.ref 133), some (.int (nI v1)), some (.int v2), some (.int (nI v3))] [] X := by
  refine ev_iload_n dX12_allergens_4 rfl ?_
  refine ev_aload_n dX12_allergens_5 rfl ?_
  refine ev_getS (q := 134) dX12_allergens_6 fo_12_9 (by omega) lo_133 rfl (sh_133_0 hX (by omega)) (by decide) ?_
  refine ev_iload_n dX12_allergens_9 rfl ?_
  refine ev_iconst (v := 2) dX12_allergens_10 ki_2 ?_
  refine e_Si (as := [.int (nI v1), .int 2]) (rest := [.ref 134, .int (nI v3)]) dX12_allergens_11 vX12_ofMeal ml_12_67 stX12_ofMeal npX12_ofMeal (by decide) rfl (Nat.le_of_ble_eq_true rfl) (by omega) (c_X12_ofMeal (d := d - 1) (by omega) (by omega) hX ) ?_
  refine ev_iald dX12_allergens_14 (by omega) ly_134 (by show (nI 318 + (nI 13 * nI v1)) + nI 2 = nI ((318 + (13 * v1)) + 2); simp only [pk_mul, nI_add]) b0 ?_
  refine ev_icmpF (tgt := 48) dX12_allergens_15 (by decide) c0 ?_
  refine ev_iload_n dX12_allergens_18 rfl ?_
  refine ev_aload_n dX12_allergens_19 rfl ?_
  refine ev_getS (q := 134) dX12_allergens_20 fo_12_9 (by omega) lo_133 rfl (sh_133_0 hX (by omega)) (by decide) ?_
  refine ev_aload_n dX12_allergens_23 rfl ?_
  refine ev_getS (q := 134) dX12_allergens_24 fo_12_9 (by omega) lo_133 rfl (sh_133_0 hX (by omega)) (by decide) ?_
  refine ev_iload_n dX12_allergens_27 rfl ?_
  refine ev_iconst (v := 3) dX12_allergens_28 ki_3 ?_
  refine ev_iload_n dX12_allergens_29 rfl ?_
  refine ev_iadd dX12_allergens_30 ?_
  refine e_Si (as := [.int (nI v1), .int (3 + (nI v3))]) (rest := [.ref 134, .ref 134, .int v2]) dX12_allergens_31 vX12_ofMeal ml_12_67 stX12_ofMeal npX12_ofMeal (by decide) rfl (Nat.le_of_ble_eq_true rfl) (by omega) (c_X12_ofMeal (d := d - 1) (by omega) (by omega) hX ) ?_
  refine ev_iald dX12_allergens_34 (by omega) ly_134 (by show (nI 318 + (nI 13 * nI v1)) + (nI 3 + nI v3) = nI ((318 + (13 * v1)) + (3 + v3)); simp only [pk_mul, nI_add]) b1 ?_
  refine ev_iconst (v := 0) dX12_allergens_35 ki_0 ?_
  refine e_Si (as := [.int (X 134 ((318 + (13 * v1)) + (3 + v3))), .int 0]) (rest := [.ref 134, .int v2]) dX12_allergens_36 vX12_ofPart ml_12_59 stX12_ofPart npX12_ofPart (by decide) rfl (Nat.le_of_ble_eq_true rfl) (by omega) (c_X12_ofPart (d := d - 1) (by omega) (by omega) hX ) ?_
  refine ev_iald dX12_allergens_39 (by omega) ly_134 (by rw [hj1]; show (nI 10 + (nI 8 * nI j1)) + nI 0 = nI ((10 + (8 * j1)) + 0); simp only [pk_mul, nI_add]) b2 ?_
  refine ev_ior dX12_allergens_40 ?_
  refine ev_istore_n dX12_allergens_41 (by decide) ?_
  refine ev_iinc (v := (nI v3) + 1) dX12_allergens_42 rfl (by rw [show Int32.ofInt 1 = 1 from ki_1]) (by decide) ?_
  refine ev_goto (tgt := 4) dX12_allergens_45 (by decide) ?_
  exact k
theorem bX12_allergens_4_1 {g : GG} {d n : Nat} {post : Option Value → LX → Prop} {X : LX} (hd : 1 ≤ d) (hn : 146 ≤ n) (hX : Sh n X) {v1 : Nat} {v2 : Int32} {v3 : Int32} (b0 : ((318 + (13 * v1)) + 2) < 2156) (c0 : X 134 ((318 + (13 * v1)) + 2) ≤ v3) (hp : post (some (.int v2)) X) : Ev g mX12_allergens d n n post n 4 [some (.ref 133), some (.int (nI v1)), some (.int v2), some (.int v3)] [] X := by
  refine ev_iload_n dX12_allergens_4 rfl ?_
  refine ev_aload_n dX12_allergens_5 rfl ?_
  refine ev_getS (q := 134) dX12_allergens_6 fo_12_9 (by omega) lo_133 rfl (sh_133_0 hX (by omega)) (by decide) ?_
  refine ev_iload_n dX12_allergens_9 rfl ?_
  refine ev_iconst (v := 2) dX12_allergens_10 ki_2 ?_
  refine e_Si (as := [.int (nI v1), .int 2]) (rest := [.ref 134, .int v3]) dX12_allergens_11 vX12_ofMeal ml_12_67 stX12_ofMeal npX12_ofMeal (by decide) rfl (Nat.le_of_ble_eq_true rfl) (by omega) (c_X12_ofMeal (d := d - 1) (by omega) (by omega) hX ) ?_
  refine ev_iald dX12_allergens_14 (by omega) ly_134 (by show (nI 318 + (nI 13 * nI v1)) + nI 2 = nI ((318 + (13 * v1)) + 2); simp only [pk_mul, nI_add]) b0 ?_
  refine ev_icmpT (tgt := 48) dX12_allergens_15 (by decide) c0 ?_
  refine ev_iload_n dX12_allergens_48 rfl ?_
  exact ev_iret dX12_allergens_49 rfl rfl hp
theorem bX12_cost_0_0 {g : GG} {d n : Nat} {post : Option Value → LX → Prop} {X : LX} (hn : 146 ≤ n) (hX : Sh n X) {v1 : Int32} (k : Ev g mX12_cost d n n post n 4 [some (.ref 133), some (.int v1), some (.int 0), some (.int 0)] [] X) : Ev g mX12_cost d n n post n 0 [some (.ref 133), some (.int v1), none, none] [] X := by
  refine ev_iconst (v := 0) dX12_cost_0 ki_0 ?_
  refine ev_istore_n dX12_cost_1 (by decide) ?_
  refine ev_iconst (v := 0) dX12_cost_2 ki_0 ?_
  refine ev_istore_n dX12_cost_3 (by decide) ?_
  exact k
theorem bX12_cost_4_0 {g : GG} {d n : Nat} {post : Option Value → LX → Prop} {X : LX} (hd : 1 ≤ d) (hn : 146 ≤ n) (hX : Sh n X) {v1 : Nat} {v2 : Int32} {v3 : Nat} {j1 : Nat} (b0 : ((318 + (13 * v1)) + 2) < 2156) (c0 : ¬ X 134 ((318 + (13 * v1)) + 2) ≤ nI v3) (b1 : ((318 + (13 * v1)) + (8 + v3)) < 2156) (b2 : ((318 + (13 * v1)) + (3 + v3)) < 2156) (hj1 : X 134 ((318 + (13 * v1)) + (3 + v3)) = nI j1) (b3 : ((10 + (8 * j1)) + 1) < 2156) (k : Ev g mX12_cost d n n post n 4 [some (.ref 133), some (.int (nI v1)), some (.int (v2 + (((X 134 ((318 + (13 * v1)) + (8 + v3))) * (X 134 ((10 + (8 * j1)) + 1))) / 100))), some (.int ((nI v3) + 1))] [] X) : Ev g mX12_cost d n n post n 4 [some (.ref 133), some (.int (nI v1)), some (.int v2), some (.int (nI v3))] [] X := by
  refine ev_iload_n dX12_cost_4 rfl ?_
  refine ev_aload_n dX12_cost_5 rfl ?_
  refine ev_getS (q := 134) dX12_cost_6 fo_12_9 (by omega) lo_133 rfl (sh_133_0 hX (by omega)) (by decide) ?_
  refine ev_iload_n dX12_cost_9 rfl ?_
  refine ev_iconst (v := 2) dX12_cost_10 ki_2 ?_
  refine e_Si (as := [.int (nI v1), .int 2]) (rest := [.ref 134, .int (nI v3)]) dX12_cost_11 vX12_ofMeal ml_12_67 stX12_ofMeal npX12_ofMeal (by decide) rfl (Nat.le_of_ble_eq_true rfl) (by omega) (c_X12_ofMeal (d := d - 1) (by omega) (by omega) hX ) ?_
  refine ev_iald dX12_cost_14 (by omega) ly_134 (by show (nI 318 + (nI 13 * nI v1)) + nI 2 = nI ((318 + (13 * v1)) + 2); simp only [pk_mul, nI_add]) b0 ?_
  refine ev_icmpF (tgt := 65) dX12_cost_15 (by decide) c0 ?_
  refine ev_iload_n dX12_cost_18 rfl ?_
  refine ev_aload_n dX12_cost_19 rfl ?_
  refine ev_getS (q := 134) dX12_cost_20 fo_12_9 (by omega) lo_133 rfl (sh_133_0 hX (by omega)) (by decide) ?_
  refine ev_iload_n dX12_cost_23 rfl ?_
  refine ev_bipush (v := 8) dX12_cost_24 kb_8 ?_
  refine ev_iload_n dX12_cost_26 rfl ?_
  refine ev_iadd dX12_cost_27 ?_
  refine e_Si (as := [.int (nI v1), .int (8 + (nI v3))]) (rest := [.ref 134, .int v2]) dX12_cost_28 vX12_ofMeal ml_12_67 stX12_ofMeal npX12_ofMeal (by decide) rfl (Nat.le_of_ble_eq_true rfl) (by omega) (c_X12_ofMeal (d := d - 1) (by omega) (by omega) hX ) ?_
  refine ev_iald dX12_cost_31 (by omega) ly_134 (by show (nI 318 + (nI 13 * nI v1)) + (nI 8 + nI v3) = nI ((318 + (13 * v1)) + (8 + v3)); simp only [pk_mul, nI_add]) b1 ?_
  refine ev_aload_n dX12_cost_32 rfl ?_
  refine ev_getS (q := 134) dX12_cost_33 fo_12_9 (by omega) lo_133 rfl (sh_133_0 hX (by omega)) (by decide) ?_
  refine ev_aload_n dX12_cost_36 rfl ?_
  refine ev_getS (q := 134) dX12_cost_37 fo_12_9 (by omega) lo_133 rfl (sh_133_0 hX (by omega)) (by decide) ?_
  refine ev_iload_n dX12_cost_40 rfl ?_
  refine ev_iconst (v := 3) dX12_cost_41 ki_3 ?_
  refine ev_iload_n dX12_cost_42 rfl ?_
  refine ev_iadd dX12_cost_43 ?_
  refine e_Si (as := [.int (nI v1), .int (3 + (nI v3))]) (rest := [.ref 134, .ref 134, .int (X 134 ((318 + (13 * v1)) + (8 + v3))), .int v2]) dX12_cost_44 vX12_ofMeal ml_12_67 stX12_ofMeal npX12_ofMeal (by decide) rfl (Nat.le_of_ble_eq_true rfl) (by omega) (c_X12_ofMeal (d := d - 1) (by omega) (by omega) hX ) ?_
  refine ev_iald dX12_cost_47 (by omega) ly_134 (by show (nI 318 + (nI 13 * nI v1)) + (nI 3 + nI v3) = nI ((318 + (13 * v1)) + (3 + v3)); simp only [pk_mul, nI_add]) b2 ?_
  refine ev_iconst (v := 1) dX12_cost_48 ki_1 ?_
  refine e_Si (as := [.int (X 134 ((318 + (13 * v1)) + (3 + v3))), .int 1]) (rest := [.ref 134, .int (X 134 ((318 + (13 * v1)) + (8 + v3))), .int v2]) dX12_cost_49 vX12_ofPart ml_12_59 stX12_ofPart npX12_ofPart (by decide) rfl (Nat.le_of_ble_eq_true rfl) (by omega) (c_X12_ofPart (d := d - 1) (by omega) (by omega) hX ) ?_
  refine ev_iald dX12_cost_52 (by omega) ly_134 (by rw [hj1]; show (nI 10 + (nI 8 * nI j1)) + nI 1 = nI ((10 + (8 * j1)) + 1); simp only [pk_mul, nI_add]) b3 ?_
  refine ev_imul dX12_cost_53 ?_
  refine ev_bipush (v := 100) dX12_cost_54 kb_100 ?_
  refine ev_idiv dX12_cost_56 (by decide) ?_
  refine ev_iadd dX12_cost_57 ?_
  refine ev_istore_n dX12_cost_58 (by decide) ?_
  refine ev_iinc (v := (nI v3) + 1) dX12_cost_59 rfl (by rw [show Int32.ofInt 1 = 1 from ki_1]) (by decide) ?_
  refine ev_goto (tgt := 4) dX12_cost_62 (by decide) ?_
  exact k
theorem bX12_cost_4_1 {g : GG} {d n : Nat} {post : Option Value → LX → Prop} {X : LX} (hd : 1 ≤ d) (hn : 146 ≤ n) (hX : Sh n X) {v1 : Nat} {v2 : Int32} {v3 : Int32} (b0 : ((318 + (13 * v1)) + 2) < 2156) (c0 : X 134 ((318 + (13 * v1)) + 2) ≤ v3) (hp : post (some (.int v2)) X) : Ev g mX12_cost d n n post n 4 [some (.ref 133), some (.int (nI v1)), some (.int v2), some (.int v3)] [] X := by
  refine ev_iload_n dX12_cost_4 rfl ?_
  refine ev_aload_n dX12_cost_5 rfl ?_
  refine ev_getS (q := 134) dX12_cost_6 fo_12_9 (by omega) lo_133 rfl (sh_133_0 hX (by omega)) (by decide) ?_
  refine ev_iload_n dX12_cost_9 rfl ?_
  refine ev_iconst (v := 2) dX12_cost_10 ki_2 ?_
  refine e_Si (as := [.int (nI v1), .int 2]) (rest := [.ref 134, .int v3]) dX12_cost_11 vX12_ofMeal ml_12_67 stX12_ofMeal npX12_ofMeal (by decide) rfl (Nat.le_of_ble_eq_true rfl) (by omega) (c_X12_ofMeal (d := d - 1) (by omega) (by omega) hX ) ?_
  refine ev_iald dX12_cost_14 (by omega) ly_134 (by show (nI 318 + (nI 13 * nI v1)) + nI 2 = nI ((318 + (13 * v1)) + 2); simp only [pk_mul, nI_add]) b0 ?_
  refine ev_icmpT (tgt := 65) dX12_cost_15 (by decide) c0 ?_
  refine ev_iload_n dX12_cost_65 rfl ?_
  exact ev_iret dX12_cost_66 rfl rfl hp
theorem bX12_grams_0_0 {g : GG} {d n : Nat} {post : Option Value → LX → Prop} {X : LX} (hn : 146 ≤ n) (hX : Sh n X) {v1 : Int32} (k : Ev g mX12_grams d n n post n 4 [some (.ref 133), some (.int v1), some (.int 0), some (.int 0)] [] X) : Ev g mX12_grams d n n post n 0 [some (.ref 133), some (.int v1), none, none] [] X := by
  refine ev_iconst (v := 0) dX12_grams_0 ki_0 ?_
  refine ev_istore_n dX12_grams_1 (by decide) ?_
  refine ev_iconst (v := 0) dX12_grams_2 ki_0 ?_
  refine ev_istore_n dX12_grams_3 (by decide) ?_
  exact k
theorem bX12_grams_4_0 {g : GG} {d n : Nat} {post : Option Value → LX → Prop} {X : LX} (hd : 1 ≤ d) (hn : 146 ≤ n) (hX : Sh n X) {v1 : Nat} {v2 : Int32} {v3 : Nat} (b0 : ((318 + (13 * v1)) + 2) < 2156) (c0 : ¬ X 134 ((318 + (13 * v1)) + 2) ≤ nI v3) (b1 : ((318 + (13 * v1)) + (8 + v3)) < 2156) (k : Ev g mX12_grams d n n post n 4 [some (.ref 133), some (.int (nI v1)), some (.int (v2 + (X 134 ((318 + (13 * v1)) + (8 + v3))))), some (.int ((nI v3) + 1))] [] X) : Ev g mX12_grams d n n post n 4 [some (.ref 133), some (.int (nI v1)), some (.int v2), some (.int (nI v3))] [] X := by
  refine ev_iload_n dX12_grams_4 rfl ?_
  refine ev_aload_n dX12_grams_5 rfl ?_
  refine ev_getS (q := 134) dX12_grams_6 fo_12_9 (by omega) lo_133 rfl (sh_133_0 hX (by omega)) (by decide) ?_
  refine ev_iload_n dX12_grams_9 rfl ?_
  refine ev_iconst (v := 2) dX12_grams_10 ki_2 ?_
  refine e_Si (as := [.int (nI v1), .int 2]) (rest := [.ref 134, .int (nI v3)]) dX12_grams_11 vX12_ofMeal ml_12_67 stX12_ofMeal npX12_ofMeal (by decide) rfl (Nat.le_of_ble_eq_true rfl) (by omega) (c_X12_ofMeal (d := d - 1) (by omega) (by omega) hX ) ?_
  refine ev_iald dX12_grams_14 (by omega) ly_134 (by show (nI 318 + (nI 13 * nI v1)) + nI 2 = nI ((318 + (13 * v1)) + 2); simp only [pk_mul, nI_add]) b0 ?_
  refine ev_icmpF (tgt := 40) dX12_grams_15 (by decide) c0 ?_
  refine ev_iload_n dX12_grams_18 rfl ?_
  refine ev_aload_n dX12_grams_19 rfl ?_
  refine ev_getS (q := 134) dX12_grams_20 fo_12_9 (by omega) lo_133 rfl (sh_133_0 hX (by omega)) (by decide) ?_
  refine ev_iload_n dX12_grams_23 rfl ?_
  refine ev_bipush (v := 8) dX12_grams_24 kb_8 ?_
  refine ev_iload_n dX12_grams_26 rfl ?_
  refine ev_iadd dX12_grams_27 ?_
  refine e_Si (as := [.int (nI v1), .int (8 + (nI v3))]) (rest := [.ref 134, .int v2]) dX12_grams_28 vX12_ofMeal ml_12_67 stX12_ofMeal npX12_ofMeal (by decide) rfl (Nat.le_of_ble_eq_true rfl) (by omega) (c_X12_ofMeal (d := d - 1) (by omega) (by omega) hX ) ?_
  refine ev_iald dX12_grams_31 (by omega) ly_134 (by show (nI 318 + (nI 13 * nI v1)) + (nI 8 + nI v3) = nI ((318 + (13 * v1)) + (8 + v3)); simp only [pk_mul, nI_add]) b1 ?_
  refine ev_iadd dX12_grams_32 ?_
  refine ev_istore_n dX12_grams_33 (by decide) ?_
  refine ev_iinc (v := (nI v3) + 1) dX12_grams_34 rfl (by rw [show Int32.ofInt 1 = 1 from ki_1]) (by decide) ?_
  refine ev_goto (tgt := 4) dX12_grams_37 (by decide) ?_
  exact k
theorem bX12_grams_4_1 {g : GG} {d n : Nat} {post : Option Value → LX → Prop} {X : LX} (hd : 1 ≤ d) (hn : 146 ≤ n) (hX : Sh n X) {v1 : Nat} {v2 : Int32} {v3 : Int32} (b0 : ((318 + (13 * v1)) + 2) < 2156) (c0 : X 134 ((318 + (13 * v1)) + 2) ≤ v3) (hp : post (some (.int v2)) X) : Ev g mX12_grams d n n post n 4 [some (.ref 133), some (.int (nI v1)), some (.int v2), some (.int v3)] [] X := by
  refine ev_iload_n dX12_grams_4 rfl ?_
  refine ev_aload_n dX12_grams_5 rfl ?_
  refine ev_getS (q := 134) dX12_grams_6 fo_12_9 (by omega) lo_133 rfl (sh_133_0 hX (by omega)) (by decide) ?_
  refine ev_iload_n dX12_grams_9 rfl ?_
  refine ev_iconst (v := 2) dX12_grams_10 ki_2 ?_
  refine e_Si (as := [.int (nI v1), .int 2]) (rest := [.ref 134, .int v3]) dX12_grams_11 vX12_ofMeal ml_12_67 stX12_ofMeal npX12_ofMeal (by decide) rfl (Nat.le_of_ble_eq_true rfl) (by omega) (c_X12_ofMeal (d := d - 1) (by omega) (by omega) hX ) ?_
  refine ev_iald dX12_grams_14 (by omega) ly_134 (by show (nI 318 + (nI 13 * nI v1)) + nI 2 = nI ((318 + (13 * v1)) + 2); simp only [pk_mul, nI_add]) b0 ?_
  refine ev_icmpT (tgt := 40) dX12_grams_15 (by decide) c0 ?_
  refine ev_iload_n dX12_grams_40 rfl ?_
  exact ev_iret dX12_grams_41 rfl rfl hp
theorem bX12_stockOf_0_0 {g : GG} {d n : Nat} {post : Option Value → LX → Prop} {X : LX} (hn : 146 ≤ n) (hX : Sh n X) {v1 : Int32} (k : Ev g mX12_stockOf d n n post n 4 [some (.ref 133), some (.int v1), some (.int 0), some (.int 0)] [] X) : Ev g mX12_stockOf d n n post n 0 [some (.ref 133), some (.int v1), none, none] [] X := by
  refine ev_iconst (v := 0) dX12_stockOf_0 ki_0 ?_
  refine ev_istore_n dX12_stockOf_1 (by decide) ?_
  refine ev_iconst (v := 0) dX12_stockOf_2 ki_0 ?_
  refine ev_istore_n dX12_stockOf_3 (by decide) ?_
  exact k
theorem bX12_stockOf_4_0 {g : GG} {d n : Nat} {post : Option Value → LX → Prop} {X : LX} (hd : 1 ≤ d) (hn : 146 ≤ n) (hX : Sh n X) {v1 : Int32} {v2 : Int32} {v3 : Nat} (c0 : ¬ X 134 7 ≤ nI v3) (b0 : ((628 + (5 * v3)) + 0) < 2156) (c1 : X 134 ((628 + (5 * v3)) + 0) = v1) (b1 : ((628 + (5 * v3)) + 3) < 2156) (k : Ev g mX12_stockOf d n n post n 4 [some (.ref 133), some (.int v1), some (.int (v2 + (X 134 ((628 + (5 * v3)) + 3)))), some (.int ((nI v3) + 1))] [] X) : Ev g mX12_stockOf d n n post n 4 [some (.ref 133), some (.int v1), some (.int v2), some (.int (nI v3))] [] X := by
  refine ev_iload_n dX12_stockOf_4 rfl ?_
  refine ev_aload_n dX12_stockOf_5 rfl ?_
  refine ev_getS (q := 134) dX12_stockOf_6 fo_12_9 (by omega) lo_133 rfl (sh_133_0 hX (by omega)) (by decide) ?_
  refine ev_bipush (v := 7) dX12_stockOf_9 kb_7 ?_
  refine ev_iald dX12_stockOf_11 (by omega) ly_134 nIl_7 (by decide) ?_
  refine ev_icmpF (tgt := 52) dX12_stockOf_12 (by decide) c0 ?_
  refine ev_iload_n dX12_stockOf_15 rfl ?_
  refine ev_aload_n dX12_stockOf_16 rfl ?_
  refine ev_getS (q := 134) dX12_stockOf_17 fo_12_9 (by omega) lo_133 rfl (sh_133_0 hX (by omega)) (by decide) ?_
  refine ev_iload_n dX12_stockOf_20 rfl ?_
  refine ev_iconst (v := 0) dX12_stockOf_21 ki_0 ?_
  refine e_Si (as := [.int (nI v3), .int 0]) (rest := [.ref 134, .int v2]) dX12_stockOf_22 vX12_ofLot ml_12_261 stX12_ofLot npX12_ofLot (by decide) rfl (Nat.le_of_ble_eq_true rfl) (by omega) (c_X12_ofLot (d := d - 1) (by omega) (by omega) hX ) ?_
  refine ev_iald dX12_stockOf_25 (by omega) ly_134 (by show (nI 628 + (nI 5 * nI v3)) + nI 0 = nI ((628 + (5 * v3)) + 0); simp only [pk_mul, nI_add]) b0 ?_
  refine ev_iload_n dX12_stockOf_26 rfl ?_
  refine ev_icmpF (tgt := 43) dX12_stockOf_27 (by decide) c1 ?_
  refine ev_aload_n dX12_stockOf_30 rfl ?_
  refine ev_getS (q := 134) dX12_stockOf_31 fo_12_9 (by omega) lo_133 rfl (sh_133_0 hX (by omega)) (by decide) ?_
  refine ev_iload_n dX12_stockOf_34 rfl ?_
  refine ev_iconst (v := 3) dX12_stockOf_35 ki_3 ?_
  refine e_Si (as := [.int (nI v3), .int 3]) (rest := [.ref 134, .int v2]) dX12_stockOf_36 vX12_ofLot ml_12_261 stX12_ofLot npX12_ofLot (by decide) rfl (Nat.le_of_ble_eq_true rfl) (by omega) (c_X12_ofLot (d := d - 1) (by omega) (by omega) hX ) ?_
  refine ev_iald dX12_stockOf_39 (by omega) ly_134 (by show (nI 628 + (nI 5 * nI v3)) + nI 3 = nI ((628 + (5 * v3)) + 3); simp only [pk_mul, nI_add]) b1 ?_
  refine ev_goto (tgt := 44) dX12_stockOf_40 (by decide) ?_
  refine ev_iadd dX12_stockOf_44 ?_
  refine ev_istore_n dX12_stockOf_45 (by decide) ?_
  refine ev_iinc (v := (nI v3) + 1) dX12_stockOf_46 rfl (by rw [show Int32.ofInt 1 = 1 from ki_1]) (by decide) ?_
  refine ev_goto (tgt := 4) dX12_stockOf_49 (by decide) ?_
  exact k
theorem bX12_stockOf_4_1 {g : GG} {d n : Nat} {post : Option Value → LX → Prop} {X : LX} (hd : 1 ≤ d) (hn : 146 ≤ n) (hX : Sh n X) {v1 : Int32} {v2 : Int32} {v3 : Nat} (c0 : ¬ X 134 7 ≤ nI v3) (b0 : ((628 + (5 * v3)) + 0) < 2156) (c1 : ¬ X 134 ((628 + (5 * v3)) + 0) = v1) (k : Ev g mX12_stockOf d n n post n 4 [some (.ref 133), some (.int v1), some (.int (v2 + 0)), some (.int ((nI v3) + 1))] [] X) : Ev g mX12_stockOf d n n post n 4 [some (.ref 133), some (.int v1), some (.int v2), some (.int (nI v3))] [] X := by
  refine ev_iload_n dX12_stockOf_4 rfl ?_
  refine ev_aload_n dX12_stockOf_5 rfl ?_
  refine ev_getS (q := 134) dX12_stockOf_6 fo_12_9 (by omega) lo_133 rfl (sh_133_0 hX (by omega)) (by decide) ?_
  refine ev_bipush (v := 7) dX12_stockOf_9 kb_7 ?_
  refine ev_iald dX12_stockOf_11 (by omega) ly_134 nIl_7 (by decide) ?_
  refine ev_icmpF (tgt := 52) dX12_stockOf_12 (by decide) c0 ?_
  refine ev_iload_n dX12_stockOf_15 rfl ?_
  refine ev_aload_n dX12_stockOf_16 rfl ?_
  refine ev_getS (q := 134) dX12_stockOf_17 fo_12_9 (by omega) lo_133 rfl (sh_133_0 hX (by omega)) (by decide) ?_
  refine ev_iload_n dX12_stockOf_20 rfl ?_
  refine ev_iconst (v := 0) dX12_stockOf_21 ki_0 ?_
  refine e_Si (as := [.int (nI v3), .int 0]) (rest := [.ref 134, .int v2]) dX12_stockOf_22 vX12_ofLot ml_12_261 stX12_ofLot npX12_ofLot (by decide) rfl (Nat.le_of_ble_eq_true rfl) (by omega) (c_X12_ofLot (d := d - 1) (by omega) (by omega) hX ) ?_
  refine ev_iald dX12_stockOf_25 (by omega) ly_134 (by show (nI 628 + (nI 5 * nI v3)) + nI 0 = nI ((628 + (5 * v3)) + 0); simp only [pk_mul, nI_add]) b0 ?_
  refine ev_iload_n dX12_stockOf_26 rfl ?_
  refine ev_icmpT (tgt := 43) dX12_stockOf_27 (by decide) c1 ?_
  refine ev_iconst (v := 0) dX12_stockOf_43 ki_0 ?_
  refine ev_iadd dX12_stockOf_44 ?_
  refine ev_istore_n dX12_stockOf_45 (by decide) ?_
  refine ev_iinc (v := (nI v3) + 1) dX12_stockOf_46 rfl (by rw [show Int32.ofInt 1 = 1 from ki_1]) (by decide) ?_
  refine ev_goto (tgt := 4) dX12_stockOf_49 (by decide) ?_
  exact k
theorem bX12_stockOf_4_2 {g : GG} {d n : Nat} {post : Option Value → LX → Prop} {X : LX} (hn : 146 ≤ n) (hX : Sh n X) {v1 : Int32} {v2 : Int32} {v3 : Int32} (c0 : X 134 7 ≤ v3) (hp : post (some (.int v2)) X) : Ev g mX12_stockOf d n n post n 4 [some (.ref 133), some (.int v1), some (.int v2), some (.int v3)] [] X := by
  refine ev_iload_n dX12_stockOf_4 rfl ?_
  refine ev_aload_n dX12_stockOf_5 rfl ?_
  refine ev_getS (q := 134) dX12_stockOf_6 fo_12_9 (by omega) lo_133 rfl (sh_133_0 hX (by omega)) (by decide) ?_
  refine ev_bipush (v := 7) dX12_stockOf_9 kb_7 ?_
  refine ev_iald dX12_stockOf_11 (by omega) ly_134 nIl_7 (by decide) ?_
  refine ev_icmpT (tgt := 52) dX12_stockOf_12 (by decide) c0 ?_
  refine ev_iload_n dX12_stockOf_52 rfl ?_
  exact ev_iret dX12_stockOf_53 rfl rfl hp
