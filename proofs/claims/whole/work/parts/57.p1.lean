/-! BLOCKS of stock, recall, end, picks, kept, feed. -/
theorem bX11_stock_0_0 {g : GG} {d n : Nat} {post : Option Value → LX → Prop} {X : LX} (hd : 1 ≤ d) (hn : 146 ≤ n) (hX : Sh n X) {v1 : Int32} {v2 : Int32} (c0 : 0 ≤ v1 ∧ v1 < X 2 0) (c1 : v2.toInt < 0 ∨ 4 < v2.toInt) (hp : post (some (.int (-1000000001))) X) : Ev g mX11_stock d n n post n 0 [some (.ref 0), some (.int v1), some (.int v2)] [] X := by
  refine ev_aload_n dX11_stock_0 rfl ?_
  refine ev_getS (q := 1) dX11_stock_1 fo_11_10 (by omega) lo_0 rfl (sh_0_0 hX (by omega)) (by decide) ?_
  refine ev_getS (q := 2) dX11_stock_4 fo_11_62 (by omega) lo_1 rfl (sh_1_0 hX (by omega)) (by decide) ?_
  refine ev_iload_n dX11_stock_7 rfl ?_
  refine e_Vi (as := [.int v1]) (rest := []) dX11_stock_8 vX7_has ml_11_88 isX7_has seX7_has npX7_has (rc_2 (by omega)) (by decide) rfl (Nat.le_of_ble_eq_true rfl) (by omega) (t_X7_has (d := d - 1) (by omega) (by omega) hX c0) ?_
  refine ev_ifT (tgt := 17) dX11_stock_11 (by decide) (by show ¬ (1 : Int32) = 0; decide) ?_
  refine ev_iload_n dX11_stock_17 rfl ?_
  refine ev_tabO (tgt := 111) dX11_stock_18 c1 (by decide) ?_
  refine ev_ldc (v := (-1000000001)) dX11_stock_111 kw_11_61 ?_
  exact ev_iret dX11_stock_113 rfl rfl hp
theorem bX11_stock_0_1 {g : GG} {d n : Nat} {post : Option Value → LX → Prop} {X : LX} (hd : 1 ≤ d) (hn : 146 ≤ n) (hX : Sh n X) {v1 : Int32} {v2 : Int32} (c0 : 0 ≤ v1 ∧ v1 < X 2 0) (c1 : v2 = 0) (c2 : num X 69 0 40) (hp : post (some (.int (cLeft X v1))) X) : Ev g mX11_stock d n n post n 0 [some (.ref 0), some (.int v1), some (.int v2)] [] X := by
  refine ev_aload_n dX11_stock_0 rfl ?_
  refine ev_getS (q := 1) dX11_stock_1 fo_11_10 (by omega) lo_0 rfl (sh_0_0 hX (by omega)) (by decide) ?_
  refine ev_getS (q := 2) dX11_stock_4 fo_11_62 (by omega) lo_1 rfl (sh_1_0 hX (by omega)) (by decide) ?_
  refine ev_iload_n dX11_stock_7 rfl ?_
  refine e_Vi (as := [.int v1]) (rest := []) dX11_stock_8 vX7_has ml_11_88 isX7_has seX7_has npX7_has (rc_2 (by omega)) (by decide) rfl (Nat.le_of_ble_eq_true rfl) (by omega) (t_X7_has (d := d - 1) (by omega) (by omega) hX c0) ?_
  refine ev_ifT (tgt := 17) dX11_stock_11 (by decide) (by show ¬ (1 : Int32) = 0; decide) ?_
  refine ev_iload_n dX11_stock_17 rfl ?_
  refine ev_tabI (tgt := 52) (off := 34) dX11_stock_18 (by rw [c1]; decide) (by rw [c1]; decide) (by rw [c1]; rfl) (by decide) ?_
  refine ev_aload_n dX11_stock_52 rfl ?_
  refine ev_getS (q := 1) dX11_stock_53 fo_11_10 (by omega) lo_0 rfl (sh_0_0 hX (by omega)) (by decide) ?_
  refine ev_getS (q := 69) dX11_stock_56 fo_11_278 (by omega) lo_1 rfl (sh_1_3 hX (by omega)) (by decide) ?_
  refine ev_iload_n dX11_stock_59 rfl ?_
  refine e_Vi (as := [.int v1]) (rest := []) dX11_stock_60 vX4_leftOf ml_11_297 isX4_leftOf seX4_leftOf npX4_leftOf (rc_69 (by omega)) (by decide) rfl (Nat.le_of_ble_eq_true rfl) (by omega) (k_X4_leftOf (d := d - 1) (by omega) (by omega) hX c2) ?_
  exact ev_iret dX11_stock_63 rfl rfl hp
theorem bX11_stock_0_2 {g : GG} {d n : Nat} {post : Option Value → LX → Prop} {X : LX} (hd : 5 ≤ d) (hn : 146 ≤ n) (hX : Sh n X) {v1 : Nat} {v2 : Int32} (c0 : 0 ≤ (nI v1) ∧ (nI v1) < X 2 0) (c1 : v2 = 1) (c2 : v1 < 14) (c3 : okK X) (c4 : num X 37 0 12) (hp : post (some (.int (cNeedAll X v1))) X) : Ev g mX11_stock d n n post n 0 [some (.ref 0), some (.int (nI v1)), some (.int v2)] [] X := by
  refine ev_aload_n dX11_stock_0 rfl ?_
  refine ev_getS (q := 1) dX11_stock_1 fo_11_10 (by omega) lo_0 rfl (sh_0_0 hX (by omega)) (by decide) ?_
  refine ev_getS (q := 2) dX11_stock_4 fo_11_62 (by omega) lo_1 rfl (sh_1_0 hX (by omega)) (by decide) ?_
  refine ev_iload_n dX11_stock_7 rfl ?_
  refine e_Vi (as := [.int (nI v1)]) (rest := []) dX11_stock_8 vX7_has ml_11_88 isX7_has seX7_has npX7_has (rc_2 (by omega)) (by decide) rfl (Nat.le_of_ble_eq_true rfl) (by omega) (t_X7_has (d := d - 1) (by omega) (by omega) hX c0) ?_
  refine ev_ifT (tgt := 17) dX11_stock_11 (by decide) (by show ¬ (1 : Int32) = 0; decide) ?_
  refine ev_iload_n dX11_stock_17 rfl ?_
  refine ev_tabI (tgt := 64) (off := 46) dX11_stock_18 (by rw [c1]; decide) (by rw [c1]; decide) (by rw [c1]; rfl) (by decide) ?_
  refine ev_aload_n dX11_stock_64 rfl ?_
  refine ev_getS (q := 1) dX11_stock_65 fo_11_10 (by omega) lo_0 rfl (sh_0_0 hX (by omega)) (by decide) ?_
  refine ev_iload_n dX11_stock_68 rfl ?_
  refine e_Vi (as := [.int (nI v1)]) (rest := []) dX11_stock_69 vX1_needOfAll ml_11_300 isX1_needOfAll seX1_needOfAll npX1_needOfAll (rc_1 (by omega)) (by decide) rfl (Nat.le_of_ble_eq_true rfl) (by omega) (k_X1_needOfAll (d := d - 1) (by omega) (by omega) hX c2 c3 c4) ?_
  exact ev_iret dX11_stock_72 rfl rfl hp
theorem bX11_stock_0_3 {g : GG} {d n : Nat} {post : Option Value → LX → Prop} {X : LX} (hd : 1 ≤ d) (hn : 146 ≤ n) (hX : Sh n X) {v1 : Int32} {v2 : Int32} (c0 : 0 ≤ v1 ∧ v1 < X 2 0) (c1 : v2 = 2) (c2 : num X 69 0 40) (hp : post (some (.int (cCame X v1))) X) : Ev g mX11_stock d n n post n 0 [some (.ref 0), some (.int v1), some (.int v2)] [] X := by
  refine ev_aload_n dX11_stock_0 rfl ?_
  refine ev_getS (q := 1) dX11_stock_1 fo_11_10 (by omega) lo_0 rfl (sh_0_0 hX (by omega)) (by decide) ?_
  refine ev_getS (q := 2) dX11_stock_4 fo_11_62 (by omega) lo_1 rfl (sh_1_0 hX (by omega)) (by decide) ?_
  refine ev_iload_n dX11_stock_7 rfl ?_
  refine e_Vi (as := [.int v1]) (rest := []) dX11_stock_8 vX7_has ml_11_88 isX7_has seX7_has npX7_has (rc_2 (by omega)) (by decide) rfl (Nat.le_of_ble_eq_true rfl) (by omega) (t_X7_has (d := d - 1) (by omega) (by omega) hX c0) ?_
  refine ev_ifT (tgt := 17) dX11_stock_11 (by decide) (by show ¬ (1 : Int32) = 0; decide) ?_
  refine ev_iload_n dX11_stock_17 rfl ?_
  refine ev_tabI (tgt := 73) (off := 55) dX11_stock_18 (by rw [c1]; decide) (by rw [c1]; decide) (by rw [c1]; rfl) (by decide) ?_
  refine ev_aload_n dX11_stock_73 rfl ?_
  refine ev_getS (q := 1) dX11_stock_74 fo_11_10 (by omega) lo_0 rfl (sh_0_0 hX (by omega)) (by decide) ?_
  refine ev_getS (q := 69) dX11_stock_77 fo_11_278 (by omega) lo_1 rfl (sh_1_3 hX (by omega)) (by decide) ?_
  refine ev_iload_n dX11_stock_80 rfl ?_
  refine e_Vi (as := [.int v1]) (rest := []) dX11_stock_81 vX4_cameOf ml_11_303 isX4_cameOf seX4_cameOf npX4_cameOf (rc_69 (by omega)) (by decide) rfl (Nat.le_of_ble_eq_true rfl) (by omega) (k_X4_cameOf (d := d - 1) (by omega) (by omega) hX c2) ?_
  exact ev_iret dX11_stock_84 rfl rfl hp
theorem bX11_stock_0_4 {g : GG} {d n : Nat} {post : Option Value → LX → Prop} {X : LX} (hd : 1 ≤ d) (hn : 146 ≤ n) (hX : Sh n X) {v1 : Nat} {v2 : Int32} (c0 : 0 ≤ (nI v1) ∧ (nI v1) < X 2 0) (c1 : v2 = 3) (b0 : v1 < 14) (hp : post (some (.int (X 75 v1))) X) : Ev g mX11_stock d n n post n 0 [some (.ref 0), some (.int (nI v1)), some (.int v2)] [] X := by
  refine ev_aload_n dX11_stock_0 rfl ?_
  refine ev_getS (q := 1) dX11_stock_1 fo_11_10 (by omega) lo_0 rfl (sh_0_0 hX (by omega)) (by decide) ?_
  refine ev_getS (q := 2) dX11_stock_4 fo_11_62 (by omega) lo_1 rfl (sh_1_0 hX (by omega)) (by decide) ?_
  refine ev_iload_n dX11_stock_7 rfl ?_
  refine e_Vi (as := [.int (nI v1)]) (rest := []) dX11_stock_8 vX7_has ml_11_88 isX7_has seX7_has npX7_has (rc_2 (by omega)) (by decide) rfl (Nat.le_of_ble_eq_true rfl) (by omega) (t_X7_has (d := d - 1) (by omega) (by omega) hX c0) ?_
  refine ev_ifT (tgt := 17) dX11_stock_11 (by decide) (by show ¬ (1 : Int32) = 0; decide) ?_
  refine ev_iload_n dX11_stock_17 rfl ?_
  refine ev_tabI (tgt := 85) (off := 67) dX11_stock_18 (by rw [c1]; decide) (by rw [c1]; decide) (by rw [c1]; rfl) (by decide) ?_
  refine ev_aload_n dX11_stock_85 rfl ?_
  refine ev_getS (q := 1) dX11_stock_86 fo_11_10 (by omega) lo_0 rfl (sh_0_0 hX (by omega)) (by decide) ?_
  refine ev_getS (q := 69) dX11_stock_89 fo_11_278 (by omega) lo_1 rfl (sh_1_3 hX (by omega)) (by decide) ?_
  refine ev_getS (q := 75) dX11_stock_92 fo_11_306 (by omega) lo_69 rfl (sh_69_6 hX (by omega)) (by decide) ?_
  refine ev_iload_n dX11_stock_95 rfl ?_
  refine ev_iald dX11_stock_96 (by omega) ly_75 rfl b0 ?_
  exact ev_iret dX11_stock_97 rfl rfl hp
theorem bX11_stock_0_5 {g : GG} {d n : Nat} {post : Option Value → LX → Prop} {X : LX} (hd : 1 ≤ d) (hn : 146 ≤ n) (hX : Sh n X) {v1 : Nat} {v2 : Int32} (c0 : 0 ≤ (nI v1) ∧ (nI v1) < X 2 0) (c1 : v2 = 4) (b0 : v1 < 14) (hp : post (some (.int (X 76 v1))) X) : Ev g mX11_stock d n n post n 0 [some (.ref 0), some (.int (nI v1)), some (.int v2)] [] X := by
  refine ev_aload_n dX11_stock_0 rfl ?_
  refine ev_getS (q := 1) dX11_stock_1 fo_11_10 (by omega) lo_0 rfl (sh_0_0 hX (by omega)) (by decide) ?_
  refine ev_getS (q := 2) dX11_stock_4 fo_11_62 (by omega) lo_1 rfl (sh_1_0 hX (by omega)) (by decide) ?_
  refine ev_iload_n dX11_stock_7 rfl ?_
  refine e_Vi (as := [.int (nI v1)]) (rest := []) dX11_stock_8 vX7_has ml_11_88 isX7_has seX7_has npX7_has (rc_2 (by omega)) (by decide) rfl (Nat.le_of_ble_eq_true rfl) (by omega) (t_X7_has (d := d - 1) (by omega) (by omega) hX c0) ?_
  refine ev_ifT (tgt := 17) dX11_stock_11 (by decide) (by show ¬ (1 : Int32) = 0; decide) ?_
  refine ev_iload_n dX11_stock_17 rfl ?_
  refine ev_tabI (tgt := 98) (off := 80) dX11_stock_18 (by rw [c1]; decide) (by rw [c1]; decide) (by rw [c1]; rfl) (by decide) ?_
  refine ev_aload_n dX11_stock_98 rfl ?_
  refine ev_getS (q := 1) dX11_stock_99 fo_11_10 (by omega) lo_0 rfl (sh_0_0 hX (by omega)) (by decide) ?_
  refine ev_getS (q := 69) dX11_stock_102 fo_11_278 (by omega) lo_1 rfl (sh_1_3 hX (by omega)) (by decide) ?_
  refine ev_getS (q := 76) dX11_stock_105 fo_11_308 (by omega) lo_69 rfl (sh_69_7 hX (by omega)) (by decide) ?_
  refine ev_iload_n dX11_stock_108 rfl ?_
  refine ev_iald dX11_stock_109 (by omega) ly_76 rfl b0 ?_
  exact ev_iret dX11_stock_110 rfl rfl hp
theorem bX11_stock_0_6 {g : GG} {d n : Nat} {post : Option Value → LX → Prop} {X : LX} (hd : 1 ≤ d) (hn : 146 ≤ n) (hX : Sh n X) {v1 : Int32} {v2 : Int32} (c0 : ¬ (0 ≤ v1 ∧ v1 < X 2 0)) (hp : post (some (.int (-1000000001))) X) : Ev g mX11_stock d n n post n 0 [some (.ref 0), some (.int v1), some (.int v2)] [] X := by
  refine ev_aload_n dX11_stock_0 rfl ?_
  refine ev_getS (q := 1) dX11_stock_1 fo_11_10 (by omega) lo_0 rfl (sh_0_0 hX (by omega)) (by decide) ?_
  refine ev_getS (q := 2) dX11_stock_4 fo_11_62 (by omega) lo_1 rfl (sh_1_0 hX (by omega)) (by decide) ?_
  refine ev_iload_n dX11_stock_7 rfl ?_
  refine e_Vi (as := [.int v1]) (rest := []) dX11_stock_8 vX7_has ml_11_88 isX7_has seX7_has npX7_has (rc_2 (by omega)) (by decide) rfl (Nat.le_of_ble_eq_true rfl) (by omega) (f_X7_has (d := d - 1) (by omega) (by omega) hX c0) ?_
  refine ev_ifF (tgt := 17) dX11_stock_11 (by decide) (by show (0 : Int32) = 0; decide) ?_
  refine ev_ldc (v := (-1000000001)) dX11_stock_14 kw_11_61 ?_
  exact ev_iret dX11_stock_16 rfl rfl hp
theorem bX12_stock_0_0 {g : GG} {d n : Nat} {post : Option Value → LX → Prop} {X : LX} (hd : 2 ≤ d) (hn : 146 ≤ n) (hX : Sh n X) {v1 : Int32} {v2 : Int32} (c0 : 0 ≤ v1 ∧ v1 ≤ X 134 4 - 1) (c1 : 0 ≤ v2 ∧ v2 ≤ 4) (c2 : v2 = 1) (k : Ev g mX12_stock d n n post n 26 [some (.ref 133), some (.int v1), some (.int v2)] [.ref 133] X) : Ev g mX12_stock d n n post n 0 [some (.ref 133), some (.int v1), some (.int v2)] [] X := by
  refine ev_aload_n dX12_stock_0 rfl ?_
  refine ev_iload_n dX12_stock_1 rfl ?_
  refine e_Vi (as := [.int v1]) (rest := []) dX12_stock_2 vX12_isPart ml_12_63 isX12_isPart seX12_isPart npX12_isPart (rc_133 (by omega)) (by decide) rfl (Nat.le_of_ble_eq_true rfl) (by omega) (t_X12_isPart (d := d - 1) (by omega) (by omega) hX c0) ?_
  refine ev_ifF (tgt := 17) dX12_stock_5 (by decide) (by show ¬ (1 : Int32) = 0; decide) ?_
  refine ev_iload_n dX12_stock_8 rfl ?_
  refine ev_iconst (v := 0) dX12_stock_9 ki_0 ?_
  refine ev_iconst (v := 4) dX12_stock_10 ki_4 ?_
  refine e_Si (as := [.int v2, .int 0, .int 4]) (rest := []) dX12_stock_11 vX12_within ml_12_52 stX12_within npX12_within (by decide) rfl (Nat.le_of_ble_eq_true rfl) (by omega) (t_X12_within (d := d - 1) (by omega) (by omega) hX c1) ?_
  refine ev_ifT (tgt := 20) dX12_stock_14 (by decide) (by show ¬ (1 : Int32) = 0; decide) ?_
  refine ev_iload_n dX12_stock_20 rfl ?_
  refine ev_iconst (v := 1) dX12_stock_21 ki_1 ?_
  refine ev_icmpF (tgt := 35) dX12_stock_22 (by decide) c2 ?_
  refine ev_aload_n dX12_stock_25 rfl ?_
  exact k
theorem bX12_stock_0_1 {g : GG} {d n : Nat} {post : Option Value → LX → Prop} {X : LX} (hd : 2 ≤ d) (hn : 146 ≤ n) (hX : Sh n X) {v1 : Int32} {v2 : Int32} (c0 : 0 ≤ v1 ∧ v1 ≤ X 134 4 - 1) (c1 : 0 ≤ v2 ∧ v2 ≤ 4) (c2 : ¬ v2 = 1) (c3 : v2 = 0) (c4 : num X 134 7 40) (hp : post (some (.int (mStock X v1))) X) : Ev g mX12_stock d n n post n 0 [some (.ref 133), some (.int v1), some (.int v2)] [] X := by
  refine ev_aload_n dX12_stock_0 rfl ?_
  refine ev_iload_n dX12_stock_1 rfl ?_
  refine e_Vi (as := [.int v1]) (rest := []) dX12_stock_2 vX12_isPart ml_12_63 isX12_isPart seX12_isPart npX12_isPart (rc_133 (by omega)) (by decide) rfl (Nat.le_of_ble_eq_true rfl) (by omega) (t_X12_isPart (d := d - 1) (by omega) (by omega) hX c0) ?_
  refine ev_ifF (tgt := 17) dX12_stock_5 (by decide) (by show ¬ (1 : Int32) = 0; decide) ?_
  refine ev_iload_n dX12_stock_8 rfl ?_
  refine ev_iconst (v := 0) dX12_stock_9 ki_0 ?_
  refine ev_iconst (v := 4) dX12_stock_10 ki_4 ?_
  refine e_Si (as := [.int v2, .int 0, .int 4]) (rest := []) dX12_stock_11 vX12_within ml_12_52 stX12_within npX12_within (by decide) rfl (Nat.le_of_ble_eq_true rfl) (by omega) (t_X12_within (d := d - 1) (by omega) (by omega) hX c1) ?_
  refine ev_ifT (tgt := 20) dX12_stock_14 (by decide) (by show ¬ (1 : Int32) = 0; decide) ?_
  refine ev_iload_n dX12_stock_20 rfl ?_
  refine ev_iconst (v := 1) dX12_stock_21 ki_1 ?_
  refine ev_icmpT (tgt := 35) dX12_stock_22 (by decide) c2 ?_
  refine ev_iload_n dX12_stock_35 rfl ?_
  refine ev_ifF (tgt := 47) dX12_stock_36 (by decide) c3 ?_
  refine ev_aload_n dX12_stock_39 rfl ?_
  refine ev_iload_n dX12_stock_40 rfl ?_
  refine e_Vi (as := [.int v1]) (rest := []) dX12_stock_41 vX12_stockOf ml_12_270 isX12_stockOf seX12_stockOf npX12_stockOf (rc_133 (by omega)) (by decide) rfl (Nat.le_of_ble_eq_true rfl) (by omega) (k_X12_stockOf (d := d - 1) (by omega) (by omega) hX c4) ?_
  refine ev_goto (tgt := 61) dX12_stock_44 (by decide) ?_
  exact ev_iret dX12_stock_61 rfl rfl hp
theorem bX12_stock_0_2 {g : GG} {d n : Nat} {post : Option Value → LX → Prop} {X : LX} (hd : 2 ≤ d) (hn : 146 ≤ n) (hX : Sh n X) {v1 : Nat} {v2 : Int32} {j1 : Nat} (c0 : 0 ≤ (nI v1) ∧ (nI v1) ≤ X 134 4 - 1) (c1 : 0 ≤ v2 ∧ v2 ≤ 4) (c2 : ¬ v2 = 1) (c3 : ¬ v2 = 0) (hj1 : ((5 + v2) - 2) = nI j1) (b0 : ((10 + (8 * v1)) + j1) < 2156) (hp : post (some (.int (X 134 ((10 + (8 * v1)) + j1)))) X) : Ev g mX12_stock d n n post n 0 [some (.ref 133), some (.int (nI v1)), some (.int v2)] [] X := by
  refine ev_aload_n dX12_stock_0 rfl ?_
  refine ev_iload_n dX12_stock_1 rfl ?_
  refine e_Vi (as := [.int (nI v1)]) (rest := []) dX12_stock_2 vX12_isPart ml_12_63 isX12_isPart seX12_isPart npX12_isPart (rc_133 (by omega)) (by decide) rfl (Nat.le_of_ble_eq_true rfl) (by omega) (t_X12_isPart (d := d - 1) (by omega) (by omega) hX c0) ?_
  refine ev_ifF (tgt := 17) dX12_stock_5 (by decide) (by show ¬ (1 : Int32) = 0; decide) ?_
  refine ev_iload_n dX12_stock_8 rfl ?_
  refine ev_iconst (v := 0) dX12_stock_9 ki_0 ?_
  refine ev_iconst (v := 4) dX12_stock_10 ki_4 ?_
  refine e_Si (as := [.int v2, .int 0, .int 4]) (rest := []) dX12_stock_11 vX12_within ml_12_52 stX12_within npX12_within (by decide) rfl (Nat.le_of_ble_eq_true rfl) (by omega) (t_X12_within (d := d - 1) (by omega) (by omega) hX c1) ?_
  refine ev_ifT (tgt := 20) dX12_stock_14 (by decide) (by show ¬ (1 : Int32) = 0; decide) ?_
  refine ev_iload_n dX12_stock_20 rfl ?_
  refine ev_iconst (v := 1) dX12_stock_21 ki_1 ?_
  refine ev_icmpT (tgt := 35) dX12_stock_22 (by decide) c2 ?_
  refine ev_iload_n dX12_stock_35 rfl ?_
  refine ev_ifT (tgt := 47) dX12_stock_36 (by decide) c3 ?_
  refine ev_aload_n dX12_stock_47 rfl ?_
  refine ev_getS (q := 134) dX12_stock_48 fo_12_9 (by omega) lo_133 rfl (sh_133_0 hX (by omega)) (by decide) ?_
  refine ev_iload_n dX12_stock_51 rfl ?_
  refine ev_iconst (v := 5) dX12_stock_52 ki_5 ?_
  refine ev_iload_n dX12_stock_53 rfl ?_
  refine ev_iadd dX12_stock_54 ?_
  refine ev_iconst (v := 2) dX12_stock_55 ki_2 ?_
  refine ev_isub dX12_stock_56 ?_
  refine e_Si (as := [.int (nI v1), .int ((5 + v2) - 2)]) (rest := [.ref 134]) dX12_stock_57 vX12_ofPart ml_12_59 stX12_ofPart npX12_ofPart (by decide) rfl (Nat.le_of_ble_eq_true rfl) (by omega) (c_X12_ofPart (d := d - 1) (by omega) (by omega) hX ) ?_
  refine ev_iald dX12_stock_60 (by omega) ly_134 (by rw [hj1]; show (nI 10 + (nI 8 * nI v1)) + nI j1 = nI ((10 + (8 * v1)) + j1); simp only [pk_mul, nI_add]) b0 ?_
  exact ev_iret dX12_stock_61 rfl rfl hp
theorem bX12_stock_0_3 {g : GG} {d n : Nat} {post : Option Value → LX → Prop} {X : LX} (hd : 2 ≤ d) (hn : 146 ≤ n) (hX : Sh n X) {v1 : Int32} {v2 : Int32} (c0 : 0 ≤ v1 ∧ v1 ≤ X 134 4 - 1) (c1 : ¬ (0 ≤ v2 ∧ v2 ≤ 4)) (hp : post (some (.int (-1000000001))) X) : Ev g mX12_stock d n n post n 0 [some (.ref 133), some (.int v1), some (.int v2)] [] X := by
  refine ev_aload_n dX12_stock_0 rfl ?_
  refine ev_iload_n dX12_stock_1 rfl ?_
  refine e_Vi (as := [.int v1]) (rest := []) dX12_stock_2 vX12_isPart ml_12_63 isX12_isPart seX12_isPart npX12_isPart (rc_133 (by omega)) (by decide) rfl (Nat.le_of_ble_eq_true rfl) (by omega) (t_X12_isPart (d := d - 1) (by omega) (by omega) hX c0) ?_
  refine ev_ifF (tgt := 17) dX12_stock_5 (by decide) (by show ¬ (1 : Int32) = 0; decide) ?_
  refine ev_iload_n dX12_stock_8 rfl ?_
  refine ev_iconst (v := 0) dX12_stock_9 ki_0 ?_
  refine ev_iconst (v := 4) dX12_stock_10 ki_4 ?_
  refine e_Si (as := [.int v2, .int 0, .int 4]) (rest := []) dX12_stock_11 vX12_within ml_12_52 stX12_within npX12_within (by decide) rfl (Nat.le_of_ble_eq_true rfl) (by omega) (f_X12_within (d := d - 1) (by omega) (by omega) hX c1) ?_
  refine ev_ifF (tgt := 20) dX12_stock_14 (by decide) (by show (0 : Int32) = 0; decide) ?_
  refine ev_ldc (v := (-1000000001)) dX12_stock_17 kw_12_57 ?_
  exact ev_iret dX12_stock_19 rfl rfl hp
theorem bX12_stock_0_4 {g : GG} {d n : Nat} {post : Option Value → LX → Prop} {X : LX} (hd : 2 ≤ d) (hn : 146 ≤ n) (hX : Sh n X) {v1 : Int32} {v2 : Int32} (c0 : ¬ (0 ≤ v1 ∧ v1 ≤ X 134 4 - 1)) (hp : post (some (.int (-1000000001))) X) : Ev g mX12_stock d n n post n 0 [some (.ref 133), some (.int v1), some (.int v2)] [] X := by
  refine ev_aload_n dX12_stock_0 rfl ?_
  refine ev_iload_n dX12_stock_1 rfl ?_
  refine e_Vi (as := [.int v1]) (rest := []) dX12_stock_2 vX12_isPart ml_12_63 isX12_isPart seX12_isPart npX12_isPart (rc_133 (by omega)) (by decide) rfl (Nat.le_of_ble_eq_true rfl) (by omega) (f_X12_isPart (d := d - 1) (by omega) (by omega) hX c0) ?_
  refine ev_ifT (tgt := 17) dX12_stock_5 (by decide) (by show (0 : Int32) = 0; decide) ?_
  refine ev_ldc (v := (-1000000001)) dX12_stock_17 kw_12_57 ?_
  exact ev_iret dX12_stock_19 rfl rfl hp
theorem bX12_stock_29_0 {g : GG} {d n : Nat} {post : Option Value → LX → Prop} {X : LX} (hd : 1 ≤ d) (hn : 146 ≤ n) (hX : Sh n X) {v1 : Nat} {v2 : Int32} (c0 : v1 < 14) (c1 : num X 134 6 12) (hp : post (some (.int (mNeedAll X v1))) X) : Ev g mX12_stock d n n post n 29 [some (.ref 133), some (.int (nI v1)), some (.int v2)] [] X := by
  refine ev_aload_n dX12_stock_29 rfl ?_
  refine ev_iload_n dX12_stock_30 rfl ?_
  refine e_Vi (as := [.int (nI v1)]) (rest := []) dX12_stock_31 vX12_needOf ml_12_267 isX12_needOf seX12_needOf npX12_needOf (rc_133 (by omega)) (by decide) rfl (Nat.le_of_ble_eq_true rfl) (by omega) (k_X12_needOf (d := d - 1) (by omega) (by omega) hX c0 c1) ?_
  exact ev_iret dX12_stock_34 rfl rfl hp
theorem bX11_recall_0_0 {g : GG} {d n : Nat} {post : Option Value → LX → Prop} {X : LX} (hd : 1 ≤ d) (hn : 146 ≤ n) (hX : Sh n X) {v1 : Int32} (c0 : 0 ≤ v1 ∧ v1 < X 69 0) (k : Ev g mX11_recall d n n post n 25 [some (.ref 0), some (.int v1)] [.int v1, .ref 69] X) : Ev g mX11_recall d n n post n 0 [some (.ref 0), some (.int v1)] [] X := by
  refine ev_aload_n dX11_recall_0 rfl ?_
  refine ev_getS (q := 1) dX11_recall_1 fo_11_10 (by omega) lo_0 rfl (sh_0_0 hX (by omega)) (by decide) ?_
  refine ev_getS (q := 69) dX11_recall_4 fo_11_278 (by omega) lo_1 rfl (sh_1_3 hX (by omega)) (by decide) ?_
  refine ev_iload_n dX11_recall_7 rfl ?_
  refine e_Vi (as := [.int v1]) (rest := []) dX11_recall_8 vX4_has ml_11_296 isX4_has seX4_has npX4_has (rc_69 (by omega)) (by decide) rfl (Nat.le_of_ble_eq_true rfl) (by omega) (t_X4_has (d := d - 1) (by omega) (by omega) hX c0) ?_
  refine ev_ifT (tgt := 17) dX11_recall_11 (by decide) (by show ¬ (1 : Int32) = 0; decide) ?_
  refine ev_aload_n dX11_recall_17 rfl ?_
  refine ev_getS (q := 1) dX11_recall_18 fo_11_10 (by omega) lo_0 rfl (sh_0_0 hX (by omega)) (by decide) ?_
  refine ev_getS (q := 69) dX11_recall_21 fo_11_278 (by omega) lo_1 rfl (sh_1_3 hX (by omega)) (by decide) ?_
  refine ev_iload_n dX11_recall_24 rfl ?_
  exact k
theorem bX11_recall_0_1 {g : GG} {d n : Nat} {post : Option Value → LX → Prop} {X : LX} (hd : 1 ≤ d) (hn : 146 ≤ n) (hX : Sh n X) {v1 : Int32} (c0 : ¬ (0 ≤ v1 ∧ v1 < X 69 0)) (hp : post (some (.int (-1000000001))) X) : Ev g mX11_recall d n n post n 0 [some (.ref 0), some (.int v1)] [] X := by
  refine ev_aload_n dX11_recall_0 rfl ?_
  refine ev_getS (q := 1) dX11_recall_1 fo_11_10 (by omega) lo_0 rfl (sh_0_0 hX (by omega)) (by decide) ?_
  refine ev_getS (q := 69) dX11_recall_4 fo_11_278 (by omega) lo_1 rfl (sh_1_3 hX (by omega)) (by decide) ?_
  refine ev_iload_n dX11_recall_7 rfl ?_
  refine e_Vi (as := [.int v1]) (rest := []) dX11_recall_8 vX4_has ml_11_296 isX4_has seX4_has npX4_has (rc_69 (by omega)) (by decide) rfl (Nat.le_of_ble_eq_true rfl) (by omega) (f_X4_has (d := d - 1) (by omega) (by omega) hX c0) ?_
  refine ev_ifF (tgt := 17) dX11_recall_11 (by decide) (by show (0 : Int32) = 0; decide) ?_
  refine ev_ldc (v := (-1000000001)) dX11_recall_14 kw_11_61 ?_
  exact ev_iret dX11_recall_16 rfl rfl hp
theorem bX11_recall_28_0 {g : GG} {d n : Nat} {post : Option Value → LX → Prop} {X : LX} (hn : 146 ≤ n) (hX : Sh n X) {v1 : Nat} (b0 : v1 < 40) (hp : post (some (.int (X 74 v1))) X) : Ev g mX11_recall d n n post n 28 [some (.ref 0), some (.int (nI v1))] [] X := by
  refine ev_aload_n dX11_recall_28 rfl ?_
  refine ev_getS (q := 1) dX11_recall_29 fo_11_10 (by omega) lo_0 rfl (sh_0_0 hX (by omega)) (by decide) ?_
  refine ev_getS (q := 69) dX11_recall_32 fo_11_278 (by omega) lo_1 rfl (sh_1_3 hX (by omega)) (by decide) ?_
  refine ev_getS (q := 74) dX11_recall_35 fo_11_333 (by omega) lo_69 rfl (sh_69_5 hX (by omega)) (by decide) ?_
  refine ev_iload_n dX11_recall_38 rfl ?_
  refine ev_iald dX11_recall_39 (by omega) ly_74 rfl b0 ?_
  exact ev_iret dX11_recall_40 rfl rfl hp
theorem bX12_recall_0_0 {g : GG} {d n : Nat} {post : Option Value → LX → Prop} {X : LX} (hd : 1 ≤ d) (hn : 146 ≤ n) (hX : Sh n X) {v1 : Int32} (c0 : 0 ≤ v1 ∧ v1 ≤ ((X 134 7) - 1)) (k : Ev g mX12_recall d n n post n 22 [some (.ref 133), some (.int v1)] [.int v1, .ref 133] X) : Ev g mX12_recall d n n post n 0 [some (.ref 133), some (.int v1)] [] X := by
  refine ev_iload_n dX12_recall_0 rfl ?_
  refine ev_iconst (v := 0) dX12_recall_1 ki_0 ?_
  refine ev_aload_n dX12_recall_2 rfl ?_
  refine ev_getS (q := 134) dX12_recall_3 fo_12_9 (by omega) lo_133 rfl (sh_133_0 hX (by omega)) (by decide) ?_
  refine ev_bipush (v := 7) dX12_recall_6 kb_7 ?_
  refine ev_iald dX12_recall_8 (by omega) ly_134 nIl_7 (by decide) ?_
  refine ev_iconst (v := 1) dX12_recall_9 ki_1 ?_
  refine ev_isub dX12_recall_10 ?_
  refine e_Si (as := [.int v1, .int 0, .int ((X 134 7) - 1)]) (rest := []) dX12_recall_11 vX12_within ml_12_52 stX12_within npX12_within (by decide) rfl (Nat.le_of_ble_eq_true rfl) (by omega) (t_X12_within (d := d - 1) (by omega) (by omega) hX c0) ?_
  refine ev_ifT (tgt := 20) dX12_recall_14 (by decide) (by show ¬ (1 : Int32) = 0; decide) ?_
  refine ev_aload_n dX12_recall_20 rfl ?_
  refine ev_iload_n dX12_recall_21 rfl ?_
  exact k
theorem bX12_recall_0_1 {g : GG} {d n : Nat} {post : Option Value → LX → Prop} {X : LX} (hd : 1 ≤ d) (hn : 146 ≤ n) (hX : Sh n X) {v1 : Int32} (c0 : ¬ (0 ≤ v1 ∧ v1 ≤ ((X 134 7) - 1))) (hp : post (some (.int (-1000000001))) X) : Ev g mX12_recall d n n post n 0 [some (.ref 133), some (.int v1)] [] X := by
  refine ev_iload_n dX12_recall_0 rfl ?_
  refine ev_iconst (v := 0) dX12_recall_1 ki_0 ?_
  refine ev_aload_n dX12_recall_2 rfl ?_
  refine ev_getS (q := 134) dX12_recall_3 fo_12_9 (by omega) lo_133 rfl (sh_133_0 hX (by omega)) (by decide) ?_
  refine ev_bipush (v := 7) dX12_recall_6 kb_7 ?_
  refine ev_iald dX12_recall_8 (by omega) ly_134 nIl_7 (by decide) ?_
  refine ev_iconst (v := 1) dX12_recall_9 ki_1 ?_
  refine ev_isub dX12_recall_10 ?_
  refine e_Si (as := [.int v1, .int 0, .int ((X 134 7) - 1)]) (rest := []) dX12_recall_11 vX12_within ml_12_52 stX12_within npX12_within (by decide) rfl (Nat.le_of_ble_eq_true rfl) (by omega) (f_X12_within (d := d - 1) (by omega) (by omega) hX c0) ?_
  refine ev_ifF (tgt := 20) dX12_recall_14 (by decide) (by show (0 : Int32) = 0; decide) ?_
  refine ev_ldc (v := (-1000000001)) dX12_recall_17 kw_12_57 ?_
  exact ev_iret dX12_recall_19 rfl rfl hp
theorem bX12_recall_25_0 {g : GG} {d n : Nat} {post : Option Value → LX → Prop} {X : LX} (hd : 1 ≤ d) (hn : 146 ≤ n) (hX : Sh n X) {v1 : Nat} (b0 : ((628 + (5 * v1)) + 4) < 2156) (hp : post (some (.int (X 134 ((628 + (5 * v1)) + 4)))) X) : Ev g mX12_recall d n n post n 25 [some (.ref 133), some (.int (nI v1))] [] X := by
  refine ev_aload_n dX12_recall_25 rfl ?_
  refine ev_getS (q := 134) dX12_recall_26 fo_12_9 (by omega) lo_133 rfl (sh_133_0 hX (by omega)) (by decide) ?_
  refine ev_iload_n dX12_recall_29 rfl ?_
  refine ev_iconst (v := 4) dX12_recall_30 ki_4 ?_
  refine e_Si (as := [.int (nI v1), .int 4]) (rest := [.ref 134]) dX12_recall_31 vX12_ofLot ml_12_261 stX12_ofLot npX12_ofLot (by decide) rfl (Nat.le_of_ble_eq_true rfl) (by omega) (c_X12_ofLot (d := d - 1) (by omega) (by omega) hX ) ?_
  refine ev_iald dX12_recall_34 (by omega) ly_134 (by show (nI 628 + (nI 5 * nI v1)) + nI 4 = nI ((628 + (5 * v1)) + 4); simp only [pk_mul, nI_add]) b0 ?_
  exact ev_iret dX12_recall_35 rfl rfl hp
theorem bX11_end_0_0 {g : GG} {d n : Nat} {post : Option Value → LX → Prop} {X : LX} (hn : 146 ≤ n) (hX : Sh n X)  (c0 : ¬ X 1 5 < 99) (hp : post (some (.int (-1000000002))) X) : Ev g mX11_end d n n post n 0 [some (.ref 0)] [] X := by
  refine ev_aload_n dX11_end_0 rfl ?_
  refine ev_getS (q := 1) dX11_end_1 fo_11_10 (by omega) lo_0 rfl (sh_0_0 hX (by omega)) (by decide) ?_
  refine ev_getI dX11_end_4 fo_11_203 (by omega) lo_1 rfl ?_
  refine ev_bipush (v := 99) dX11_end_7 kb_99 ?_
  refine ev_icmpF (tgt := 15) dX11_end_9 (by decide) c0 ?_
  refine ev_ldc (v := (-1000000002)) dX11_end_12 kw_11_124 ?_
  exact ev_iret dX11_end_14 rfl rfl hp
theorem bX11_end_0_1 {g : GG} {d n : Nat} {post : Option Value → LX → Prop} {X : LX} (hn : 146 ≤ n) (hX : Sh n X)  (c0 : X 1 5 < 99) (k : Ev g mX11_end d n n post n 19 [some (.ref 0)] [.ref 1] X) : Ev g mX11_end d n n post n 0 [some (.ref 0)] [] X := by
  refine ev_aload_n dX11_end_0 rfl ?_
  refine ev_getS (q := 1) dX11_end_1 fo_11_10 (by omega) lo_0 rfl (sh_0_0 hX (by omega)) (by decide) ?_
  refine ev_getI dX11_end_4 fo_11_203 (by omega) lo_1 rfl ?_
  refine ev_bipush (v := 99) dX11_end_7 kb_99 ?_
  refine ev_icmpT (tgt := 15) dX11_end_9 (by decide) c0 ?_
  refine ev_aload_n dX11_end_15 rfl ?_
  refine ev_getS (q := 1) dX11_end_16 fo_11_10 (by omega) lo_0 rfl (sh_0_0 hX (by omega)) (by decide) ?_
  exact k
theorem bX11_end_22_0 {g : GG} {d n : Nat} {post : Option Value → LX → Prop} {X : LX} (hn : 146 ≤ n) (hX : Sh n X)  (hp : post (some (.int (X 1 5))) X) : Ev g mX11_end d n n post n 22 [some (.ref 0)] [] X := by
  refine ev_aload_n dX11_end_22 rfl ?_
  refine ev_getS (q := 1) dX11_end_23 fo_11_10 (by omega) lo_0 rfl (sh_0_0 hX (by omega)) (by decide) ?_
  refine ev_getI dX11_end_26 fo_11_203 (by omega) lo_1 rfl ?_
  exact ev_iret dX11_end_29 rfl rfl hp
theorem bX12_end_0_0 {g : GG} {d n : Nat} {post : Option Value → LX → Prop} {X : LX} (hn : 146 ≤ n) (hX : Sh n X)  (c0 : X 134 0 = 99) (hp : post (some (.int (-1000000002))) X) : Ev g mX12_end d n n post n 0 [some (.ref 133), none] [] X := by
  refine ev_aload_n dX12_end_0 rfl ?_
  refine ev_getS (q := 134) dX12_end_1 fo_12_9 (by omega) lo_133 rfl (sh_133_0 hX (by omega)) (by decide) ?_
  refine ev_iconst (v := 0) dX12_end_4 ki_0 ?_
  refine ev_iald dX12_end_5 (by omega) ly_134 nIl_0 (by decide) ?_
  refine ev_bipush (v := 99) dX12_end_6 kb_99 ?_
  refine ev_icmpF (tgt := 14) dX12_end_8 (by decide) c0 ?_
  refine ev_ldc (v := (-1000000002)) dX12_end_11 kw_12_80 ?_
  exact ev_iret dX12_end_13 rfl rfl hp
theorem bX12_end_0_1 {g : GG} {d n : Nat} {post : Option Value → LX → Prop} {X : LX} (hn : 146 ≤ n) (hX : Sh n X)  (c0 : ¬ X 134 0 = 99) (k : Ev g mX12_end d n n post n 16 [some (.ref 133), some (.int 0)] [] X) : Ev g mX12_end d n n post n 0 [some (.ref 133), none] [] X := by
  refine ev_aload_n dX12_end_0 rfl ?_
  refine ev_getS (q := 134) dX12_end_1 fo_12_9 (by omega) lo_133 rfl (sh_133_0 hX (by omega)) (by decide) ?_
  refine ev_iconst (v := 0) dX12_end_4 ki_0 ?_
  refine ev_iald dX12_end_5 (by omega) ly_134 nIl_0 (by decide) ?_
  refine ev_bipush (v := 99) dX12_end_6 kb_99 ?_
  refine ev_icmpT (tgt := 14) dX12_end_8 (by decide) c0 ?_
  refine ev_iconst (v := 0) dX12_end_14 ki_0 ?_
  refine ev_istore_n dX12_end_15 (by decide) ?_
  exact k
theorem bX12_end_16_0 {g : GG} {d n : Nat} {post : Option Value → LX → Prop} {X : LX} (hd : 1 ≤ d) (hn : 146 ≤ n) (hX : Sh n X) {v1 : Nat} {j1 : Nat} (c0 : ¬ X 134 7 ≤ nI v1) (b0 : ((628 + (5 * v1)) + 2) < 2156) (b1 : ((628 + (5 * v1)) + 0) < 2156) (hj1 : X 134 ((628 + (5 * v1)) + 0) = nI j1) (b2 : ((10 + (8 * j1)) + 4) < 2156) (c1 : ¬ X 134 0 < (X 134 ((628 + (5 * v1)) + 2)) + (X 134 ((10 + (8 * j1)) + 4))) (k : Ev g mX12_end d n n post n 68 [some (.ref 133), some (.int (nI v1))] [.int (nI v1), .ref 133] X) : Ev g mX12_end d n n post n 16 [some (.ref 133), some (.int (nI v1))] [] X := by
  refine ev_iload_n dX12_end_16 rfl ?_
  refine ev_aload_n dX12_end_17 rfl ?_
  refine ev_getS (q := 134) dX12_end_18 fo_12_9 (by omega) lo_133 rfl (sh_133_0 hX (by omega)) (by decide) ?_
  refine ev_bipush (v := 7) dX12_end_21 kb_7 ?_
  refine ev_iald dX12_end_23 (by omega) ly_134 nIl_7 (by decide) ?_
  refine ev_icmpF (tgt := 77) dX12_end_24 (by decide) c0 ?_
  refine ev_aload_n dX12_end_27 rfl ?_
  refine ev_getS (q := 134) dX12_end_28 fo_12_9 (by omega) lo_133 rfl (sh_133_0 hX (by omega)) (by decide) ?_
  refine ev_iload_n dX12_end_31 rfl ?_
  refine ev_iconst (v := 2) dX12_end_32 ki_2 ?_
  refine e_Si (as := [.int (nI v1), .int 2]) (rest := [.ref 134]) dX12_end_33 vX12_ofLot ml_12_261 stX12_ofLot npX12_ofLot (by decide) rfl (Nat.le_of_ble_eq_true rfl) (by omega) (c_X12_ofLot (d := d - 1) (by omega) (by omega) hX ) ?_
  refine ev_iald dX12_end_36 (by omega) ly_134 (by show (nI 628 + (nI 5 * nI v1)) + nI 2 = nI ((628 + (5 * v1)) + 2); simp only [pk_mul, nI_add]) b0 ?_
  refine ev_aload_n dX12_end_37 rfl ?_
  refine ev_getS (q := 134) dX12_end_38 fo_12_9 (by omega) lo_133 rfl (sh_133_0 hX (by omega)) (by decide) ?_
  refine ev_aload_n dX12_end_41 rfl ?_
  refine ev_getS (q := 134) dX12_end_42 fo_12_9 (by omega) lo_133 rfl (sh_133_0 hX (by omega)) (by decide) ?_
  refine ev_iload_n dX12_end_45 rfl ?_
  refine ev_iconst (v := 0) dX12_end_46 ki_0 ?_
  refine e_Si (as := [.int (nI v1), .int 0]) (rest := [.ref 134, .ref 134, .int (X 134 ((628 + (5 * v1)) + 2))]) dX12_end_47 vX12_ofLot ml_12_261 stX12_ofLot npX12_ofLot (by decide) rfl (Nat.le_of_ble_eq_true rfl) (by omega) (c_X12_ofLot (d := d - 1) (by omega) (by omega) hX ) ?_
  refine ev_iald dX12_end_50 (by omega) ly_134 (by show (nI 628 + (nI 5 * nI v1)) + nI 0 = nI ((628 + (5 * v1)) + 0); simp only [pk_mul, nI_add]) b1 ?_
  refine ev_iconst (v := 4) dX12_end_51 ki_4 ?_
  refine e_Si (as := [.int (X 134 ((628 + (5 * v1)) + 0)), .int 4]) (rest := [.ref 134, .int (X 134 ((628 + (5 * v1)) + 2))]) dX12_end_52 vX12_ofPart ml_12_59 stX12_ofPart npX12_ofPart (by decide) rfl (Nat.le_of_ble_eq_true rfl) (by omega) (c_X12_ofPart (d := d - 1) (by omega) (by omega) hX ) ?_
  refine ev_iald dX12_end_55 (by omega) ly_134 (by rw [hj1]; show (nI 10 + (nI 8 * nI j1)) + nI 4 = nI ((10 + (8 * j1)) + 4); simp only [pk_mul, nI_add]) b2 ?_
  refine ev_iadd dX12_end_56 ?_
  refine ev_aload_n dX12_end_57 rfl ?_
  refine ev_getS (q := 134) dX12_end_58 fo_12_9 (by omega) lo_133 rfl (sh_133_0 hX (by omega)) (by decide) ?_
  refine ev_iconst (v := 0) dX12_end_61 ki_0 ?_
  refine ev_iald dX12_end_62 (by omega) ly_134 nIl_0 (by decide) ?_
  refine ev_icmpF (tgt := 71) dX12_end_63 (by decide) c1 ?_
  refine ev_aload_n dX12_end_66 rfl ?_
  refine ev_iload_n dX12_end_67 rfl ?_
  exact k
theorem bX12_end_16_1 {g : GG} {d n : Nat} {post : Option Value → LX → Prop} {X : LX} (hd : 1 ≤ d) (hn : 146 ≤ n) (hX : Sh n X) {v1 : Nat} {j1 : Nat} (c0 : ¬ X 134 7 ≤ nI v1) (b0 : ((628 + (5 * v1)) + 2) < 2156) (b1 : ((628 + (5 * v1)) + 0) < 2156) (hj1 : X 134 ((628 + (5 * v1)) + 0) = nI j1) (b2 : ((10 + (8 * j1)) + 4) < 2156) (c1 : X 134 0 < (X 134 ((628 + (5 * v1)) + 2)) + (X 134 ((10 + (8 * j1)) + 4))) (k : Ev g mX12_end d n n post n 16 [some (.ref 133), some (.int ((nI v1) + 1))] [] X) : Ev g mX12_end d n n post n 16 [some (.ref 133), some (.int (nI v1))] [] X := by
  refine ev_iload_n dX12_end_16 rfl ?_
  refine ev_aload_n dX12_end_17 rfl ?_
  refine ev_getS (q := 134) dX12_end_18 fo_12_9 (by omega) lo_133 rfl (sh_133_0 hX (by omega)) (by decide) ?_
  refine ev_bipush (v := 7) dX12_end_21 kb_7 ?_
  refine ev_iald dX12_end_23 (by omega) ly_134 nIl_7 (by decide) ?_
  refine ev_icmpF (tgt := 77) dX12_end_24 (by decide) c0 ?_
  refine ev_aload_n dX12_end_27 rfl ?_
  refine ev_getS (q := 134) dX12_end_28 fo_12_9 (by omega) lo_133 rfl (sh_133_0 hX (by omega)) (by decide) ?_
  refine ev_iload_n dX12_end_31 rfl ?_
  refine ev_iconst (v := 2) dX12_end_32 ki_2 ?_
  refine e_Si (as := [.int (nI v1), .int 2]) (rest := [.ref 134]) dX12_end_33 vX12_ofLot ml_12_261 stX12_ofLot npX12_ofLot (by decide) rfl (Nat.le_of_ble_eq_true rfl) (by omega) (c_X12_ofLot (d := d - 1) (by omega) (by omega) hX ) ?_
  refine ev_iald dX12_end_36 (by omega) ly_134 (by show (nI 628 + (nI 5 * nI v1)) + nI 2 = nI ((628 + (5 * v1)) + 2); simp only [pk_mul, nI_add]) b0 ?_
  refine ev_aload_n dX12_end_37 rfl ?_
  refine ev_getS (q := 134) dX12_end_38 fo_12_9 (by omega) lo_133 rfl (sh_133_0 hX (by omega)) (by decide) ?_
  refine ev_aload_n dX12_end_41 rfl ?_
  refine ev_getS (q := 134) dX12_end_42 fo_12_9 (by omega) lo_133 rfl (sh_133_0 hX (by omega)) (by decide) ?_
  refine ev_iload_n dX12_end_45 rfl ?_
  refine ev_iconst (v := 0) dX12_end_46 ki_0 ?_
  refine e_Si (as := [.int (nI v1), .int 0]) (rest := [.ref 134, .ref 134, .int (X 134 ((628 + (5 * v1)) + 2))]) dX12_end_47 vX12_ofLot ml_12_261 stX12_ofLot npX12_ofLot (by decide) rfl (Nat.le_of_ble_eq_true rfl) (by omega) (c_X12_ofLot (d := d - 1) (by omega) (by omega) hX ) ?_
  refine ev_iald dX12_end_50 (by omega) ly_134 (by show (nI 628 + (nI 5 * nI v1)) + nI 0 = nI ((628 + (5 * v1)) + 0); simp only [pk_mul, nI_add]) b1 ?_
  refine ev_iconst (v := 4) dX12_end_51 ki_4 ?_
  refine e_Si (as := [.int (X 134 ((628 + (5 * v1)) + 0)), .int 4]) (rest := [.ref 134, .int (X 134 ((628 + (5 * v1)) + 2))]) dX12_end_52 vX12_ofPart ml_12_59 stX12_ofPart npX12_ofPart (by decide) rfl (Nat.le_of_ble_eq_true rfl) (by omega) (c_X12_ofPart (d := d - 1) (by omega) (by omega) hX ) ?_
  refine ev_iald dX12_end_55 (by omega) ly_134 (by rw [hj1]; show (nI 10 + (nI 8 * nI j1)) + nI 4 = nI ((10 + (8 * j1)) + 4); simp only [pk_mul, nI_add]) b2 ?_
  refine ev_iadd dX12_end_56 ?_
  refine ev_aload_n dX12_end_57 rfl ?_
  refine ev_getS (q := 134) dX12_end_58 fo_12_9 (by omega) lo_133 rfl (sh_133_0 hX (by omega)) (by decide) ?_
  refine ev_iconst (v := 0) dX12_end_61 ki_0 ?_
  refine ev_iald dX12_end_62 (by omega) ly_134 nIl_0 (by decide) ?_
  refine ev_icmpT (tgt := 71) dX12_end_63 (by decide) c1 ?_
  refine ev_iinc (v := (nI v1) + 1) dX12_end_71 rfl (by rw [show Int32.ofInt 1 = 1 from ki_1]) (by decide) ?_
  refine ev_goto (tgt := 16) dX12_end_74 (by decide) ?_
  exact k
theorem bX12_end_16_2 {g : GG} {d n : Nat} {post : Option Value → LX → Prop} {X : LX} (hn : 146 ≤ n) (hX : Sh n X) {v1 : Int32} (c0 : X 134 7 ≤ v1) (k : Ev g mX12_end d n n post n 104 [some (.ref 133), some (.int 0)] [] (lx_up (lx_up (lx_up X 134 0 ((X 134 0) + 1)) 134 3 0) 134 8 0)) : Ev g mX12_end d n n post n 16 [some (.ref 133), some (.int v1)] [] X := by
  refine ev_iload_n dX12_end_16 rfl ?_
  refine ev_aload_n dX12_end_17 rfl ?_
  refine ev_getS (q := 134) dX12_end_18 fo_12_9 (by omega) lo_133 rfl (sh_133_0 hX (by omega)) (by decide) ?_
  refine ev_bipush (v := 7) dX12_end_21 kb_7 ?_
  refine ev_iald dX12_end_23 (by omega) ly_134 nIl_7 (by decide) ?_
  refine ev_icmpT (tgt := 77) dX12_end_24 (by decide) c0 ?_
  refine ev_aload_n dX12_end_77 rfl ?_
  refine ev_getS (q := 134) dX12_end_78 fo_12_9 (by omega) lo_133 rfl (sh_133_0 hX (by omega)) (by decide) ?_
  refine ev_iconst (v := 0) dX12_end_81 ki_0 ?_
  refine ev_dup2 dX12_end_82 rfl rfl ?_
  refine ev_iald dX12_end_83 (by omega) ly_134 nIl_0 (by decide) ?_
  refine ev_iconst (v := 1) dX12_end_84 ki_1 ?_
  refine ev_iadd dX12_end_85 ?_
  refine ev_iast dX12_end_86 (by omega) ly_134 nIl_0 (by decide) ?_
  have hX1 : Sh _ (lx_up X 134 0 ((X 134 0) + 1)) := Sh.upA hX (by rw [ly_134]; exact (by decide : 0 < 2))
  refine ev_aload_n dX12_end_87 rfl ?_
  refine ev_getS (q := 134) dX12_end_88 fo_12_9 (by omega) lo_133 rfl (sh_133_0 hX1 (by omega)) (by decide) ?_
  refine ev_iconst (v := 3) dX12_end_91 ki_3 ?_
  refine ev_iconst (v := 0) dX12_end_92 ki_0 ?_
  refine ev_iast dX12_end_93 (by omega) ly_134 nIl_3 (by decide) ?_
  have hX2 : Sh _ (lx_up (lx_up X 134 0 ((X 134 0) + 1)) 134 3 0) := Sh.upA hX1 (by rw [ly_134]; exact (by decide : 0 < 2))
  refine ev_aload_n dX12_end_94 rfl ?_
  refine ev_getS (q := 134) dX12_end_95 fo_12_9 (by omega) lo_133 rfl (sh_133_0 hX2 (by omega)) (by decide) ?_
  refine ev_bipush (v := 8) dX12_end_98 kb_8 ?_
  refine ev_iconst (v := 0) dX12_end_100 ki_0 ?_
  refine ev_iast dX12_end_101 (by omega) ly_134 nIl_8 (by decide) ?_
  have hX3 : Sh _ (lx_up (lx_up (lx_up X 134 0 ((X 134 0) + 1)) 134 3 0) 134 8 0) := Sh.upA hX2 (by rw [ly_134]; exact (by decide : 0 < 2))
  refine ev_iconst (v := 0) dX12_end_102 ki_0 ?_
  refine ev_istore_n dX12_end_103 (by decide) ?_
  exact k
theorem bX12_end_71_0 {g : GG} {d n : Nat} {post : Option Value → LX → Prop} {X : LX} (hn : 146 ≤ n) (hX : Sh n X) {v1 : Int32} (k : Ev g mX12_end d n n post n 16 [some (.ref 133), some (.int (v1 + 1))] [] X) : Ev g mX12_end d n n post n 71 [some (.ref 133), some (.int v1)] [] X := by
  refine ev_iinc (v := v1 + 1) dX12_end_71 rfl (by rw [show Int32.ofInt 1 = 1 from ki_1]) (by decide) ?_
  refine ev_goto (tgt := 16) dX12_end_74 (by decide) ?_
  exact k
theorem bX12_end_104_0 {g : GG} {d n : Nat} {post : Option Value → LX → Prop} {X : LX} (hd : 1 ≤ d) (hn : 146 ≤ n) (hX : Sh n X) {v1 : Nat} (c0 : ¬ X 134 6 ≤ nI v1) (b0 : ((448 + (15 * v1)) + 4) < 2156) (k : Ev g mX12_end d n n post n 104 [some (.ref 133), some (.int ((nI v1) + 1))] [] (lx_up X 134 ((448 + (15 * v1)) + 4) 0)) : Ev g mX12_end d n n post n 104 [some (.ref 133), some (.int (nI v1))] [] X := by
  refine ev_iload_n dX12_end_104 rfl ?_
  refine ev_aload_n dX12_end_105 rfl ?_
  refine ev_getS (q := 134) dX12_end_106 fo_12_9 (by omega) lo_133 rfl (sh_133_0 hX (by omega)) (by decide) ?_
  refine ev_bipush (v := 6) dX12_end_109 kb_6 ?_
  refine ev_iald dX12_end_111 (by omega) ly_134 nIl_6 (by decide) ?_
  refine ev_icmpF (tgt := 132) dX12_end_112 (by decide) c0 ?_
  refine ev_aload_n dX12_end_115 rfl ?_
  refine ev_getS (q := 134) dX12_end_116 fo_12_9 (by omega) lo_133 rfl (sh_133_0 hX (by omega)) (by decide) ?_
  refine ev_iload_n dX12_end_119 rfl ?_
  refine ev_iconst (v := 4) dX12_end_120 ki_4 ?_
  refine e_Si (as := [.int (nI v1), .int 4]) (rest := [.ref 134]) dX12_end_121 vX12_ofFamily ml_12_99 stX12_ofFamily npX12_ofFamily (by decide) rfl (Nat.le_of_ble_eq_true rfl) (by omega) (c_X12_ofFamily (d := d - 1) (by omega) (by omega) hX ) ?_
  refine ev_iconst (v := 0) dX12_end_124 ki_0 ?_
  refine ev_iast dX12_end_125 (by omega) ly_134 (by show (nI 448 + (nI 15 * nI v1)) + nI 4 = nI ((448 + (15 * v1)) + 4); simp only [pk_mul, nI_add]) b0 ?_
  have hX1 : Sh _ (lx_up X 134 ((448 + (15 * v1)) + 4) 0) := Sh.upA hX (by rw [ly_134]; exact (by decide : 0 < 2))
  refine ev_iinc (v := (nI v1) + 1) dX12_end_126 rfl (by rw [show Int32.ofInt 1 = 1 from ki_1]) (by decide) ?_
  refine ev_goto (tgt := 104) dX12_end_129 (by decide) ?_
  exact k
theorem bX12_end_104_1 {g : GG} {d n : Nat} {post : Option Value → LX → Prop} {X : LX} (hn : 146 ≤ n) (hX : Sh n X) {v1 : Int32} (c0 : X 134 6 ≤ v1) (hp : post (some (.int (X 134 0))) X) : Ev g mX12_end d n n post n 104 [some (.ref 133), some (.int v1)] [] X := by
  refine ev_iload_n dX12_end_104 rfl ?_
  refine ev_aload_n dX12_end_105 rfl ?_
  refine ev_getS (q := 134) dX12_end_106 fo_12_9 (by omega) lo_133 rfl (sh_133_0 hX (by omega)) (by decide) ?_
  refine ev_bipush (v := 6) dX12_end_109 kb_6 ?_
  refine ev_iald dX12_end_111 (by omega) ly_134 nIl_6 (by decide) ?_
  refine ev_icmpT (tgt := 132) dX12_end_112 (by decide) c0 ?_
  refine ev_aload_n dX12_end_132 rfl ?_
  refine ev_getS (q := 134) dX12_end_133 fo_12_9 (by omega) lo_133 rfl (sh_133_0 hX (by omega)) (by decide) ?_
  refine ev_iconst (v := 0) dX12_end_136 ki_0 ?_
  refine ev_iald dX12_end_137 (by omega) ly_134 nIl_0 (by decide) ?_
  exact ev_iret dX12_end_138 rfl rfl hp
theorem bX11_picks_0_0 {g : GG} {d n : Nat} {post : Option Value → LX → Prop} {X : LX} (hd : 1 ≤ d) (hn : 146 ≤ n) (hX : Sh n X) {v1 : Int32} {v2 : Int32} {v3 : Int32} (c0 : 0 ≤ v1 ∧ v1 ≤ 3) (c1 : 0 ≤ v2 ∧ v2 ≤ 1) (c2 : 0 ≤ v3 ∧ v3 >>> ((X 37 0) &&& 31) = 0) (k : Ev g mX11_picks d n n post n 48 [some (.ref 0), some (.int v1), some (.int v2), some (.int v3)] [.int v3, .int v2, .int v1, .ref 110] X) : Ev g mX11_picks d n n post n 0 [some (.ref 0), some (.int v1), some (.int v2), some (.int v3)] [] X := by
  refine ev_iload_n dX11_picks_0 rfl ?_
  refine ev_iconst (v := 0) dX11_picks_1 ki_0 ?_
  refine ev_iconst (v := 3) dX11_picks_2 ki_3 ?_
  refine e_Si (as := [.int v1, .int 0, .int 3]) (rest := []) dX11_picks_3 vX11_isIn ml_11_57 stX11_isIn npX11_isIn (by decide) rfl (Nat.le_of_ble_eq_true rfl) (by omega) (t_X11_isIn (d := d - 1) (by omega) (by omega) hX c0) ?_
  refine ev_ifF (tgt := 18) dX11_picks_6 (by decide) (by show ¬ (1 : Int32) = 0; decide) ?_
  refine ev_iload_n dX11_picks_9 rfl ?_
  refine ev_iconst (v := 0) dX11_picks_10 ki_0 ?_
  refine ev_iconst (v := 1) dX11_picks_11 ki_1 ?_
  refine e_Si (as := [.int v2, .int 0, .int 1]) (rest := []) dX11_picks_12 vX11_isIn ml_11_57 stX11_isIn npX11_isIn (by decide) rfl (Nat.le_of_ble_eq_true rfl) (by omega) (t_X11_isIn (d := d - 1) (by omega) (by omega) hX c1) ?_
  refine ev_ifT (tgt := 21) dX11_picks_15 (by decide) (by show ¬ (1 : Int32) = 0; decide) ?_
  refine ev_iload_n dX11_picks_21 rfl ?_
  refine ev_aload_n dX11_picks_22 rfl ?_
  refine ev_getS (q := 1) dX11_picks_23 fo_11_10 (by omega) lo_0 rfl (sh_0_0 hX (by omega)) (by decide) ?_
  refine ev_getS (q := 37) dX11_picks_26 fo_11_144 (by omega) lo_1 rfl (sh_1_2 hX (by omega)) (by decide) ?_
  refine ev_getI dX11_picks_29 fo_11_148 (by omega) lo_37 rfl ?_
  refine e_Si (as := [.int v3, .int (X 37 0)]) (rest := []) dX11_picks_32 vX11_isBitsBelow ml_11_251 stX11_isBitsBelow npX11_isBitsBelow (by decide) rfl (Nat.le_of_ble_eq_true rfl) (by omega) (t_X11_isBitsBelow (d := d - 1) (by omega) (by omega) hX c2) ?_
  refine ev_ifT (tgt := 41) dX11_picks_35 (by decide) (by show ¬ (1 : Int32) = 0; decide) ?_
  refine ev_aload_n dX11_picks_41 rfl ?_
  refine ev_getS (q := 110) dX11_picks_42 fo_11_42 (by omega) lo_0 rfl (sh_0_4 hX (by omega)) (by decide) ?_
  refine ev_iload_n dX11_picks_45 rfl ?_
  refine ev_iload_n dX11_picks_46 rfl ?_
  refine ev_iload_n dX11_picks_47 rfl ?_
  exact k
theorem bX11_picks_0_1 {g : GG} {d n : Nat} {post : Option Value → LX → Prop} {X : LX} (hd : 1 ≤ d) (hn : 146 ≤ n) (hX : Sh n X) {v1 : Int32} {v2 : Int32} {v3 : Int32} (c0 : 0 ≤ v1 ∧ v1 ≤ 3) (c1 : 0 ≤ v2 ∧ v2 ≤ 1) (c2 : ¬ (0 ≤ v3 ∧ v3 >>> ((X 37 0) &&& 31) = 0)) (hp : post (some (.int (-1000000001))) X) : Ev g mX11_picks d n n post n 0 [some (.ref 0), some (.int v1), some (.int v2), some (.int v3)] [] X := by
  refine ev_iload_n dX11_picks_0 rfl ?_
  refine ev_iconst (v := 0) dX11_picks_1 ki_0 ?_
  refine ev_iconst (v := 3) dX11_picks_2 ki_3 ?_
  refine e_Si (as := [.int v1, .int 0, .int 3]) (rest := []) dX11_picks_3 vX11_isIn ml_11_57 stX11_isIn npX11_isIn (by decide) rfl (Nat.le_of_ble_eq_true rfl) (by omega) (t_X11_isIn (d := d - 1) (by omega) (by omega) hX c0) ?_
  refine ev_ifF (tgt := 18) dX11_picks_6 (by decide) (by show ¬ (1 : Int32) = 0; decide) ?_
  refine ev_iload_n dX11_picks_9 rfl ?_
  refine ev_iconst (v := 0) dX11_picks_10 ki_0 ?_
  refine ev_iconst (v := 1) dX11_picks_11 ki_1 ?_
  refine e_Si (as := [.int v2, .int 0, .int 1]) (rest := []) dX11_picks_12 vX11_isIn ml_11_57 stX11_isIn npX11_isIn (by decide) rfl (Nat.le_of_ble_eq_true rfl) (by omega) (t_X11_isIn (d := d - 1) (by omega) (by omega) hX c1) ?_
  refine ev_ifT (tgt := 21) dX11_picks_15 (by decide) (by show ¬ (1 : Int32) = 0; decide) ?_
  refine ev_iload_n dX11_picks_21 rfl ?_
  refine ev_aload_n dX11_picks_22 rfl ?_
  refine ev_getS (q := 1) dX11_picks_23 fo_11_10 (by omega) lo_0 rfl (sh_0_0 hX (by omega)) (by decide) ?_
  refine ev_getS (q := 37) dX11_picks_26 fo_11_144 (by omega) lo_1 rfl (sh_1_2 hX (by omega)) (by decide) ?_
  refine ev_getI dX11_picks_29 fo_11_148 (by omega) lo_37 rfl ?_
  refine e_Si (as := [.int v3, .int (X 37 0)]) (rest := []) dX11_picks_32 vX11_isBitsBelow ml_11_251 stX11_isBitsBelow npX11_isBitsBelow (by decide) rfl (Nat.le_of_ble_eq_true rfl) (by omega) (f_X11_isBitsBelow (d := d - 1) (by omega) (by omega) hX c2) ?_
  refine ev_ifF (tgt := 41) dX11_picks_35 (by decide) (by show (0 : Int32) = 0; decide) ?_
  refine ev_ldc (v := (-1000000001)) dX11_picks_38 kw_11_61 ?_
  exact ev_iret dX11_picks_40 rfl rfl hp
theorem bX11_picks_0_2 {g : GG} {d n : Nat} {post : Option Value → LX → Prop} {X : LX} (hd : 1 ≤ d) (hn : 146 ≤ n) (hX : Sh n X) {v1 : Int32} {v2 : Int32} {v3 : Int32} (c0 : 0 ≤ v1 ∧ v1 ≤ 3) (c1 : ¬ (0 ≤ v2 ∧ v2 ≤ 1)) (hp : post (some (.int (-1000000001))) X) : Ev g mX11_picks d n n post n 0 [some (.ref 0), some (.int v1), some (.int v2), some (.int v3)] [] X := by
  refine ev_iload_n dX11_picks_0 rfl ?_
  refine ev_iconst (v := 0) dX11_picks_1 ki_0 ?_
  refine ev_iconst (v := 3) dX11_picks_2 ki_3 ?_
  refine e_Si (as := [.int v1, .int 0, .int 3]) (rest := []) dX11_picks_3 vX11_isIn ml_11_57 stX11_isIn npX11_isIn (by decide) rfl (Nat.le_of_ble_eq_true rfl) (by omega) (t_X11_isIn (d := d - 1) (by omega) (by omega) hX c0) ?_
  refine ev_ifF (tgt := 18) dX11_picks_6 (by decide) (by show ¬ (1 : Int32) = 0; decide) ?_
  refine ev_iload_n dX11_picks_9 rfl ?_
  refine ev_iconst (v := 0) dX11_picks_10 ki_0 ?_
  refine ev_iconst (v := 1) dX11_picks_11 ki_1 ?_
  refine e_Si (as := [.int v2, .int 0, .int 1]) (rest := []) dX11_picks_12 vX11_isIn ml_11_57 stX11_isIn npX11_isIn (by decide) rfl (Nat.le_of_ble_eq_true rfl) (by omega) (f_X11_isIn (d := d - 1) (by omega) (by omega) hX c1) ?_
  refine ev_ifF (tgt := 21) dX11_picks_15 (by decide) (by show (0 : Int32) = 0; decide) ?_
  refine ev_ldc (v := (-1000000001)) dX11_picks_18 kw_11_61 ?_
  exact ev_iret dX11_picks_20 rfl rfl hp
theorem bX11_picks_0_3 {g : GG} {d n : Nat} {post : Option Value → LX → Prop} {X : LX} (hd : 1 ≤ d) (hn : 146 ≤ n) (hX : Sh n X) {v1 : Int32} {v2 : Int32} {v3 : Int32} (c0 : ¬ (0 ≤ v1 ∧ v1 ≤ 3)) (hp : post (some (.int (-1000000001))) X) : Ev g mX11_picks d n n post n 0 [some (.ref 0), some (.int v1), some (.int v2), some (.int v3)] [] X := by
  refine ev_iload_n dX11_picks_0 rfl ?_
  refine ev_iconst (v := 0) dX11_picks_1 ki_0 ?_
  refine ev_iconst (v := 3) dX11_picks_2 ki_3 ?_
  refine e_Si (as := [.int v1, .int 0, .int 3]) (rest := []) dX11_picks_3 vX11_isIn ml_11_57 stX11_isIn npX11_isIn (by decide) rfl (Nat.le_of_ble_eq_true rfl) (by omega) (f_X11_isIn (d := d - 1) (by omega) (by omega) hX c0) ?_
  refine ev_ifT (tgt := 18) dX11_picks_6 (by decide) (by show (0 : Int32) = 0; decide) ?_
  refine ev_ldc (v := (-1000000001)) dX11_picks_18 kw_11_61 ?_
  exact ev_iret dX11_picks_20 rfl rfl hp
theorem bX11_picks_51_0 {g : GG} {d n : Nat} {post : Option Value → LX → Prop} {X : LX} (hn : 146 ≤ n) (hX : Sh n X) {v1 : Int32} {v2 : Int32} {v3 : Int32} {s0 : Int32} (hp : post (some (.int s0)) X) : Ev g mX11_picks d n n post n 51 [some (.ref 0), some (.int v1), some (.int v2), some (.int v3)] [.int s0] X := by
  exact ev_iret dX11_picks_51 rfl rfl hp
theorem bX12_picks_0_0 {g : GG} {d n : Nat} {post : Option Value → LX → Prop} {X : LX} (hd : 1 ≤ d) (hn : 146 ≤ n) (hX : Sh n X) {v1 : Int32} {v2 : Int32} {v3 : Int32} (c0 : 0 ≤ v1 ∧ v1 ≤ 3) (c1 : 0 ≤ v2 ∧ v2 ≤ 1) (c2 : ¬ v3 < 0) (c3 : ¬ v3 < 1 <<< ((X 134 6) &&& 31)) (hp : post (some (.int (-1000000001))) X) : Ev g mX12_picks d n n post n 0 [some (.ref 133), some (.int v1), some (.int v2), some (.int v3)] [] X := by
  refine ev_iload_n dX12_picks_0 rfl ?_
  refine ev_iconst (v := 0) dX12_picks_1 ki_0 ?_
  refine ev_iconst (v := 3) dX12_picks_2 ki_3 ?_
  refine e_Si (as := [.int v1, .int 0, .int 3]) (rest := []) dX12_picks_3 vX12_within ml_12_52 stX12_within npX12_within (by decide) rfl (Nat.le_of_ble_eq_true rfl) (by omega) (t_X12_within (d := d - 1) (by omega) (by omega) hX c0) ?_
  refine ev_ifF (tgt := 35) dX12_picks_6 (by decide) (by show ¬ (1 : Int32) = 0; decide) ?_
  refine ev_iload_n dX12_picks_9 rfl ?_
  refine ev_iconst (v := 0) dX12_picks_10 ki_0 ?_
  refine ev_iconst (v := 1) dX12_picks_11 ki_1 ?_
  refine e_Si (as := [.int v2, .int 0, .int 1]) (rest := []) dX12_picks_12 vX12_within ml_12_52 stX12_within npX12_within (by decide) rfl (Nat.le_of_ble_eq_true rfl) (by omega) (t_X12_within (d := d - 1) (by omega) (by omega) hX c1) ?_
  refine ev_ifF (tgt := 35) dX12_picks_15 (by decide) (by show ¬ (1 : Int32) = 0; decide) ?_
  refine ev_iload_n dX12_picks_18 rfl ?_
  refine ev_ifF (tgt := 35) dX12_picks_19 (by decide) c2 ?_
  refine ev_iload_n dX12_picks_22 rfl ?_
  refine ev_iconst (v := 1) dX12_picks_23 ki_1 ?_
  refine ev_aload_n dX12_picks_24 rfl ?_
  refine ev_getS (q := 134) dX12_picks_25 fo_12_9 (by omega) lo_133 rfl (sh_133_0 hX (by omega)) (by decide) ?_
  refine ev_bipush (v := 6) dX12_picks_28 kb_6 ?_
  refine ev_iald dX12_picks_30 (by omega) ly_134 nIl_6 (by decide) ?_
  refine ev_ishl dX12_picks_31 ?_
  refine ev_icmpF (tgt := 38) dX12_picks_32 (by decide) c3 ?_
  refine ev_ldc (v := (-1000000001)) dX12_picks_35 kw_12_57 ?_
  exact ev_iret dX12_picks_37 rfl rfl hp
theorem bX12_picks_0_1 {g : GG} {d n : Nat} {post : Option Value → LX → Prop} {X : LX} (hd : 1 ≤ d) (hn : 146 ≤ n) (hX : Sh n X) {v1 : Int32} {v2 : Int32} {v3 : Int32} (c0 : 0 ≤ v1 ∧ v1 ≤ 3) (c1 : 0 ≤ v2 ∧ v2 ≤ 1) (c2 : ¬ v3 < 0) (c3 : v3 < 1 <<< ((X 134 6) &&& 31)) (k : Ev g mX12_picks d n n post n 39 [some (.ref 133), some (.int v1), some (.int v2), some (.int v3)] [.ref 133] X) : Ev g mX12_picks d n n post n 0 [some (.ref 133), some (.int v1), some (.int v2), some (.int v3)] [] X := by
  refine ev_iload_n dX12_picks_0 rfl ?_
  refine ev_iconst (v := 0) dX12_picks_1 ki_0 ?_
  refine ev_iconst (v := 3) dX12_picks_2 ki_3 ?_
  refine e_Si (as := [.int v1, .int 0, .int 3]) (rest := []) dX12_picks_3 vX12_within ml_12_52 stX12_within npX12_within (by decide) rfl (Nat.le_of_ble_eq_true rfl) (by omega) (t_X12_within (d := d - 1) (by omega) (by omega) hX c0) ?_
  refine ev_ifF (tgt := 35) dX12_picks_6 (by decide) (by show ¬ (1 : Int32) = 0; decide) ?_
  refine ev_iload_n dX12_picks_9 rfl ?_
  refine ev_iconst (v := 0) dX12_picks_10 ki_0 ?_
  refine ev_iconst (v := 1) dX12_picks_11 ki_1 ?_
  refine e_Si (as := [.int v2, .int 0, .int 1]) (rest := []) dX12_picks_12 vX12_within ml_12_52 stX12_within npX12_within (by decide) rfl (Nat.le_of_ble_eq_true rfl) (by omega) (t_X12_within (d := d - 1) (by omega) (by omega) hX c1) ?_
  refine ev_ifF (tgt := 35) dX12_picks_15 (by decide) (by show ¬ (1 : Int32) = 0; decide) ?_
  refine ev_iload_n dX12_picks_18 rfl ?_
  refine ev_ifF (tgt := 35) dX12_picks_19 (by decide) c2 ?_
  refine ev_iload_n dX12_picks_22 rfl ?_
  refine ev_iconst (v := 1) dX12_picks_23 ki_1 ?_
  refine ev_aload_n dX12_picks_24 rfl ?_
  refine ev_getS (q := 134) dX12_picks_25 fo_12_9 (by omega) lo_133 rfl (sh_133_0 hX (by omega)) (by decide) ?_
  refine ev_bipush (v := 6) dX12_picks_28 kb_6 ?_
  refine ev_iald dX12_picks_30 (by omega) ly_134 nIl_6 (by decide) ?_
  refine ev_ishl dX12_picks_31 ?_
  refine ev_icmpT (tgt := 38) dX12_picks_32 (by decide) c3 ?_
  refine ev_aload_n dX12_picks_38 rfl ?_
  exact k
theorem bX12_picks_0_2 {g : GG} {d n : Nat} {post : Option Value → LX → Prop} {X : LX} (hd : 1 ≤ d) (hn : 146 ≤ n) (hX : Sh n X) {v1 : Int32} {v2 : Int32} {v3 : Int32} (c0 : 0 ≤ v1 ∧ v1 ≤ 3) (c1 : 0 ≤ v2 ∧ v2 ≤ 1) (c2 : v3 < 0) (hp : post (some (.int (-1000000001))) X) : Ev g mX12_picks d n n post n 0 [some (.ref 133), some (.int v1), some (.int v2), some (.int v3)] [] X := by
  refine ev_iload_n dX12_picks_0 rfl ?_
  refine ev_iconst (v := 0) dX12_picks_1 ki_0 ?_
  refine ev_iconst (v := 3) dX12_picks_2 ki_3 ?_
  refine e_Si (as := [.int v1, .int 0, .int 3]) (rest := []) dX12_picks_3 vX12_within ml_12_52 stX12_within npX12_within (by decide) rfl (Nat.le_of_ble_eq_true rfl) (by omega) (t_X12_within (d := d - 1) (by omega) (by omega) hX c0) ?_
  refine ev_ifF (tgt := 35) dX12_picks_6 (by decide) (by show ¬ (1 : Int32) = 0; decide) ?_
  refine ev_iload_n dX12_picks_9 rfl ?_
  refine ev_iconst (v := 0) dX12_picks_10 ki_0 ?_
  refine ev_iconst (v := 1) dX12_picks_11 ki_1 ?_
  refine e_Si (as := [.int v2, .int 0, .int 1]) (rest := []) dX12_picks_12 vX12_within ml_12_52 stX12_within npX12_within (by decide) rfl (Nat.le_of_ble_eq_true rfl) (by omega) (t_X12_within (d := d - 1) (by omega) (by omega) hX c1) ?_
  refine ev_ifF (tgt := 35) dX12_picks_15 (by decide) (by show ¬ (1 : Int32) = 0; decide) ?_
  refine ev_iload_n dX12_picks_18 rfl ?_
  refine ev_ifT (tgt := 35) dX12_picks_19 (by decide) c2 ?_
  refine ev_ldc (v := (-1000000001)) dX12_picks_35 kw_12_57 ?_
  exact ev_iret dX12_picks_37 rfl rfl hp
theorem bX12_picks_0_3 {g : GG} {d n : Nat} {post : Option Value → LX → Prop} {X : LX} (hd : 1 ≤ d) (hn : 146 ≤ n) (hX : Sh n X) {v1 : Int32} {v2 : Int32} {v3 : Int32} (c0 : 0 ≤ v1 ∧ v1 ≤ 3) (c1 : ¬ (0 ≤ v2 ∧ v2 ≤ 1)) (hp : post (some (.int (-1000000001))) X) : Ev g mX12_picks d n n post n 0 [some (.ref 133), some (.int v1), some (.int v2), some (.int v3)] [] X := by
  refine ev_iload_n dX12_picks_0 rfl ?_
  refine ev_iconst (v := 0) dX12_picks_1 ki_0 ?_
  refine ev_iconst (v := 3) dX12_picks_2 ki_3 ?_
  refine e_Si (as := [.int v1, .int 0, .int 3]) (rest := []) dX12_picks_3 vX12_within ml_12_52 stX12_within npX12_within (by decide) rfl (Nat.le_of_ble_eq_true rfl) (by omega) (t_X12_within (d := d - 1) (by omega) (by omega) hX c0) ?_
  refine ev_ifF (tgt := 35) dX12_picks_6 (by decide) (by show ¬ (1 : Int32) = 0; decide) ?_
  refine ev_iload_n dX12_picks_9 rfl ?_
  refine ev_iconst (v := 0) dX12_picks_10 ki_0 ?_
  refine ev_iconst (v := 1) dX12_picks_11 ki_1 ?_
  refine e_Si (as := [.int v2, .int 0, .int 1]) (rest := []) dX12_picks_12 vX12_within ml_12_52 stX12_within npX12_within (by decide) rfl (Nat.le_of_ble_eq_true rfl) (by omega) (f_X12_within (d := d - 1) (by omega) (by omega) hX c1) ?_
  refine ev_ifT (tgt := 35) dX12_picks_15 (by decide) (by show (0 : Int32) = 0; decide) ?_
  refine ev_ldc (v := (-1000000001)) dX12_picks_35 kw_12_57 ?_
  exact ev_iret dX12_picks_37 rfl rfl hp
theorem bX12_picks_0_4 {g : GG} {d n : Nat} {post : Option Value → LX → Prop} {X : LX} (hd : 1 ≤ d) (hn : 146 ≤ n) (hX : Sh n X) {v1 : Int32} {v2 : Int32} {v3 : Int32} (c0 : ¬ (0 ≤ v1 ∧ v1 ≤ 3)) (hp : post (some (.int (-1000000001))) X) : Ev g mX12_picks d n n post n 0 [some (.ref 133), some (.int v1), some (.int v2), some (.int v3)] [] X := by
  refine ev_iload_n dX12_picks_0 rfl ?_
  refine ev_iconst (v := 0) dX12_picks_1 ki_0 ?_
  refine ev_iconst (v := 3) dX12_picks_2 ki_3 ?_
  refine e_Si (as := [.int v1, .int 0, .int 3]) (rest := []) dX12_picks_3 vX12_within ml_12_52 stX12_within npX12_within (by decide) rfl (Nat.le_of_ble_eq_true rfl) (by omega) (f_X12_within (d := d - 1) (by omega) (by omega) hX c0) ?_
  refine ev_ifT (tgt := 35) dX12_picks_6 (by decide) (by show (0 : Int32) = 0; decide) ?_
  refine ev_ldc (v := (-1000000001)) dX12_picks_35 kw_12_57 ?_
  exact ev_iret dX12_picks_37 rfl rfl hp
theorem bX12_picks_42_0 {g : GG} {d n : Nat} {post : Option Value → LX → Prop} {X : LX} (hn : 146 ≤ n) (hX : Sh n X) {v1 : Int32} {v2 : Int32} {v3 : Int32} (k : Ev g mX12_picks d n n post n 46 [some (.ref 133), some (.int v1), some (.int v2), some (.int v3)] [.int v3, .int v2, .int v1, .ref 133] X) : Ev g mX12_picks d n n post n 42 [some (.ref 133), some (.int v1), some (.int v2), some (.int v3)] [] X := by
  refine ev_aload_n dX12_picks_42 rfl ?_
  refine ev_iload_n dX12_picks_43 rfl ?_
  refine ev_iload_n dX12_picks_44 rfl ?_
  refine ev_iload_n dX12_picks_45 rfl ?_
  exact k
theorem bX12_picks_49_0 {g : GG} {d n : Nat} {post : Option Value → LX → Prop} {X : LX} (hn : 146 ≤ n) (hX : Sh n X) {v1 : Int32} {v2 : Int32} {v3 : Int32} {s0 : Int32} (hp : post (some (.int s0)) X) : Ev g mX12_picks d n n post n 49 [some (.ref 133), some (.int v1), some (.int v2), some (.int v3)] [.int s0] X := by
  exact ev_iret dX12_picks_49 rfl rfl hp
theorem bX11_kept_0_0 {g : GG} {d n : Nat} {post : Option Value → LX → Prop} {X : LX} (hd : 1 ≤ d) (hn : 146 ≤ n) (hX : Sh n X) {v1 : Int32} (c0 : 0 ≤ v1 ∧ v1 >>> ((X 23 0) &&& 31) = 0) (c1 : 1 ≤ (bc v1) ∧ (bc v1) ≤ 4) (k : Ev g mX11_kept d n n post n 36 [some (.ref 0), some (.int v1)] [.ref 84] X) : Ev g mX11_kept d n n post n 0 [some (.ref 0), some (.int v1)] [] X := by
  refine ev_iload_n dX11_kept_0 rfl ?_
  refine ev_aload_n dX11_kept_1 rfl ?_
  refine ev_getS (q := 1) dX11_kept_2 fo_11_10 (by omega) lo_0 rfl (sh_0_0 hX (by omega)) (by decide) ?_
  refine ev_getS (q := 23) dX11_kept_5 fo_11_96 (by omega) lo_1 rfl (sh_1_1 hX (by omega)) (by decide) ?_
  refine ev_getI dX11_kept_8 fo_11_100 (by omega) lo_23 rfl ?_
  refine e_Si (as := [.int v1, .int (X 23 0)]) (rest := []) dX11_kept_11 vX11_isBitsBelow ml_11_251 stX11_isBitsBelow npX11_isBitsBelow (by decide) rfl (Nat.le_of_ble_eq_true rfl) (by omega) (t_X11_isBitsBelow (d := d - 1) (by omega) (by omega) hX c0) ?_
  refine ev_ifF (tgt := 29) dX11_kept_14 (by decide) (by show ¬ (1 : Int32) = 0; decide) ?_
  refine ev_iload_n dX11_kept_17 rfl ?_
  refine e_Si (as := [.int v1]) (rest := []) dX11_kept_18 vJ6_bitCount_0f7a4 ml_11_260 stJ6_bitCount_0f7a4 npJ6_bitCount_0f7a4 (by decide) rfl (Nat.le_of_ble_eq_true rfl) (by omega) (k_J6_bitCount_0f7a4 (d := d - 1) (by omega) (by omega) hX ) ?_
  refine ev_iconst (v := 1) dX11_kept_21 ki_1 ?_
  refine ev_iconst (v := 4) dX11_kept_22 ki_4 ?_
  refine e_Si (as := [.int (bc v1), .int 1, .int 4]) (rest := []) dX11_kept_23 vX11_isIn ml_11_57 stX11_isIn npX11_isIn (by decide) rfl (Nat.le_of_ble_eq_true rfl) (by omega) (t_X11_isIn (d := d - 1) (by omega) (by omega) hX c1) ?_
  refine ev_ifT (tgt := 32) dX11_kept_26 (by decide) (by show ¬ (1 : Int32) = 0; decide) ?_
  refine ev_aload_n dX11_kept_32 rfl ?_
  refine ev_getS (q := 84) dX11_kept_33 fo_11_28 (by omega) lo_0 rfl (sh_0_2 hX (by omega)) (by decide) ?_
  exact k
theorem bX11_kept_0_1 {g : GG} {d n : Nat} {post : Option Value → LX → Prop} {X : LX} (hd : 1 ≤ d) (hn : 146 ≤ n) (hX : Sh n X) {v1 : Int32} (c0 : 0 ≤ v1 ∧ v1 >>> ((X 23 0) &&& 31) = 0) (c1 : ¬ (1 ≤ (bc v1) ∧ (bc v1) ≤ 4)) (hp : post (some (.int (-1000000001))) X) : Ev g mX11_kept d n n post n 0 [some (.ref 0), some (.int v1)] [] X := by
  refine ev_iload_n dX11_kept_0 rfl ?_
  refine ev_aload_n dX11_kept_1 rfl ?_
  refine ev_getS (q := 1) dX11_kept_2 fo_11_10 (by omega) lo_0 rfl (sh_0_0 hX (by omega)) (by decide) ?_
  refine ev_getS (q := 23) dX11_kept_5 fo_11_96 (by omega) lo_1 rfl (sh_1_1 hX (by omega)) (by decide) ?_
  refine ev_getI dX11_kept_8 fo_11_100 (by omega) lo_23 rfl ?_
  refine e_Si (as := [.int v1, .int (X 23 0)]) (rest := []) dX11_kept_11 vX11_isBitsBelow ml_11_251 stX11_isBitsBelow npX11_isBitsBelow (by decide) rfl (Nat.le_of_ble_eq_true rfl) (by omega) (t_X11_isBitsBelow (d := d - 1) (by omega) (by omega) hX c0) ?_
  refine ev_ifF (tgt := 29) dX11_kept_14 (by decide) (by show ¬ (1 : Int32) = 0; decide) ?_
  refine ev_iload_n dX11_kept_17 rfl ?_
  refine e_Si (as := [.int v1]) (rest := []) dX11_kept_18 vJ6_bitCount_0f7a4 ml_11_260 stJ6_bitCount_0f7a4 npJ6_bitCount_0f7a4 (by decide) rfl (Nat.le_of_ble_eq_true rfl) (by omega) (k_J6_bitCount_0f7a4 (d := d - 1) (by omega) (by omega) hX ) ?_
  refine ev_iconst (v := 1) dX11_kept_21 ki_1 ?_
  refine ev_iconst (v := 4) dX11_kept_22 ki_4 ?_
  refine e_Si (as := [.int (bc v1), .int 1, .int 4]) (rest := []) dX11_kept_23 vX11_isIn ml_11_57 stX11_isIn npX11_isIn (by decide) rfl (Nat.le_of_ble_eq_true rfl) (by omega) (f_X11_isIn (d := d - 1) (by omega) (by omega) hX c1) ?_
  refine ev_ifF (tgt := 32) dX11_kept_26 (by decide) (by show (0 : Int32) = 0; decide) ?_
  refine ev_ldc (v := (-1000000001)) dX11_kept_29 kw_11_61 ?_
  exact ev_iret dX11_kept_31 rfl rfl hp
theorem bX11_kept_0_2 {g : GG} {d n : Nat} {post : Option Value → LX → Prop} {X : LX} (hd : 1 ≤ d) (hn : 146 ≤ n) (hX : Sh n X) {v1 : Int32} (c0 : ¬ (0 ≤ v1 ∧ v1 >>> ((X 23 0) &&& 31) = 0)) (hp : post (some (.int (-1000000001))) X) : Ev g mX11_kept d n n post n 0 [some (.ref 0), some (.int v1)] [] X := by
  refine ev_iload_n dX11_kept_0 rfl ?_
  refine ev_aload_n dX11_kept_1 rfl ?_
  refine ev_getS (q := 1) dX11_kept_2 fo_11_10 (by omega) lo_0 rfl (sh_0_0 hX (by omega)) (by decide) ?_
  refine ev_getS (q := 23) dX11_kept_5 fo_11_96 (by omega) lo_1 rfl (sh_1_1 hX (by omega)) (by decide) ?_
  refine ev_getI dX11_kept_8 fo_11_100 (by omega) lo_23 rfl ?_
  refine e_Si (as := [.int v1, .int (X 23 0)]) (rest := []) dX11_kept_11 vX11_isBitsBelow ml_11_251 stX11_isBitsBelow npX11_isBitsBelow (by decide) rfl (Nat.le_of_ble_eq_true rfl) (by omega) (f_X11_isBitsBelow (d := d - 1) (by omega) (by omega) hX c0) ?_
  refine ev_ifT (tgt := 29) dX11_kept_14 (by decide) (by show (0 : Int32) = 0; decide) ?_
  refine ev_ldc (v := (-1000000001)) dX11_kept_29 kw_11_61 ?_
  exact ev_iret dX11_kept_31 rfl rfl hp
theorem bX11_kept_39_0 {g : GG} {d n : Nat} {post : Option Value → LX → Prop} {X : LX} (hn : 146 ≤ n) (hX : Sh n X) {v1 : Int32} (k : Ev g mX11_kept d n n post n 44 [some (.ref 0), some (.int v1)] [.int v1, .ref 84] X) : Ev g mX11_kept d n n post n 39 [some (.ref 0), some (.int v1)] [] X := by
  refine ev_aload_n dX11_kept_39 rfl ?_
  refine ev_getS (q := 84) dX11_kept_40 fo_11_28 (by omega) lo_0 rfl (sh_0_2 hX (by omega)) (by decide) ?_
  refine ev_iload_n dX11_kept_43 rfl ?_
  exact k
theorem bX11_kept_47_0 {g : GG} {d n : Nat} {post : Option Value → LX → Prop} {X : LX} (hn : 146 ≤ n) (hX : Sh n X) {v1 : Int32} {s0 : Int32} (hp : post (some (.int s0)) X) : Ev g mX11_kept d n n post n 47 [some (.ref 0), some (.int v1)] [.int s0] X := by
  exact ev_iret dX11_kept_47 rfl rfl hp
theorem bX12_kept_0_0 {g : GG} {d n : Nat} {post : Option Value → LX → Prop} {X : LX} (hn : 146 ≤ n) (hX : Sh n X) {v1 : Int32} (k : Ev g mX12_kept d n n post n 2 [some (.ref 133), some (.int v1)] [.int v1, .ref 133] X) : Ev g mX12_kept d n n post n 0 [some (.ref 133), some (.int v1)] [] X := by
  refine ev_aload_n dX12_kept_0 rfl ?_
  refine ev_iload_n dX12_kept_1 rfl ?_
  exact k
theorem bX12_kept_5_0 {g : GG} {d n : Nat} {post : Option Value → LX → Prop} {X : LX} (hd : 1 ≤ d) (hn : 146 ≤ n) (hX : Sh n X) {v1 : Int32} {s0 : Int32} (c0 : ¬ s0 = 0) (c1 : 1 ≤ (ones v1) ∧ (ones v1) ≤ 4) (k : Ev g mX12_kept d n n post n 27 [some (.ref 133), some (.int v1)] [.int v1, .ref 133] X) : Ev g mX12_kept d n n post n 5 [some (.ref 133), some (.int v1)] [.int s0] X := by
  refine ev_ifF (tgt := 20) dX12_kept_5 (by decide) c0 ?_
  refine ev_iload_n dX12_kept_8 rfl ?_
  refine e_Si (as := [.int v1]) (rest := []) dX12_kept_9 vX12_ones ml_12_109 stX12_ones npX12_ones (by decide) rfl (Nat.le_of_ble_eq_true rfl) (by omega) (k_X12_ones (d := d - 1) (by omega) (by omega) hX ) ?_
  refine ev_iconst (v := 1) dX12_kept_12 ki_1 ?_
  refine ev_iconst (v := 4) dX12_kept_13 ki_4 ?_
  refine e_Si (as := [.int (ones v1), .int 1, .int 4]) (rest := []) dX12_kept_14 vX12_within ml_12_52 stX12_within npX12_within (by decide) rfl (Nat.le_of_ble_eq_true rfl) (by omega) (t_X12_within (d := d - 1) (by omega) (by omega) hX c1) ?_
  refine ev_ifT (tgt := 25) dX12_kept_17 (by decide) (by show ¬ (1 : Int32) = 0; decide) ?_
  refine ev_aload_n dX12_kept_25 rfl ?_
  refine ev_iload_n dX12_kept_26 rfl ?_
  exact k
theorem bX12_kept_5_1 {g : GG} {d n : Nat} {post : Option Value → LX → Prop} {X : LX} (hd : 1 ≤ d) (hn : 146 ≤ n) (hX : Sh n X) {v1 : Int32} {s0 : Int32} (c0 : ¬ s0 = 0) (c1 : ¬ (1 ≤ (ones v1) ∧ (ones v1) ≤ 4)) (hp : post (some (.int (-1000000001))) X) : Ev g mX12_kept d n n post n 5 [some (.ref 133), some (.int v1)] [.int s0] X := by
  refine ev_ifF (tgt := 20) dX12_kept_5 (by decide) c0 ?_
  refine ev_iload_n dX12_kept_8 rfl ?_
  refine e_Si (as := [.int v1]) (rest := []) dX12_kept_9 vX12_ones ml_12_109 stX12_ones npX12_ones (by decide) rfl (Nat.le_of_ble_eq_true rfl) (by omega) (k_X12_ones (d := d - 1) (by omega) (by omega) hX ) ?_
  refine ev_iconst (v := 1) dX12_kept_12 ki_1 ?_
  refine ev_iconst (v := 4) dX12_kept_13 ki_4 ?_
  refine e_Si (as := [.int (ones v1), .int 1, .int 4]) (rest := []) dX12_kept_14 vX12_within ml_12_52 stX12_within npX12_within (by decide) rfl (Nat.le_of_ble_eq_true rfl) (by omega) (f_X12_within (d := d - 1) (by omega) (by omega) hX c1) ?_
  refine ev_ifF (tgt := 25) dX12_kept_17 (by decide) (by show (0 : Int32) = 0; decide) ?_
  refine ev_ldc (v := (-1000000001)) dX12_kept_20 kw_12_57 ?_
  refine ev_goto (tgt := 30) dX12_kept_22 (by decide) ?_
  exact ev_iret dX12_kept_30 rfl rfl hp
theorem bX12_kept_5_2 {g : GG} {d n : Nat} {post : Option Value → LX → Prop} {X : LX} (hn : 146 ≤ n) (hX : Sh n X) {v1 : Int32} {s0 : Int32} (c0 : s0 = 0) (hp : post (some (.int (-1000000001))) X) : Ev g mX12_kept d n n post n 5 [some (.ref 133), some (.int v1)] [.int s0] X := by
  refine ev_ifT (tgt := 20) dX12_kept_5 (by decide) c0 ?_
  refine ev_ldc (v := (-1000000001)) dX12_kept_20 kw_12_57 ?_
  refine ev_goto (tgt := 30) dX12_kept_22 (by decide) ?_
  exact ev_iret dX12_kept_30 rfl rfl hp
theorem bX12_kept_30_0 {g : GG} {d n : Nat} {post : Option Value → LX → Prop} {X : LX} (hn : 146 ≤ n) (hX : Sh n X) {v1 : Int32} {s0 : Int32} (hp : post (some (.int s0)) X) : Ev g mX12_kept d n n post n 30 [some (.ref 133), some (.int v1)] [.int s0] X := by
  exact ev_iret dX12_kept_30 rfl rfl hp
theorem bX11_feed_0_0 {g : GG} {d n : Nat} {post : Option Value → LX → Prop} {X : LX} (hn : 146 ≤ n) (hX : Sh n X) {v1 : Int32} {v2 : Int32} {v3 : Int32} (c0 : ¬ (X 81 1) + 12 ≤ 120) (hp : post (some (.int (-1000000003))) X) : Ev g mX11_feed d n n post n 0 [some (.ref 0), some (.int v1), some (.int v2), some (.int v3)] [] X := by
  refine ev_aload_n dX11_feed_0 rfl ?_
  refine ev_getS (q := 81) dX11_feed_1 fo_11_19 (by omega) lo_0 rfl (sh_0_1 hX (by omega)) (by decide) ?_
  refine ev_getI dX11_feed_4 fo_11_215 (by omega) lo_81 rfl ?_
  refine ev_bipush (v := 12) dX11_feed_7 kb_12 ?_
  refine ev_iadd dX11_feed_9 ?_
  refine ev_bipush (v := 120) dX11_feed_10 kb_120 ?_
  refine ev_icmpF (tgt := 18) dX11_feed_12 (by decide) c0 ?_
  refine ev_ldc (v := (-1000000003)) dX11_feed_15 kw_11_72 ?_
  exact ev_iret dX11_feed_17 rfl rfl hp
theorem bX11_feed_0_1 {g : GG} {d n : Nat} {post : Option Value → LX → Prop} {X : LX} (hn : 146 ≤ n) (hX : Sh n X) {v1 : Int32} {v2 : Int32} {v3 : Int32} (c0 : (X 81 1) + 12 ≤ 120) (k : Ev g mX11_feed d n n post n 23 [some (.ref 0), some (.int v1), some (.int v2), some (.int v3)] [.int v1, .ref 81] X) : Ev g mX11_feed d n n post n 0 [some (.ref 0), some (.int v1), some (.int v2), some (.int v3)] [] X := by
  refine ev_aload_n dX11_feed_0 rfl ?_
  refine ev_getS (q := 81) dX11_feed_1 fo_11_19 (by omega) lo_0 rfl (sh_0_1 hX (by omega)) (by decide) ?_
  refine ev_getI dX11_feed_4 fo_11_215 (by omega) lo_81 rfl ?_
  refine ev_bipush (v := 12) dX11_feed_7 kb_12 ?_
  refine ev_iadd dX11_feed_9 ?_
  refine ev_bipush (v := 120) dX11_feed_10 kb_120 ?_
  refine ev_icmpT (tgt := 18) dX11_feed_12 (by decide) c0 ?_
  refine ev_aload_n dX11_feed_18 rfl ?_
  refine ev_getS (q := 81) dX11_feed_19 fo_11_19 (by omega) lo_0 rfl (sh_0_1 hX (by omega)) (by decide) ?_
  refine ev_iload_n dX11_feed_22 rfl ?_
  exact k
theorem bX11_feed_26_0 {g : GG} {d n : Nat} {post : Option Value → LX → Prop} {X : LX} (hn : 146 ≤ n) (hX : Sh n X) {v1 : Int32} {v2 : Int32} {v3 : Int32} (k : Ev g mX11_feed d n n post n 31 [some (.ref 0), some (.int v1), some (.int v2), some (.int v3)] [.int v2, .ref 81] X) : Ev g mX11_feed d n n post n 26 [some (.ref 0), some (.int v1), some (.int v2), some (.int v3)] [] X := by
  refine ev_aload_n dX11_feed_26 rfl ?_
  refine ev_getS (q := 81) dX11_feed_27 fo_11_19 (by omega) lo_0 rfl (sh_0_1 hX (by omega)) (by decide) ?_
  refine ev_iload_n dX11_feed_30 rfl ?_
  exact k
theorem bX11_feed_34_0 {g : GG} {d n : Nat} {post : Option Value → LX → Prop} {X : LX} (hn : 146 ≤ n) (hX : Sh n X) {v1 : Int32} {v2 : Int32} {v3 : Int32} (k : Ev g mX11_feed d n n post n 39 [some (.ref 0), some (.int v1), some (.int v2), some (.int v3)] [.int v3, .ref 81] X) : Ev g mX11_feed d n n post n 34 [some (.ref 0), some (.int v1), some (.int v2), some (.int v3)] [] X := by
  refine ev_aload_n dX11_feed_34 rfl ?_
  refine ev_getS (q := 81) dX11_feed_35 fo_11_19 (by omega) lo_0 rfl (sh_0_1 hX (by omega)) (by decide) ?_
  refine ev_iload_n dX11_feed_38 rfl ?_
  exact k
theorem bX11_feed_42_0 {g : GG} {d n : Nat} {post : Option Value → LX → Prop} {X : LX} (hn : 146 ≤ n) (hX : Sh n X) {v1 : Int32} {v2 : Int32} {v3 : Int32} (hp : post (some (.int (X 81 1))) X) : Ev g mX11_feed d n n post n 42 [some (.ref 0), some (.int v1), some (.int v2), some (.int v3)] [] X := by
  refine ev_aload_n dX11_feed_42 rfl ?_
  refine ev_getS (q := 81) dX11_feed_43 fo_11_19 (by omega) lo_0 rfl (sh_0_1 hX (by omega)) (by decide) ?_
  refine ev_getI dX11_feed_46 fo_11_215 (by omega) lo_81 rfl ?_
  exact ev_iret dX11_feed_49 rfl rfl hp
theorem bX3_addBytes_0_0 {g : GG} {d n : Nat} {post : Option Value → LX → Prop} {X : LX} (hn : 146 ≤ n) (hX : Sh n X) {v1 : Int32} (k : Ev g mX3_addBytes d n n post n 3 [some (.ref 81), some (.int v1), some (.int 24)] [] X) : Ev g mX3_addBytes d n n post n 0 [some (.ref 81), some (.int v1), none] [] X := by
  refine ev_bipush (v := 24) dX3_addBytes_0 kb_24 ?_
  refine ev_istore_n dX3_addBytes_2 (by decide) ?_
  exact k
theorem bX3_addBytes_3_0 {g : GG} {d n : Nat} {post : Option Value → LX → Prop} {X : LX} (hn : 146 ≤ n) (hX : Sh n X) {v1 : Int32} {v2 : Int32} {j1 : Nat} (c0 : ¬ v2 < 0) (c1 : ¬ 120 ≤ X 81 1) (hj1 : X 81 1 = nI j1) (b0 : j1 < 120) (k : Ev g mX3_addBytes d n n post n 3 [some (.ref 81), some (.int v1), some (.int (v2 + (-8)))] [] (lx_up (lx_up X 81 1 ((X 81 1) + 1)) 82 j1 ((v1 >>> (v2 &&& 31)) &&& 255))) : Ev g mX3_addBytes d n n post n 3 [some (.ref 81), some (.int v1), some (.int v2)] [] X := by
  refine ev_iload_n dX3_addBytes_3 rfl ?_
  refine ev_ifF (tgt := 45) dX3_addBytes_4 (by decide) c0 ?_
  refine ev_aload_n dX3_addBytes_7 rfl ?_
  refine ev_getI dX3_addBytes_8 fo_3_18 (by omega) lo_81 rfl ?_
  refine ev_bipush (v := 120) dX3_addBytes_11 kb_120 ?_
  refine ev_icmpF (tgt := 45) dX3_addBytes_13 (by decide) c1 ?_
  refine ev_aload_n dX3_addBytes_16 rfl ?_
  refine ev_getS (q := 82) dX3_addBytes_17 fo_3_9 (by omega) lo_81 rfl (sh_81_0 hX (by omega)) (by decide) ?_
  refine ev_aload_n dX3_addBytes_20 rfl ?_
  refine ev_dup dX3_addBytes_21 rfl ?_
  refine ev_getI dX3_addBytes_22 fo_3_18 (by omega) lo_81 rfl ?_
  refine ev_dup_x1 dX3_addBytes_25 rfl rfl ?_
  refine ev_iconst (v := 1) dX3_addBytes_26 ki_1 ?_
  refine ev_iadd dX3_addBytes_27 ?_
  refine ev_putI dX3_addBytes_28 fo_3_18 (by omega) lo_81 rfl rfl rfl ?_
  have hX1 : Sh _ (lx_up X 81 1 ((X 81 1) + 1)) := Sh.upF hX (by rw [lo_81]; decide) (by decide)
  refine ev_iload_n dX3_addBytes_31 rfl ?_
  refine ev_iload_n dX3_addBytes_32 rfl ?_
  refine ev_ishr dX3_addBytes_33 ?_
  refine ev_sipush (v := 255) dX3_addBytes_34 ks_255 ?_
  refine ev_iand dX3_addBytes_37 ?_
  refine ev_iast dX3_addBytes_38 (by omega) ly_82 hj1 b0 ?_
  have hX2 : Sh _ (lx_up (lx_up X 81 1 ((X 81 1) + 1)) 82 j1 ((v1 >>> (v2 &&& 31)) &&& 255)) := Sh.upA hX1 (by rw [ly_82]; exact (by decide : 0 < 2))
  refine ev_iinc (v := v2 + (-8)) dX3_addBytes_39 rfl (by rw [show Int32.ofInt (-8) = (-8) from ki_m8]) (by decide) ?_
  refine ev_goto (tgt := 3) dX3_addBytes_42 (by decide) ?_
  exact k
theorem bX3_addBytes_3_1 {g : GG} {d n : Nat} {post : Option Value → LX → Prop} {X : LX} (hn : 146 ≤ n) (hX : Sh n X) {v1 : Int32} {v2 : Int32} (c0 : ¬ v2 < 0) (c1 : 120 ≤ X 81 1) (hp : post none X) : Ev g mX3_addBytes d n n post n 3 [some (.ref 81), some (.int v1), some (.int v2)] [] X := by
  refine ev_iload_n dX3_addBytes_3 rfl ?_
  refine ev_ifF (tgt := 45) dX3_addBytes_4 (by decide) c0 ?_
  refine ev_aload_n dX3_addBytes_7 rfl ?_
  refine ev_getI dX3_addBytes_8 fo_3_18 (by omega) lo_81 rfl ?_
  refine ev_bipush (v := 120) dX3_addBytes_11 kb_120 ?_
  refine ev_icmpT (tgt := 45) dX3_addBytes_13 (by decide) c1 ?_
  exact ev_ret dX3_addBytes_45 rfl hp
theorem bX3_addBytes_3_2 {g : GG} {d n : Nat} {post : Option Value → LX → Prop} {X : LX} (hn : 146 ≤ n) (hX : Sh n X) {v1 : Int32} {v2 : Int32} (c0 : v2 < 0) (hp : post none X) : Ev g mX3_addBytes d n n post n 3 [some (.ref 81), some (.int v1), some (.int v2)] [] X := by
  refine ev_iload_n dX3_addBytes_3 rfl ?_
  refine ev_ifT (tgt := 45) dX3_addBytes_4 (by decide) c0 ?_
  exact ev_ret dX3_addBytes_45 rfl hp
theorem qX12_stock_26 {g : GG} {d d' n : Nat} {post post1 : Option Value → LX → Prop} {L : List (Option Value)} {rest : List Value} {X : LX}  (hn : 146 ≤ n) (hdd : d' + 1 ≤ d) (hs8 : (rest.map fun v => v.category).sum ≤ 8) (hEx : Ex g mX12_findNeeds d' n n [.ref 133] X post1) (k : ∀ v X1, post1 v X1 → Ev g mX12_stock d n n post n 29 L (v.toList ++ rest) X1) : Ev g mX12_stock d n n post n 26 L (.ref 133 :: rest) X :=
  ev_callV (as := []) (rest := rest) dX12_stock_26 vX12_findNeeds ml_12_264 isX12_findNeeds seX12_findNeeds npX12_findNeeds (rc_133 (by omega)) hdd (by show 64 * (d' + 1) ≤ 64 * d; omega) (by decide) rfl hs8 (Nat.le_refl n) (Nat.le_refl _) (Nat.le_refl _) hEx k
theorem qX11_recall_25 {g : GG} {d d' n : Nat} {post post1 : Option Value → LX → Prop} {L : List (Option Value)} {rest : List Value} {X : LX} {a1 : Int32} (hn : 146 ≤ n) (hdd : d' + 1 ≤ d) (hs8 : (rest.map fun v => v.category).sum ≤ 8) (hEx : Ex g mX4_throwLeft d' n n [.ref 69, .int a1] X post1) (k : ∀ v X1, post1 v X1 → Ev g mX11_recall d n n post n 28 L (v.toList ++ rest) X1) : Ev g mX11_recall d n n post n 25 L (.int a1 :: .ref 69 :: rest) X :=
  ev_callV (as := [.int a1]) (rest := rest) dX11_recall_25 vX4_throwLeft ml_11_330 isX4_throwLeft seX4_throwLeft npX4_throwLeft (rc_69 (by omega)) hdd (by show 64 * (d' + 1) ≤ 64 * d; omega) (by decide) rfl hs8 (Nat.le_refl n) (Nat.le_refl _) (Nat.le_refl _) hEx k
theorem qX12_recall_22 {g : GG} {d d' n : Nat} {post post1 : Option Value → LX → Prop} {L : List (Option Value)} {rest : List Value} {X : LX} {a1 : Int32} (hn : 146 ≤ n) (hdd : d' + 1 ≤ d) (hs8 : (rest.map fun v => v.category).sum ≤ 8) (hEx : Ex g mX12_throwLeft d' n n [.ref 133, .int a1] X post1) (k : ∀ v X1, post1 v X1 → Ev g mX12_recall d n n post n 25 L (v.toList ++ rest) X1) : Ev g mX12_recall d n n post n 22 L (.int a1 :: .ref 133 :: rest) X :=
  ev_callV (as := [.int a1]) (rest := rest) dX12_recall_22 vX12_throwLeft ml_12_304 isX12_throwLeft seX12_throwLeft npX12_throwLeft (rc_133 (by omega)) hdd (by show 64 * (d' + 1) ≤ 64 * d; omega) (by decide) rfl hs8 (Nat.le_refl n) (Nat.le_refl _) (Nat.le_refl _) hEx k
theorem qX11_end_19 {g : GG} {d d' n : Nat} {post post1 : Option Value → LX → Prop} {L : List (Option Value)} {rest : List Value} {X : LX}  (hn : 146 ≤ n) (hdd : d' + 1 ≤ d) (hs8 : (rest.map fun v => v.category).sum ≤ 8) (hEx : Ex g mX1_endWeek d' n n [.ref 1] X post1) (k : ∀ v X1, post1 v X1 → Ev g mX11_end d n n post n 22 L (v.toList ++ rest) X1) : Ev g mX11_end d n n post n 19 L (.ref 1 :: rest) X :=
  ev_callV (as := []) (rest := rest) dX11_end_19 vX1_endWeek ml_11_336 isX1_endWeek seX1_endWeek npX1_endWeek (rc_1 (by omega)) hdd (by show 64 * (d' + 1) ≤ 64 * d; omega) (by decide) rfl hs8 (Nat.le_refl n) (Nat.le_refl _) (Nat.le_refl _) hEx k
theorem qX12_end_68 {g : GG} {d d' n : Nat} {post post1 : Option Value → LX → Prop} {L : List (Option Value)} {rest : List Value} {X : LX} {a1 : Int32} (hn : 146 ≤ n) (hdd : d' + 1 ≤ d) (hs8 : (rest.map fun v => v.category).sum ≤ 8) (hEx : Ex g mX12_throwLeft d' n n [.ref 133, .int a1] X post1) (k : ∀ v X1, post1 v X1 → Ev g mX12_end d n n post n 71 L (v.toList ++ rest) X1) : Ev g mX12_end d n n post n 68 L (.int a1 :: .ref 133 :: rest) X :=
  ev_callV (as := [.int a1]) (rest := rest) dX12_end_68 vX12_throwLeft ml_12_304 isX12_throwLeft seX12_throwLeft npX12_throwLeft (rc_133 (by omega)) hdd (by show 64 * (d' + 1) ≤ 64 * d; omega) (by decide) rfl hs8 (Nat.le_refl n) (Nat.le_refl _) (Nat.le_refl _) hEx k
theorem qX11_picks_48 {g : GG} {d d' n : Nat} {post post1 : Option Value → LX → Prop} {L : List (Option Value)} {rest : List Value} {X : LX} {a1 : Int32} {a2 : Int32} {a3 : Int32} (hn : 146 ≤ n) (hdd : d' + 1 ≤ d) (hs8 : (rest.map fun v => v.category).sum ≤ 8) (hEx : Ex g mX10_picksOf d' n n [.ref 110, .int a1, .int a2, .int a3] X post1) (k : ∀ v X1, post1 v X1 → Ev g mX11_picks d n n post n 51 L (v.toList ++ rest) X1) : Ev g mX11_picks d n n post n 48 L (.int a3 :: .int a2 :: .int a1 :: .ref 110 :: rest) X :=
  ev_callV (as := [.int a1, .int a2, .int a3]) (rest := rest) dX11_picks_48 vX10_picksOf ml_11_347 isX10_picksOf seX10_picksOf npX10_picksOf (rc_110 (by omega)) hdd (by show 64 * (d' + 1) ≤ 64 * d; omega) (by decide) rfl hs8 (Nat.le_refl n) (Nat.le_refl _) (Nat.le_refl _) hEx k
theorem qX12_picks_39 {g : GG} {d d' n : Nat} {post post1 : Option Value → LX → Prop} {L : List (Option Value)} {rest : List Value} {X : LX}  (hn : 146 ≤ n) (hdd : d' + 1 ≤ d) (hs8 : (rest.map fun v => v.category).sum ≤ 8) (hEx : Ex g mX12_findNeeds d' n n [.ref 133] X post1) (k : ∀ v X1, post1 v X1 → Ev g mX12_picks d n n post n 42 L (v.toList ++ rest) X1) : Ev g mX12_picks d n n post n 39 L (.ref 133 :: rest) X :=
  ev_callV (as := []) (rest := rest) dX12_picks_39 vX12_findNeeds ml_12_264 isX12_findNeeds seX12_findNeeds npX12_findNeeds (rc_133 (by omega)) hdd (by show 64 * (d' + 1) ≤ 64 * d; omega) (by decide) rfl hs8 (Nat.le_refl n) (Nat.le_refl _) (Nat.le_refl _) hEx k
theorem qX12_picks_46 {g : GG} {d d' n : Nat} {post post1 : Option Value → LX → Prop} {L : List (Option Value)} {rest : List Value} {X : LX} {a1 : Int32} {a2 : Int32} {a3 : Int32} (hn : 146 ≤ n) (hdd : d' + 1 ≤ d) (hs8 : (rest.map fun v => v.category).sum ≤ 8) (hEx : Ex g mX12_picksOf d' n n [.ref 133, .int a1, .int a2, .int a3] X post1) (k : ∀ v X1, post1 v X1 → Ev g mX12_picks d n n post n 49 L (v.toList ++ rest) X1) : Ev g mX12_picks d n n post n 46 L (.int a3 :: .int a2 :: .int a1 :: .ref 133 :: rest) X :=
  ev_callV (as := [.int a1, .int a2, .int a3]) (rest := rest) dX12_picks_46 vX12_picksOf ml_12_307 isX12_picksOf seX12_picksOf npX12_picksOf (rc_133 (by omega)) hdd (by show 64 * (d' + 1) ≤ 64 * d; omega) (by decide) rfl hs8 (Nat.le_refl n) (Nat.le_refl _) (Nat.le_refl _) hEx k
theorem qX11_kept_36 {g : GG} {d d' n : Nat} {post post1 : Option Value → LX → Prop} {L : List (Option Value)} {rest : List Value} {X : LX}  (hn : 146 ≤ n) (hdd : d' + 1 ≤ d) (hs8 : (rest.map fun v => v.category).sum ≤ 8) (hEx : Ex g mX6_gather d' n n [.ref 84] X post1) (k : ∀ v X1, post1 v X1 → Ev g mX11_kept d n n post n 39 L (v.toList ++ rest) X1) : Ev g mX11_kept d n n post n 36 L (.ref 84 :: rest) X :=
  ev_callV (as := []) (rest := rest) dX11_kept_36 vX6_gather ml_11_271 isX6_gather seX6_gather npX6_gather (rc_84 (by omega)) hdd (by show 64 * (d' + 1) ≤ 64 * d; omega) (by decide) rfl hs8 (Nat.le_refl n) (Nat.le_refl _) (Nat.le_refl _) hEx k
theorem qX11_kept_44 {g : GG} {d d' n : Nat} {post post1 : Option Value → LX → Prop} {L : List (Option Value)} {rest : List Value} {X : LX} {a1 : Int32} (hn : 146 ≤ n) (hdd : d' + 1 ≤ d) (hs8 : (rest.map fun v => v.category).sum ≤ 8) (hEx : Ex g mX6_keptBy d' n n [.ref 84, .int a1] X post1) (k : ∀ v X1, post1 v X1 → Ev g mX11_kept d n n post n 47 L (v.toList ++ rest) X1) : Ev g mX11_kept d n n post n 44 L (.int a1 :: .ref 84 :: rest) X :=
  ev_callV (as := [.int a1]) (rest := rest) dX11_kept_44 vX6_keptBy ml_11_274 isX6_keptBy seX6_keptBy npX6_keptBy (rc_84 (by omega)) hdd (by show 64 * (d' + 1) ≤ 64 * d; omega) (by decide) rfl hs8 (Nat.le_refl n) (Nat.le_refl _) (Nat.le_refl _) hEx k
theorem qX12_kept_2 {g : GG} {d d' n : Nat} {post post1 : Option Value → LX → Prop} {L : List (Option Value)} {rest : List Value} {X : LX} {a1 : Int32} (hn : 146 ≤ n) (hdd : d' + 1 ≤ d) (hs8 : (rest.map fun v => v.category).sum ≤ 8) (hEx : Ex g mX12_areMeals d' n n [.ref 133, .int a1] X post1) (k : ∀ v X1, post1 v X1 → Ev g mX12_kept d n n post n 5 L (v.toList ++ rest) X1) : Ev g mX12_kept d n n post n 2 L (.int a1 :: .ref 133 :: rest) X :=
  ev_callV (as := [.int a1]) (rest := rest) dX12_kept_2 vX12_areMeals ml_12_232 isX12_areMeals seX12_areMeals npX12_areMeals (rc_133 (by omega)) hdd (by show 64 * (d' + 1) ≤ 64 * d; omega) (by decide) rfl hs8 (Nat.le_refl n) (Nat.le_refl _) (Nat.le_refl _) hEx k
theorem qX12_kept_27 {g : GG} {d d' n : Nat} {post post1 : Option Value → LX → Prop} {L : List (Option Value)} {rest : List Value} {X : LX} {a1 : Int32} (hn : 146 ≤ n) (hdd : d' + 1 ≤ d) (hs8 : (rest.map fun v => v.category).sum ≤ 8) (hEx : Ex g mX12_keptBy d' n n [.ref 133, .int a1] X post1) (k : ∀ v X1, post1 v X1 → Ev g mX12_kept d n n post n 30 L (v.toList ++ rest) X1) : Ev g mX12_kept d n n post n 27 L (.int a1 :: .ref 133 :: rest) X :=
  ev_callV (as := [.int a1]) (rest := rest) dX12_kept_27 vX12_keptBy ml_12_235 isX12_keptBy seX12_keptBy npX12_keptBy (rc_133 (by omega)) hdd (by show 64 * (d' + 1) ≤ 64 * d; omega) (by decide) rfl hs8 (Nat.le_refl n) (Nat.le_refl _) (Nat.le_refl _) hEx k
theorem qX11_feed_23 {g : GG} {d d' n : Nat} {post post1 : Option Value → LX → Prop} {L : List (Option Value)} {rest : List Value} {X : LX} {a1 : Int32} (hn : 146 ≤ n) (hdd : d' + 1 ≤ d) (hs8 : (rest.map fun v => v.category).sum ≤ 8) (hEx : Ex g mX3_addBytes d' n n [.ref 81, .int a1] X post1) (k : ∀ v X1, post1 v X1 → Ev g mX11_feed d n n post n 26 L (v.toList ++ rest) X1) : Ev g mX11_feed d n n post n 23 L (.int a1 :: .ref 81 :: rest) X :=
  ev_callV (as := [.int a1]) (rest := rest) dX11_feed_23 vX3_addBytes ml_11_218 isX3_addBytes seX3_addBytes npX3_addBytes (rc_81 (by omega)) hdd (by show 64 * (d' + 1) ≤ 64 * d; omega) (by decide) rfl hs8 (Nat.le_refl n) (Nat.le_refl _) (Nat.le_refl _) hEx k
theorem qX11_feed_31 {g : GG} {d d' n : Nat} {post post1 : Option Value → LX → Prop} {L : List (Option Value)} {rest : List Value} {X : LX} {a1 : Int32} (hn : 146 ≤ n) (hdd : d' + 1 ≤ d) (hs8 : (rest.map fun v => v.category).sum ≤ 8) (hEx : Ex g mX3_addBytes d' n n [.ref 81, .int a1] X post1) (k : ∀ v X1, post1 v X1 → Ev g mX11_feed d n n post n 34 L (v.toList ++ rest) X1) : Ev g mX11_feed d n n post n 31 L (.int a1 :: .ref 81 :: rest) X :=
  ev_callV (as := [.int a1]) (rest := rest) dX11_feed_31 vX3_addBytes ml_11_218 isX3_addBytes seX3_addBytes npX3_addBytes (rc_81 (by omega)) hdd (by show 64 * (d' + 1) ≤ 64 * d; omega) (by decide) rfl hs8 (Nat.le_refl n) (Nat.le_refl _) (Nat.le_refl _) hEx k
theorem qX11_feed_39 {g : GG} {d d' n : Nat} {post post1 : Option Value → LX → Prop} {L : List (Option Value)} {rest : List Value} {X : LX} {a1 : Int32} (hn : 146 ≤ n) (hdd : d' + 1 ≤ d) (hs8 : (rest.map fun v => v.category).sum ≤ 8) (hEx : Ex g mX3_addBytes d' n n [.ref 81, .int a1] X post1) (k : ∀ v X1, post1 v X1 → Ev g mX11_feed d n n post n 42 L (v.toList ++ rest) X1) : Ev g mX11_feed d n n post n 39 L (.int a1 :: .ref 81 :: rest) X :=
  ev_callV (as := [.int a1]) (rest := rest) dX11_feed_39 vX3_addBytes ml_11_218 isX3_addBytes seX3_addBytes npX3_addBytes (rc_81 (by omega)) hdd (by show 64 * (d' + 1) ≤ 64 * d; omega) (by decide) rfl hs8 (Nat.le_refl n) (Nat.le_refl _) (Nat.le_refl _) hEx k
