theorem bX1_mayChoose_0_0 {g : GG} {d n : Nat} {post : Option Value → LX → Prop} {X : LX} (hd : 1 ≤ d) (hn : 146 ≤ n) (hX : Sh n X) {v1 : Int32} {v2 : Int32} (c0 : ¬ v2 < 0) (c1 : v2 &&& ((X 1 6) ^^^ (-1)) = 0) (c2 : ¬ bc v2 ≤ 2) (hp : post (some (.int 0)) X) : Ev g mX1_mayChoose d n n post n 0 [some (.ref 1), some (.int v1), some (.int v2), none] [] X := by
  refine ev_iload_n dX1_mayChoose_0 rfl ?_
  refine ev_ifF (tgt := 23) dX1_mayChoose_1 (by decide) c0 ?_
  refine ev_iload_n dX1_mayChoose_4 rfl ?_
  refine ev_aload_n dX1_mayChoose_5 rfl ?_
  refine ev_getI dX1_mayChoose_6 fo_1_69 (by omega) lo_1 rfl ?_
  refine ev_iconst (v := (-1)) dX1_mayChoose_9 ki_m1 ?_
  refine ev_ixor dX1_mayChoose_10 ?_
  refine ev_iand dX1_mayChoose_11 ?_
  refine ev_ifF (tgt := 23) dX1_mayChoose_12 (by decide) c1 ?_
  refine ev_iload_n dX1_mayChoose_15 rfl ?_
  refine e_Si (as := [.int v2]) (rest := []) dX1_mayChoose_16 vJ6_bitCount_0f7a4 ml_1_106 stJ6_bitCount_0f7a4 npJ6_bitCount_0f7a4 (by decide) rfl (Nat.le_of_ble_eq_true rfl) (by omega) (k_J6_bitCount_0f7a4 (d := d - 1) (by omega) (by omega) hX ) ?_
  refine ev_iconst (v := 2) dX1_mayChoose_19 ki_2 ?_
  refine ev_icmpF (tgt := 25) dX1_mayChoose_20 (by decide) c2 ?_
  refine ev_iconst (v := 0) dX1_mayChoose_23 ki_0 ?_
  exact ev_iret dX1_mayChoose_24 rfl (by decide) hp
theorem bX1_mayChoose_0_1 {g : GG} {d n : Nat} {post : Option Value → LX → Prop} {X : LX} (hd : 1 ≤ d) (hn : 146 ≤ n) (hX : Sh n X) {v1 : Int32} {v2 : Int32} (c0 : ¬ v2 < 0) (c1 : v2 &&& ((X 1 6) ^^^ (-1)) = 0) (c2 : bc v2 ≤ 2) (k : Ev g mX1_mayChoose d n n post n 27 [some (.ref 1), some (.int v1), some (.int v2), some (.int 0)] [] X) : Ev g mX1_mayChoose d n n post n 0 [some (.ref 1), some (.int v1), some (.int v2), none] [] X := by
  refine ev_iload_n dX1_mayChoose_0 rfl ?_
  refine ev_ifF (tgt := 23) dX1_mayChoose_1 (by decide) c0 ?_
  refine ev_iload_n dX1_mayChoose_4 rfl ?_
  refine ev_aload_n dX1_mayChoose_5 rfl ?_
  refine ev_getI dX1_mayChoose_6 fo_1_69 (by omega) lo_1 rfl ?_
  refine ev_iconst (v := (-1)) dX1_mayChoose_9 ki_m1 ?_
  refine ev_ixor dX1_mayChoose_10 ?_
  refine ev_iand dX1_mayChoose_11 ?_
  refine ev_ifF (tgt := 23) dX1_mayChoose_12 (by decide) c1 ?_
  refine ev_iload_n dX1_mayChoose_15 rfl ?_
  refine e_Si (as := [.int v2]) (rest := []) dX1_mayChoose_16 vJ6_bitCount_0f7a4 ml_1_106 stJ6_bitCount_0f7a4 npJ6_bitCount_0f7a4 (by decide) rfl (Nat.le_of_ble_eq_true rfl) (by omega) (k_J6_bitCount_0f7a4 (d := d - 1) (by omega) (by omega) hX ) ?_
  refine ev_iconst (v := 2) dX1_mayChoose_19 ki_2 ?_
  refine ev_icmpT (tgt := 25) dX1_mayChoose_20 (by decide) c2 ?_
  refine ev_iconst (v := 0) dX1_mayChoose_25 ki_0 ?_
  refine ev_istore_n dX1_mayChoose_26 (by decide) ?_
  exact k
theorem bX1_mayChoose_0_2 {g : GG} {d n : Nat} {post : Option Value → LX → Prop} {X : LX} (hn : 146 ≤ n) (hX : Sh n X) {v1 : Int32} {v2 : Int32} (c0 : ¬ v2 < 0) (c1 : ¬ v2 &&& ((X 1 6) ^^^ (-1)) = 0) (hp : post (some (.int 0)) X) : Ev g mX1_mayChoose d n n post n 0 [some (.ref 1), some (.int v1), some (.int v2), none] [] X := by
  refine ev_iload_n dX1_mayChoose_0 rfl ?_
  refine ev_ifF (tgt := 23) dX1_mayChoose_1 (by decide) c0 ?_
  refine ev_iload_n dX1_mayChoose_4 rfl ?_
  refine ev_aload_n dX1_mayChoose_5 rfl ?_
  refine ev_getI dX1_mayChoose_6 fo_1_69 (by omega) lo_1 rfl ?_
  refine ev_iconst (v := (-1)) dX1_mayChoose_9 ki_m1 ?_
  refine ev_ixor dX1_mayChoose_10 ?_
  refine ev_iand dX1_mayChoose_11 ?_
  refine ev_ifT (tgt := 23) dX1_mayChoose_12 (by decide) c1 ?_
  refine ev_iconst (v := 0) dX1_mayChoose_23 ki_0 ?_
  exact ev_iret dX1_mayChoose_24 rfl (by decide) hp
theorem bX1_mayChoose_0_3 {g : GG} {d n : Nat} {post : Option Value → LX → Prop} {X : LX} (hn : 146 ≤ n) (hX : Sh n X) {v1 : Int32} {v2 : Int32} (c0 : v2 < 0) (hp : post (some (.int 0)) X) : Ev g mX1_mayChoose d n n post n 0 [some (.ref 1), some (.int v1), some (.int v2), none] [] X := by
  refine ev_iload_n dX1_mayChoose_0 rfl ?_
  refine ev_ifT (tgt := 23) dX1_mayChoose_1 (by decide) c0 ?_
  refine ev_iconst (v := 0) dX1_mayChoose_23 ki_0 ?_
  exact ev_iret dX1_mayChoose_24 rfl (by decide) hp
theorem bX1_mayChoose_27_0 {g : GG} {d n : Nat} {post : Option Value → LX → Prop} {X : LX} (hd : 2 ≤ d) (hn : 146 ≤ n) (hX : Sh n X) {v1 : Nat} {v2 : Int32} {v3 : Nat} (c0 : ¬ X 23 0 ≤ nI v3) (c1 : ¬ (v2 >>> ((nI v3) &&& 31)) &&& 1 = 0) (c2 : v1 < 12) (c3 : v3 < 10) (c4 : num X 2 0 14) (c5 : cMay X v1 v3) (k : Ev g mX1_mayChoose d n n post n 27 [some (.ref 1), some (.int (nI v1)), some (.int v2), some (.int ((nI v3) + 1))] [] X) : Ev g mX1_mayChoose d n n post n 27 [some (.ref 1), some (.int (nI v1)), some (.int v2), some (.int (nI v3))] [] X := by
  refine ev_iload_n dX1_mayChoose_27 rfl ?_
  refine ev_aload_n dX1_mayChoose_28 rfl ?_
  refine ev_getS (q := 23) dX1_mayChoose_29 fo_1_21 (by omega) lo_1 rfl (sh_1_1 hX (by omega)) (by decide) ?_
  refine ev_getI dX1_mayChoose_32 fo_1_131 (by omega) lo_23 rfl ?_
  refine ev_icmpF (tgt := 63) dX1_mayChoose_35 (by decide) c0 ?_
  refine ev_iload_n dX1_mayChoose_38 rfl ?_
  refine ev_iload_n dX1_mayChoose_39 rfl ?_
  refine e_SNi (as := [.int v2, .int (nI v3)]) (rest := []) dX1_mayChoose_40 vX11_hasBit ml_1_132 rfl rfl rfl stX11_hasBit npX11_hasBit (by decide) rfl (Nat.le_of_ble_eq_true rfl) (by omega) (t_X11_hasBit (d := d - 1) (by omega) (by omega) hX c1) ?_
  refine ev_ifF (tgt := 57) dX1_mayChoose_43 (by decide) (by show ¬ (1 : Int32) = 0; decide) ?_
  refine ev_aload_n dX1_mayChoose_46 rfl ?_
  refine ev_iload_n dX1_mayChoose_47 rfl ?_
  refine ev_iload_n dX1_mayChoose_48 rfl ?_
  refine e_Vi (as := [.int (nI v1), .int (nI v3)]) (rest := []) dX1_mayChoose_49 vX1_mayEat ml_1_135 isX1_mayEat seX1_mayEat npX1_mayEat (rc_1 (by omega)) (by decide) rfl (Nat.le_of_ble_eq_true rfl) (by omega) (t_X1_mayEat (d := d - 1) (by omega) (by omega) hX c2 c3 c4 c5) ?_
  refine ev_ifT (tgt := 57) dX1_mayChoose_52 (by decide) (by show ¬ (1 : Int32) = 0; decide) ?_
  refine ev_iinc (v := (nI v3) + 1) dX1_mayChoose_57 rfl (by rw [show Int32.ofInt 1 = 1 from ki_1]) (by decide) ?_
  refine ev_goto (tgt := 27) dX1_mayChoose_60 (by decide) ?_
  exact k
theorem bX1_mayChoose_27_1 {g : GG} {d n : Nat} {post : Option Value → LX → Prop} {X : LX} (hd : 2 ≤ d) (hn : 146 ≤ n) (hX : Sh n X) {v1 : Nat} {v2 : Int32} {v3 : Nat} (c0 : ¬ X 23 0 ≤ nI v3) (c1 : ¬ (v2 >>> ((nI v3) &&& 31)) &&& 1 = 0) (c2 : v1 < 12) (c3 : v3 < 10) (c4 : num X 2 0 14) (c5 : ¬ (cMay X v1 v3)) (hp : post (some (.int 0)) X) : Ev g mX1_mayChoose d n n post n 27 [some (.ref 1), some (.int (nI v1)), some (.int v2), some (.int (nI v3))] [] X := by
  refine ev_iload_n dX1_mayChoose_27 rfl ?_
  refine ev_aload_n dX1_mayChoose_28 rfl ?_
  refine ev_getS (q := 23) dX1_mayChoose_29 fo_1_21 (by omega) lo_1 rfl (sh_1_1 hX (by omega)) (by decide) ?_
  refine ev_getI dX1_mayChoose_32 fo_1_131 (by omega) lo_23 rfl ?_
  refine ev_icmpF (tgt := 63) dX1_mayChoose_35 (by decide) c0 ?_
  refine ev_iload_n dX1_mayChoose_38 rfl ?_
  refine ev_iload_n dX1_mayChoose_39 rfl ?_
  refine e_SNi (as := [.int v2, .int (nI v3)]) (rest := []) dX1_mayChoose_40 vX11_hasBit ml_1_132 rfl rfl rfl stX11_hasBit npX11_hasBit (by decide) rfl (Nat.le_of_ble_eq_true rfl) (by omega) (t_X11_hasBit (d := d - 1) (by omega) (by omega) hX c1) ?_
  refine ev_ifF (tgt := 57) dX1_mayChoose_43 (by decide) (by show ¬ (1 : Int32) = 0; decide) ?_
  refine ev_aload_n dX1_mayChoose_46 rfl ?_
  refine ev_iload_n dX1_mayChoose_47 rfl ?_
  refine ev_iload_n dX1_mayChoose_48 rfl ?_
  refine e_Vi (as := [.int (nI v1), .int (nI v3)]) (rest := []) dX1_mayChoose_49 vX1_mayEat ml_1_135 isX1_mayEat seX1_mayEat npX1_mayEat (rc_1 (by omega)) (by decide) rfl (Nat.le_of_ble_eq_true rfl) (by omega) (f_X1_mayEat (d := d - 1) (by omega) (by omega) hX c2 c3 c4 c5) ?_
  refine ev_ifF (tgt := 57) dX1_mayChoose_52 (by decide) (by show (0 : Int32) = 0; decide) ?_
  refine ev_iconst (v := 0) dX1_mayChoose_55 ki_0 ?_
  exact ev_iret dX1_mayChoose_56 rfl (by decide) hp
theorem bX1_mayChoose_27_2 {g : GG} {d n : Nat} {post : Option Value → LX → Prop} {X : LX} (hd : 1 ≤ d) (hn : 146 ≤ n) (hX : Sh n X) {v1 : Int32} {v2 : Int32} {v3 : Int32} (c0 : ¬ X 23 0 ≤ v3) (c1 : ¬ (¬ (v2 >>> (v3 &&& 31)) &&& 1 = 0)) (k : Ev g mX1_mayChoose d n n post n 27 [some (.ref 1), some (.int v1), some (.int v2), some (.int (v3 + 1))] [] X) : Ev g mX1_mayChoose d n n post n 27 [some (.ref 1), some (.int v1), some (.int v2), some (.int v3)] [] X := by
  refine ev_iload_n dX1_mayChoose_27 rfl ?_
  refine ev_aload_n dX1_mayChoose_28 rfl ?_
  refine ev_getS (q := 23) dX1_mayChoose_29 fo_1_21 (by omega) lo_1 rfl (sh_1_1 hX (by omega)) (by decide) ?_
  refine ev_getI dX1_mayChoose_32 fo_1_131 (by omega) lo_23 rfl ?_
  refine ev_icmpF (tgt := 63) dX1_mayChoose_35 (by decide) c0 ?_
  refine ev_iload_n dX1_mayChoose_38 rfl ?_
  refine ev_iload_n dX1_mayChoose_39 rfl ?_
  refine e_SNi (as := [.int v2, .int v3]) (rest := []) dX1_mayChoose_40 vX11_hasBit ml_1_132 rfl rfl rfl stX11_hasBit npX11_hasBit (by decide) rfl (Nat.le_of_ble_eq_true rfl) (by omega) (f_X11_hasBit (d := d - 1) (by omega) (by omega) hX c1) ?_
  refine ev_ifT (tgt := 57) dX1_mayChoose_43 (by decide) (by show (0 : Int32) = 0; decide) ?_
  refine ev_iinc (v := v3 + 1) dX1_mayChoose_57 rfl (by rw [show Int32.ofInt 1 = 1 from ki_1]) (by decide) ?_
  refine ev_goto (tgt := 27) dX1_mayChoose_60 (by decide) ?_
  exact k
theorem bX1_mayChoose_27_3 {g : GG} {d n : Nat} {post : Option Value → LX → Prop} {X : LX} (hn : 146 ≤ n) (hX : Sh n X) {v1 : Int32} {v2 : Int32} {v3 : Int32} (c0 : X 23 0 ≤ v3) (hp : post (some (.int 1)) X) : Ev g mX1_mayChoose d n n post n 27 [some (.ref 1), some (.int v1), some (.int v2), some (.int v3)] [] X := by
  refine ev_iload_n dX1_mayChoose_27 rfl ?_
  refine ev_aload_n dX1_mayChoose_28 rfl ?_
  refine ev_getS (q := 23) dX1_mayChoose_29 fo_1_21 (by omega) lo_1 rfl (sh_1_1 hX (by omega)) (by decide) ?_
  refine ev_getI dX1_mayChoose_32 fo_1_131 (by omega) lo_23 rfl ?_
  refine ev_icmpT (tgt := 63) dX1_mayChoose_35 (by decide) c0 ?_
  refine ev_iconst (v := 1) dX1_mayChoose_63 ki_1 ?_
  exact ev_iret dX1_mayChoose_64 rfl (by decide) hp
theorem bX1_guess_0_0 {g : GG} {d n : Nat} {post : Option Value → LX → Prop} {X : LX} (hn : 146 ≤ n) (hX : Sh n X) {v1 : Nat} {v2 : Int32} {j1 : Nat} (c0 : ¬ X 1 5 ≤ 0) (b0 : v1 < 12) (hj1 : (X 1 5) - 1 = nI j1) (b1 : j1 < 100) (k : Ev g mX1_guess d n n post n 37 [some (.ref 1), some (.int (nI v1)), some (.int v2), some (.int (X (56 + 1 + v1) j1)), some (.int (-1)), some (.int 0), some (.int 0), none] [] X) : Ev g mX1_guess d n n post n 0 [some (.ref 1), some (.int (nI v1)), some (.int v2), none, none, none, none, none] [] X := by
  refine ev_aload_n dX1_guess_0 rfl ?_
  refine ev_getI dX1_guess_1 fo_1_66 (by omega) lo_1 rfl ?_
  refine ev_ifF (tgt := 26) dX1_guess_4 (by decide) c0 ?_
  refine ev_aload_n dX1_guess_7 rfl ?_
  refine ev_getS (q := 37) dX1_guess_8 fo_1_28 (by omega) lo_1 rfl (sh_1_2 hX (by omega)) (by decide) ?_
  refine ev_getS (q := 56) dX1_guess_11 fo_1_138 (by omega) lo_37 rfl (sh_37_7 hX (by omega)) (by decide) ?_
  refine ev_iload_n dX1_guess_14 rfl ?_
  refine ev_aald (q := 56 + 1 + v1) dX1_guess_15 (by omega) (Or.inl ly_56) rfl b0 (hX.2 56 v1 (by omega) (Or.inl (by rw [ly_56])) (by rw [ly_56]; exact b0)) (by first | omega | (have := LY_l ly_56; have := LY_lt (show (LY 56).1 < 99 by rw [ly_56]; exact (by decide : 2 < 99)); omega)) ?_
  refine ev_aload_n dX1_guess_16 rfl ?_
  refine ev_getI dX1_guess_17 fo_1_66 (by omega) lo_1 rfl ?_
  refine ev_iconst (v := 1) dX1_guess_20 ki_1 ?_
  refine ev_isub dX1_guess_21 ?_
  refine ev_iald dX1_guess_22 (by have := b0; omega) (lyr_56 _ b0) hj1 b1 ?_
  refine ev_goto (tgt := 27) dX1_guess_23 (by decide) ?_
  refine ev_istore_n dX1_guess_27 (by decide) ?_
  refine ev_iconst (v := (-1)) dX1_guess_28 ki_m1 ?_
  refine ev_istore dX1_guess_29 (by decide) ?_
  refine ev_iconst (v := 0) dX1_guess_31 ki_0 ?_
  refine ev_istore dX1_guess_32 (by decide) ?_
  refine ev_iconst (v := 0) dX1_guess_34 ki_0 ?_
  refine ev_istore dX1_guess_35 (by decide) ?_
  exact k
theorem bX1_guess_0_1 {g : GG} {d n : Nat} {post : Option Value → LX → Prop} {X : LX} (hn : 146 ≤ n) (hX : Sh n X) {v1 : Int32} {v2 : Int32} (c0 : X 1 5 ≤ 0) (k : Ev g mX1_guess d n n post n 37 [some (.ref 1), some (.int v1), some (.int v2), some (.int 0), some (.int (-1)), some (.int 0), some (.int 0), none] [] X) : Ev g mX1_guess d n n post n 0 [some (.ref 1), some (.int v1), some (.int v2), none, none, none, none, none] [] X := by
  refine ev_aload_n dX1_guess_0 rfl ?_
  refine ev_getI dX1_guess_1 fo_1_66 (by omega) lo_1 rfl ?_
  refine ev_ifT (tgt := 26) dX1_guess_4 (by decide) c0 ?_
  refine ev_iconst (v := 0) dX1_guess_26 ki_0 ?_
  refine ev_istore_n dX1_guess_27 (by decide) ?_
  refine ev_iconst (v := (-1)) dX1_guess_28 ki_m1 ?_
  refine ev_istore dX1_guess_29 (by decide) ?_
  refine ev_iconst (v := 0) dX1_guess_31 ki_0 ?_
  refine ev_istore dX1_guess_32 (by decide) ?_
  refine ev_iconst (v := 0) dX1_guess_34 ki_0 ?_
  refine ev_istore dX1_guess_35 (by decide) ?_
  exact k
theorem bX1_guess_37_0 {g : GG} {d n : Nat} {post : Option Value → LX → Prop} {X : LX} (hd : 2 ≤ d) (hn : 146 ≤ n) (hX : Sh n X) {v1 : Nat} {v2 : Int32} {v3 : Int32} {v4 : Int32} {v5 : Int32} {v6 : Nat} (c0 : ¬ X 23 0 ≤ nI v6) (c1 : ¬ (((X 1 6) &&& (v2 ^^^ (-1))) >>> ((nI v6) &&& 31)) &&& 1 = 0) (c2 : v1 < 12) (c3 : v6 < 10) (c4 : num X 2 0 14) (c5 : cMay X v1 v6) (b0 : v1 < 12) (b1 : v6 < 10) (c6 : ¬ (v3 >>> ((nI v6) &&& 31)) &&& 1 = 0) (c7 : ¬ (X (43 + 1 + v1) v6) + 0 ≤ v4) (k : Ev g mX1_guess d n n post n 37 [some (.ref 1), some (.int (nI v1)), some (.int v2), some (.int v3), some (.int ((X (43 + 1 + v1) v6) + 0)), some (.int (1 <<< ((nI v6) &&& 31))), some (.int ((nI v6) + 1)), none] [] X) : Ev g mX1_guess d n n post n 37 [some (.ref 1), some (.int (nI v1)), some (.int v2), some (.int v3), some (.int v4), some (.int v5), some (.int (nI v6)), none] [] X := by
  refine ev_iload dX1_guess_37 rfl ?_
  refine ev_aload_n dX1_guess_39 rfl ?_
  refine ev_getS (q := 23) dX1_guess_40 fo_1_21 (by omega) lo_1 rfl (sh_1_1 hX (by omega)) (by decide) ?_
  refine ev_getI dX1_guess_43 fo_1_131 (by omega) lo_23 rfl ?_
  refine ev_icmpF (tgt := 131) dX1_guess_46 (by decide) c0 ?_
  refine ev_aload_n dX1_guess_49 rfl ?_
  refine ev_getI dX1_guess_50 fo_1_69 (by omega) lo_1 rfl ?_
  refine ev_iload_n dX1_guess_53 rfl ?_
  refine ev_iconst (v := (-1)) dX1_guess_54 ki_m1 ?_
  refine ev_ixor dX1_guess_55 ?_
  refine ev_iand dX1_guess_56 ?_
  refine ev_iload dX1_guess_57 rfl ?_
  refine e_SNi (as := [.int ((X 1 6) &&& (v2 ^^^ (-1))), .int (nI v6)]) (rest := []) dX1_guess_59 vX11_hasBit ml_1_132 rfl rfl rfl stX11_hasBit npX11_hasBit (by decide) rfl (Nat.le_of_ble_eq_true rfl) (by omega) (t_X11_hasBit (d := d - 1) (by omega) (by omega) hX c1) ?_
  refine ev_ifF (tgt := 125) dX1_guess_62 (by decide) (by show ¬ (1 : Int32) = 0; decide) ?_
  refine ev_aload_n dX1_guess_65 rfl ?_
  refine ev_iload_n dX1_guess_66 rfl ?_
  refine ev_iload dX1_guess_67 rfl ?_
  refine e_Vi (as := [.int (nI v1), .int (nI v6)]) (rest := []) dX1_guess_69 vX1_mayEat ml_1_135 isX1_mayEat seX1_mayEat npX1_mayEat (rc_1 (by omega)) (by decide) rfl (Nat.le_of_ble_eq_true rfl) (by omega) (t_X1_mayEat (d := d - 1) (by omega) (by omega) hX c2 c3 c4 c5) ?_
  refine ev_ifT (tgt := 78) dX1_guess_72 (by decide) (by show ¬ (1 : Int32) = 0; decide) ?_
  refine ev_aload_n dX1_guess_78 rfl ?_
  refine ev_getS (q := 37) dX1_guess_79 fo_1_28 (by omega) lo_1 rfl (sh_1_2 hX (by omega)) (by decide) ?_
  refine ev_getS (q := 43) dX1_guess_82 fo_1_148 (by omega) lo_37 rfl (sh_37_6 hX (by omega)) (by decide) ?_
  refine ev_iload_n dX1_guess_85 rfl ?_
  refine ev_aald (q := 43 + 1 + v1) dX1_guess_86 (by omega) (Or.inl ly_43) rfl b0 (hX.2 43 v1 (by omega) (Or.inl (by rw [ly_43])) (by rw [ly_43]; exact b0)) (by first | omega | (have := LY_l ly_43; have := LY_lt (show (LY 43).1 < 99 by rw [ly_43]; exact (by decide : 2 < 99)); omega)) ?_
  refine ev_iload dX1_guess_87 rfl ?_
  refine ev_iald dX1_guess_89 (by have := b0; omega) (lyr_43 _ b0) rfl b1 ?_
  refine ev_iload_n dX1_guess_90 rfl ?_
  refine ev_iload dX1_guess_91 rfl ?_
  refine e_SNi (as := [.int v3, .int (nI v6)]) (rest := [.int (X (43 + 1 + v1) v6)]) dX1_guess_93 vX11_hasBit ml_1_132 rfl rfl rfl stX11_hasBit npX11_hasBit (by decide) rfl (Nat.le_of_ble_eq_true rfl) (by omega) (t_X11_hasBit (d := d - 1) (by omega) (by omega) hX c6) ?_
  refine ev_ifF (tgt := 103) dX1_guess_96 (by decide) (by show ¬ (1 : Int32) = 0; decide) ?_
  refine ev_iconst (v := 0) dX1_guess_99 ki_0 ?_
  refine ev_goto (tgt := 105) dX1_guess_100 (by decide) ?_
  refine ev_iadd dX1_guess_105 ?_
  refine ev_istore dX1_guess_106 (by decide) ?_
  refine ev_iload dX1_guess_108 rfl ?_
  refine ev_iload dX1_guess_110 rfl ?_
  refine ev_icmpF (tgt := 125) dX1_guess_112 (by decide) c7 ?_
  refine ev_iload dX1_guess_115 rfl ?_
  refine ev_istore dX1_guess_117 (by decide) ?_
  refine ev_iconst (v := 1) dX1_guess_119 ki_1 ?_
  refine ev_iload dX1_guess_120 rfl ?_
  refine ev_ishl dX1_guess_122 ?_
  refine ev_istore dX1_guess_123 (by decide) ?_
  refine ev_iinc (v := (nI v6) + 1) dX1_guess_125 rfl (by rw [show Int32.ofInt 1 = 1 from ki_1]) (by decide) ?_
  refine ev_goto (tgt := 37) dX1_guess_128 (by decide) ?_
  refine ev_wk (L := [some (.ref 1), some (.int (nI v1)), some (.int v2), some (.int v3), some (.int ((X (43 + 1 + v1) v6) + 0)), some (.int (1 <<< ((nI v6) &&& 31))), some (.int ((nI v6) + 1)), some (.int ((X (43 + 1 + v1) v6) + 0))]) (L' := [some (.ref 1), some (.int (nI v1)), some (.int v2), some (.int v3), some (.int ((X (43 + 1 + v1) v6) + 0)), some (.int (1 <<< ((nI v6) &&& 31))), some (.int ((nI v6) + 1)), none]) (by simp [lwk]) ?_
  exact k
theorem bX1_guess_37_1 {g : GG} {d n : Nat} {post : Option Value → LX → Prop} {X : LX} (hd : 2 ≤ d) (hn : 146 ≤ n) (hX : Sh n X) {v1 : Nat} {v2 : Int32} {v3 : Int32} {v4 : Int32} {v5 : Int32} {v6 : Nat} (c0 : ¬ X 23 0 ≤ nI v6) (c1 : ¬ (((X 1 6) &&& (v2 ^^^ (-1))) >>> ((nI v6) &&& 31)) &&& 1 = 0) (c2 : v1 < 12) (c3 : v6 < 10) (c4 : num X 2 0 14) (c5 : cMay X v1 v6) (b0 : v1 < 12) (b1 : v6 < 10) (c6 : ¬ (v3 >>> ((nI v6) &&& 31)) &&& 1 = 0) (c7 : (X (43 + 1 + v1) v6) + 0 ≤ v4) (k : Ev g mX1_guess d n n post n 37 [some (.ref 1), some (.int (nI v1)), some (.int v2), some (.int v3), some (.int v4), some (.int v5), some (.int ((nI v6) + 1)), none] [] X) : Ev g mX1_guess d n n post n 37 [some (.ref 1), some (.int (nI v1)), some (.int v2), some (.int v3), some (.int v4), some (.int v5), some (.int (nI v6)), none] [] X := by
  refine ev_iload dX1_guess_37 rfl ?_
  refine ev_aload_n dX1_guess_39 rfl ?_
  refine ev_getS (q := 23) dX1_guess_40 fo_1_21 (by omega) lo_1 rfl (sh_1_1 hX (by omega)) (by decide) ?_
  refine ev_getI dX1_guess_43 fo_1_131 (by omega) lo_23 rfl ?_
  refine ev_icmpF (tgt := 131) dX1_guess_46 (by decide) c0 ?_
  refine ev_aload_n dX1_guess_49 rfl ?_
  refine ev_getI dX1_guess_50 fo_1_69 (by omega) lo_1 rfl ?_
  refine ev_iload_n dX1_guess_53 rfl ?_
  refine ev_iconst (v := (-1)) dX1_guess_54 ki_m1 ?_
  refine ev_ixor dX1_guess_55 ?_
  refine ev_iand dX1_guess_56 ?_
  refine ev_iload dX1_guess_57 rfl ?_
  refine e_SNi (as := [.int ((X 1 6) &&& (v2 ^^^ (-1))), .int (nI v6)]) (rest := []) dX1_guess_59 vX11_hasBit ml_1_132 rfl rfl rfl stX11_hasBit npX11_hasBit (by decide) rfl (Nat.le_of_ble_eq_true rfl) (by omega) (t_X11_hasBit (d := d - 1) (by omega) (by omega) hX c1) ?_
  refine ev_ifF (tgt := 125) dX1_guess_62 (by decide) (by show ¬ (1 : Int32) = 0; decide) ?_
  refine ev_aload_n dX1_guess_65 rfl ?_
  refine ev_iload_n dX1_guess_66 rfl ?_
  refine ev_iload dX1_guess_67 rfl ?_
  refine e_Vi (as := [.int (nI v1), .int (nI v6)]) (rest := []) dX1_guess_69 vX1_mayEat ml_1_135 isX1_mayEat seX1_mayEat npX1_mayEat (rc_1 (by omega)) (by decide) rfl (Nat.le_of_ble_eq_true rfl) (by omega) (t_X1_mayEat (d := d - 1) (by omega) (by omega) hX c2 c3 c4 c5) ?_
  refine ev_ifT (tgt := 78) dX1_guess_72 (by decide) (by show ¬ (1 : Int32) = 0; decide) ?_
  refine ev_aload_n dX1_guess_78 rfl ?_
  refine ev_getS (q := 37) dX1_guess_79 fo_1_28 (by omega) lo_1 rfl (sh_1_2 hX (by omega)) (by decide) ?_
  refine ev_getS (q := 43) dX1_guess_82 fo_1_148 (by omega) lo_37 rfl (sh_37_6 hX (by omega)) (by decide) ?_
  refine ev_iload_n dX1_guess_85 rfl ?_
  refine ev_aald (q := 43 + 1 + v1) dX1_guess_86 (by omega) (Or.inl ly_43) rfl b0 (hX.2 43 v1 (by omega) (Or.inl (by rw [ly_43])) (by rw [ly_43]; exact b0)) (by first | omega | (have := LY_l ly_43; have := LY_lt (show (LY 43).1 < 99 by rw [ly_43]; exact (by decide : 2 < 99)); omega)) ?_
  refine ev_iload dX1_guess_87 rfl ?_
  refine ev_iald dX1_guess_89 (by have := b0; omega) (lyr_43 _ b0) rfl b1 ?_
  refine ev_iload_n dX1_guess_90 rfl ?_
  refine ev_iload dX1_guess_91 rfl ?_
  refine e_SNi (as := [.int v3, .int (nI v6)]) (rest := [.int (X (43 + 1 + v1) v6)]) dX1_guess_93 vX11_hasBit ml_1_132 rfl rfl rfl stX11_hasBit npX11_hasBit (by decide) rfl (Nat.le_of_ble_eq_true rfl) (by omega) (t_X11_hasBit (d := d - 1) (by omega) (by omega) hX c6) ?_
  refine ev_ifF (tgt := 103) dX1_guess_96 (by decide) (by show ¬ (1 : Int32) = 0; decide) ?_
  refine ev_iconst (v := 0) dX1_guess_99 ki_0 ?_
  refine ev_goto (tgt := 105) dX1_guess_100 (by decide) ?_
  refine ev_iadd dX1_guess_105 ?_
  refine ev_istore dX1_guess_106 (by decide) ?_
  refine ev_iload dX1_guess_108 rfl ?_
  refine ev_iload dX1_guess_110 rfl ?_
  refine ev_icmpT (tgt := 125) dX1_guess_112 (by decide) c7 ?_
  refine ev_iinc (v := (nI v6) + 1) dX1_guess_125 rfl (by rw [show Int32.ofInt 1 = 1 from ki_1]) (by decide) ?_
  refine ev_goto (tgt := 37) dX1_guess_128 (by decide) ?_
  refine ev_wk (L := [some (.ref 1), some (.int (nI v1)), some (.int v2), some (.int v3), some (.int v4), some (.int v5), some (.int ((nI v6) + 1)), some (.int ((X (43 + 1 + v1) v6) + 0))]) (L' := [some (.ref 1), some (.int (nI v1)), some (.int v2), some (.int v3), some (.int v4), some (.int v5), some (.int ((nI v6) + 1)), none]) (by simp [lwk]) ?_
  exact k
theorem bX1_guess_37_2 {g : GG} {d n : Nat} {post : Option Value → LX → Prop} {X : LX} (hd : 2 ≤ d) (hn : 146 ≤ n) (hX : Sh n X) {v1 : Nat} {v2 : Int32} {v3 : Int32} {v4 : Int32} {v5 : Int32} {v6 : Nat} (c0 : ¬ X 23 0 ≤ nI v6) (c1 : ¬ (((X 1 6) &&& (v2 ^^^ (-1))) >>> ((nI v6) &&& 31)) &&& 1 = 0) (c2 : v1 < 12) (c3 : v6 < 10) (c4 : num X 2 0 14) (c5 : cMay X v1 v6) (b0 : v1 < 12) (b1 : v6 < 10) (c6 : ¬ (¬ (v3 >>> ((nI v6) &&& 31)) &&& 1 = 0)) (c7 : ¬ (X (43 + 1 + v1) v6) + 10 ≤ v4) (k : Ev g mX1_guess d n n post n 37 [some (.ref 1), some (.int (nI v1)), some (.int v2), some (.int v3), some (.int ((X (43 + 1 + v1) v6) + 10)), some (.int (1 <<< ((nI v6) &&& 31))), some (.int ((nI v6) + 1)), none] [] X) : Ev g mX1_guess d n n post n 37 [some (.ref 1), some (.int (nI v1)), some (.int v2), some (.int v3), some (.int v4), some (.int v5), some (.int (nI v6)), none] [] X := by
  refine ev_iload dX1_guess_37 rfl ?_
  refine ev_aload_n dX1_guess_39 rfl ?_
  refine ev_getS (q := 23) dX1_guess_40 fo_1_21 (by omega) lo_1 rfl (sh_1_1 hX (by omega)) (by decide) ?_
  refine ev_getI dX1_guess_43 fo_1_131 (by omega) lo_23 rfl ?_
  refine ev_icmpF (tgt := 131) dX1_guess_46 (by decide) c0 ?_
  refine ev_aload_n dX1_guess_49 rfl ?_
  refine ev_getI dX1_guess_50 fo_1_69 (by omega) lo_1 rfl ?_
  refine ev_iload_n dX1_guess_53 rfl ?_
  refine ev_iconst (v := (-1)) dX1_guess_54 ki_m1 ?_
  refine ev_ixor dX1_guess_55 ?_
  refine ev_iand dX1_guess_56 ?_
  refine ev_iload dX1_guess_57 rfl ?_
  refine e_SNi (as := [.int ((X 1 6) &&& (v2 ^^^ (-1))), .int (nI v6)]) (rest := []) dX1_guess_59 vX11_hasBit ml_1_132 rfl rfl rfl stX11_hasBit npX11_hasBit (by decide) rfl (Nat.le_of_ble_eq_true rfl) (by omega) (t_X11_hasBit (d := d - 1) (by omega) (by omega) hX c1) ?_
  refine ev_ifF (tgt := 125) dX1_guess_62 (by decide) (by show ¬ (1 : Int32) = 0; decide) ?_
  refine ev_aload_n dX1_guess_65 rfl ?_
  refine ev_iload_n dX1_guess_66 rfl ?_
  refine ev_iload dX1_guess_67 rfl ?_
  refine e_Vi (as := [.int (nI v1), .int (nI v6)]) (rest := []) dX1_guess_69 vX1_mayEat ml_1_135 isX1_mayEat seX1_mayEat npX1_mayEat (rc_1 (by omega)) (by decide) rfl (Nat.le_of_ble_eq_true rfl) (by omega) (t_X1_mayEat (d := d - 1) (by omega) (by omega) hX c2 c3 c4 c5) ?_
  refine ev_ifT (tgt := 78) dX1_guess_72 (by decide) (by show ¬ (1 : Int32) = 0; decide) ?_
  refine ev_aload_n dX1_guess_78 rfl ?_
  refine ev_getS (q := 37) dX1_guess_79 fo_1_28 (by omega) lo_1 rfl (sh_1_2 hX (by omega)) (by decide) ?_
  refine ev_getS (q := 43) dX1_guess_82 fo_1_148 (by omega) lo_37 rfl (sh_37_6 hX (by omega)) (by decide) ?_
  refine ev_iload_n dX1_guess_85 rfl ?_
  refine ev_aald (q := 43 + 1 + v1) dX1_guess_86 (by omega) (Or.inl ly_43) rfl b0 (hX.2 43 v1 (by omega) (Or.inl (by rw [ly_43])) (by rw [ly_43]; exact b0)) (by first | omega | (have := LY_l ly_43; have := LY_lt (show (LY 43).1 < 99 by rw [ly_43]; exact (by decide : 2 < 99)); omega)) ?_
  refine ev_iload dX1_guess_87 rfl ?_
  refine ev_iald dX1_guess_89 (by have := b0; omega) (lyr_43 _ b0) rfl b1 ?_
  refine ev_iload_n dX1_guess_90 rfl ?_
  refine ev_iload dX1_guess_91 rfl ?_
  refine e_SNi (as := [.int v3, .int (nI v6)]) (rest := [.int (X (43 + 1 + v1) v6)]) dX1_guess_93 vX11_hasBit ml_1_132 rfl rfl rfl stX11_hasBit npX11_hasBit (by decide) rfl (Nat.le_of_ble_eq_true rfl) (by omega) (f_X11_hasBit (d := d - 1) (by omega) (by omega) hX c6) ?_
  refine ev_ifT (tgt := 103) dX1_guess_96 (by decide) (by show (0 : Int32) = 0; decide) ?_
  refine ev_bipush (v := 10) dX1_guess_103 kb_10 ?_
  refine ev_iadd dX1_guess_105 ?_
  refine ev_istore dX1_guess_106 (by decide) ?_
  refine ev_iload dX1_guess_108 rfl ?_
  refine ev_iload dX1_guess_110 rfl ?_
  refine ev_icmpF (tgt := 125) dX1_guess_112 (by decide) c7 ?_
  refine ev_iload dX1_guess_115 rfl ?_
  refine ev_istore dX1_guess_117 (by decide) ?_
  refine ev_iconst (v := 1) dX1_guess_119 ki_1 ?_
  refine ev_iload dX1_guess_120 rfl ?_
  refine ev_ishl dX1_guess_122 ?_
  refine ev_istore dX1_guess_123 (by decide) ?_
  refine ev_iinc (v := (nI v6) + 1) dX1_guess_125 rfl (by rw [show Int32.ofInt 1 = 1 from ki_1]) (by decide) ?_
  refine ev_goto (tgt := 37) dX1_guess_128 (by decide) ?_
  refine ev_wk (L := [some (.ref 1), some (.int (nI v1)), some (.int v2), some (.int v3), some (.int ((X (43 + 1 + v1) v6) + 10)), some (.int (1 <<< ((nI v6) &&& 31))), some (.int ((nI v6) + 1)), some (.int ((X (43 + 1 + v1) v6) + 10))]) (L' := [some (.ref 1), some (.int (nI v1)), some (.int v2), some (.int v3), some (.int ((X (43 + 1 + v1) v6) + 10)), some (.int (1 <<< ((nI v6) &&& 31))), some (.int ((nI v6) + 1)), none]) (by simp [lwk]) ?_
  exact k
theorem bX1_guess_37_3 {g : GG} {d n : Nat} {post : Option Value → LX → Prop} {X : LX} (hd : 2 ≤ d) (hn : 146 ≤ n) (hX : Sh n X) {v1 : Nat} {v2 : Int32} {v3 : Int32} {v4 : Int32} {v5 : Int32} {v6 : Nat} (c0 : ¬ X 23 0 ≤ nI v6) (c1 : ¬ (((X 1 6) &&& (v2 ^^^ (-1))) >>> ((nI v6) &&& 31)) &&& 1 = 0) (c2 : v1 < 12) (c3 : v6 < 10) (c4 : num X 2 0 14) (c5 : cMay X v1 v6) (b0 : v1 < 12) (b1 : v6 < 10) (c6 : ¬ (¬ (v3 >>> ((nI v6) &&& 31)) &&& 1 = 0)) (c7 : (X (43 + 1 + v1) v6) + 10 ≤ v4) (k : Ev g mX1_guess d n n post n 37 [some (.ref 1), some (.int (nI v1)), some (.int v2), some (.int v3), some (.int v4), some (.int v5), some (.int ((nI v6) + 1)), none] [] X) : Ev g mX1_guess d n n post n 37 [some (.ref 1), some (.int (nI v1)), some (.int v2), some (.int v3), some (.int v4), some (.int v5), some (.int (nI v6)), none] [] X := by
  refine ev_iload dX1_guess_37 rfl ?_
  refine ev_aload_n dX1_guess_39 rfl ?_
  refine ev_getS (q := 23) dX1_guess_40 fo_1_21 (by omega) lo_1 rfl (sh_1_1 hX (by omega)) (by decide) ?_
  refine ev_getI dX1_guess_43 fo_1_131 (by omega) lo_23 rfl ?_
  refine ev_icmpF (tgt := 131) dX1_guess_46 (by decide) c0 ?_
  refine ev_aload_n dX1_guess_49 rfl ?_
  refine ev_getI dX1_guess_50 fo_1_69 (by omega) lo_1 rfl ?_
  refine ev_iload_n dX1_guess_53 rfl ?_
  refine ev_iconst (v := (-1)) dX1_guess_54 ki_m1 ?_
  refine ev_ixor dX1_guess_55 ?_
  refine ev_iand dX1_guess_56 ?_
  refine ev_iload dX1_guess_57 rfl ?_
  refine e_SNi (as := [.int ((X 1 6) &&& (v2 ^^^ (-1))), .int (nI v6)]) (rest := []) dX1_guess_59 vX11_hasBit ml_1_132 rfl rfl rfl stX11_hasBit npX11_hasBit (by decide) rfl (Nat.le_of_ble_eq_true rfl) (by omega) (t_X11_hasBit (d := d - 1) (by omega) (by omega) hX c1) ?_
  refine ev_ifF (tgt := 125) dX1_guess_62 (by decide) (by show ¬ (1 : Int32) = 0; decide) ?_
  refine ev_aload_n dX1_guess_65 rfl ?_
  refine ev_iload_n dX1_guess_66 rfl ?_
  refine ev_iload dX1_guess_67 rfl ?_
  refine e_Vi (as := [.int (nI v1), .int (nI v6)]) (rest := []) dX1_guess_69 vX1_mayEat ml_1_135 isX1_mayEat seX1_mayEat npX1_mayEat (rc_1 (by omega)) (by decide) rfl (Nat.le_of_ble_eq_true rfl) (by omega) (t_X1_mayEat (d := d - 1) (by omega) (by omega) hX c2 c3 c4 c5) ?_
  refine ev_ifT (tgt := 78) dX1_guess_72 (by decide) (by show ¬ (1 : Int32) = 0; decide) ?_
  refine ev_aload_n dX1_guess_78 rfl ?_
  refine ev_getS (q := 37) dX1_guess_79 fo_1_28 (by omega) lo_1 rfl (sh_1_2 hX (by omega)) (by decide) ?_
  refine ev_getS (q := 43) dX1_guess_82 fo_1_148 (by omega) lo_37 rfl (sh_37_6 hX (by omega)) (by decide) ?_
  refine ev_iload_n dX1_guess_85 rfl ?_
  refine ev_aald (q := 43 + 1 + v1) dX1_guess_86 (by omega) (Or.inl ly_43) rfl b0 (hX.2 43 v1 (by omega) (Or.inl (by rw [ly_43])) (by rw [ly_43]; exact b0)) (by first | omega | (have := LY_l ly_43; have := LY_lt (show (LY 43).1 < 99 by rw [ly_43]; exact (by decide : 2 < 99)); omega)) ?_
  refine ev_iload dX1_guess_87 rfl ?_
  refine ev_iald dX1_guess_89 (by have := b0; omega) (lyr_43 _ b0) rfl b1 ?_
  refine ev_iload_n dX1_guess_90 rfl ?_
  refine ev_iload dX1_guess_91 rfl ?_
  refine e_SNi (as := [.int v3, .int (nI v6)]) (rest := [.int (X (43 + 1 + v1) v6)]) dX1_guess_93 vX11_hasBit ml_1_132 rfl rfl rfl stX11_hasBit npX11_hasBit (by decide) rfl (Nat.le_of_ble_eq_true rfl) (by omega) (f_X11_hasBit (d := d - 1) (by omega) (by omega) hX c6) ?_
  refine ev_ifT (tgt := 103) dX1_guess_96 (by decide) (by show (0 : Int32) = 0; decide) ?_
  refine ev_bipush (v := 10) dX1_guess_103 kb_10 ?_
  refine ev_iadd dX1_guess_105 ?_
  refine ev_istore dX1_guess_106 (by decide) ?_
  refine ev_iload dX1_guess_108 rfl ?_
  refine ev_iload dX1_guess_110 rfl ?_
  refine ev_icmpT (tgt := 125) dX1_guess_112 (by decide) c7 ?_
  refine ev_iinc (v := (nI v6) + 1) dX1_guess_125 rfl (by rw [show Int32.ofInt 1 = 1 from ki_1]) (by decide) ?_
  refine ev_goto (tgt := 37) dX1_guess_128 (by decide) ?_
  refine ev_wk (L := [some (.ref 1), some (.int (nI v1)), some (.int v2), some (.int v3), some (.int v4), some (.int v5), some (.int ((nI v6) + 1)), some (.int ((X (43 + 1 + v1) v6) + 10))]) (L' := [some (.ref 1), some (.int (nI v1)), some (.int v2), some (.int v3), some (.int v4), some (.int v5), some (.int ((nI v6) + 1)), none]) (by simp [lwk]) ?_
  exact k
theorem bX1_guess_37_4 {g : GG} {d n : Nat} {post : Option Value → LX → Prop} {X : LX} (hd : 2 ≤ d) (hn : 146 ≤ n) (hX : Sh n X) {v1 : Nat} {v2 : Int32} {v3 : Int32} {v4 : Int32} {v5 : Int32} {v6 : Nat} (c0 : ¬ X 23 0 ≤ nI v6) (c1 : ¬ (((X 1 6) &&& (v2 ^^^ (-1))) >>> ((nI v6) &&& 31)) &&& 1 = 0) (c2 : v1 < 12) (c3 : v6 < 10) (c4 : num X 2 0 14) (c5 : ¬ (cMay X v1 v6)) (k : Ev g mX1_guess d n n post n 37 [some (.ref 1), some (.int (nI v1)), some (.int v2), some (.int v3), some (.int v4), some (.int v5), some (.int ((nI v6) + 1)), none] [] X) : Ev g mX1_guess d n n post n 37 [some (.ref 1), some (.int (nI v1)), some (.int v2), some (.int v3), some (.int v4), some (.int v5), some (.int (nI v6)), none] [] X := by
  refine ev_iload dX1_guess_37 rfl ?_
  refine ev_aload_n dX1_guess_39 rfl ?_
  refine ev_getS (q := 23) dX1_guess_40 fo_1_21 (by omega) lo_1 rfl (sh_1_1 hX (by omega)) (by decide) ?_
  refine ev_getI dX1_guess_43 fo_1_131 (by omega) lo_23 rfl ?_
  refine ev_icmpF (tgt := 131) dX1_guess_46 (by decide) c0 ?_
  refine ev_aload_n dX1_guess_49 rfl ?_
  refine ev_getI dX1_guess_50 fo_1_69 (by omega) lo_1 rfl ?_
  refine ev_iload_n dX1_guess_53 rfl ?_
  refine ev_iconst (v := (-1)) dX1_guess_54 ki_m1 ?_
  refine ev_ixor dX1_guess_55 ?_
  refine ev_iand dX1_guess_56 ?_
  refine ev_iload dX1_guess_57 rfl ?_
  refine e_SNi (as := [.int ((X 1 6) &&& (v2 ^^^ (-1))), .int (nI v6)]) (rest := []) dX1_guess_59 vX11_hasBit ml_1_132 rfl rfl rfl stX11_hasBit npX11_hasBit (by decide) rfl (Nat.le_of_ble_eq_true rfl) (by omega) (t_X11_hasBit (d := d - 1) (by omega) (by omega) hX c1) ?_
  refine ev_ifF (tgt := 125) dX1_guess_62 (by decide) (by show ¬ (1 : Int32) = 0; decide) ?_
  refine ev_aload_n dX1_guess_65 rfl ?_
  refine ev_iload_n dX1_guess_66 rfl ?_
  refine ev_iload dX1_guess_67 rfl ?_
  refine e_Vi (as := [.int (nI v1), .int (nI v6)]) (rest := []) dX1_guess_69 vX1_mayEat ml_1_135 isX1_mayEat seX1_mayEat npX1_mayEat (rc_1 (by omega)) (by decide) rfl (Nat.le_of_ble_eq_true rfl) (by omega) (f_X1_mayEat (d := d - 1) (by omega) (by omega) hX c2 c3 c4 c5) ?_
  refine ev_ifF (tgt := 78) dX1_guess_72 (by decide) (by show (0 : Int32) = 0; decide) ?_
  refine ev_goto (tgt := 125) dX1_guess_75 (by decide) ?_
  refine ev_iinc (v := (nI v6) + 1) dX1_guess_125 rfl (by rw [show Int32.ofInt 1 = 1 from ki_1]) (by decide) ?_
  refine ev_goto (tgt := 37) dX1_guess_128 (by decide) ?_
  exact k
theorem bX1_guess_37_5 {g : GG} {d n : Nat} {post : Option Value → LX → Prop} {X : LX} (hd : 1 ≤ d) (hn : 146 ≤ n) (hX : Sh n X) {v1 : Int32} {v2 : Int32} {v3 : Int32} {v4 : Int32} {v5 : Int32} {v6 : Int32} (c0 : ¬ X 23 0 ≤ v6) (c1 : ¬ (¬ (((X 1 6) &&& (v2 ^^^ (-1))) >>> (v6 &&& 31)) &&& 1 = 0)) (k : Ev g mX1_guess d n n post n 37 [some (.ref 1), some (.int v1), some (.int v2), some (.int v3), some (.int v4), some (.int v5), some (.int (v6 + 1)), none] [] X) : Ev g mX1_guess d n n post n 37 [some (.ref 1), some (.int v1), some (.int v2), some (.int v3), some (.int v4), some (.int v5), some (.int v6), none] [] X := by
  refine ev_iload dX1_guess_37 rfl ?_
  refine ev_aload_n dX1_guess_39 rfl ?_
  refine ev_getS (q := 23) dX1_guess_40 fo_1_21 (by omega) lo_1 rfl (sh_1_1 hX (by omega)) (by decide) ?_
  refine ev_getI dX1_guess_43 fo_1_131 (by omega) lo_23 rfl ?_
  refine ev_icmpF (tgt := 131) dX1_guess_46 (by decide) c0 ?_
  refine ev_aload_n dX1_guess_49 rfl ?_
  refine ev_getI dX1_guess_50 fo_1_69 (by omega) lo_1 rfl ?_
  refine ev_iload_n dX1_guess_53 rfl ?_
  refine ev_iconst (v := (-1)) dX1_guess_54 ki_m1 ?_
  refine ev_ixor dX1_guess_55 ?_
  refine ev_iand dX1_guess_56 ?_
  refine ev_iload dX1_guess_57 rfl ?_
  refine e_SNi (as := [.int ((X 1 6) &&& (v2 ^^^ (-1))), .int v6]) (rest := []) dX1_guess_59 vX11_hasBit ml_1_132 rfl rfl rfl stX11_hasBit npX11_hasBit (by decide) rfl (Nat.le_of_ble_eq_true rfl) (by omega) (f_X11_hasBit (d := d - 1) (by omega) (by omega) hX c1) ?_
  refine ev_ifT (tgt := 125) dX1_guess_62 (by decide) (by show (0 : Int32) = 0; decide) ?_
  refine ev_iinc (v := v6 + 1) dX1_guess_125 rfl (by rw [show Int32.ofInt 1 = 1 from ki_1]) (by decide) ?_
  refine ev_goto (tgt := 37) dX1_guess_128 (by decide) ?_
  exact k
theorem bX1_guess_37_6 {g : GG} {d n : Nat} {post : Option Value → LX → Prop} {X : LX} (hn : 146 ≤ n) (hX : Sh n X) {v1 : Int32} {v2 : Int32} {v3 : Int32} {v4 : Int32} {v5 : Int32} {v6 : Int32} (c0 : X 23 0 ≤ v6) (hp : post (some (.int v5)) X) : Ev g mX1_guess d n n post n 37 [some (.ref 1), some (.int v1), some (.int v2), some (.int v3), some (.int v4), some (.int v5), some (.int v6), none] [] X := by
  refine ev_iload dX1_guess_37 rfl ?_
  refine ev_aload_n dX1_guess_39 rfl ?_
  refine ev_getS (q := 23) dX1_guess_40 fo_1_21 (by omega) lo_1 rfl (sh_1_1 hX (by omega)) (by decide) ?_
  refine ev_getI dX1_guess_43 fo_1_131 (by omega) lo_23 rfl ?_
  refine ev_icmpT (tgt := 131) dX1_guess_46 (by decide) c0 ?_
  refine ev_iload dX1_guess_131 rfl ?_
  exact ev_iret dX1_guess_133 rfl rfl hp
theorem bX1_needOf_0_0 {g : GG} {d n : Nat} {post : Option Value → LX → Prop} {X : LX} (hn : 146 ≤ n) (hX : Sh n X) {v1 : Int32} {v2 : Int32} {v3 : Int32} (k : Ev g mX1_needOf d n n post n 6 [some (.ref 1), some (.int v1), some (.int v2), some (.int v3), some (.int 0), some (.int 0)] [] X) : Ev g mX1_needOf d n n post n 0 [some (.ref 1), some (.int v1), some (.int v2), some (.int v3), none, none] [] X := by
  refine ev_iconst (v := 0) dX1_needOf_0 ki_0 ?_
  refine ev_istore dX1_needOf_1 (by decide) ?_
  refine ev_iconst (v := 0) dX1_needOf_3 ki_0 ?_
  refine ev_istore dX1_needOf_4 (by decide) ?_
  exact k
theorem bX1_needOf_6_0 {g : GG} {d n : Nat} {post : Option Value → LX → Prop} {X : LX} (hd : 1 ≤ d) (hn : 146 ≤ n) (hX : Sh n X) {v1 : Int32} {v2 : Int32} {v3 : Nat} {v4 : Int32} {v5 : Nat} (c0 : ¬ X 23 0 ≤ nI v5) (c1 : ¬ (v2 >>> ((nI v5) &&& 31)) &&& 1 = 0) (b0 : v5 < 10) (b1 : v3 < 14) (k : Ev g mX1_needOf d n n post n 6 [some (.ref 1), some (.int v1), some (.int v2), some (.int (nI v3)), some (.int (v4 + (X (26 + 1 + v5) v3))), some (.int ((nI v5) + 1))] [] X) : Ev g mX1_needOf d n n post n 6 [some (.ref 1), some (.int v1), some (.int v2), some (.int (nI v3)), some (.int v4), some (.int (nI v5))] [] X := by
  refine ev_iload dX1_needOf_6 rfl ?_
  refine ev_aload_n dX1_needOf_8 rfl ?_
  refine ev_getS (q := 23) dX1_needOf_9 fo_1_21 (by omega) lo_1 rfl (sh_1_1 hX (by omega)) (by decide) ?_
  refine ev_getI dX1_needOf_12 fo_1_131 (by omega) lo_23 rfl ?_
  refine ev_icmpF (tgt := 50) dX1_needOf_15 (by decide) c0 ?_
  refine ev_iload_n dX1_needOf_18 rfl ?_
  refine ev_iload dX1_needOf_19 rfl ?_
  refine e_SNi (as := [.int v2, .int (nI v5)]) (rest := []) dX1_needOf_21 vX11_hasBit ml_1_132 rfl rfl rfl stX11_hasBit npX11_hasBit (by decide) rfl (Nat.le_of_ble_eq_true rfl) (by omega) (t_X11_hasBit (d := d - 1) (by omega) (by omega) hX c1) ?_
  refine ev_ifF (tgt := 44) dX1_needOf_24 (by decide) (by show ¬ (1 : Int32) = 0; decide) ?_
  refine ev_iload dX1_needOf_27 rfl ?_
  refine ev_aload_n dX1_needOf_29 rfl ?_
  refine ev_getS (q := 23) dX1_needOf_30 fo_1_21 (by omega) lo_1 rfl (sh_1_1 hX (by omega)) (by decide) ?_
  refine ev_getS (q := 26) dX1_needOf_33 fo_1_79 (by omega) lo_23 rfl (sh_23_3 hX (by omega)) (by decide) ?_
  refine ev_iload dX1_needOf_36 rfl ?_
  refine ev_aald (q := 26 + 1 + v5) dX1_needOf_38 (by omega) (Or.inl ly_26) rfl b0 (hX.2 26 v5 (by omega) (Or.inl (by rw [ly_26])) (by rw [ly_26]; exact b0)) (by first | omega | (have := LY_l ly_26; have := LY_lt (show (LY 26).1 < 99 by rw [ly_26]; exact (by decide : 2 < 99)); omega)) ?_
  refine ev_iload_n dX1_needOf_39 rfl ?_
  refine ev_iald dX1_needOf_40 (by have := b0; omega) (lyr_26 _ b0) rfl b1 ?_
  refine ev_iadd dX1_needOf_41 ?_
  refine ev_istore dX1_needOf_42 (by decide) ?_
  refine ev_iinc (v := (nI v5) + 1) dX1_needOf_44 rfl (by rw [show Int32.ofInt 1 = 1 from ki_1]) (by decide) ?_
  refine ev_goto (tgt := 6) dX1_needOf_47 (by decide) ?_
  exact k
theorem bX1_needOf_6_1 {g : GG} {d n : Nat} {post : Option Value → LX → Prop} {X : LX} (hd : 1 ≤ d) (hn : 146 ≤ n) (hX : Sh n X) {v1 : Int32} {v2 : Int32} {v3 : Int32} {v4 : Int32} {v5 : Int32} (c0 : ¬ X 23 0 ≤ v5) (c1 : ¬ (¬ (v2 >>> (v5 &&& 31)) &&& 1 = 0)) (k : Ev g mX1_needOf d n n post n 6 [some (.ref 1), some (.int v1), some (.int v2), some (.int v3), some (.int v4), some (.int (v5 + 1))] [] X) : Ev g mX1_needOf d n n post n 6 [some (.ref 1), some (.int v1), some (.int v2), some (.int v3), some (.int v4), some (.int v5)] [] X := by
  refine ev_iload dX1_needOf_6 rfl ?_
  refine ev_aload_n dX1_needOf_8 rfl ?_
  refine ev_getS (q := 23) dX1_needOf_9 fo_1_21 (by omega) lo_1 rfl (sh_1_1 hX (by omega)) (by decide) ?_
  refine ev_getI dX1_needOf_12 fo_1_131 (by omega) lo_23 rfl ?_
  refine ev_icmpF (tgt := 50) dX1_needOf_15 (by decide) c0 ?_
  refine ev_iload_n dX1_needOf_18 rfl ?_
  refine ev_iload dX1_needOf_19 rfl ?_
  refine e_SNi (as := [.int v2, .int v5]) (rest := []) dX1_needOf_21 vX11_hasBit ml_1_132 rfl rfl rfl stX11_hasBit npX11_hasBit (by decide) rfl (Nat.le_of_ble_eq_true rfl) (by omega) (f_X11_hasBit (d := d - 1) (by omega) (by omega) hX c1) ?_
  refine ev_ifT (tgt := 44) dX1_needOf_24 (by decide) (by show (0 : Int32) = 0; decide) ?_
  refine ev_iinc (v := v5 + 1) dX1_needOf_44 rfl (by rw [show Int32.ofInt 1 = 1 from ki_1]) (by decide) ?_
  refine ev_goto (tgt := 6) dX1_needOf_47 (by decide) ?_
  exact k
theorem bX1_needOf_6_2 {g : GG} {d n : Nat} {post : Option Value → LX → Prop} {X : LX} (hn : 146 ≤ n) (hX : Sh n X) {v1 : Nat} {v2 : Int32} {v3 : Int32} {v4 : Int32} {v5 : Int32} (c0 : X 23 0 ≤ v5) (b0 : v1 < 12) (hp : post (some (.int (v4 * (X 39 v1)))) X) : Ev g mX1_needOf d n n post n 6 [some (.ref 1), some (.int (nI v1)), some (.int v2), some (.int v3), some (.int v4), some (.int v5)] [] X := by
  refine ev_iload dX1_needOf_6 rfl ?_
  refine ev_aload_n dX1_needOf_8 rfl ?_
  refine ev_getS (q := 23) dX1_needOf_9 fo_1_21 (by omega) lo_1 rfl (sh_1_1 hX (by omega)) (by decide) ?_
  refine ev_getI dX1_needOf_12 fo_1_131 (by omega) lo_23 rfl ?_
  refine ev_icmpT (tgt := 50) dX1_needOf_15 (by decide) c0 ?_
  refine ev_iload dX1_needOf_50 rfl ?_
  refine ev_aload_n dX1_needOf_52 rfl ?_
  refine ev_getS (q := 37) dX1_needOf_53 fo_1_28 (by omega) lo_1 rfl (sh_1_2 hX (by omega)) (by decide) ?_
  refine ev_getS (q := 39) dX1_needOf_56 fo_1_154 (by omega) lo_37 rfl (sh_37_2 hX (by omega)) (by decide) ?_
  refine ev_iload_n dX1_needOf_59 rfl ?_
  refine ev_iald dX1_needOf_60 (by omega) ly_39 rfl b0 ?_
  refine ev_imul dX1_needOf_61 ?_
  exact ev_iret dX1_needOf_62 rfl rfl hp
theorem bX12_guess_0_0 {g : GG} {d n : Nat} {post : Option Value → LX → Prop} {X : LX} (hn : 146 ≤ n) (hX : Sh n X) {v1 : Int32} {v2 : Int32} (c0 : X 134 0 = 0) (k : Ev g mX12_guess d n n post n 45 [some (.ref 133), some (.int v1), some (.int v2), some (.int 0), some (.int (-1)), some (.int (-1)), some (.int 0), none] [] X) : Ev g mX12_guess d n n post n 0 [some (.ref 133), some (.int v1), some (.int v2), none, none, none, none, none] [] X := by
  refine ev_aload_n dX12_guess_0 rfl ?_
  refine ev_getS (q := 134) dX12_guess_1 fo_12_9 (by omega) lo_133 rfl (sh_133_0 hX (by omega)) (by decide) ?_
  refine ev_iconst (v := 0) dX12_guess_4 ki_0 ?_
  refine ev_iald dX12_guess_5 (by omega) ly_134 nIl_0 (by decide) ?_
  refine ev_ifF (tgt := 13) dX12_guess_6 (by decide) c0 ?_
  refine ev_iconst (v := 0) dX12_guess_9 ki_0 ?_
  refine ev_goto (tgt := 35) dX12_guess_10 (by decide) ?_
  refine ev_istore_n dX12_guess_35 (by decide) ?_
  refine ev_iconst (v := (-1)) dX12_guess_36 ki_m1 ?_
  refine ev_istore dX12_guess_37 (by decide) ?_
  refine ev_iconst (v := (-1)) dX12_guess_39 ki_m1 ?_
  refine ev_istore dX12_guess_40 (by decide) ?_
  refine ev_iconst (v := 0) dX12_guess_42 ki_0 ?_
  refine ev_istore dX12_guess_43 (by decide) ?_
  exact k
theorem bX12_guess_0_1 {g : GG} {d n : Nat} {post : Option Value → LX → Prop} {X : LX} (hn : 146 ≤ n) (hX : Sh n X) {v1 : Nat} {v2 : Int32} {j1 : Nat} (c0 : ¬ X 134 0 = 0) (hj1 : ((X 134 0) - 1) = nI j1) (b0 : ((828 + (12 * j1)) + v1) < 2156) (k : Ev g mX12_guess d n n post n 45 [some (.ref 133), some (.int (nI v1)), some (.int v2), some (.int (X 134 ((828 + (12 * j1)) + v1))), some (.int (-1)), some (.int (-1)), some (.int 0), none] [] X) : Ev g mX12_guess d n n post n 0 [some (.ref 133), some (.int (nI v1)), some (.int v2), none, none, none, none, none] [] X := by
  refine ev_aload_n dX12_guess_0 rfl ?_
  refine ev_getS (q := 134) dX12_guess_1 fo_12_9 (by omega) lo_133 rfl (sh_133_0 hX (by omega)) (by decide) ?_
  refine ev_iconst (v := 0) dX12_guess_4 ki_0 ?_
  refine ev_iald dX12_guess_5 (by omega) ly_134 nIl_0 (by decide) ?_
  refine ev_ifT (tgt := 13) dX12_guess_6 (by decide) c0 ?_
  refine ev_aload_n dX12_guess_13 rfl ?_
  refine ev_getS (q := 134) dX12_guess_14 fo_12_9 (by omega) lo_133 rfl (sh_133_0 hX (by omega)) (by decide) ?_
  refine ev_sipush (v := 828) dX12_guess_17 ks_828 ?_
  refine ev_bipush (v := 12) dX12_guess_20 kb_12 ?_
  refine ev_aload_n dX12_guess_22 rfl ?_
  refine ev_getS (q := 134) dX12_guess_23 fo_12_9 (by omega) lo_133 rfl (sh_133_0 hX (by omega)) (by decide) ?_
  refine ev_iconst (v := 0) dX12_guess_26 ki_0 ?_
  refine ev_iald dX12_guess_27 (by omega) ly_134 nIl_0 (by decide) ?_
  refine ev_iconst (v := 1) dX12_guess_28 ki_1 ?_
  refine ev_isub dX12_guess_29 ?_
  refine ev_imul dX12_guess_30 ?_
  refine ev_iadd dX12_guess_31 ?_
  refine ev_iload_n dX12_guess_32 rfl ?_
  refine ev_iadd dX12_guess_33 ?_
  refine ev_iald dX12_guess_34 (by omega) ly_134 (by rw [hj1]; show (nI 828 + (nI 12 * nI j1)) + nI v1 = nI ((828 + (12 * j1)) + v1); simp only [pk_mul, nI_add]) b0 ?_
  refine ev_istore_n dX12_guess_35 (by decide) ?_
  refine ev_iconst (v := (-1)) dX12_guess_36 ki_m1 ?_
  refine ev_istore dX12_guess_37 (by decide) ?_
  refine ev_iconst (v := (-1)) dX12_guess_39 ki_m1 ?_
  refine ev_istore dX12_guess_40 (by decide) ?_
  refine ev_iconst (v := 0) dX12_guess_42 ki_0 ?_
  refine ev_istore dX12_guess_43 (by decide) ?_
  exact k
theorem bX12_guess_45_0 {g : GG} {d n : Nat} {post : Option Value → LX → Prop} {X : LX} (hd : 1 ≤ d) (hn : 146 ≤ n) (hX : Sh n X) {v1 : Int32} {v2 : Int32} {v3 : Int32} {v4 : Int32} {v5 : Int32} {v6 : Int32} (c0 : ¬ 10 ≤ v6) (c1 : ((X 134 8) >>> (v6 &&& 31)) &&& 1 = 1) (c2 : (v2 >>> (v6 &&& 31)) &&& 1 = 1) (k : Ev g mX12_guess d n n post n 45 [some (.ref 133), some (.int v1), some (.int v2), some (.int v3), some (.int v4), some (.int v5), some (.int (v6 + 1)), none] [] X) : Ev g mX12_guess d n n post n 45 [some (.ref 133), some (.int v1), some (.int v2), some (.int v3), some (.int v4), some (.int v5), some (.int v6), none] [] X := by
  refine ev_iload dX12_guess_45 rfl ?_
  refine ev_bipush (v := 10) dX12_guess_47 kb_10 ?_
  refine ev_icmpF (tgt := 138) dX12_guess_49 (by decide) c0 ?_
  refine ev_aload_n dX12_guess_52 rfl ?_
  refine ev_getS (q := 134) dX12_guess_53 fo_12_9 (by omega) lo_133 rfl (sh_133_0 hX (by omega)) (by decide) ?_
  refine ev_bipush (v := 8) dX12_guess_56 kb_8 ?_
  refine ev_iald dX12_guess_58 (by omega) ly_134 nIl_8 (by decide) ?_
  refine ev_iload dX12_guess_59 rfl ?_
  refine e_Si (as := [.int (X 134 8), .int v6]) (rest := []) dX12_guess_61 vX12_has ml_12_76 stX12_has npX12_has (by decide) rfl (Nat.le_of_ble_eq_true rfl) (by omega) (t_X12_has (d := d - 1) (by omega) (by omega) hX c1) ?_
  refine ev_ifF (tgt := 132) dX12_guess_64 (by decide) (by show ¬ (1 : Int32) = 0; decide) ?_
  refine ev_iload_n dX12_guess_67 rfl ?_
  refine ev_iload dX12_guess_68 rfl ?_
  refine e_Si (as := [.int v2, .int v6]) (rest := []) dX12_guess_70 vX12_has ml_12_76 stX12_has npX12_has (by decide) rfl (Nat.le_of_ble_eq_true rfl) (by omega) (t_X12_has (d := d - 1) (by omega) (by omega) hX c2) ?_
  refine ev_ifT (tgt := 132) dX12_guess_73 (by decide) (by show ¬ (1 : Int32) = 0; decide) ?_
  refine ev_iinc (v := v6 + 1) dX12_guess_132 rfl (by rw [show Int32.ofInt 1 = 1 from ki_1]) (by decide) ?_
  refine ev_goto (tgt := 45) dX12_guess_135 (by decide) ?_
  exact k
theorem bX12_guess_45_1 {g : GG} {d n : Nat} {post : Option Value → LX → Prop} {X : LX} (hd : 3 ≤ d) (hn : 146 ≤ n) (hX : Sh n X) {v1 : Nat} {v2 : Int32} {v3 : Int32} {v4 : Int32} {v5 : Int32} {v6 : Nat} (c0 : ¬ 10 ≤ nI v6) (c1 : ((X 134 8) >>> ((nI v6) &&& 31)) &&& 1 = 1) (c2 : ¬ ((v2 >>> ((nI v6) &&& 31)) &&& 1 = 1)) (c3 : v1 < 12) (c4 : v6 < 10) (c5 : okM X v6) (c6 : mMay X v1 v6) (b0 : ((448 + (15 * v1)) + (5 + v6)) < 2156) (c7 : (v3 >>> ((nI v6) &&& 31)) &&& 1 = 1) (c8 : ¬ (X 134 ((448 + (15 * v1)) + (5 + v6))) + 0 ≤ v5) (k : Ev g mX12_guess d n n post n 45 [some (.ref 133), some (.int (nI v1)), some (.int v2), some (.int v3), some (.int (nI v6)), some (.int ((X 134 ((448 + (15 * v1)) + (5 + v6))) + 0)), some (.int ((nI v6) + 1)), none] [] X) : Ev g mX12_guess d n n post n 45 [some (.ref 133), some (.int (nI v1)), some (.int v2), some (.int v3), some (.int v4), some (.int v5), some (.int (nI v6)), none] [] X := by
  refine ev_iload dX12_guess_45 rfl ?_
  refine ev_bipush (v := 10) dX12_guess_47 kb_10 ?_
  refine ev_icmpF (tgt := 138) dX12_guess_49 (by decide) c0 ?_
  refine ev_aload_n dX12_guess_52 rfl ?_
  refine ev_getS (q := 134) dX12_guess_53 fo_12_9 (by omega) lo_133 rfl (sh_133_0 hX (by omega)) (by decide) ?_
  refine ev_bipush (v := 8) dX12_guess_56 kb_8 ?_
  refine ev_iald dX12_guess_58 (by omega) ly_134 nIl_8 (by decide) ?_
  refine ev_iload dX12_guess_59 rfl ?_
  refine e_Si (as := [.int (X 134 8), .int (nI v6)]) (rest := []) dX12_guess_61 vX12_has ml_12_76 stX12_has npX12_has (by decide) rfl (Nat.le_of_ble_eq_true rfl) (by omega) (t_X12_has (d := d - 1) (by omega) (by omega) hX c1) ?_
  refine ev_ifF (tgt := 132) dX12_guess_64 (by decide) (by show ¬ (1 : Int32) = 0; decide) ?_
  refine ev_iload_n dX12_guess_67 rfl ?_
  refine ev_iload dX12_guess_68 rfl ?_
  refine e_Si (as := [.int v2, .int (nI v6)]) (rest := []) dX12_guess_70 vX12_has ml_12_76 stX12_has npX12_has (by decide) rfl (Nat.le_of_ble_eq_true rfl) (by omega) (f_X12_has (d := d - 1) (by omega) (by omega) hX c2) ?_
  refine ev_ifF (tgt := 132) dX12_guess_73 (by decide) (by show (0 : Int32) = 0; decide) ?_
  refine ev_aload_n dX12_guess_76 rfl ?_
  refine ev_iload_n dX12_guess_77 rfl ?_
  refine ev_iload dX12_guess_78 rfl ?_
  refine e_Vi (as := [.int (nI v1), .int (nI v6)]) (rest := []) dX12_guess_80 vX12_mayEat ml_12_106 isX12_mayEat seX12_mayEat npX12_mayEat (rc_133 (by omega)) (by decide) rfl (Nat.le_of_ble_eq_true rfl) (by omega) (t_X12_mayEat (d := d - 1) (by omega) (by omega) hX c3 c4 c5 c6) ?_
  refine ev_ifF (tgt := 132) dX12_guess_83 (by decide) (by show ¬ (1 : Int32) = 0; decide) ?_
  refine ev_aload_n dX12_guess_86 rfl ?_
  refine ev_getS (q := 134) dX12_guess_87 fo_12_9 (by omega) lo_133 rfl (sh_133_0 hX (by omega)) (by decide) ?_
  refine ev_iload_n dX12_guess_90 rfl ?_
  refine ev_iconst (v := 5) dX12_guess_91 ki_5 ?_
  refine ev_iload dX12_guess_92 rfl ?_
  refine ev_iadd dX12_guess_94 ?_
  refine e_Si (as := [.int (nI v1), .int (5 + (nI v6))]) (rest := [.ref 134]) dX12_guess_95 vX12_ofFamily ml_12_99 stX12_ofFamily npX12_ofFamily (by decide) rfl (Nat.le_of_ble_eq_true rfl) (by omega) (c_X12_ofFamily (d := d - 1) (by omega) (by omega) hX ) ?_
  refine ev_iald dX12_guess_98 (by omega) ly_134 (by show (nI 448 + (nI 15 * nI v1)) + (nI 5 + nI v6) = nI ((448 + (15 * v1)) + (5 + v6)); simp only [pk_mul, nI_add]) b0 ?_
  refine ev_iload_n dX12_guess_99 rfl ?_
  refine ev_iload dX12_guess_100 rfl ?_
  refine e_Si (as := [.int v3, .int (nI v6)]) (rest := [.int (X 134 ((448 + (15 * v1)) + (5 + v6)))]) dX12_guess_102 vX12_has ml_12_76 stX12_has npX12_has (by decide) rfl (Nat.le_of_ble_eq_true rfl) (by omega) (t_X12_has (d := d - 1) (by omega) (by omega) hX c7) ?_
  refine ev_ifF (tgt := 112) dX12_guess_105 (by decide) (by show ¬ (1 : Int32) = 0; decide) ?_
  refine ev_iconst (v := 0) dX12_guess_108 ki_0 ?_
  refine ev_goto (tgt := 114) dX12_guess_109 (by decide) ?_
  refine ev_iadd dX12_guess_114 ?_
  refine ev_istore dX12_guess_115 (by decide) ?_
  refine ev_iload dX12_guess_117 rfl ?_
  refine ev_iload dX12_guess_119 rfl ?_
  refine ev_icmpF (tgt := 132) dX12_guess_121 (by decide) c8 ?_
  refine ev_iload dX12_guess_124 rfl ?_
  refine ev_istore dX12_guess_126 (by decide) ?_
  refine ev_iload dX12_guess_128 rfl ?_
  refine ev_istore dX12_guess_130 (by decide) ?_
  refine ev_iinc (v := (nI v6) + 1) dX12_guess_132 rfl (by rw [show Int32.ofInt 1 = 1 from ki_1]) (by decide) ?_
  refine ev_goto (tgt := 45) dX12_guess_135 (by decide) ?_
  refine ev_wk (L := [some (.ref 133), some (.int (nI v1)), some (.int v2), some (.int v3), some (.int (nI v6)), some (.int ((X 134 ((448 + (15 * v1)) + (5 + v6))) + 0)), some (.int ((nI v6) + 1)), some (.int ((X 134 ((448 + (15 * v1)) + (5 + v6))) + 0))]) (L' := [some (.ref 133), some (.int (nI v1)), some (.int v2), some (.int v3), some (.int (nI v6)), some (.int ((X 134 ((448 + (15 * v1)) + (5 + v6))) + 0)), some (.int ((nI v6) + 1)), none]) (by simp [lwk]) ?_
  exact k
theorem bX12_guess_45_2 {g : GG} {d n : Nat} {post : Option Value → LX → Prop} {X : LX} (hd : 3 ≤ d) (hn : 146 ≤ n) (hX : Sh n X) {v1 : Nat} {v2 : Int32} {v3 : Int32} {v4 : Int32} {v5 : Int32} {v6 : Nat} (c0 : ¬ 10 ≤ nI v6) (c1 : ((X 134 8) >>> ((nI v6) &&& 31)) &&& 1 = 1) (c2 : ¬ ((v2 >>> ((nI v6) &&& 31)) &&& 1 = 1)) (c3 : v1 < 12) (c4 : v6 < 10) (c5 : okM X v6) (c6 : mMay X v1 v6) (b0 : ((448 + (15 * v1)) + (5 + v6)) < 2156) (c7 : (v3 >>> ((nI v6) &&& 31)) &&& 1 = 1) (c8 : (X 134 ((448 + (15 * v1)) + (5 + v6))) + 0 ≤ v5) (k : Ev g mX12_guess d n n post n 45 [some (.ref 133), some (.int (nI v1)), some (.int v2), some (.int v3), some (.int v4), some (.int v5), some (.int ((nI v6) + 1)), none] [] X) : Ev g mX12_guess d n n post n 45 [some (.ref 133), some (.int (nI v1)), some (.int v2), some (.int v3), some (.int v4), some (.int v5), some (.int (nI v6)), none] [] X := by
  refine ev_iload dX12_guess_45 rfl ?_
  refine ev_bipush (v := 10) dX12_guess_47 kb_10 ?_
  refine ev_icmpF (tgt := 138) dX12_guess_49 (by decide) c0 ?_
  refine ev_aload_n dX12_guess_52 rfl ?_
  refine ev_getS (q := 134) dX12_guess_53 fo_12_9 (by omega) lo_133 rfl (sh_133_0 hX (by omega)) (by decide) ?_
  refine ev_bipush (v := 8) dX12_guess_56 kb_8 ?_
  refine ev_iald dX12_guess_58 (by omega) ly_134 nIl_8 (by decide) ?_
  refine ev_iload dX12_guess_59 rfl ?_
  refine e_Si (as := [.int (X 134 8), .int (nI v6)]) (rest := []) dX12_guess_61 vX12_has ml_12_76 stX12_has npX12_has (by decide) rfl (Nat.le_of_ble_eq_true rfl) (by omega) (t_X12_has (d := d - 1) (by omega) (by omega) hX c1) ?_
  refine ev_ifF (tgt := 132) dX12_guess_64 (by decide) (by show ¬ (1 : Int32) = 0; decide) ?_
  refine ev_iload_n dX12_guess_67 rfl ?_
  refine ev_iload dX12_guess_68 rfl ?_
  refine e_Si (as := [.int v2, .int (nI v6)]) (rest := []) dX12_guess_70 vX12_has ml_12_76 stX12_has npX12_has (by decide) rfl (Nat.le_of_ble_eq_true rfl) (by omega) (f_X12_has (d := d - 1) (by omega) (by omega) hX c2) ?_
  refine ev_ifF (tgt := 132) dX12_guess_73 (by decide) (by show (0 : Int32) = 0; decide) ?_
  refine ev_aload_n dX12_guess_76 rfl ?_
  refine ev_iload_n dX12_guess_77 rfl ?_
  refine ev_iload dX12_guess_78 rfl ?_
  refine e_Vi (as := [.int (nI v1), .int (nI v6)]) (rest := []) dX12_guess_80 vX12_mayEat ml_12_106 isX12_mayEat seX12_mayEat npX12_mayEat (rc_133 (by omega)) (by decide) rfl (Nat.le_of_ble_eq_true rfl) (by omega) (t_X12_mayEat (d := d - 1) (by omega) (by omega) hX c3 c4 c5 c6) ?_
  refine ev_ifF (tgt := 132) dX12_guess_83 (by decide) (by show ¬ (1 : Int32) = 0; decide) ?_
  refine ev_aload_n dX12_guess_86 rfl ?_
  refine ev_getS (q := 134) dX12_guess_87 fo_12_9 (by omega) lo_133 rfl (sh_133_0 hX (by omega)) (by decide) ?_
  refine ev_iload_n dX12_guess_90 rfl ?_
  refine ev_iconst (v := 5) dX12_guess_91 ki_5 ?_
  refine ev_iload dX12_guess_92 rfl ?_
  refine ev_iadd dX12_guess_94 ?_
  refine e_Si (as := [.int (nI v1), .int (5 + (nI v6))]) (rest := [.ref 134]) dX12_guess_95 vX12_ofFamily ml_12_99 stX12_ofFamily npX12_ofFamily (by decide) rfl (Nat.le_of_ble_eq_true rfl) (by omega) (c_X12_ofFamily (d := d - 1) (by omega) (by omega) hX ) ?_
  refine ev_iald dX12_guess_98 (by omega) ly_134 (by show (nI 448 + (nI 15 * nI v1)) + (nI 5 + nI v6) = nI ((448 + (15 * v1)) + (5 + v6)); simp only [pk_mul, nI_add]) b0 ?_
  refine ev_iload_n dX12_guess_99 rfl ?_
  refine ev_iload dX12_guess_100 rfl ?_
  refine e_Si (as := [.int v3, .int (nI v6)]) (rest := [.int (X 134 ((448 + (15 * v1)) + (5 + v6)))]) dX12_guess_102 vX12_has ml_12_76 stX12_has npX12_has (by decide) rfl (Nat.le_of_ble_eq_true rfl) (by omega) (t_X12_has (d := d - 1) (by omega) (by omega) hX c7) ?_
  refine ev_ifF (tgt := 112) dX12_guess_105 (by decide) (by show ¬ (1 : Int32) = 0; decide) ?_
  refine ev_iconst (v := 0) dX12_guess_108 ki_0 ?_
  refine ev_goto (tgt := 114) dX12_guess_109 (by decide) ?_
  refine ev_iadd dX12_guess_114 ?_
  refine ev_istore dX12_guess_115 (by decide) ?_
  refine ev_iload dX12_guess_117 rfl ?_
  refine ev_iload dX12_guess_119 rfl ?_
  refine ev_icmpT (tgt := 132) dX12_guess_121 (by decide) c8 ?_
  refine ev_iinc (v := (nI v6) + 1) dX12_guess_132 rfl (by rw [show Int32.ofInt 1 = 1 from ki_1]) (by decide) ?_
  refine ev_goto (tgt := 45) dX12_guess_135 (by decide) ?_
  refine ev_wk (L := [some (.ref 133), some (.int (nI v1)), some (.int v2), some (.int v3), some (.int v4), some (.int v5), some (.int ((nI v6) + 1)), some (.int ((X 134 ((448 + (15 * v1)) + (5 + v6))) + 0))]) (L' := [some (.ref 133), some (.int (nI v1)), some (.int v2), some (.int v3), some (.int v4), some (.int v5), some (.int ((nI v6) + 1)), none]) (by simp [lwk]) ?_
  exact k
theorem bX12_guess_45_3 {g : GG} {d n : Nat} {post : Option Value → LX → Prop} {X : LX} (hd : 3 ≤ d) (hn : 146 ≤ n) (hX : Sh n X) {v1 : Nat} {v2 : Int32} {v3 : Int32} {v4 : Int32} {v5 : Int32} {v6 : Nat} (c0 : ¬ 10 ≤ nI v6) (c1 : ((X 134 8) >>> ((nI v6) &&& 31)) &&& 1 = 1) (c2 : ¬ ((v2 >>> ((nI v6) &&& 31)) &&& 1 = 1)) (c3 : v1 < 12) (c4 : v6 < 10) (c5 : okM X v6) (c6 : mMay X v1 v6) (b0 : ((448 + (15 * v1)) + (5 + v6)) < 2156) (c7 : ¬ ((v3 >>> ((nI v6) &&& 31)) &&& 1 = 1)) (c8 : ¬ (X 134 ((448 + (15 * v1)) + (5 + v6))) + 10 ≤ v5) (k : Ev g mX12_guess d n n post n 45 [some (.ref 133), some (.int (nI v1)), some (.int v2), some (.int v3), some (.int (nI v6)), some (.int ((X 134 ((448 + (15 * v1)) + (5 + v6))) + 10)), some (.int ((nI v6) + 1)), none] [] X) : Ev g mX12_guess d n n post n 45 [some (.ref 133), some (.int (nI v1)), some (.int v2), some (.int v3), some (.int v4), some (.int v5), some (.int (nI v6)), none] [] X := by
  refine ev_iload dX12_guess_45 rfl ?_
  refine ev_bipush (v := 10) dX12_guess_47 kb_10 ?_
  refine ev_icmpF (tgt := 138) dX12_guess_49 (by decide) c0 ?_
  refine ev_aload_n dX12_guess_52 rfl ?_
  refine ev_getS (q := 134) dX12_guess_53 fo_12_9 (by omega) lo_133 rfl (sh_133_0 hX (by omega)) (by decide) ?_
  refine ev_bipush (v := 8) dX12_guess_56 kb_8 ?_
  refine ev_iald dX12_guess_58 (by omega) ly_134 nIl_8 (by decide) ?_
  refine ev_iload dX12_guess_59 rfl ?_
  refine e_Si (as := [.int (X 134 8), .int (nI v6)]) (rest := []) dX12_guess_61 vX12_has ml_12_76 stX12_has npX12_has (by decide) rfl (Nat.le_of_ble_eq_true rfl) (by omega) (t_X12_has (d := d - 1) (by omega) (by omega) hX c1) ?_
  refine ev_ifF (tgt := 132) dX12_guess_64 (by decide) (by show ¬ (1 : Int32) = 0; decide) ?_
  refine ev_iload_n dX12_guess_67 rfl ?_
  refine ev_iload dX12_guess_68 rfl ?_
  refine e_Si (as := [.int v2, .int (nI v6)]) (rest := []) dX12_guess_70 vX12_has ml_12_76 stX12_has npX12_has (by decide) rfl (Nat.le_of_ble_eq_true rfl) (by omega) (f_X12_has (d := d - 1) (by omega) (by omega) hX c2) ?_
  refine ev_ifF (tgt := 132) dX12_guess_73 (by decide) (by show (0 : Int32) = 0; decide) ?_
  refine ev_aload_n dX12_guess_76 rfl ?_
  refine ev_iload_n dX12_guess_77 rfl ?_
  refine ev_iload dX12_guess_78 rfl ?_
  refine e_Vi (as := [.int (nI v1), .int (nI v6)]) (rest := []) dX12_guess_80 vX12_mayEat ml_12_106 isX12_mayEat seX12_mayEat npX12_mayEat (rc_133 (by omega)) (by decide) rfl (Nat.le_of_ble_eq_true rfl) (by omega) (t_X12_mayEat (d := d - 1) (by omega) (by omega) hX c3 c4 c5 c6) ?_
  refine ev_ifF (tgt := 132) dX12_guess_83 (by decide) (by show ¬ (1 : Int32) = 0; decide) ?_
  refine ev_aload_n dX12_guess_86 rfl ?_
  refine ev_getS (q := 134) dX12_guess_87 fo_12_9 (by omega) lo_133 rfl (sh_133_0 hX (by omega)) (by decide) ?_
  refine ev_iload_n dX12_guess_90 rfl ?_
  refine ev_iconst (v := 5) dX12_guess_91 ki_5 ?_
  refine ev_iload dX12_guess_92 rfl ?_
  refine ev_iadd dX12_guess_94 ?_
  refine e_Si (as := [.int (nI v1), .int (5 + (nI v6))]) (rest := [.ref 134]) dX12_guess_95 vX12_ofFamily ml_12_99 stX12_ofFamily npX12_ofFamily (by decide) rfl (Nat.le_of_ble_eq_true rfl) (by omega) (c_X12_ofFamily (d := d - 1) (by omega) (by omega) hX ) ?_
  refine ev_iald dX12_guess_98 (by omega) ly_134 (by show (nI 448 + (nI 15 * nI v1)) + (nI 5 + nI v6) = nI ((448 + (15 * v1)) + (5 + v6)); simp only [pk_mul, nI_add]) b0 ?_
  refine ev_iload_n dX12_guess_99 rfl ?_
  refine ev_iload dX12_guess_100 rfl ?_
  refine e_Si (as := [.int v3, .int (nI v6)]) (rest := [.int (X 134 ((448 + (15 * v1)) + (5 + v6)))]) dX12_guess_102 vX12_has ml_12_76 stX12_has npX12_has (by decide) rfl (Nat.le_of_ble_eq_true rfl) (by omega) (f_X12_has (d := d - 1) (by omega) (by omega) hX c7) ?_
  refine ev_ifT (tgt := 112) dX12_guess_105 (by decide) (by show (0 : Int32) = 0; decide) ?_
  refine ev_bipush (v := 10) dX12_guess_112 kb_10 ?_
  refine ev_iadd dX12_guess_114 ?_
  refine ev_istore dX12_guess_115 (by decide) ?_
  refine ev_iload dX12_guess_117 rfl ?_
  refine ev_iload dX12_guess_119 rfl ?_
  refine ev_icmpF (tgt := 132) dX12_guess_121 (by decide) c8 ?_
  refine ev_iload dX12_guess_124 rfl ?_
  refine ev_istore dX12_guess_126 (by decide) ?_
  refine ev_iload dX12_guess_128 rfl ?_
  refine ev_istore dX12_guess_130 (by decide) ?_
  refine ev_iinc (v := (nI v6) + 1) dX12_guess_132 rfl (by rw [show Int32.ofInt 1 = 1 from ki_1]) (by decide) ?_
  refine ev_goto (tgt := 45) dX12_guess_135 (by decide) ?_
  refine ev_wk (L := [some (.ref 133), some (.int (nI v1)), some (.int v2), some (.int v3), some (.int (nI v6)), some (.int ((X 134 ((448 + (15 * v1)) + (5 + v6))) + 10)), some (.int ((nI v6) + 1)), some (.int ((X 134 ((448 + (15 * v1)) + (5 + v6))) + 10))]) (L' := [some (.ref 133), some (.int (nI v1)), some (.int v2), some (.int v3), some (.int (nI v6)), some (.int ((X 134 ((448 + (15 * v1)) + (5 + v6))) + 10)), some (.int ((nI v6) + 1)), none]) (by simp [lwk]) ?_
  exact k
theorem bX12_guess_45_4 {g : GG} {d n : Nat} {post : Option Value → LX → Prop} {X : LX} (hd : 3 ≤ d) (hn : 146 ≤ n) (hX : Sh n X) {v1 : Nat} {v2 : Int32} {v3 : Int32} {v4 : Int32} {v5 : Int32} {v6 : Nat} (c0 : ¬ 10 ≤ nI v6) (c1 : ((X 134 8) >>> ((nI v6) &&& 31)) &&& 1 = 1) (c2 : ¬ ((v2 >>> ((nI v6) &&& 31)) &&& 1 = 1)) (c3 : v1 < 12) (c4 : v6 < 10) (c5 : okM X v6) (c6 : mMay X v1 v6) (b0 : ((448 + (15 * v1)) + (5 + v6)) < 2156) (c7 : ¬ ((v3 >>> ((nI v6) &&& 31)) &&& 1 = 1)) (c8 : (X 134 ((448 + (15 * v1)) + (5 + v6))) + 10 ≤ v5) (k : Ev g mX12_guess d n n post n 45 [some (.ref 133), some (.int (nI v1)), some (.int v2), some (.int v3), some (.int v4), some (.int v5), some (.int ((nI v6) + 1)), none] [] X) : Ev g mX12_guess d n n post n 45 [some (.ref 133), some (.int (nI v1)), some (.int v2), some (.int v3), some (.int v4), some (.int v5), some (.int (nI v6)), none] [] X := by
  refine ev_iload dX12_guess_45 rfl ?_
  refine ev_bipush (v := 10) dX12_guess_47 kb_10 ?_
  refine ev_icmpF (tgt := 138) dX12_guess_49 (by decide) c0 ?_
  refine ev_aload_n dX12_guess_52 rfl ?_
  refine ev_getS (q := 134) dX12_guess_53 fo_12_9 (by omega) lo_133 rfl (sh_133_0 hX (by omega)) (by decide) ?_
  refine ev_bipush (v := 8) dX12_guess_56 kb_8 ?_
  refine ev_iald dX12_guess_58 (by omega) ly_134 nIl_8 (by decide) ?_
  refine ev_iload dX12_guess_59 rfl ?_
  refine e_Si (as := [.int (X 134 8), .int (nI v6)]) (rest := []) dX12_guess_61 vX12_has ml_12_76 stX12_has npX12_has (by decide) rfl (Nat.le_of_ble_eq_true rfl) (by omega) (t_X12_has (d := d - 1) (by omega) (by omega) hX c1) ?_
  refine ev_ifF (tgt := 132) dX12_guess_64 (by decide) (by show ¬ (1 : Int32) = 0; decide) ?_
  refine ev_iload_n dX12_guess_67 rfl ?_
  refine ev_iload dX12_guess_68 rfl ?_
  refine e_Si (as := [.int v2, .int (nI v6)]) (rest := []) dX12_guess_70 vX12_has ml_12_76 stX12_has npX12_has (by decide) rfl (Nat.le_of_ble_eq_true rfl) (by omega) (f_X12_has (d := d - 1) (by omega) (by omega) hX c2) ?_
  refine ev_ifF (tgt := 132) dX12_guess_73 (by decide) (by show (0 : Int32) = 0; decide) ?_
  refine ev_aload_n dX12_guess_76 rfl ?_
  refine ev_iload_n dX12_guess_77 rfl ?_
  refine ev_iload dX12_guess_78 rfl ?_
  refine e_Vi (as := [.int (nI v1), .int (nI v6)]) (rest := []) dX12_guess_80 vX12_mayEat ml_12_106 isX12_mayEat seX12_mayEat npX12_mayEat (rc_133 (by omega)) (by decide) rfl (Nat.le_of_ble_eq_true rfl) (by omega) (t_X12_mayEat (d := d - 1) (by omega) (by omega) hX c3 c4 c5 c6) ?_
  refine ev_ifF (tgt := 132) dX12_guess_83 (by decide) (by show ¬ (1 : Int32) = 0; decide) ?_
  refine ev_aload_n dX12_guess_86 rfl ?_
  refine ev_getS (q := 134) dX12_guess_87 fo_12_9 (by omega) lo_133 rfl (sh_133_0 hX (by omega)) (by decide) ?_
  refine ev_iload_n dX12_guess_90 rfl ?_
  refine ev_iconst (v := 5) dX12_guess_91 ki_5 ?_
  refine ev_iload dX12_guess_92 rfl ?_
  refine ev_iadd dX12_guess_94 ?_
  refine e_Si (as := [.int (nI v1), .int (5 + (nI v6))]) (rest := [.ref 134]) dX12_guess_95 vX12_ofFamily ml_12_99 stX12_ofFamily npX12_ofFamily (by decide) rfl (Nat.le_of_ble_eq_true rfl) (by omega) (c_X12_ofFamily (d := d - 1) (by omega) (by omega) hX ) ?_
  refine ev_iald dX12_guess_98 (by omega) ly_134 (by show (nI 448 + (nI 15 * nI v1)) + (nI 5 + nI v6) = nI ((448 + (15 * v1)) + (5 + v6)); simp only [pk_mul, nI_add]) b0 ?_
  refine ev_iload_n dX12_guess_99 rfl ?_
  refine ev_iload dX12_guess_100 rfl ?_
  refine e_Si (as := [.int v3, .int (nI v6)]) (rest := [.int (X 134 ((448 + (15 * v1)) + (5 + v6)))]) dX12_guess_102 vX12_has ml_12_76 stX12_has npX12_has (by decide) rfl (Nat.le_of_ble_eq_true rfl) (by omega) (f_X12_has (d := d - 1) (by omega) (by omega) hX c7) ?_
  refine ev_ifT (tgt := 112) dX12_guess_105 (by decide) (by show (0 : Int32) = 0; decide) ?_
  refine ev_bipush (v := 10) dX12_guess_112 kb_10 ?_
  refine ev_iadd dX12_guess_114 ?_
  refine ev_istore dX12_guess_115 (by decide) ?_
  refine ev_iload dX12_guess_117 rfl ?_
  refine ev_iload dX12_guess_119 rfl ?_
  refine ev_icmpT (tgt := 132) dX12_guess_121 (by decide) c8 ?_
  refine ev_iinc (v := (nI v6) + 1) dX12_guess_132 rfl (by rw [show Int32.ofInt 1 = 1 from ki_1]) (by decide) ?_
  refine ev_goto (tgt := 45) dX12_guess_135 (by decide) ?_
  refine ev_wk (L := [some (.ref 133), some (.int (nI v1)), some (.int v2), some (.int v3), some (.int v4), some (.int v5), some (.int ((nI v6) + 1)), some (.int ((X 134 ((448 + (15 * v1)) + (5 + v6))) + 10))]) (L' := [some (.ref 133), some (.int (nI v1)), some (.int v2), some (.int v3), some (.int v4), some (.int v5), some (.int ((nI v6) + 1)), none]) (by simp [lwk]) ?_
  exact k
theorem bX12_guess_45_5 {g : GG} {d n : Nat} {post : Option Value → LX → Prop} {X : LX} (hd : 3 ≤ d) (hn : 146 ≤ n) (hX : Sh n X) {v1 : Nat} {v2 : Int32} {v3 : Int32} {v4 : Int32} {v5 : Int32} {v6 : Nat} (c0 : ¬ 10 ≤ nI v6) (c1 : ((X 134 8) >>> ((nI v6) &&& 31)) &&& 1 = 1) (c2 : ¬ ((v2 >>> ((nI v6) &&& 31)) &&& 1 = 1)) (c3 : v1 < 12) (c4 : v6 < 10) (c5 : okM X v6) (c6 : ¬ (mMay X v1 v6)) (k : Ev g mX12_guess d n n post n 45 [some (.ref 133), some (.int (nI v1)), some (.int v2), some (.int v3), some (.int v4), some (.int v5), some (.int ((nI v6) + 1)), none] [] X) : Ev g mX12_guess d n n post n 45 [some (.ref 133), some (.int (nI v1)), some (.int v2), some (.int v3), some (.int v4), some (.int v5), some (.int (nI v6)), none] [] X := by
  refine ev_iload dX12_guess_45 rfl ?_
  refine ev_bipush (v := 10) dX12_guess_47 kb_10 ?_
  refine ev_icmpF (tgt := 138) dX12_guess_49 (by decide) c0 ?_
  refine ev_aload_n dX12_guess_52 rfl ?_
  refine ev_getS (q := 134) dX12_guess_53 fo_12_9 (by omega) lo_133 rfl (sh_133_0 hX (by omega)) (by decide) ?_
  refine ev_bipush (v := 8) dX12_guess_56 kb_8 ?_
  refine ev_iald dX12_guess_58 (by omega) ly_134 nIl_8 (by decide) ?_
  refine ev_iload dX12_guess_59 rfl ?_
  refine e_Si (as := [.int (X 134 8), .int (nI v6)]) (rest := []) dX12_guess_61 vX12_has ml_12_76 stX12_has npX12_has (by decide) rfl (Nat.le_of_ble_eq_true rfl) (by omega) (t_X12_has (d := d - 1) (by omega) (by omega) hX c1) ?_
  refine ev_ifF (tgt := 132) dX12_guess_64 (by decide) (by show ¬ (1 : Int32) = 0; decide) ?_
  refine ev_iload_n dX12_guess_67 rfl ?_
  refine ev_iload dX12_guess_68 rfl ?_
  refine e_Si (as := [.int v2, .int (nI v6)]) (rest := []) dX12_guess_70 vX12_has ml_12_76 stX12_has npX12_has (by decide) rfl (Nat.le_of_ble_eq_true rfl) (by omega) (f_X12_has (d := d - 1) (by omega) (by omega) hX c2) ?_
  refine ev_ifF (tgt := 132) dX12_guess_73 (by decide) (by show (0 : Int32) = 0; decide) ?_
  refine ev_aload_n dX12_guess_76 rfl ?_
  refine ev_iload_n dX12_guess_77 rfl ?_
  refine ev_iload dX12_guess_78 rfl ?_
  refine e_Vi (as := [.int (nI v1), .int (nI v6)]) (rest := []) dX12_guess_80 vX12_mayEat ml_12_106 isX12_mayEat seX12_mayEat npX12_mayEat (rc_133 (by omega)) (by decide) rfl (Nat.le_of_ble_eq_true rfl) (by omega) (f_X12_mayEat (d := d - 1) (by omega) (by omega) hX c3 c4 c5 c6) ?_
  refine ev_ifT (tgt := 132) dX12_guess_83 (by decide) (by show (0 : Int32) = 0; decide) ?_
  refine ev_iinc (v := (nI v6) + 1) dX12_guess_132 rfl (by rw [show Int32.ofInt 1 = 1 from ki_1]) (by decide) ?_
  refine ev_goto (tgt := 45) dX12_guess_135 (by decide) ?_
  exact k
theorem bX12_guess_45_6 {g : GG} {d n : Nat} {post : Option Value → LX → Prop} {X : LX} (hd : 1 ≤ d) (hn : 146 ≤ n) (hX : Sh n X) {v1 : Int32} {v2 : Int32} {v3 : Int32} {v4 : Int32} {v5 : Int32} {v6 : Int32} (c0 : ¬ 10 ≤ v6) (c1 : ¬ (((X 134 8) >>> (v6 &&& 31)) &&& 1 = 1)) (k : Ev g mX12_guess d n n post n 45 [some (.ref 133), some (.int v1), some (.int v2), some (.int v3), some (.int v4), some (.int v5), some (.int (v6 + 1)), none] [] X) : Ev g mX12_guess d n n post n 45 [some (.ref 133), some (.int v1), some (.int v2), some (.int v3), some (.int v4), some (.int v5), some (.int v6), none] [] X := by
  refine ev_iload dX12_guess_45 rfl ?_
  refine ev_bipush (v := 10) dX12_guess_47 kb_10 ?_
  refine ev_icmpF (tgt := 138) dX12_guess_49 (by decide) c0 ?_
  refine ev_aload_n dX12_guess_52 rfl ?_
  refine ev_getS (q := 134) dX12_guess_53 fo_12_9 (by omega) lo_133 rfl (sh_133_0 hX (by omega)) (by decide) ?_
  refine ev_bipush (v := 8) dX12_guess_56 kb_8 ?_
  refine ev_iald dX12_guess_58 (by omega) ly_134 nIl_8 (by decide) ?_
  refine ev_iload dX12_guess_59 rfl ?_
  refine e_Si (as := [.int (X 134 8), .int v6]) (rest := []) dX12_guess_61 vX12_has ml_12_76 stX12_has npX12_has (by decide) rfl (Nat.le_of_ble_eq_true rfl) (by omega) (f_X12_has (d := d - 1) (by omega) (by omega) hX c1) ?_
  refine ev_ifT (tgt := 132) dX12_guess_64 (by decide) (by show (0 : Int32) = 0; decide) ?_
  refine ev_iinc (v := v6 + 1) dX12_guess_132 rfl (by rw [show Int32.ofInt 1 = 1 from ki_1]) (by decide) ?_
  refine ev_goto (tgt := 45) dX12_guess_135 (by decide) ?_
  exact k
theorem bX12_guess_45_7 {g : GG} {d n : Nat} {post : Option Value → LX → Prop} {X : LX} (hn : 146 ≤ n) (hX : Sh n X) {v1 : Int32} {v2 : Int32} {v3 : Int32} {v4 : Int32} {v5 : Int32} {v6 : Int32} (c0 : 10 ≤ v6) (hp : post (some (.int v4)) X) : Ev g mX12_guess d n n post n 45 [some (.ref 133), some (.int v1), some (.int v2), some (.int v3), some (.int v4), some (.int v5), some (.int v6), none] [] X := by
  refine ev_iload dX12_guess_45 rfl ?_
  refine ev_bipush (v := 10) dX12_guess_47 kb_10 ?_
  refine ev_icmpT (tgt := 138) dX12_guess_49 (by decide) c0 ?_
  refine ev_iload dX12_guess_138 rfl ?_
  exact ev_iret dX12_guess_140 rfl rfl hp
theorem bX11_may_0_0 {g : GG} {d n : Nat} {post : Option Value → LX → Prop} {X : LX} (hd : 2 ≤ d) (hn : 146 ≤ n) (hX : Sh n X) {v1 : Nat} {v2 : Nat} (c0 : 0 ≤ (nI v1) ∧ (nI v1) < X 37 0) (c1 : 0 ≤ (nI v2) ∧ (nI v2) < X 23 0) (c2 : v1 < 12) (c3 : v2 < 10) (c4 : num X 2 0 14) (c5 : cMay X v1 v2) (hp : post (some (.int 1)) X) : Ev g mX11_may d n n post n 0 [some (.ref 0), some (.int (nI v1)), some (.int (nI v2))] [] X := by
  refine ev_aload_n dX11_may_0 rfl ?_
  refine ev_getS (q := 1) dX11_may_1 fo_11_10 (by omega) lo_0 rfl (sh_0_0 hX (by omega)) (by decide) ?_
  refine ev_getS (q := 37) dX11_may_4 fo_11_144 (by omega) lo_1 rfl (sh_1_2 hX (by omega)) (by decide) ?_
  refine ev_iload_n dX11_may_7 rfl ?_
  refine e_Vi (as := [.int (nI v1)]) (rest := []) dX11_may_8 vX0_has ml_11_163 isX0_has seX0_has npX0_has (rc_37 (by omega)) (by decide) rfl (Nat.le_of_ble_eq_true rfl) (by omega) (t_X0_has (d := d - 1) (by omega) (by omega) hX c0) ?_
  refine ev_ifF (tgt := 28) dX11_may_11 (by decide) (by show ¬ (1 : Int32) = 0; decide) ?_
  refine ev_aload_n dX11_may_14 rfl ?_
  refine ev_getS (q := 1) dX11_may_15 fo_11_10 (by omega) lo_0 rfl (sh_0_0 hX (by omega)) (by decide) ?_
  refine ev_getS (q := 23) dX11_may_18 fo_11_96 (by omega) lo_1 rfl (sh_1_1 hX (by omega)) (by decide) ?_
  refine ev_iload_n dX11_may_21 rfl ?_
  refine e_Vi (as := [.int (nI v2)]) (rest := []) dX11_may_22 vX5_has ml_11_109 isX5_has seX5_has npX5_has (rc_23 (by omega)) (by decide) rfl (Nat.le_of_ble_eq_true rfl) (by omega) (t_X5_has (d := d - 1) (by omega) (by omega) hX c1) ?_
  refine ev_ifT (tgt := 31) dX11_may_25 (by decide) (by show ¬ (1 : Int32) = 0; decide) ?_
  refine ev_aload_n dX11_may_31 rfl ?_
  refine ev_getS (q := 1) dX11_may_32 fo_11_10 (by omega) lo_0 rfl (sh_0_0 hX (by omega)) (by decide) ?_
  refine ev_iload_n dX11_may_35 rfl ?_
  refine ev_iload_n dX11_may_36 rfl ?_
  refine e_Vi (as := [.int (nI v1), .int (nI v2)]) (rest := []) dX11_may_37 vX1_mayEat ml_11_190 isX1_mayEat seX1_mayEat npX1_mayEat (rc_1 (by omega)) (by decide) rfl (Nat.le_of_ble_eq_true rfl) (by omega) (t_X1_mayEat (d := d - 1) (by omega) (by omega) hX c2 c3 c4 c5) ?_
  refine e_Si (as := [.int 1]) (rest := []) dX11_may_40 vX11_truth ml_11_114 stX11_truth npX11_truth (by decide) rfl (Nat.le_of_ble_eq_true rfl) (by omega) (t_X11_truth (d := d - 1) (by omega) (by omega) hX (by decide)) ?_
  exact ev_iret dX11_may_43 rfl rfl hp
theorem bX11_may_0_1 {g : GG} {d n : Nat} {post : Option Value → LX → Prop} {X : LX} (hd : 2 ≤ d) (hn : 146 ≤ n) (hX : Sh n X) {v1 : Nat} {v2 : Nat} (c0 : 0 ≤ (nI v1) ∧ (nI v1) < X 37 0) (c1 : 0 ≤ (nI v2) ∧ (nI v2) < X 23 0) (c2 : v1 < 12) (c3 : v2 < 10) (c4 : num X 2 0 14) (c5 : ¬ (cMay X v1 v2)) (hp : post (some (.int 0)) X) : Ev g mX11_may d n n post n 0 [some (.ref 0), some (.int (nI v1)), some (.int (nI v2))] [] X := by
  refine ev_aload_n dX11_may_0 rfl ?_
  refine ev_getS (q := 1) dX11_may_1 fo_11_10 (by omega) lo_0 rfl (sh_0_0 hX (by omega)) (by decide) ?_
  refine ev_getS (q := 37) dX11_may_4 fo_11_144 (by omega) lo_1 rfl (sh_1_2 hX (by omega)) (by decide) ?_
  refine ev_iload_n dX11_may_7 rfl ?_
  refine e_Vi (as := [.int (nI v1)]) (rest := []) dX11_may_8 vX0_has ml_11_163 isX0_has seX0_has npX0_has (rc_37 (by omega)) (by decide) rfl (Nat.le_of_ble_eq_true rfl) (by omega) (t_X0_has (d := d - 1) (by omega) (by omega) hX c0) ?_
  refine ev_ifF (tgt := 28) dX11_may_11 (by decide) (by show ¬ (1 : Int32) = 0; decide) ?_
  refine ev_aload_n dX11_may_14 rfl ?_
  refine ev_getS (q := 1) dX11_may_15 fo_11_10 (by omega) lo_0 rfl (sh_0_0 hX (by omega)) (by decide) ?_
  refine ev_getS (q := 23) dX11_may_18 fo_11_96 (by omega) lo_1 rfl (sh_1_1 hX (by omega)) (by decide) ?_
  refine ev_iload_n dX11_may_21 rfl ?_
  refine e_Vi (as := [.int (nI v2)]) (rest := []) dX11_may_22 vX5_has ml_11_109 isX5_has seX5_has npX5_has (rc_23 (by omega)) (by decide) rfl (Nat.le_of_ble_eq_true rfl) (by omega) (t_X5_has (d := d - 1) (by omega) (by omega) hX c1) ?_
  refine ev_ifT (tgt := 31) dX11_may_25 (by decide) (by show ¬ (1 : Int32) = 0; decide) ?_
  refine ev_aload_n dX11_may_31 rfl ?_
  refine ev_getS (q := 1) dX11_may_32 fo_11_10 (by omega) lo_0 rfl (sh_0_0 hX (by omega)) (by decide) ?_
  refine ev_iload_n dX11_may_35 rfl ?_
  refine ev_iload_n dX11_may_36 rfl ?_
  refine e_Vi (as := [.int (nI v1), .int (nI v2)]) (rest := []) dX11_may_37 vX1_mayEat ml_11_190 isX1_mayEat seX1_mayEat npX1_mayEat (rc_1 (by omega)) (by decide) rfl (Nat.le_of_ble_eq_true rfl) (by omega) (f_X1_mayEat (d := d - 1) (by omega) (by omega) hX c2 c3 c4 c5) ?_
  refine e_Si (as := [.int 0]) (rest := []) dX11_may_40 vX11_truth ml_11_114 stX11_truth npX11_truth (by decide) rfl (Nat.le_of_ble_eq_true rfl) (by omega) (f_X11_truth (d := d - 1) (by omega) (by omega) hX (by decide)) ?_
  exact ev_iret dX11_may_43 rfl rfl hp
theorem bX11_may_0_2 {g : GG} {d n : Nat} {post : Option Value → LX → Prop} {X : LX} (hd : 1 ≤ d) (hn : 146 ≤ n) (hX : Sh n X) {v1 : Int32} {v2 : Int32} (c0 : 0 ≤ v1 ∧ v1 < X 37 0) (c1 : ¬ (0 ≤ v2 ∧ v2 < X 23 0)) (hp : post (some (.int (-1000000001))) X) : Ev g mX11_may d n n post n 0 [some (.ref 0), some (.int v1), some (.int v2)] [] X := by
  refine ev_aload_n dX11_may_0 rfl ?_
  refine ev_getS (q := 1) dX11_may_1 fo_11_10 (by omega) lo_0 rfl (sh_0_0 hX (by omega)) (by decide) ?_
  refine ev_getS (q := 37) dX11_may_4 fo_11_144 (by omega) lo_1 rfl (sh_1_2 hX (by omega)) (by decide) ?_
  refine ev_iload_n dX11_may_7 rfl ?_
  refine e_Vi (as := [.int v1]) (rest := []) dX11_may_8 vX0_has ml_11_163 isX0_has seX0_has npX0_has (rc_37 (by omega)) (by decide) rfl (Nat.le_of_ble_eq_true rfl) (by omega) (t_X0_has (d := d - 1) (by omega) (by omega) hX c0) ?_
  refine ev_ifF (tgt := 28) dX11_may_11 (by decide) (by show ¬ (1 : Int32) = 0; decide) ?_
  refine ev_aload_n dX11_may_14 rfl ?_
  refine ev_getS (q := 1) dX11_may_15 fo_11_10 (by omega) lo_0 rfl (sh_0_0 hX (by omega)) (by decide) ?_
  refine ev_getS (q := 23) dX11_may_18 fo_11_96 (by omega) lo_1 rfl (sh_1_1 hX (by omega)) (by decide) ?_
  refine ev_iload_n dX11_may_21 rfl ?_
  refine e_Vi (as := [.int v2]) (rest := []) dX11_may_22 vX5_has ml_11_109 isX5_has seX5_has npX5_has (rc_23 (by omega)) (by decide) rfl (Nat.le_of_ble_eq_true rfl) (by omega) (f_X5_has (d := d - 1) (by omega) (by omega) hX c1) ?_
  refine ev_ifF (tgt := 31) dX11_may_25 (by decide) (by show (0 : Int32) = 0; decide) ?_
  refine ev_ldc (v := (-1000000001)) dX11_may_28 kw_11_61 ?_
  exact ev_iret dX11_may_30 rfl rfl hp
theorem bX11_may_0_3 {g : GG} {d n : Nat} {post : Option Value → LX → Prop} {X : LX} (hd : 1 ≤ d) (hn : 146 ≤ n) (hX : Sh n X) {v1 : Int32} {v2 : Int32} (c0 : ¬ (0 ≤ v1 ∧ v1 < X 37 0)) (hp : post (some (.int (-1000000001))) X) : Ev g mX11_may d n n post n 0 [some (.ref 0), some (.int v1), some (.int v2)] [] X := by
  refine ev_aload_n dX11_may_0 rfl ?_
  refine ev_getS (q := 1) dX11_may_1 fo_11_10 (by omega) lo_0 rfl (sh_0_0 hX (by omega)) (by decide) ?_
  refine ev_getS (q := 37) dX11_may_4 fo_11_144 (by omega) lo_1 rfl (sh_1_2 hX (by omega)) (by decide) ?_
  refine ev_iload_n dX11_may_7 rfl ?_
  refine e_Vi (as := [.int v1]) (rest := []) dX11_may_8 vX0_has ml_11_163 isX0_has seX0_has npX0_has (rc_37 (by omega)) (by decide) rfl (Nat.le_of_ble_eq_true rfl) (by omega) (f_X0_has (d := d - 1) (by omega) (by omega) hX c0) ?_
  refine ev_ifT (tgt := 28) dX11_may_11 (by decide) (by show (0 : Int32) = 0; decide) ?_
  refine ev_ldc (v := (-1000000001)) dX11_may_28 kw_11_61 ?_
  exact ev_iret dX11_may_30 rfl rfl hp
theorem bX12_may_0_0 {g : GG} {d n : Nat} {post : Option Value → LX → Prop} {X : LX} (hd : 3 ≤ d) (hn : 146 ≤ n) (hX : Sh n X) {v1 : Nat} {v2 : Nat} (c0 : 0 ≤ (nI v1) ∧ (nI v1) ≤ X 134 6 - 1) (c1 : 0 ≤ (nI v2) ∧ (nI v2) ≤ X 134 5 - 1) (c2 : v1 < 12) (c3 : v2 < 10) (c4 : okM X v2) (c5 : mMay X v1 v2) (hp : post (some (.int 1)) X) : Ev g mX12_may d n n post n 0 [some (.ref 133), some (.int (nI v1)), some (.int (nI v2))] [] X := by
  refine ev_aload_n dX12_may_0 rfl ?_
  refine ev_iload_n dX12_may_1 rfl ?_
  refine e_Vi (as := [.int (nI v1)]) (rest := []) dX12_may_2 vX12_isFamily ml_12_102 isX12_isFamily seX12_isFamily npX12_isFamily (rc_133 (by omega)) (by decide) rfl (Nat.le_of_ble_eq_true rfl) (by omega) (t_X12_isFamily (d := d - 1) (by omega) (by omega) hX c0) ?_
  refine ev_ifF (tgt := 16) dX12_may_5 (by decide) (by show ¬ (1 : Int32) = 0; decide) ?_
  refine ev_aload_n dX12_may_8 rfl ?_
  refine ev_iload_n dX12_may_9 rfl ?_
  refine e_Vi (as := [.int (nI v2)]) (rest := []) dX12_may_10 vX12_isMeal ml_12_70 isX12_isMeal seX12_isMeal npX12_isMeal (rc_133 (by omega)) (by decide) rfl (Nat.le_of_ble_eq_true rfl) (by omega) (t_X12_isMeal (d := d - 1) (by omega) (by omega) hX c1) ?_
  refine ev_ifT (tgt := 21) dX12_may_13 (by decide) (by show ¬ (1 : Int32) = 0; decide) ?_
  refine ev_aload_n dX12_may_21 rfl ?_
  refine ev_iload_n dX12_may_22 rfl ?_
  refine ev_iload_n dX12_may_23 rfl ?_
  refine e_Vi (as := [.int (nI v1), .int (nI v2)]) (rest := []) dX12_may_24 vX12_mayEat ml_12_106 isX12_mayEat seX12_mayEat npX12_mayEat (rc_133 (by omega)) (by decide) rfl (Nat.le_of_ble_eq_true rfl) (by omega) (t_X12_mayEat (d := d - 1) (by omega) (by omega) hX c2 c3 c4 c5) ?_
  refine ev_ifF (tgt := 34) dX12_may_27 (by decide) (by show ¬ (1 : Int32) = 0; decide) ?_
  refine ev_iconst (v := 1) dX12_may_30 ki_1 ?_
  refine ev_goto (tgt := 35) dX12_may_31 (by decide) ?_
  exact ev_iret dX12_may_35 rfl rfl hp
theorem bX12_may_0_1 {g : GG} {d n : Nat} {post : Option Value → LX → Prop} {X : LX} (hd : 3 ≤ d) (hn : 146 ≤ n) (hX : Sh n X) {v1 : Nat} {v2 : Nat} (c0 : 0 ≤ (nI v1) ∧ (nI v1) ≤ X 134 6 - 1) (c1 : 0 ≤ (nI v2) ∧ (nI v2) ≤ X 134 5 - 1) (c2 : v1 < 12) (c3 : v2 < 10) (c4 : okM X v2) (c5 : ¬ (mMay X v1 v2)) (hp : post (some (.int 0)) X) : Ev g mX12_may d n n post n 0 [some (.ref 133), some (.int (nI v1)), some (.int (nI v2))] [] X := by
  refine ev_aload_n dX12_may_0 rfl ?_
  refine ev_iload_n dX12_may_1 rfl ?_
  refine e_Vi (as := [.int (nI v1)]) (rest := []) dX12_may_2 vX12_isFamily ml_12_102 isX12_isFamily seX12_isFamily npX12_isFamily (rc_133 (by omega)) (by decide) rfl (Nat.le_of_ble_eq_true rfl) (by omega) (t_X12_isFamily (d := d - 1) (by omega) (by omega) hX c0) ?_
  refine ev_ifF (tgt := 16) dX12_may_5 (by decide) (by show ¬ (1 : Int32) = 0; decide) ?_
  refine ev_aload_n dX12_may_8 rfl ?_
  refine ev_iload_n dX12_may_9 rfl ?_
  refine e_Vi (as := [.int (nI v2)]) (rest := []) dX12_may_10 vX12_isMeal ml_12_70 isX12_isMeal seX12_isMeal npX12_isMeal (rc_133 (by omega)) (by decide) rfl (Nat.le_of_ble_eq_true rfl) (by omega) (t_X12_isMeal (d := d - 1) (by omega) (by omega) hX c1) ?_
  refine ev_ifT (tgt := 21) dX12_may_13 (by decide) (by show ¬ (1 : Int32) = 0; decide) ?_
  refine ev_aload_n dX12_may_21 rfl ?_
  refine ev_iload_n dX12_may_22 rfl ?_
  refine ev_iload_n dX12_may_23 rfl ?_
  refine e_Vi (as := [.int (nI v1), .int (nI v2)]) (rest := []) dX12_may_24 vX12_mayEat ml_12_106 isX12_mayEat seX12_mayEat npX12_mayEat (rc_133 (by omega)) (by decide) rfl (Nat.le_of_ble_eq_true rfl) (by omega) (f_X12_mayEat (d := d - 1) (by omega) (by omega) hX c2 c3 c4 c5) ?_
  refine ev_ifT (tgt := 34) dX12_may_27 (by decide) (by show (0 : Int32) = 0; decide) ?_
  refine ev_iconst (v := 0) dX12_may_34 ki_0 ?_
  exact ev_iret dX12_may_35 rfl rfl hp
theorem bX12_may_0_2 {g : GG} {d n : Nat} {post : Option Value → LX → Prop} {X : LX} (hd : 2 ≤ d) (hn : 146 ≤ n) (hX : Sh n X) {v1 : Int32} {v2 : Int32} (c0 : 0 ≤ v1 ∧ v1 ≤ X 134 6 - 1) (c1 : ¬ (0 ≤ v2 ∧ v2 ≤ X 134 5 - 1)) (hp : post (some (.int (-1000000001))) X) : Ev g mX12_may d n n post n 0 [some (.ref 133), some (.int v1), some (.int v2)] [] X := by
  refine ev_aload_n dX12_may_0 rfl ?_
  refine ev_iload_n dX12_may_1 rfl ?_
  refine e_Vi (as := [.int v1]) (rest := []) dX12_may_2 vX12_isFamily ml_12_102 isX12_isFamily seX12_isFamily npX12_isFamily (rc_133 (by omega)) (by decide) rfl (Nat.le_of_ble_eq_true rfl) (by omega) (t_X12_isFamily (d := d - 1) (by omega) (by omega) hX c0) ?_
  refine ev_ifF (tgt := 16) dX12_may_5 (by decide) (by show ¬ (1 : Int32) = 0; decide) ?_
  refine ev_aload_n dX12_may_8 rfl ?_
  refine ev_iload_n dX12_may_9 rfl ?_
  refine e_Vi (as := [.int v2]) (rest := []) dX12_may_10 vX12_isMeal ml_12_70 isX12_isMeal seX12_isMeal npX12_isMeal (rc_133 (by omega)) (by decide) rfl (Nat.le_of_ble_eq_true rfl) (by omega) (f_X12_isMeal (d := d - 1) (by omega) (by omega) hX c1) ?_
  refine ev_ifF (tgt := 21) dX12_may_13 (by decide) (by show (0 : Int32) = 0; decide) ?_
  refine ev_ldc (v := (-1000000001)) dX12_may_16 kw_12_57 ?_
  refine ev_goto (tgt := 35) dX12_may_18 (by decide) ?_
  exact ev_iret dX12_may_35 rfl rfl hp
theorem bX12_may_0_3 {g : GG} {d n : Nat} {post : Option Value → LX → Prop} {X : LX} (hd : 2 ≤ d) (hn : 146 ≤ n) (hX : Sh n X) {v1 : Int32} {v2 : Int32} (c0 : ¬ (0 ≤ v1 ∧ v1 ≤ X 134 6 - 1)) (hp : post (some (.int (-1000000001))) X) : Ev g mX12_may d n n post n 0 [some (.ref 133), some (.int v1), some (.int v2)] [] X := by
  refine ev_aload_n dX12_may_0 rfl ?_
  refine ev_iload_n dX12_may_1 rfl ?_
  refine e_Vi (as := [.int v1]) (rest := []) dX12_may_2 vX12_isFamily ml_12_102 isX12_isFamily seX12_isFamily npX12_isFamily (rc_133 (by omega)) (by decide) rfl (Nat.le_of_ble_eq_true rfl) (by omega) (f_X12_isFamily (d := d - 1) (by omega) (by omega) hX c0) ?_
  refine ev_ifT (tgt := 16) dX12_may_5 (by decide) (by show (0 : Int32) = 0; decide) ?_
  refine ev_ldc (v := (-1000000001)) dX12_may_16 kw_12_57 ?_
  refine ev_goto (tgt := 35) dX12_may_18 (by decide) ?_
  exact ev_iret dX12_may_35 rfl rfl hp
