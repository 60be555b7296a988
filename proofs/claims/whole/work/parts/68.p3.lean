/-! BLOCKS of copy (System.arraycopy). -/
theorem acy_l : Cond.methodLink RX11 375 arraycopyName ∈ GT := gt_at 941 (by decide +kernel) rfl
theorem acy_s : Cond.static arraycopyName ∈ GT := gt_at 942 (by decide +kernel) rfl
theorem acy_n : Cond.native arraycopyName ∈ GT := gt_at 943 (by decide +kernel) rfl
theorem acy_i : Cond.initialized "java/lang/System" ∈ GT := gt_at 93 (by decide +kernel) rfl
theorem bX11_copy_0_0 {g : GG} {d n : Nat} {post : Option Value → LX → Prop} {X : LX} (hd : 1 ≤ d) (hn : 146 ≤ n) (hX : Sh n X) {v1 : Nat} {v2 : Int32} {v3 : Int32} {v4 : Int32} {v5 : Int32} (c0 : 0 ≤ (nI v1) ∧ (nI v1) < 2) (c1 : 0 ≤ v3 ∧ v3 < 2) (c2 : v1 < 2) (c3 : X 131 v1 < 0) (hp : post (some (.int (-1000000011))) X) : Ev g mX11_copy d n n post n 0 [some (.ref 0), some (.int (nI v1)), some (.int v2), some (.int v3), some (.int v4), some (.int v5)] [] X := by
  refine ev_aload_n dX11_copy_0 rfl ?_
  refine ev_getS (q := 127) dX11_copy_1 fo_11_49 (by omega) lo_0 rfl (sh_0_5 hX (by omega)) (by decide) ?_
  refine ev_iload_n dX11_copy_4 rfl ?_
  refine e_Vi (as := [.int (nI v1)]) (rest := []) dX11_copy_5 vX9_isNumber ml_11_170 isX9_isNumber seX9_isNumber npX9_isNumber (rc_127 (by omega)) (by decide) rfl (Nat.le_of_ble_eq_true rfl) (by omega) (t_X9_isNumber (d := d - 1) (by omega) (by omega) hX c0) ?_
  refine ev_ifF (tgt := 22) dX11_copy_8 (by decide) (by show ¬ (1 : Int32) = 0; decide) ?_
  refine ev_aload_n dX11_copy_11 rfl ?_
  refine ev_getS (q := 127) dX11_copy_12 fo_11_49 (by omega) lo_0 rfl (sh_0_5 hX (by omega)) (by decide) ?_
  refine ev_iload_n dX11_copy_15 rfl ?_
  refine e_Vi (as := [.int v3]) (rest := []) dX11_copy_16 vX9_isNumber ml_11_170 isX9_isNumber seX9_isNumber npX9_isNumber (rc_127 (by omega)) (by decide) rfl (Nat.le_of_ble_eq_true rfl) (by omega) (t_X9_isNumber (d := d - 1) (by omega) (by omega) hX c1) ?_
  refine ev_ifT (tgt := 25) dX11_copy_19 (by decide) (by show ¬ (1 : Int32) = 0; decide) ?_
  refine ev_aload_n dX11_copy_25 rfl ?_
  refine ev_getS (q := 127) dX11_copy_26 fo_11_49 (by omega) lo_0 rfl (sh_0_5 hX (by omega)) (by decide) ?_
  refine ev_iload_n dX11_copy_29 rfl ?_
  refine e_Vi (as := [.int (nI v1)]) (rest := []) dX11_copy_30 vX9_isMissing ml_11_173 isX9_isMissing seX9_isMissing npX9_isMissing (rc_127 (by omega)) (by decide) rfl (Nat.le_of_ble_eq_true rfl) (by omega) (t_X9_isMissing (d := d - 1) (by omega) (by omega) hX c2 c3) ?_
  refine ev_ifT (tgt := 47) dX11_copy_33 (by decide) (by show ¬ (1 : Int32) = 0; decide) ?_
  refine ev_ldc (v := (-1000000011)) dX11_copy_47 kw_11_176 ?_
  exact ev_iret dX11_copy_49 rfl rfl hp
theorem bX11_copy_0_1 {g : GG} {d n : Nat} {post : Option Value → LX → Prop} {X : LX} (hd : 1 ≤ d) (hn : 146 ≤ n) (hX : Sh n X) {v1 : Nat} {v2 : Int32} {v3 : Nat} {v4 : Int32} {v5 : Int32} (c0 : 0 ≤ (nI v1) ∧ (nI v1) < 2) (c1 : 0 ≤ (nI v3) ∧ (nI v3) < 2) (c2 : v1 < 2) (c3 : ¬ (X 131 v1 < 0)) (c4 : v3 < 2) (c5 : X 131 v3 < 0) (hp : post (some (.int (-1000000011))) X) : Ev g mX11_copy d n n post n 0 [some (.ref 0), some (.int (nI v1)), some (.int v2), some (.int (nI v3)), some (.int v4), some (.int v5)] [] X := by
  refine ev_aload_n dX11_copy_0 rfl ?_
  refine ev_getS (q := 127) dX11_copy_1 fo_11_49 (by omega) lo_0 rfl (sh_0_5 hX (by omega)) (by decide) ?_
  refine ev_iload_n dX11_copy_4 rfl ?_
  refine e_Vi (as := [.int (nI v1)]) (rest := []) dX11_copy_5 vX9_isNumber ml_11_170 isX9_isNumber seX9_isNumber npX9_isNumber (rc_127 (by omega)) (by decide) rfl (Nat.le_of_ble_eq_true rfl) (by omega) (t_X9_isNumber (d := d - 1) (by omega) (by omega) hX c0) ?_
  refine ev_ifF (tgt := 22) dX11_copy_8 (by decide) (by show ¬ (1 : Int32) = 0; decide) ?_
  refine ev_aload_n dX11_copy_11 rfl ?_
  refine ev_getS (q := 127) dX11_copy_12 fo_11_49 (by omega) lo_0 rfl (sh_0_5 hX (by omega)) (by decide) ?_
  refine ev_iload_n dX11_copy_15 rfl ?_
  refine e_Vi (as := [.int (nI v3)]) (rest := []) dX11_copy_16 vX9_isNumber ml_11_170 isX9_isNumber seX9_isNumber npX9_isNumber (rc_127 (by omega)) (by decide) rfl (Nat.le_of_ble_eq_true rfl) (by omega) (t_X9_isNumber (d := d - 1) (by omega) (by omega) hX c1) ?_
  refine ev_ifT (tgt := 25) dX11_copy_19 (by decide) (by show ¬ (1 : Int32) = 0; decide) ?_
  refine ev_aload_n dX11_copy_25 rfl ?_
  refine ev_getS (q := 127) dX11_copy_26 fo_11_49 (by omega) lo_0 rfl (sh_0_5 hX (by omega)) (by decide) ?_
  refine ev_iload_n dX11_copy_29 rfl ?_
  refine e_Vi (as := [.int (nI v1)]) (rest := []) dX11_copy_30 vX9_isMissing ml_11_173 isX9_isMissing seX9_isMissing npX9_isMissing (rc_127 (by omega)) (by decide) rfl (Nat.le_of_ble_eq_true rfl) (by omega) (f_X9_isMissing (d := d - 1) (by omega) (by omega) hX c2 c3) ?_
  refine ev_ifF (tgt := 47) dX11_copy_33 (by decide) (by show (0 : Int32) = 0; decide) ?_
  refine ev_aload_n dX11_copy_36 rfl ?_
  refine ev_getS (q := 127) dX11_copy_37 fo_11_49 (by omega) lo_0 rfl (sh_0_5 hX (by omega)) (by decide) ?_
  refine ev_iload_n dX11_copy_40 rfl ?_
  refine e_Vi (as := [.int (nI v3)]) (rest := []) dX11_copy_41 vX9_isMissing ml_11_173 isX9_isMissing seX9_isMissing npX9_isMissing (rc_127 (by omega)) (by decide) rfl (Nat.le_of_ble_eq_true rfl) (by omega) (t_X9_isMissing (d := d - 1) (by omega) (by omega) hX c4 c5) ?_
  refine ev_ifF (tgt := 50) dX11_copy_44 (by decide) (by show ¬ (1 : Int32) = 0; decide) ?_
  refine ev_ldc (v := (-1000000011)) dX11_copy_47 kw_11_176 ?_
  exact ev_iret dX11_copy_49 rfl rfl hp
theorem bX11_copy_0_2 {g : GG} {d n : Nat} {post : Option Value → LX → Prop} {X : LX} (hd : 1 ≤ d) (hn : 146 ≤ n) (hX : Sh n X) {v1 : Nat} {v2 : Nat} {v3 : Nat} {v4 : Nat} {v5 : Nat} (c0 : 0 ≤ (nI v1) ∧ (nI v1) < 2) (c1 : 0 ≤ (nI v3) ∧ (nI v3) < 2) (c2 : v1 < 2) (c3 : ¬ (X 131 v1 < 0)) (c4 : v3 < 2) (c5 : ¬ (X 131 v3 < 0)) (c6 : 0 ≤ (nI v2) ∧ (0 : Int32) ≤ (nI v5) ∧ (nI v2) ≤ X 131 v1 ∧ (nI v5) ≤ X 131 v1 - (nI v2)) (c7 : 0 ≤ (nI v4) ∧ (0 : Int32) ≤ (nI v5) ∧ (nI v4) ≤ X 131 v3 ∧ (nI v5) ≤ X 131 v3 - (nI v4)) (b0 : v1 < 2) (b1 : v3 < 2) (x2 : v2 + v5 ≤ 16) (y2 : v4 + v5 ≤ 16) (f3 : ∀ j, j < v5 → fits .short (.int (X (128 + 1 + v1) (v2 + j))) = true) (hp : post (some (.int (nI v5))) (lx_row X (128 + 1 + v3) (va_cpy (X (128 + 1 + v1)) (X (128 + 1 + v3)) v2 v4 v5))) : Ev g mX11_copy d n n post n 0 [some (.ref 0), some (.int (nI v1)), some (.int (nI v2)), some (.int (nI v3)), some (.int (nI v4)), some (.int (nI v5))] [] X := by
  refine ev_aload_n dX11_copy_0 rfl ?_
  refine ev_getS (q := 127) dX11_copy_1 fo_11_49 (by omega) lo_0 rfl (sh_0_5 hX (by omega)) (by decide) ?_
  refine ev_iload_n dX11_copy_4 rfl ?_
  refine e_Vi (as := [.int (nI v1)]) (rest := []) dX11_copy_5 vX9_isNumber ml_11_170 isX9_isNumber seX9_isNumber npX9_isNumber (rc_127 (by omega)) (by decide) rfl (Nat.le_of_ble_eq_true rfl) (by omega) (t_X9_isNumber (d := d - 1) (by omega) (by omega) hX c0) ?_
  refine ev_ifF (tgt := 22) dX11_copy_8 (by decide) (by show ¬ (1 : Int32) = 0; decide) ?_
  refine ev_aload_n dX11_copy_11 rfl ?_
  refine ev_getS (q := 127) dX11_copy_12 fo_11_49 (by omega) lo_0 rfl (sh_0_5 hX (by omega)) (by decide) ?_
  refine ev_iload_n dX11_copy_15 rfl ?_
  refine e_Vi (as := [.int (nI v3)]) (rest := []) dX11_copy_16 vX9_isNumber ml_11_170 isX9_isNumber seX9_isNumber npX9_isNumber (rc_127 (by omega)) (by decide) rfl (Nat.le_of_ble_eq_true rfl) (by omega) (t_X9_isNumber (d := d - 1) (by omega) (by omega) hX c1) ?_
  refine ev_ifT (tgt := 25) dX11_copy_19 (by decide) (by show ¬ (1 : Int32) = 0; decide) ?_
  refine ev_aload_n dX11_copy_25 rfl ?_
  refine ev_getS (q := 127) dX11_copy_26 fo_11_49 (by omega) lo_0 rfl (sh_0_5 hX (by omega)) (by decide) ?_
  refine ev_iload_n dX11_copy_29 rfl ?_
  refine e_Vi (as := [.int (nI v1)]) (rest := []) dX11_copy_30 vX9_isMissing ml_11_173 isX9_isMissing seX9_isMissing npX9_isMissing (rc_127 (by omega)) (by decide) rfl (Nat.le_of_ble_eq_true rfl) (by omega) (f_X9_isMissing (d := d - 1) (by omega) (by omega) hX c2 c3) ?_
  refine ev_ifF (tgt := 47) dX11_copy_33 (by decide) (by show (0 : Int32) = 0; decide) ?_
  refine ev_aload_n dX11_copy_36 rfl ?_
  refine ev_getS (q := 127) dX11_copy_37 fo_11_49 (by omega) lo_0 rfl (sh_0_5 hX (by omega)) (by decide) ?_
  refine ev_iload_n dX11_copy_40 rfl ?_
  refine e_Vi (as := [.int (nI v3)]) (rest := []) dX11_copy_41 vX9_isMissing ml_11_173 isX9_isMissing seX9_isMissing npX9_isMissing (rc_127 (by omega)) (by decide) rfl (Nat.le_of_ble_eq_true rfl) (by omega) (f_X9_isMissing (d := d - 1) (by omega) (by omega) hX c4 c5) ?_
  refine ev_ifT (tgt := 50) dX11_copy_44 (by decide) (by show (0 : Int32) = 0; decide) ?_
  refine ev_aload_n dX11_copy_50 rfl ?_
  refine ev_getS (q := 127) dX11_copy_51 fo_11_49 (by omega) lo_0 rfl (sh_0_5 hX (by omega)) (by decide) ?_
  refine ev_iload_n dX11_copy_54 rfl ?_
  refine ev_iload_n dX11_copy_55 rfl ?_
  refine ev_iload dX11_copy_56 rfl ?_
  refine e_Vi (as := [.int (nI v1), .int (nI v2), .int (nI v5)]) (rest := []) dX11_copy_58 vX9_hasPlaces ml_11_371 isX9_hasPlaces seX9_hasPlaces npX9_hasPlaces (rc_127 (by omega)) (by decide) rfl (Nat.le_of_ble_eq_true rfl) (by omega) (t_X9_hasPlaces (d := d - 1) (by omega) (by omega) hX c2 c6) ?_
  refine ev_ifF (tgt := 79) dX11_copy_61 (by decide) (by show ¬ (1 : Int32) = 0; decide) ?_
  refine ev_aload_n dX11_copy_64 rfl ?_
  refine ev_getS (q := 127) dX11_copy_65 fo_11_49 (by omega) lo_0 rfl (sh_0_5 hX (by omega)) (by decide) ?_
  refine ev_iload_n dX11_copy_68 rfl ?_
  refine ev_iload dX11_copy_69 rfl ?_
  refine ev_iload dX11_copy_71 rfl ?_
  refine e_Vi (as := [.int (nI v3), .int (nI v4), .int (nI v5)]) (rest := []) dX11_copy_73 vX9_hasPlaces ml_11_371 isX9_hasPlaces seX9_hasPlaces npX9_hasPlaces (rc_127 (by omega)) (by decide) rfl (Nat.le_of_ble_eq_true rfl) (by omega) (t_X9_hasPlaces (d := d - 1) (by omega) (by omega) hX c4 c7) ?_
  refine ev_ifT (tgt := 83) dX11_copy_76 (by decide) (by show ¬ (1 : Int32) = 0; decide) ?_
  refine ev_aload_n dX11_copy_83 rfl ?_
  refine ev_getS (q := 127) dX11_copy_84 fo_11_49 (by omega) lo_0 rfl (sh_0_5 hX (by omega)) (by decide) ?_
  refine ev_getS (q := 128) dX11_copy_87 fo_11_186 (by omega) lo_127 rfl (sh_127_0 hX (by omega)) (by decide) ?_
  refine ev_iload_n dX11_copy_90 rfl ?_
  refine ev_aald (q := 128 + 1 + v1) dX11_copy_91 (by omega) (Or.inr ly_128) rfl b0 (hX.2 128 v1 (by omega) (Or.inr (by rw [ly_128])) (by rw [ly_128]; exact b0)) (by first | omega | (have := LY_l ly_128; have := LY_lt (show (LY 128).1 < 99 by rw [ly_128]; exact (by decide : 3 < 99)); omega)) ?_
  refine ev_iload_n dX11_copy_92 rfl ?_
  refine ev_aload_n dX11_copy_93 rfl ?_
  refine ev_getS (q := 127) dX11_copy_94 fo_11_49 (by omega) lo_0 rfl (sh_0_5 hX (by omega)) (by decide) ?_
  refine ev_getS (q := 128) dX11_copy_97 fo_11_186 (by omega) lo_127 rfl (sh_127_0 hX (by omega)) (by decide) ?_
  refine ev_iload_n dX11_copy_100 rfl ?_
  refine ev_aald (q := 128 + 1 + v3) dX11_copy_101 (by omega) (Or.inr ly_128) rfl b1 (hX.2 128 v3 (by omega) (Or.inr (by rw [ly_128])) (by rw [ly_128]; exact b1)) (by first | omega | (have := LY_l ly_128; have := LY_lt (show (LY 128).1 < 99 by rw [ly_128]; exact (by decide : 3 < 99)); omega)) ?_
  refine ev_iload dX11_copy_102 rfl ?_
  refine ev_iload dX11_copy_104 rfl ?_
  refine ev_acopy (t := 1) (a := v2) (b := v4) (c := v5) (Or.inr rfl) dX11_copy_106 acy_l acy_n acy_s acy_i (by have := b0; omega) (by have := b1; omega) (lyr_128 _ b0) (lyr_128 _ b1) rfl rfl rfl x2 y2 (fun _ => f3) (Nat.le_of_ble_eq_true rfl) (by show 1 ≤ d; omega) (by show 64 ≤ 64 * d; omega) ?_
  have hX1 : Sh _ (lx_row X (128 + 1 + v3) (va_cpy (X (128 + 1 + v1)) (X (128 + 1 + v3)) v2 v4 v5)) := Sh.row hX (by rw [(lyr_128 _ b1)]; exact (by decide : 1 < 2))
  refine ev_iload dX11_copy_109 rfl ?_
  exact ev_iret dX11_copy_111 rfl rfl hp
theorem bX11_copy_0_3 {g : GG} {d n : Nat} {post : Option Value → LX → Prop} {X : LX} (hd : 1 ≤ d) (hn : 146 ≤ n) (hX : Sh n X) {v1 : Nat} {v2 : Int32} {v3 : Nat} {v4 : Int32} {v5 : Int32} (c0 : 0 ≤ (nI v1) ∧ (nI v1) < 2) (c1 : 0 ≤ (nI v3) ∧ (nI v3) < 2) (c2 : v1 < 2) (c3 : ¬ (X 131 v1 < 0)) (c4 : v3 < 2) (c5 : ¬ (X 131 v3 < 0)) (c6 : 0 ≤ v2 ∧ (0 : Int32) ≤ v5 ∧ v2 ≤ X 131 v1 ∧ v5 ≤ X 131 v1 - v2) (c7 : ¬ (0 ≤ v4 ∧ (0 : Int32) ≤ v5 ∧ v4 ≤ X 131 v3 ∧ v5 ≤ X 131 v3 - v4)) (hp : post (some (.int (-1000000013))) X) : Ev g mX11_copy d n n post n 0 [some (.ref 0), some (.int (nI v1)), some (.int v2), some (.int (nI v3)), some (.int v4), some (.int v5)] [] X := by
  refine ev_aload_n dX11_copy_0 rfl ?_
  refine ev_getS (q := 127) dX11_copy_1 fo_11_49 (by omega) lo_0 rfl (sh_0_5 hX (by omega)) (by decide) ?_
  refine ev_iload_n dX11_copy_4 rfl ?_
  refine e_Vi (as := [.int (nI v1)]) (rest := []) dX11_copy_5 vX9_isNumber ml_11_170 isX9_isNumber seX9_isNumber npX9_isNumber (rc_127 (by omega)) (by decide) rfl (Nat.le_of_ble_eq_true rfl) (by omega) (t_X9_isNumber (d := d - 1) (by omega) (by omega) hX c0) ?_
  refine ev_ifF (tgt := 22) dX11_copy_8 (by decide) (by show ¬ (1 : Int32) = 0; decide) ?_
  refine ev_aload_n dX11_copy_11 rfl ?_
  refine ev_getS (q := 127) dX11_copy_12 fo_11_49 (by omega) lo_0 rfl (sh_0_5 hX (by omega)) (by decide) ?_
  refine ev_iload_n dX11_copy_15 rfl ?_
  refine e_Vi (as := [.int (nI v3)]) (rest := []) dX11_copy_16 vX9_isNumber ml_11_170 isX9_isNumber seX9_isNumber npX9_isNumber (rc_127 (by omega)) (by decide) rfl (Nat.le_of_ble_eq_true rfl) (by omega) (t_X9_isNumber (d := d - 1) (by omega) (by omega) hX c1) ?_
  refine ev_ifT (tgt := 25) dX11_copy_19 (by decide) (by show ¬ (1 : Int32) = 0; decide) ?_
  refine ev_aload_n dX11_copy_25 rfl ?_
  refine ev_getS (q := 127) dX11_copy_26 fo_11_49 (by omega) lo_0 rfl (sh_0_5 hX (by omega)) (by decide) ?_
  refine ev_iload_n dX11_copy_29 rfl ?_
  refine e_Vi (as := [.int (nI v1)]) (rest := []) dX11_copy_30 vX9_isMissing ml_11_173 isX9_isMissing seX9_isMissing npX9_isMissing (rc_127 (by omega)) (by decide) rfl (Nat.le_of_ble_eq_true rfl) (by omega) (f_X9_isMissing (d := d - 1) (by omega) (by omega) hX c2 c3) ?_
  refine ev_ifF (tgt := 47) dX11_copy_33 (by decide) (by show (0 : Int32) = 0; decide) ?_
  refine ev_aload_n dX11_copy_36 rfl ?_
  refine ev_getS (q := 127) dX11_copy_37 fo_11_49 (by omega) lo_0 rfl (sh_0_5 hX (by omega)) (by decide) ?_
  refine ev_iload_n dX11_copy_40 rfl ?_
  refine e_Vi (as := [.int (nI v3)]) (rest := []) dX11_copy_41 vX9_isMissing ml_11_173 isX9_isMissing seX9_isMissing npX9_isMissing (rc_127 (by omega)) (by decide) rfl (Nat.le_of_ble_eq_true rfl) (by omega) (f_X9_isMissing (d := d - 1) (by omega) (by omega) hX c4 c5) ?_
  refine ev_ifT (tgt := 50) dX11_copy_44 (by decide) (by show (0 : Int32) = 0; decide) ?_
  refine ev_aload_n dX11_copy_50 rfl ?_
  refine ev_getS (q := 127) dX11_copy_51 fo_11_49 (by omega) lo_0 rfl (sh_0_5 hX (by omega)) (by decide) ?_
  refine ev_iload_n dX11_copy_54 rfl ?_
  refine ev_iload_n dX11_copy_55 rfl ?_
  refine ev_iload dX11_copy_56 rfl ?_
  refine e_Vi (as := [.int (nI v1), .int v2, .int v5]) (rest := []) dX11_copy_58 vX9_hasPlaces ml_11_371 isX9_hasPlaces seX9_hasPlaces npX9_hasPlaces (rc_127 (by omega)) (by decide) rfl (Nat.le_of_ble_eq_true rfl) (by omega) (t_X9_hasPlaces (d := d - 1) (by omega) (by omega) hX c2 c6) ?_
  refine ev_ifF (tgt := 79) dX11_copy_61 (by decide) (by show ¬ (1 : Int32) = 0; decide) ?_
  refine ev_aload_n dX11_copy_64 rfl ?_
  refine ev_getS (q := 127) dX11_copy_65 fo_11_49 (by omega) lo_0 rfl (sh_0_5 hX (by omega)) (by decide) ?_
  refine ev_iload_n dX11_copy_68 rfl ?_
  refine ev_iload dX11_copy_69 rfl ?_
  refine ev_iload dX11_copy_71 rfl ?_
  refine e_Vi (as := [.int (nI v3), .int v4, .int v5]) (rest := []) dX11_copy_73 vX9_hasPlaces ml_11_371 isX9_hasPlaces seX9_hasPlaces npX9_hasPlaces (rc_127 (by omega)) (by decide) rfl (Nat.le_of_ble_eq_true rfl) (by omega) (f_X9_hasPlaces (d := d - 1) (by omega) (by omega) hX c4 c7) ?_
  refine ev_ifF (tgt := 83) dX11_copy_76 (by decide) (by show (0 : Int32) = 0; decide) ?_
  refine ev_ldcw (v := (-1000000013)) dX11_copy_79 kw_11_374 ?_
  exact ev_iret dX11_copy_82 rfl rfl hp
theorem bX11_copy_0_4 {g : GG} {d n : Nat} {post : Option Value → LX → Prop} {X : LX} (hd : 1 ≤ d) (hn : 146 ≤ n) (hX : Sh n X) {v1 : Nat} {v2 : Int32} {v3 : Nat} {v4 : Int32} {v5 : Int32} (c0 : 0 ≤ (nI v1) ∧ (nI v1) < 2) (c1 : 0 ≤ (nI v3) ∧ (nI v3) < 2) (c2 : v1 < 2) (c3 : ¬ (X 131 v1 < 0)) (c4 : v3 < 2) (c5 : ¬ (X 131 v3 < 0)) (c6 : ¬ (0 ≤ v2 ∧ (0 : Int32) ≤ v5 ∧ v2 ≤ X 131 v1 ∧ v5 ≤ X 131 v1 - v2)) (hp : post (some (.int (-1000000013))) X) : Ev g mX11_copy d n n post n 0 [some (.ref 0), some (.int (nI v1)), some (.int v2), some (.int (nI v3)), some (.int v4), some (.int v5)] [] X := by
  refine ev_aload_n dX11_copy_0 rfl ?_
  refine ev_getS (q := 127) dX11_copy_1 fo_11_49 (by omega) lo_0 rfl (sh_0_5 hX (by omega)) (by decide) ?_
  refine ev_iload_n dX11_copy_4 rfl ?_
  refine e_Vi (as := [.int (nI v1)]) (rest := []) dX11_copy_5 vX9_isNumber ml_11_170 isX9_isNumber seX9_isNumber npX9_isNumber (rc_127 (by omega)) (by decide) rfl (Nat.le_of_ble_eq_true rfl) (by omega) (t_X9_isNumber (d := d - 1) (by omega) (by omega) hX c0) ?_
  refine ev_ifF (tgt := 22) dX11_copy_8 (by decide) (by show ¬ (1 : Int32) = 0; decide) ?_
  refine ev_aload_n dX11_copy_11 rfl ?_
  refine ev_getS (q := 127) dX11_copy_12 fo_11_49 (by omega) lo_0 rfl (sh_0_5 hX (by omega)) (by decide) ?_
  refine ev_iload_n dX11_copy_15 rfl ?_
  refine e_Vi (as := [.int (nI v3)]) (rest := []) dX11_copy_16 vX9_isNumber ml_11_170 isX9_isNumber seX9_isNumber npX9_isNumber (rc_127 (by omega)) (by decide) rfl (Nat.le_of_ble_eq_true rfl) (by omega) (t_X9_isNumber (d := d - 1) (by omega) (by omega) hX c1) ?_
  refine ev_ifT (tgt := 25) dX11_copy_19 (by decide) (by show ¬ (1 : Int32) = 0; decide) ?_
  refine ev_aload_n dX11_copy_25 rfl ?_
  refine ev_getS (q := 127) dX11_copy_26 fo_11_49 (by omega) lo_0 rfl (sh_0_5 hX (by omega)) (by decide) ?_
  refine ev_iload_n dX11_copy_29 rfl ?_
  refine e_Vi (as := [.int (nI v1)]) (rest := []) dX11_copy_30 vX9_isMissing ml_11_173 isX9_isMissing seX9_isMissing npX9_isMissing (rc_127 (by omega)) (by decide) rfl (Nat.le_of_ble_eq_true rfl) (by omega) (f_X9_isMissing (d := d - 1) (by omega) (by omega) hX c2 c3) ?_
  refine ev_ifF (tgt := 47) dX11_copy_33 (by decide) (by show (0 : Int32) = 0; decide) ?_
  refine ev_aload_n dX11_copy_36 rfl ?_
  refine ev_getS (q := 127) dX11_copy_37 fo_11_49 (by omega) lo_0 rfl (sh_0_5 hX (by omega)) (by decide) ?_
  refine ev_iload_n dX11_copy_40 rfl ?_
  refine e_Vi (as := [.int (nI v3)]) (rest := []) dX11_copy_41 vX9_isMissing ml_11_173 isX9_isMissing seX9_isMissing npX9_isMissing (rc_127 (by omega)) (by decide) rfl (Nat.le_of_ble_eq_true rfl) (by omega) (f_X9_isMissing (d := d - 1) (by omega) (by omega) hX c4 c5) ?_
  refine ev_ifT (tgt := 50) dX11_copy_44 (by decide) (by show (0 : Int32) = 0; decide) ?_
  refine ev_aload_n dX11_copy_50 rfl ?_
  refine ev_getS (q := 127) dX11_copy_51 fo_11_49 (by omega) lo_0 rfl (sh_0_5 hX (by omega)) (by decide) ?_
  refine ev_iload_n dX11_copy_54 rfl ?_
  refine ev_iload_n dX11_copy_55 rfl ?_
  refine ev_iload dX11_copy_56 rfl ?_
  refine e_Vi (as := [.int (nI v1), .int v2, .int v5]) (rest := []) dX11_copy_58 vX9_hasPlaces ml_11_371 isX9_hasPlaces seX9_hasPlaces npX9_hasPlaces (rc_127 (by omega)) (by decide) rfl (Nat.le_of_ble_eq_true rfl) (by omega) (f_X9_hasPlaces (d := d - 1) (by omega) (by omega) hX c2 c6) ?_
  refine ev_ifT (tgt := 79) dX11_copy_61 (by decide) (by show (0 : Int32) = 0; decide) ?_
  refine ev_ldcw (v := (-1000000013)) dX11_copy_79 kw_11_374 ?_
  exact ev_iret dX11_copy_82 rfl rfl hp
theorem bX11_copy_0_5 {g : GG} {d n : Nat} {post : Option Value → LX → Prop} {X : LX} (hd : 1 ≤ d) (hn : 146 ≤ n) (hX : Sh n X) {v1 : Int32} {v2 : Int32} {v3 : Int32} {v4 : Int32} {v5 : Int32} (c0 : 0 ≤ v1 ∧ v1 < 2) (c1 : ¬ (0 ≤ v3 ∧ v3 < 2)) (hp : post (some (.int (-1000000001))) X) : Ev g mX11_copy d n n post n 0 [some (.ref 0), some (.int v1), some (.int v2), some (.int v3), some (.int v4), some (.int v5)] [] X := by
  refine ev_aload_n dX11_copy_0 rfl ?_
  refine ev_getS (q := 127) dX11_copy_1 fo_11_49 (by omega) lo_0 rfl (sh_0_5 hX (by omega)) (by decide) ?_
  refine ev_iload_n dX11_copy_4 rfl ?_
  refine e_Vi (as := [.int v1]) (rest := []) dX11_copy_5 vX9_isNumber ml_11_170 isX9_isNumber seX9_isNumber npX9_isNumber (rc_127 (by omega)) (by decide) rfl (Nat.le_of_ble_eq_true rfl) (by omega) (t_X9_isNumber (d := d - 1) (by omega) (by omega) hX c0) ?_
  refine ev_ifF (tgt := 22) dX11_copy_8 (by decide) (by show ¬ (1 : Int32) = 0; decide) ?_
  refine ev_aload_n dX11_copy_11 rfl ?_
  refine ev_getS (q := 127) dX11_copy_12 fo_11_49 (by omega) lo_0 rfl (sh_0_5 hX (by omega)) (by decide) ?_
  refine ev_iload_n dX11_copy_15 rfl ?_
  refine e_Vi (as := [.int v3]) (rest := []) dX11_copy_16 vX9_isNumber ml_11_170 isX9_isNumber seX9_isNumber npX9_isNumber (rc_127 (by omega)) (by decide) rfl (Nat.le_of_ble_eq_true rfl) (by omega) (f_X9_isNumber (d := d - 1) (by omega) (by omega) hX c1) ?_
  refine ev_ifF (tgt := 25) dX11_copy_19 (by decide) (by show (0 : Int32) = 0; decide) ?_
  refine ev_ldc (v := (-1000000001)) dX11_copy_22 kw_11_61 ?_
  exact ev_iret dX11_copy_24 rfl rfl hp
theorem bX11_copy_0_6 {g : GG} {d n : Nat} {post : Option Value → LX → Prop} {X : LX} (hd : 1 ≤ d) (hn : 146 ≤ n) (hX : Sh n X) {v1 : Int32} {v2 : Int32} {v3 : Int32} {v4 : Int32} {v5 : Int32} (c0 : ¬ (0 ≤ v1 ∧ v1 < 2)) (hp : post (some (.int (-1000000001))) X) : Ev g mX11_copy d n n post n 0 [some (.ref 0), some (.int v1), some (.int v2), some (.int v3), some (.int v4), some (.int v5)] [] X := by
  refine ev_aload_n dX11_copy_0 rfl ?_
  refine ev_getS (q := 127) dX11_copy_1 fo_11_49 (by omega) lo_0 rfl (sh_0_5 hX (by omega)) (by decide) ?_
  refine ev_iload_n dX11_copy_4 rfl ?_
  refine e_Vi (as := [.int v1]) (rest := []) dX11_copy_5 vX9_isNumber ml_11_170 isX9_isNumber seX9_isNumber npX9_isNumber (rc_127 (by omega)) (by decide) rfl (Nat.le_of_ble_eq_true rfl) (by omega) (f_X9_isNumber (d := d - 1) (by omega) (by omega) hX c0) ?_
  refine ev_ifT (tgt := 22) dX11_copy_8 (by decide) (by show (0 : Int32) = 0; decide) ?_
  refine ev_ldc (v := (-1000000001)) dX11_copy_22 kw_11_61 ?_
  exact ev_iret dX11_copy_24 rfl rfl hp
theorem bX12_copy_0_0 {g : GG} {d n : Nat} {post : Option Value → LX → Prop} {X : LX} (hd : 1 ≤ d) (hn : 146 ≤ n) (hX : Sh n X) {v1 : Nat} {v2 : Int32} {v3 : Nat} {v4 : Int32} {v5 : Int32} (c0 : 0 ≤ (nI v1) ∧ (nI v1) ≤ 1) (c1 : 0 ≤ (nI v3) ∧ (nI v3) ≤ 1) (b0 : v1 < 2) (c2 : ¬ X 138 v1 < 0) (b1 : v3 < 2) (c3 : ¬ 0 ≤ X 138 v3) (hp : post (some (.int (-1000000011))) X) : Ev g mX12_copy d n n post n 0 [some (.ref 133), some (.int (nI v1)), some (.int v2), some (.int (nI v3)), some (.int v4), some (.int v5), none] [] X := by
  refine ev_iload_n dX12_copy_0 rfl ?_
  refine ev_iconst (v := 0) dX12_copy_1 ki_0 ?_
  refine ev_iconst (v := 1) dX12_copy_2 ki_1 ?_
  refine e_Si (as := [.int (nI v1), .int 0, .int 1]) (rest := []) dX12_copy_3 vX12_within ml_12_52 stX12_within npX12_within (by decide) rfl (Nat.le_of_ble_eq_true rfl) (by omega) (t_X12_within (d := d - 1) (by omega) (by omega) hX c0) ?_
  refine ev_ifF (tgt := 18) dX12_copy_6 (by decide) (by show ¬ (1 : Int32) = 0; decide) ?_
  refine ev_iload_n dX12_copy_9 rfl ?_
  refine ev_iconst (v := 0) dX12_copy_10 ki_0 ?_
  refine ev_iconst (v := 1) dX12_copy_11 ki_1 ?_
  refine e_Si (as := [.int (nI v3), .int 0, .int 1]) (rest := []) dX12_copy_12 vX12_within ml_12_52 stX12_within npX12_within (by decide) rfl (Nat.le_of_ble_eq_true rfl) (by omega) (t_X12_within (d := d - 1) (by omega) (by omega) hX c1) ?_
  refine ev_ifT (tgt := 21) dX12_copy_15 (by decide) (by show ¬ (1 : Int32) = 0; decide) ?_
  refine ev_aload_n dX12_copy_21 rfl ?_
  refine ev_getS (q := 138) dX12_copy_22 fo_12_22 (by omega) lo_133 rfl (sh_133_7 hX (by omega)) (by decide) ?_
  refine ev_iload_n dX12_copy_25 rfl ?_
  refine ev_iald dX12_copy_26 (by omega) ly_138 rfl b0 ?_
  refine ev_ifF (tgt := 39) dX12_copy_27 (by decide) c2 ?_
  refine ev_aload_n dX12_copy_30 rfl ?_
  refine ev_getS (q := 138) dX12_copy_31 fo_12_22 (by omega) lo_133 rfl (sh_133_7 hX (by omega)) (by decide) ?_
  refine ev_iload_n dX12_copy_34 rfl ?_
  refine ev_iald dX12_copy_35 (by omega) ly_138 rfl b1 ?_
  refine ev_ifF (tgt := 42) dX12_copy_36 (by decide) c3 ?_
  refine ev_ldc (v := (-1000000011)) dX12_copy_39 kw_12_105 ?_
  exact ev_iret dX12_copy_41 rfl rfl hp
theorem bX12_copy_0_1 {g : GG} {d n : Nat} {post : Option Value → LX → Prop} {X : LX} (hd : 1 ≤ d) (hn : 146 ≤ n) (hX : Sh n X) {v1 : Nat} {v2 : Int32} {v3 : Nat} {v4 : Int32} {v5 : Int32} (c0 : 0 ≤ (nI v1) ∧ (nI v1) ≤ 1) (c1 : 0 ≤ (nI v3) ∧ (nI v3) ≤ 1) (b0 : v1 < 2) (c2 : ¬ X 138 v1 < 0) (b1 : v3 < 2) (c3 : 0 ≤ X 138 v3) (c4 : ¬ v5 < 0) (c5 : ¬ v2 < 0) (c6 : ¬ v4 < 0) (c7 : ¬ 0 < lg_cmp (v2.toInt64 + v5.toInt64) ((X 138 v1).toInt64)) (c8 : ¬ lg_cmp (v4.toInt64 + v5.toInt64) ((X 138 v3).toInt64) ≤ 0) (hp : post (some (.int (-1000000013))) X) : Ev g mX12_copy d n n post n 0 [some (.ref 133), some (.int (nI v1)), some (.int v2), some (.int (nI v3)), some (.int v4), some (.int v5), none] [] X := by
  refine ev_iload_n dX12_copy_0 rfl ?_
  refine ev_iconst (v := 0) dX12_copy_1 ki_0 ?_
  refine ev_iconst (v := 1) dX12_copy_2 ki_1 ?_
  refine e_Si (as := [.int (nI v1), .int 0, .int 1]) (rest := []) dX12_copy_3 vX12_within ml_12_52 stX12_within npX12_within (by decide) rfl (Nat.le_of_ble_eq_true rfl) (by omega) (t_X12_within (d := d - 1) (by omega) (by omega) hX c0) ?_
  refine ev_ifF (tgt := 18) dX12_copy_6 (by decide) (by show ¬ (1 : Int32) = 0; decide) ?_
  refine ev_iload_n dX12_copy_9 rfl ?_
  refine ev_iconst (v := 0) dX12_copy_10 ki_0 ?_
  refine ev_iconst (v := 1) dX12_copy_11 ki_1 ?_
  refine e_Si (as := [.int (nI v3), .int 0, .int 1]) (rest := []) dX12_copy_12 vX12_within ml_12_52 stX12_within npX12_within (by decide) rfl (Nat.le_of_ble_eq_true rfl) (by omega) (t_X12_within (d := d - 1) (by omega) (by omega) hX c1) ?_
  refine ev_ifT (tgt := 21) dX12_copy_15 (by decide) (by show ¬ (1 : Int32) = 0; decide) ?_
  refine ev_aload_n dX12_copy_21 rfl ?_
  refine ev_getS (q := 138) dX12_copy_22 fo_12_22 (by omega) lo_133 rfl (sh_133_7 hX (by omega)) (by decide) ?_
  refine ev_iload_n dX12_copy_25 rfl ?_
  refine ev_iald dX12_copy_26 (by omega) ly_138 rfl b0 ?_
  refine ev_ifF (tgt := 39) dX12_copy_27 (by decide) c2 ?_
  refine ev_aload_n dX12_copy_30 rfl ?_
  refine ev_getS (q := 138) dX12_copy_31 fo_12_22 (by omega) lo_133 rfl (sh_133_7 hX (by omega)) (by decide) ?_
  refine ev_iload_n dX12_copy_34 rfl ?_
  refine ev_iald dX12_copy_35 (by omega) ly_138 rfl b1 ?_
  refine ev_ifT (tgt := 42) dX12_copy_36 (by decide) c3 ?_
  refine ev_iload dX12_copy_42 rfl ?_
  refine ev_ifF (tgt := 91) dX12_copy_44 (by decide) c4 ?_
  refine ev_iload_n dX12_copy_47 rfl ?_
  refine ev_ifF (tgt := 91) dX12_copy_48 (by decide) c5 ?_
  refine ev_iload dX12_copy_51 rfl ?_
  refine ev_ifF (tgt := 91) dX12_copy_53 (by decide) c6 ?_
  refine ev_iload_n dX12_copy_56 rfl ?_
  refine ev_i2l dX12_copy_57 ?_
  refine ev_iload dX12_copy_58 rfl ?_
  refine ev_i2l dX12_copy_60 ?_
  refine ev_ladd dX12_copy_61 ?_
  refine ev_aload_n dX12_copy_62 rfl ?_
  refine ev_getS (q := 138) dX12_copy_63 fo_12_22 (by omega) lo_133 rfl (sh_133_7 hX (by omega)) (by decide) ?_
  refine ev_iload_n dX12_copy_66 rfl ?_
  refine ev_iald dX12_copy_67 (by omega) ly_138 rfl b0 ?_
  refine ev_i2l dX12_copy_68 ?_
  refine ev_lcmp dX12_copy_69 ?_
  refine ev_ifF (tgt := 91) dX12_copy_70 (by decide) c7 ?_
  refine ev_iload dX12_copy_73 rfl ?_
  refine ev_i2l dX12_copy_75 ?_
  refine ev_iload dX12_copy_76 rfl ?_
  refine ev_i2l dX12_copy_78 ?_
  refine ev_ladd dX12_copy_79 ?_
  refine ev_aload_n dX12_copy_80 rfl ?_
  refine ev_getS (q := 138) dX12_copy_81 fo_12_22 (by omega) lo_133 rfl (sh_133_7 hX (by omega)) (by decide) ?_
  refine ev_iload_n dX12_copy_84 rfl ?_
  refine ev_iald dX12_copy_85 (by omega) ly_138 rfl b1 ?_
  refine ev_i2l dX12_copy_86 ?_
  refine ev_lcmp dX12_copy_87 ?_
  refine ev_ifF (tgt := 95) dX12_copy_88 (by decide) c8 ?_
  refine ev_ldcw (v := (-1000000013)) dX12_copy_91 kw_12_320 ?_
  exact ev_iret dX12_copy_94 rfl rfl hp
theorem bX12_copy_0_2 {g : GG} {d n : Nat} {post : Option Value → LX → Prop} {X : LX} (hd : 1 ≤ d) (hn : 146 ≤ n) (hX : Sh n X) {v1 : Nat} {v2 : Int32} {v3 : Nat} {v4 : Int32} {v5 : Int32} (c0 : 0 ≤ (nI v1) ∧ (nI v1) ≤ 1) (c1 : 0 ≤ (nI v3) ∧ (nI v3) ≤ 1) (b0 : v1 < 2) (c2 : ¬ X 138 v1 < 0) (b1 : v3 < 2) (c3 : 0 ≤ X 138 v3) (c4 : ¬ v5 < 0) (c5 : ¬ v2 < 0) (c6 : ¬ v4 < 0) (c7 : ¬ 0 < lg_cmp (v2.toInt64 + v5.toInt64) ((X 138 v1).toInt64)) (c8 : lg_cmp (v4.toInt64 + v5.toInt64) ((X 138 v3).toInt64) ≤ 0) (k : Ev g mX12_copy d n n post n 98 [some (.ref 133), some (.int (nI v1)), some (.int v2), some (.int (nI v3)), some (.int v4), some (.int v5), some (.int 0)] [] X) : Ev g mX12_copy d n n post n 0 [some (.ref 133), some (.int (nI v1)), some (.int v2), some (.int (nI v3)), some (.int v4), some (.int v5), none] [] X := by
  refine ev_iload_n dX12_copy_0 rfl ?_
  refine ev_iconst (v := 0) dX12_copy_1 ki_0 ?_
  refine ev_iconst (v := 1) dX12_copy_2 ki_1 ?_
  refine e_Si (as := [.int (nI v1), .int 0, .int 1]) (rest := []) dX12_copy_3 vX12_within ml_12_52 stX12_within npX12_within (by decide) rfl (Nat.le_of_ble_eq_true rfl) (by omega) (t_X12_within (d := d - 1) (by omega) (by omega) hX c0) ?_
  refine ev_ifF (tgt := 18) dX12_copy_6 (by decide) (by show ¬ (1 : Int32) = 0; decide) ?_
  refine ev_iload_n dX12_copy_9 rfl ?_
  refine ev_iconst (v := 0) dX12_copy_10 ki_0 ?_
  refine ev_iconst (v := 1) dX12_copy_11 ki_1 ?_
  refine e_Si (as := [.int (nI v3), .int 0, .int 1]) (rest := []) dX12_copy_12 vX12_within ml_12_52 stX12_within npX12_within (by decide) rfl (Nat.le_of_ble_eq_true rfl) (by omega) (t_X12_within (d := d - 1) (by omega) (by omega) hX c1) ?_
  refine ev_ifT (tgt := 21) dX12_copy_15 (by decide) (by show ¬ (1 : Int32) = 0; decide) ?_
  refine ev_aload_n dX12_copy_21 rfl ?_
  refine ev_getS (q := 138) dX12_copy_22 fo_12_22 (by omega) lo_133 rfl (sh_133_7 hX (by omega)) (by decide) ?_
  refine ev_iload_n dX12_copy_25 rfl ?_
  refine ev_iald dX12_copy_26 (by omega) ly_138 rfl b0 ?_
  refine ev_ifF (tgt := 39) dX12_copy_27 (by decide) c2 ?_
  refine ev_aload_n dX12_copy_30 rfl ?_
  refine ev_getS (q := 138) dX12_copy_31 fo_12_22 (by omega) lo_133 rfl (sh_133_7 hX (by omega)) (by decide) ?_
  refine ev_iload_n dX12_copy_34 rfl ?_
  refine ev_iald dX12_copy_35 (by omega) ly_138 rfl b1 ?_
  refine ev_ifT (tgt := 42) dX12_copy_36 (by decide) c3 ?_
  refine ev_iload dX12_copy_42 rfl ?_
  refine ev_ifF (tgt := 91) dX12_copy_44 (by decide) c4 ?_
  refine ev_iload_n dX12_copy_47 rfl ?_
  refine ev_ifF (tgt := 91) dX12_copy_48 (by decide) c5 ?_
  refine ev_iload dX12_copy_51 rfl ?_
  refine ev_ifF (tgt := 91) dX12_copy_53 (by decide) c6 ?_
  refine ev_iload_n dX12_copy_56 rfl ?_
  refine ev_i2l dX12_copy_57 ?_
  refine ev_iload dX12_copy_58 rfl ?_
  refine ev_i2l dX12_copy_60 ?_
  refine ev_ladd dX12_copy_61 ?_
  refine ev_aload_n dX12_copy_62 rfl ?_
  refine ev_getS (q := 138) dX12_copy_63 fo_12_22 (by omega) lo_133 rfl (sh_133_7 hX (by omega)) (by decide) ?_
  refine ev_iload_n dX12_copy_66 rfl ?_
  refine ev_iald dX12_copy_67 (by omega) ly_138 rfl b0 ?_
  refine ev_i2l dX12_copy_68 ?_
  refine ev_lcmp dX12_copy_69 ?_
  refine ev_ifF (tgt := 91) dX12_copy_70 (by decide) c7 ?_
  refine ev_iload dX12_copy_73 rfl ?_
  refine ev_i2l dX12_copy_75 ?_
  refine ev_iload dX12_copy_76 rfl ?_
  refine ev_i2l dX12_copy_78 ?_
  refine ev_ladd dX12_copy_79 ?_
  refine ev_aload_n dX12_copy_80 rfl ?_
  refine ev_getS (q := 138) dX12_copy_81 fo_12_22 (by omega) lo_133 rfl (sh_133_7 hX (by omega)) (by decide) ?_
  refine ev_iload_n dX12_copy_84 rfl ?_
  refine ev_iald dX12_copy_85 (by omega) ly_138 rfl b1 ?_
  refine ev_i2l dX12_copy_86 ?_
  refine ev_lcmp dX12_copy_87 ?_
  refine ev_ifT (tgt := 95) dX12_copy_88 (by decide) c8 ?_
  refine ev_iconst (v := 0) dX12_copy_95 ki_0 ?_
  refine ev_istore dX12_copy_96 (by decide) ?_
  exact k
theorem bX12_copy_0_3 {g : GG} {d n : Nat} {post : Option Value → LX → Prop} {X : LX} (hd : 1 ≤ d) (hn : 146 ≤ n) (hX : Sh n X) {v1 : Nat} {v2 : Int32} {v3 : Nat} {v4 : Int32} {v5 : Int32} (c0 : 0 ≤ (nI v1) ∧ (nI v1) ≤ 1) (c1 : 0 ≤ (nI v3) ∧ (nI v3) ≤ 1) (b0 : v1 < 2) (c2 : ¬ X 138 v1 < 0) (b1 : v3 < 2) (c3 : 0 ≤ X 138 v3) (c4 : ¬ v5 < 0) (c5 : ¬ v2 < 0) (c6 : ¬ v4 < 0) (c7 : 0 < lg_cmp (v2.toInt64 + v5.toInt64) ((X 138 v1).toInt64)) (hp : post (some (.int (-1000000013))) X) : Ev g mX12_copy d n n post n 0 [some (.ref 133), some (.int (nI v1)), some (.int v2), some (.int (nI v3)), some (.int v4), some (.int v5), none] [] X := by
  refine ev_iload_n dX12_copy_0 rfl ?_
  refine ev_iconst (v := 0) dX12_copy_1 ki_0 ?_
  refine ev_iconst (v := 1) dX12_copy_2 ki_1 ?_
  refine e_Si (as := [.int (nI v1), .int 0, .int 1]) (rest := []) dX12_copy_3 vX12_within ml_12_52 stX12_within npX12_within (by decide) rfl (Nat.le_of_ble_eq_true rfl) (by omega) (t_X12_within (d := d - 1) (by omega) (by omega) hX c0) ?_
  refine ev_ifF (tgt := 18) dX12_copy_6 (by decide) (by show ¬ (1 : Int32) = 0; decide) ?_
  refine ev_iload_n dX12_copy_9 rfl ?_
  refine ev_iconst (v := 0) dX12_copy_10 ki_0 ?_
  refine ev_iconst (v := 1) dX12_copy_11 ki_1 ?_
  refine e_Si (as := [.int (nI v3), .int 0, .int 1]) (rest := []) dX12_copy_12 vX12_within ml_12_52 stX12_within npX12_within (by decide) rfl (Nat.le_of_ble_eq_true rfl) (by omega) (t_X12_within (d := d - 1) (by omega) (by omega) hX c1) ?_
  refine ev_ifT (tgt := 21) dX12_copy_15 (by decide) (by show ¬ (1 : Int32) = 0; decide) ?_
  refine ev_aload_n dX12_copy_21 rfl ?_
  refine ev_getS (q := 138) dX12_copy_22 fo_12_22 (by omega) lo_133 rfl (sh_133_7 hX (by omega)) (by decide) ?_
  refine ev_iload_n dX12_copy_25 rfl ?_
  refine ev_iald dX12_copy_26 (by omega) ly_138 rfl b0 ?_
  refine ev_ifF (tgt := 39) dX12_copy_27 (by decide) c2 ?_
  refine ev_aload_n dX12_copy_30 rfl ?_
  refine ev_getS (q := 138) dX12_copy_31 fo_12_22 (by omega) lo_133 rfl (sh_133_7 hX (by omega)) (by decide) ?_
  refine ev_iload_n dX12_copy_34 rfl ?_
  refine ev_iald dX12_copy_35 (by omega) ly_138 rfl b1 ?_
  refine ev_ifT (tgt := 42) dX12_copy_36 (by decide) c3 ?_
  refine ev_iload dX12_copy_42 rfl ?_
  refine ev_ifF (tgt := 91) dX12_copy_44 (by decide) c4 ?_
  refine ev_iload_n dX12_copy_47 rfl ?_
  refine ev_ifF (tgt := 91) dX12_copy_48 (by decide) c5 ?_
  refine ev_iload dX12_copy_51 rfl ?_
  refine ev_ifF (tgt := 91) dX12_copy_53 (by decide) c6 ?_
  refine ev_iload_n dX12_copy_56 rfl ?_
  refine ev_i2l dX12_copy_57 ?_
  refine ev_iload dX12_copy_58 rfl ?_
  refine ev_i2l dX12_copy_60 ?_
  refine ev_ladd dX12_copy_61 ?_
  refine ev_aload_n dX12_copy_62 rfl ?_
  refine ev_getS (q := 138) dX12_copy_63 fo_12_22 (by omega) lo_133 rfl (sh_133_7 hX (by omega)) (by decide) ?_
  refine ev_iload_n dX12_copy_66 rfl ?_
  refine ev_iald dX12_copy_67 (by omega) ly_138 rfl b0 ?_
  refine ev_i2l dX12_copy_68 ?_
  refine ev_lcmp dX12_copy_69 ?_
  refine ev_ifT (tgt := 91) dX12_copy_70 (by decide) c7 ?_
  refine ev_ldcw (v := (-1000000013)) dX12_copy_91 kw_12_320 ?_
  exact ev_iret dX12_copy_94 rfl rfl hp
theorem bX12_copy_0_4 {g : GG} {d n : Nat} {post : Option Value → LX → Prop} {X : LX} (hd : 1 ≤ d) (hn : 146 ≤ n) (hX : Sh n X) {v1 : Nat} {v2 : Int32} {v3 : Nat} {v4 : Int32} {v5 : Int32} (c0 : 0 ≤ (nI v1) ∧ (nI v1) ≤ 1) (c1 : 0 ≤ (nI v3) ∧ (nI v3) ≤ 1) (b0 : v1 < 2) (c2 : ¬ X 138 v1 < 0) (b1 : v3 < 2) (c3 : 0 ≤ X 138 v3) (c4 : ¬ v5 < 0) (c5 : ¬ v2 < 0) (c6 : v4 < 0) (hp : post (some (.int (-1000000013))) X) : Ev g mX12_copy d n n post n 0 [some (.ref 133), some (.int (nI v1)), some (.int v2), some (.int (nI v3)), some (.int v4), some (.int v5), none] [] X := by
  refine ev_iload_n dX12_copy_0 rfl ?_
  refine ev_iconst (v := 0) dX12_copy_1 ki_0 ?_
  refine ev_iconst (v := 1) dX12_copy_2 ki_1 ?_
  refine e_Si (as := [.int (nI v1), .int 0, .int 1]) (rest := []) dX12_copy_3 vX12_within ml_12_52 stX12_within npX12_within (by decide) rfl (Nat.le_of_ble_eq_true rfl) (by omega) (t_X12_within (d := d - 1) (by omega) (by omega) hX c0) ?_
  refine ev_ifF (tgt := 18) dX12_copy_6 (by decide) (by show ¬ (1 : Int32) = 0; decide) ?_
  refine ev_iload_n dX12_copy_9 rfl ?_
  refine ev_iconst (v := 0) dX12_copy_10 ki_0 ?_
  refine ev_iconst (v := 1) dX12_copy_11 ki_1 ?_
  refine e_Si (as := [.int (nI v3), .int 0, .int 1]) (rest := []) dX12_copy_12 vX12_within ml_12_52 stX12_within npX12_within (by decide) rfl (Nat.le_of_ble_eq_true rfl) (by omega) (t_X12_within (d := d - 1) (by omega) (by omega) hX c1) ?_
  refine ev_ifT (tgt := 21) dX12_copy_15 (by decide) (by show ¬ (1 : Int32) = 0; decide) ?_
  refine ev_aload_n dX12_copy_21 rfl ?_
  refine ev_getS (q := 138) dX12_copy_22 fo_12_22 (by omega) lo_133 rfl (sh_133_7 hX (by omega)) (by decide) ?_
  refine ev_iload_n dX12_copy_25 rfl ?_
  refine ev_iald dX12_copy_26 (by omega) ly_138 rfl b0 ?_
  refine ev_ifF (tgt := 39) dX12_copy_27 (by decide) c2 ?_
  refine ev_aload_n dX12_copy_30 rfl ?_
  refine ev_getS (q := 138) dX12_copy_31 fo_12_22 (by omega) lo_133 rfl (sh_133_7 hX (by omega)) (by decide) ?_
  refine ev_iload_n dX12_copy_34 rfl ?_
  refine ev_iald dX12_copy_35 (by omega) ly_138 rfl b1 ?_
  refine ev_ifT (tgt := 42) dX12_copy_36 (by decide) c3 ?_
  refine ev_iload dX12_copy_42 rfl ?_
  refine ev_ifF (tgt := 91) dX12_copy_44 (by decide) c4 ?_
  refine ev_iload_n dX12_copy_47 rfl ?_
  refine ev_ifF (tgt := 91) dX12_copy_48 (by decide) c5 ?_
  refine ev_iload dX12_copy_51 rfl ?_
  refine ev_ifT (tgt := 91) dX12_copy_53 (by decide) c6 ?_
  refine ev_ldcw (v := (-1000000013)) dX12_copy_91 kw_12_320 ?_
  exact ev_iret dX12_copy_94 rfl rfl hp
theorem bX12_copy_0_5 {g : GG} {d n : Nat} {post : Option Value → LX → Prop} {X : LX} (hd : 1 ≤ d) (hn : 146 ≤ n) (hX : Sh n X) {v1 : Nat} {v2 : Int32} {v3 : Nat} {v4 : Int32} {v5 : Int32} (c0 : 0 ≤ (nI v1) ∧ (nI v1) ≤ 1) (c1 : 0 ≤ (nI v3) ∧ (nI v3) ≤ 1) (b0 : v1 < 2) (c2 : ¬ X 138 v1 < 0) (b1 : v3 < 2) (c3 : 0 ≤ X 138 v3) (c4 : ¬ v5 < 0) (c5 : v2 < 0) (hp : post (some (.int (-1000000013))) X) : Ev g mX12_copy d n n post n 0 [some (.ref 133), some (.int (nI v1)), some (.int v2), some (.int (nI v3)), some (.int v4), some (.int v5), none] [] X := by
  refine ev_iload_n dX12_copy_0 rfl ?_
  refine ev_iconst (v := 0) dX12_copy_1 ki_0 ?_
  refine ev_iconst (v := 1) dX12_copy_2 ki_1 ?_
  refine e_Si (as := [.int (nI v1), .int 0, .int 1]) (rest := []) dX12_copy_3 vX12_within ml_12_52 stX12_within npX12_within (by decide) rfl (Nat.le_of_ble_eq_true rfl) (by omega) (t_X12_within (d := d - 1) (by omega) (by omega) hX c0) ?_
  refine ev_ifF (tgt := 18) dX12_copy_6 (by decide) (by show ¬ (1 : Int32) = 0; decide) ?_
  refine ev_iload_n dX12_copy_9 rfl ?_
  refine ev_iconst (v := 0) dX12_copy_10 ki_0 ?_
  refine ev_iconst (v := 1) dX12_copy_11 ki_1 ?_
  refine e_Si (as := [.int (nI v3), .int 0, .int 1]) (rest := []) dX12_copy_12 vX12_within ml_12_52 stX12_within npX12_within (by decide) rfl (Nat.le_of_ble_eq_true rfl) (by omega) (t_X12_within (d := d - 1) (by omega) (by omega) hX c1) ?_
  refine ev_ifT (tgt := 21) dX12_copy_15 (by decide) (by show ¬ (1 : Int32) = 0; decide) ?_
  refine ev_aload_n dX12_copy_21 rfl ?_
  refine ev_getS (q := 138) dX12_copy_22 fo_12_22 (by omega) lo_133 rfl (sh_133_7 hX (by omega)) (by decide) ?_
  refine ev_iload_n dX12_copy_25 rfl ?_
  refine ev_iald dX12_copy_26 (by omega) ly_138 rfl b0 ?_
  refine ev_ifF (tgt := 39) dX12_copy_27 (by decide) c2 ?_
  refine ev_aload_n dX12_copy_30 rfl ?_
  refine ev_getS (q := 138) dX12_copy_31 fo_12_22 (by omega) lo_133 rfl (sh_133_7 hX (by omega)) (by decide) ?_
  refine ev_iload_n dX12_copy_34 rfl ?_
  refine ev_iald dX12_copy_35 (by omega) ly_138 rfl b1 ?_
  refine ev_ifT (tgt := 42) dX12_copy_36 (by decide) c3 ?_
  refine ev_iload dX12_copy_42 rfl ?_
  refine ev_ifF (tgt := 91) dX12_copy_44 (by decide) c4 ?_
  refine ev_iload_n dX12_copy_47 rfl ?_
  refine ev_ifT (tgt := 91) dX12_copy_48 (by decide) c5 ?_
  refine ev_ldcw (v := (-1000000013)) dX12_copy_91 kw_12_320 ?_
  exact ev_iret dX12_copy_94 rfl rfl hp
theorem bX12_copy_0_6 {g : GG} {d n : Nat} {post : Option Value → LX → Prop} {X : LX} (hd : 1 ≤ d) (hn : 146 ≤ n) (hX : Sh n X) {v1 : Nat} {v2 : Int32} {v3 : Nat} {v4 : Int32} {v5 : Int32} (c0 : 0 ≤ (nI v1) ∧ (nI v1) ≤ 1) (c1 : 0 ≤ (nI v3) ∧ (nI v3) ≤ 1) (b0 : v1 < 2) (c2 : ¬ X 138 v1 < 0) (b1 : v3 < 2) (c3 : 0 ≤ X 138 v3) (c4 : v5 < 0) (hp : post (some (.int (-1000000013))) X) : Ev g mX12_copy d n n post n 0 [some (.ref 133), some (.int (nI v1)), some (.int v2), some (.int (nI v3)), some (.int v4), some (.int v5), none] [] X := by
  refine ev_iload_n dX12_copy_0 rfl ?_
  refine ev_iconst (v := 0) dX12_copy_1 ki_0 ?_
  refine ev_iconst (v := 1) dX12_copy_2 ki_1 ?_
  refine e_Si (as := [.int (nI v1), .int 0, .int 1]) (rest := []) dX12_copy_3 vX12_within ml_12_52 stX12_within npX12_within (by decide) rfl (Nat.le_of_ble_eq_true rfl) (by omega) (t_X12_within (d := d - 1) (by omega) (by omega) hX c0) ?_
  refine ev_ifF (tgt := 18) dX12_copy_6 (by decide) (by show ¬ (1 : Int32) = 0; decide) ?_
  refine ev_iload_n dX12_copy_9 rfl ?_
  refine ev_iconst (v := 0) dX12_copy_10 ki_0 ?_
  refine ev_iconst (v := 1) dX12_copy_11 ki_1 ?_
  refine e_Si (as := [.int (nI v3), .int 0, .int 1]) (rest := []) dX12_copy_12 vX12_within ml_12_52 stX12_within npX12_within (by decide) rfl (Nat.le_of_ble_eq_true rfl) (by omega) (t_X12_within (d := d - 1) (by omega) (by omega) hX c1) ?_
  refine ev_ifT (tgt := 21) dX12_copy_15 (by decide) (by show ¬ (1 : Int32) = 0; decide) ?_
  refine ev_aload_n dX12_copy_21 rfl ?_
  refine ev_getS (q := 138) dX12_copy_22 fo_12_22 (by omega) lo_133 rfl (sh_133_7 hX (by omega)) (by decide) ?_
  refine ev_iload_n dX12_copy_25 rfl ?_
  refine ev_iald dX12_copy_26 (by omega) ly_138 rfl b0 ?_
  refine ev_ifF (tgt := 39) dX12_copy_27 (by decide) c2 ?_
  refine ev_aload_n dX12_copy_30 rfl ?_
  refine ev_getS (q := 138) dX12_copy_31 fo_12_22 (by omega) lo_133 rfl (sh_133_7 hX (by omega)) (by decide) ?_
  refine ev_iload_n dX12_copy_34 rfl ?_
  refine ev_iald dX12_copy_35 (by omega) ly_138 rfl b1 ?_
  refine ev_ifT (tgt := 42) dX12_copy_36 (by decide) c3 ?_
  refine ev_iload dX12_copy_42 rfl ?_
  refine ev_ifT (tgt := 91) dX12_copy_44 (by decide) c4 ?_
  refine ev_ldcw (v := (-1000000013)) dX12_copy_91 kw_12_320 ?_
  exact ev_iret dX12_copy_94 rfl rfl hp
theorem bX12_copy_0_7 {g : GG} {d n : Nat} {post : Option Value → LX → Prop} {X : LX} (hd : 1 ≤ d) (hn : 146 ≤ n) (hX : Sh n X) {v1 : Nat} {v2 : Int32} {v3 : Int32} {v4 : Int32} {v5 : Int32} (c0 : 0 ≤ (nI v1) ∧ (nI v1) ≤ 1) (c1 : 0 ≤ v3 ∧ v3 ≤ 1) (b0 : v1 < 2) (c2 : X 138 v1 < 0) (hp : post (some (.int (-1000000011))) X) : Ev g mX12_copy d n n post n 0 [some (.ref 133), some (.int (nI v1)), some (.int v2), some (.int v3), some (.int v4), some (.int v5), none] [] X := by
  refine ev_iload_n dX12_copy_0 rfl ?_
  refine ev_iconst (v := 0) dX12_copy_1 ki_0 ?_
  refine ev_iconst (v := 1) dX12_copy_2 ki_1 ?_
  refine e_Si (as := [.int (nI v1), .int 0, .int 1]) (rest := []) dX12_copy_3 vX12_within ml_12_52 stX12_within npX12_within (by decide) rfl (Nat.le_of_ble_eq_true rfl) (by omega) (t_X12_within (d := d - 1) (by omega) (by omega) hX c0) ?_
  refine ev_ifF (tgt := 18) dX12_copy_6 (by decide) (by show ¬ (1 : Int32) = 0; decide) ?_
  refine ev_iload_n dX12_copy_9 rfl ?_
  refine ev_iconst (v := 0) dX12_copy_10 ki_0 ?_
  refine ev_iconst (v := 1) dX12_copy_11 ki_1 ?_
  refine e_Si (as := [.int v3, .int 0, .int 1]) (rest := []) dX12_copy_12 vX12_within ml_12_52 stX12_within npX12_within (by decide) rfl (Nat.le_of_ble_eq_true rfl) (by omega) (t_X12_within (d := d - 1) (by omega) (by omega) hX c1) ?_
  refine ev_ifT (tgt := 21) dX12_copy_15 (by decide) (by show ¬ (1 : Int32) = 0; decide) ?_
  refine ev_aload_n dX12_copy_21 rfl ?_
  refine ev_getS (q := 138) dX12_copy_22 fo_12_22 (by omega) lo_133 rfl (sh_133_7 hX (by omega)) (by decide) ?_
  refine ev_iload_n dX12_copy_25 rfl ?_
  refine ev_iald dX12_copy_26 (by omega) ly_138 rfl b0 ?_
  refine ev_ifT (tgt := 39) dX12_copy_27 (by decide) c2 ?_
  refine ev_ldc (v := (-1000000011)) dX12_copy_39 kw_12_105 ?_
  exact ev_iret dX12_copy_41 rfl rfl hp
theorem bX12_copy_0_8 {g : GG} {d n : Nat} {post : Option Value → LX → Prop} {X : LX} (hd : 1 ≤ d) (hn : 146 ≤ n) (hX : Sh n X) {v1 : Int32} {v2 : Int32} {v3 : Int32} {v4 : Int32} {v5 : Int32} (c0 : 0 ≤ v1 ∧ v1 ≤ 1) (c1 : ¬ (0 ≤ v3 ∧ v3 ≤ 1)) (hp : post (some (.int (-1000000001))) X) : Ev g mX12_copy d n n post n 0 [some (.ref 133), some (.int v1), some (.int v2), some (.int v3), some (.int v4), some (.int v5), none] [] X := by
  refine ev_iload_n dX12_copy_0 rfl ?_
  refine ev_iconst (v := 0) dX12_copy_1 ki_0 ?_
  refine ev_iconst (v := 1) dX12_copy_2 ki_1 ?_
  refine e_Si (as := [.int v1, .int 0, .int 1]) (rest := []) dX12_copy_3 vX12_within ml_12_52 stX12_within npX12_within (by decide) rfl (Nat.le_of_ble_eq_true rfl) (by omega) (t_X12_within (d := d - 1) (by omega) (by omega) hX c0) ?_
  refine ev_ifF (tgt := 18) dX12_copy_6 (by decide) (by show ¬ (1 : Int32) = 0; decide) ?_
  refine ev_iload_n dX12_copy_9 rfl ?_
  refine ev_iconst (v := 0) dX12_copy_10 ki_0 ?_
  refine ev_iconst (v := 1) dX12_copy_11 ki_1 ?_
  refine e_Si (as := [.int v3, .int 0, .int 1]) (rest := []) dX12_copy_12 vX12_within ml_12_52 stX12_within npX12_within (by decide) rfl (Nat.le_of_ble_eq_true rfl) (by omega) (f_X12_within (d := d - 1) (by omega) (by omega) hX c1) ?_
  refine ev_ifF (tgt := 21) dX12_copy_15 (by decide) (by show (0 : Int32) = 0; decide) ?_
  refine ev_ldc (v := (-1000000001)) dX12_copy_18 kw_12_57 ?_
  exact ev_iret dX12_copy_20 rfl rfl hp
theorem bX12_copy_0_9 {g : GG} {d n : Nat} {post : Option Value → LX → Prop} {X : LX} (hd : 1 ≤ d) (hn : 146 ≤ n) (hX : Sh n X) {v1 : Int32} {v2 : Int32} {v3 : Int32} {v4 : Int32} {v5 : Int32} (c0 : ¬ (0 ≤ v1 ∧ v1 ≤ 1)) (hp : post (some (.int (-1000000001))) X) : Ev g mX12_copy d n n post n 0 [some (.ref 133), some (.int v1), some (.int v2), some (.int v3), some (.int v4), some (.int v5), none] [] X := by
  refine ev_iload_n dX12_copy_0 rfl ?_
  refine ev_iconst (v := 0) dX12_copy_1 ki_0 ?_
  refine ev_iconst (v := 1) dX12_copy_2 ki_1 ?_
  refine e_Si (as := [.int v1, .int 0, .int 1]) (rest := []) dX12_copy_3 vX12_within ml_12_52 stX12_within npX12_within (by decide) rfl (Nat.le_of_ble_eq_true rfl) (by omega) (f_X12_within (d := d - 1) (by omega) (by omega) hX c0) ?_
  refine ev_ifT (tgt := 18) dX12_copy_6 (by decide) (by show (0 : Int32) = 0; decide) ?_
  refine ev_ldc (v := (-1000000001)) dX12_copy_18 kw_12_57 ?_
  exact ev_iret dX12_copy_20 rfl rfl hp
theorem bX12_copy_98_0 {g : GG} {d n : Nat} {post : Option Value → LX → Prop} {X : LX} (hn : 146 ≤ n) (hX : Sh n X) {v1 : Nat} {v2 : Nat} {v3 : Int32} {v4 : Int32} {v5 : Int32} {v6 : Nat} (c0 : ¬ v5 ≤ nI v6) (b0 : (((16 * v1) + v2) + v6) < 32) (b1 : v6 < 16) (k : Ev g mX12_copy d n n post n 98 [some (.ref 133), some (.int (nI v1)), some (.int (nI v2)), some (.int v3), some (.int v4), some (.int v5), some (.int ((nI v6) + 1))] [] (lx_up X 145 v6 (X 139 (((16 * v1) + v2) + v6)))) : Ev g mX12_copy d n n post n 98 [some (.ref 133), some (.int (nI v1)), some (.int (nI v2)), some (.int v3), some (.int v4), some (.int v5), some (.int (nI v6))] [] X := by
  refine ev_iload dX12_copy_98 rfl ?_
  refine ev_iload dX12_copy_100 rfl ?_
  refine ev_icmpF (tgt := 132) dX12_copy_102 (by decide) c0 ?_
  refine ev_aload_n dX12_copy_105 rfl ?_
  refine ev_getS (q := 145) dX12_copy_106 fo_12_49 (by omega) lo_133 rfl (sh_133_30 hX (by omega)) (by decide) ?_
  refine ev_iload dX12_copy_109 rfl ?_
  refine ev_aload_n dX12_copy_111 rfl ?_
  refine ev_getS (q := 139) dX12_copy_112 fo_12_25 (by omega) lo_133 rfl (sh_133_8 hX (by omega)) (by decide) ?_
  refine ev_bipush (v := 16) dX12_copy_115 kb_16 ?_
  refine ev_iload_n dX12_copy_117 rfl ?_
  refine ev_imul dX12_copy_118 ?_
  refine ev_iload_n dX12_copy_119 rfl ?_
  refine ev_iadd dX12_copy_120 ?_
  refine ev_iload dX12_copy_121 rfl ?_
  refine ev_iadd dX12_copy_123 ?_
  refine ev_iald dX12_copy_124 (by omega) ly_139 (by show ((nI 16 * nI v1) + nI v2) + nI v6 = nI (((16 * v1) + v2) + v6); simp only [pk_mul, nI_add]) b0 ?_
  refine ev_iast dX12_copy_125 (by omega) ly_145 rfl b1 ?_
  have hX1 : Sh _ (lx_up X 145 v6 (X 139 (((16 * v1) + v2) + v6))) := Sh.upA hX (by rw [ly_145]; exact (by decide : 0 < 2))
  refine ev_iinc (v := (nI v6) + 1) dX12_copy_126 rfl (by rw [show Int32.ofInt 1 = 1 from ki_1]) (by decide) ?_
  refine ev_goto (tgt := 98) dX12_copy_129 (by decide) ?_
  exact k
theorem bX12_copy_98_1 {g : GG} {d n : Nat} {post : Option Value → LX → Prop} {X : LX} (hn : 146 ≤ n) (hX : Sh n X) {v1 : Int32} {v2 : Int32} {v3 : Int32} {v4 : Int32} {v5 : Int32} {v6 : Int32} (c0 : v5 ≤ v6) (k : Ev g mX12_copy d n n post n 135 [some (.ref 133), some (.int v1), some (.int v2), some (.int v3), some (.int v4), some (.int v5), some (.int 0)] [] X) : Ev g mX12_copy d n n post n 98 [some (.ref 133), some (.int v1), some (.int v2), some (.int v3), some (.int v4), some (.int v5), some (.int v6)] [] X := by
  refine ev_iload dX12_copy_98 rfl ?_
  refine ev_iload dX12_copy_100 rfl ?_
  refine ev_icmpT (tgt := 132) dX12_copy_102 (by decide) c0 ?_
  refine ev_iconst (v := 0) dX12_copy_132 ki_0 ?_
  refine ev_istore dX12_copy_133 (by decide) ?_
  exact k
theorem bX12_copy_135_0 {g : GG} {d n : Nat} {post : Option Value → LX → Prop} {X : LX} (hn : 146 ≤ n) (hX : Sh n X) {v1 : Int32} {v2 : Int32} {v3 : Nat} {v4 : Nat} {v5 : Int32} {v6 : Nat} (c0 : ¬ v5 ≤ nI v6) (b0 : v6 < 16) (b1 : (((16 * v3) + v4) + v6) < 32) (k : Ev g mX12_copy d n n post n 135 [some (.ref 133), some (.int v1), some (.int v2), some (.int (nI v3)), some (.int (nI v4)), some (.int v5), some (.int ((nI v6) + 1))] [] (lx_up X 139 (((16 * v3) + v4) + v6) (X 145 v6))) : Ev g mX12_copy d n n post n 135 [some (.ref 133), some (.int v1), some (.int v2), some (.int (nI v3)), some (.int (nI v4)), some (.int v5), some (.int (nI v6))] [] X := by
  refine ev_iload dX12_copy_135 rfl ?_
  refine ev_iload dX12_copy_137 rfl ?_
  refine ev_icmpF (tgt := 170) dX12_copy_139 (by decide) c0 ?_
  refine ev_aload_n dX12_copy_142 rfl ?_
  refine ev_getS (q := 139) dX12_copy_143 fo_12_25 (by omega) lo_133 rfl (sh_133_8 hX (by omega)) (by decide) ?_
  refine ev_bipush (v := 16) dX12_copy_146 kb_16 ?_
  refine ev_iload_n dX12_copy_148 rfl ?_
  refine ev_imul dX12_copy_149 ?_
  refine ev_iload dX12_copy_150 rfl ?_
  refine ev_iadd dX12_copy_152 ?_
  refine ev_iload dX12_copy_153 rfl ?_
  refine ev_iadd dX12_copy_155 ?_
  refine ev_aload_n dX12_copy_156 rfl ?_
  refine ev_getS (q := 145) dX12_copy_157 fo_12_49 (by omega) lo_133 rfl (sh_133_30 hX (by omega)) (by decide) ?_
  refine ev_iload dX12_copy_160 rfl ?_
  refine ev_iald dX12_copy_162 (by omega) ly_145 rfl b0 ?_
  refine ev_iast dX12_copy_163 (by omega) ly_139 (by show ((nI 16 * nI v3) + nI v4) + nI v6 = nI (((16 * v3) + v4) + v6); simp only [pk_mul, nI_add]) b1 ?_
  have hX1 : Sh _ (lx_up X 139 (((16 * v3) + v4) + v6) (X 145 v6)) := Sh.upA hX (by rw [ly_139]; exact (by decide : 0 < 2))
  refine ev_iinc (v := (nI v6) + 1) dX12_copy_164 rfl (by rw [show Int32.ofInt 1 = 1 from ki_1]) (by decide) ?_
  refine ev_goto (tgt := 135) dX12_copy_167 (by decide) ?_
  exact k
theorem bX12_copy_135_1 {g : GG} {d n : Nat} {post : Option Value → LX → Prop} {X : LX} (hn : 146 ≤ n) (hX : Sh n X) {v1 : Int32} {v2 : Int32} {v3 : Int32} {v4 : Int32} {v5 : Int32} {v6 : Int32} (c0 : v5 ≤ v6) (hp : post (some (.int v5)) X) : Ev g mX12_copy d n n post n 135 [some (.ref 133), some (.int v1), some (.int v2), some (.int v3), some (.int v4), some (.int v5), some (.int v6)] [] X := by
  refine ev_iload dX12_copy_135 rfl ?_
  refine ev_iload dX12_copy_137 rfl ?_
  refine ev_icmpT (tgt := 170) dX12_copy_139 (by decide) c0 ?_
  refine ev_iload dX12_copy_170 rfl ?_
  exact ev_iret dX12_copy_172 rfl rfl hp
theorem bX11_copyRow_0_0 {g : GG} {d n : Nat} {post : Option Value → LX → Prop} {X : LX} (hd : 1 ≤ d) (hn : 146 ≤ n) (hX : Sh n X) {r0 lr0 : Nat} {r1 lr1 : Nat} {j1 : Nat} (hrr0 : r0 < n) (hlr0 : LY r0 = (0, lr0)) (hrr1 : r1 < n) (hlr1 : LY r1 = (0, lr1)) (hj1 : (if (nI lr1) < (nI lr0) then (nI lr1) else (nI lr0)) = nI j1) (x0 : 0 + j1 ≤ lr0) (y0 : 0 + j1 ≤ lr1) (hp : post none (lx_row X r1 (va_cpy (X r0) (X r1) 0 0 j1))) : Ev g mX11_copyRow d n n post n 0 [some (.ref r0), some (.ref r1)] [] X := by
  refine ev_aload_n dX11_copyRow_0 rfl ?_
  refine ev_iconst (v := 0) dX11_copyRow_1 ki_0 ?_
  refine ev_aload_n dX11_copyRow_2 rfl ?_
  refine ev_iconst (v := 0) dX11_copyRow_3 ki_0 ?_
  refine ev_aload_n dX11_copyRow_4 rfl ?_
  refine ev_alen dX11_copyRow_5 hrr0 hlr0 (by decide) ?_
  refine ev_aload_n dX11_copyRow_6 rfl ?_
  refine ev_alen dX11_copyRow_7 hrr1 hlr1 (by decide) ?_
  refine e_min dX11_copyRow_8 mm_11_180 mn_st mx_in mn_co (Nat.le_of_ble_eq_true rfl) (by omega) ?_
  refine ev_acopy (t := 0) (a := 0) (b := 0) (c := j1) (Or.inl rfl) dX11_copyRow_11 acy_l acy_n acy_s acy_i hrr0 hrr1 hlr0 hlr1 nIl_0 nIl_0 hj1 x0 y0 (fun h => absurd h (by decide)) (Nat.le_of_ble_eq_true rfl) (by show 1 ≤ d; omega) (by show 64 ≤ 64 * d; omega) ?_
  have hX1 : Sh _ (lx_row X r1 (va_cpy (X r0) (X r1) 0 0 j1)) := Sh.row hX (by rw [hlr1]; exact (by decide : 0 < 2))
  exact ev_ret dX11_copyRow_14 rfl hp
