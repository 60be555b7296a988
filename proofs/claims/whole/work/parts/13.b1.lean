theorem bX11_isLikes_0_0 {g : GG} {d n : Nat} {post : Option Value → LX → Prop} {X : LX} (hd : 1 ≤ d) (hn : 146 ≤ n) (hX : Sh n X) {v0 : Int32} (c0 : 0 ≤ v0 ∧ v0 ≤ 9) (hp : post (some (.int 1)) X) : Ev g mX11_isLikes d n n post n 0 [some (.int v0)] [] X := by
  refine ev_iload_n dX11_isLikes_0 rfl ?_
  refine ev_iconst (v := 0) dX11_isLikes_1 ki_0 ?_
  refine ev_bipush (v := 9) dX11_isLikes_2 kb_9 ?_
  refine e_Si (as := [.int v0, .int 0, .int 9]) (rest := []) dX11_isLikes_4 vX11_isIn ml_11_57 stX11_isIn npX11_isIn (by decide) rfl (Nat.le_of_ble_eq_true rfl) (by omega) (t_X11_isIn (d := d - 1) (by omega) (by omega) hX c0) ?_
  exact ev_iret dX11_isLikes_7 rfl (by decide) hp
theorem bX11_isLikes_0_1 {g : GG} {d n : Nat} {post : Option Value → LX → Prop} {X : LX} (hd : 1 ≤ d) (hn : 146 ≤ n) (hX : Sh n X) {v0 : Int32} (c0 : ¬ (0 ≤ v0 ∧ v0 ≤ 9)) (hp : post (some (.int 0)) X) : Ev g mX11_isLikes d n n post n 0 [some (.int v0)] [] X := by
  refine ev_iload_n dX11_isLikes_0 rfl ?_
  refine ev_iconst (v := 0) dX11_isLikes_1 ki_0 ?_
  refine ev_bipush (v := 9) dX11_isLikes_2 kb_9 ?_
  refine e_Si (as := [.int v0, .int 0, .int 9]) (rest := []) dX11_isLikes_4 vX11_isIn ml_11_57 stX11_isIn npX11_isIn (by decide) rfl (Nat.le_of_ble_eq_true rfl) (by omega) (f_X11_isIn (d := d - 1) (by omega) (by omega) hX c0) ?_
  exact ev_iret dX11_isLikes_7 rfl (by decide) hp
theorem bX12_isPart_0_0 {g : GG} {d n : Nat} {post : Option Value → LX → Prop} {X : LX} (hd : 1 ≤ d) (hn : 146 ≤ n) (hX : Sh n X) {v1 : Int32} (c0 : 0 ≤ v1 ∧ v1 ≤ ((X 134 4) - 1)) (hp : post (some (.int 1)) X) : Ev g mX12_isPart d n n post n 0 [some (.ref 133), some (.int v1)] [] X := by
  refine ev_iload_n dX12_isPart_0 rfl ?_
  refine ev_iconst (v := 0) dX12_isPart_1 ki_0 ?_
  refine ev_aload_n dX12_isPart_2 rfl ?_
  refine ev_getS (q := 134) dX12_isPart_3 fo_12_9 (by omega) lo_133 rfl (sh_133_0 hX (by omega)) (by decide) ?_
  refine ev_iconst (v := 4) dX12_isPart_6 ki_4 ?_
  refine ev_iald dX12_isPart_7 (by omega) ly_134 nIl_4 (by decide) ?_
  refine ev_iconst (v := 1) dX12_isPart_8 ki_1 ?_
  refine ev_isub dX12_isPart_9 ?_
  refine e_Si (as := [.int v1, .int 0, .int ((X 134 4) - 1)]) (rest := []) dX12_isPart_10 vX12_within ml_12_52 stX12_within npX12_within (by decide) rfl (Nat.le_of_ble_eq_true rfl) (by omega) (t_X12_within (d := d - 1) (by omega) (by omega) hX c0) ?_
  exact ev_iret dX12_isPart_13 rfl (by decide) hp
theorem bX12_isPart_0_1 {g : GG} {d n : Nat} {post : Option Value → LX → Prop} {X : LX} (hd : 1 ≤ d) (hn : 146 ≤ n) (hX : Sh n X) {v1 : Int32} (c0 : ¬ (0 ≤ v1 ∧ v1 ≤ ((X 134 4) - 1))) (hp : post (some (.int 0)) X) : Ev g mX12_isPart d n n post n 0 [some (.ref 133), some (.int v1)] [] X := by
  refine ev_iload_n dX12_isPart_0 rfl ?_
  refine ev_iconst (v := 0) dX12_isPart_1 ki_0 ?_
  refine ev_aload_n dX12_isPart_2 rfl ?_
  refine ev_getS (q := 134) dX12_isPart_3 fo_12_9 (by omega) lo_133 rfl (sh_133_0 hX (by omega)) (by decide) ?_
  refine ev_iconst (v := 4) dX12_isPart_6 ki_4 ?_
  refine ev_iald dX12_isPart_7 (by omega) ly_134 nIl_4 (by decide) ?_
  refine ev_iconst (v := 1) dX12_isPart_8 ki_1 ?_
  refine ev_isub dX12_isPart_9 ?_
  refine e_Si (as := [.int v1, .int 0, .int ((X 134 4) - 1)]) (rest := []) dX12_isPart_10 vX12_within ml_12_52 stX12_within npX12_within (by decide) rfl (Nat.le_of_ble_eq_true rfl) (by omega) (f_X12_within (d := d - 1) (by omega) (by omega) hX c0) ?_
  exact ev_iret dX12_isPart_13 rfl (by decide) hp
theorem bX12_isMeal_0_0 {g : GG} {d n : Nat} {post : Option Value → LX → Prop} {X : LX} (hd : 1 ≤ d) (hn : 146 ≤ n) (hX : Sh n X) {v1 : Int32} (c0 : 0 ≤ v1 ∧ v1 ≤ ((X 134 5) - 1)) (hp : post (some (.int 1)) X) : Ev g mX12_isMeal d n n post n 0 [some (.ref 133), some (.int v1)] [] X := by
  refine ev_iload_n dX12_isMeal_0 rfl ?_
  refine ev_iconst (v := 0) dX12_isMeal_1 ki_0 ?_
  refine ev_aload_n dX12_isMeal_2 rfl ?_
  refine ev_getS (q := 134) dX12_isMeal_3 fo_12_9 (by omega) lo_133 rfl (sh_133_0 hX (by omega)) (by decide) ?_
  refine ev_iconst (v := 5) dX12_isMeal_6 ki_5 ?_
  refine ev_iald dX12_isMeal_7 (by omega) ly_134 nIl_5 (by decide) ?_
  refine ev_iconst (v := 1) dX12_isMeal_8 ki_1 ?_
  refine ev_isub dX12_isMeal_9 ?_
  refine e_Si (as := [.int v1, .int 0, .int ((X 134 5) - 1)]) (rest := []) dX12_isMeal_10 vX12_within ml_12_52 stX12_within npX12_within (by decide) rfl (Nat.le_of_ble_eq_true rfl) (by omega) (t_X12_within (d := d - 1) (by omega) (by omega) hX c0) ?_
  exact ev_iret dX12_isMeal_13 rfl (by decide) hp
theorem bX12_isMeal_0_1 {g : GG} {d n : Nat} {post : Option Value → LX → Prop} {X : LX} (hd : 1 ≤ d) (hn : 146 ≤ n) (hX : Sh n X) {v1 : Int32} (c0 : ¬ (0 ≤ v1 ∧ v1 ≤ ((X 134 5) - 1))) (hp : post (some (.int 0)) X) : Ev g mX12_isMeal d n n post n 0 [some (.ref 133), some (.int v1)] [] X := by
  refine ev_iload_n dX12_isMeal_0 rfl ?_
  refine ev_iconst (v := 0) dX12_isMeal_1 ki_0 ?_
  refine ev_aload_n dX12_isMeal_2 rfl ?_
  refine ev_getS (q := 134) dX12_isMeal_3 fo_12_9 (by omega) lo_133 rfl (sh_133_0 hX (by omega)) (by decide) ?_
  refine ev_iconst (v := 5) dX12_isMeal_6 ki_5 ?_
  refine ev_iald dX12_isMeal_7 (by omega) ly_134 nIl_5 (by decide) ?_
  refine ev_iconst (v := 1) dX12_isMeal_8 ki_1 ?_
  refine ev_isub dX12_isMeal_9 ?_
  refine e_Si (as := [.int v1, .int 0, .int ((X 134 5) - 1)]) (rest := []) dX12_isMeal_10 vX12_within ml_12_52 stX12_within npX12_within (by decide) rfl (Nat.le_of_ble_eq_true rfl) (by omega) (f_X12_within (d := d - 1) (by omega) (by omega) hX c0) ?_
  exact ev_iret dX12_isMeal_13 rfl (by decide) hp
theorem bX12_isFamily_0_0 {g : GG} {d n : Nat} {post : Option Value → LX → Prop} {X : LX} (hd : 1 ≤ d) (hn : 146 ≤ n) (hX : Sh n X) {v1 : Int32} (c0 : 0 ≤ v1 ∧ v1 ≤ ((X 134 6) - 1)) (hp : post (some (.int 1)) X) : Ev g mX12_isFamily d n n post n 0 [some (.ref 133), some (.int v1)] [] X := by
  refine ev_iload_n dX12_isFamily_0 rfl ?_
  refine ev_iconst (v := 0) dX12_isFamily_1 ki_0 ?_
  refine ev_aload_n dX12_isFamily_2 rfl ?_
  refine ev_getS (q := 134) dX12_isFamily_3 fo_12_9 (by omega) lo_133 rfl (sh_133_0 hX (by omega)) (by decide) ?_
  refine ev_bipush (v := 6) dX12_isFamily_6 kb_6 ?_
  refine ev_iald dX12_isFamily_8 (by omega) ly_134 nIl_6 (by decide) ?_
  refine ev_iconst (v := 1) dX12_isFamily_9 ki_1 ?_
  refine ev_isub dX12_isFamily_10 ?_
  refine e_Si (as := [.int v1, .int 0, .int ((X 134 6) - 1)]) (rest := []) dX12_isFamily_11 vX12_within ml_12_52 stX12_within npX12_within (by decide) rfl (Nat.le_of_ble_eq_true rfl) (by omega) (t_X12_within (d := d - 1) (by omega) (by omega) hX c0) ?_
  exact ev_iret dX12_isFamily_14 rfl (by decide) hp
theorem bX12_isFamily_0_1 {g : GG} {d n : Nat} {post : Option Value → LX → Prop} {X : LX} (hd : 1 ≤ d) (hn : 146 ≤ n) (hX : Sh n X) {v1 : Int32} (c0 : ¬ (0 ≤ v1 ∧ v1 ≤ ((X 134 6) - 1))) (hp : post (some (.int 0)) X) : Ev g mX12_isFamily d n n post n 0 [some (.ref 133), some (.int v1)] [] X := by
  refine ev_iload_n dX12_isFamily_0 rfl ?_
  refine ev_iconst (v := 0) dX12_isFamily_1 ki_0 ?_
  refine ev_aload_n dX12_isFamily_2 rfl ?_
  refine ev_getS (q := 134) dX12_isFamily_3 fo_12_9 (by omega) lo_133 rfl (sh_133_0 hX (by omega)) (by decide) ?_
  refine ev_bipush (v := 6) dX12_isFamily_6 kb_6 ?_
  refine ev_iald dX12_isFamily_8 (by omega) ly_134 nIl_6 (by decide) ?_
  refine ev_iconst (v := 1) dX12_isFamily_9 ki_1 ?_
  refine ev_isub dX12_isFamily_10 ?_
  refine e_Si (as := [.int v1, .int 0, .int ((X 134 6) - 1)]) (rest := []) dX12_isFamily_11 vX12_within ml_12_52 stX12_within npX12_within (by decide) rfl (Nat.le_of_ble_eq_true rfl) (by omega) (f_X12_within (d := d - 1) (by omega) (by omega) hX c0) ?_
  exact ev_iret dX12_isFamily_14 rfl (by decide) hp
theorem bX12_isGreen_0_0 {g : GG} {d n : Nat} {post : Option Value → LX → Prop} {X : LX} (hd : 1 ≤ d) (hn : 146 ≤ n) (hX : Sh n X) {v1 : Nat} (b0 : ((318 + (13 * v1)) + 0) < 2156) (c0 : ¬ X 134 ((318 + (13 * v1)) + 0) < 2) (hp : post (some (.int 1)) X) : Ev g mX12_isGreen d n n post n 0 [some (.ref 133), some (.int (nI v1))] [] X := by
  refine ev_aload_n dX12_isGreen_0 rfl ?_
  refine ev_getS (q := 134) dX12_isGreen_1 fo_12_9 (by omega) lo_133 rfl (sh_133_0 hX (by omega)) (by decide) ?_
  refine ev_iload_n dX12_isGreen_4 rfl ?_
  refine ev_iconst (v := 0) dX12_isGreen_5 ki_0 ?_
  refine e_Si (as := [.int (nI v1), .int 0]) (rest := [.ref 134]) dX12_isGreen_6 vX12_ofMeal ml_12_67 stX12_ofMeal npX12_ofMeal (by decide) rfl (Nat.le_of_ble_eq_true rfl) (by omega) (c_X12_ofMeal (d := d - 1) (by omega) (by omega) hX ) ?_
  refine ev_iald dX12_isGreen_9 (by omega) ly_134 (by show (nI 318 + (nI 13 * nI v1)) + nI 0 = nI ((318 + (13 * v1)) + 0); simp only [pk_mul, nI_add]) b0 ?_
  refine ev_iconst (v := 2) dX12_isGreen_10 ki_2 ?_
  refine ev_icmpF (tgt := 18) dX12_isGreen_11 (by decide) c0 ?_
  refine ev_iconst (v := 1) dX12_isGreen_14 ki_1 ?_
  refine ev_goto (tgt := 19) dX12_isGreen_15 (by decide) ?_
  exact ev_iret dX12_isGreen_19 rfl (by decide) hp
theorem bX12_isGreen_0_1 {g : GG} {d n : Nat} {post : Option Value → LX → Prop} {X : LX} (hd : 1 ≤ d) (hn : 146 ≤ n) (hX : Sh n X) {v1 : Nat} (b0 : ((318 + (13 * v1)) + 0) < 2156) (c0 : X 134 ((318 + (13 * v1)) + 0) < 2) (hp : post (some (.int 0)) X) : Ev g mX12_isGreen d n n post n 0 [some (.ref 133), some (.int (nI v1))] [] X := by
  refine ev_aload_n dX12_isGreen_0 rfl ?_
  refine ev_getS (q := 134) dX12_isGreen_1 fo_12_9 (by omega) lo_133 rfl (sh_133_0 hX (by omega)) (by decide) ?_
  refine ev_iload_n dX12_isGreen_4 rfl ?_
  refine ev_iconst (v := 0) dX12_isGreen_5 ki_0 ?_
  refine e_Si (as := [.int (nI v1), .int 0]) (rest := [.ref 134]) dX12_isGreen_6 vX12_ofMeal ml_12_67 stX12_ofMeal npX12_ofMeal (by decide) rfl (Nat.le_of_ble_eq_true rfl) (by omega) (c_X12_ofMeal (d := d - 1) (by omega) (by omega) hX ) ?_
  refine ev_iald dX12_isGreen_9 (by omega) ly_134 (by show (nI 318 + (nI 13 * nI v1)) + nI 0 = nI ((318 + (13 * v1)) + 0); simp only [pk_mul, nI_add]) b0 ?_
  refine ev_iconst (v := 2) dX12_isGreen_10 ki_2 ?_
  refine ev_icmpT (tgt := 18) dX12_isGreen_11 (by decide) c0 ?_
  refine ev_iconst (v := 0) dX12_isGreen_18 ki_0 ?_
  exact ev_iret dX12_isGreen_19 rfl (by decide) hp
theorem bX12_isLetter_0_0 {g : GG} {d n : Nat} {post : Option Value → LX → Prop} {X : LX} (hd : 1 ≤ d) (hn : 146 ≤ n) (hX : Sh n X) {v1 : Nat} (c0 : ¬ X 133 4 ≤ nI v1) (b0 : v1 < 120) (c1 : 97 ≤ (X 136 v1) ∧ (X 136 v1) ≤ 122) (hp : post (some (.int 1)) X) : Ev g mX12_isLetter d n n post n 0 [some (.ref 133), some (.int (nI v1))] [] X := by
  refine ev_iload_n dX12_isLetter_0 rfl ?_
  refine ev_aload_n dX12_isLetter_1 rfl ?_
  refine ev_getI dX12_isLetter_2 fo_12_121 (by omega) lo_133 rfl ?_
  refine ev_icmpF (tgt := 28) dX12_isLetter_5 (by decide) c0 ?_
  refine ev_aload_n dX12_isLetter_8 rfl ?_
  refine ev_getS (q := 136) dX12_isLetter_9 fo_12_16 (by omega) lo_133 rfl (sh_133_3 hX (by omega)) (by decide) ?_
  refine ev_iload_n dX12_isLetter_12 rfl ?_
  refine ev_iald dX12_isLetter_13 (by omega) ly_136 rfl b0 ?_
  refine ev_bipush (v := 97) dX12_isLetter_14 kb_97 ?_
  refine ev_bipush (v := 122) dX12_isLetter_16 kb_122 ?_
  refine e_Si (as := [.int (X 136 v1), .int 97, .int 122]) (rest := []) dX12_isLetter_18 vX12_within ml_12_52 stX12_within npX12_within (by decide) rfl (Nat.le_of_ble_eq_true rfl) (by omega) (t_X12_within (d := d - 1) (by omega) (by omega) hX c1) ?_
  refine ev_ifF (tgt := 28) dX12_isLetter_21 (by decide) (by show ¬ (1 : Int32) = 0; decide) ?_
  refine ev_iconst (v := 1) dX12_isLetter_24 ki_1 ?_
  refine ev_goto (tgt := 29) dX12_isLetter_25 (by decide) ?_
  exact ev_iret dX12_isLetter_29 rfl (by decide) hp
theorem bX12_isLetter_0_1 {g : GG} {d n : Nat} {post : Option Value → LX → Prop} {X : LX} (hd : 1 ≤ d) (hn : 146 ≤ n) (hX : Sh n X) {v1 : Nat} (c0 : ¬ X 133 4 ≤ nI v1) (b0 : v1 < 120) (c1 : ¬ (97 ≤ (X 136 v1) ∧ (X 136 v1) ≤ 122)) (hp : post (some (.int 0)) X) : Ev g mX12_isLetter d n n post n 0 [some (.ref 133), some (.int (nI v1))] [] X := by
  refine ev_iload_n dX12_isLetter_0 rfl ?_
  refine ev_aload_n dX12_isLetter_1 rfl ?_
  refine ev_getI dX12_isLetter_2 fo_12_121 (by omega) lo_133 rfl ?_
  refine ev_icmpF (tgt := 28) dX12_isLetter_5 (by decide) c0 ?_
  refine ev_aload_n dX12_isLetter_8 rfl ?_
  refine ev_getS (q := 136) dX12_isLetter_9 fo_12_16 (by omega) lo_133 rfl (sh_133_3 hX (by omega)) (by decide) ?_
  refine ev_iload_n dX12_isLetter_12 rfl ?_
  refine ev_iald dX12_isLetter_13 (by omega) ly_136 rfl b0 ?_
  refine ev_bipush (v := 97) dX12_isLetter_14 kb_97 ?_
  refine ev_bipush (v := 122) dX12_isLetter_16 kb_122 ?_
  refine e_Si (as := [.int (X 136 v1), .int 97, .int 122]) (rest := []) dX12_isLetter_18 vX12_within ml_12_52 stX12_within npX12_within (by decide) rfl (Nat.le_of_ble_eq_true rfl) (by omega) (f_X12_within (d := d - 1) (by omega) (by omega) hX c1) ?_
  refine ev_ifT (tgt := 28) dX12_isLetter_21 (by decide) (by show (0 : Int32) = 0; decide) ?_
  refine ev_iconst (v := 0) dX12_isLetter_28 ki_0 ?_
  exact ev_iret dX12_isLetter_29 rfl (by decide) hp
theorem bX12_isLetter_0_2 {g : GG} {d n : Nat} {post : Option Value → LX → Prop} {X : LX} (hn : 146 ≤ n) (hX : Sh n X) {v1 : Int32} (c0 : X 133 4 ≤ v1) (hp : post (some (.int 0)) X) : Ev g mX12_isLetter d n n post n 0 [some (.ref 133), some (.int v1)] [] X := by
  refine ev_iload_n dX12_isLetter_0 rfl ?_
  refine ev_aload_n dX12_isLetter_1 rfl ?_
  refine ev_getI dX12_isLetter_2 fo_12_121 (by omega) lo_133 rfl ?_
  refine ev_icmpT (tgt := 28) dX12_isLetter_5 (by decide) c0 ?_
  refine ev_iconst (v := 0) dX12_isLetter_28 ki_0 ?_
  exact ev_iret dX12_isLetter_29 rfl (by decide) hp
theorem bX12_isDigit_0_0 {g : GG} {d n : Nat} {post : Option Value → LX → Prop} {X : LX} (hd : 1 ≤ d) (hn : 146 ≤ n) (hX : Sh n X) {v1 : Nat} (c0 : ¬ X 133 4 ≤ nI v1) (b0 : v1 < 120) (c1 : 48 ≤ (X 136 v1) ∧ (X 136 v1) ≤ 57) (hp : post (some (.int 1)) X) : Ev g mX12_isDigit d n n post n 0 [some (.ref 133), some (.int (nI v1))] [] X := by
  refine ev_iload_n dX12_isDigit_0 rfl ?_
  refine ev_aload_n dX12_isDigit_1 rfl ?_
  refine ev_getI dX12_isDigit_2 fo_12_121 (by omega) lo_133 rfl ?_
  refine ev_icmpF (tgt := 28) dX12_isDigit_5 (by decide) c0 ?_
  refine ev_aload_n dX12_isDigit_8 rfl ?_
  refine ev_getS (q := 136) dX12_isDigit_9 fo_12_16 (by omega) lo_133 rfl (sh_133_3 hX (by omega)) (by decide) ?_
  refine ev_iload_n dX12_isDigit_12 rfl ?_
  refine ev_iald dX12_isDigit_13 (by omega) ly_136 rfl b0 ?_
  refine ev_bipush (v := 48) dX12_isDigit_14 kb_48 ?_
  refine ev_bipush (v := 57) dX12_isDigit_16 kb_57 ?_
  refine e_Si (as := [.int (X 136 v1), .int 48, .int 57]) (rest := []) dX12_isDigit_18 vX12_within ml_12_52 stX12_within npX12_within (by decide) rfl (Nat.le_of_ble_eq_true rfl) (by omega) (t_X12_within (d := d - 1) (by omega) (by omega) hX c1) ?_
  refine ev_ifF (tgt := 28) dX12_isDigit_21 (by decide) (by show ¬ (1 : Int32) = 0; decide) ?_
  refine ev_iconst (v := 1) dX12_isDigit_24 ki_1 ?_
  refine ev_goto (tgt := 29) dX12_isDigit_25 (by decide) ?_
  exact ev_iret dX12_isDigit_29 rfl (by decide) hp
theorem bX12_isDigit_0_1 {g : GG} {d n : Nat} {post : Option Value → LX → Prop} {X : LX} (hd : 1 ≤ d) (hn : 146 ≤ n) (hX : Sh n X) {v1 : Nat} (c0 : ¬ X 133 4 ≤ nI v1) (b0 : v1 < 120) (c1 : ¬ (48 ≤ (X 136 v1) ∧ (X 136 v1) ≤ 57)) (hp : post (some (.int 0)) X) : Ev g mX12_isDigit d n n post n 0 [some (.ref 133), some (.int (nI v1))] [] X := by
  refine ev_iload_n dX12_isDigit_0 rfl ?_
  refine ev_aload_n dX12_isDigit_1 rfl ?_
  refine ev_getI dX12_isDigit_2 fo_12_121 (by omega) lo_133 rfl ?_
  refine ev_icmpF (tgt := 28) dX12_isDigit_5 (by decide) c0 ?_
  refine ev_aload_n dX12_isDigit_8 rfl ?_
  refine ev_getS (q := 136) dX12_isDigit_9 fo_12_16 (by omega) lo_133 rfl (sh_133_3 hX (by omega)) (by decide) ?_
  refine ev_iload_n dX12_isDigit_12 rfl ?_
  refine ev_iald dX12_isDigit_13 (by omega) ly_136 rfl b0 ?_
  refine ev_bipush (v := 48) dX12_isDigit_14 kb_48 ?_
  refine ev_bipush (v := 57) dX12_isDigit_16 kb_57 ?_
  refine e_Si (as := [.int (X 136 v1), .int 48, .int 57]) (rest := []) dX12_isDigit_18 vX12_within ml_12_52 stX12_within npX12_within (by decide) rfl (Nat.le_of_ble_eq_true rfl) (by omega) (f_X12_within (d := d - 1) (by omega) (by omega) hX c1) ?_
  refine ev_ifT (tgt := 28) dX12_isDigit_21 (by decide) (by show (0 : Int32) = 0; decide) ?_
  refine ev_iconst (v := 0) dX12_isDigit_28 ki_0 ?_
  exact ev_iret dX12_isDigit_29 rfl (by decide) hp
theorem bX12_isDigit_0_2 {g : GG} {d n : Nat} {post : Option Value → LX → Prop} {X : LX} (hn : 146 ≤ n) (hX : Sh n X) {v1 : Int32} (c0 : X 133 4 ≤ v1) (hp : post (some (.int 0)) X) : Ev g mX12_isDigit d n n post n 0 [some (.ref 133), some (.int v1)] [] X := by
  refine ev_iload_n dX12_isDigit_0 rfl ?_
  refine ev_aload_n dX12_isDigit_1 rfl ?_
  refine ev_getI dX12_isDigit_2 fo_12_121 (by omega) lo_133 rfl ?_
  refine ev_icmpT (tgt := 28) dX12_isDigit_5 (by decide) c0 ?_
  refine ev_iconst (v := 0) dX12_isDigit_28 ki_0 ?_
  exact ev_iret dX12_isDigit_29 rfl (by decide) hp
