/-! THE CONSTRUCTORS, each at the places of its cells. -/
theorem oi_1 : Cond.instanceMethod Lib.objectInit ∈ GT := gt_at 100 (by decide +kernel) rfl
theorem oi_2 : Cond.code Lib.objectInit ⟨#[0xb1]⟩ 1 none ∈ GT := gt_at 101 (by decide +kernel) rfl
theorem ac_i : Cond.arrayClass .int ∈ GT := gt_at 158 (by decide +kernel) rfl
theorem df_0 : ∀ j, j < 8 → defaultValue (tyX0 j) = fL 0 j 0 := by decide +kernel
theorem wi_0 : Cond.instantiable RX0 8 ∈ GT := gt_at 189 (by decide +kernel) rfl
theorem wz_0 : Cond.initialized RX0 ∈ GT := gt_at 77 (by decide +kernel) rfl
theorem df_1 : ∀ j, j < 9 → defaultValue (tyX1 j) = fL 1 j 0 := by decide +kernel
theorem wi_1 : Cond.instantiable RX1 9 ∈ GT := gt_at 103 (by decide +kernel) rfl
theorem wz_1 : Cond.initialized RX1 ∈ GT := gt_at 73 (by decide +kernel) rfl
theorem df_2 : ∀ j, j < 6 → defaultValue (tyX2 j) = fL 2 j 0 := by decide +kernel
theorem wi_2 : Cond.instantiable RX2 6 ∈ GT := gt_at 285 (by decide +kernel) rfl
theorem wz_2 : Cond.initialized RX2 ∈ GT := gt_at 79 (by decide +kernel) rfl
theorem df_3 : ∀ j, j < 11 → defaultValue (tyX3 j) = fL 3 j 0 := by decide +kernel
theorem wi_3 : Cond.instantiable RX3 11 ∈ GT := gt_at 356 (by decide +kernel) rfl
theorem wz_3 : Cond.initialized RX3 ∈ GT := gt_at 80 (by decide +kernel) rfl
theorem df_4 : ∀ j, j < 8 → defaultValue (tyX4 j) = fL 4 j 0 := by decide +kernel
theorem wi_4 : Cond.instantiable RX4 8 ∈ GT := gt_at 243 (by decide +kernel) rfl
theorem wz_4 : Cond.initialized RX4 ∈ GT := gt_at 78 (by decide +kernel) rfl
theorem df_5 : ∀ j, j < 4 → defaultValue (tyX5 j) = fL 5 j 0 := by decide +kernel
theorem wi_5 : Cond.instantiable RX5 4 ∈ GT := gt_at 160 (by decide +kernel) rfl
theorem wz_5 : Cond.initialized RX5 ∈ GT := gt_at 76 (by decide +kernel) rfl
theorem df_6 : ∀ j, j < 9 → defaultValue (tyX6 j) = fL 6 j 0 := by decide +kernel
theorem wi_6 : Cond.instantiable RX6 9 ∈ GT := gt_at 402 (by decide +kernel) rfl
theorem wz_6 : Cond.initialized RX6 ∈ GT := gt_at 81 (by decide +kernel) rfl
theorem df_7 : ∀ j, j < 7 → defaultValue (tyX7 j) = fL 7 j 0 := by decide +kernel
theorem wi_7 : Cond.instantiable RX7 7 ∈ GT := gt_at 109 (by decide +kernel) rfl
theorem wz_7 : Cond.initialized RX7 ∈ GT := gt_at 74 (by decide +kernel) rfl
theorem df_8 : ∀ j, j < 19 → defaultValue (tyX8 j) = fL 8 j 0 := by decide +kernel
theorem wi_8 : Cond.instantiable RX8 19 ∈ GT := gt_at 437 (by decide +kernel) rfl
theorem wz_8 : Cond.initialized RX8 ∈ GT := gt_at 82 (by decide +kernel) rfl
theorem df_9 : ∀ j, j < 2 → defaultValue (tyX9 j) = fL 9 j 0 := by decide +kernel
theorem wi_9 : Cond.instantiable RX9 2 ∈ GT := gt_at 529 (by decide +kernel) rfl
theorem wz_9 : Cond.initialized RX9 ∈ GT := gt_at 84 (by decide +kernel) rfl
theorem df_10 : ∀ j, j < 5 → defaultValue (tyX10 j) = fL 10 j 0 := by decide +kernel
theorem wi_10 : Cond.instantiable RX10 5 ∈ GT := gt_at 504 (by decide +kernel) rfl
theorem wz_10 : Cond.initialized RX10 ∈ GT := gt_at 83 (by decide +kernel) rfl
theorem df_11 : ∀ j, j < 9 → defaultValue (tyX11 j) = fL 11 j 0 := by decide +kernel
theorem wi_11 : Cond.instantiable RX11 9 ∈ GT := gt_at 95 (by decide +kernel) rfl
theorem wz_11 : Cond.initialized RX11 ∈ GT := gt_at 72 (by decide +kernel) rfl
theorem df_12 : ∀ j, j < 31 → defaultValue (tyX12 j) = fL 12 j 0 := by decide +kernel
theorem wi_12 : Cond.instantiable RX12 31 ∈ GT := gt_at 1242 (by decide +kernel) rfl
theorem wz_12 : Cond.initialized RX12 ∈ GT := gt_at 85 (by decide +kernel) rfl
theorem zJ7_fill_53178_0_0 {g : GG} {d n : Nat} {post : Option Value → LX → Prop} {X : LX} {r0 lr0 : Nat} {v1 : Int32} (hrr0 : r0 < n) (hlr0 : LY r0 = (0, lr0)) (k : Ev g mJ7_fill_53178 d n n post n 5 [some (.ref r0), some (.int v1), some (.int 0), some (.int (nI lr0))] [] X) : Ev g mJ7_fill_53178 d n n post n 0 [some (.ref r0), some (.int v1), none, none] [] X := by
  refine ev_iconst (v := 0) dJ7_fill_53178_0 ki_0 ?_
  refine ev_istore_n dJ7_fill_53178_1 (by decide) ?_
  refine ev_aload_n dJ7_fill_53178_2 rfl ?_
  refine ev_alen dJ7_fill_53178_3 hrr0 hlr0 (by decide) ?_
  refine ev_istore_n dJ7_fill_53178_4 (by decide) ?_
  exact k
theorem zJ7_fill_53178_5_0 {g : GG} {d n : Nat} {post : Option Value → LX → Prop} {X : LX} {r0 lr0 : Nat} {v1 : Int32} {v2 : Nat} {v3 : Int32} (hrr0 : r0 < n) (hlr0 : LY r0 = (0, lr0)) (c0 : ¬ v3 ≤ nI v2) (b0 : v2 < lr0) (k : Ev g mJ7_fill_53178 d n n post n 5 [some (.ref r0), some (.int v1), some (.int ((nI v2) + 1)), some (.int v3)] [] (lx_up X r0 v2 v1)) : Ev g mJ7_fill_53178 d n n post n 5 [some (.ref r0), some (.int v1), some (.int (nI v2)), some (.int v3)] [] X := by
  refine ev_iload_n dJ7_fill_53178_5 rfl ?_
  refine ev_iload_n dJ7_fill_53178_6 rfl ?_
  refine ev_icmpF (tgt := 20) dJ7_fill_53178_7 (by decide) c0 ?_
  refine ev_aload_n dJ7_fill_53178_10 rfl ?_
  refine ev_iload_n dJ7_fill_53178_11 rfl ?_
  refine ev_iload_n dJ7_fill_53178_12 rfl ?_
  refine ev_iast dJ7_fill_53178_13 hrr0 hlr0 rfl b0 ?_
  refine ev_iinc (v := (nI v2) + 1) dJ7_fill_53178_14 rfl (by rw [show Int32.ofInt 1 = 1 from ki_1]) (by decide) ?_
  refine ev_goto (tgt := 5) dJ7_fill_53178_17 (by decide) ?_
  exact k
theorem zJ7_fill_53178_5_1 {g : GG} {d n : Nat} {post : Option Value → LX → Prop} {X : LX} {r0 lr0 : Nat} {v1 : Int32} {v2 : Int32} {v3 : Int32} (hrr0 : r0 < n) (hlr0 : LY r0 = (0, lr0)) (c0 : v3 ≤ v2) (hp : post none X) : Ev g mJ7_fill_53178 d n n post n 5 [some (.ref r0), some (.int v1), some (.int v2), some (.int v3)] [] X := by
  refine ev_iload_n dJ7_fill_53178_5 rfl ?_
  refine ev_iload_n dJ7_fill_53178_6 rfl ?_
  refine ev_icmpT (tgt := 20) dJ7_fill_53178_7 (by decide) c0 ?_
  exact ev_ret dJ7_fill_53178_20 rfl hp
theorem z_fill {g : GG} {d n r len : Nat} {v : Int32} {X : LX} (hr : r < n) (hly : LY r = (0, len)) (h0 : X r = fun _ => 0) : Ex g mJ7_fill_53178 d n n [.ref r, .int v] X (rv (lx_row X r (fillTo (fun _ => 0) v len))) := by
  have hl := LY_l hly
  rw [← h0]
  refine e_of vJ7_fill_53178 (Nat.le_of_ble_eq_true rfl) (cat_of rfl) (zJ7_fill_53178_0_0 hr hly ?_)
  have loop : ∀ i, i ≤ len → Ev g mJ7_fill_53178 d n n (rv (lx_row X r (fillTo (X r) v len))) n 5 [some (.ref r), some (.int v), some (.int (nI i)), some (.int (nI len))] [] (lx_row X r (fillTo (X r) v i)) := by
    refine down ?_ ?_
    · exact zJ7_fill_53178_5_1 hr hly (nI_le (Nat.le_refl _) (by omega)) ⟨rfl, rfl⟩
    · intro i hi k
      rw [show nI (i + 1) = nI i + 1 from (nI_1 i).symm, ← fillTo_s, ← lx_row_up] at k
      exact zJ7_fill_53178_5_0 hr hly (nI_ge hi (by omega)) hi k
  have h1 := loop 0 (by omega)
  rw [fillTo_0, lx_row_id] at h1
  exact h1
def y_X7_init_2 (X : LX) : LX := (lx_row (lx_row (lx_row (lx_row (lx_row (lx_row (lx_row (lx_row (lx_row (lx_row (lx_row (lx_row (lx_row (lx_row (lx_up (lx_grid (lx_up (lx_row (lx_up (lx_row (lx_up (lx_row (lx_up (lx_row (lx_up (lx_row X 3 (fun _ => 0)) 2 1 (rE 3)) 4 (fun _ => 0)) 2 2 (rE 4)) 5 (fun _ => 0)) 2 3 (rE 5)) 6 (fun _ => 0)) 2 4 (rE 6)) 7 (fun _ => 0)) 2 5 (rE 7)) 8 14) 2 6 (rE 8)) 9 (fillTo (fun _ => 0) 50 14)) 10 (fillTo (fun _ => 0) 50 14)) 11 (fillTo (fun _ => 0) 50 14)) 12 (fillTo (fun _ => 0) 50 14)) 13 (fillTo (fun _ => 0) 50 14)) 14 (fillTo (fun _ => 0) 50 14)) 15 (fillTo (fun _ => 0) 50 14)) 16 (fillTo (fun _ => 0) 50 14)) 17 (fillTo (fun _ => 0) 50 14)) 18 (fillTo (fun _ => 0) 50 14)) 19 (fillTo (fun _ => 0) 50 14)) 20 (fillTo (fun _ => 0) 50 14)) 21 (fillTo (fun _ => 0) 50 14)) 22 (fillTo (fun _ => 0) 50 14))
set_option maxHeartbeats 4000000 in
theorem c_X7_init_2 {g : GG} {X : LX} : Ex g mX7_init 1 3 23 [.ref 2] X (rv (y_X7_init_2 X)) := by
  refine ex_of vX7_init (Nat.le_of_ble_eq_true rfl) (cat_of rfl) ?_
  refine ev_aload_n dX7_init_0 rfl ?_
  refine ev_objInit dX7_init_1 (gt_at 113 (by decide +kernel) rfl) oi_1 oi_2 (by decide +kernel) (by decide +kernel) (by decide) ?_
  refine ev_aload_n dX7_init_4 rfl ?_
  refine ev_bipush (v := 14) dX7_init_5 (by decide +kernel) ?_
  refine ev_newi (N := 14) dX7_init_7 (by decide +kernel) (by decide) (by decide +kernel) (by decide) ac_i (by decide +kernel) (by decide +kernel) ?_
  refine ev_putR dX7_init_9 fo_7_9 (by decide) (by decide +kernel) (by decide) (Or.inr ⟨_, rfl⟩) (by first | exact Or.inl rfl | exact Or.inr ⟨rfl, rfl⟩) (by decide) ?_
  refine ev_aload_n dX7_init_12 rfl ?_
  refine ev_bipush (v := 14) dX7_init_13 (by decide +kernel) ?_
  refine ev_newi (N := 14) dX7_init_15 (by decide +kernel) (by decide) (by decide +kernel) (by decide) ac_i (by decide +kernel) (by decide +kernel) ?_
  refine ev_putR dX7_init_17 fo_7_15 (by decide) (by decide +kernel) (by decide) (Or.inr ⟨_, rfl⟩) (by first | exact Or.inl rfl | exact Or.inr ⟨rfl, rfl⟩) (by decide) ?_
  refine ev_aload_n dX7_init_20 rfl ?_
  refine ev_bipush (v := 14) dX7_init_21 (by decide +kernel) ?_
  refine ev_newi (N := 14) dX7_init_23 (by decide +kernel) (by decide) (by decide +kernel) (by decide) ac_i (by decide +kernel) (by decide +kernel) ?_
  refine ev_putR dX7_init_25 fo_7_18 (by decide) (by decide +kernel) (by decide) (Or.inr ⟨_, rfl⟩) (by first | exact Or.inl rfl | exact Or.inr ⟨rfl, rfl⟩) (by decide) ?_
  refine ev_aload_n dX7_init_28 rfl ?_
  refine ev_bipush (v := 14) dX7_init_29 (by decide +kernel) ?_
  refine ev_newi (N := 14) dX7_init_31 (by decide +kernel) (by decide) (by decide +kernel) (by decide) ac_i (by decide +kernel) (by decide +kernel) ?_
  refine ev_putR dX7_init_33 fo_7_21 (by decide) (by decide +kernel) (by decide) (Or.inr ⟨_, rfl⟩) (by first | exact Or.inl rfl | exact Or.inr ⟨rfl, rfl⟩) (by decide) ?_
  refine ev_aload_n dX7_init_36 rfl ?_
  refine ev_bipush (v := 14) dX7_init_37 (by decide +kernel) ?_
  refine ev_newi (N := 14) dX7_init_39 (by decide +kernel) (by decide) (by decide +kernel) (by decide) ac_i (by decide +kernel) (by decide +kernel) ?_
  refine ev_putR dX7_init_41 fo_7_24 (by decide) (by decide +kernel) (by decide) (Or.inr ⟨_, rfl⟩) (by first | exact Or.inl rfl | exact Or.inr ⟨rfl, rfl⟩) (by decide) ?_
  refine ev_aload_n dX7_init_44 rfl ?_
  refine ev_bipush (v := 14) dX7_init_45 (by decide +kernel) ?_
  refine ev_bipush (v := 14) dX7_init_47 (by decide +kernel) ?_
  refine ev_grid (N := 14) (K := 14) (t0 := 0) dX7_init_49 (by decide +kernel) (by decide +kernel) (by decide) (by decide) (Or.inl ⟨rfl, rfl, rfl⟩) (by decide +kernel) (by decide +kernel) (by decide) (gt_at 114 (by decide +kernel) rfl) (by decide +kernel) (by decide +kernel) (by decide +kernel) ?_
  refine ev_putR dX7_init_53 fo_7_29 (by decide) (by decide +kernel) (by decide) (Or.inr ⟨_, rfl⟩) (by first | exact Or.inl rfl | exact Or.inr ⟨rfl, rfl⟩) (by decide) ?_
  refine ev_iconst (v := 0) dX7_init_56 (by decide +kernel) ?_
  refine ev_istore_n dX7_init_57 (by decide) ?_
  refine ev_iload_n dX7_init_58 rfl ?_
  refine ev_bipush (v := 14) dX7_init_59 (by decide +kernel) ?_
  refine ev_icmpF (tgt := 81) dX7_init_61 (by decide) (show ¬ (14 : Int32) ≤ 0 by decide +kernel) ?_
  refine ev_aload_n dX7_init_64 rfl ?_
  refine ev_getS (q := 8) dX7_init_65 fo_7_29 (by decide) (by decide +kernel) (by decide) (by rfl) (by decide) ?_
  refine ev_iload_n dX7_init_68 rfl ?_
  refine ev_aald (len := 14) (j := 0) (q := 9) dX7_init_69 (by decide) (Or.inl (by decide +kernel)) (by decide +kernel) (by decide) (by rfl) (by decide) ?_
  refine ev_bipush (v := 50) dX7_init_70 (by decide +kernel) ?_
  refine ev_callS (d' := 0) (n1 := 23) (as := [.ref 9, .int 50]) (rest := []) dX7_init_72 vJ7_fill_53178 ml_7_32 stJ7_fill_53178 npJ7_fill_53178 (by decide +kernel) (by decide +kernel) (Nat.le_of_ble_eq_true rfl) rfl (by decide) (Nat.le_refl _) (by decide +kernel) (by decide +kernel) (z_fill (len := 14) (by decide) (by decide +kernel) (by rfl)) ?_
  rintro v Y ⟨rfl, rfl⟩
  refine ev_iinc (v := 1) dX7_init_75 rfl (by decide +kernel) (by decide) ?_
  refine ev_goto (tgt := 58) dX7_init_78 (by decide) ?_
  refine ev_iload_n dX7_init_58 rfl ?_
  refine ev_bipush (v := 14) dX7_init_59 (by decide +kernel) ?_
  refine ev_icmpF (tgt := 81) dX7_init_61 (by decide) (show ¬ (14 : Int32) ≤ 1 by decide +kernel) ?_
  refine ev_aload_n dX7_init_64 rfl ?_
  refine ev_getS (q := 8) dX7_init_65 fo_7_29 (by decide) (by decide +kernel) (by decide) (by rfl) (by decide) ?_
  refine ev_iload_n dX7_init_68 rfl ?_
  refine ev_aald (len := 14) (j := 1) (q := 10) dX7_init_69 (by decide) (Or.inl (by decide +kernel)) (by decide +kernel) (by decide) (by rfl) (by decide) ?_
  refine ev_bipush (v := 50) dX7_init_70 (by decide +kernel) ?_
  refine ev_callS (d' := 0) (n1 := 23) (as := [.ref 10, .int 50]) (rest := []) dX7_init_72 vJ7_fill_53178 ml_7_32 stJ7_fill_53178 npJ7_fill_53178 (by decide +kernel) (by decide +kernel) (Nat.le_of_ble_eq_true rfl) rfl (by decide) (Nat.le_refl _) (by decide +kernel) (by decide +kernel) (z_fill (len := 14) (by decide) (by decide +kernel) (by rfl)) ?_
  rintro v Y ⟨rfl, rfl⟩
  refine ev_iinc (v := 2) dX7_init_75 rfl (by decide +kernel) (by decide) ?_
  refine ev_goto (tgt := 58) dX7_init_78 (by decide) ?_
  refine ev_iload_n dX7_init_58 rfl ?_
  refine ev_bipush (v := 14) dX7_init_59 (by decide +kernel) ?_
  refine ev_icmpF (tgt := 81) dX7_init_61 (by decide) (show ¬ (14 : Int32) ≤ 2 by decide +kernel) ?_
  refine ev_aload_n dX7_init_64 rfl ?_
  refine ev_getS (q := 8) dX7_init_65 fo_7_29 (by decide) (by decide +kernel) (by decide) (by rfl) (by decide) ?_
  refine ev_iload_n dX7_init_68 rfl ?_
  refine ev_aald (len := 14) (j := 2) (q := 11) dX7_init_69 (by decide) (Or.inl (by decide +kernel)) (by decide +kernel) (by decide) (by rfl) (by decide) ?_
  refine ev_bipush (v := 50) dX7_init_70 (by decide +kernel) ?_
  refine ev_callS (d' := 0) (n1 := 23) (as := [.ref 11, .int 50]) (rest := []) dX7_init_72 vJ7_fill_53178 ml_7_32 stJ7_fill_53178 npJ7_fill_53178 (by decide +kernel) (by decide +kernel) (Nat.le_of_ble_eq_true rfl) rfl (by decide) (Nat.le_refl _) (by decide +kernel) (by decide +kernel) (z_fill (len := 14) (by decide) (by decide +kernel) (by rfl)) ?_
  rintro v Y ⟨rfl, rfl⟩
  refine ev_iinc (v := 3) dX7_init_75 rfl (by decide +kernel) (by decide) ?_
  refine ev_goto (tgt := 58) dX7_init_78 (by decide) ?_
  refine ev_iload_n dX7_init_58 rfl ?_
  refine ev_bipush (v := 14) dX7_init_59 (by decide +kernel) ?_
  refine ev_icmpF (tgt := 81) dX7_init_61 (by decide) (show ¬ (14 : Int32) ≤ 3 by decide +kernel) ?_
  refine ev_aload_n dX7_init_64 rfl ?_
  refine ev_getS (q := 8) dX7_init_65 fo_7_29 (by decide) (by decide +kernel) (by decide) (by rfl) (by decide) ?_
  refine ev_iload_n dX7_init_68 rfl ?_
  refine ev_aald (len := 14) (j := 3) (q := 12) dX7_init_69 (by decide) (Or.inl (by decide +kernel)) (by decide +kernel) (by decide) (by rfl) (by decide) ?_
  refine ev_bipush (v := 50) dX7_init_70 (by decide +kernel) ?_
  refine ev_callS (d' := 0) (n1 := 23) (as := [.ref 12, .int 50]) (rest := []) dX7_init_72 vJ7_fill_53178 ml_7_32 stJ7_fill_53178 npJ7_fill_53178 (by decide +kernel) (by decide +kernel) (Nat.le_of_ble_eq_true rfl) rfl (by decide) (Nat.le_refl _) (by decide +kernel) (by decide +kernel) (z_fill (len := 14) (by decide) (by decide +kernel) (by rfl)) ?_
  rintro v Y ⟨rfl, rfl⟩
  refine ev_iinc (v := 4) dX7_init_75 rfl (by decide +kernel) (by decide) ?_
  refine ev_goto (tgt := 58) dX7_init_78 (by decide) ?_
  refine ev_iload_n dX7_init_58 rfl ?_
  refine ev_bipush (v := 14) dX7_init_59 (by decide +kernel) ?_
  refine ev_icmpF (tgt := 81) dX7_init_61 (by decide) (show ¬ (14 : Int32) ≤ 4 by decide +kernel) ?_
  refine ev_aload_n dX7_init_64 rfl ?_
  refine ev_getS (q := 8) dX7_init_65 fo_7_29 (by decide) (by decide +kernel) (by decide) (by rfl) (by decide) ?_
  refine ev_iload_n dX7_init_68 rfl ?_
  refine ev_aald (len := 14) (j := 4) (q := 13) dX7_init_69 (by decide) (Or.inl (by decide +kernel)) (by decide +kernel) (by decide) (by rfl) (by decide) ?_
  refine ev_bipush (v := 50) dX7_init_70 (by decide +kernel) ?_
  refine ev_callS (d' := 0) (n1 := 23) (as := [.ref 13, .int 50]) (rest := []) dX7_init_72 vJ7_fill_53178 ml_7_32 stJ7_fill_53178 npJ7_fill_53178 (by decide +kernel) (by decide +kernel) (Nat.le_of_ble_eq_true rfl) rfl (by decide) (Nat.le_refl _) (by decide +kernel) (by decide +kernel) (z_fill (len := 14) (by decide) (by decide +kernel) (by rfl)) ?_
  rintro v Y ⟨rfl, rfl⟩
  refine ev_iinc (v := 5) dX7_init_75 rfl (by decide +kernel) (by decide) ?_
  refine ev_goto (tgt := 58) dX7_init_78 (by decide) ?_
  refine ev_iload_n dX7_init_58 rfl ?_
  refine ev_bipush (v := 14) dX7_init_59 (by decide +kernel) ?_
  refine ev_icmpF (tgt := 81) dX7_init_61 (by decide) (show ¬ (14 : Int32) ≤ 5 by decide +kernel) ?_
  refine ev_aload_n dX7_init_64 rfl ?_
  refine ev_getS (q := 8) dX7_init_65 fo_7_29 (by decide) (by decide +kernel) (by decide) (by rfl) (by decide) ?_
  refine ev_iload_n dX7_init_68 rfl ?_
  refine ev_aald (len := 14) (j := 5) (q := 14) dX7_init_69 (by decide) (Or.inl (by decide +kernel)) (by decide +kernel) (by decide) (by rfl) (by decide) ?_
  refine ev_bipush (v := 50) dX7_init_70 (by decide +kernel) ?_
  refine ev_callS (d' := 0) (n1 := 23) (as := [.ref 14, .int 50]) (rest := []) dX7_init_72 vJ7_fill_53178 ml_7_32 stJ7_fill_53178 npJ7_fill_53178 (by decide +kernel) (by decide +kernel) (Nat.le_of_ble_eq_true rfl) rfl (by decide) (Nat.le_refl _) (by decide +kernel) (by decide +kernel) (z_fill (len := 14) (by decide) (by decide +kernel) (by rfl)) ?_
  rintro v Y ⟨rfl, rfl⟩
  refine ev_iinc (v := 6) dX7_init_75 rfl (by decide +kernel) (by decide) ?_
  refine ev_goto (tgt := 58) dX7_init_78 (by decide) ?_
  refine ev_iload_n dX7_init_58 rfl ?_
  refine ev_bipush (v := 14) dX7_init_59 (by decide +kernel) ?_
  refine ev_icmpF (tgt := 81) dX7_init_61 (by decide) (show ¬ (14 : Int32) ≤ 6 by decide +kernel) ?_
  refine ev_aload_n dX7_init_64 rfl ?_
  refine ev_getS (q := 8) dX7_init_65 fo_7_29 (by decide) (by decide +kernel) (by decide) (by rfl) (by decide) ?_
  refine ev_iload_n dX7_init_68 rfl ?_
  refine ev_aald (len := 14) (j := 6) (q := 15) dX7_init_69 (by decide) (Or.inl (by decide +kernel)) (by decide +kernel) (by decide) (by rfl) (by decide) ?_
  refine ev_bipush (v := 50) dX7_init_70 (by decide +kernel) ?_
  refine ev_callS (d' := 0) (n1 := 23) (as := [.ref 15, .int 50]) (rest := []) dX7_init_72 vJ7_fill_53178 ml_7_32 stJ7_fill_53178 npJ7_fill_53178 (by decide +kernel) (by decide +kernel) (Nat.le_of_ble_eq_true rfl) rfl (by decide) (Nat.le_refl _) (by decide +kernel) (by decide +kernel) (z_fill (len := 14) (by decide) (by decide +kernel) (by rfl)) ?_
  rintro v Y ⟨rfl, rfl⟩
  refine ev_iinc (v := 7) dX7_init_75 rfl (by decide +kernel) (by decide) ?_
  refine ev_goto (tgt := 58) dX7_init_78 (by decide) ?_
  refine ev_iload_n dX7_init_58 rfl ?_
  refine ev_bipush (v := 14) dX7_init_59 (by decide +kernel) ?_
  refine ev_icmpF (tgt := 81) dX7_init_61 (by decide) (show ¬ (14 : Int32) ≤ 7 by decide +kernel) ?_
  refine ev_aload_n dX7_init_64 rfl ?_
  refine ev_getS (q := 8) dX7_init_65 fo_7_29 (by decide) (by decide +kernel) (by decide) (by rfl) (by decide) ?_
  refine ev_iload_n dX7_init_68 rfl ?_
  refine ev_aald (len := 14) (j := 7) (q := 16) dX7_init_69 (by decide) (Or.inl (by decide +kernel)) (by decide +kernel) (by decide) (by rfl) (by decide) ?_
  refine ev_bipush (v := 50) dX7_init_70 (by decide +kernel) ?_
  refine ev_callS (d' := 0) (n1 := 23) (as := [.ref 16, .int 50]) (rest := []) dX7_init_72 vJ7_fill_53178 ml_7_32 stJ7_fill_53178 npJ7_fill_53178 (by decide +kernel) (by decide +kernel) (Nat.le_of_ble_eq_true rfl) rfl (by decide) (Nat.le_refl _) (by decide +kernel) (by decide +kernel) (z_fill (len := 14) (by decide) (by decide +kernel) (by rfl)) ?_
  rintro v Y ⟨rfl, rfl⟩
  refine ev_iinc (v := 8) dX7_init_75 rfl (by decide +kernel) (by decide) ?_
  refine ev_goto (tgt := 58) dX7_init_78 (by decide) ?_
  refine ev_iload_n dX7_init_58 rfl ?_
  refine ev_bipush (v := 14) dX7_init_59 (by decide +kernel) ?_
  refine ev_icmpF (tgt := 81) dX7_init_61 (by decide) (show ¬ (14 : Int32) ≤ 8 by decide +kernel) ?_
  refine ev_aload_n dX7_init_64 rfl ?_
  refine ev_getS (q := 8) dX7_init_65 fo_7_29 (by decide) (by decide +kernel) (by decide) (by rfl) (by decide) ?_
  refine ev_iload_n dX7_init_68 rfl ?_
  refine ev_aald (len := 14) (j := 8) (q := 17) dX7_init_69 (by decide) (Or.inl (by decide +kernel)) (by decide +kernel) (by decide) (by rfl) (by decide) ?_
  refine ev_bipush (v := 50) dX7_init_70 (by decide +kernel) ?_
  refine ev_callS (d' := 0) (n1 := 23) (as := [.ref 17, .int 50]) (rest := []) dX7_init_72 vJ7_fill_53178 ml_7_32 stJ7_fill_53178 npJ7_fill_53178 (by decide +kernel) (by decide +kernel) (Nat.le_of_ble_eq_true rfl) rfl (by decide) (Nat.le_refl _) (by decide +kernel) (by decide +kernel) (z_fill (len := 14) (by decide) (by decide +kernel) (by rfl)) ?_
  rintro v Y ⟨rfl, rfl⟩
  refine ev_iinc (v := 9) dX7_init_75 rfl (by decide +kernel) (by decide) ?_
  refine ev_goto (tgt := 58) dX7_init_78 (by decide) ?_
  refine ev_iload_n dX7_init_58 rfl ?_
  refine ev_bipush (v := 14) dX7_init_59 (by decide +kernel) ?_
  refine ev_icmpF (tgt := 81) dX7_init_61 (by decide) (show ¬ (14 : Int32) ≤ 9 by decide +kernel) ?_
  refine ev_aload_n dX7_init_64 rfl ?_
  refine ev_getS (q := 8) dX7_init_65 fo_7_29 (by decide) (by decide +kernel) (by decide) (by rfl) (by decide) ?_
  refine ev_iload_n dX7_init_68 rfl ?_
  refine ev_aald (len := 14) (j := 9) (q := 18) dX7_init_69 (by decide) (Or.inl (by decide +kernel)) (by decide +kernel) (by decide) (by rfl) (by decide) ?_
  refine ev_bipush (v := 50) dX7_init_70 (by decide +kernel) ?_
  refine ev_callS (d' := 0) (n1 := 23) (as := [.ref 18, .int 50]) (rest := []) dX7_init_72 vJ7_fill_53178 ml_7_32 stJ7_fill_53178 npJ7_fill_53178 (by decide +kernel) (by decide +kernel) (Nat.le_of_ble_eq_true rfl) rfl (by decide) (Nat.le_refl _) (by decide +kernel) (by decide +kernel) (z_fill (len := 14) (by decide) (by decide +kernel) (by rfl)) ?_
  rintro v Y ⟨rfl, rfl⟩
  refine ev_iinc (v := 10) dX7_init_75 rfl (by decide +kernel) (by decide) ?_
  refine ev_goto (tgt := 58) dX7_init_78 (by decide) ?_
  refine ev_iload_n dX7_init_58 rfl ?_
  refine ev_bipush (v := 14) dX7_init_59 (by decide +kernel) ?_
  refine ev_icmpF (tgt := 81) dX7_init_61 (by decide) (show ¬ (14 : Int32) ≤ 10 by decide +kernel) ?_
  refine ev_aload_n dX7_init_64 rfl ?_
  refine ev_getS (q := 8) dX7_init_65 fo_7_29 (by decide) (by decide +kernel) (by decide) (by rfl) (by decide) ?_
  refine ev_iload_n dX7_init_68 rfl ?_
  refine ev_aald (len := 14) (j := 10) (q := 19) dX7_init_69 (by decide) (Or.inl (by decide +kernel)) (by decide +kernel) (by decide) (by rfl) (by decide) ?_
  refine ev_bipush (v := 50) dX7_init_70 (by decide +kernel) ?_
  refine ev_callS (d' := 0) (n1 := 23) (as := [.ref 19, .int 50]) (rest := []) dX7_init_72 vJ7_fill_53178 ml_7_32 stJ7_fill_53178 npJ7_fill_53178 (by decide +kernel) (by decide +kernel) (Nat.le_of_ble_eq_true rfl) rfl (by decide) (Nat.le_refl _) (by decide +kernel) (by decide +kernel) (z_fill (len := 14) (by decide) (by decide +kernel) (by rfl)) ?_
  rintro v Y ⟨rfl, rfl⟩
  refine ev_iinc (v := 11) dX7_init_75 rfl (by decide +kernel) (by decide) ?_
  refine ev_goto (tgt := 58) dX7_init_78 (by decide) ?_
  refine ev_iload_n dX7_init_58 rfl ?_
  refine ev_bipush (v := 14) dX7_init_59 (by decide +kernel) ?_
  refine ev_icmpF (tgt := 81) dX7_init_61 (by decide) (show ¬ (14 : Int32) ≤ 11 by decide +kernel) ?_
  refine ev_aload_n dX7_init_64 rfl ?_
  refine ev_getS (q := 8) dX7_init_65 fo_7_29 (by decide) (by decide +kernel) (by decide) (by rfl) (by decide) ?_
  refine ev_iload_n dX7_init_68 rfl ?_
  refine ev_aald (len := 14) (j := 11) (q := 20) dX7_init_69 (by decide) (Or.inl (by decide +kernel)) (by decide +kernel) (by decide) (by rfl) (by decide) ?_
  refine ev_bipush (v := 50) dX7_init_70 (by decide +kernel) ?_
  refine ev_callS (d' := 0) (n1 := 23) (as := [.ref 20, .int 50]) (rest := []) dX7_init_72 vJ7_fill_53178 ml_7_32 stJ7_fill_53178 npJ7_fill_53178 (by decide +kernel) (by decide +kernel) (Nat.le_of_ble_eq_true rfl) rfl (by decide) (Nat.le_refl _) (by decide +kernel) (by decide +kernel) (z_fill (len := 14) (by decide) (by decide +kernel) (by rfl)) ?_
  rintro v Y ⟨rfl, rfl⟩
  refine ev_iinc (v := 12) dX7_init_75 rfl (by decide +kernel) (by decide) ?_
  refine ev_goto (tgt := 58) dX7_init_78 (by decide) ?_
  refine ev_iload_n dX7_init_58 rfl ?_
  refine ev_bipush (v := 14) dX7_init_59 (by decide +kernel) ?_
  refine ev_icmpF (tgt := 81) dX7_init_61 (by decide) (show ¬ (14 : Int32) ≤ 12 by decide +kernel) ?_
  refine ev_aload_n dX7_init_64 rfl ?_
  refine ev_getS (q := 8) dX7_init_65 fo_7_29 (by decide) (by decide +kernel) (by decide) (by rfl) (by decide) ?_
  refine ev_iload_n dX7_init_68 rfl ?_
  refine ev_aald (len := 14) (j := 12) (q := 21) dX7_init_69 (by decide) (Or.inl (by decide +kernel)) (by decide +kernel) (by decide) (by rfl) (by decide) ?_
  refine ev_bipush (v := 50) dX7_init_70 (by decide +kernel) ?_
  refine ev_callS (d' := 0) (n1 := 23) (as := [.ref 21, .int 50]) (rest := []) dX7_init_72 vJ7_fill_53178 ml_7_32 stJ7_fill_53178 npJ7_fill_53178 (by decide +kernel) (by decide +kernel) (Nat.le_of_ble_eq_true rfl) rfl (by decide) (Nat.le_refl _) (by decide +kernel) (by decide +kernel) (z_fill (len := 14) (by decide) (by decide +kernel) (by rfl)) ?_
  rintro v Y ⟨rfl, rfl⟩
  refine ev_iinc (v := 13) dX7_init_75 rfl (by decide +kernel) (by decide) ?_
  refine ev_goto (tgt := 58) dX7_init_78 (by decide) ?_
  refine ev_iload_n dX7_init_58 rfl ?_
  refine ev_bipush (v := 14) dX7_init_59 (by decide +kernel) ?_
  refine ev_icmpF (tgt := 81) dX7_init_61 (by decide) (show ¬ (14 : Int32) ≤ 13 by decide +kernel) ?_
  refine ev_aload_n dX7_init_64 rfl ?_
  refine ev_getS (q := 8) dX7_init_65 fo_7_29 (by decide) (by decide +kernel) (by decide) (by rfl) (by decide) ?_
  refine ev_iload_n dX7_init_68 rfl ?_
  refine ev_aald (len := 14) (j := 13) (q := 22) dX7_init_69 (by decide) (Or.inl (by decide +kernel)) (by decide +kernel) (by decide) (by rfl) (by decide) ?_
  refine ev_bipush (v := 50) dX7_init_70 (by decide +kernel) ?_
  refine ev_callS (d' := 0) (n1 := 23) (as := [.ref 22, .int 50]) (rest := []) dX7_init_72 vJ7_fill_53178 ml_7_32 stJ7_fill_53178 npJ7_fill_53178 (by decide +kernel) (by decide +kernel) (Nat.le_of_ble_eq_true rfl) rfl (by decide) (Nat.le_refl _) (by decide +kernel) (by decide +kernel) (z_fill (len := 14) (by decide) (by decide +kernel) (by rfl)) ?_
  rintro v Y ⟨rfl, rfl⟩
  refine ev_iinc (v := 14) dX7_init_75 rfl (by decide +kernel) (by decide) ?_
  refine ev_goto (tgt := 58) dX7_init_78 (by decide) ?_
  refine ev_iload_n dX7_init_58 rfl ?_
  refine ev_bipush (v := 14) dX7_init_59 (by decide +kernel) ?_
  refine ev_icmpT (tgt := 81) dX7_init_61 (by decide) (show (14 : Int32) ≤ 14 by decide +kernel) ?_
  exact ev_ret dX7_init_81 rfl ⟨rfl, rfl⟩
def y_X5_init_23 (X : LX) : LX := (lx_up (lx_grid (lx_up (lx_row (lx_up (lx_row X 24 (fun _ => 0)) 23 1 (rE 24)) 25 (fun _ => 0)) 23 2 (rE 25)) 26 10) 23 3 (rE 26))
set_option maxHeartbeats 4000000 in
theorem c_X5_init_23 {g : GG} {X : LX} : Ex g mX5_init 1 24 37 [.ref 23] X (rv (y_X5_init_23 X)) := by
  refine ex_of vX5_init (Nat.le_of_ble_eq_true rfl) (cat_of rfl) ?_
  refine ev_aload_n dX5_init_0 rfl ?_
  refine ev_objInit dX5_init_1 (gt_at 164 (by decide +kernel) rfl) oi_1 oi_2 (by decide +kernel) (by decide +kernel) (by decide) ?_
  refine ev_aload_n dX5_init_4 rfl ?_
  refine ev_bipush (v := 10) dX5_init_5 (by decide +kernel) ?_
  refine ev_newi (N := 10) dX5_init_7 (by decide +kernel) (by decide) (by decide +kernel) (by decide) ac_i (by decide +kernel) (by decide +kernel) ?_
  refine ev_putR dX5_init_9 fo_5_9 (by decide) (by decide +kernel) (by decide) (Or.inr ⟨_, rfl⟩) (by first | exact Or.inl rfl | exact Or.inr ⟨rfl, rfl⟩) (by decide) ?_
  refine ev_aload_n dX5_init_12 rfl ?_
  refine ev_bipush (v := 10) dX5_init_13 (by decide +kernel) ?_
  refine ev_newi (N := 10) dX5_init_15 (by decide +kernel) (by decide) (by decide +kernel) (by decide) ac_i (by decide +kernel) (by decide +kernel) ?_
  refine ev_putR dX5_init_17 fo_5_15 (by decide) (by decide +kernel) (by decide) (Or.inr ⟨_, rfl⟩) (by first | exact Or.inl rfl | exact Or.inr ⟨rfl, rfl⟩) (by decide) ?_
  refine ev_aload_n dX5_init_20 rfl ?_
  refine ev_bipush (v := 10) dX5_init_21 (by decide +kernel) ?_
  refine ev_bipush (v := 14) dX5_init_23 (by decide +kernel) ?_
  refine ev_grid (N := 10) (K := 14) (t0 := 0) dX5_init_25 (by decide +kernel) (by decide +kernel) (by decide) (by decide) (Or.inl ⟨rfl, rfl, rfl⟩) (by decide +kernel) (by decide +kernel) (by decide) (gt_at 165 (by decide +kernel) rfl) (by decide +kernel) (by decide +kernel) (by decide +kernel) ?_
  refine ev_putR dX5_init_29 fo_5_20 (by decide) (by decide +kernel) (by decide) (Or.inr ⟨_, rfl⟩) (by first | exact Or.inl rfl | exact Or.inr ⟨rfl, rfl⟩) (by decide) ?_
  exact ev_ret dX5_init_32 rfl ⟨rfl, rfl⟩
def y_X0_init_37 (X : LX) : LX := (lx_row (lx_row (lx_row (lx_row (lx_row (lx_row (lx_row (lx_row (lx_row (lx_row (lx_row (lx_row (lx_up (lx_grid (lx_up (lx_grid (lx_up (lx_row (lx_up (lx_row (lx_up (lx_row (lx_up (lx_row (lx_up (lx_row X 38 (fun _ => 0)) 37 1 (rE 38)) 39 (fun _ => 0)) 37 2 (rE 39)) 40 (fun _ => 0)) 37 3 (rE 40)) 41 (fun _ => 0)) 37 4 (rE 41)) 42 (fun _ => 0)) 37 5 (rE 42)) 43 12) 37 6 (rE 43)) 56 12) 37 7 (rE 56)) 44 (fillTo (fun _ => 0) 5 10)) 45 (fillTo (fun _ => 0) 5 10)) 46 (fillTo (fun _ => 0) 5 10)) 47 (fillTo (fun _ => 0) 5 10)) 48 (fillTo (fun _ => 0) 5 10)) 49 (fillTo (fun _ => 0) 5 10)) 50 (fillTo (fun _ => 0) 5 10)) 51 (fillTo (fun _ => 0) 5 10)) 52 (fillTo (fun _ => 0) 5 10)) 53 (fillTo (fun _ => 0) 5 10)) 54 (fillTo (fun _ => 0) 5 10)) 55 (fillTo (fun _ => 0) 5 10))
set_option maxHeartbeats 4000000 in
theorem c_X0_init_37 {g : GG} {X : LX} : Ex g mX0_init 1 38 69 [.ref 37] X (rv (y_X0_init_37 X)) := by
  refine ex_of vX0_init (Nat.le_of_ble_eq_true rfl) (cat_of rfl) ?_
  refine ev_aload_n dX0_init_0 rfl ?_
  refine ev_objInit dX0_init_1 (gt_at 193 (by decide +kernel) rfl) oi_1 oi_2 (by decide +kernel) (by decide +kernel) (by decide) ?_
  refine ev_aload_n dX0_init_4 rfl ?_
  refine ev_bipush (v := 12) dX0_init_5 (by decide +kernel) ?_
  refine ev_newi (N := 12) dX0_init_7 (by decide +kernel) (by decide) (by decide +kernel) (by decide) ac_i (by decide +kernel) (by decide +kernel) ?_
  refine ev_putR dX0_init_9 fo_0_9 (by decide) (by decide +kernel) (by decide) (Or.inr ⟨_, rfl⟩) (by first | exact Or.inl rfl | exact Or.inr ⟨rfl, rfl⟩) (by decide) ?_
  refine ev_aload_n dX0_init_12 rfl ?_
  refine ev_bipush (v := 12) dX0_init_13 (by decide +kernel) ?_
  refine ev_newi (N := 12) dX0_init_15 (by decide +kernel) (by decide) (by decide +kernel) (by decide) ac_i (by decide +kernel) (by decide +kernel) ?_
  refine ev_putR dX0_init_17 fo_0_15 (by decide) (by decide +kernel) (by decide) (Or.inr ⟨_, rfl⟩) (by first | exact Or.inl rfl | exact Or.inr ⟨rfl, rfl⟩) (by decide) ?_
  refine ev_aload_n dX0_init_20 rfl ?_
  refine ev_bipush (v := 12) dX0_init_21 (by decide +kernel) ?_
  refine ev_newi (N := 12) dX0_init_23 (by decide +kernel) (by decide) (by decide +kernel) (by decide) ac_i (by decide +kernel) (by decide +kernel) ?_
  refine ev_putR dX0_init_25 fo_0_18 (by decide) (by decide +kernel) (by decide) (Or.inr ⟨_, rfl⟩) (by first | exact Or.inl rfl | exact Or.inr ⟨rfl, rfl⟩) (by decide) ?_
  refine ev_aload_n dX0_init_28 rfl ?_
  refine ev_bipush (v := 12) dX0_init_29 (by decide +kernel) ?_
  refine ev_newi (N := 12) dX0_init_31 (by decide +kernel) (by decide) (by decide +kernel) (by decide) ac_i (by decide +kernel) (by decide +kernel) ?_
  refine ev_putR dX0_init_33 fo_0_21 (by decide) (by decide +kernel) (by decide) (Or.inr ⟨_, rfl⟩) (by first | exact Or.inl rfl | exact Or.inr ⟨rfl, rfl⟩) (by decide) ?_
  refine ev_aload_n dX0_init_36 rfl ?_
  refine ev_bipush (v := 12) dX0_init_37 (by decide +kernel) ?_
  refine ev_newi (N := 12) dX0_init_39 (by decide +kernel) (by decide) (by decide +kernel) (by decide) ac_i (by decide +kernel) (by decide +kernel) ?_
  refine ev_putR dX0_init_41 fo_0_24 (by decide) (by decide +kernel) (by decide) (Or.inr ⟨_, rfl⟩) (by first | exact Or.inl rfl | exact Or.inr ⟨rfl, rfl⟩) (by decide) ?_
  refine ev_aload_n dX0_init_44 rfl ?_
  refine ev_bipush (v := 12) dX0_init_45 (by decide +kernel) ?_
  refine ev_bipush (v := 10) dX0_init_47 (by decide +kernel) ?_
  refine ev_grid (N := 12) (K := 10) (t0 := 0) dX0_init_49 (by decide +kernel) (by decide +kernel) (by decide) (by decide) (Or.inl ⟨rfl, rfl, rfl⟩) (by decide +kernel) (by decide +kernel) (by decide) (gt_at 194 (by decide +kernel) rfl) (by decide +kernel) (by decide +kernel) (by decide +kernel) ?_
  refine ev_putR dX0_init_53 fo_0_29 (by decide) (by decide +kernel) (by decide) (Or.inr ⟨_, rfl⟩) (by first | exact Or.inl rfl | exact Or.inr ⟨rfl, rfl⟩) (by decide) ?_
  refine ev_aload_n dX0_init_56 rfl ?_
  refine ev_bipush (v := 12) dX0_init_57 (by decide +kernel) ?_
  refine ev_bipush (v := 100) dX0_init_59 (by decide +kernel) ?_
  refine ev_grid (N := 12) (K := 100) (t0 := 0) dX0_init_61 (by decide +kernel) (by decide +kernel) (by decide) (by decide) (Or.inl ⟨rfl, rfl, rfl⟩) (by decide +kernel) (by decide +kernel) (by decide) (gt_at 194 (by decide +kernel) rfl) (by decide +kernel) (by decide +kernel) (by decide +kernel) ?_
  refine ev_putR dX0_init_65 fo_0_32 (by decide) (by decide +kernel) (by decide) (Or.inr ⟨_, rfl⟩) (by first | exact Or.inl rfl | exact Or.inr ⟨rfl, rfl⟩) (by decide) ?_
  refine ev_iconst (v := 0) dX0_init_68 (by decide +kernel) ?_
  refine ev_istore_n dX0_init_69 (by decide) ?_
  refine ev_iload_n dX0_init_70 rfl ?_
  refine ev_bipush (v := 12) dX0_init_71 (by decide +kernel) ?_
  refine ev_icmpF (tgt := 92) dX0_init_73 (by decide) (show ¬ (12 : Int32) ≤ 0 by decide +kernel) ?_
  refine ev_aload_n dX0_init_76 rfl ?_
  refine ev_getS (q := 43) dX0_init_77 fo_0_29 (by decide) (by decide +kernel) (by decide) (by rfl) (by decide) ?_
  refine ev_iload_n dX0_init_80 rfl ?_
  refine ev_aald (len := 12) (j := 0) (q := 44) dX0_init_81 (by decide) (Or.inl (by decide +kernel)) (by decide +kernel) (by decide) (by rfl) (by decide) ?_
  refine ev_iconst (v := 5) dX0_init_82 (by decide +kernel) ?_
  refine ev_callS (d' := 0) (n1 := 69) (as := [.ref 44, .int 5]) (rest := []) dX0_init_83 vJ7_fill_53178 ml_0_35 stJ7_fill_53178 npJ7_fill_53178 (by decide +kernel) (by decide +kernel) (Nat.le_of_ble_eq_true rfl) rfl (by decide) (Nat.le_refl _) (by decide +kernel) (by decide +kernel) (z_fill (len := 10) (by decide) (by decide +kernel) (by rfl)) ?_
  rintro v Y ⟨rfl, rfl⟩
  refine ev_iinc (v := 1) dX0_init_86 rfl (by decide +kernel) (by decide) ?_
  refine ev_goto (tgt := 70) dX0_init_89 (by decide) ?_
  refine ev_iload_n dX0_init_70 rfl ?_
  refine ev_bipush (v := 12) dX0_init_71 (by decide +kernel) ?_
  refine ev_icmpF (tgt := 92) dX0_init_73 (by decide) (show ¬ (12 : Int32) ≤ 1 by decide +kernel) ?_
  refine ev_aload_n dX0_init_76 rfl ?_
  refine ev_getS (q := 43) dX0_init_77 fo_0_29 (by decide) (by decide +kernel) (by decide) (by rfl) (by decide) ?_
  refine ev_iload_n dX0_init_80 rfl ?_
  refine ev_aald (len := 12) (j := 1) (q := 45) dX0_init_81 (by decide) (Or.inl (by decide +kernel)) (by decide +kernel) (by decide) (by rfl) (by decide) ?_
  refine ev_iconst (v := 5) dX0_init_82 (by decide +kernel) ?_
  refine ev_callS (d' := 0) (n1 := 69) (as := [.ref 45, .int 5]) (rest := []) dX0_init_83 vJ7_fill_53178 ml_0_35 stJ7_fill_53178 npJ7_fill_53178 (by decide +kernel) (by decide +kernel) (Nat.le_of_ble_eq_true rfl) rfl (by decide) (Nat.le_refl _) (by decide +kernel) (by decide +kernel) (z_fill (len := 10) (by decide) (by decide +kernel) (by rfl)) ?_
  rintro v Y ⟨rfl, rfl⟩
  refine ev_iinc (v := 2) dX0_init_86 rfl (by decide +kernel) (by decide) ?_
  refine ev_goto (tgt := 70) dX0_init_89 (by decide) ?_
  refine ev_iload_n dX0_init_70 rfl ?_
  refine ev_bipush (v := 12) dX0_init_71 (by decide +kernel) ?_
  refine ev_icmpF (tgt := 92) dX0_init_73 (by decide) (show ¬ (12 : Int32) ≤ 2 by decide +kernel) ?_
  refine ev_aload_n dX0_init_76 rfl ?_
  refine ev_getS (q := 43) dX0_init_77 fo_0_29 (by decide) (by decide +kernel) (by decide) (by rfl) (by decide) ?_
  refine ev_iload_n dX0_init_80 rfl ?_
  refine ev_aald (len := 12) (j := 2) (q := 46) dX0_init_81 (by decide) (Or.inl (by decide +kernel)) (by decide +kernel) (by decide) (by rfl) (by decide) ?_
  refine ev_iconst (v := 5) dX0_init_82 (by decide +kernel) ?_
  refine ev_callS (d' := 0) (n1 := 69) (as := [.ref 46, .int 5]) (rest := []) dX0_init_83 vJ7_fill_53178 ml_0_35 stJ7_fill_53178 npJ7_fill_53178 (by decide +kernel) (by decide +kernel) (Nat.le_of_ble_eq_true rfl) rfl (by decide) (Nat.le_refl _) (by decide +kernel) (by decide +kernel) (z_fill (len := 10) (by decide) (by decide +kernel) (by rfl)) ?_
  rintro v Y ⟨rfl, rfl⟩
  refine ev_iinc (v := 3) dX0_init_86 rfl (by decide +kernel) (by decide) ?_
  refine ev_goto (tgt := 70) dX0_init_89 (by decide) ?_
  refine ev_iload_n dX0_init_70 rfl ?_
  refine ev_bipush (v := 12) dX0_init_71 (by decide +kernel) ?_
  refine ev_icmpF (tgt := 92) dX0_init_73 (by decide) (show ¬ (12 : Int32) ≤ 3 by decide +kernel) ?_
  refine ev_aload_n dX0_init_76 rfl ?_
  refine ev_getS (q := 43) dX0_init_77 fo_0_29 (by decide) (by decide +kernel) (by decide) (by rfl) (by decide) ?_
  refine ev_iload_n dX0_init_80 rfl ?_
  refine ev_aald (len := 12) (j := 3) (q := 47) dX0_init_81 (by decide) (Or.inl (by decide +kernel)) (by decide +kernel) (by decide) (by rfl) (by decide) ?_
  refine ev_iconst (v := 5) dX0_init_82 (by decide +kernel) ?_
  refine ev_callS (d' := 0) (n1 := 69) (as := [.ref 47, .int 5]) (rest := []) dX0_init_83 vJ7_fill_53178 ml_0_35 stJ7_fill_53178 npJ7_fill_53178 (by decide +kernel) (by decide +kernel) (Nat.le_of_ble_eq_true rfl) rfl (by decide) (Nat.le_refl _) (by decide +kernel) (by decide +kernel) (z_fill (len := 10) (by decide) (by decide +kernel) (by rfl)) ?_
  rintro v Y ⟨rfl, rfl⟩
  refine ev_iinc (v := 4) dX0_init_86 rfl (by decide +kernel) (by decide) ?_
  refine ev_goto (tgt := 70) dX0_init_89 (by decide) ?_
  refine ev_iload_n dX0_init_70 rfl ?_
  refine ev_bipush (v := 12) dX0_init_71 (by decide +kernel) ?_
  refine ev_icmpF (tgt := 92) dX0_init_73 (by decide) (show ¬ (12 : Int32) ≤ 4 by decide +kernel) ?_
  refine ev_aload_n dX0_init_76 rfl ?_
  refine ev_getS (q := 43) dX0_init_77 fo_0_29 (by decide) (by decide +kernel) (by decide) (by rfl) (by decide) ?_
  refine ev_iload_n dX0_init_80 rfl ?_
  refine ev_aald (len := 12) (j := 4) (q := 48) dX0_init_81 (by decide) (Or.inl (by decide +kernel)) (by decide +kernel) (by decide) (by rfl) (by decide) ?_
  refine ev_iconst (v := 5) dX0_init_82 (by decide +kernel) ?_
  refine ev_callS (d' := 0) (n1 := 69) (as := [.ref 48, .int 5]) (rest := []) dX0_init_83 vJ7_fill_53178 ml_0_35 stJ7_fill_53178 npJ7_fill_53178 (by decide +kernel) (by decide +kernel) (Nat.le_of_ble_eq_true rfl) rfl (by decide) (Nat.le_refl _) (by decide +kernel) (by decide +kernel) (z_fill (len := 10) (by decide) (by decide +kernel) (by rfl)) ?_
  rintro v Y ⟨rfl, rfl⟩
  refine ev_iinc (v := 5) dX0_init_86 rfl (by decide +kernel) (by decide) ?_
  refine ev_goto (tgt := 70) dX0_init_89 (by decide) ?_
  refine ev_iload_n dX0_init_70 rfl ?_
  refine ev_bipush (v := 12) dX0_init_71 (by decide +kernel) ?_
  refine ev_icmpF (tgt := 92) dX0_init_73 (by decide) (show ¬ (12 : Int32) ≤ 5 by decide +kernel) ?_
  refine ev_aload_n dX0_init_76 rfl ?_
  refine ev_getS (q := 43) dX0_init_77 fo_0_29 (by decide) (by decide +kernel) (by decide) (by rfl) (by decide) ?_
  refine ev_iload_n dX0_init_80 rfl ?_
  refine ev_aald (len := 12) (j := 5) (q := 49) dX0_init_81 (by decide) (Or.inl (by decide +kernel)) (by decide +kernel) (by decide) (by rfl) (by decide) ?_
  refine ev_iconst (v := 5) dX0_init_82 (by decide +kernel) ?_
  refine ev_callS (d' := 0) (n1 := 69) (as := [.ref 49, .int 5]) (rest := []) dX0_init_83 vJ7_fill_53178 ml_0_35 stJ7_fill_53178 npJ7_fill_53178 (by decide +kernel) (by decide +kernel) (Nat.le_of_ble_eq_true rfl) rfl (by decide) (Nat.le_refl _) (by decide +kernel) (by decide +kernel) (z_fill (len := 10) (by decide) (by decide +kernel) (by rfl)) ?_
  rintro v Y ⟨rfl, rfl⟩
  refine ev_iinc (v := 6) dX0_init_86 rfl (by decide +kernel) (by decide) ?_
  refine ev_goto (tgt := 70) dX0_init_89 (by decide) ?_
  refine ev_iload_n dX0_init_70 rfl ?_
  refine ev_bipush (v := 12) dX0_init_71 (by decide +kernel) ?_
  refine ev_icmpF (tgt := 92) dX0_init_73 (by decide) (show ¬ (12 : Int32) ≤ 6 by decide +kernel) ?_
  refine ev_aload_n dX0_init_76 rfl ?_
  refine ev_getS (q := 43) dX0_init_77 fo_0_29 (by decide) (by decide +kernel) (by decide) (by rfl) (by decide) ?_
  refine ev_iload_n dX0_init_80 rfl ?_
  refine ev_aald (len := 12) (j := 6) (q := 50) dX0_init_81 (by decide) (Or.inl (by decide +kernel)) (by decide +kernel) (by decide) (by rfl) (by decide) ?_
  refine ev_iconst (v := 5) dX0_init_82 (by decide +kernel) ?_
  refine ev_callS (d' := 0) (n1 := 69) (as := [.ref 50, .int 5]) (rest := []) dX0_init_83 vJ7_fill_53178 ml_0_35 stJ7_fill_53178 npJ7_fill_53178 (by decide +kernel) (by decide +kernel) (Nat.le_of_ble_eq_true rfl) rfl (by decide) (Nat.le_refl _) (by decide +kernel) (by decide +kernel) (z_fill (len := 10) (by decide) (by decide +kernel) (by rfl)) ?_
  rintro v Y ⟨rfl, rfl⟩
  refine ev_iinc (v := 7) dX0_init_86 rfl (by decide +kernel) (by decide) ?_
  refine ev_goto (tgt := 70) dX0_init_89 (by decide) ?_
  refine ev_iload_n dX0_init_70 rfl ?_
  refine ev_bipush (v := 12) dX0_init_71 (by decide +kernel) ?_
  refine ev_icmpF (tgt := 92) dX0_init_73 (by decide) (show ¬ (12 : Int32) ≤ 7 by decide +kernel) ?_
  refine ev_aload_n dX0_init_76 rfl ?_
  refine ev_getS (q := 43) dX0_init_77 fo_0_29 (by decide) (by decide +kernel) (by decide) (by rfl) (by decide) ?_
  refine ev_iload_n dX0_init_80 rfl ?_
  refine ev_aald (len := 12) (j := 7) (q := 51) dX0_init_81 (by decide) (Or.inl (by decide +kernel)) (by decide +kernel) (by decide) (by rfl) (by decide) ?_
  refine ev_iconst (v := 5) dX0_init_82 (by decide +kernel) ?_
  refine ev_callS (d' := 0) (n1 := 69) (as := [.ref 51, .int 5]) (rest := []) dX0_init_83 vJ7_fill_53178 ml_0_35 stJ7_fill_53178 npJ7_fill_53178 (by decide +kernel) (by decide +kernel) (Nat.le_of_ble_eq_true rfl) rfl (by decide) (Nat.le_refl _) (by decide +kernel) (by decide +kernel) (z_fill (len := 10) (by decide) (by decide +kernel) (by rfl)) ?_
  rintro v Y ⟨rfl, rfl⟩
  refine ev_iinc (v := 8) dX0_init_86 rfl (by decide +kernel) (by decide) ?_
  refine ev_goto (tgt := 70) dX0_init_89 (by decide) ?_
  refine ev_iload_n dX0_init_70 rfl ?_
  refine ev_bipush (v := 12) dX0_init_71 (by decide +kernel) ?_
  refine ev_icmpF (tgt := 92) dX0_init_73 (by decide) (show ¬ (12 : Int32) ≤ 8 by decide +kernel) ?_
  refine ev_aload_n dX0_init_76 rfl ?_
  refine ev_getS (q := 43) dX0_init_77 fo_0_29 (by decide) (by decide +kernel) (by decide) (by rfl) (by decide) ?_
  refine ev_iload_n dX0_init_80 rfl ?_
  refine ev_aald (len := 12) (j := 8) (q := 52) dX0_init_81 (by decide) (Or.inl (by decide +kernel)) (by decide +kernel) (by decide) (by rfl) (by decide) ?_
  refine ev_iconst (v := 5) dX0_init_82 (by decide +kernel) ?_
  refine ev_callS (d' := 0) (n1 := 69) (as := [.ref 52, .int 5]) (rest := []) dX0_init_83 vJ7_fill_53178 ml_0_35 stJ7_fill_53178 npJ7_fill_53178 (by decide +kernel) (by decide +kernel) (Nat.le_of_ble_eq_true rfl) rfl (by decide) (Nat.le_refl _) (by decide +kernel) (by decide +kernel) (z_fill (len := 10) (by decide) (by decide +kernel) (by rfl)) ?_
  rintro v Y ⟨rfl, rfl⟩
  refine ev_iinc (v := 9) dX0_init_86 rfl (by decide +kernel) (by decide) ?_
  refine ev_goto (tgt := 70) dX0_init_89 (by decide) ?_
  refine ev_iload_n dX0_init_70 rfl ?_
  refine ev_bipush (v := 12) dX0_init_71 (by decide +kernel) ?_
  refine ev_icmpF (tgt := 92) dX0_init_73 (by decide) (show ¬ (12 : Int32) ≤ 9 by decide +kernel) ?_
  refine ev_aload_n dX0_init_76 rfl ?_
  refine ev_getS (q := 43) dX0_init_77 fo_0_29 (by decide) (by decide +kernel) (by decide) (by rfl) (by decide) ?_
  refine ev_iload_n dX0_init_80 rfl ?_
  refine ev_aald (len := 12) (j := 9) (q := 53) dX0_init_81 (by decide) (Or.inl (by decide +kernel)) (by decide +kernel) (by decide) (by rfl) (by decide) ?_
  refine ev_iconst (v := 5) dX0_init_82 (by decide +kernel) ?_
  refine ev_callS (d' := 0) (n1 := 69) (as := [.ref 53, .int 5]) (rest := []) dX0_init_83 vJ7_fill_53178 ml_0_35 stJ7_fill_53178 npJ7_fill_53178 (by decide +kernel) (by decide +kernel) (Nat.le_of_ble_eq_true rfl) rfl (by decide) (Nat.le_refl _) (by decide +kernel) (by decide +kernel) (z_fill (len := 10) (by decide) (by decide +kernel) (by rfl)) ?_
  rintro v Y ⟨rfl, rfl⟩
  refine ev_iinc (v := 10) dX0_init_86 rfl (by decide +kernel) (by decide) ?_
  refine ev_goto (tgt := 70) dX0_init_89 (by decide) ?_
  refine ev_iload_n dX0_init_70 rfl ?_
  refine ev_bipush (v := 12) dX0_init_71 (by decide +kernel) ?_
  refine ev_icmpF (tgt := 92) dX0_init_73 (by decide) (show ¬ (12 : Int32) ≤ 10 by decide +kernel) ?_
  refine ev_aload_n dX0_init_76 rfl ?_
  refine ev_getS (q := 43) dX0_init_77 fo_0_29 (by decide) (by decide +kernel) (by decide) (by rfl) (by decide) ?_
  refine ev_iload_n dX0_init_80 rfl ?_
  refine ev_aald (len := 12) (j := 10) (q := 54) dX0_init_81 (by decide) (Or.inl (by decide +kernel)) (by decide +kernel) (by decide) (by rfl) (by decide) ?_
  refine ev_iconst (v := 5) dX0_init_82 (by decide +kernel) ?_
  refine ev_callS (d' := 0) (n1 := 69) (as := [.ref 54, .int 5]) (rest := []) dX0_init_83 vJ7_fill_53178 ml_0_35 stJ7_fill_53178 npJ7_fill_53178 (by decide +kernel) (by decide +kernel) (Nat.le_of_ble_eq_true rfl) rfl (by decide) (Nat.le_refl _) (by decide +kernel) (by decide +kernel) (z_fill (len := 10) (by decide) (by decide +kernel) (by rfl)) ?_
  rintro v Y ⟨rfl, rfl⟩
  refine ev_iinc (v := 11) dX0_init_86 rfl (by decide +kernel) (by decide) ?_
  refine ev_goto (tgt := 70) dX0_init_89 (by decide) ?_
  refine ev_iload_n dX0_init_70 rfl ?_
  refine ev_bipush (v := 12) dX0_init_71 (by decide +kernel) ?_
  refine ev_icmpF (tgt := 92) dX0_init_73 (by decide) (show ¬ (12 : Int32) ≤ 11 by decide +kernel) ?_
  refine ev_aload_n dX0_init_76 rfl ?_
  refine ev_getS (q := 43) dX0_init_77 fo_0_29 (by decide) (by decide +kernel) (by decide) (by rfl) (by decide) ?_
  refine ev_iload_n dX0_init_80 rfl ?_
  refine ev_aald (len := 12) (j := 11) (q := 55) dX0_init_81 (by decide) (Or.inl (by decide +kernel)) (by decide +kernel) (by decide) (by rfl) (by decide) ?_
  refine ev_iconst (v := 5) dX0_init_82 (by decide +kernel) ?_
  refine ev_callS (d' := 0) (n1 := 69) (as := [.ref 55, .int 5]) (rest := []) dX0_init_83 vJ7_fill_53178 ml_0_35 stJ7_fill_53178 npJ7_fill_53178 (by decide +kernel) (by decide +kernel) (Nat.le_of_ble_eq_true rfl) rfl (by decide) (Nat.le_refl _) (by decide +kernel) (by decide +kernel) (z_fill (len := 10) (by decide) (by decide +kernel) (by rfl)) ?_
  rintro v Y ⟨rfl, rfl⟩
  refine ev_iinc (v := 12) dX0_init_86 rfl (by decide +kernel) (by decide) ?_
  refine ev_goto (tgt := 70) dX0_init_89 (by decide) ?_
  refine ev_iload_n dX0_init_70 rfl ?_
  refine ev_bipush (v := 12) dX0_init_71 (by decide +kernel) ?_
  refine ev_icmpT (tgt := 92) dX0_init_73 (by decide) (show (12 : Int32) ≤ 12 by decide +kernel) ?_
  exact ev_ret dX0_init_92 rfl ⟨rfl, rfl⟩
def y_X4_init_69 (X : LX) : LX := (lx_up (lx_row (lx_up (lx_row (lx_up (lx_row (lx_up (lx_row (lx_up (lx_row (lx_up (lx_row (lx_up (lx_row X 70 (fun _ => 0)) 69 1 (rE 70)) 71 (fun _ => 0)) 69 2 (rE 71)) 72 (fun _ => 0)) 69 3 (rE 72)) 73 (fun _ => 0)) 69 4 (rE 73)) 74 (fun _ => 0)) 69 5 (rE 74)) 75 (fun _ => 0)) 69 6 (rE 75)) 76 (fun _ => 0)) 69 7 (rE 76))
set_option maxHeartbeats 4000000 in
theorem c_X4_init_69 {g : GG} {X : LX} : Ex g mX4_init 1 70 77 [.ref 69] X (rv (y_X4_init_69 X)) := by
  refine ex_of vX4_init (Nat.le_of_ble_eq_true rfl) (cat_of rfl) ?_
  refine ev_aload_n dX4_init_0 rfl ?_
  refine ev_objInit dX4_init_1 (gt_at 247 (by decide +kernel) rfl) oi_1 oi_2 (by decide +kernel) (by decide +kernel) (by decide) ?_
  refine ev_aload_n dX4_init_4 rfl ?_
  refine ev_bipush (v := 40) dX4_init_5 (by decide +kernel) ?_
  refine ev_newi (N := 40) dX4_init_7 (by decide +kernel) (by decide) (by decide +kernel) (by decide) ac_i (by decide +kernel) (by decide +kernel) ?_
  refine ev_putR dX4_init_9 fo_4_9 (by decide) (by decide +kernel) (by decide) (Or.inr ⟨_, rfl⟩) (by first | exact Or.inl rfl | exact Or.inr ⟨rfl, rfl⟩) (by decide) ?_
  refine ev_aload_n dX4_init_12 rfl ?_
  refine ev_bipush (v := 40) dX4_init_13 (by decide +kernel) ?_
  refine ev_newi (N := 40) dX4_init_15 (by decide +kernel) (by decide) (by decide +kernel) (by decide) ac_i (by decide +kernel) (by decide +kernel) ?_
  refine ev_putR dX4_init_17 fo_4_15 (by decide) (by decide +kernel) (by decide) (Or.inr ⟨_, rfl⟩) (by first | exact Or.inl rfl | exact Or.inr ⟨rfl, rfl⟩) (by decide) ?_
  refine ev_aload_n dX4_init_20 rfl ?_
  refine ev_bipush (v := 40) dX4_init_21 (by decide +kernel) ?_
  refine ev_newi (N := 40) dX4_init_23 (by decide +kernel) (by decide) (by decide +kernel) (by decide) ac_i (by decide +kernel) (by decide +kernel) ?_
  refine ev_putR dX4_init_25 fo_4_18 (by decide) (by decide +kernel) (by decide) (Or.inr ⟨_, rfl⟩) (by first | exact Or.inl rfl | exact Or.inr ⟨rfl, rfl⟩) (by decide) ?_
  refine ev_aload_n dX4_init_28 rfl ?_
  refine ev_bipush (v := 40) dX4_init_29 (by decide +kernel) ?_
  refine ev_newi (N := 40) dX4_init_31 (by decide +kernel) (by decide) (by decide +kernel) (by decide) ac_i (by decide +kernel) (by decide +kernel) ?_
  refine ev_putR dX4_init_33 fo_4_21 (by decide) (by decide +kernel) (by decide) (Or.inr ⟨_, rfl⟩) (by first | exact Or.inl rfl | exact Or.inr ⟨rfl, rfl⟩) (by decide) ?_
  refine ev_aload_n dX4_init_36 rfl ?_
  refine ev_bipush (v := 40) dX4_init_37 (by decide +kernel) ?_
  refine ev_newi (N := 40) dX4_init_39 (by decide +kernel) (by decide) (by decide +kernel) (by decide) ac_i (by decide +kernel) (by decide +kernel) ?_
  refine ev_putR dX4_init_41 fo_4_24 (by decide) (by decide +kernel) (by decide) (Or.inr ⟨_, rfl⟩) (by first | exact Or.inl rfl | exact Or.inr ⟨rfl, rfl⟩) (by decide) ?_
  refine ev_aload_n dX4_init_44 rfl ?_
  refine ev_bipush (v := 14) dX4_init_45 (by decide +kernel) ?_
  refine ev_newi (N := 14) dX4_init_47 (by decide +kernel) (by decide) (by decide +kernel) (by decide) ac_i (by decide +kernel) (by decide +kernel) ?_
  refine ev_putR dX4_init_49 fo_4_27 (by decide) (by decide +kernel) (by decide) (Or.inr ⟨_, rfl⟩) (by first | exact Or.inl rfl | exact Or.inr ⟨rfl, rfl⟩) (by decide) ?_
  refine ev_aload_n dX4_init_52 rfl ?_
  refine ev_bipush (v := 14) dX4_init_53 (by decide +kernel) ?_
  refine ev_newi (N := 14) dX4_init_55 (by decide +kernel) (by decide) (by decide +kernel) (by decide) ac_i (by decide +kernel) (by decide +kernel) ?_
  refine ev_putR dX4_init_57 fo_4_30 (by decide) (by decide +kernel) (by decide) (Or.inr ⟨_, rfl⟩) (by first | exact Or.inl rfl | exact Or.inr ⟨rfl, rfl⟩) (by decide) ?_
  exact ev_ret dX4_init_60 rfl ⟨rfl, rfl⟩
def y_X2_init_77 (X : LX) : LX := (lx_up (lx_row (lx_up (lx_row (lx_up (lx_row X 78 (fun _ => 0)) 77 3 (rE 78)) 79 (fun _ => 0)) 77 4 (rE 79)) 80 (fun _ => 0)) 77 5 (rE 80))
set_option maxHeartbeats 4000000 in
theorem c_X2_init_77 {g : GG} {X : LX} : Ex g mX2_init 1 78 81 [.ref 77] X (rv (y_X2_init_77 X)) := by
  refine ex_of vX2_init (Nat.le_of_ble_eq_true rfl) (cat_of rfl) ?_
  refine ev_aload_n dX2_init_0 rfl ?_
  refine ev_objInit dX2_init_1 (gt_at 289 (by decide +kernel) rfl) oi_1 oi_2 (by decide +kernel) (by decide +kernel) (by decide) ?_
  refine ev_aload_n dX2_init_4 rfl ?_
  refine ev_bipush (v := 120) dX2_init_5 (by decide +kernel) ?_
  refine ev_newi (N := 120) dX2_init_7 (by decide +kernel) (by decide) (by decide +kernel) (by decide) ac_i (by decide +kernel) (by decide +kernel) ?_
  refine ev_putR dX2_init_9 fo_2_9 (by decide) (by decide +kernel) (by decide) (Or.inr ⟨_, rfl⟩) (by first | exact Or.inl rfl | exact Or.inr ⟨rfl, rfl⟩) (by decide) ?_
  refine ev_aload_n dX2_init_12 rfl ?_
  refine ev_bipush (v := 120) dX2_init_13 (by decide +kernel) ?_
  refine ev_newi (N := 120) dX2_init_15 (by decide +kernel) (by decide) (by decide +kernel) (by decide) ac_i (by decide +kernel) (by decide +kernel) ?_
  refine ev_putR dX2_init_17 fo_2_15 (by decide) (by decide +kernel) (by decide) (Or.inr ⟨_, rfl⟩) (by first | exact Or.inl rfl | exact Or.inr ⟨rfl, rfl⟩) (by decide) ?_
  refine ev_aload_n dX2_init_20 rfl ?_
  refine ev_iconst (v := 5) dX2_init_21 (by decide +kernel) ?_
  refine ev_newi (N := 5) dX2_init_22 (by decide +kernel) (by decide) (by decide +kernel) (by decide) ac_i (by decide +kernel) (by decide +kernel) ?_
  refine ev_putR dX2_init_24 fo_2_18 (by decide) (by decide +kernel) (by decide) (Or.inr ⟨_, rfl⟩) (by first | exact Or.inl rfl | exact Or.inr ⟨rfl, rfl⟩) (by decide) ?_
  exact ev_ret dX2_init_27 rfl ⟨rfl, rfl⟩
def y_X1_init_1 (X : LX) : LX := (lx_up (lx_up (y_X2_init_77 (lx_row (lx_up (y_X4_init_69 (lx_row (lx_up (y_X0_init_37 (lx_row (lx_up (y_X5_init_23 (lx_row (lx_up (y_X7_init_2 (lx_row X 2 (fun _ => 0))) 1 0 (rE 2)) 23 (fun _ => 0))) 1 1 (rE 23)) 37 (fun _ => 0))) 1 2 (rE 37)) 69 (fun _ => 0))) 1 3 (rE 69)) 77 (fun _ => 0))) 1 4 (rE 77)) 1 7 20)
set_option maxHeartbeats 4000000 in
theorem c_X1_init_1 {g : GG} {X : LX} : Ex g mX1_init 2 2 81 [.ref 1] X (rv (y_X1_init_1 X)) := by
  refine ex_of vX1_init (Nat.le_of_ble_eq_true rfl) (cat_of rfl) ?_
  refine ev_aload_n dX1_init_0 rfl ?_
  refine ev_objInit dX1_init_1 (gt_at 107 (by decide +kernel) rfl) oi_1 oi_2 (by decide +kernel) (by decide +kernel) (by decide) ?_
  refine ev_aload_n dX1_init_4 rfl ?_
  refine ev_new (ci := 7) tyX7 dX1_init_5 (by decide +kernel) (by decide) rfl inX7 tyX7_ok df_7 (gt_at 108 (by decide +kernel) rfl) wi_7 wz_7 (by decide +kernel) (by decide +kernel) ?_
  refine ev_dup dX1_init_8 rfl ?_
  refine ev_callI (d' := 1) (n1 := 23) (r := 2) (as := []) (rest := [.ref 2, .ref 1]) dX1_init_9 vX7_init rfl ml_1_11 isX7_init rfl npX7_init (by decide +kernel) (by decide +kernel) (Nat.le_of_ble_eq_true rfl) rfl (by decide) (by decide) (by decide +kernel) (by decide +kernel) c_X7_init_2 ?_
  rintro v Y ⟨rfl, rfl⟩
  refine ev_putR dX1_init_12 fo_1_12 (by decide) (by decide +kernel) (by decide) (Or.inl ⟨_, rfl⟩) (by first | exact Or.inl rfl | exact Or.inr ⟨rfl, rfl⟩) (by decide) ?_
  refine ev_aload_n dX1_init_15 rfl ?_
  refine ev_new (ci := 5) tyX5 dX1_init_16 (by decide +kernel) (by decide) rfl inX5 tyX5_ok df_5 (gt_at 159 (by decide +kernel) rfl) wi_5 wz_5 (by decide +kernel) (by decide +kernel) ?_
  refine ev_dup dX1_init_19 rfl ?_
  refine ev_callIN (d' := 1) (n1 := 37) (r := 23) (as := []) (rest := [.ref 23, .ref 1]) dX1_init_20 vX5_init rfl ml_1_20 rfl rfl rfl isX5_init rfl npX5_init (by decide +kernel) (by decide +kernel) (Nat.le_of_ble_eq_true rfl) rfl (by decide) (by decide) (by decide +kernel) (by decide +kernel) c_X5_init_23 ?_
  rintro v Y ⟨rfl, rfl⟩
  refine ev_putR dX1_init_23 fo_1_21 (by decide) (by decide +kernel) (by decide) (Or.inl ⟨_, rfl⟩) (by first | exact Or.inl rfl | exact Or.inr ⟨rfl, rfl⟩) (by decide) ?_
  refine ev_aload_n dX1_init_26 rfl ?_
  refine ev_new (ci := 0) tyX0 dX1_init_27 (by decide +kernel) (by decide) rfl inX0 tyX0_ok df_0 (gt_at 188 (by decide +kernel) rfl) wi_0 wz_0 (by decide +kernel) (by decide +kernel) ?_
  refine ev_dup dX1_init_30 rfl ?_
  refine ev_callI (d' := 1) (n1 := 69) (r := 37) (as := []) (rest := [.ref 37, .ref 1]) dX1_init_31 vX0_init rfl ml_1_27 isX0_init rfl npX0_init (by decide +kernel) (by decide +kernel) (Nat.le_of_ble_eq_true rfl) rfl (by decide) (by decide) (by decide +kernel) (by decide +kernel) c_X0_init_37 ?_
  rintro v Y ⟨rfl, rfl⟩
  refine ev_putR dX1_init_34 fo_1_28 (by decide) (by decide +kernel) (by decide) (Or.inl ⟨_, rfl⟩) (by first | exact Or.inl rfl | exact Or.inr ⟨rfl, rfl⟩) (by decide) ?_
  refine ev_aload_n dX1_init_37 rfl ?_
  refine ev_new (ci := 4) tyX4 dX1_init_38 (by decide +kernel) (by decide) rfl inX4 tyX4_ok df_4 (gt_at 242 (by decide +kernel) rfl) wi_4 wz_4 (by decide +kernel) (by decide +kernel) ?_
  refine ev_dup dX1_init_41 rfl ?_
  refine ev_callIN (d' := 1) (n1 := 77) (r := 69) (as := []) (rest := [.ref 69, .ref 1]) dX1_init_42 vX4_init rfl ml_1_34 rfl rfl rfl isX4_init rfl npX4_init (by decide +kernel) (by decide +kernel) (Nat.le_of_ble_eq_true rfl) rfl (by decide) (by decide) (by decide +kernel) (by decide +kernel) c_X4_init_69 ?_
  rintro v Y ⟨rfl, rfl⟩
  refine ev_putR dX1_init_45 fo_1_35 (by decide) (by decide +kernel) (by decide) (Or.inl ⟨_, rfl⟩) (by first | exact Or.inl rfl | exact Or.inr ⟨rfl, rfl⟩) (by decide) ?_
  refine ev_aload_n dX1_init_48 rfl ?_
  refine ev_new (ci := 2) tyX2 dX1_init_49 (by decide +kernel) (by decide) rfl inX2 tyX2_ok df_2 (gt_at 284 (by decide +kernel) rfl) wi_2 wz_2 (by decide +kernel) (by decide +kernel) ?_
  refine ev_dup dX1_init_52 rfl ?_
  refine ev_callIN (d' := 1) (n1 := 81) (r := 77) (as := []) (rest := [.ref 77, .ref 1]) dX1_init_53 vX2_init rfl ml_1_41 rfl rfl rfl isX2_init rfl npX2_init (by decide +kernel) (by decide +kernel) (Nat.le_of_ble_eq_true rfl) rfl (by decide) (by decide) (by decide +kernel) (by decide +kernel) c_X2_init_77 ?_
  rintro v Y ⟨rfl, rfl⟩
  refine ev_putR dX1_init_56 fo_1_42 (by decide) (by decide +kernel) (by decide) (Or.inl ⟨_, rfl⟩) (by first | exact Or.inl rfl | exact Or.inr ⟨rfl, rfl⟩) (by decide) ?_
  refine ev_aload_n dX1_init_59 rfl ?_
  refine ev_bipush (v := 20) dX1_init_60 (by decide +kernel) ?_
  refine ev_putI dX1_init_62 fo_1_46 (by decide) (by decide +kernel) (by decide) rfl rfl ?_
  exact ev_ret dX1_init_65 rfl ⟨rfl, rfl⟩
def y_X3_init_81 (X : LX) : LX := (lx_up (lx_row (lx_up (lx_row X 82 (fun _ => 0)) 81 0 (rE 82)) 83 (fun _ => 0)) 81 2 (rE 83))
set_option maxHeartbeats 4000000 in
theorem c_X3_init_81 {g : GG} {X : LX} : Ex g mX3_init 1 82 84 [.ref 81] X (rv (y_X3_init_81 X)) := by
  refine ex_of vX3_init (Nat.le_of_ble_eq_true rfl) (cat_of rfl) ?_
  refine ev_aload_n dX3_init_0 rfl ?_
  refine ev_objInit dX3_init_1 (gt_at 360 (by decide +kernel) rfl) oi_1 oi_2 (by decide +kernel) (by decide +kernel) (by decide) ?_
  refine ev_aload_n dX3_init_4 rfl ?_
  refine ev_bipush (v := 120) dX3_init_5 (by decide +kernel) ?_
  refine ev_newi (N := 120) dX3_init_7 (by decide +kernel) (by decide) (by decide +kernel) (by decide) ac_i (by decide +kernel) (by decide +kernel) ?_
  refine ev_putR dX3_init_9 fo_3_9 (by decide) (by decide +kernel) (by decide) (Or.inr ⟨_, rfl⟩) (by first | exact Or.inl rfl | exact Or.inr ⟨rfl, rfl⟩) (by decide) ?_
  refine ev_aload_n dX3_init_12 rfl ?_
  refine ev_bipush (v := 120) dX3_init_13 (by decide +kernel) ?_
  refine ev_newi (N := 120) dX3_init_15 (by decide +kernel) (by decide) (by decide +kernel) (by decide) ac_i (by decide +kernel) (by decide +kernel) ?_
  refine ev_putR dX3_init_17 fo_3_15 (by decide) (by decide +kernel) (by decide) (Or.inr ⟨_, rfl⟩) (by first | exact Or.inl rfl | exact Or.inr ⟨rfl, rfl⟩) (by decide) ?_
  exact ev_ret dX3_init_20 rfl ⟨rfl, rfl⟩
def y_X6_init_84 (X : LX) : LX := (lx_up (lx_up (lx_row (lx_up (lx_row X 85 (fun _ => 0)) 84 1 (rE 85)) 86 (fun _ => 0)) 84 2 (rE 86)) 84 0 (rE 1))
set_option maxHeartbeats 4000000 in
theorem c_X6_init_84 {g : GG} {X : LX} : Ex g mX6_init 1 85 87 [.ref 84, .ref 1] X (rv (y_X6_init_84 X)) := by
  refine ex_of vX6_init (Nat.le_of_ble_eq_true rfl) (cat_of rfl) ?_
  refine ev_aload_n dX6_init_0 rfl ?_
  refine ev_objInit dX6_init_1 (gt_at 406 (by decide +kernel) rfl) oi_1 oi_2 (by decide +kernel) (by decide +kernel) (by decide) ?_
  refine ev_aload_n dX6_init_4 rfl ?_
  refine ev_bipush (v := 12) dX6_init_5 (by decide +kernel) ?_
  refine ev_newi (N := 12) dX6_init_7 (by decide +kernel) (by decide) (by decide +kernel) (by decide) ac_i (by decide +kernel) (by decide +kernel) ?_
  refine ev_putR dX6_init_9 fo_6_9 (by decide) (by decide +kernel) (by decide) (Or.inr ⟨_, rfl⟩) (by first | exact Or.inl rfl | exact Or.inr ⟨rfl, rfl⟩) (by decide) ?_
  refine ev_aload_n dX6_init_12 rfl ?_
  refine ev_bipush (v := 10) dX6_init_13 (by decide +kernel) ?_
  refine ev_newi (N := 10) dX6_init_15 (by decide +kernel) (by decide) (by decide +kernel) (by decide) ac_i (by decide +kernel) (by decide +kernel) ?_
  refine ev_putR dX6_init_17 fo_6_15 (by decide) (by decide +kernel) (by decide) (Or.inr ⟨_, rfl⟩) (by first | exact Or.inl rfl | exact Or.inr ⟨rfl, rfl⟩) (by decide) ?_
  refine ev_aload_n dX6_init_20 rfl ?_
  refine ev_aload_n dX6_init_21 rfl ?_
  refine ev_putR dX6_init_22 fo_6_18 (by decide) (by decide +kernel) (by decide) (Or.inl ⟨_, rfl⟩) (by first | exact Or.inl rfl | exact Or.inr ⟨rfl, rfl⟩) (by decide) ?_
  exact ev_ret dX6_init_25 rfl ⟨rfl, rfl⟩
def y_X8_init_87 (X : LX) : LX := (lx_up (lx_up (lx_row (lx_up (lx_row (lx_up (lx_row (lx_up (lx_row (lx_up (lx_row (lx_up (lx_row (lx_up (lx_row (lx_up (lx_row (lx_up (lx_row (lx_up (lx_grid X 88 12) 87 1 (rE 88)) 101 (fun _ => 0)) 87 2 (rE 101)) 102 (fun _ => 0)) 87 4 (rE 102)) 103 (fun _ => 0)) 87 5 (rE 103)) 104 (fun _ => 0)) 87 6 (rE 104)) 105 (fun _ => 0)) 87 7 (rE 105)) 106 (fun _ => 0)) 87 8 (rE 106)) 107 (fun _ => 0)) 87 10 (rE 107)) 108 (fun _ => 0)) 87 11 (rE 108)) 109 (fun _ => 0)) 87 17 (rE 109)) 87 0 (rE 1))
set_option maxHeartbeats 4000000 in
theorem c_X8_init_87 {g : GG} {X : LX} : Ex g mX8_init 1 88 110 [.ref 87, .ref 1] X (rv (y_X8_init_87 X)) := by
  refine ex_of vX8_init (Nat.le_of_ble_eq_true rfl) (cat_of rfl) ?_
  refine ev_aload_n dX8_init_0 rfl ?_
  refine ev_objInit dX8_init_1 (gt_at 441 (by decide +kernel) rfl) oi_1 oi_2 (by decide +kernel) (by decide +kernel) (by decide) ?_
  refine ev_aload_n dX8_init_4 rfl ?_
  refine ev_bipush (v := 12) dX8_init_5 (by decide +kernel) ?_
  refine ev_bipush (v := 14) dX8_init_7 (by decide +kernel) ?_
  refine ev_grid (N := 12) (K := 14) (t0 := 0) dX8_init_9 (by decide +kernel) (by decide +kernel) (by decide) (by decide) (Or.inl ⟨rfl, rfl, rfl⟩) (by decide +kernel) (by decide +kernel) (by decide) (gt_at 442 (by decide +kernel) rfl) (by decide +kernel) (by decide +kernel) (by decide +kernel) ?_
  refine ev_putR dX8_init_13 fo_8_11 (by decide) (by decide +kernel) (by decide) (Or.inr ⟨_, rfl⟩) (by first | exact Or.inl rfl | exact Or.inr ⟨rfl, rfl⟩) (by decide) ?_
  refine ev_aload_n dX8_init_16 rfl ?_
  refine ev_bipush (v := 14) dX8_init_17 (by decide +kernel) ?_
  refine ev_newi (N := 14) dX8_init_19 (by decide +kernel) (by decide) (by decide +kernel) (by decide) ac_i (by decide +kernel) (by decide +kernel) ?_
  refine ev_putR dX8_init_21 fo_8_16 (by decide) (by decide +kernel) (by decide) (Or.inr ⟨_, rfl⟩) (by first | exact Or.inl rfl | exact Or.inr ⟨rfl, rfl⟩) (by decide) ?_
  refine ev_aload_n dX8_init_24 rfl ?_
  refine ev_bipush (v := 13) dX8_init_25 (by decide +kernel) ?_
  refine ev_newi (N := 13) dX8_init_27 (by decide +kernel) (by decide) (by decide +kernel) (by decide) ac_i (by decide +kernel) (by decide +kernel) ?_
  refine ev_putR dX8_init_29 fo_8_20 (by decide) (by decide +kernel) (by decide) (Or.inr ⟨_, rfl⟩) (by first | exact Or.inl rfl | exact Or.inr ⟨rfl, rfl⟩) (by decide) ?_
  refine ev_aload_n dX8_init_32 rfl ?_
  refine ev_sipush (v := 588) dX8_init_33 (by decide +kernel) ?_
  refine ev_newi (N := 588) dX8_init_36 (by decide +kernel) (by decide) (by decide +kernel) (by decide) ac_i (by decide +kernel) (by decide +kernel) ?_
  refine ev_putR dX8_init_38 fo_8_23 (by decide) (by decide +kernel) (by decide) (Or.inr ⟨_, rfl⟩) (by first | exact Or.inl rfl | exact Or.inr ⟨rfl, rfl⟩) (by decide) ?_
  refine ev_aload_n dX8_init_41 rfl ?_
  refine ev_sipush (v := 588) dX8_init_42 (by decide +kernel) ?_
  refine ev_newi (N := 588) dX8_init_45 (by decide +kernel) (by decide) (by decide +kernel) (by decide) ac_i (by decide +kernel) (by decide +kernel) ?_
  refine ev_putR dX8_init_47 fo_8_26 (by decide) (by decide +kernel) (by decide) (Or.inr ⟨_, rfl⟩) (by first | exact Or.inl rfl | exact Or.inr ⟨rfl, rfl⟩) (by decide) ?_
  refine ev_aload_n dX8_init_50 rfl ?_
  refine ev_sipush (v := 588) dX8_init_51 (by decide +kernel) ?_
  refine ev_newi (N := 588) dX8_init_54 (by decide +kernel) (by decide) (by decide +kernel) (by decide) ac_i (by decide +kernel) (by decide +kernel) ?_
  refine ev_putR dX8_init_56 fo_8_29 (by decide) (by decide +kernel) (by decide) (Or.inr ⟨_, rfl⟩) (by first | exact Or.inl rfl | exact Or.inr ⟨rfl, rfl⟩) (by decide) ?_
  refine ev_aload_n dX8_init_59 rfl ?_
  refine ev_sipush (v := 588) dX8_init_60 (by decide +kernel) ?_
  refine ev_newi (N := 588) dX8_init_63 (by decide +kernel) (by decide) (by decide +kernel) (by decide) ac_i (by decide +kernel) (by decide +kernel) ?_
  refine ev_putR dX8_init_65 fo_8_32 (by decide) (by decide +kernel) (by decide) (Or.inr ⟨_, rfl⟩) (by first | exact Or.inl rfl | exact Or.inr ⟨rfl, rfl⟩) (by decide) ?_
  refine ev_aload_n dX8_init_68 rfl ?_
  refine ev_bipush (v := 12) dX8_init_69 (by decide +kernel) ?_
  refine ev_newi (N := 12) dX8_init_71 (by decide +kernel) (by decide) (by decide +kernel) (by decide) ac_i (by decide +kernel) (by decide +kernel) ?_
  refine ev_putR dX8_init_73 fo_8_35 (by decide) (by decide +kernel) (by decide) (Or.inr ⟨_, rfl⟩) (by first | exact Or.inl rfl | exact Or.inr ⟨rfl, rfl⟩) (by decide) ?_
  refine ev_aload_n dX8_init_76 rfl ?_
  refine ev_bipush (v := 12) dX8_init_77 (by decide +kernel) ?_
  refine ev_newi (N := 12) dX8_init_79 (by decide +kernel) (by decide) (by decide +kernel) (by decide) ac_i (by decide +kernel) (by decide +kernel) ?_
  refine ev_putR dX8_init_81 fo_8_38 (by decide) (by decide +kernel) (by decide) (Or.inr ⟨_, rfl⟩) (by first | exact Or.inl rfl | exact Or.inr ⟨rfl, rfl⟩) (by decide) ?_
  refine ev_aload_n dX8_init_84 rfl ?_
  refine ev_bipush (v := 36) dX8_init_85 (by decide +kernel) ?_
  refine ev_newi (N := 36) dX8_init_87 (by decide +kernel) (by decide) (by decide +kernel) (by decide) ac_i (by decide +kernel) (by decide +kernel) ?_
  refine ev_putR dX8_init_89 fo_8_41 (by decide) (by decide +kernel) (by decide) (Or.inr ⟨_, rfl⟩) (by first | exact Or.inl rfl | exact Or.inr ⟨rfl, rfl⟩) (by decide) ?_
  refine ev_aload_n dX8_init_92 rfl ?_
  refine ev_aload_n dX8_init_93 rfl ?_
  refine ev_putR dX8_init_94 fo_8_44 (by decide) (by decide +kernel) (by decide) (Or.inl ⟨_, rfl⟩) (by first | exact Or.inl rfl | exact Or.inr ⟨rfl, rfl⟩) (by decide) ?_
  exact ev_ret dX8_init_97 rfl ⟨rfl, rfl⟩
def y_X10_init_110 (X : LX) : LX := (lx_up (lx_up (lx_grid (lx_up (lx_grid X 111 12) 110 1 (rE 111)) 124 2) 110 2 (rE 124)) 110 0 (rE 1))
set_option maxHeartbeats 4000000 in
theorem c_X10_init_110 {g : GG} {X : LX} : Ex g mX10_init 1 111 127 [.ref 110, .ref 1] X (rv (y_X10_init_110 X)) := by
  refine ex_of vX10_init (Nat.le_of_ble_eq_true rfl) (cat_of rfl) ?_
  refine ev_aload_n dX10_init_0 rfl ?_
  refine ev_objInit dX10_init_1 (gt_at 508 (by decide +kernel) rfl) oi_1 oi_2 (by decide +kernel) (by decide +kernel) (by decide) ?_
  refine ev_aload_n dX10_init_4 rfl ?_
  refine ev_bipush (v := 12) dX10_init_5 (by decide +kernel) ?_
  refine ev_iconst (v := 4) dX10_init_7 (by decide +kernel) ?_
  refine ev_grid (N := 12) (K := 4) (t0 := 0) dX10_init_8 (by decide +kernel) (by decide +kernel) (by decide) (by decide) (Or.inl ⟨rfl, rfl, rfl⟩) (by decide +kernel) (by decide +kernel) (by decide) (gt_at 509 (by decide +kernel) rfl) (by decide +kernel) (by decide +kernel) (by decide +kernel) ?_
  refine ev_putR dX10_init_12 fo_10_11 (by decide) (by decide +kernel) (by decide) (Or.inr ⟨_, rfl⟩) (by first | exact Or.inl rfl | exact Or.inr ⟨rfl, rfl⟩) (by decide) ?_
  refine ev_aload_n dX10_init_15 rfl ?_
  refine ev_iconst (v := 2) dX10_init_16 (by decide +kernel) ?_
  refine ev_iconst (v := 4) dX10_init_17 (by decide +kernel) ?_
  refine ev_grid (N := 2) (K := 4) (t0 := 0) dX10_init_18 (by decide +kernel) (by decide +kernel) (by decide) (by decide) (Or.inl ⟨rfl, rfl, rfl⟩) (by decide +kernel) (by decide +kernel) (by decide) (gt_at 509 (by decide +kernel) rfl) (by decide +kernel) (by decide +kernel) (by decide +kernel) ?_
  refine ev_putR dX10_init_22 fo_10_16 (by decide) (by decide +kernel) (by decide) (Or.inr ⟨_, rfl⟩) (by first | exact Or.inl rfl | exact Or.inr ⟨rfl, rfl⟩) (by decide) ?_
  refine ev_aload_n dX10_init_25 rfl ?_
  refine ev_aload_n dX10_init_26 rfl ?_
  refine ev_putR dX10_init_27 fo_10_19 (by decide) (by decide +kernel) (by decide) (Or.inl ⟨_, rfl⟩) (by first | exact Or.inl rfl | exact Or.inr ⟨rfl, rfl⟩) (by decide) ?_
  exact ev_ret dX10_init_30 rfl ⟨rfl, rfl⟩
theorem fo_9_11 : fOK RX9 11 9 0 := ⟨gt_at 537 (by decide +kernel) rfl, by decide, by decide⟩
def y_X9_init_127 (X : LX) : LX := (lx_row (lx_up (lx_row (lx_up (lx_grid X 128 2) 127 0 (rE 128)) 131 (fun _ => 0)) 127 1 (rE 131)) 131 (fillTo (fun _ => 0) (-1) 2))
set_option maxHeartbeats 4000000 in
theorem c_X9_init_127 {g : GG} {X : LX} : Ex g mX9_init 1 128 132 [.ref 127] X (rv (y_X9_init_127 X)) := by
  refine ex_of vX9_init (Nat.le_of_ble_eq_true rfl) (cat_of rfl) ?_
  refine ev_aload_n dX9_init_0 rfl ?_
  refine ev_objInit dX9_init_1 (gt_at 533 (by decide +kernel) rfl) oi_1 oi_2 (by decide +kernel) (by decide +kernel) (by decide) ?_
  refine ev_aload_n dX9_init_4 rfl ?_
  refine ev_iconst (v := 2) dX9_init_5 (by decide +kernel) ?_
  refine ev_bipush (v := 16) dX9_init_6 (by decide +kernel) ?_
  refine ev_grid (N := 2) (K := 16) (t0 := 1) dX9_init_8 (by decide +kernel) (by decide +kernel) (by decide) (by decide) (Or.inr ⟨rfl, rfl, rfl⟩) (by decide +kernel) (by decide +kernel) (by decide) (gt_at 534 (by decide +kernel) rfl) (by decide +kernel) (by decide +kernel) (by decide +kernel) ?_
  refine ev_putR dX9_init_12 fo_9_11 (by decide) (by decide +kernel) (by decide) (Or.inr ⟨_, rfl⟩) (by first | exact Or.inl rfl | exact Or.inr ⟨rfl, rfl⟩) (by decide) ?_
  refine ev_aload_n dX9_init_15 rfl ?_
  refine ev_iconst (v := 2) dX9_init_16 (by decide +kernel) ?_
  refine ev_newi (N := 2) dX9_init_17 (by decide +kernel) (by decide) (by decide +kernel) (by decide) ac_i (by decide +kernel) (by decide +kernel) ?_
  refine ev_putR dX9_init_19 fo_9_16 (by decide) (by decide +kernel) (by decide) (Or.inr ⟨_, rfl⟩) (by first | exact Or.inl rfl | exact Or.inr ⟨rfl, rfl⟩) (by decide) ?_
  refine ev_aload_n dX9_init_22 rfl ?_
  refine ev_getS (q := 131) dX9_init_23 fo_9_16 (by decide) (by decide +kernel) (by decide) (by rfl) (by decide) ?_
  refine ev_iconst (v := (-1)) dX9_init_26 (by decide +kernel) ?_
  refine ev_callS (d' := 0) (n1 := 132) (as := [.ref 131, .int (-1)]) (rest := []) dX9_init_27 vJ7_fill_53178 ml_9_20 stJ7_fill_53178 npJ7_fill_53178 (by decide +kernel) (by decide +kernel) (Nat.le_of_ble_eq_true rfl) rfl (by decide) (Nat.le_refl _) (by decide +kernel) (by decide +kernel) (z_fill (len := 2) (by decide) (by decide +kernel) (by rfl)) ?_
  rintro v Y ⟨rfl, rfl⟩
  exact ev_ret dX9_init_30 rfl ⟨rfl, rfl⟩
def y_X11_init_0 (X : LX) : LX := (lx_up (lx_row (lx_up (y_X9_init_127 (lx_row (lx_up (y_X10_init_110 (lx_row (lx_up (y_X8_init_87 (lx_row (lx_up (y_X6_init_84 (lx_row (lx_up (y_X3_init_81 (lx_row (lx_up (y_X1_init_1 (lx_row X 1 (fun _ => 0))) 0 0 (rE 1)) 81 (fun _ => 0))) 0 1 (rE 81)) 84 (fun _ => 0))) 0 2 (rE 84)) 87 (fun _ => 0))) 0 3 (rE 87)) 110 (fun _ => 0))) 0 4 (rE 110)) 127 (fun _ => 0))) 0 5 (rE 127)) 132 (fun _ => 0)) 0 6 (rE 132))
set_option maxHeartbeats 4000000 in
theorem c_X11_init_0 {g : GG} {X : LX} : Ex g mX11_init 3 1 133 [.ref 0] X (rv (y_X11_init_0 X)) := by
  refine ex_of vX11_init (Nat.le_of_ble_eq_true rfl) (cat_of rfl) ?_
  refine ev_aload_n dX11_init_0 rfl ?_
  refine ev_objInit dX11_init_1 (gt_at 99 (by decide +kernel) rfl) oi_1 oi_2 (by decide +kernel) (by decide +kernel) (by decide) ?_
  refine ev_aload_n dX11_init_4 rfl ?_
  refine ev_new (ci := 1) tyX1 dX11_init_5 (by decide +kernel) (by decide) rfl inX1 tyX1_ok df_1 (gt_at 102 (by decide +kernel) rfl) wi_1 wz_1 (by decide +kernel) (by decide +kernel) ?_
  refine ev_dup dX11_init_8 rfl ?_
  refine ev_callIN (d' := 2) (n1 := 81) (r := 1) (as := []) (rest := [.ref 1, .ref 0]) dX11_init_9 vX1_init rfl ml_11_9 rfl rfl rfl isX1_init rfl npX1_init (by decide +kernel) (by decide +kernel) (Nat.le_of_ble_eq_true rfl) rfl (by decide) (by decide) (by decide +kernel) (by decide +kernel) c_X1_init_1 ?_
  rintro v Y ⟨rfl, rfl⟩
  refine ev_putR dX11_init_12 fo_11_10 (by decide) (by decide +kernel) (by decide) (Or.inl ⟨_, rfl⟩) (by first | exact Or.inl rfl | exact Or.inr ⟨rfl, rfl⟩) (by decide) ?_
  refine ev_aload_n dX11_init_15 rfl ?_
  refine ev_new (ci := 3) tyX3 dX11_init_16 (by decide +kernel) (by decide) rfl inX3 tyX3_ok df_3 (gt_at 355 (by decide +kernel) rfl) wi_3 wz_3 (by decide +kernel) (by decide +kernel) ?_
  refine ev_dup dX11_init_19 rfl ?_
  refine ev_callIN (d' := 1) (n1 := 84) (r := 81) (as := []) (rest := [.ref 81, .ref 0]) dX11_init_20 vX3_init rfl ml_11_18 rfl rfl rfl isX3_init rfl npX3_init (by decide +kernel) (by decide +kernel) (Nat.le_of_ble_eq_true rfl) rfl (by decide) (by decide) (by decide +kernel) (by decide +kernel) c_X3_init_81 ?_
  rintro v Y ⟨rfl, rfl⟩
  refine ev_putR dX11_init_23 fo_11_19 (by decide) (by decide +kernel) (by decide) (Or.inl ⟨_, rfl⟩) (by first | exact Or.inl rfl | exact Or.inr ⟨rfl, rfl⟩) (by decide) ?_
  refine ev_aload_n dX11_init_26 rfl ?_
  refine ev_new (ci := 6) tyX6 dX11_init_27 (by decide +kernel) (by decide) rfl inX6 tyX6_ok df_6 (gt_at 401 (by decide +kernel) rfl) wi_6 wz_6 (by decide +kernel) (by decide +kernel) ?_
  refine ev_dup dX11_init_30 rfl ?_
  refine ev_aload_n dX11_init_31 rfl ?_
  refine ev_getS (q := 1) dX11_init_32 fo_11_10 (by decide) (by decide +kernel) (by decide) (by rfl) (by decide) ?_
  refine ev_callI (d' := 1) (n1 := 87) (r := 84) (as := [.ref 1]) (rest := [.ref 84, .ref 0]) dX11_init_35 vX6_init rfl ml_11_25 isX6_init rfl npX6_init (by decide +kernel) (by decide +kernel) (Nat.le_of_ble_eq_true rfl) rfl (by decide) (by decide) (by decide +kernel) (by decide +kernel) c_X6_init_84 ?_
  rintro v Y ⟨rfl, rfl⟩
  refine ev_putR dX11_init_38 fo_11_28 (by decide) (by decide +kernel) (by decide) (Or.inl ⟨_, rfl⟩) (by first | exact Or.inl rfl | exact Or.inr ⟨rfl, rfl⟩) (by decide) ?_
  refine ev_aload_n dX11_init_41 rfl ?_
  refine ev_new (ci := 8) tyX8 dX11_init_42 (by decide +kernel) (by decide) rfl inX8 tyX8_ok df_8 (gt_at 436 (by decide +kernel) rfl) wi_8 wz_8 (by decide +kernel) (by decide +kernel) ?_
  refine ev_dup dX11_init_45 rfl ?_
  refine ev_aload_n dX11_init_46 rfl ?_
  refine ev_getS (q := 1) dX11_init_47 fo_11_10 (by decide) (by decide +kernel) (by decide) (by rfl) (by decide) ?_
  refine ev_callI (d' := 1) (n1 := 110) (r := 87) (as := [.ref 1]) (rest := [.ref 87, .ref 0]) dX11_init_50 vX8_init rfl ml_11_34 isX8_init rfl npX8_init (by decide +kernel) (by decide +kernel) (Nat.le_of_ble_eq_true rfl) rfl (by decide) (by decide) (by decide +kernel) (by decide +kernel) c_X8_init_87 ?_
  rintro v Y ⟨rfl, rfl⟩
  refine ev_putR dX11_init_53 fo_11_35 (by decide) (by decide +kernel) (by decide) (Or.inl ⟨_, rfl⟩) (by first | exact Or.inl rfl | exact Or.inr ⟨rfl, rfl⟩) (by decide) ?_
  refine ev_aload_n dX11_init_56 rfl ?_
  refine ev_new (ci := 10) tyX10 dX11_init_57 (by decide +kernel) (by decide) rfl inX10 tyX10_ok df_10 (gt_at 503 (by decide +kernel) rfl) wi_10 wz_10 (by decide +kernel) (by decide +kernel) ?_
  refine ev_dup dX11_init_60 rfl ?_
  refine ev_aload_n dX11_init_61 rfl ?_
  refine ev_getS (q := 1) dX11_init_62 fo_11_10 (by decide) (by decide +kernel) (by decide) (by rfl) (by decide) ?_
  refine ev_callI (d' := 1) (n1 := 127) (r := 110) (as := [.ref 1]) (rest := [.ref 110, .ref 0]) dX11_init_65 vX10_init rfl ml_11_41 isX10_init rfl npX10_init (by decide +kernel) (by decide +kernel) (Nat.le_of_ble_eq_true rfl) rfl (by decide) (by decide) (by decide +kernel) (by decide +kernel) c_X10_init_110 ?_
  rintro v Y ⟨rfl, rfl⟩
  refine ev_putR dX11_init_68 fo_11_42 (by decide) (by decide +kernel) (by decide) (Or.inl ⟨_, rfl⟩) (by first | exact Or.inl rfl | exact Or.inr ⟨rfl, rfl⟩) (by decide) ?_
  refine ev_aload_n dX11_init_71 rfl ?_
  refine ev_new (ci := 9) tyX9 dX11_init_72 (by decide +kernel) (by decide) rfl inX9 tyX9_ok df_9 (gt_at 528 (by decide +kernel) rfl) wi_9 wz_9 (by decide +kernel) (by decide +kernel) ?_
  refine ev_dup dX11_init_75 rfl ?_
  refine ev_callI (d' := 1) (n1 := 132) (r := 127) (as := []) (rest := [.ref 127, .ref 0]) dX11_init_76 vX9_init rfl ml_11_48 isX9_init rfl npX9_init (by decide +kernel) (by decide +kernel) (Nat.le_of_ble_eq_true rfl) rfl (by decide) (by decide) (by decide +kernel) (by decide +kernel) c_X9_init_127 ?_
  rintro v Y ⟨rfl, rfl⟩
  refine ev_putR dX11_init_79 fo_11_49 (by decide) (by decide +kernel) (by decide) (Or.inl ⟨_, rfl⟩) (by first | exact Or.inl rfl | exact Or.inr ⟨rfl, rfl⟩) (by decide) ?_
  refine ev_aload_n dX11_init_82 rfl ?_
  refine ev_bipush (v := 36) dX11_init_83 (by decide +kernel) ?_
  refine ev_newi (N := 36) dX11_init_85 (by decide +kernel) (by decide) (by decide +kernel) (by decide) ac_i (by decide +kernel) (by decide +kernel) ?_
  refine ev_putR dX11_init_87 fo_11_53 (by decide) (by decide +kernel) (by decide) (Or.inr ⟨_, rfl⟩) (by first | exact Or.inl rfl | exact Or.inr ⟨rfl, rfl⟩) (by decide) ?_
  exact ev_ret dX11_init_90 rfl ⟨rfl, rfl⟩
def y_X7_init_147 (X : LX) : LX := (lx_row (lx_row (lx_row (lx_row (lx_row (lx_row (lx_row (lx_row (lx_row (lx_row (lx_row (lx_row (lx_row (lx_row (lx_up (lx_grid (lx_up (lx_row (lx_up (lx_row (lx_up (lx_row (lx_up (lx_row (lx_up (lx_row X 148 (fun _ => 0)) 147 1 (rE 148)) 149 (fun _ => 0)) 147 2 (rE 149)) 150 (fun _ => 0)) 147 3 (rE 150)) 151 (fun _ => 0)) 147 4 (rE 151)) 152 (fun _ => 0)) 147 5 (rE 152)) 153 14) 147 6 (rE 153)) 154 (fillTo (fun _ => 0) 50 14)) 155 (fillTo (fun _ => 0) 50 14)) 156 (fillTo (fun _ => 0) 50 14)) 157 (fillTo (fun _ => 0) 50 14)) 158 (fillTo (fun _ => 0) 50 14)) 159 (fillTo (fun _ => 0) 50 14)) 160 (fillTo (fun _ => 0) 50 14)) 161 (fillTo (fun _ => 0) 50 14)) 162 (fillTo (fun _ => 0) 50 14)) 163 (fillTo (fun _ => 0) 50 14)) 164 (fillTo (fun _ => 0) 50 14)) 165 (fillTo (fun _ => 0) 50 14)) 166 (fillTo (fun _ => 0) 50 14)) 167 (fillTo (fun _ => 0) 50 14))
set_option maxHeartbeats 4000000 in
theorem c_X7_init_147 {g : GG} {X : LX} : Ex g mX7_init 1 148 168 [.ref 147] X (rv (y_X7_init_147 X)) := by
  refine ex_of vX7_init (Nat.le_of_ble_eq_true rfl) (cat_of rfl) ?_
  refine ev_aload_n dX7_init_0 rfl ?_
  refine ev_objInit dX7_init_1 (gt_at 113 (by decide +kernel) rfl) oi_1 oi_2 (by decide +kernel) (by decide +kernel) (by decide) ?_
  refine ev_aload_n dX7_init_4 rfl ?_
  refine ev_bipush (v := 14) dX7_init_5 (by decide +kernel) ?_
  refine ev_newi (N := 14) dX7_init_7 (by decide +kernel) (by decide) (by decide +kernel) (by decide) ac_i (by decide +kernel) (by decide +kernel) ?_
  refine ev_putR dX7_init_9 fo_7_9 (by decide) (by decide +kernel) (by decide) (Or.inr ⟨_, rfl⟩) (by first | exact Or.inl rfl | exact Or.inr ⟨rfl, rfl⟩) (by decide) ?_
  refine ev_aload_n dX7_init_12 rfl ?_
  refine ev_bipush (v := 14) dX7_init_13 (by decide +kernel) ?_
  refine ev_newi (N := 14) dX7_init_15 (by decide +kernel) (by decide) (by decide +kernel) (by decide) ac_i (by decide +kernel) (by decide +kernel) ?_
  refine ev_putR dX7_init_17 fo_7_15 (by decide) (by decide +kernel) (by decide) (Or.inr ⟨_, rfl⟩) (by first | exact Or.inl rfl | exact Or.inr ⟨rfl, rfl⟩) (by decide) ?_
  refine ev_aload_n dX7_init_20 rfl ?_
  refine ev_bipush (v := 14) dX7_init_21 (by decide +kernel) ?_
  refine ev_newi (N := 14) dX7_init_23 (by decide +kernel) (by decide) (by decide +kernel) (by decide) ac_i (by decide +kernel) (by decide +kernel) ?_
  refine ev_putR dX7_init_25 fo_7_18 (by decide) (by decide +kernel) (by decide) (Or.inr ⟨_, rfl⟩) (by first | exact Or.inl rfl | exact Or.inr ⟨rfl, rfl⟩) (by decide) ?_
  refine ev_aload_n dX7_init_28 rfl ?_
  refine ev_bipush (v := 14) dX7_init_29 (by decide +kernel) ?_
  refine ev_newi (N := 14) dX7_init_31 (by decide +kernel) (by decide) (by decide +kernel) (by decide) ac_i (by decide +kernel) (by decide +kernel) ?_
  refine ev_putR dX7_init_33 fo_7_21 (by decide) (by decide +kernel) (by decide) (Or.inr ⟨_, rfl⟩) (by first | exact Or.inl rfl | exact Or.inr ⟨rfl, rfl⟩) (by decide) ?_
  refine ev_aload_n dX7_init_36 rfl ?_
  refine ev_bipush (v := 14) dX7_init_37 (by decide +kernel) ?_
  refine ev_newi (N := 14) dX7_init_39 (by decide +kernel) (by decide) (by decide +kernel) (by decide) ac_i (by decide +kernel) (by decide +kernel) ?_
  refine ev_putR dX7_init_41 fo_7_24 (by decide) (by decide +kernel) (by decide) (Or.inr ⟨_, rfl⟩) (by first | exact Or.inl rfl | exact Or.inr ⟨rfl, rfl⟩) (by decide) ?_
  refine ev_aload_n dX7_init_44 rfl ?_
  refine ev_bipush (v := 14) dX7_init_45 (by decide +kernel) ?_
  refine ev_bipush (v := 14) dX7_init_47 (by decide +kernel) ?_
  refine ev_grid (N := 14) (K := 14) (t0 := 0) dX7_init_49 (by decide +kernel) (by decide +kernel) (by decide) (by decide) (Or.inl ⟨rfl, rfl, rfl⟩) (by decide +kernel) (by decide +kernel) (by decide) (gt_at 114 (by decide +kernel) rfl) (by decide +kernel) (by decide +kernel) (by decide +kernel) ?_
  refine ev_putR dX7_init_53 fo_7_29 (by decide) (by decide +kernel) (by decide) (Or.inr ⟨_, rfl⟩) (by first | exact Or.inl rfl | exact Or.inr ⟨rfl, rfl⟩) (by decide) ?_
  refine ev_iconst (v := 0) dX7_init_56 (by decide +kernel) ?_
  refine ev_istore_n dX7_init_57 (by decide) ?_
  refine ev_iload_n dX7_init_58 rfl ?_
  refine ev_bipush (v := 14) dX7_init_59 (by decide +kernel) ?_
  refine ev_icmpF (tgt := 81) dX7_init_61 (by decide) (show ¬ (14 : Int32) ≤ 0 by decide +kernel) ?_
  refine ev_aload_n dX7_init_64 rfl ?_
  refine ev_getS (q := 153) dX7_init_65 fo_7_29 (by decide) (by decide +kernel) (by decide) (by rfl) (by decide) ?_
  refine ev_iload_n dX7_init_68 rfl ?_
  refine ev_aald (len := 14) (j := 0) (q := 154) dX7_init_69 (by decide) (Or.inl (by decide +kernel)) (by decide +kernel) (by decide) (by rfl) (by decide) ?_
  refine ev_bipush (v := 50) dX7_init_70 (by decide +kernel) ?_
  refine ev_callS (d' := 0) (n1 := 168) (as := [.ref 154, .int 50]) (rest := []) dX7_init_72 vJ7_fill_53178 ml_7_32 stJ7_fill_53178 npJ7_fill_53178 (by decide +kernel) (by decide +kernel) (Nat.le_of_ble_eq_true rfl) rfl (by decide) (Nat.le_refl _) (by decide +kernel) (by decide +kernel) (z_fill (len := 14) (by decide) (by decide +kernel) (by rfl)) ?_
  rintro v Y ⟨rfl, rfl⟩
  refine ev_iinc (v := 1) dX7_init_75 rfl (by decide +kernel) (by decide) ?_
  refine ev_goto (tgt := 58) dX7_init_78 (by decide) ?_
  refine ev_iload_n dX7_init_58 rfl ?_
  refine ev_bipush (v := 14) dX7_init_59 (by decide +kernel) ?_
  refine ev_icmpF (tgt := 81) dX7_init_61 (by decide) (show ¬ (14 : Int32) ≤ 1 by decide +kernel) ?_
  refine ev_aload_n dX7_init_64 rfl ?_
  refine ev_getS (q := 153) dX7_init_65 fo_7_29 (by decide) (by decide +kernel) (by decide) (by rfl) (by decide) ?_
  refine ev_iload_n dX7_init_68 rfl ?_
  refine ev_aald (len := 14) (j := 1) (q := 155) dX7_init_69 (by decide) (Or.inl (by decide +kernel)) (by decide +kernel) (by decide) (by rfl) (by decide) ?_
  refine ev_bipush (v := 50) dX7_init_70 (by decide +kernel) ?_
  refine ev_callS (d' := 0) (n1 := 168) (as := [.ref 155, .int 50]) (rest := []) dX7_init_72 vJ7_fill_53178 ml_7_32 stJ7_fill_53178 npJ7_fill_53178 (by decide +kernel) (by decide +kernel) (Nat.le_of_ble_eq_true rfl) rfl (by decide) (Nat.le_refl _) (by decide +kernel) (by decide +kernel) (z_fill (len := 14) (by decide) (by decide +kernel) (by rfl)) ?_
  rintro v Y ⟨rfl, rfl⟩
  refine ev_iinc (v := 2) dX7_init_75 rfl (by decide +kernel) (by decide) ?_
  refine ev_goto (tgt := 58) dX7_init_78 (by decide) ?_
  refine ev_iload_n dX7_init_58 rfl ?_
  refine ev_bipush (v := 14) dX7_init_59 (by decide +kernel) ?_
  refine ev_icmpF (tgt := 81) dX7_init_61 (by decide) (show ¬ (14 : Int32) ≤ 2 by decide +kernel) ?_
  refine ev_aload_n dX7_init_64 rfl ?_
  refine ev_getS (q := 153) dX7_init_65 fo_7_29 (by decide) (by decide +kernel) (by decide) (by rfl) (by decide) ?_
  refine ev_iload_n dX7_init_68 rfl ?_
  refine ev_aald (len := 14) (j := 2) (q := 156) dX7_init_69 (by decide) (Or.inl (by decide +kernel)) (by decide +kernel) (by decide) (by rfl) (by decide) ?_
  refine ev_bipush (v := 50) dX7_init_70 (by decide +kernel) ?_
  refine ev_callS (d' := 0) (n1 := 168) (as := [.ref 156, .int 50]) (rest := []) dX7_init_72 vJ7_fill_53178 ml_7_32 stJ7_fill_53178 npJ7_fill_53178 (by decide +kernel) (by decide +kernel) (Nat.le_of_ble_eq_true rfl) rfl (by decide) (Nat.le_refl _) (by decide +kernel) (by decide +kernel) (z_fill (len := 14) (by decide) (by decide +kernel) (by rfl)) ?_
  rintro v Y ⟨rfl, rfl⟩
  refine ev_iinc (v := 3) dX7_init_75 rfl (by decide +kernel) (by decide) ?_
  refine ev_goto (tgt := 58) dX7_init_78 (by decide) ?_
  refine ev_iload_n dX7_init_58 rfl ?_
  refine ev_bipush (v := 14) dX7_init_59 (by decide +kernel) ?_
  refine ev_icmpF (tgt := 81) dX7_init_61 (by decide) (show ¬ (14 : Int32) ≤ 3 by decide +kernel) ?_
  refine ev_aload_n dX7_init_64 rfl ?_
  refine ev_getS (q := 153) dX7_init_65 fo_7_29 (by decide) (by decide +kernel) (by decide) (by rfl) (by decide) ?_
  refine ev_iload_n dX7_init_68 rfl ?_
  refine ev_aald (len := 14) (j := 3) (q := 157) dX7_init_69 (by decide) (Or.inl (by decide +kernel)) (by decide +kernel) (by decide) (by rfl) (by decide) ?_
  refine ev_bipush (v := 50) dX7_init_70 (by decide +kernel) ?_
  refine ev_callS (d' := 0) (n1 := 168) (as := [.ref 157, .int 50]) (rest := []) dX7_init_72 vJ7_fill_53178 ml_7_32 stJ7_fill_53178 npJ7_fill_53178 (by decide +kernel) (by decide +kernel) (Nat.le_of_ble_eq_true rfl) rfl (by decide) (Nat.le_refl _) (by decide +kernel) (by decide +kernel) (z_fill (len := 14) (by decide) (by decide +kernel) (by rfl)) ?_
  rintro v Y ⟨rfl, rfl⟩
  refine ev_iinc (v := 4) dX7_init_75 rfl (by decide +kernel) (by decide) ?_
  refine ev_goto (tgt := 58) dX7_init_78 (by decide) ?_
  refine ev_iload_n dX7_init_58 rfl ?_
  refine ev_bipush (v := 14) dX7_init_59 (by decide +kernel) ?_
  refine ev_icmpF (tgt := 81) dX7_init_61 (by decide) (show ¬ (14 : Int32) ≤ 4 by decide +kernel) ?_
  refine ev_aload_n dX7_init_64 rfl ?_
  refine ev_getS (q := 153) dX7_init_65 fo_7_29 (by decide) (by decide +kernel) (by decide) (by rfl) (by decide) ?_
  refine ev_iload_n dX7_init_68 rfl ?_
  refine ev_aald (len := 14) (j := 4) (q := 158) dX7_init_69 (by decide) (Or.inl (by decide +kernel)) (by decide +kernel) (by decide) (by rfl) (by decide) ?_
  refine ev_bipush (v := 50) dX7_init_70 (by decide +kernel) ?_
  refine ev_callS (d' := 0) (n1 := 168) (as := [.ref 158, .int 50]) (rest := []) dX7_init_72 vJ7_fill_53178 ml_7_32 stJ7_fill_53178 npJ7_fill_53178 (by decide +kernel) (by decide +kernel) (Nat.le_of_ble_eq_true rfl) rfl (by decide) (Nat.le_refl _) (by decide +kernel) (by decide +kernel) (z_fill (len := 14) (by decide) (by decide +kernel) (by rfl)) ?_
  rintro v Y ⟨rfl, rfl⟩
  refine ev_iinc (v := 5) dX7_init_75 rfl (by decide +kernel) (by decide) ?_
  refine ev_goto (tgt := 58) dX7_init_78 (by decide) ?_
  refine ev_iload_n dX7_init_58 rfl ?_
  refine ev_bipush (v := 14) dX7_init_59 (by decide +kernel) ?_
  refine ev_icmpF (tgt := 81) dX7_init_61 (by decide) (show ¬ (14 : Int32) ≤ 5 by decide +kernel) ?_
  refine ev_aload_n dX7_init_64 rfl ?_
  refine ev_getS (q := 153) dX7_init_65 fo_7_29 (by decide) (by decide +kernel) (by decide) (by rfl) (by decide) ?_
  refine ev_iload_n dX7_init_68 rfl ?_
  refine ev_aald (len := 14) (j := 5) (q := 159) dX7_init_69 (by decide) (Or.inl (by decide +kernel)) (by decide +kernel) (by decide) (by rfl) (by decide) ?_
  refine ev_bipush (v := 50) dX7_init_70 (by decide +kernel) ?_
  refine ev_callS (d' := 0) (n1 := 168) (as := [.ref 159, .int 50]) (rest := []) dX7_init_72 vJ7_fill_53178 ml_7_32 stJ7_fill_53178 npJ7_fill_53178 (by decide +kernel) (by decide +kernel) (Nat.le_of_ble_eq_true rfl) rfl (by decide) (Nat.le_refl _) (by decide +kernel) (by decide +kernel) (z_fill (len := 14) (by decide) (by decide +kernel) (by rfl)) ?_
  rintro v Y ⟨rfl, rfl⟩
  refine ev_iinc (v := 6) dX7_init_75 rfl (by decide +kernel) (by decide) ?_
  refine ev_goto (tgt := 58) dX7_init_78 (by decide) ?_
  refine ev_iload_n dX7_init_58 rfl ?_
  refine ev_bipush (v := 14) dX7_init_59 (by decide +kernel) ?_
  refine ev_icmpF (tgt := 81) dX7_init_61 (by decide) (show ¬ (14 : Int32) ≤ 6 by decide +kernel) ?_
  refine ev_aload_n dX7_init_64 rfl ?_
  refine ev_getS (q := 153) dX7_init_65 fo_7_29 (by decide) (by decide +kernel) (by decide) (by rfl) (by decide) ?_
  refine ev_iload_n dX7_init_68 rfl ?_
  refine ev_aald (len := 14) (j := 6) (q := 160) dX7_init_69 (by decide) (Or.inl (by decide +kernel)) (by decide +kernel) (by decide) (by rfl) (by decide) ?_
  refine ev_bipush (v := 50) dX7_init_70 (by decide +kernel) ?_
  refine ev_callS (d' := 0) (n1 := 168) (as := [.ref 160, .int 50]) (rest := []) dX7_init_72 vJ7_fill_53178 ml_7_32 stJ7_fill_53178 npJ7_fill_53178 (by decide +kernel) (by decide +kernel) (Nat.le_of_ble_eq_true rfl) rfl (by decide) (Nat.le_refl _) (by decide +kernel) (by decide +kernel) (z_fill (len := 14) (by decide) (by decide +kernel) (by rfl)) ?_
  rintro v Y ⟨rfl, rfl⟩
  refine ev_iinc (v := 7) dX7_init_75 rfl (by decide +kernel) (by decide) ?_
  refine ev_goto (tgt := 58) dX7_init_78 (by decide) ?_
  refine ev_iload_n dX7_init_58 rfl ?_
  refine ev_bipush (v := 14) dX7_init_59 (by decide +kernel) ?_
  refine ev_icmpF (tgt := 81) dX7_init_61 (by decide) (show ¬ (14 : Int32) ≤ 7 by decide +kernel) ?_
  refine ev_aload_n dX7_init_64 rfl ?_
  refine ev_getS (q := 153) dX7_init_65 fo_7_29 (by decide) (by decide +kernel) (by decide) (by rfl) (by decide) ?_
  refine ev_iload_n dX7_init_68 rfl ?_
  refine ev_aald (len := 14) (j := 7) (q := 161) dX7_init_69 (by decide) (Or.inl (by decide +kernel)) (by decide +kernel) (by decide) (by rfl) (by decide) ?_
  refine ev_bipush (v := 50) dX7_init_70 (by decide +kernel) ?_
  refine ev_callS (d' := 0) (n1 := 168) (as := [.ref 161, .int 50]) (rest := []) dX7_init_72 vJ7_fill_53178 ml_7_32 stJ7_fill_53178 npJ7_fill_53178 (by decide +kernel) (by decide +kernel) (Nat.le_of_ble_eq_true rfl) rfl (by decide) (Nat.le_refl _) (by decide +kernel) (by decide +kernel) (z_fill (len := 14) (by decide) (by decide +kernel) (by rfl)) ?_
  rintro v Y ⟨rfl, rfl⟩
  refine ev_iinc (v := 8) dX7_init_75 rfl (by decide +kernel) (by decide) ?_
  refine ev_goto (tgt := 58) dX7_init_78 (by decide) ?_
  refine ev_iload_n dX7_init_58 rfl ?_
  refine ev_bipush (v := 14) dX7_init_59 (by decide +kernel) ?_
  refine ev_icmpF (tgt := 81) dX7_init_61 (by decide) (show ¬ (14 : Int32) ≤ 8 by decide +kernel) ?_
  refine ev_aload_n dX7_init_64 rfl ?_
  refine ev_getS (q := 153) dX7_init_65 fo_7_29 (by decide) (by decide +kernel) (by decide) (by rfl) (by decide) ?_
  refine ev_iload_n dX7_init_68 rfl ?_
  refine ev_aald (len := 14) (j := 8) (q := 162) dX7_init_69 (by decide) (Or.inl (by decide +kernel)) (by decide +kernel) (by decide) (by rfl) (by decide) ?_
  refine ev_bipush (v := 50) dX7_init_70 (by decide +kernel) ?_
  refine ev_callS (d' := 0) (n1 := 168) (as := [.ref 162, .int 50]) (rest := []) dX7_init_72 vJ7_fill_53178 ml_7_32 stJ7_fill_53178 npJ7_fill_53178 (by decide +kernel) (by decide +kernel) (Nat.le_of_ble_eq_true rfl) rfl (by decide) (Nat.le_refl _) (by decide +kernel) (by decide +kernel) (z_fill (len := 14) (by decide) (by decide +kernel) (by rfl)) ?_
  rintro v Y ⟨rfl, rfl⟩
  refine ev_iinc (v := 9) dX7_init_75 rfl (by decide +kernel) (by decide) ?_
  refine ev_goto (tgt := 58) dX7_init_78 (by decide) ?_
  refine ev_iload_n dX7_init_58 rfl ?_
  refine ev_bipush (v := 14) dX7_init_59 (by decide +kernel) ?_
  refine ev_icmpF (tgt := 81) dX7_init_61 (by decide) (show ¬ (14 : Int32) ≤ 9 by decide +kernel) ?_
  refine ev_aload_n dX7_init_64 rfl ?_
  refine ev_getS (q := 153) dX7_init_65 fo_7_29 (by decide) (by decide +kernel) (by decide) (by rfl) (by decide) ?_
  refine ev_iload_n dX7_init_68 rfl ?_
  refine ev_aald (len := 14) (j := 9) (q := 163) dX7_init_69 (by decide) (Or.inl (by decide +kernel)) (by decide +kernel) (by decide) (by rfl) (by decide) ?_
  refine ev_bipush (v := 50) dX7_init_70 (by decide +kernel) ?_
  refine ev_callS (d' := 0) (n1 := 168) (as := [.ref 163, .int 50]) (rest := []) dX7_init_72 vJ7_fill_53178 ml_7_32 stJ7_fill_53178 npJ7_fill_53178 (by decide +kernel) (by decide +kernel) (Nat.le_of_ble_eq_true rfl) rfl (by decide) (Nat.le_refl _) (by decide +kernel) (by decide +kernel) (z_fill (len := 14) (by decide) (by decide +kernel) (by rfl)) ?_
  rintro v Y ⟨rfl, rfl⟩
  refine ev_iinc (v := 10) dX7_init_75 rfl (by decide +kernel) (by decide) ?_
  refine ev_goto (tgt := 58) dX7_init_78 (by decide) ?_
  refine ev_iload_n dX7_init_58 rfl ?_
  refine ev_bipush (v := 14) dX7_init_59 (by decide +kernel) ?_
  refine ev_icmpF (tgt := 81) dX7_init_61 (by decide) (show ¬ (14 : Int32) ≤ 10 by decide +kernel) ?_
  refine ev_aload_n dX7_init_64 rfl ?_
  refine ev_getS (q := 153) dX7_init_65 fo_7_29 (by decide) (by decide +kernel) (by decide) (by rfl) (by decide) ?_
  refine ev_iload_n dX7_init_68 rfl ?_
  refine ev_aald (len := 14) (j := 10) (q := 164) dX7_init_69 (by decide) (Or.inl (by decide +kernel)) (by decide +kernel) (by decide) (by rfl) (by decide) ?_
  refine ev_bipush (v := 50) dX7_init_70 (by decide +kernel) ?_
  refine ev_callS (d' := 0) (n1 := 168) (as := [.ref 164, .int 50]) (rest := []) dX7_init_72 vJ7_fill_53178 ml_7_32 stJ7_fill_53178 npJ7_fill_53178 (by decide +kernel) (by decide +kernel) (Nat.le_of_ble_eq_true rfl) rfl (by decide) (Nat.le_refl _) (by decide +kernel) (by decide +kernel) (z_fill (len := 14) (by decide) (by decide +kernel) (by rfl)) ?_
  rintro v Y ⟨rfl, rfl⟩
  refine ev_iinc (v := 11) dX7_init_75 rfl (by decide +kernel) (by decide) ?_
  refine ev_goto (tgt := 58) dX7_init_78 (by decide) ?_
  refine ev_iload_n dX7_init_58 rfl ?_
  refine ev_bipush (v := 14) dX7_init_59 (by decide +kernel) ?_
  refine ev_icmpF (tgt := 81) dX7_init_61 (by decide) (show ¬ (14 : Int32) ≤ 11 by decide +kernel) ?_
  refine ev_aload_n dX7_init_64 rfl ?_
  refine ev_getS (q := 153) dX7_init_65 fo_7_29 (by decide) (by decide +kernel) (by decide) (by rfl) (by decide) ?_
  refine ev_iload_n dX7_init_68 rfl ?_
  refine ev_aald (len := 14) (j := 11) (q := 165) dX7_init_69 (by decide) (Or.inl (by decide +kernel)) (by decide +kernel) (by decide) (by rfl) (by decide) ?_
  refine ev_bipush (v := 50) dX7_init_70 (by decide +kernel) ?_
  refine ev_callS (d' := 0) (n1 := 168) (as := [.ref 165, .int 50]) (rest := []) dX7_init_72 vJ7_fill_53178 ml_7_32 stJ7_fill_53178 npJ7_fill_53178 (by decide +kernel) (by decide +kernel) (Nat.le_of_ble_eq_true rfl) rfl (by decide) (Nat.le_refl _) (by decide +kernel) (by decide +kernel) (z_fill (len := 14) (by decide) (by decide +kernel) (by rfl)) ?_
  rintro v Y ⟨rfl, rfl⟩
  refine ev_iinc (v := 12) dX7_init_75 rfl (by decide +kernel) (by decide) ?_
  refine ev_goto (tgt := 58) dX7_init_78 (by decide) ?_
  refine ev_iload_n dX7_init_58 rfl ?_
  refine ev_bipush (v := 14) dX7_init_59 (by decide +kernel) ?_
  refine ev_icmpF (tgt := 81) dX7_init_61 (by decide) (show ¬ (14 : Int32) ≤ 12 by decide +kernel) ?_
  refine ev_aload_n dX7_init_64 rfl ?_
  refine ev_getS (q := 153) dX7_init_65 fo_7_29 (by decide) (by decide +kernel) (by decide) (by rfl) (by decide) ?_
  refine ev_iload_n dX7_init_68 rfl ?_
  refine ev_aald (len := 14) (j := 12) (q := 166) dX7_init_69 (by decide) (Or.inl (by decide +kernel)) (by decide +kernel) (by decide) (by rfl) (by decide) ?_
  refine ev_bipush (v := 50) dX7_init_70 (by decide +kernel) ?_
  refine ev_callS (d' := 0) (n1 := 168) (as := [.ref 166, .int 50]) (rest := []) dX7_init_72 vJ7_fill_53178 ml_7_32 stJ7_fill_53178 npJ7_fill_53178 (by decide +kernel) (by decide +kernel) (Nat.le_of_ble_eq_true rfl) rfl (by decide) (Nat.le_refl _) (by decide +kernel) (by decide +kernel) (z_fill (len := 14) (by decide) (by decide +kernel) (by rfl)) ?_
  rintro v Y ⟨rfl, rfl⟩
  refine ev_iinc (v := 13) dX7_init_75 rfl (by decide +kernel) (by decide) ?_
  refine ev_goto (tgt := 58) dX7_init_78 (by decide) ?_
  refine ev_iload_n dX7_init_58 rfl ?_
  refine ev_bipush (v := 14) dX7_init_59 (by decide +kernel) ?_
  refine ev_icmpF (tgt := 81) dX7_init_61 (by decide) (show ¬ (14 : Int32) ≤ 13 by decide +kernel) ?_
  refine ev_aload_n dX7_init_64 rfl ?_
  refine ev_getS (q := 153) dX7_init_65 fo_7_29 (by decide) (by decide +kernel) (by decide) (by rfl) (by decide) ?_
  refine ev_iload_n dX7_init_68 rfl ?_
  refine ev_aald (len := 14) (j := 13) (q := 167) dX7_init_69 (by decide) (Or.inl (by decide +kernel)) (by decide +kernel) (by decide) (by rfl) (by decide) ?_
  refine ev_bipush (v := 50) dX7_init_70 (by decide +kernel) ?_
  refine ev_callS (d' := 0) (n1 := 168) (as := [.ref 167, .int 50]) (rest := []) dX7_init_72 vJ7_fill_53178 ml_7_32 stJ7_fill_53178 npJ7_fill_53178 (by decide +kernel) (by decide +kernel) (Nat.le_of_ble_eq_true rfl) rfl (by decide) (Nat.le_refl _) (by decide +kernel) (by decide +kernel) (z_fill (len := 14) (by decide) (by decide +kernel) (by rfl)) ?_
  rintro v Y ⟨rfl, rfl⟩
  refine ev_iinc (v := 14) dX7_init_75 rfl (by decide +kernel) (by decide) ?_
  refine ev_goto (tgt := 58) dX7_init_78 (by decide) ?_
  refine ev_iload_n dX7_init_58 rfl ?_
  refine ev_bipush (v := 14) dX7_init_59 (by decide +kernel) ?_
  refine ev_icmpT (tgt := 81) dX7_init_61 (by decide) (show (14 : Int32) ≤ 14 by decide +kernel) ?_
  exact ev_ret dX7_init_81 rfl ⟨rfl, rfl⟩
def y_X5_init_168 (X : LX) : LX := (lx_up (lx_grid (lx_up (lx_row (lx_up (lx_row X 169 (fun _ => 0)) 168 1 (rE 169)) 170 (fun _ => 0)) 168 2 (rE 170)) 171 10) 168 3 (rE 171))
set_option maxHeartbeats 4000000 in
theorem c_X5_init_168 {g : GG} {X : LX} : Ex g mX5_init 1 169 182 [.ref 168] X (rv (y_X5_init_168 X)) := by
  refine ex_of vX5_init (Nat.le_of_ble_eq_true rfl) (cat_of rfl) ?_
  refine ev_aload_n dX5_init_0 rfl ?_
  refine ev_objInit dX5_init_1 (gt_at 164 (by decide +kernel) rfl) oi_1 oi_2 (by decide +kernel) (by decide +kernel) (by decide) ?_
  refine ev_aload_n dX5_init_4 rfl ?_
  refine ev_bipush (v := 10) dX5_init_5 (by decide +kernel) ?_
  refine ev_newi (N := 10) dX5_init_7 (by decide +kernel) (by decide) (by decide +kernel) (by decide) ac_i (by decide +kernel) (by decide +kernel) ?_
  refine ev_putR dX5_init_9 fo_5_9 (by decide) (by decide +kernel) (by decide) (Or.inr ⟨_, rfl⟩) (by first | exact Or.inl rfl | exact Or.inr ⟨rfl, rfl⟩) (by decide) ?_
  refine ev_aload_n dX5_init_12 rfl ?_
  refine ev_bipush (v := 10) dX5_init_13 (by decide +kernel) ?_
  refine ev_newi (N := 10) dX5_init_15 (by decide +kernel) (by decide) (by decide +kernel) (by decide) ac_i (by decide +kernel) (by decide +kernel) ?_
  refine ev_putR dX5_init_17 fo_5_15 (by decide) (by decide +kernel) (by decide) (Or.inr ⟨_, rfl⟩) (by first | exact Or.inl rfl | exact Or.inr ⟨rfl, rfl⟩) (by decide) ?_
  refine ev_aload_n dX5_init_20 rfl ?_
  refine ev_bipush (v := 10) dX5_init_21 (by decide +kernel) ?_
  refine ev_bipush (v := 14) dX5_init_23 (by decide +kernel) ?_
  refine ev_grid (N := 10) (K := 14) (t0 := 0) dX5_init_25 (by decide +kernel) (by decide +kernel) (by decide) (by decide) (Or.inl ⟨rfl, rfl, rfl⟩) (by decide +kernel) (by decide +kernel) (by decide) (gt_at 165 (by decide +kernel) rfl) (by decide +kernel) (by decide +kernel) (by decide +kernel) ?_
  refine ev_putR dX5_init_29 fo_5_20 (by decide) (by decide +kernel) (by decide) (Or.inr ⟨_, rfl⟩) (by first | exact Or.inl rfl | exact Or.inr ⟨rfl, rfl⟩) (by decide) ?_
  exact ev_ret dX5_init_32 rfl ⟨rfl, rfl⟩
def y_X0_init_182 (X : LX) : LX := (lx_row (lx_row (lx_row (lx_row (lx_row (lx_row (lx_row (lx_row (lx_row (lx_row (lx_row (lx_row (lx_up (lx_grid (lx_up (lx_grid (lx_up (lx_row (lx_up (lx_row (lx_up (lx_row (lx_up (lx_row (lx_up (lx_row X 183 (fun _ => 0)) 182 1 (rE 183)) 184 (fun _ => 0)) 182 2 (rE 184)) 185 (fun _ => 0)) 182 3 (rE 185)) 186 (fun _ => 0)) 182 4 (rE 186)) 187 (fun _ => 0)) 182 5 (rE 187)) 188 12) 182 6 (rE 188)) 201 12) 182 7 (rE 201)) 189 (fillTo (fun _ => 0) 5 10)) 190 (fillTo (fun _ => 0) 5 10)) 191 (fillTo (fun _ => 0) 5 10)) 192 (fillTo (fun _ => 0) 5 10)) 193 (fillTo (fun _ => 0) 5 10)) 194 (fillTo (fun _ => 0) 5 10)) 195 (fillTo (fun _ => 0) 5 10)) 196 (fillTo (fun _ => 0) 5 10)) 197 (fillTo (fun _ => 0) 5 10)) 198 (fillTo (fun _ => 0) 5 10)) 199 (fillTo (fun _ => 0) 5 10)) 200 (fillTo (fun _ => 0) 5 10))
set_option maxHeartbeats 4000000 in
theorem c_X0_init_182 {g : GG} {X : LX} : Ex g mX0_init 1 183 214 [.ref 182] X (rv (y_X0_init_182 X)) := by
  refine ex_of vX0_init (Nat.le_of_ble_eq_true rfl) (cat_of rfl) ?_
  refine ev_aload_n dX0_init_0 rfl ?_
  refine ev_objInit dX0_init_1 (gt_at 193 (by decide +kernel) rfl) oi_1 oi_2 (by decide +kernel) (by decide +kernel) (by decide) ?_
  refine ev_aload_n dX0_init_4 rfl ?_
  refine ev_bipush (v := 12) dX0_init_5 (by decide +kernel) ?_
  refine ev_newi (N := 12) dX0_init_7 (by decide +kernel) (by decide) (by decide +kernel) (by decide) ac_i (by decide +kernel) (by decide +kernel) ?_
  refine ev_putR dX0_init_9 fo_0_9 (by decide) (by decide +kernel) (by decide) (Or.inr ⟨_, rfl⟩) (by first | exact Or.inl rfl | exact Or.inr ⟨rfl, rfl⟩) (by decide) ?_
  refine ev_aload_n dX0_init_12 rfl ?_
  refine ev_bipush (v := 12) dX0_init_13 (by decide +kernel) ?_
  refine ev_newi (N := 12) dX0_init_15 (by decide +kernel) (by decide) (by decide +kernel) (by decide) ac_i (by decide +kernel) (by decide +kernel) ?_
  refine ev_putR dX0_init_17 fo_0_15 (by decide) (by decide +kernel) (by decide) (Or.inr ⟨_, rfl⟩) (by first | exact Or.inl rfl | exact Or.inr ⟨rfl, rfl⟩) (by decide) ?_
  refine ev_aload_n dX0_init_20 rfl ?_
  refine ev_bipush (v := 12) dX0_init_21 (by decide +kernel) ?_
  refine ev_newi (N := 12) dX0_init_23 (by decide +kernel) (by decide) (by decide +kernel) (by decide) ac_i (by decide +kernel) (by decide +kernel) ?_
  refine ev_putR dX0_init_25 fo_0_18 (by decide) (by decide +kernel) (by decide) (Or.inr ⟨_, rfl⟩) (by first | exact Or.inl rfl | exact Or.inr ⟨rfl, rfl⟩) (by decide) ?_
  refine ev_aload_n dX0_init_28 rfl ?_
  refine ev_bipush (v := 12) dX0_init_29 (by decide +kernel) ?_
  refine ev_newi (N := 12) dX0_init_31 (by decide +kernel) (by decide) (by decide +kernel) (by decide) ac_i (by decide +kernel) (by decide +kernel) ?_
  refine ev_putR dX0_init_33 fo_0_21 (by decide) (by decide +kernel) (by decide) (Or.inr ⟨_, rfl⟩) (by first | exact Or.inl rfl | exact Or.inr ⟨rfl, rfl⟩) (by decide) ?_
  refine ev_aload_n dX0_init_36 rfl ?_
  refine ev_bipush (v := 12) dX0_init_37 (by decide +kernel) ?_
  refine ev_newi (N := 12) dX0_init_39 (by decide +kernel) (by decide) (by decide +kernel) (by decide) ac_i (by decide +kernel) (by decide +kernel) ?_
  refine ev_putR dX0_init_41 fo_0_24 (by decide) (by decide +kernel) (by decide) (Or.inr ⟨_, rfl⟩) (by first | exact Or.inl rfl | exact Or.inr ⟨rfl, rfl⟩) (by decide) ?_
  refine ev_aload_n dX0_init_44 rfl ?_
  refine ev_bipush (v := 12) dX0_init_45 (by decide +kernel) ?_
  refine ev_bipush (v := 10) dX0_init_47 (by decide +kernel) ?_
  refine ev_grid (N := 12) (K := 10) (t0 := 0) dX0_init_49 (by decide +kernel) (by decide +kernel) (by decide) (by decide) (Or.inl ⟨rfl, rfl, rfl⟩) (by decide +kernel) (by decide +kernel) (by decide) (gt_at 194 (by decide +kernel) rfl) (by decide +kernel) (by decide +kernel) (by decide +kernel) ?_
  refine ev_putR dX0_init_53 fo_0_29 (by decide) (by decide +kernel) (by decide) (Or.inr ⟨_, rfl⟩) (by first | exact Or.inl rfl | exact Or.inr ⟨rfl, rfl⟩) (by decide) ?_
  refine ev_aload_n dX0_init_56 rfl ?_
  refine ev_bipush (v := 12) dX0_init_57 (by decide +kernel) ?_
  refine ev_bipush (v := 100) dX0_init_59 (by decide +kernel) ?_
  refine ev_grid (N := 12) (K := 100) (t0 := 0) dX0_init_61 (by decide +kernel) (by decide +kernel) (by decide) (by decide) (Or.inl ⟨rfl, rfl, rfl⟩) (by decide +kernel) (by decide +kernel) (by decide) (gt_at 194 (by decide +kernel) rfl) (by decide +kernel) (by decide +kernel) (by decide +kernel) ?_
  refine ev_putR dX0_init_65 fo_0_32 (by decide) (by decide +kernel) (by decide) (Or.inr ⟨_, rfl⟩) (by first | exact Or.inl rfl | exact Or.inr ⟨rfl, rfl⟩) (by decide) ?_
  refine ev_iconst (v := 0) dX0_init_68 (by decide +kernel) ?_
  refine ev_istore_n dX0_init_69 (by decide) ?_
  refine ev_iload_n dX0_init_70 rfl ?_
  refine ev_bipush (v := 12) dX0_init_71 (by decide +kernel) ?_
  refine ev_icmpF (tgt := 92) dX0_init_73 (by decide) (show ¬ (12 : Int32) ≤ 0 by decide +kernel) ?_
  refine ev_aload_n dX0_init_76 rfl ?_
  refine ev_getS (q := 188) dX0_init_77 fo_0_29 (by decide) (by decide +kernel) (by decide) (by rfl) (by decide) ?_
  refine ev_iload_n dX0_init_80 rfl ?_
  refine ev_aald (len := 12) (j := 0) (q := 189) dX0_init_81 (by decide) (Or.inl (by decide +kernel)) (by decide +kernel) (by decide) (by rfl) (by decide) ?_
  refine ev_iconst (v := 5) dX0_init_82 (by decide +kernel) ?_
  refine ev_callS (d' := 0) (n1 := 214) (as := [.ref 189, .int 5]) (rest := []) dX0_init_83 vJ7_fill_53178 ml_0_35 stJ7_fill_53178 npJ7_fill_53178 (by decide +kernel) (by decide +kernel) (Nat.le_of_ble_eq_true rfl) rfl (by decide) (Nat.le_refl _) (by decide +kernel) (by decide +kernel) (z_fill (len := 10) (by decide) (by decide +kernel) (by rfl)) ?_
  rintro v Y ⟨rfl, rfl⟩
  refine ev_iinc (v := 1) dX0_init_86 rfl (by decide +kernel) (by decide) ?_
  refine ev_goto (tgt := 70) dX0_init_89 (by decide) ?_
  refine ev_iload_n dX0_init_70 rfl ?_
  refine ev_bipush (v := 12) dX0_init_71 (by decide +kernel) ?_
  refine ev_icmpF (tgt := 92) dX0_init_73 (by decide) (show ¬ (12 : Int32) ≤ 1 by decide +kernel) ?_
  refine ev_aload_n dX0_init_76 rfl ?_
  refine ev_getS (q := 188) dX0_init_77 fo_0_29 (by decide) (by decide +kernel) (by decide) (by rfl) (by decide) ?_
  refine ev_iload_n dX0_init_80 rfl ?_
  refine ev_aald (len := 12) (j := 1) (q := 190) dX0_init_81 (by decide) (Or.inl (by decide +kernel)) (by decide +kernel) (by decide) (by rfl) (by decide) ?_
  refine ev_iconst (v := 5) dX0_init_82 (by decide +kernel) ?_
  refine ev_callS (d' := 0) (n1 := 214) (as := [.ref 190, .int 5]) (rest := []) dX0_init_83 vJ7_fill_53178 ml_0_35 stJ7_fill_53178 npJ7_fill_53178 (by decide +kernel) (by decide +kernel) (Nat.le_of_ble_eq_true rfl) rfl (by decide) (Nat.le_refl _) (by decide +kernel) (by decide +kernel) (z_fill (len := 10) (by decide) (by decide +kernel) (by rfl)) ?_
  rintro v Y ⟨rfl, rfl⟩
  refine ev_iinc (v := 2) dX0_init_86 rfl (by decide +kernel) (by decide) ?_
  refine ev_goto (tgt := 70) dX0_init_89 (by decide) ?_
  refine ev_iload_n dX0_init_70 rfl ?_
  refine ev_bipush (v := 12) dX0_init_71 (by decide +kernel) ?_
  refine ev_icmpF (tgt := 92) dX0_init_73 (by decide) (show ¬ (12 : Int32) ≤ 2 by decide +kernel) ?_
  refine ev_aload_n dX0_init_76 rfl ?_
  refine ev_getS (q := 188) dX0_init_77 fo_0_29 (by decide) (by decide +kernel) (by decide) (by rfl) (by decide) ?_
  refine ev_iload_n dX0_init_80 rfl ?_
  refine ev_aald (len := 12) (j := 2) (q := 191) dX0_init_81 (by decide) (Or.inl (by decide +kernel)) (by decide +kernel) (by decide) (by rfl) (by decide) ?_
  refine ev_iconst (v := 5) dX0_init_82 (by decide +kernel) ?_
  refine ev_callS (d' := 0) (n1 := 214) (as := [.ref 191, .int 5]) (rest := []) dX0_init_83 vJ7_fill_53178 ml_0_35 stJ7_fill_53178 npJ7_fill_53178 (by decide +kernel) (by decide +kernel) (Nat.le_of_ble_eq_true rfl) rfl (by decide) (Nat.le_refl _) (by decide +kernel) (by decide +kernel) (z_fill (len := 10) (by decide) (by decide +kernel) (by rfl)) ?_
  rintro v Y ⟨rfl, rfl⟩
  refine ev_iinc (v := 3) dX0_init_86 rfl (by decide +kernel) (by decide) ?_
  refine ev_goto (tgt := 70) dX0_init_89 (by decide) ?_
  refine ev_iload_n dX0_init_70 rfl ?_
  refine ev_bipush (v := 12) dX0_init_71 (by decide +kernel) ?_
  refine ev_icmpF (tgt := 92) dX0_init_73 (by decide) (show ¬ (12 : Int32) ≤ 3 by decide +kernel) ?_
  refine ev_aload_n dX0_init_76 rfl ?_
  refine ev_getS (q := 188) dX0_init_77 fo_0_29 (by decide) (by decide +kernel) (by decide) (by rfl) (by decide) ?_
  refine ev_iload_n dX0_init_80 rfl ?_
  refine ev_aald (len := 12) (j := 3) (q := 192) dX0_init_81 (by decide) (Or.inl (by decide +kernel)) (by decide +kernel) (by decide) (by rfl) (by decide) ?_
  refine ev_iconst (v := 5) dX0_init_82 (by decide +kernel) ?_
  refine ev_callS (d' := 0) (n1 := 214) (as := [.ref 192, .int 5]) (rest := []) dX0_init_83 vJ7_fill_53178 ml_0_35 stJ7_fill_53178 npJ7_fill_53178 (by decide +kernel) (by decide +kernel) (Nat.le_of_ble_eq_true rfl) rfl (by decide) (Nat.le_refl _) (by decide +kernel) (by decide +kernel) (z_fill (len := 10) (by decide) (by decide +kernel) (by rfl)) ?_
  rintro v Y ⟨rfl, rfl⟩
  refine ev_iinc (v := 4) dX0_init_86 rfl (by decide +kernel) (by decide) ?_
  refine ev_goto (tgt := 70) dX0_init_89 (by decide) ?_
  refine ev_iload_n dX0_init_70 rfl ?_
  refine ev_bipush (v := 12) dX0_init_71 (by decide +kernel) ?_
  refine ev_icmpF (tgt := 92) dX0_init_73 (by decide) (show ¬ (12 : Int32) ≤ 4 by decide +kernel) ?_
  refine ev_aload_n dX0_init_76 rfl ?_
  refine ev_getS (q := 188) dX0_init_77 fo_0_29 (by decide) (by decide +kernel) (by decide) (by rfl) (by decide) ?_
  refine ev_iload_n dX0_init_80 rfl ?_
  refine ev_aald (len := 12) (j := 4) (q := 193) dX0_init_81 (by decide) (Or.inl (by decide +kernel)) (by decide +kernel) (by decide) (by rfl) (by decide) ?_
  refine ev_iconst (v := 5) dX0_init_82 (by decide +kernel) ?_
  refine ev_callS (d' := 0) (n1 := 214) (as := [.ref 193, .int 5]) (rest := []) dX0_init_83 vJ7_fill_53178 ml_0_35 stJ7_fill_53178 npJ7_fill_53178 (by decide +kernel) (by decide +kernel) (Nat.le_of_ble_eq_true rfl) rfl (by decide) (Nat.le_refl _) (by decide +kernel) (by decide +kernel) (z_fill (len := 10) (by decide) (by decide +kernel) (by rfl)) ?_
  rintro v Y ⟨rfl, rfl⟩
  refine ev_iinc (v := 5) dX0_init_86 rfl (by decide +kernel) (by decide) ?_
  refine ev_goto (tgt := 70) dX0_init_89 (by decide) ?_
  refine ev_iload_n dX0_init_70 rfl ?_
  refine ev_bipush (v := 12) dX0_init_71 (by decide +kernel) ?_
  refine ev_icmpF (tgt := 92) dX0_init_73 (by decide) (show ¬ (12 : Int32) ≤ 5 by decide +kernel) ?_
  refine ev_aload_n dX0_init_76 rfl ?_
  refine ev_getS (q := 188) dX0_init_77 fo_0_29 (by decide) (by decide +kernel) (by decide) (by rfl) (by decide) ?_
  refine ev_iload_n dX0_init_80 rfl ?_
  refine ev_aald (len := 12) (j := 5) (q := 194) dX0_init_81 (by decide) (Or.inl (by decide +kernel)) (by decide +kernel) (by decide) (by rfl) (by decide) ?_
  refine ev_iconst (v := 5) dX0_init_82 (by decide +kernel) ?_
  refine ev_callS (d' := 0) (n1 := 214) (as := [.ref 194, .int 5]) (rest := []) dX0_init_83 vJ7_fill_53178 ml_0_35 stJ7_fill_53178 npJ7_fill_53178 (by decide +kernel) (by decide +kernel) (Nat.le_of_ble_eq_true rfl) rfl (by decide) (Nat.le_refl _) (by decide +kernel) (by decide +kernel) (z_fill (len := 10) (by decide) (by decide +kernel) (by rfl)) ?_
  rintro v Y ⟨rfl, rfl⟩
  refine ev_iinc (v := 6) dX0_init_86 rfl (by decide +kernel) (by decide) ?_
  refine ev_goto (tgt := 70) dX0_init_89 (by decide) ?_
  refine ev_iload_n dX0_init_70 rfl ?_
  refine ev_bipush (v := 12) dX0_init_71 (by decide +kernel) ?_
  refine ev_icmpF (tgt := 92) dX0_init_73 (by decide) (show ¬ (12 : Int32) ≤ 6 by decide +kernel) ?_
  refine ev_aload_n dX0_init_76 rfl ?_
  refine ev_getS (q := 188) dX0_init_77 fo_0_29 (by decide) (by decide +kernel) (by decide) (by rfl) (by decide) ?_
  refine ev_iload_n dX0_init_80 rfl ?_
  refine ev_aald (len := 12) (j := 6) (q := 195) dX0_init_81 (by decide) (Or.inl (by decide +kernel)) (by decide +kernel) (by decide) (by rfl) (by decide) ?_
  refine ev_iconst (v := 5) dX0_init_82 (by decide +kernel) ?_
  refine ev_callS (d' := 0) (n1 := 214) (as := [.ref 195, .int 5]) (rest := []) dX0_init_83 vJ7_fill_53178 ml_0_35 stJ7_fill_53178 npJ7_fill_53178 (by decide +kernel) (by decide +kernel) (Nat.le_of_ble_eq_true rfl) rfl (by decide) (Nat.le_refl _) (by decide +kernel) (by decide +kernel) (z_fill (len := 10) (by decide) (by decide +kernel) (by rfl)) ?_
  rintro v Y ⟨rfl, rfl⟩
  refine ev_iinc (v := 7) dX0_init_86 rfl (by decide +kernel) (by decide) ?_
  refine ev_goto (tgt := 70) dX0_init_89 (by decide) ?_
  refine ev_iload_n dX0_init_70 rfl ?_
  refine ev_bipush (v := 12) dX0_init_71 (by decide +kernel) ?_
  refine ev_icmpF (tgt := 92) dX0_init_73 (by decide) (show ¬ (12 : Int32) ≤ 7 by decide +kernel) ?_
  refine ev_aload_n dX0_init_76 rfl ?_
  refine ev_getS (q := 188) dX0_init_77 fo_0_29 (by decide) (by decide +kernel) (by decide) (by rfl) (by decide) ?_
  refine ev_iload_n dX0_init_80 rfl ?_
  refine ev_aald (len := 12) (j := 7) (q := 196) dX0_init_81 (by decide) (Or.inl (by decide +kernel)) (by decide +kernel) (by decide) (by rfl) (by decide) ?_
  refine ev_iconst (v := 5) dX0_init_82 (by decide +kernel) ?_
  refine ev_callS (d' := 0) (n1 := 214) (as := [.ref 196, .int 5]) (rest := []) dX0_init_83 vJ7_fill_53178 ml_0_35 stJ7_fill_53178 npJ7_fill_53178 (by decide +kernel) (by decide +kernel) (Nat.le_of_ble_eq_true rfl) rfl (by decide) (Nat.le_refl _) (by decide +kernel) (by decide +kernel) (z_fill (len := 10) (by decide) (by decide +kernel) (by rfl)) ?_
  rintro v Y ⟨rfl, rfl⟩
  refine ev_iinc (v := 8) dX0_init_86 rfl (by decide +kernel) (by decide) ?_
  refine ev_goto (tgt := 70) dX0_init_89 (by decide) ?_
  refine ev_iload_n dX0_init_70 rfl ?_
  refine ev_bipush (v := 12) dX0_init_71 (by decide +kernel) ?_
  refine ev_icmpF (tgt := 92) dX0_init_73 (by decide) (show ¬ (12 : Int32) ≤ 8 by decide +kernel) ?_
  refine ev_aload_n dX0_init_76 rfl ?_
  refine ev_getS (q := 188) dX0_init_77 fo_0_29 (by decide) (by decide +kernel) (by decide) (by rfl) (by decide) ?_
  refine ev_iload_n dX0_init_80 rfl ?_
  refine ev_aald (len := 12) (j := 8) (q := 197) dX0_init_81 (by decide) (Or.inl (by decide +kernel)) (by decide +kernel) (by decide) (by rfl) (by decide) ?_
  refine ev_iconst (v := 5) dX0_init_82 (by decide +kernel) ?_
  refine ev_callS (d' := 0) (n1 := 214) (as := [.ref 197, .int 5]) (rest := []) dX0_init_83 vJ7_fill_53178 ml_0_35 stJ7_fill_53178 npJ7_fill_53178 (by decide +kernel) (by decide +kernel) (Nat.le_of_ble_eq_true rfl) rfl (by decide) (Nat.le_refl _) (by decide +kernel) (by decide +kernel) (z_fill (len := 10) (by decide) (by decide +kernel) (by rfl)) ?_
  rintro v Y ⟨rfl, rfl⟩
  refine ev_iinc (v := 9) dX0_init_86 rfl (by decide +kernel) (by decide) ?_
  refine ev_goto (tgt := 70) dX0_init_89 (by decide) ?_
  refine ev_iload_n dX0_init_70 rfl ?_
  refine ev_bipush (v := 12) dX0_init_71 (by decide +kernel) ?_
  refine ev_icmpF (tgt := 92) dX0_init_73 (by decide) (show ¬ (12 : Int32) ≤ 9 by decide +kernel) ?_
  refine ev_aload_n dX0_init_76 rfl ?_
  refine ev_getS (q := 188) dX0_init_77 fo_0_29 (by decide) (by decide +kernel) (by decide) (by rfl) (by decide) ?_
  refine ev_iload_n dX0_init_80 rfl ?_
  refine ev_aald (len := 12) (j := 9) (q := 198) dX0_init_81 (by decide) (Or.inl (by decide +kernel)) (by decide +kernel) (by decide) (by rfl) (by decide) ?_
  refine ev_iconst (v := 5) dX0_init_82 (by decide +kernel) ?_
  refine ev_callS (d' := 0) (n1 := 214) (as := [.ref 198, .int 5]) (rest := []) dX0_init_83 vJ7_fill_53178 ml_0_35 stJ7_fill_53178 npJ7_fill_53178 (by decide +kernel) (by decide +kernel) (Nat.le_of_ble_eq_true rfl) rfl (by decide) (Nat.le_refl _) (by decide +kernel) (by decide +kernel) (z_fill (len := 10) (by decide) (by decide +kernel) (by rfl)) ?_
  rintro v Y ⟨rfl, rfl⟩
  refine ev_iinc (v := 10) dX0_init_86 rfl (by decide +kernel) (by decide) ?_
  refine ev_goto (tgt := 70) dX0_init_89 (by decide) ?_
  refine ev_iload_n dX0_init_70 rfl ?_
  refine ev_bipush (v := 12) dX0_init_71 (by decide +kernel) ?_
  refine ev_icmpF (tgt := 92) dX0_init_73 (by decide) (show ¬ (12 : Int32) ≤ 10 by decide +kernel) ?_
  refine ev_aload_n dX0_init_76 rfl ?_
  refine ev_getS (q := 188) dX0_init_77 fo_0_29 (by decide) (by decide +kernel) (by decide) (by rfl) (by decide) ?_
  refine ev_iload_n dX0_init_80 rfl ?_
  refine ev_aald (len := 12) (j := 10) (q := 199) dX0_init_81 (by decide) (Or.inl (by decide +kernel)) (by decide +kernel) (by decide) (by rfl) (by decide) ?_
  refine ev_iconst (v := 5) dX0_init_82 (by decide +kernel) ?_
  refine ev_callS (d' := 0) (n1 := 214) (as := [.ref 199, .int 5]) (rest := []) dX0_init_83 vJ7_fill_53178 ml_0_35 stJ7_fill_53178 npJ7_fill_53178 (by decide +kernel) (by decide +kernel) (Nat.le_of_ble_eq_true rfl) rfl (by decide) (Nat.le_refl _) (by decide +kernel) (by decide +kernel) (z_fill (len := 10) (by decide) (by decide +kernel) (by rfl)) ?_
  rintro v Y ⟨rfl, rfl⟩
  refine ev_iinc (v := 11) dX0_init_86 rfl (by decide +kernel) (by decide) ?_
  refine ev_goto (tgt := 70) dX0_init_89 (by decide) ?_
  refine ev_iload_n dX0_init_70 rfl ?_
  refine ev_bipush (v := 12) dX0_init_71 (by decide +kernel) ?_
  refine ev_icmpF (tgt := 92) dX0_init_73 (by decide) (show ¬ (12 : Int32) ≤ 11 by decide +kernel) ?_
  refine ev_aload_n dX0_init_76 rfl ?_
  refine ev_getS (q := 188) dX0_init_77 fo_0_29 (by decide) (by decide +kernel) (by decide) (by rfl) (by decide) ?_
  refine ev_iload_n dX0_init_80 rfl ?_
  refine ev_aald (len := 12) (j := 11) (q := 200) dX0_init_81 (by decide) (Or.inl (by decide +kernel)) (by decide +kernel) (by decide) (by rfl) (by decide) ?_
  refine ev_iconst (v := 5) dX0_init_82 (by decide +kernel) ?_
  refine ev_callS (d' := 0) (n1 := 214) (as := [.ref 200, .int 5]) (rest := []) dX0_init_83 vJ7_fill_53178 ml_0_35 stJ7_fill_53178 npJ7_fill_53178 (by decide +kernel) (by decide +kernel) (Nat.le_of_ble_eq_true rfl) rfl (by decide) (Nat.le_refl _) (by decide +kernel) (by decide +kernel) (z_fill (len := 10) (by decide) (by decide +kernel) (by rfl)) ?_
  rintro v Y ⟨rfl, rfl⟩
  refine ev_iinc (v := 12) dX0_init_86 rfl (by decide +kernel) (by decide) ?_
  refine ev_goto (tgt := 70) dX0_init_89 (by decide) ?_
  refine ev_iload_n dX0_init_70 rfl ?_
  refine ev_bipush (v := 12) dX0_init_71 (by decide +kernel) ?_
  refine ev_icmpT (tgt := 92) dX0_init_73 (by decide) (show (12 : Int32) ≤ 12 by decide +kernel) ?_
  exact ev_ret dX0_init_92 rfl ⟨rfl, rfl⟩
def y_X4_init_214 (X : LX) : LX := (lx_up (lx_row (lx_up (lx_row (lx_up (lx_row (lx_up (lx_row (lx_up (lx_row (lx_up (lx_row (lx_up (lx_row X 215 (fun _ => 0)) 214 1 (rE 215)) 216 (fun _ => 0)) 214 2 (rE 216)) 217 (fun _ => 0)) 214 3 (rE 217)) 218 (fun _ => 0)) 214 4 (rE 218)) 219 (fun _ => 0)) 214 5 (rE 219)) 220 (fun _ => 0)) 214 6 (rE 220)) 221 (fun _ => 0)) 214 7 (rE 221))
set_option maxHeartbeats 4000000 in
theorem c_X4_init_214 {g : GG} {X : LX} : Ex g mX4_init 1 215 222 [.ref 214] X (rv (y_X4_init_214 X)) := by
  refine ex_of vX4_init (Nat.le_of_ble_eq_true rfl) (cat_of rfl) ?_
  refine ev_aload_n dX4_init_0 rfl ?_
  refine ev_objInit dX4_init_1 (gt_at 247 (by decide +kernel) rfl) oi_1 oi_2 (by decide +kernel) (by decide +kernel) (by decide) ?_
  refine ev_aload_n dX4_init_4 rfl ?_
  refine ev_bipush (v := 40) dX4_init_5 (by decide +kernel) ?_
  refine ev_newi (N := 40) dX4_init_7 (by decide +kernel) (by decide) (by decide +kernel) (by decide) ac_i (by decide +kernel) (by decide +kernel) ?_
  refine ev_putR dX4_init_9 fo_4_9 (by decide) (by decide +kernel) (by decide) (Or.inr ⟨_, rfl⟩) (by first | exact Or.inl rfl | exact Or.inr ⟨rfl, rfl⟩) (by decide) ?_
  refine ev_aload_n dX4_init_12 rfl ?_
  refine ev_bipush (v := 40) dX4_init_13 (by decide +kernel) ?_
  refine ev_newi (N := 40) dX4_init_15 (by decide +kernel) (by decide) (by decide +kernel) (by decide) ac_i (by decide +kernel) (by decide +kernel) ?_
  refine ev_putR dX4_init_17 fo_4_15 (by decide) (by decide +kernel) (by decide) (Or.inr ⟨_, rfl⟩) (by first | exact Or.inl rfl | exact Or.inr ⟨rfl, rfl⟩) (by decide) ?_
  refine ev_aload_n dX4_init_20 rfl ?_
  refine ev_bipush (v := 40) dX4_init_21 (by decide +kernel) ?_
  refine ev_newi (N := 40) dX4_init_23 (by decide +kernel) (by decide) (by decide +kernel) (by decide) ac_i (by decide +kernel) (by decide +kernel) ?_
  refine ev_putR dX4_init_25 fo_4_18 (by decide) (by decide +kernel) (by decide) (Or.inr ⟨_, rfl⟩) (by first | exact Or.inl rfl | exact Or.inr ⟨rfl, rfl⟩) (by decide) ?_
  refine ev_aload_n dX4_init_28 rfl ?_
  refine ev_bipush (v := 40) dX4_init_29 (by decide +kernel) ?_
  refine ev_newi (N := 40) dX4_init_31 (by decide +kernel) (by decide) (by decide +kernel) (by decide) ac_i (by decide +kernel) (by decide +kernel) ?_
  refine ev_putR dX4_init_33 fo_4_21 (by decide) (by decide +kernel) (by decide) (Or.inr ⟨_, rfl⟩) (by first | exact Or.inl rfl | exact Or.inr ⟨rfl, rfl⟩) (by decide) ?_
  refine ev_aload_n dX4_init_36 rfl ?_
  refine ev_bipush (v := 40) dX4_init_37 (by decide +kernel) ?_
  refine ev_newi (N := 40) dX4_init_39 (by decide +kernel) (by decide) (by decide +kernel) (by decide) ac_i (by decide +kernel) (by decide +kernel) ?_
  refine ev_putR dX4_init_41 fo_4_24 (by decide) (by decide +kernel) (by decide) (Or.inr ⟨_, rfl⟩) (by first | exact Or.inl rfl | exact Or.inr ⟨rfl, rfl⟩) (by decide) ?_
  refine ev_aload_n dX4_init_44 rfl ?_
  refine ev_bipush (v := 14) dX4_init_45 (by decide +kernel) ?_
  refine ev_newi (N := 14) dX4_init_47 (by decide +kernel) (by decide) (by decide +kernel) (by decide) ac_i (by decide +kernel) (by decide +kernel) ?_
  refine ev_putR dX4_init_49 fo_4_27 (by decide) (by decide +kernel) (by decide) (Or.inr ⟨_, rfl⟩) (by first | exact Or.inl rfl | exact Or.inr ⟨rfl, rfl⟩) (by decide) ?_
  refine ev_aload_n dX4_init_52 rfl ?_
  refine ev_bipush (v := 14) dX4_init_53 (by decide +kernel) ?_
  refine ev_newi (N := 14) dX4_init_55 (by decide +kernel) (by decide) (by decide +kernel) (by decide) ac_i (by decide +kernel) (by decide +kernel) ?_
  refine ev_putR dX4_init_57 fo_4_30 (by decide) (by decide +kernel) (by decide) (Or.inr ⟨_, rfl⟩) (by first | exact Or.inl rfl | exact Or.inr ⟨rfl, rfl⟩) (by decide) ?_
  exact ev_ret dX4_init_60 rfl ⟨rfl, rfl⟩
def y_X2_init_222 (X : LX) : LX := (lx_up (lx_row (lx_up (lx_row (lx_up (lx_row X 223 (fun _ => 0)) 222 3 (rE 223)) 224 (fun _ => 0)) 222 4 (rE 224)) 225 (fun _ => 0)) 222 5 (rE 225))
set_option maxHeartbeats 4000000 in
theorem c_X2_init_222 {g : GG} {X : LX} : Ex g mX2_init 1 223 226 [.ref 222] X (rv (y_X2_init_222 X)) := by
  refine ex_of vX2_init (Nat.le_of_ble_eq_true rfl) (cat_of rfl) ?_
  refine ev_aload_n dX2_init_0 rfl ?_
  refine ev_objInit dX2_init_1 (gt_at 289 (by decide +kernel) rfl) oi_1 oi_2 (by decide +kernel) (by decide +kernel) (by decide) ?_
  refine ev_aload_n dX2_init_4 rfl ?_
  refine ev_bipush (v := 120) dX2_init_5 (by decide +kernel) ?_
  refine ev_newi (N := 120) dX2_init_7 (by decide +kernel) (by decide) (by decide +kernel) (by decide) ac_i (by decide +kernel) (by decide +kernel) ?_
  refine ev_putR dX2_init_9 fo_2_9 (by decide) (by decide +kernel) (by decide) (Or.inr ⟨_, rfl⟩) (by first | exact Or.inl rfl | exact Or.inr ⟨rfl, rfl⟩) (by decide) ?_
  refine ev_aload_n dX2_init_12 rfl ?_
  refine ev_bipush (v := 120) dX2_init_13 (by decide +kernel) ?_
  refine ev_newi (N := 120) dX2_init_15 (by decide +kernel) (by decide) (by decide +kernel) (by decide) ac_i (by decide +kernel) (by decide +kernel) ?_
  refine ev_putR dX2_init_17 fo_2_15 (by decide) (by decide +kernel) (by decide) (Or.inr ⟨_, rfl⟩) (by first | exact Or.inl rfl | exact Or.inr ⟨rfl, rfl⟩) (by decide) ?_
  refine ev_aload_n dX2_init_20 rfl ?_
  refine ev_iconst (v := 5) dX2_init_21 (by decide +kernel) ?_
  refine ev_newi (N := 5) dX2_init_22 (by decide +kernel) (by decide) (by decide +kernel) (by decide) ac_i (by decide +kernel) (by decide +kernel) ?_
  refine ev_putR dX2_init_24 fo_2_18 (by decide) (by decide +kernel) (by decide) (Or.inr ⟨_, rfl⟩) (by first | exact Or.inl rfl | exact Or.inr ⟨rfl, rfl⟩) (by decide) ?_
  exact ev_ret dX2_init_27 rfl ⟨rfl, rfl⟩
def y_X1_init_146 (X : LX) : LX := (lx_up (lx_up (y_X2_init_222 (lx_row (lx_up (y_X4_init_214 (lx_row (lx_up (y_X0_init_182 (lx_row (lx_up (y_X5_init_168 (lx_row (lx_up (y_X7_init_147 (lx_row X 147 (fun _ => 0))) 146 0 (rE 147)) 168 (fun _ => 0))) 146 1 (rE 168)) 182 (fun _ => 0))) 146 2 (rE 182)) 214 (fun _ => 0))) 146 3 (rE 214)) 222 (fun _ => 0))) 146 4 (rE 222)) 146 7 20)
set_option maxHeartbeats 4000000 in
theorem c_X1_init_146 {g : GG} {X : LX} : Ex g mX1_init 2 147 226 [.ref 146] X (rv (y_X1_init_146 X)) := by
  refine ex_of vX1_init (Nat.le_of_ble_eq_true rfl) (cat_of rfl) ?_
  refine ev_aload_n dX1_init_0 rfl ?_
  refine ev_objInit dX1_init_1 (gt_at 107 (by decide +kernel) rfl) oi_1 oi_2 (by decide +kernel) (by decide +kernel) (by decide) ?_
  refine ev_aload_n dX1_init_4 rfl ?_
  refine ev_new (ci := 7) tyX7 dX1_init_5 (by decide +kernel) (by decide) rfl inX7 tyX7_ok df_7 (gt_at 108 (by decide +kernel) rfl) wi_7 wz_7 (by decide +kernel) (by decide +kernel) ?_
  refine ev_dup dX1_init_8 rfl ?_
  refine ev_callI (d' := 1) (n1 := 168) (r := 147) (as := []) (rest := [.ref 147, .ref 146]) dX1_init_9 vX7_init rfl ml_1_11 isX7_init rfl npX7_init (by decide +kernel) (by decide +kernel) (Nat.le_of_ble_eq_true rfl) rfl (by decide) (by decide) (by decide +kernel) (by decide +kernel) c_X7_init_147 ?_
  rintro v Y ⟨rfl, rfl⟩
  refine ev_putR dX1_init_12 fo_1_12 (by decide) (by decide +kernel) (by decide) (Or.inl ⟨_, rfl⟩) (by first | exact Or.inl rfl | exact Or.inr ⟨rfl, rfl⟩) (by decide) ?_
  refine ev_aload_n dX1_init_15 rfl ?_
  refine ev_new (ci := 5) tyX5 dX1_init_16 (by decide +kernel) (by decide) rfl inX5 tyX5_ok df_5 (gt_at 159 (by decide +kernel) rfl) wi_5 wz_5 (by decide +kernel) (by decide +kernel) ?_
  refine ev_dup dX1_init_19 rfl ?_
  refine ev_callIN (d' := 1) (n1 := 182) (r := 168) (as := []) (rest := [.ref 168, .ref 146]) dX1_init_20 vX5_init rfl ml_1_20 rfl rfl rfl isX5_init rfl npX5_init (by decide +kernel) (by decide +kernel) (Nat.le_of_ble_eq_true rfl) rfl (by decide) (by decide) (by decide +kernel) (by decide +kernel) c_X5_init_168 ?_
  rintro v Y ⟨rfl, rfl⟩
  refine ev_putR dX1_init_23 fo_1_21 (by decide) (by decide +kernel) (by decide) (Or.inl ⟨_, rfl⟩) (by first | exact Or.inl rfl | exact Or.inr ⟨rfl, rfl⟩) (by decide) ?_
  refine ev_aload_n dX1_init_26 rfl ?_
  refine ev_new (ci := 0) tyX0 dX1_init_27 (by decide +kernel) (by decide) rfl inX0 tyX0_ok df_0 (gt_at 188 (by decide +kernel) rfl) wi_0 wz_0 (by decide +kernel) (by decide +kernel) ?_
  refine ev_dup dX1_init_30 rfl ?_
  refine ev_callI (d' := 1) (n1 := 214) (r := 182) (as := []) (rest := [.ref 182, .ref 146]) dX1_init_31 vX0_init rfl ml_1_27 isX0_init rfl npX0_init (by decide +kernel) (by decide +kernel) (Nat.le_of_ble_eq_true rfl) rfl (by decide) (by decide) (by decide +kernel) (by decide +kernel) c_X0_init_182 ?_
  rintro v Y ⟨rfl, rfl⟩
  refine ev_putR dX1_init_34 fo_1_28 (by decide) (by decide +kernel) (by decide) (Or.inl ⟨_, rfl⟩) (by first | exact Or.inl rfl | exact Or.inr ⟨rfl, rfl⟩) (by decide) ?_
  refine ev_aload_n dX1_init_37 rfl ?_
  refine ev_new (ci := 4) tyX4 dX1_init_38 (by decide +kernel) (by decide) rfl inX4 tyX4_ok df_4 (gt_at 242 (by decide +kernel) rfl) wi_4 wz_4 (by decide +kernel) (by decide +kernel) ?_
  refine ev_dup dX1_init_41 rfl ?_
  refine ev_callIN (d' := 1) (n1 := 222) (r := 214) (as := []) (rest := [.ref 214, .ref 146]) dX1_init_42 vX4_init rfl ml_1_34 rfl rfl rfl isX4_init rfl npX4_init (by decide +kernel) (by decide +kernel) (Nat.le_of_ble_eq_true rfl) rfl (by decide) (by decide) (by decide +kernel) (by decide +kernel) c_X4_init_214 ?_
  rintro v Y ⟨rfl, rfl⟩
  refine ev_putR dX1_init_45 fo_1_35 (by decide) (by decide +kernel) (by decide) (Or.inl ⟨_, rfl⟩) (by first | exact Or.inl rfl | exact Or.inr ⟨rfl, rfl⟩) (by decide) ?_
  refine ev_aload_n dX1_init_48 rfl ?_
  refine ev_new (ci := 2) tyX2 dX1_init_49 (by decide +kernel) (by decide) rfl inX2 tyX2_ok df_2 (gt_at 284 (by decide +kernel) rfl) wi_2 wz_2 (by decide +kernel) (by decide +kernel) ?_
  refine ev_dup dX1_init_52 rfl ?_
  refine ev_callIN (d' := 1) (n1 := 226) (r := 222) (as := []) (rest := [.ref 222, .ref 146]) dX1_init_53 vX2_init rfl ml_1_41 rfl rfl rfl isX2_init rfl npX2_init (by decide +kernel) (by decide +kernel) (Nat.le_of_ble_eq_true rfl) rfl (by decide) (by decide) (by decide +kernel) (by decide +kernel) c_X2_init_222 ?_
  rintro v Y ⟨rfl, rfl⟩
  refine ev_putR dX1_init_56 fo_1_42 (by decide) (by decide +kernel) (by decide) (Or.inl ⟨_, rfl⟩) (by first | exact Or.inl rfl | exact Or.inr ⟨rfl, rfl⟩) (by decide) ?_
  refine ev_aload_n dX1_init_59 rfl ?_
  refine ev_bipush (v := 20) dX1_init_60 (by decide +kernel) ?_
  refine ev_putI dX1_init_62 fo_1_46 (by decide) (by decide +kernel) (by decide) rfl rfl ?_
  exact ev_ret dX1_init_65 rfl ⟨rfl, rfl⟩
