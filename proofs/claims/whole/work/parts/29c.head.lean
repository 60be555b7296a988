/-! THE LAW'S FIRST ROWS: new DinnerBoxes(), the model, the loop's counter. -/
def X00 : LX := fun _ _ => 0
def XI : LX := y_X12_init_133 (lx_row (y_X11_init_0 (lx_row X00 0 (fun _ => 0))) 133 (fun _ => 0))
theorem sh_I1 : ∀ e ∈ sRl, e.1 < 146 → XI e.1 e.2.1 = rE e.2.2 := by decide +kernel
theorem sh_I2 : ∀ k, k < 146 → ((LY k).1 = 2 ∨ (LY k).1 = 3) → ∀ j, j < (LY k).2 → XI k j = rE (k + 1 + j) := by decide +kernel
theorem sh_I : Sh 146 XI := ⟨sh_I1, fun k j hk ht hj => sh_I2 k hk ht j hj⟩
theorem wl_11 : Cond.classLink RL 7 RX11 ∈ GT := gt_at 94 (by decide +kernel) rfl
theorem wl_12 : Cond.classLink RL 10 RX12 ∈ GT := gt_at 1241 (by decide +kernel) rfl
theorem law_head {g : GG} {xs : Nat → Int32} {Ln : Nat} (k : Lv g xs Ln 146 18 [some (.ref 3000), some (.ref 0), some (.ref 133), some (.int (nI 0))] [] XI) : Lv g xs Ln 0 0 [some (.ref 3000), none, none, none] [] X00 := by
  refine ev_new (ci := 11) tyX11 dL_law_0 (by decide +kernel) (by decide) rfl inX11 tyX11_ok df_11 wl_11 wi_11 wz_11 (by decide +kernel) (by decide +kernel) ?_
  refine ev_dup dL_law_3 rfl ?_
  refine ev_callI (d' := 3) (n1 := 133) (r := 0) (as := []) (rest := [.ref 0]) dL_law_4 vX11_init rfl ml_22_9 isX11_init rfl npX11_init (by decide +kernel) (by decide +kernel) (Nat.le_of_ble_eq_true rfl) rfl (by decide) (by decide) (by decide +kernel) (by decide +kernel) c_X11_init_0 ?_
  rintro v Y ⟨rfl, rfl⟩
  refine ev_astore_n dL_law_7 (by decide) ?_
  refine ev_new (ci := 12) tyX12 dL_law_8 (by decide +kernel) (by decide) rfl inX12 tyX12_ok df_12 wl_12 wi_12 wz_12 (by decide +kernel) (by decide +kernel) ?_
  refine ev_dup dL_law_11 rfl ?_
  refine ev_callI (d' := 1) (n1 := 146) (r := 133) (as := []) (rest := [.ref 133]) dL_law_12 vX12_init rfl ml_22_12 isX12_init rfl npX12_init (by decide +kernel) (by decide +kernel) (Nat.le_of_ble_eq_true rfl) rfl (by decide) (by decide) (by decide +kernel) (by decide +kernel) c_X12_init_133 ?_
  rintro v Y ⟨rfl, rfl⟩
  refine ev_astore_n dL_law_15 (by decide) ?_
  refine ev_iconst (v := 0) dL_law_16 ki_0 ?_
  refine ev_istore_n dL_law_17 (by decide) ?_
  exact k
