/-! THE CALLS, 26, 27: keep, back. -/
theorem grid_lo {X : LX} {m N a : Nat} (h : a < m) : lx_grid X m N a = X a := by unfold lx_grid; rw [if_neg (by omega), if_neg (by omega)]
def y146 (X : LX) : LX := lx_up (y_X1_init_146 (lx_row X 146 (fun _ => 0))) 0 8 (rE 146)
theorem y146_lo {X : LX} {k : Nat} (h : k < 146) (h0 : k ≠ 0) : y146 X k = X k := by
  unfold y146 y_X1_init_146 y_X2_init_222 y_X4_init_214 y_X0_init_182 y_X5_init_168 y_X7_init_147
  simp (disch := omega) only [up_ne, lx_row_ne, grid_lo]
theorem y146_0 {X : LX} {j : Nat} (h : j ≠ 8) : y146 X 0 j = X 0 j := by
  unfold y146
  rw [up_at h]
  unfold y_X1_init_146 y_X2_init_222 y_X4_init_214 y_X0_init_182 y_X5_init_168 y_X7_init_147
  simp (disch := omega) only [up_ne, lx_row_ne, grid_lo]
theorem y146_8 {X : LX} : y146 X 0 8 = rE 146 := up_it
/-- two heaps agree on the cells 146 .. m - 1 -/
def Ag (m : Nat) (X X' : LX) : Prop := ∀ a, 146 ≤ a → a < m → X a = X' a
theorem ag_row {m k : Nat} {X X' : LX} {f : Nat → Int32} (h : Ag m X X') : Ag m (lx_row X k f) (lx_row X' k f) := fun a h1 h2 => by
  by_cases e : a = k
  · rw [e, lx_row_self, lx_row_self]
  · rw [lx_row_ne _ _ _ e, lx_row_ne _ _ _ e, h a h1 h2]
theorem ag_new {m : Nat} {X X' : LX} {f : Nat → Int32} (h : Ag m X X') : Ag (m + 1) (lx_row X m f) (lx_row X' m f) := fun a h1 h2 => by
  by_cases e : a = m
  · rw [e, lx_row_self, lx_row_self]
  · rw [lx_row_ne _ _ _ e, lx_row_ne _ _ _ e, h a h1 (by omega)]
theorem ag_up {m k j : Nat} {X X' : LX} {v : Int32} (h : Ag m X X') : Ag m (lx_up X k j v) (lx_up X' k j v) := fun a h1 h2 => by
  by_cases e : a = k
  · unfold lx_up
    rw [if_pos e, if_pos e, h a h1 h2]
  · rw [up_ne e, up_ne e, h a h1 h2]
theorem ag_grid {m N q : Nat} {X X' : LX} (hq : q = m + 1 + N) (h : Ag m X X') : Ag q (lx_grid X m N) (lx_grid X' m N) := fun a h1 h2 => by
  unfold lx_grid
  by_cases e : a = m
  · rw [if_pos e, if_pos e]
  · rw [if_neg e, if_neg e]
    by_cases w : m < a ∧ a < m + 1 + N
    · rw [if_pos w, if_pos w]
    · rw [if_neg w, if_neg w]
      exact h a h1 (by omega)
theorem ag_X7 {X X' : LX} (h : Ag 148 X X') : Ag 168 (y_X7_init_147 X) (y_X7_init_147 X') := (ag_row (ag_row (ag_row (ag_row (ag_row (ag_row (ag_row (ag_row (ag_row (ag_row (ag_row (ag_row (ag_row (ag_row (ag_up (ag_grid rfl (ag_up (ag_new (ag_up (ag_new (ag_up (ag_new (ag_up (ag_new (ag_up (ag_new h))))))))))))))))))))))))))
theorem ag_X5 {X X' : LX} (h : Ag 169 X X') : Ag 182 (y_X5_init_168 X) (y_X5_init_168 X') := (ag_up (ag_grid rfl (ag_up (ag_new (ag_up (ag_new h))))))
theorem ag_X0 {X X' : LX} (h : Ag 183 X X') : Ag 214 (y_X0_init_182 X) (y_X0_init_182 X') := (ag_row (ag_row (ag_row (ag_row (ag_row (ag_row (ag_row (ag_row (ag_row (ag_row (ag_row (ag_row (ag_up (ag_grid rfl (ag_up (ag_grid rfl (ag_up (ag_new (ag_up (ag_new (ag_up (ag_new (ag_up (ag_new (ag_up (ag_new h))))))))))))))))))))))))))
theorem ag_X4 {X X' : LX} (h : Ag 215 X X') : Ag 222 (y_X4_init_214 X) (y_X4_init_214 X') := (ag_up (ag_new (ag_up (ag_new (ag_up (ag_new (ag_up (ag_new (ag_up (ag_new (ag_up (ag_new (ag_up (ag_new h))))))))))))))
theorem ag_X2 {X X' : LX} (h : Ag 223 X X') : Ag 226 (y_X2_init_222 X) (y_X2_init_222 X') := (ag_up (ag_new (ag_up (ag_new (ag_up (ag_new h))))))
theorem ag_146 (X X' : LX) : Ag 146 X X' := fun a h1 h2 => absurd h1 (by omega)
theorem y146_hi (X : LX) {k : Nat} (h : 146 ≤ k) (h2 : k < 226) : y146 X k = y146 X00 k :=
  (show Ag 226 (y146 X) (y146 X00) from (ag_up (ag_up (ag_up (ag_X2 (ag_new (ag_up (ag_X4 (ag_new (ag_up (ag_X0 (ag_new (ag_up (ag_X5 (ag_new (ag_up (ag_X7 (ag_new (ag_new (ag_146 X X00)))))))))))))))))))) k h h2
theorem y146_s1 : ∀ e ∈ sRl, 146 ≤ e.1 → e.1 < 226 → y146 X00 e.1 e.2.1 = rE e.2.2 := by decide +kernel
theorem y146_s2 : ∀ k, k < 226 → 146 ≤ k → ((LY k).1 = 2 ∨ (LY k).1 = 3) → ∀ j, j < (LY k).2 → y146 X00 k j = rE (k + 1 + j) := by decide +kernel
theorem y146_08 : ∀ e ∈ sRl, e.1 = 0 → e.2.1 ≠ 8 := by decide +kernel
theorem y146_l0 : ¬ ((LY 0).1 = 2 ∨ (LY 0).1 = 3) := by decide +kernel
theorem y146_l1 : ∀ e ∈ sRl, e.1 < 226 := by decide +kernel
theorem y146_sh {X : LX} (hX : Sh 146 X) : Sh 226 (y146 X) := by
  refine ⟨fun e he hn => ?_, fun k j hk ht hj => ?_⟩
  · rcases Nat.lt_or_ge e.1 146 with q | q
    · by_cases z : e.1 = 0
      · rw [z, y146_0 (y146_08 e he z), ← z]; exact hX.1 e he q
      · rw [y146_lo q z]; exact hX.1 e he q
    · rw [y146_hi X q hn]; exact y146_s1 e he q hn
  · rcases Nat.lt_or_ge k 146 with q | q
    · by_cases z : k = 0
      · subst z; exact absurd ht y146_l0
      · rw [y146_lo q z]; exact hX.2 k j q ht hj
    · rw [y146_hi X q hk]; exact y146_s2 k hk q ht j hj
def mcp (r s : Nat → Int32) (i : Nat) : Nat → Int32 := fun t => if t < i then s t else r t
theorem mcp_0 (r s : Nat → Int32) : mcp r s 0 = r := by funext t; unfold mcp; rw [if_neg (Nat.not_lt_zero _)]
theorem mcp_s (r s : Nat → Int32) (i : Nat) : upd (mcp r s i) i (s i) = mcp r s (i + 1) := by
  funext t
  unfold upd mcp
  by_cases h : t = i
  · rw [if_pos h, if_pos (by omega), h]
  · rw [if_neg h]
    by_cases q : t < i
    · rw [if_pos q, if_pos (by omega)]
    · rw [if_neg q, if_neg (by omega)]
theorem mcp_i {r s : Nat → Int32} {N t : Nat} (h : t < N) : mcp r s N t = s t := if_pos h
section KEEP
variable {LR : LX → (Nat → Int32) → Prop} {g : GG} {d n : Nat} {X : LX} {post : Option Value → LX → Prop}
theorem keep_tail {n0 y z : Nat} {Y : LX} (hn0 : n0 ≤ 226) (hY : Sh 226 Y) (e : Y 0 8 = rE 146) (h8 : Y 1 8 = 0 ∨ Y 1 8 = 1) (h0 : Y 77 0 = 0 ∨ Y 77 0 = 1) (hz : z ≤ 120) (hy : y ≤ z) (e1 : Y 77 1 = nI z) (e2 : Y 77 2 = nI y) (k : ∀ Z, X1PA 226 Y Z → post (some (.int (Z 1 5))) Z) : Ev g mX11_keep 200 n0 226 post 226 18 [some (.ref 0)] [] Y := by
  refine ev_aload_n dX11_keep_18 rfl ?_
  refine ev_getS (q := 146) dX11_keep_19 fo_11_361 (by decide) lo_0 rfl e (by decide) ?_
  refine ev_aload_n dX11_keep_22 rfl ?_
  refine ev_getS (q := 1) dX11_keep_23 fo_11_10 (by decide) lo_0 rfl (sh_0_0 hY (by decide)) (by decide) ?_
  refine ev_callV (as := [.ref 1]) (rest := []) (d' := 100) (n1 := 226) dX11_keep_26 vX1_takeFrom ml_11_364 isX1_takeFrom seX1_takeFrom npX1_takeFrom (rc_146 (by decide)) (by show 100 + 1 ≤ 200; omega) (by show 64 * (100 + 1) ≤ 64 * 200; omega) (by decide) rfl (Nat.le_of_ble_eq_true rfl) (Nat.le_refl _) (Nat.le_refl _) (Nat.le_refl _) (tf_X1A (y := y) (z := z) (by omega) (Nat.le_refl _) hY h8 h0 hz hy e1 e2) ?_
  rintro v Z ⟨rfl, hZ⟩
  refine ev_aload_n dX11_keep_29 rfl ?_
  refine ev_getS (q := 1) dX11_keep_30 fo_11_10 (by decide) lo_0 rfl (sh_0_0 hZ.1 (by decide)) (by decide) ?_
  refine ev_getI dX11_keep_33 fo_11_203 (by decide) lo_1 rfl ?_
  exact ev_iret dX11_keep_36 rfl rfl (k Z hZ)
theorem c_keep_1 {y z : Nat} (hX : Sh 146 X) (h : X 0 8 = 0) (h8 : X 1 8 = 0 ∨ X 1 8 = 1) (h0 : X 77 0 = 0 ∨ X 77 0 = 1) (hz : z ≤ 120) (hy : y ≤ z) (e1 : X 77 1 = nI z) (e2 : X 77 2 = nI y) (k : ∀ Z, X1PA 226 (y146 X) Z → post (some (.int (Z 1 5))) Z) : Ex g mX11_keep 200 146 226 [.ref 0] X post := by
  refine ex_of vX11_keep (Nat.le_of_ble_eq_true rfl) (cat_of rfl) ?_
  refine ev_aload_n dX11_keep_0 rfl ?_
  refine ev_getN dX11_keep_1 fo_11_361 (by decide) lo_0 rfl h ?_
  refine ev_ifnonnullN dX11_keep_4 ?_
  refine ev_aload_n dX11_keep_7 rfl ?_
  refine ev_new (ci := 1) tyX1 dX11_keep_8 (by decide +kernel) (by decide) rfl inX1 tyX1_ok df_1 (gt_at 102 (by decide +kernel) rfl) wi_1 wz_1 (by decide +kernel) (by decide +kernel) ?_
  refine ev_dup dX11_keep_11 rfl ?_
  refine ev_callIN (d' := 2) (n1 := 226) (r := 146) (as := []) (rest := [.ref 146, .ref 0]) dX11_keep_12 vX1_init rfl ml_11_9 rfl rfl rfl isX1_init rfl npX1_init (by decide +kernel) (by decide +kernel) (Nat.le_of_ble_eq_true rfl) rfl (by decide) (by decide) (by decide +kernel) (by decide +kernel) c_X1_init_146 ?_
  rintro v Y ⟨rfl, rfl⟩
  refine ev_putR dX11_keep_15 fo_11_361 (by decide) lo_0 rfl (Or.inl ⟨_, rfl⟩) (Or.inl rfl) (by decide) ?_
  exact keep_tail (Y := y146 X) (by decide) (y146_sh hX) y146_8 (by rw [y146_lo (by omega) (by omega)]; exact h8) (by rw [y146_lo (by omega) (by omega)]; exact h0) hz hy (by rw [y146_lo (by omega) (by omega), e1]) (by rw [y146_lo (by omega) (by omega), e2]) k
theorem c_keep_2 {y z : Nat} (hX : Sh 226 X) (h : X 0 8 = rE 146) (h8 : X 1 8 = 0 ∨ X 1 8 = 1) (h0 : X 77 0 = 0 ∨ X 77 0 = 1) (hz : z ≤ 120) (hy : y ≤ z) (e1 : X 77 1 = nI z) (e2 : X 77 2 = nI y) (k : ∀ Z, X1PA 226 X Z → post (some (.int (Z 1 5))) Z) : Ex g mX11_keep 200 226 226 [.ref 0] X post := by
  refine ex_of vX11_keep (Nat.le_of_ble_eq_true rfl) (cat_of rfl) ?_
  refine ev_aload_n dX11_keep_0 rfl ?_
  refine ev_getS (q := 146) dX11_keep_1 fo_11_361 (by decide) lo_0 rfl h (by decide) ?_
  refine ev_ifnonnull (tgt := 18) dX11_keep_4 (by decide) ?_
  exact keep_tail (by decide) hX h h8 h0 hz hy e1 e2 k
theorem m_keep (hn : 146 ≤ n) (hX : Sh n X) : Ex g mX12_keep 200 n n [.ref 133] X (rt (X 134 0) (lx_up (lx_row X 135 (mcp (X 135) (X 134) 2156)) 133 2 1)) := by
  refine e_of vX12_keep (Nat.le_of_ble_eq_true rfl) (cat_of rfl) (bX12_keep_0_0 hn hX ?_)
  have loop : ∀ i, i ≤ 2156 → Ev g mX12_keep 200 n n (rt (X 134 0) (lx_up (lx_row X 135 (mcp (X 135) (X 134) 2156)) 133 2 1)) n 2 [some (.ref 133), some (.int (nI i))] [] (lx_row X 135 (mcp (X 135) (X 134) i)) := by
    refine down ?_ ?_
    · exact bX12_keep_2_1 hn (hX.row (by decide +kernel)) (show nI 2156 ≤ nI 2156 from nI_le (by omega) (by omega)) ⟨by rw [lx_row_ne _ _ _ (by omega)], rfl⟩
    · intro i hi k
      rw [show nI (i + 1) = nI i + 1 from (nI_1 i).symm, ← mcp_s _ _ i, ← lx_row_up] at k
      refine bX12_keep_2_0 hn (hX.row (by decide +kernel)) (show ¬ nI 2156 ≤ nI i from nI_ge hi (by omega)) hi ?_
      rw [lx_row_ne _ _ _ (show 134 ≠ 135 by omega)]
      exact k
  have h := loop 0 (Nat.zero_le _)
  rw [mcp_0, lx_row_id] at h
  exact h
theorem m_back (hn : 146 ≤ n) (hX : Sh n X) (h2 : ¬ X 133 2 = 0) : Ex g mX12_back 200 n n [.ref 133] X (rt (X 135 0) (lx_row X 134 (mcp (X 134) (X 135) 2156))) := by
  refine e_of vX12_back (Nat.le_of_ble_eq_true rfl) (cat_of rfl) (bX12_back_0_1 hn hX h2 ?_)
  have loop : ∀ i, i ≤ 2156 → Ev g mX12_back 200 n n (rt (X 135 0) (lx_row X 134 (mcp (X 134) (X 135) 2156))) n 12 [some (.ref 133), some (.int (nI i))] [] (lx_row X 134 (mcp (X 134) (X 135) i)) := by
    refine down ?_ ?_
    · exact bX12_back_12_1 hn (hX.row (by decide +kernel)) (show nI 2156 ≤ nI 2156 from nI_le (by omega) (by omega)) ⟨by rw [lx_row_self, mcp_i (by omega)], rfl⟩
    · intro i hi k
      rw [show nI (i + 1) = nI i + 1 from (nI_1 i).symm, ← mcp_s _ _ i, ← lx_row_up] at k
      refine bX12_back_12_0 hn (hX.row (by decide +kernel)) (show ¬ nI 2156 ≤ nI i from nI_ge hi (by omega)) hi ?_
      rw [lx_row_ne _ _ _ (show 135 ≠ 134 by omega)]
      exact k
  have h := loop 0 (Nat.zero_le _)
  rw [mcp_0, lx_row_id] at h
  exact h
theorem LRpt.ok (hp : LRpt LR) : LRok LR := fun C C' A A' hC h2 hA h => hp C C' A A' (fun t _ => by rw [hC 77 (by omega) (by omega)]) (fun j _ => by rw [hC 78 (by omega) (by omega)]) h2 hA h
/-- the model keeps, the image stands -/
theorem keep_m (hp : LRpt LR) {X0 Y Z : LX} (hKR : KR LR X0 (X0 134)) (hT : RT X0) (hZ0 : LZ X0) (hY : ∀ k, k < 146 → k ≠ 0 → Y k = X0 k) (hY0 : ∀ j, j ≠ 8 → Y 0 j = X0 0 j) (hY8 : Y 0 8 = rE 146) (hZ : X1PA 226 Y Z) : Ex g mX12_keep 200 226 226 [.ref 133] Z (fun v W => v = some (.int (Z 1 5)) ∧ Iv LR 226 W) := by
  have z2 := hZ.2.1
  have hzl : ∀ k, k < 146 → k ≠ 0 → Z k = X0 k := fun k h1 h2 => by rw [z2 k (by omega), hY k h1 h2]
  have e0 : Z 1 5 = Z 134 0 := by rw [hzl 1 (by omega) (by omega), hzl 134 (by omega) (by omega)]; exact hKR.1.1.1
  refine (m_keep (by omega) hZ.1).mono (fun v W hv => ?_)
  obtain ⟨rfl, rfl⟩ := hv
  refine ⟨by rw [e0], ?_⟩
  obtain ⟨W, hW⟩ : ∃ W : LX, W = lx_up (lx_row Z 135 (mcp (Z 135) (Z 134) 2156)) 133 2 1 := ⟨_, rfl⟩
  rw [← hW]
  have hSW : Sh 226 W := by rw [hW]; exact (hZ.1.row (by decide +kernel)).upF (by decide +kernel) (by decide +kernel)
  have wC : ∀ k, k ≠ 133 → k ≠ 135 → W k = Z k := fun k h1 h2 => by rw [hW, up_ne h1, lx_row_ne _ _ _ h2]
  have w135 : ∀ j, j < 2156 → W 135 j = X0 134 j := fun j hj => by rw [hW, up_ne (by omega), lx_row_self, mcp_i hj, hzl 134 (by omega) (by omega)]
  have w133 : ∀ j, j ≠ 2 → W 133 j = X0 133 j := fun j hj => by rw [hW, up_at hj, lx_row_ne _ _ _ (by omega), hzl 133 (by omega) (by omega)]
  have w2 : W 133 2 = 1 := by rw [hW, up_it]
  have wl : ∀ k, k < 146 → k ≠ 0 → k ≠ 133 → k ≠ 135 → W k = X0 k := fun k h1 h2 h3 h4 => by rw [wC k h3 h4, hzl k h1 h2]
  have w0 : ∀ j, j ≠ 8 → W 0 j = X0 0 j := fun j hj => by rw [wC 0 (by omega) (by omega), z2 0 (by omega), hY0 j hj]
  refine ⟨hSW, hKR.same hp.ok (fun k _ _ => wl k (by omega) (by omega) (by omega) (by omega)) (fun j _ => by rw [wl 134 (by omega) (by omega) (by omega) (by omega)]), hT.fr ⟨by rw [wl 81 (by omega) (by omega) (by omega) (by omega)], w133 4 (by omega), w0 7 (by omega), w133 6 (by omega)⟩ (fun k _ => wl k (by omega) (by omega) (by omega) (by omega)), Or.inr ⟨rfl, ?_, w2, ?_⟩, fun s hs i hi => by rw [wl (124 + 1 + s) (by omega) (by omega) (by omega) (by omega)]; exact hZ0 s hs i hi⟩
  · rw [wC 0 (by omega) (by omega), z2 0 (by omega), hY8]
  · refine hKR.pt hp ?_ w135
    have h := pt_A hZ
    have e : ∀ k, 1 ≤ k → k ≤ 80 → (fun k => W (k + 145)) k = (fun k => Z (k + 145)) k := fun k h1 h2 => wC (k + 145) (by omega) (by omega)
    obtain ⟨p1, ⟨p2, p23, p37, p69⟩, pa, p8, pm, p26, pf, p43, p56, pl, pt, p77, p78⟩ := h
    refine ⟨fun t ht => ?_, ⟨?_, ?_, ?_, ?_⟩, fun k h1 h2 j hj => ?_, fun i hi j hj => ?_, fun k h1 h2 j hj => ?_, fun i hi j hj => ?_, fun k h1 h2 j hj => ?_, fun i hi j hj => ?_, fun i hi j hj => ?_, fun k h1 h2 j hj => ?_, fun k h1 h2 j hj => ?_, fun t ht => ?_, fun j hj => ?_⟩
    · rw [e 1 (by omega) (by omega), p1 t ht, hY 1 (by omega) (by omega)]
    · rw [e 2 (by omega) (by omega), p2, hY 2 (by omega) (by omega)]
    · rw [e 23 (by omega) (by omega), p23, hY 23 (by omega) (by omega)]
    · rw [e 37 (by omega) (by omega), p37, hY 37 (by omega) (by omega)]
    · rw [e 69 (by omega) (by omega), p69, hY 69 (by omega) (by omega)]
    · rw [e k (by omega) (by omega), pa k h1 h2 j hj, hY k (by omega) (by omega)]
    · rw [e (8 + 1 + i) (by omega) (by omega), p8 i hi j hj, hY (8 + 1 + i) (by omega) (by omega)]
    · rw [e k (by omega) (by omega), pm k h1 h2 j hj, hY k (by omega) (by omega)]
    · rw [e (26 + 1 + i) (by omega) (by omega), p26 i hi j hj, hY (26 + 1 + i) (by omega) (by omega)]
    · rw [e k (by omega) (by omega), pf k h1 h2 j hj, hY k (by omega) (by omega)]
    · rw [e (43 + 1 + i) (by omega) (by omega), p43 i hi j hj, hY (43 + 1 + i) (by omega) (by omega)]
    · rw [e (56 + 1 + i) (by omega) (by omega), p56 i hi j hj, hY (56 + 1 + i) (by omega) (by omega)]
    · rw [e k (by omega) (by omega), pl k h1 h2 j hj, hY k (by omega) (by omega)]
    · rw [e k (by omega) (by omega), pt k h1 h2 j hj, hY k (by omega) (by omega)]
    · rw [e 77 (by omega) (by omega), p77 t ht, hY 77 (by omega) (by omega)]
    · rw [e 78 (by omega) (by omega), p78 j hj, hY 78 (by omega) (by omega)]
theorem jp_keep (hp : LRpt LR) (hb : LRbd LR) (hn : 146 ≤ n) (hn2 : n ≤ 226) (hI : Iv LR n X) : JP g (Iv LR) mX11_keep mX12_keep [] n X := by
  obtain ⟨hX, hK, hT, hB, hZ⟩ := id hI
  obtain ⟨h0, y, z, hy, hz, e1, e2⟩ := hb _ _ hK.2.2.2.2.2.2.2.2
  have h8 : X 1 8 = 0 ∨ X 1 8 = 1 := by rw [hK.1.1.2.2.1]; exact hK.1.2.2.1
  rcases hB with ⟨rfl, i1, i2⟩ | ⟨rfl, i1, i2, i3⟩
  · refine ⟨226, fun r Z => r = Z 1 5 ∧ X1PA 226 (y146 X) Z, by omega, Nat.le_refl _, by omega, c_keep_1 hX i1 h8 h0 hz hy e1 e2 (fun Z h => ⟨_, rfl, rfl, h⟩), fun r Z h => ?_⟩
    obtain ⟨rfl, h⟩ := h
    exact keep_m hp hK hT hZ (fun k h1 h2 => y146_lo h1 h2) (fun j hj => y146_0 hj) y146_8 h
  · refine ⟨226, fun r Z => r = Z 1 5 ∧ X1PA 226 X Z, by omega, Nat.le_refl _, by omega, c_keep_2 hX i1 h8 h0 hz hy e1 e2 (fun Z h => ⟨_, rfl, rfl, h⟩), fun r Z h => ?_⟩
    obtain ⟨rfl, h⟩ := h
    exact keep_m hp hK hT hZ (fun k _ _ => rfl) (fun j _ => rfl) i1 h
theorem c_back {y z : Nat} (hX : Sh 226 X) (h : X 0 8 = rE 146) (h8 : X 146 8 = 0 ∨ X 146 8 = 1) (h0 : X 222 0 = 0 ∨ X 222 0 = 1) (hz : z ≤ 120) (hy : y ≤ z) (e1 : X 222 1 = nI z) (e2 : X 222 2 = nI y) (k : ∀ Z, X1PB 226 X Z → post (some (.int (Z 1 5))) Z) : Ex g mX11_back 200 226 226 [.ref 0] X post := by
  refine ex_of vX11_back (Nat.le_of_ble_eq_true rfl) (cat_of rfl) ?_
  refine ev_aload_n dX11_back_0 rfl ?_
  refine ev_getS (q := 146) dX11_back_1 fo_11_361 (by decide) lo_0 rfl h (by decide) ?_
  refine ev_ifnonnull (tgt := 10) dX11_back_4 (by decide) ?_
  refine ev_aload_n dX11_back_10 rfl ?_
  refine ev_getS (q := 1) dX11_back_11 fo_11_10 (by decide) lo_0 rfl (sh_0_0 hX (by decide)) (by decide) ?_
  refine ev_aload_n dX11_back_14 rfl ?_
  refine ev_getS (q := 146) dX11_back_15 fo_11_361 (by decide) lo_0 rfl h (by decide) ?_
  refine ev_callV (as := [.ref 146]) (rest := []) (d' := 100) (n1 := 226) dX11_back_18 vX1_takeFrom ml_11_364 isX1_takeFrom seX1_takeFrom npX1_takeFrom (rc_1 (by decide)) (by show 100 + 1 ≤ 200; omega) (by show 64 * (100 + 1) ≤ 64 * 200; omega) (by decide) rfl (Nat.le_of_ble_eq_true rfl) (Nat.le_refl _) (Nat.le_refl _) (Nat.le_refl _) (tf_X1B (y := y) (z := z) (by omega) (Nat.le_refl _) hX h8 h0 hz hy e1 e2) ?_
  rintro v Z ⟨rfl, hZ⟩
  refine ev_aload_n dX11_back_21 rfl ?_
  refine ev_getS (q := 1) dX11_back_22 fo_11_10 (by decide) lo_0 rfl (sh_0_0 hZ.1 (by decide)) (by decide) ?_
  refine ev_getI dX11_back_25 fo_11_203 (by decide) lo_1 rfl ?_
  exact ev_iret dX11_back_28 rfl rfl (k Z hZ)
theorem c_back_no (hn : 146 ≤ n) (hX : Sh n X) (h : X 0 8 = 0) : Ex g mX11_back 200 n n [.ref 0] X (rt (-1000000002) X) := by
  refine e_of vX11_back (Nat.le_of_ble_eq_true rfl) (cat_of rfl) ?_
  refine ev_aload_n dX11_back_0 rfl ?_
  refine ev_getN dX11_back_1 fo_11_361 (by omega) lo_0 rfl h ?_
  refine ev_ifnonnullN dX11_back_4 ?_
  refine ev_ldc (v := -1000000002) dX11_back_7 kw_11_124 ?_
  exact ev_iret dX11_back_9 rfl rfl ⟨rfl, rfl⟩
theorem jp_back (hp : LRpt LR) (hb : LRbd LR) (hn : 146 ≤ n) (hn2 : n ≤ 226) (hI : Iv LR n X) : JP g (Iv LR) mX11_back mX12_back [] n X := by
  obtain ⟨hX, hK, hT, hB, hZ⟩ := id hI
  rcases hB with ⟨rfl, i1, i2⟩ | ⟨rfl, i1, i2, i3⟩
  · exact jp_of hn hn2 (c_back_no hn hX i1) (e_of vX12_back (Nat.le_of_ble_eq_true rfl) (cat_of rfl) (bX12_back_0_0 hn hX i2 ⟨rfl, rfl⟩)) hI
  · obtain ⟨h0, y, z, hy, hz, e1, e2⟩ := hb _ _ i3.2.2.2.2.2.2.2.2
    have h8 : X 146 8 = 0 ∨ X 146 8 = 1 := by rw [show X 146 8 = X 135 3 from i3.1.1.2.2.1]; exact i3.1.2.2.1
    refine jp_rel (fun r Z => r = Z 1 5 ∧ X1PB 226 X Z) hn hn2 (c_back hX i1 h8 h0 hz hy e1 e2 (fun Z h => ⟨_, rfl, rfl, h⟩)) (fun r Z h => ?_)
    obtain ⟨rfl, h⟩ := h
    have z2 := h.2.1
    have e0 : Z 1 5 = Z 135 0 := by rw [h.2.2.1 5 (by omega), z2 135 (by omega)]; exact i3.1.1.1
    refine (m_back hn h.1 (by rw [z2 133 (by omega), i2]; decide)).mono (fun v W hv => ?_)
    obtain ⟨rfl, rfl⟩ := hv
    refine ⟨by rw [e0], ?_⟩
    obtain ⟨W, hW⟩ : ∃ W : LX, W = lx_row Z 134 (mcp (Z 134) (Z 135) 2156) := ⟨_, rfl⟩
    rw [← hW]
    have wC : ∀ k, k ≠ 134 → W k = Z k := fun k hk => by rw [hW, lx_row_ne _ _ _ hk]
    have w134 : ∀ j, j < 2156 → W 134 j = X 135 j := fun j hj => by rw [hW, lx_row_self, mcp_i hj, z2 135 (by omega)]
    have wX : ∀ k, (k < 1 ∨ 81 ≤ k) → k ≠ 134 → W k = X k := fun k h1 h2 => by rw [wC k h2, z2 k h1]
    have hKW : KR LR W (W 134) := by
      refine (i3.pt hp (pt_B h) w134).same hp.ok (fun k _ _ => wC k (by omega)) (fun j _ => rfl)
    refine iv_now hp.ok hI (by rw [hW]; exact h.1.row (by decide +kernel)) hKW (hT.fr ⟨by rw [wX 81 (by omega) (by omega)], by rw [wX 133 (by omega) (by omega)], by rw [wX 0 (by omega) (by omega)], by rw [wX 133 (by omega) (by omega)]⟩ (fun k _ => wX k (by omega) (by omega))) (by rw [wX 0 (by omega) (by omega)]) (by rw [wX 133 (by omega) (by omega)]) (fun k _ => wX k (by omega) (by omega)) (wX 135 (by omega) (by omega))
end KEEP
