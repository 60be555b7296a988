/-! THE CALLS, 8: sheet. -/
def zr (f : Nat → Int32) (s i : Nat) : Nat → Int32 := fun t => if 16 * s ≤ t ∧ t < 16 * s + i then 0 else f t
theorem zr_0 (f : Nat → Int32) (s : Nat) : zr f s 0 = f := by funext t; unfold zr; rw [if_neg (by omega)]
theorem zr_s (f : Nat → Int32) (s i : Nat) : upd (zr f s i) (16 * s + i) 0 = zr f s (i + 1) := by
  funext t
  unfold upd zr
  by_cases h : t = 16 * s + i
  · rw [if_pos h, if_pos (by omega)]
  · rw [if_neg h]
    by_cases q : 16 * s ≤ t ∧ t < 16 * s + i
    · rw [if_pos q, if_pos (by omega)]
    · rw [if_neg q, if_neg (by omega)]
section JP7
variable {LR : LX → (Nat → Int32) → Prop} {g : GG} {n : Nat} {X : LX}
theorem c_X12_sheet {s : Nat} {v : Int32} {d : Nat} (hd : 1 ≤ d) (hn : 146 ≤ n) (hX : Sh n X) (hs : s < 2) (h0 : 0 ≤ nI s ∧ nI s ≤ 1) (h1 : v ≤ 16) (h2 : 0 ≤ v) : Ex g mX12_sheet d n n [.ref 133, .int (nI s), .int v] X (rt v (lx_row (lx_up X 138 s v) 139 (zr (X 139) s 16))) := by
  have hX0 : Sh n (lx_up X 138 s v) := hX.upA (by decide +kernel)
  refine e_of vX12_sheet (Nat.le_of_ble_eq_true rfl) (cat_of rfl) (bX12_sheet_0_2 hd hn hX h0 h1 h2 hs ?_)
  have loop : ∀ i, i ≤ 16 → Ev g mX12_sheet d n n (rt v (lx_row (lx_up X 138 s v) 139 (zr (X 139) s 16))) n 35 [some (.ref 133), some (.int (nI s)), some (.int v), some (.int (nI i))] [] (lx_row (lx_up X 138 s v) 139 (zr (X 139) s i)) := by
    refine down ?_ ?_
    · exact bX12_sheet_35_1 hn (hX0.row (by decide +kernel)) (show nI 16 ≤ nI 16 from nI_le (by omega) (by omega)) ⟨rfl, rfl⟩
    · intro i hi k
      rw [show nI (i + 1) = nI i + 1 from (nI_1 i).symm, ← zr_s (X 139) s i, ← lx_row_up] at k
      exact bX12_sheet_35_0 hn (hX0.row (by decide +kernel)) (show ¬ nI 16 ≤ nI i from nI_ge hi (by omega)) (by omega) k
  have h := loop 0 (by omega)
  rw [zr_0, show lx_row (lx_up X 138 s v) 139 (X 139) = lx_up X 138 s v from lx_row_id (lx_up X 138 s v) 139] at h
  exact h
theorem jp_sheet (hL : LRok LR) {a b : Int32} (hn : 146 ≤ n) (hn2 : n ≤ 226) (hI : Iv LR n X) : JP g (Iv LR) mX11_sheet mX12_sheet [.int a, .int b] n X := by
  obtain ⟨hX, hK, hT, hB⟩ := id hI
  have i1 : (0 ≤ a ∧ a < 2) ↔ (0 ≤ a ∧ a ≤ 1) := cnt_iff (x := 2) (c := 2) (by omega) rfl
  by_cases h : 0 ≤ a ∧ a < 2
  · have hm := i1.mp h
    by_cases h1 : b ≤ 16
    · by_cases h2 : 0 ≤ b
      · obtain ⟨s, hs, rfl⟩ := cnt_num (x := 2) (c := 2) (by omega) rfl h
        have hX0 : Sh n (lx_row X (128 + 1 + s) (fillTo (X (128 + 1 + s)) (0 : Int32).toInt16.toInt32 16)) := hX.row (by rcases (show s = 0 ∨ s = 1 by omega) with e | e <;> subst e <;> decide +kernel)
        have hX1 : Sh n (lx_up (lx_row X (128 + 1 + s) (fillTo (X (128 + 1 + s)) (0 : Int32).toInt16.toInt32 16)) 131 s b) := hX0.upA (by decide +kernel)
        obtain ⟨X1, e1⟩ : ∃ Y : LX, Y = lx_up (lx_row X (128 + 1 + s) (fillTo (X (128 + 1 + s)) (0 : Int32).toInt16.toInt32 16)) 131 s b := ⟨_, rfl⟩
        have hS2 : Sh n (lx_row (lx_up X1 138 s b) 139 (zr (X1 139) s 16)) := by
          rw [e1]
          exact (hX1.upA (by decide +kernel)).row (by decide +kernel)
        have g1 : ∀ k, k ≠ 131 → k ≠ 128 + 1 + s → X1 k = X k := fun k w1 w2 => by rw [e1, up_ne w1, lx_row_ne _ _ _ w2]
        have gr : X1 (128 + 1 + s) = fillTo (X (128 + 1 + s)) 0 16 := by rw [e1, up_ne (by omega), lx_row_self]; rfl
        have g131 : ∀ t, t ≠ s → X1 131 t = X 131 t := fun t w => by rw [e1, up_at w, lx_row_ne _ _ _ (by omega)]
        have g131s : X1 131 s = b := by rw [e1, up_it]
        obtain ⟨Y, hY⟩ : ∃ Y : LX, Y = lx_row (lx_up X1 138 s b) 139 (zr (X1 139) s 16) := ⟨_, rfl⟩
        have fC : ∀ k, k ≠ 131 ∧ k ≠ 128 + 1 + s ∧ k ≠ 138 ∧ k ≠ 139 → Y k = X k := fun k w => by rw [hY, lx_row_ne _ _ _ w.2.2.2, up_ne w.2.2.1, g1 k w.1 w.2.1]
        have y131 : Y 131 = X1 131 := by rw [hY, lx_row_ne _ _ _ (by omega), up_ne (by omega)]
        have y138 : ∀ t, t ≠ s → Y 138 t = X 138 t := fun t w => by rw [hY, lx_row_ne _ _ _ (by omega), up_at w, g1 138 (by omega) (by omega)]
        have y138s : Y 138 s = b := by rw [hY, lx_row_ne _ _ _ (by omega), up_it]
        have y139 : Y 139 = zr (X 139) s 16 := by rw [hY, lx_row_self, g1 139 (by omega) (by omega)]
        have yr : Y (128 + 1 + s) = fillTo (X (128 + 1 + s)) 0 16 := by rw [hY, lx_row_ne _ _ _ (by omega), up_ne (by omega), gr]
        refine jp_of (X1 := X1) (X2 := Y) hn hn2 (e_of vX11_sheet (Nat.le_of_ble_eq_true rfl) (cat_of rfl) (bX11_sheet_0_2 (Nat.le_of_ble_eq_true rfl) hn hX h h1 h2 hs ⟨rfl, e1.symm⟩)) (by rw [hY]; exact c_X12_sheet (Nat.le_of_ble_eq_true rfl) hn (by rw [e1]; exact hX1) hs hm h1 h2) ?_
        obtain ⟨t1, t2, t3⟩ := hT
        refine iv_now hL hI (by rw [hY]; exact hS2) (hK.same hL (fun k _ _ => fC k (by omega)) (fun t _ => by rw [fC 134 (by omega)])) ⟨by rw [fC 81 (by omega), fC 133 (by omega), fC 82 (by omega), fC 136 (by omega)]; exact t1, by rw [fC 0 (by omega), fC 133 (by omega), fC 132 (by omega), fC 137 (by omega)]; exact t2, fun q hq => ?_⟩ (by rw [fC 0 (by omega)]) (by rw [fC 133 (by omega)]) (fun k _ => fC k (by omega)) (fC 135 (by omega))
        by_cases z : q = s
        · subst z
          refine ⟨by rw [y131, g131s, y138s], Or.inr ?_, fun i hi => ?_⟩
          · rw [y138s]
            exact i_num (N := 16) (by omega) h2 h1
          · rw [yr, y139]
            unfold fillTo zr
            rw [if_pos hi, if_pos (by omega)]
            exact ⟨rfl, by decide⟩
        · obtain ⟨u1, u2, u3⟩ := t3 q hq
          refine ⟨by rw [y131, g131 q z, y138 q z]; exact u1, by rw [y138 q z]; exact u2, fun i hi => ?_⟩
          rw [fC (128 + 1 + q) (by omega), y139]
          unfold zr
          rw [if_neg (by omega)]
          exact u3 i hi
      · exact jp_of hn hn2 (e_of vX11_sheet (Nat.le_of_ble_eq_true rfl) (cat_of rfl) (bX11_sheet_0_1 (Nat.le_of_ble_eq_true rfl) hn hX h h1 h2 ⟨rfl, rfl⟩)) (e_of vX12_sheet (Nat.le_of_ble_eq_true rfl) (cat_of rfl) (bX12_sheet_0_1 (Nat.le_of_ble_eq_true rfl) hn hX hm h1 h2 ⟨rfl, rfl⟩)) hI
    · exact jp_of hn hn2 (e_of vX11_sheet (Nat.le_of_ble_eq_true rfl) (cat_of rfl) (bX11_sheet_0_0 (Nat.le_of_ble_eq_true rfl) hn hX h h1 ⟨rfl, rfl⟩)) (e_of vX12_sheet (Nat.le_of_ble_eq_true rfl) (cat_of rfl) (bX12_sheet_0_0 (Nat.le_of_ble_eq_true rfl) hn hX hm h1 ⟨rfl, rfl⟩)) hI
  · exact jp_of hn hn2 (e_of vX11_sheet (Nat.le_of_ble_eq_true rfl) (cat_of rfl) (bX11_sheet_0_3 (Nat.le_of_ble_eq_true rfl) hn hX h ⟨rfl, rfl⟩)) (e_of vX12_sheet (Nat.le_of_ble_eq_true rfl) (cat_of rfl) (bX12_sheet_0_3 (Nat.le_of_ble_eq_true rfl) hn hX (fun w => h (i1.mpr w)) ⟨rfl, rfl⟩)) hI
end JP7
