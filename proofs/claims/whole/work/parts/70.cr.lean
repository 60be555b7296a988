/-! CONTRACT: a row copied whole. -/
section CR
variable {g : GG} {d n : Nat} {X : LX}
theorem c_X11_copyRow {r0 r1 l : Nat} (hd : 1 ≤ d) (hn : 146 ≤ n) (hX : Sh n X) (h0 : r0 < n) (y0 : LY r0 = (0, l)) (h1 : r1 < n) (y1 : LY r1 = (0, l)) : Ex g mX11_copyRow d n n [.ref r0, .ref r1] X (rv (lx_row X r1 (va_cpy (X r0) (X r1) 0 0 l))) := by
  refine e_of vX11_copyRow (Nat.le_of_ble_eq_true rfl) (cat_of rfl) (bX11_copyRow_0_0 hd hn hX h0 y0 h1 y1 (j1 := l) ?_ (by omega) (by omega) ⟨rfl, rfl⟩)
  by_cases c : nI l < nI l
  · rw [if_pos c]
  · rw [if_neg c]
end CR
