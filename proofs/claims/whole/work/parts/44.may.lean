/-! THE CALLS, 10: may. -/
theorem green_iff {x : Int32} (h : x ≤ 3) : ((2 : Int32) = 0 ∨ x = 2 ∨ ((2 : Int32) = 2 ∧ x = 3)) ↔ 2 ≤ x := by
  constructor
  · rintro (w | w | ⟨-, w⟩)
    · exact absurd w (by decide)
    · rw [w]; decide
    · rw [w]; decide
  · intro w
    obtain ⟨t, ht, e⟩ := i_num (N := 3) (by omega) (show (0 : Int32) ≤ x by rw [Int32.le_iff_toInt_le] at w ⊢; rw [show (2 : Int32).toInt = 2 by decide] at w; rw [show (0 : Int32).toInt = 0 by decide]; omega) h
    rcases (show t = 0 ∨ t = 1 ∨ t = 2 ∨ t = 3 by omega) with e2 | e2 | e2 | e2 <;> subst e2
    · rw [e] at w; exact absurd w (by decide +kernel)
    · rw [e] at w; exact absurd w (by decide +kernel)
    · exact Or.inr (Or.inl e)
    · exact Or.inr (Or.inr ⟨rfl, e⟩)
section MAY
variable {LR : LX → (Nat → Int32) → Prop} {g : GG} {n : Nat} {X : LX}
theorem may_iff (hK : KR LR X (X 134)) {f m : Nat} (hf : nI f < X 134 6) (hf2 : f < 12) (hm : m < 10) : cMay X f m ↔ mMay X f m := by
  obtain ⟨⟨-, -, -, -, e4, -, -, -⟩, -, -, ⟨cp, hcp, ep⟩, -⟩ := hK.1
  obtain ⟨r1, -, r3, hml⟩ := hK.2.2.2.1 m hm
  obtain ⟨a0, -, a2, -⟩ := (hK.2.2.2.2.1 f hf2).1 hf
  unfold cMay mMay isKd
  rw [all_eq hml hK.2.1 ⟨cp, hcp, e4.trans ep⟩ e4, a0, a2, r1, green_iff r3]
theorem ok_meal {m : Nat} (h : mealR X (X 134) m) : okM X m := by
  obtain ⟨k, q, hk, e, h1, -, -⟩ := h
  refine ⟨⟨k, hk, e⟩, fun t ht => ?_⟩
  unfold mMany at ht
  rw [e, ix_nI (by omega)] at ht
  exact ⟨q t, by have := (h1 t ht).2.1; omega, (h1 t ht).1⟩
theorem jp_may {a b : Int32} (hn : 146 ≤ n) (hn2 : n ≤ 226) (hI : Iv LR n X) : JP g (Iv LR) mX11_may mX12_may [.int a, .int b] n X := by
  obtain ⟨hX, hK, hT, hB⟩ := id hI
  obtain ⟨⟨-, -, -, -, e4, e5, e6, -⟩, -, -, ⟨cp, hcp, ep⟩, ⟨cm, hcm, em, -⟩, ⟨cf, hcf, ef⟩, -⟩ := hK.1
  have i1 := cnt_iff (x := X 37 0) (v := a) (c := cf) (by omega) (e6.trans ef)
  have i2 := cnt_iff (x := X 23 0) (v := b) (c := cm) (by omega) (e5.trans em)
  by_cases h : 0 ≤ a ∧ a < X 37 0
  · have hm1 := i1.mp h
    rw [e6] at hm1
    by_cases h' : 0 ≤ b ∧ b < X 23 0
    · have hm2 := i2.mp h'
      rw [e5] at hm2
      obtain ⟨f, hf, rfl⟩ := cnt_num (by omega) (e6.trans ef) h
      obtain ⟨m, hm, rfl⟩ := cnt_num (by omega) (e5.trans em) h'
      have hlt : nI f < X 134 6 := by rw [ef, nI_lt_iff (by omega) (by omega)]; exact hf
      have hi := may_iff hK hlt (show f < 12 by omega) (show m < 10 by omega)
      have hok := ok_meal (hK.2.2.2.1 m (by omega)).2.2.2
      by_cases q : cMay X f m
      · exact jp_of hn hn2 (e_of vX11_may (Nat.le_of_ble_eq_true rfl) (cat_of rfl) (bX11_may_0_0 (Nat.le_of_ble_eq_true rfl) hn hX h h' (by omega) (by omega) ⟨cp, hcp, e4.trans ep⟩ q ⟨rfl, rfl⟩)) (e_of vX12_may (Nat.le_of_ble_eq_true rfl) (cat_of rfl) (bX12_may_0_0 (Nat.le_of_ble_eq_true rfl) hn hX hm1 hm2 (by omega) (by omega) hok (hi.mp q) ⟨rfl, rfl⟩)) hI
      · exact jp_of hn hn2 (e_of vX11_may (Nat.le_of_ble_eq_true rfl) (cat_of rfl) (bX11_may_0_1 (Nat.le_of_ble_eq_true rfl) hn hX h h' (by omega) (by omega) ⟨cp, hcp, e4.trans ep⟩ q ⟨rfl, rfl⟩)) (e_of vX12_may (Nat.le_of_ble_eq_true rfl) (cat_of rfl) (bX12_may_0_1 (Nat.le_of_ble_eq_true rfl) hn hX hm1 hm2 (by omega) (by omega) hok (fun w => q (hi.mpr w)) ⟨rfl, rfl⟩)) hI
    · have hm2 := fun w => h' (i2.mpr w)
      rw [e5] at hm2
      exact jp_of hn hn2 (e_of vX11_may (Nat.le_of_ble_eq_true rfl) (cat_of rfl) (bX11_may_0_2 (Nat.le_of_ble_eq_true rfl) hn hX h h' ⟨rfl, rfl⟩)) (e_of vX12_may (Nat.le_of_ble_eq_true rfl) (cat_of rfl) (bX12_may_0_2 (Nat.le_of_ble_eq_true rfl) hn hX hm1 hm2 ⟨rfl, rfl⟩)) hI
  · have hm1 := fun w => h (i1.mpr w)
    rw [e6] at hm1
    exact jp_of hn hn2 (e_of vX11_may (Nat.le_of_ble_eq_true rfl) (cat_of rfl) (bX11_may_0_3 (Nat.le_of_ble_eq_true rfl) hn hX h ⟨rfl, rfl⟩)) (e_of vX12_may (Nat.le_of_ble_eq_true rfl) (cat_of rfl) (bX12_may_0_3 (Nat.le_of_ble_eq_true rfl) hn hX hm1 ⟨rfl, rfl⟩)) hI
end MAY
