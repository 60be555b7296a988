/-! THE CALLS, 3: told, likes. -/
theorem cnt_iff {x v : Int32} {c : Nat} (hc : c ≤ 1000) (e : x = nI c) : (0 ≤ v ∧ v < x) ↔ (0 ≤ v ∧ v ≤ x - 1) := by
  subst e
  rw [Int32.lt_iff_toInt_lt, Int32.le_iff_toInt_le, Int32.le_iff_toInt_le, show nI c - 1 = nI c - nI 1 from rfl, pk_sub_toInt (by omega) (by omega), nI_toInt (by omega), show (0 : Int32).toInt = 0 by decide]
  omega
theorem cnt_num {x v : Int32} {c : Nat} (hc : c ≤ 1000) (e : x = nI c) (h : 0 ≤ v ∧ v < x) : ∃ k, k < c ∧ v = nI k := by
  subst e
  rw [Int32.lt_iff_toInt_lt, Int32.le_iff_toInt_le, nI_toInt (by omega), show (0 : Int32).toInt = 0 by decide] at h
  refine ⟨v.toInt.toNat, by omega, Int32.toInt_inj.mp ?_⟩
  rw [nI_toInt (by omega)]
  omega
theorem nI_lt_iff {a b : Nat} (ha : a < 1000000) (hb : b < 1000000) : nI a < nI b ↔ a < b := by
  rw [Int32.lt_iff_toInt_lt, nI_toInt (by omega), nI_toInt (by omega)]
  omega
section JP2
variable {LR : LX → (Nat → Int32) → Prop} {g : GG} {n : Nat} {X : LX}
theorem jp_told {a b : Int32} (hn : 146 ≤ n) (hn2 : n ≤ 226) (hI : Iv LR n X) : JP g (Iv LR) mX11_told mX12_told [.int a, .int b] n X := by
  obtain ⟨hX, hK, hT, hB⟩ := id hI
  obtain ⟨⟨-, -, -, -, -, -, -, e7⟩, -, -, -, -, -, ⟨c, hc, ec⟩⟩ := hK.1
  have h7 := hK.2.2.2.2.2.2.1
  have hi := cnt_iff (x := X 69 0) (v := a) (c := c) (by omega) (e7.trans ec)
  by_cases h : 0 ≤ a ∧ a < X 69 0
  · obtain ⟨k, hk, rfl⟩ := cnt_num (by omega) (e7.trans ec) h
    have h2 := hi.mp h
    rw [e7] at h2
    by_cases q : b.toInt < 0 ∨ 3 < b.toInt
    · refine jp_of hn hn2 (e_of vX11_told (Nat.le_of_ble_eq_true rfl) (cat_of rfl) (bX11_told_0_0 (Nat.le_of_ble_eq_true rfl) hn hX h q ⟨rfl, rfl⟩)) (e_of vX12_told (Nat.le_of_ble_eq_true rfl) (cat_of rfl) (bX12_told_0_1 (Nat.le_of_ble_eq_true rfl) hn hX h2 (fun w => ?_) ⟨rfl, rfl⟩)) hI
      rw [Int32.le_iff_toInt_le, Int32.le_iff_toInt_le, show (0 : Int32).toInt = 0 by decide, show (3 : Int32).toInt = 3 by decide] at w
      omega
    · obtain ⟨t, ht, rfl⟩ := i_cases 3 (by omega) q
      obtain ⟨r0, r1, r2, r3, -⟩ := h7 k (by omega)
      rcases (show t = 0 ∨ t = 1 ∨ t = 2 ∨ t = 3 by omega) with e | e | e | e <;> subst e
      · exact jp_of hn hn2 (e_of vX11_told (Nat.le_of_ble_eq_true rfl) (cat_of rfl) (bX11_told_0_1 (Nat.le_of_ble_eq_true rfl) hn hX h rfl (by omega) ⟨rfl, rfl⟩)) (e_of vX12_told (Nat.le_of_ble_eq_true rfl) (cat_of rfl) (bX12_told_0_0 (Nat.le_of_ble_eq_true rfl) hn hX h2 (by decide +kernel) (by omega) ⟨by rw [r0], rfl⟩)) hI
      · exact jp_of hn hn2 (e_of vX11_told (Nat.le_of_ble_eq_true rfl) (cat_of rfl) (bX11_told_0_2 (Nat.le_of_ble_eq_true rfl) hn hX h rfl (by omega) ⟨rfl, rfl⟩)) (e_of vX12_told (Nat.le_of_ble_eq_true rfl) (cat_of rfl) (bX12_told_0_0 (Nat.le_of_ble_eq_true rfl) hn hX h2 (by decide +kernel) (by omega) ⟨by rw [r1], rfl⟩)) hI
      · exact jp_of hn hn2 (e_of vX11_told (Nat.le_of_ble_eq_true rfl) (cat_of rfl) (bX11_told_0_3 (Nat.le_of_ble_eq_true rfl) hn hX h rfl (by omega) ⟨rfl, rfl⟩)) (e_of vX12_told (Nat.le_of_ble_eq_true rfl) (cat_of rfl) (bX12_told_0_0 (Nat.le_of_ble_eq_true rfl) hn hX h2 (by decide +kernel) (by omega) ⟨by rw [r2], rfl⟩)) hI
      · exact jp_of hn hn2 (e_of vX11_told (Nat.le_of_ble_eq_true rfl) (cat_of rfl) (bX11_told_0_4 (Nat.le_of_ble_eq_true rfl) hn hX h rfl (by omega) ⟨rfl, rfl⟩)) (e_of vX12_told (Nat.le_of_ble_eq_true rfl) (cat_of rfl) (bX12_told_0_0 (Nat.le_of_ble_eq_true rfl) hn hX h2 (by decide +kernel) (by omega) ⟨by rw [r3], rfl⟩)) hI
  · have h2 := fun w => h (hi.mpr w)
    rw [e7] at h2
    exact jp_of hn hn2 (e_of vX11_told (Nat.le_of_ble_eq_true rfl) (cat_of rfl) (bX11_told_0_5 (Nat.le_of_ble_eq_true rfl) hn hX h ⟨rfl, rfl⟩)) (e_of vX12_told (Nat.le_of_ble_eq_true rfl) (cat_of rfl) (bX12_told_0_2 (Nat.le_of_ble_eq_true rfl) hn hX h2 ⟨rfl, rfl⟩)) hI
theorem R5.likes {C : LX} {A : Nat → Int32} (h : R5 C A) {f m : Nat} {v : Int32} (hf : nI f < A 6) (hf2 : f < 12) (hm : m < 10) {C' : LX} {A' : Nat → Int32} (hC : ∀ k, 38 ≤ k → k ≤ 55 → k ≠ 43 + 1 + f → C' k = C k) (hCf : ∀ j, j ≠ m → C' (43 + 1 + f) j = C (43 + 1 + f) j) (hCm : C' (43 + 1 + f) m = v) (h6 : A' 6 = A 6) (hA : ∀ j, 448 ≤ j → j < 628 → j ≠ 448 + 15 * f + (5 + m) → A' j = A j) (hAm : A' (448 + 15 * f + (5 + m)) = v) : R5 C' A' := by
  intro q hq
  obtain ⟨s1, s2⟩ := h q hq
  rw [h6, hC 38 (by omega) (by omega) (by omega), hC 39 (by omega) (by omega) (by omega), hC 40 (by omega) (by omega) (by omega), hC 41 (by omega) (by omega) (by omega), hC 42 (by omega) (by omega) (by omega), hA (448 + 15 * q + 0) (by omega) (by omega) (by omega), hA (448 + 15 * q + 1) (by omega) (by omega) (by omega), hA (448 + 15 * q + 2) (by omega) (by omega) (by omega), hA (448 + 15 * q + 3) (by omega) (by omega) (by omega), hA (448 + 15 * q + 4) (by omega) (by omega) (by omega)]
  by_cases e : q = f
  · subst e
    refine ⟨fun w => ?_, fun w => absurd hf w⟩
    obtain ⟨a, b, c, d, e, g⟩ := s1 w
    refine ⟨a, b, c, d, e, fun t ht => ?_⟩
    by_cases z : t = m
    · subst z
      rw [hCm, hAm]
    · rw [hCf t z, hA _ (by omega) (by omega) (by omega)]
      exact g t ht
  · rw [hC (43 + 1 + q) (by omega) (by omega) (by omega)]
    refine ⟨fun w => ?_, s2⟩
    obtain ⟨a, b, c, d, e, g⟩ := s1 w
    exact ⟨a, b, c, d, e, fun t ht => by rw [hA _ (by omega) (by omega) (by omega)]; exact g t ht⟩
end JP2
