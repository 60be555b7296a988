/-! THE CALLS, 5: unlike. -/
section JP4
variable {LR : LX → (Nat → Int32) → Prop} {g : GG} {n : Nat} {X : LX}
theorem R3.two {i j : Nat} {c : Int32} (h : R3 X (X 134)) (hi : i < 14) (hj : j < 14) (hij : i ≠ j) : R3 (lx_up (lx_up (lx_up (lx_up X (8 + 1 + i) j c) (8 + 1 + j) i c) 134 (122 + 14 * i + j) c) 134 (122 + 14 * j + i) c) (lx_up (lx_up (lx_up (lx_up X (8 + 1 + i) j c) (8 + 1 + j) i c) 134 (122 + 14 * i + j) c) 134 (122 + 14 * j + i) c 134) := by
  intro p hp q hq
  rw [up_ne (show 8 + 1 + p ≠ 134 by omega), up_ne (show 8 + 1 + p ≠ 134 by omega)]
  by_cases e1 : p = j ∧ q = i
  · obtain ⟨rfl, rfl⟩ := e1
    rw [up_it, up_it]
  · rw [up_at (k := 134) (show 122 + 14 * p + q ≠ 122 + 14 * j + i by omega)]
    have s1 : lx_up (lx_up X (8 + 1 + i) j c) (8 + 1 + j) i c (8 + 1 + p) q = lx_up X (8 + 1 + i) j c (8 + 1 + p) q := by
      by_cases z : p = j
      · subst z
        exact up_at (fun w => e1 ⟨rfl, w⟩)
      · rw [up_ne (show 8 + 1 + p ≠ 8 + 1 + j by omega)]
    rw [s1]
    by_cases e2 : p = i ∧ q = j
    · obtain ⟨rfl, rfl⟩ := e2
      rw [up_it, up_it]
    · rw [up_at (k := 134) (show 122 + 14 * p + q ≠ 122 + 14 * i + j by omega), up_ne (show 134 ≠ 8 + 1 + j by omega), up_ne (show 134 ≠ 8 + 1 + i by omega)]
      have s2 : lx_up X (8 + 1 + i) j c (8 + 1 + p) q = X (8 + 1 + p) q := by
        by_cases z : p = i
        · subst z
          exact up_at (fun w => e2 ⟨rfl, w⟩)
        · rw [up_ne (show 8 + 1 + p ≠ 8 + 1 + i by omega)]
      rw [s2]
      exact h p hp q hq
theorem jp_unlike (hL : LRok LR) {a b c : Int32} (hn : 146 ≤ n) (hn2 : n ≤ 226) (hI : Iv LR n X) : JP g (Iv LR) mX11_unlike mX12_unlike [.int a, .int b, .int c] n X := by
  obtain ⟨hX, hK, hT, hB⟩ := id hI
  obtain ⟨⟨-, -, -, -, e4, -, -, -⟩, -, -, ⟨cp, hcp, ep⟩, -⟩ := hK.1
  have i1 := cnt_iff (x := X 2 0) (v := a) (c := cp) (by omega) (e4.trans ep)
  have i2 := cnt_iff (x := X 2 0) (v := b) (c := cp) (by omega) (e4.trans ep)
  by_cases h : 0 ≤ a ∧ a < X 2 0
  · have hm1 := i1.mp h
    rw [e4] at hm1
    by_cases h' : 0 ≤ b ∧ b < X 2 0
    · have hm2 := i2.mp h'
      rw [e4] at hm2
      by_cases z : a = b
      · exact jp_of hn hn2 (e_of vX11_unlike (Nat.le_of_ble_eq_true rfl) (cat_of rfl) (bX11_unlike_0_2 (Nat.le_of_ble_eq_true rfl) hn hX h h' z ⟨rfl, rfl⟩)) (e_of vX12_unlike (Nat.le_of_ble_eq_true rfl) (cat_of rfl) (bX12_unlike_0_2 (Nat.le_of_ble_eq_true rfl) hn hX hm1 hm2 z ⟨rfl, rfl⟩)) hI
      · by_cases q : 1 ≤ c ∧ c ≤ 99
        · obtain ⟨i, hi, rfl⟩ := cnt_num (by omega) (e4.trans ep) h
          obtain ⟨j, hj, rfl⟩ := cnt_num (by omega) (e4.trans ep) h'
          have hij : i ≠ j := fun w => z (by rw [w])
          have hR3 := hK.2.2.1
          have hX0 : Sh n (lx_up X (8 + 1 + i) j c) := hX.upA (by rw [lyr_8 i (by omega)]; exact (by decide : 0 < 2))
          have hX1 : Sh n (lx_up (lx_up X (8 + 1 + i) j c) (8 + 1 + j) i c) := hX0.upA (by rw [lyr_8 j (by omega)]; exact (by decide : 0 < 2))
          have hX2 : Sh n (lx_up (lx_up (lx_up X (8 + 1 + i) j c) (8 + 1 + j) i c) 134 (122 + 14 * i + j) c) := hX1.upA (by decide +kernel)
          have hX3 : Sh n (lx_up (lx_up (lx_up (lx_up X (8 + 1 + i) j c) (8 + 1 + j) i c) 134 (122 + 14 * i + j) c) 134 (122 + 14 * j + i) c) := hX2.upA (by decide +kernel)
          refine jp_of hn hn2 (e_of vX11_unlike (Nat.le_of_ble_eq_true rfl) (cat_of rfl) (bX11_unlike_0_0 (Nat.le_of_ble_eq_true rfl) hn hX h h' z q (by omega) (by omega) ⟨rfl, rfl⟩)) (e_of vX12_unlike (Nat.le_of_ble_eq_true rfl) (cat_of rfl) (bX12_unlike_0_0 (Nat.le_of_ble_eq_true rfl) hn hX1 (by rw [up_ne (by omega), up_ne (by omega)]; exact hm1) (by rw [up_ne (by omega), up_ne (by omega)]; exact hm2) z q (by omega) (by omega) ⟨by rw [up_ne (by omega), up_ne (by omega), hR3 i (by omega) j (by omega)], rfl⟩)) ?_
          refine iv_now hL hI hX3 (hK.fr3 hL (fun k _ _ _ => by rw [up_ne (by omega), up_ne (by omega), up_ne (by omega), up_ne (by omega)]) (fun t _ _ => by rw [up_at (by omega), up_at (by omega), up_ne (by omega), up_ne (by omega)]) (hR3.two (by omega) (by omega) hij) (fun p hp r hr => ?_))
            (hT.fr ⟨by rw [up_ne (by omega), up_ne (by omega), up_ne (by omega), up_ne (by omega)], by rw [up_ne (by omega), up_ne (by omega), up_ne (by omega), up_ne (by omega)], by rw [up_ne (by omega), up_ne (by omega), up_ne (by omega), up_ne (by omega)], by rw [up_ne (by omega), up_ne (by omega), up_ne (by omega), up_ne (by omega)]⟩ (fun k _ => by rw [up_ne (by omega), up_ne (by omega), up_ne (by omega), up_ne (by omega)])) (by rw [up_ne (by omega), up_ne (by omega), up_ne (by omega), up_ne (by omega)]) (by rw [up_ne (by omega), up_ne (by omega), up_ne (by omega), up_ne (by omega)]) (fun k _ => by rw [up_ne (by omega), up_ne (by omega), up_ne (by omega), up_ne (by omega)]) (by rw [up_ne (by omega), up_ne (by omega), up_ne (by omega), up_ne (by omega)])
          obtain ⟨u, hu, eu⟩ : ∃ k, k ≤ 99 ∧ c = nI k := i_num (by omega) (Int32.le_trans (by decide) q.1) q.2
          by_cases w1 : 122 + 14 * p + r = 122 + 14 * j + i
          · rw [w1, up_it]; exact ⟨u, hu, eu⟩
          · rw [up_at w1]
            by_cases w2 : 122 + 14 * p + r = 122 + 14 * i + j
            · rw [w2, up_it]; exact ⟨u, hu, eu⟩
            · rw [up_at w2, up_ne (by omega), up_ne (by omega)]
              exact hK.2.2.2.2.2.2.2.1.2.1 p hp r hr
        · exact jp_of hn hn2 (e_of vX11_unlike (Nat.le_of_ble_eq_true rfl) (cat_of rfl) (bX11_unlike_0_1 (Nat.le_of_ble_eq_true rfl) hn hX h h' z q ⟨rfl, rfl⟩)) (e_of vX12_unlike (Nat.le_of_ble_eq_true rfl) (cat_of rfl) (bX12_unlike_0_1 (Nat.le_of_ble_eq_true rfl) hn hX hm1 hm2 z q ⟨rfl, rfl⟩)) hI
    · have hm2 := fun w => h' (i2.mpr w)
      rw [e4] at hm2
      exact jp_of hn hn2 (e_of vX11_unlike (Nat.le_of_ble_eq_true rfl) (cat_of rfl) (bX11_unlike_0_3 (Nat.le_of_ble_eq_true rfl) hn hX h h' ⟨rfl, rfl⟩)) (e_of vX12_unlike (Nat.le_of_ble_eq_true rfl) (cat_of rfl) (bX12_unlike_0_3 (Nat.le_of_ble_eq_true rfl) hn hX hm1 hm2 ⟨rfl, rfl⟩)) hI
  · have hm1 := fun w => h (i1.mpr w)
    rw [e4] at hm1
    exact jp_of hn hn2 (e_of vX11_unlike (Nat.le_of_ble_eq_true rfl) (cat_of rfl) (bX11_unlike_0_4 (Nat.le_of_ble_eq_true rfl) hn hX h ⟨rfl, rfl⟩)) (e_of vX12_unlike (Nat.le_of_ble_eq_true rfl) (cat_of rfl) (bX12_unlike_0_4 (Nat.le_of_ble_eq_true rfl) hn hX hm1 ⟨rfl, rfl⟩)) hI
end JP4
