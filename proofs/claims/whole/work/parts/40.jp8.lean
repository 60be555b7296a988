/-! THE CALLS, 9: mark. -/
theorem pl_iff {x b : Int32} {c : Nat} (hc : c ≤ 16) (e : x = nI c) : (0 ≤ b ∧ (0 : Int32) ≤ 1 ∧ b ≤ x ∧ 1 ≤ x - b) ↔ (0 ≤ b ∧ b ≤ x - 1) := by
  refine Iff.trans ⟨fun h => ?_, fun h => ?_⟩ (cnt_iff (c := c) (by omega) e)
  · subst e
    obtain ⟨h1, -, h2, h3⟩ := h
    obtain ⟨t, ht, rfl⟩ := i_num (by omega) h1 h2
    rw [Int32.le_iff_toInt_le, pk_sub_toInt (by omega) (by omega), show (1 : Int32).toInt = 1 by decide] at h3
    exact ⟨h1, (nI_lt_iff (by omega) (by omega)).mpr (by omega)⟩
  · obtain ⟨t, ht, rfl⟩ := cnt_num (by omega) e h
    subst e
    refine ⟨h.1, by decide, ?_, ?_⟩
    · rw [Int32.le_iff_toInt_le, nI_toInt (by omega), nI_toInt (by omega)]; omega
    · rw [Int32.le_iff_toInt_le, pk_sub_toInt (by omega) (by omega), show (1 : Int32).toInt = 1 by decide]; omega
theorem sh2 (v : Int32) : v.toInt16.toInt32.toInt16.toInt32 = v.toInt16.toInt32 := by simp
section JP8
variable {LR : LX → (Nat → Int32) → Prop} {g : GG} {n : Nat} {X : LX}
theorem jp_mark (hL : LRok LR) {a b v : Int32} (hn : 146 ≤ n) (hn2 : n ≤ 226) (hI : Iv LR n X) : JP g (Iv LR) mX11_mark mX12_mark [.int a, .int b, .int v] n X := by
  obtain ⟨hX, hK, hT, hB⟩ := id hI
  have i1 : (0 ≤ a ∧ a < 2) ↔ (0 ≤ a ∧ a ≤ 1) := cnt_iff (x := 2) (c := 2) (by omega) rfl
  by_cases h : 0 ≤ a ∧ a < 2
  · have hm := i1.mp h
    obtain ⟨s, hs, rfl⟩ := cnt_num (x := 2) (c := 2) (by omega) rfl h
    obtain ⟨u1, u2, u3⟩ := hT.2.2 s hs
    rcases u2 with u2 | ⟨c, hc, u2⟩
    · exact jp_of hn hn2 (e_of vX11_mark (Nat.le_of_ble_eq_true rfl) (cat_of rfl) (bX11_mark_0_0 (Nat.le_of_ble_eq_true rfl) hn hX h hs (by rw [u1, u2]; decide) ⟨rfl, rfl⟩)) (e_of vX12_mark (Nat.le_of_ble_eq_true rfl) (cat_of rfl) (bX12_mark_0_0 (Nat.le_of_ble_eq_true rfl) hn hX hm hs (by rw [u2]; decide) ⟨rfl, rfl⟩)) hI
    · have p1 : ¬ X 131 s < 0 := by rw [u1, u2, Int32.lt_iff_toInt_lt, nI_toInt (by omega), show (0 : Int32).toInt = 0 by decide]; omega
      have p2 : 0 ≤ X 138 s := by rw [u2, Int32.le_iff_toInt_le, nI_toInt (by omega), show (0 : Int32).toInt = 0 by decide]; omega
      have i2 := pl_iff (x := X 131 s) (b := b) hc (u1.trans u2)
      by_cases q : 0 ≤ b ∧ (0 : Int32) ≤ 1 ∧ b ≤ X 131 s ∧ 1 ≤ X 131 s - b
      · have q2 := i2.mp q
        obtain ⟨t, ht, rfl⟩ := cnt_num (by omega) (u1.trans u2) ((cnt_iff (by omega) (u1.trans u2)).mpr q2)
        rw [u1] at q2
        have hX1 : Sh n (lx_up X (128 + 1 + s) t v.toInt16.toInt32.toInt16.toInt32) := hX.upA (by rcases (show s = 0 ∨ s = 1 by omega) with e | e <;> subst e <;> decide +kernel)
        have hX2 : Sh n (lx_up (lx_up X (128 + 1 + s) t v.toInt16.toInt32.toInt16.toInt32) 139 (16 * s + t) v.toInt16.toInt32) := hX1.upA (by decide +kernel)
        refine jp_of hn hn2 (e_of vX11_mark (Nat.le_of_ble_eq_true rfl) (cat_of rfl) (bX11_mark_0_1 (Nat.le_of_ble_eq_true rfl) hn hX h hs p1 q hs (by omega) ⟨rfl, rfl⟩)) (e_of vX12_mark (Nat.le_of_ble_eq_true rfl) (cat_of rfl) (bX12_mark_0_1 (Nat.le_of_ble_eq_true rfl) hn hX1 hm hs (by rw [up_ne (by omega)]; exact p2) (by rw [up_ne (by omega)]; exact q2) (by omega) ⟨by rw [up_ne (by omega), (u3 t (by omega)).1], rfl⟩)) ?_
        have fC : ∀ k, k ≠ 128 + 1 + s ∧ k ≠ 139 → lx_up (lx_up X (128 + 1 + s) t v.toInt16.toInt32.toInt16.toInt32) 139 (16 * s + t) v.toInt16.toInt32 k = X k := fun k w => by rw [up_ne w.2, up_ne w.1]
        refine iv_now hL hI hX2 (hK.same hL (fun k _ _ => fC k (by omega)) (fun j _ => by rw [fC 134 (by omega)])) ⟨by rw [fC 81 (by omega), fC 133 (by omega), fC 82 (by omega), fC 136 (by omega)]; exact hT.1, by rw [fC 0 (by omega), fC 133 (by omega), fC 132 (by omega), fC 137 (by omega)]; exact hT.2.1, fun w hw => ?_⟩ (by rw [fC 0 (by omega)]) (by rw [fC 133 (by omega)]) (fun k _ => fC k (by omega)) (fC 135 (by omega))
        obtain ⟨v1, v2, v3⟩ := hT.2.2 w hw
        rw [fC 131 (by omega), fC 138 (by omega)]
        refine ⟨v1, v2, fun i hi => ?_⟩
        rw [up_ne (show 128 + 1 + w ≠ 139 by omega)]
        by_cases z : w = s ∧ i = t
        · obtain ⟨rfl, rfl⟩ := z
          rw [up_it, up_it, sh2]
          exact ⟨rfl, rfl⟩
        · rw [up_at (k := 139) (show 16 * w + i ≠ 16 * s + t by omega), up_ne (show 139 ≠ 128 + 1 + s by omega)]
          by_cases y : w = s
          · subst y
            rw [up_at (fun e => z ⟨rfl, e⟩)]
            exact v3 i hi
          · rw [up_ne (show 128 + 1 + w ≠ 128 + 1 + s by omega)]
            exact v3 i hi
      · have q2 := fun w => q (i2.mpr w)
        rw [u1] at q2
        exact jp_of hn hn2 (e_of vX11_mark (Nat.le_of_ble_eq_true rfl) (cat_of rfl) (bX11_mark_0_2 (Nat.le_of_ble_eq_true rfl) hn hX h hs p1 q ⟨rfl, rfl⟩)) (e_of vX12_mark (Nat.le_of_ble_eq_true rfl) (cat_of rfl) (bX12_mark_0_2 (Nat.le_of_ble_eq_true rfl) hn hX hm hs p2 q2 ⟨rfl, rfl⟩)) hI
  · exact jp_of hn hn2 (e_of vX11_mark (Nat.le_of_ble_eq_true rfl) (cat_of rfl) (bX11_mark_0_3 (Nat.le_of_ble_eq_true rfl) hn hX h ⟨rfl, rfl⟩)) (e_of vX12_mark (Nat.le_of_ble_eq_true rfl) (cat_of rfl) (bX12_mark_0_3 (Nat.le_of_ble_eq_true rfl) hn hX (fun w => h (i1.mpr w)) ⟨rfl, rfl⟩)) hI
end JP8
