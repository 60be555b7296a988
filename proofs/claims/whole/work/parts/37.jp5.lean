/-! THE CALLS, 6: tell, isOf. -/
section JP5
variable {LR : LX → (Nat → Int32) → Prop} {g : GG} {n : Nat} {X : LX}
theorem jp_tell (hL : LRok LR) {a : Int32} (hn : 146 ≤ n) (hn2 : n ≤ 226) (hI : Iv LR n X) : JP g (Iv LR) mX11_tell mX12_tell [.int a] n X := by
  obtain ⟨hX, hK, hT, hB⟩ := id hI
  obtain ⟨t1, ⟨w1, ⟨b, hb, w2⟩, w3⟩, ts⟩ := hT
  have e7 := w1.trans w2
  by_cases h : b < 36
  · have hc : X 0 7 < 36 := by rw [e7]; show nI b < nI 36; exact (nI_lt_iff (by omega) (by omega)).mpr h
    have hX0 : Sh n (lx_up X 0 7 (X 0 7 + 1)) := hX.upF (by decide +kernel) (by decide +kernel)
    have hX1 : Sh n (lx_up (lx_up X 0 7 (X 0 7 + 1)) 132 b a) := hX0.upA (by decide +kernel)
    have hX2 : Sh n (lx_up (lx_up (lx_up X 0 7 (X 0 7 + 1)) 132 b a) 137 b a) := hX1.upA (by decide +kernel)
    have hX3 : Sh n (lx_up (lx_up (lx_up (lx_up X 0 7 (X 0 7 + 1)) 132 b a) 137 b a) 133 6 (lx_up (lx_up X 0 7 (X 0 7 + 1)) 132 b a 133 6 + 1)) := hX2.upF (by decide +kernel) (by decide +kernel)
    have hne : ¬ (lx_up (lx_up X 0 7 (X 0 7 + 1)) 132 b a) 133 6 = 36 := by
      show ¬ X 133 6 = nI 36
      rw [w2]
      intro e
      have := (nI_lt_iff (a := b) (b := 36) (by omega) (by omega)).mpr h
      rw [e] at this
      exact absurd this (by decide +kernel)
    refine jp_of hn hn2 (e_of vX11_tell (Nat.le_of_ble_eq_true rfl) (cat_of rfl) (bX11_tell_0_1 hn hX hc e7 h ⟨rfl, rfl⟩)) (e_of vX12_tell (Nat.le_of_ble_eq_true rfl) (cat_of rfl) (bX12_tell_0_1 hn hX1 hne (show X 133 6 = nI b from w2) h ⟨show some (Value.int (X 133 6 + 1)) = _ by rw [w1], rfl⟩)) ?_
    refine iv_now hL hI hX3 (hK.same hL (fun k _ _ => by rw [up_ne (by omega), up_ne (by omega), up_ne (by omega), up_ne (by omega)]) (fun j _ => rfl)) ⟨t1, ⟨?_, ⟨b + 1, by omega, ?_⟩, fun i hi => ?_⟩, fun s hs => ?_⟩ rfl rfl (fun k _ => by rw [up_ne (by omega), up_ne (by omega), up_ne (by omega), up_ne (by omega)]) rfl
    · show X 0 7 + 1 = X 133 6 + 1
      rw [w1]
    · show X 133 6 + 1 = nI (b + 1)
      rw [w2]
      exact nI_1 b
    · show lx_up (lx_up X 0 7 (X 0 7 + 1)) 132 b a 132 i = lx_up (lx_up (lx_up X 0 7 (X 0 7 + 1)) 132 b a) 137 b a 137 i
      by_cases z : i = b
      · subst z; rw [up_it, up_it]
      · rw [up_at z, up_at z]
        exact w3 i hi
    · rw [up_ne (show 128 + 1 + s ≠ 133 by omega), up_ne (show 128 + 1 + s ≠ 137 by omega), up_ne (show 128 + 1 + s ≠ 132 by omega), up_ne (show 128 + 1 + s ≠ 0 by omega)]
      exact ts s hs
  · have e36 : b = 36 := by omega
    subst e36
    exact jp_of hn hn2 (e_of vX11_tell (Nat.le_of_ble_eq_true rfl) (cat_of rfl) (bX11_tell_0_0 hn hX (by rw [e7]; decide +kernel) ⟨rfl, rfl⟩)) (e_of vX12_tell (Nat.le_of_ble_eq_true rfl) (cat_of rfl) (bX12_tell_0_0 hn hX w2 ⟨rfl, rfl⟩)) hI
theorem jp_isOf {a b : Int32} (hn : 146 ≤ n) (hn2 : n ≤ 226) (hI : Iv LR n X) : JP g (Iv LR) mX11_isOf mX12_isOf [.int a, .int b] n X := by
  obtain ⟨hX, hK, hT, hB⟩ := id hI
  obtain ⟨⟨-, -, -, -, -, e5, -, -⟩, -, -, -, ⟨cm, hcm, em, -⟩, -⟩ := hK.1
  have i1 := cnt_iff (x := X 23 0) (v := a) (c := cm) (by omega) (e5.trans em)
  by_cases h : 0 ≤ a ∧ a < X 23 0
  · have hm1 := i1.mp h
    rw [e5] at hm1
    by_cases q : 0 ≤ b ∧ b ≤ 3
    · obtain ⟨m, hm, rfl⟩ := cnt_num (by omega) (e5.trans em) h
      obtain ⟨r1, -, r3, -⟩ := hK.2.2.2.1 m (by omega)
      by_cases k : isKd X m b
      · refine jp_of hn hn2 (e_of vX11_isOf (Nat.le_of_ble_eq_true rfl) (cat_of rfl) (bX11_isOf_0_0 (Nat.le_of_ble_eq_true rfl) hn hX h q (by omega) k ⟨rfl, rfl⟩)) (e_of vX12_isOf (Nat.le_of_ble_eq_true rfl) (cat_of rfl) ?_) hI
        by_cases z : b = 0
        · exact bX12_isOf_0_4 (Nat.le_of_ble_eq_true rfl) hn hX hm1 q z ⟨rfl, rfl⟩
        · by_cases y : X 134 (318 + 13 * m + 0) = b
          · exact bX12_isOf_0_3 (Nat.le_of_ble_eq_true rfl) hn hX hm1 q z (by omega) y ⟨rfl, rfl⟩
          · rcases k with k | k | ⟨k1, k2⟩
            · exact absurd k z
            · exact absurd (r1.symm.trans k) y
            · exact bX12_isOf_0_0 (Nat.le_of_ble_eq_true rfl) hn hX hm1 q z (by omega) y k1 (by omega) (by rw [← r1, k2]; decide) ⟨rfl, rfl⟩
      · have k0 : ¬ b = 0 := fun w => k (Or.inl w)
        have k1 : ¬ X 134 (318 + 13 * m + 0) = b := fun w => k (Or.inr (Or.inl (r1.trans w)))
        refine jp_of hn hn2 (e_of vX11_isOf (Nat.le_of_ble_eq_true rfl) (cat_of rfl) (bX11_isOf_0_1 (Nat.le_of_ble_eq_true rfl) hn hX h q (by omega) k ⟨rfl, rfl⟩)) (e_of vX12_isOf (Nat.le_of_ble_eq_true rfl) (cat_of rfl) ?_) hI
        by_cases y : b = 2
        · refine bX12_isOf_0_1 (Nat.le_of_ble_eq_true rfl) hn hX hm1 q k0 (by omega) k1 y (by omega) (fun w => ?_) ⟨rfl, rfl⟩
          obtain ⟨t, ht, e⟩ := i_num (N := 3) (by omega) (show (0 : Int32) ≤ X 134 (318 + 13 * m + 0) by rw [Int32.le_iff_toInt_le] at w ⊢; rw [show (2 : Int32).toInt = 2 by decide] at w; rw [show (0 : Int32).toInt = 0 by decide]; omega) r3
          rcases (show t = 0 ∨ t = 1 ∨ t = 2 ∨ t = 3 by omega) with e2 | e2 | e2 | e2 <;> subst e2
          · rw [e] at w; exact absurd w (by decide +kernel)
          · rw [e] at w; exact absurd w (by decide +kernel)
          · exact k1 (e.trans y.symm)
          · exact k (Or.inr (Or.inr ⟨y, r1.trans e⟩))
        · exact bX12_isOf_0_2 (Nat.le_of_ble_eq_true rfl) hn hX hm1 q k0 (by omega) k1 y ⟨rfl, rfl⟩
    · exact jp_of hn hn2 (e_of vX11_isOf (Nat.le_of_ble_eq_true rfl) (cat_of rfl) (bX11_isOf_0_2 (Nat.le_of_ble_eq_true rfl) hn hX h q ⟨rfl, rfl⟩)) (e_of vX12_isOf (Nat.le_of_ble_eq_true rfl) (cat_of rfl) (bX12_isOf_0_5 (Nat.le_of_ble_eq_true rfl) hn hX hm1 q ⟨rfl, rfl⟩)) hI
  · have hm1 := fun w => h (i1.mpr w)
    rw [e5] at hm1
    exact jp_of hn hn2 (e_of vX11_isOf (Nat.le_of_ble_eq_true rfl) (cat_of rfl) (bX11_isOf_0_3 (Nat.le_of_ble_eq_true rfl) hn hX h ⟨rfl, rfl⟩)) (e_of vX12_isOf (Nat.le_of_ble_eq_true rfl) (cat_of rfl) (bX12_isOf_0_6 (Nat.le_of_ble_eq_true rfl) hn hX hm1 ⟨rfl, rfl⟩)) hI
end JP5
