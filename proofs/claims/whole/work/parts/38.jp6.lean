/-! THE CALLS, 7: meal. -/
section JP6
variable {LR : LX → (Nat → Int32) → Prop} {g : GG} {n : Nat} {X : LX}
theorem jp_meal (hL : LRok LR) {a b : Int32} (hn : 146 ≤ n) (hn2 : n ≤ 226) (hI : Iv LR n X) : JP g (Iv LR) mX11_meal mX12_meal [.int a, .int b] n X := by
  obtain ⟨hX, hK, hT, hB⟩ := id hI
  obtain ⟨⟨e0, e1, e3, e8, e4, e5, e6, e7⟩, r0, r3, r4, ⟨j, hj, em, b8, hb8, eb8⟩, r6, r7⟩ := hK.1
  by_cases h : 0 ≤ a ∧ a ≤ 3
  · by_cases h' : 0 ≤ b ∧ b ≤ 15
    · rcases Nat.lt_or_ge j 10 with q | q
      · have hc : X 23 0 < 10 := by rw [e5, em]; show nI j < nI 10; exact (nI_lt_iff (by omega) (by omega)).mpr q
        have hX0 : Sh n (lx_up X 23 0 (X 23 0 + 1)) := hX.upF (by decide +kernel) (by decide +kernel)
        have hX1 : Sh n (lx_up (lx_up X 23 0 (X 23 0 + 1)) 24 j a) := hX0.upA (by decide +kernel)
        have hX2 : Sh n (lx_up (lx_up (lx_up X 23 0 (X 23 0 + 1)) 24 j a) 25 j b) := hX1.upA (by decide +kernel)
        have hne : ¬ (lx_up (lx_up (lx_up X 23 0 (X 23 0 + 1)) 24 j a) 25 j b) 134 5 = 10 := by
          show ¬ X 134 5 = nI 10
          rw [em]
          intro e
          have w := (nI_lt_iff (a := j) (b := 10) (by omega) (by omega)).mpr q
          rw [e] at w
          exact absurd w (by decide +kernel)
        obtain ⟨Y, hY⟩ : ∃ Y : LX, Y = lx_up (lx_up (lx_up (lx_up (lx_up (lx_up X 23 0 (X 23 0 + 1)) 24 j a) 25 j b) 134 (318 + 13 * j + 0) a) 134 (318 + 13 * j + 1) b) 134 5 ((lx_up (lx_up (lx_up (lx_up (lx_up X 23 0 (X 23 0 + 1)) 24 j a) 25 j b) 134 (318 + 13 * j + 0) a) 134 (318 + 13 * j + 1) b) 134 5 + 1) := ⟨_, rfl⟩
        have hSY : Sh n Y := by
          rw [hY]
          exact ((hX2.upA (by decide +kernel)).upA (by decide +kernel)).upA (by decide +kernel)
        have y5 : (lx_up (lx_up (lx_up (lx_up (lx_up X 23 0 (X 23 0 + 1)) 24 j a) 25 j b) 134 (318 + 13 * j + 0) a) 134 (318 + 13 * j + 1) b) 134 5 = X 134 5 := by rw [up_at (by omega), up_at (by omega), up_ne (by omega), up_ne (by omega), up_ne (by omega)]
        have fC : ∀ k, k ≠ 23 → k ≠ 24 → k ≠ 25 → k ≠ 134 → Y k = X k := fun k h1 h2 h3 h4 => by rw [hY, up_ne h4, up_ne h4, up_ne h4, up_ne h3, up_ne h2, up_ne h1]
        have fA : ∀ t, t ≠ 5 → t ≠ 318 + 13 * j + 0 → t ≠ 318 + 13 * j + 1 → Y 134 t = X 134 t := fun t h1 h2 h3 => by rw [hY, up_at h1, up_at h3, up_at h2, up_ne (by omega), up_ne (by omega), up_ne (by omega)]
        have y23 : Y 23 0 = X 23 0 + 1 := by rw [hY, up_ne (by omega), up_ne (by omega), up_ne (by omega), up_ne (by omega), up_ne (by omega), up_it]
        have yA5 : Y 134 5 = X 134 5 + 1 := by rw [hY, up_it, y5]
        have y24 : ∀ t, t ≠ j → Y 24 t = X 24 t := fun t ht => by rw [hY, up_ne (by omega), up_ne (by omega), up_ne (by omega), up_ne (by omega), up_at ht, up_ne (by omega)]
        have y24j : Y 24 j = a := by rw [hY, up_ne (by omega), up_ne (by omega), up_ne (by omega), up_ne (by omega), up_it]
        have y25 : ∀ t, t ≠ j → Y 25 t = X 25 t := fun t ht => by rw [hY, up_ne (by omega), up_ne (by omega), up_ne (by omega), up_at ht, up_ne (by omega), up_ne (by omega)]
        have y25j : Y 25 j = b := by rw [hY, up_ne (by omega), up_ne (by omega), up_ne (by omega), up_it]
        have yAj : Y 134 (318 + 13 * j + 0) = a := by rw [hY, up_at (by omega), up_at (by omega), up_it]
        have yAk : Y 134 (318 + 13 * j + 1) = b := by rw [hY, up_at (by omega), up_it]
        refine jp_of (X2 := Y) hn hn2 (e_of vX11_meal (Nat.le_of_ble_eq_true rfl) (cat_of rfl) (bX11_meal_0_1 (Nat.le_of_ble_eq_true rfl) hn hX h h' hc (e5.trans em) q ⟨rfl, rfl⟩)) (e_of vX12_meal (Nat.le_of_ble_eq_true rfl) (cat_of rfl) (bX12_meal_0_1 (Nat.le_of_ble_eq_true rfl) hn hX2 h h' hne (show X 134 5 = nI j from em) (by omega) (by omega) ⟨show some (Value.int (X 134 5)) = _ by rw [e5], hY.symm⟩)) ?_
        have hR1 : R1 Y (Y 134) := by
          unfold R1
          rw [fC 1 (by omega) (by omega) (by omega) (by omega), fC 2 (by omega) (by omega) (by omega) (by omega), fC 37 (by omega) (by omega) (by omega) (by omega), fC 69 (by omega) (by omega) (by omega) (by omega), y23, yA5, fA 0 (by omega) (by omega) (by omega), fA 1 (by omega) (by omega) (by omega), fA 3 (by omega) (by omega) (by omega), fA 8 (by omega) (by omega) (by omega), fA 4 (by omega) (by omega) (by omega), fA 6 (by omega) (by omega) (by omega), fA 7 (by omega) (by omega) (by omega)]
          exact ⟨⟨e0, e1, e3, e8, e4, by rw [e5], e6, e7⟩, r0, r3, r4, ⟨j + 1, by omega, by rw [em]; exact nI_1 j, b8, Nat.lt_of_lt_of_le hb8 (Nat.pow_le_pow_right (by omega) (by omega)), eb8⟩, r6, r7⟩
        have hR4 : R4 Y (Y 134) := by
          intro m hm
          obtain ⟨s1, s2, s3, k, w, g1, g2, g3, g5, g6⟩ := hK.2.2.2.1 m hm
          have hml : mealR Y (Y 134) m := by
            refine ⟨k, w, g1, ?_, fun t ht => ?_, g5, fun p hp hw => ?_⟩
            · rw [fA _ (by omega) (by omega) (by omega)]; exact g2
            · rw [fC (26 + 1 + m) (by omega) (by omega) (by omega) (by omega), fA (318 + 13 * m + (3 + t)) (by omega) (by omega) (by omega), fA (318 + 13 * m + (8 + t)) (by omega) (by omega) (by omega), fA 4 (by omega) (by omega) (by omega)]
              exact g3 t ht
            · rw [fC (26 + 1 + m) (by omega) (by omega) (by omega) (by omega)]; exact g6 p hp hw
          by_cases z : m = j
          · subst z
            exact ⟨by rw [y24j, yAj], by rw [y25j, yAk], by rw [yAj]; exact h.2, hml⟩
          · refine ⟨?_, ?_, ?_, hml⟩
            · rw [y24 m z, fA _ (by omega) (by omega) (by omega)]; exact s1
            · rw [y25 m z, fA _ (by omega) (by omega) (by omega)]; exact s2
            · rw [fA _ (by omega) (by omega) (by omega)]; exact s3
        obtain ⟨-, k2, k3, -, k5, k6, k7, ⟨b1, b2, b3, b4, b5, b6, b7⟩, k8⟩ := hK
        have hfC : ∀ k, k ≠ 23 ∧ k ≠ 24 ∧ k ≠ 25 ∧ k ≠ 134 → Y k = X k := fun k w => fC k w.1 w.2.1 w.2.2.1 w.2.2.2
        have hfA : ∀ t, t ≠ 5 ∧ (t < 318 ∨ 448 ≤ t) → Y 134 t = X 134 t := fun t w => fA t w.1 (by omega) (by omega)
        have hle : ix (X 134 5) ≤ ix (Y 134 5) := by
          rw [yA5, em, nI_1 j, ix_nI (by omega), ix_nI (by omega)]; omega
        have hB3 : B3 (Y 134) := by
          intro m hm
          by_cases z : m = j
          · subst z
            rw [yAk]
            exact i_num (N := 15) (by omega) h'.1 h'.2
          · rw [fA _ (by omega) (by omega) (by omega)]; exact b3 m hm
        refine iv_now hL hI hSY ⟨hR1, k2.fr (fun k hk => hfC k (by omega)) (fun t _ _ => hfA t (by omega)), k3.fr (fun k _ _ => hfC k (by omega)) (fun t _ _ => hfA t (by omega)), hR4, k5.fr (fun k _ _ => hfC k (by omega)) (hfA 6 (by omega)) (fun t _ _ => hfA t (by omega)), k6.fr (fun k _ _ => hfC k (by omega)) (fun t _ _ => hfA t (by omega)), k7.fr (fun k _ _ => hfC k (by omega)) (fun t _ _ => hfA t (by omega)), ⟨b1.fr (fun t _ _ => hfA t (by omega)), b2.fr (fun t _ _ => hfA t (by omega)), hB3, b4.fr hle (fun f _ t _ => hfA _ (by omega)), b5.fr hle (fun t _ _ => hfA t (by omega)), b6.fr (hfA 7 (by omega)) (fun t _ _ => hfA t (by omega)), b7.fr (hfA 7 (by omega)) (fun p _ => hfA _ (by omega)) (fun l _ => ⟨hfA _ (by omega), hfA _ (by omega)⟩)⟩, hL _ _ _ _ (fun k _ _ => hfC k (by omega)) (hfA 2 (by omega)) (fun t _ _ => hfA t (by omega)) k8⟩
          (hT.fr ⟨by rw [hfC 81 (by omega)], by rw [hfC 133 (by omega)], by rw [hfC 0 (by omega)], by rw [hfC 133 (by omega)]⟩ (fun k _ => hfC k (by omega))) (by rw [hfC 0 (by omega)]) (by rw [hfC 133 (by omega)]) (fun k _ => hfC k (by omega)) (hfC 135 (by omega))
      · have ej : j = 10 := by omega
        subst ej
        exact jp_of hn hn2 (e_of vX11_meal (Nat.le_of_ble_eq_true rfl) (cat_of rfl) (bX11_meal_0_0 (Nat.le_of_ble_eq_true rfl) hn hX h h' (by rw [e5, em]; decide +kernel) ⟨rfl, rfl⟩)) (e_of vX12_meal (Nat.le_of_ble_eq_true rfl) (cat_of rfl) (bX12_meal_0_0 (Nat.le_of_ble_eq_true rfl) hn hX h h' em ⟨rfl, rfl⟩)) hI
    · exact jp_of hn hn2 (e_of vX11_meal (Nat.le_of_ble_eq_true rfl) (cat_of rfl) (bX11_meal_0_2 (Nat.le_of_ble_eq_true rfl) hn hX h h' ⟨rfl, rfl⟩)) (e_of vX12_meal (Nat.le_of_ble_eq_true rfl) (cat_of rfl) (bX12_meal_0_2 (Nat.le_of_ble_eq_true rfl) hn hX h h' ⟨rfl, rfl⟩)) hI
  · exact jp_of hn hn2 (e_of vX11_meal (Nat.le_of_ble_eq_true rfl) (cat_of rfl) (bX11_meal_0_3 (Nat.le_of_ble_eq_true rfl) hn hX h ⟨rfl, rfl⟩)) (e_of vX12_meal (Nat.le_of_ble_eq_true rfl) (cat_of rfl) (bX12_meal_0_3 (Nat.le_of_ble_eq_true rfl) hn hX h ⟨rfl, rfl⟩)) hI
end JP6
