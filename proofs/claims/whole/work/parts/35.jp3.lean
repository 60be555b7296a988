/-! THE CALLS, 4: likes, unlike. -/
section JP3
variable {LR : LX → (Nat → Int32) → Prop} {g : GG} {n : Nat} {X : LX}
/-- only families have moved -/
theorem KR.fr5 (hL : LRok LR) {C C' : LX} {A A' : Nat → Int32} (h : KR LR C A) (hC : ∀ k, 1 ≤ k → k ≤ 80 → (k < 38 ∨ 55 < k) → C' k = C k) (hA : ∀ j, j < 2156 → (j < 448 ∨ 628 ≤ j) → A' j = A j) (hR : R5 C' A') (hB : B4 A') : KR LR C' A' := by
  obtain ⟨h1, h2, h3, h4, h5, h6, h7, ⟨b1, b2, b3, b4, b5, b6, b7⟩, h8⟩ := h
  refine ⟨h1.fr ⟨?_, ?_, ?_, ?_, ?_, ?_, ?_, ?_⟩ (fun j hj => hA j (by omega) (by omega)), h2.fr (fun k hk => hC k (by omega) (by omega) (by omega)) (fun j _ hj => hA j (by omega) (by omega)), h3.fr (fun k _ hk => hC k (by omega) (by omega) (by omega)) (fun j _ hj => hA j (by omega) (by omega)), h4.fr (fun k _ hk => hC k (by omega) (by omega) (by omega)) (hA 4 (by omega) (by omega)) (fun j _ hj => hA j (by omega) (by omega)),
    hR, h6.fr (fun k _ hk => hC k (by omega) (by omega) (by omega)) (fun j _ hj => hA j (by omega) (by omega)), h7.fr (fun k _ hk => hC k (by omega) (by omega) (by omega)) (fun j _ hj => hA j (by omega) (by omega)), ⟨b1.fr (fun j _ hj => hA j (by omega) (by omega)), b2.fr (fun j _ hj => hA j (by omega) (by omega)), b3.fr (fun j _ hj => hA j (by omega) (by omega)), hB, b5.fr (by rw [hA 5 (by omega) (by omega)]; exact Nat.le_refl _) (fun j _ hj => hA j (by omega) (by omega)), b6.fr (hA 7 (by omega) (by omega)) (fun j _ hj => hA j (by omega) (by omega)), b7.fr (hA 7 (by omega) (by omega)) (fun p _ => hA _ (by omega) (by omega)) (fun l _ => ⟨hA _ (by omega) (by omega), hA _ (by omega) (by omega)⟩)⟩, hL _ _ _ _ (fun k _ hk => hC k (by omega) (by omega) (by omega)) (hA 2 (by omega) (by omega)) (fun j _ hj => hA j hj (by omega)) h8⟩ <;> rw [hC _ (by omega) (by omega) (by omega)]
/-- only the table of unlike parts has moved -/
theorem KR.fr3 (hL : LRok LR) {C C' : LX} {A A' : Nat → Int32} (h : KR LR C A) (hC : ∀ k, 1 ≤ k → k ≤ 80 → (k < 9 ∨ 22 < k) → C' k = C k) (hA : ∀ j, j < 2156 → (j < 122 ∨ 318 ≤ j) → A' j = A j) (hR : R3 C' A') (hB : B2 A') : KR LR C' A' := by
  obtain ⟨h1, h2, h3, h4, h5, h6, h7, ⟨b1, b2, b3, b4, b5, b6, b7⟩, h8⟩ := h
  refine ⟨h1.fr ⟨?_, ?_, ?_, ?_, ?_, ?_, ?_, ?_⟩ (fun j hj => hA j (by omega) (by omega)), h2.fr (fun k hk => hC k (by omega) (by omega) (by omega)) (fun j _ hj => hA j (by omega) (by omega)), hR, h4.fr (fun k _ hk => hC k (by omega) (by omega) (by omega)) (hA 4 (by omega) (by omega)) (fun j _ hj => hA j (by omega) (by omega)),
    h5.fr (fun k _ hk => hC k (by omega) (by omega) (by omega)) (hA 6 (by omega) (by omega)) (fun j _ hj => hA j (by omega) (by omega)), h6.fr (fun k _ hk => hC k (by omega) (by omega) (by omega)) (fun j _ hj => hA j (by omega) (by omega)), h7.fr (fun k _ hk => hC k (by omega) (by omega) (by omega)) (fun j _ hj => hA j (by omega) (by omega)), ⟨b1.fr (fun j _ hj => hA j (by omega) (by omega)), hB, b3.fr (fun j _ hj => hA j (by omega) (by omega)), b4.fr (by rw [hA 5 (by omega) (by omega)]; exact Nat.le_refl _) (fun f _ t _ => hA _ (by omega) (by omega)), b5.fr (by rw [hA 5 (by omega) (by omega)]; exact Nat.le_refl _) (fun j _ hj => hA j (by omega) (by omega)), b6.fr (hA 7 (by omega) (by omega)) (fun j _ hj => hA j (by omega) (by omega)), b7.fr (hA 7 (by omega) (by omega)) (fun p _ => hA _ (by omega) (by omega)) (fun l _ => ⟨hA _ (by omega) (by omega), hA _ (by omega) (by omega)⟩)⟩, hL _ _ _ _ (fun k _ hk => hC k (by omega) (by omega) (by omega)) (hA 2 (by omega) (by omega)) (fun j _ hj => hA j hj (by omega)) h8⟩ <;> rw [hC _ (by omega) (by omega) (by omega)]
theorem jp_likes (hL : LRok LR) {a b c : Int32} (hn : 146 ≤ n) (hn2 : n ≤ 226) (hI : Iv LR n X) : JP g (Iv LR) mX11_likes mX12_likes [.int a, .int b, .int c] n X := by
  obtain ⟨hX, hK, hT, hB⟩ := id hI
  obtain ⟨⟨-, -, -, -, -, e5, e6, -⟩, -, -, -, ⟨cm, hcm, em, -⟩, ⟨cf, hcf, ef⟩, -⟩ := hK.1
  have i1 := cnt_iff (x := X 37 0) (v := a) (c := cf) (by omega) (e6.trans ef)
  have i2 := cnt_iff (x := X 23 0) (v := b) (c := cm) (by omega) (e5.trans em)
  by_cases h : 0 ≤ a ∧ a < X 37 0
  · have hm1 := i1.mp h
    rw [e6] at hm1
    by_cases h' : 0 ≤ b ∧ b < X 23 0
    · have hm2 := i2.mp h'
      rw [e5] at hm2
      by_cases q : 0 ≤ c ∧ c ≤ 9
      · obtain ⟨f, hf, rfl⟩ := cnt_num (by omega) (e6.trans ef) h
        obtain ⟨m, hm, rfl⟩ := cnt_num (by omega) (e5.trans em) h'
        have hR5 := hK.2.2.2.2.1
        have hlt : nI f < X 134 6 := by rw [ef, nI_lt_iff (by omega) (by omega)]; exact hf
        have hX1 : Sh n (lx_up X (43 + 1 + f) m c) := hX.upA (by rw [lyr_43 f (by omega)]; exact (by decide : 0 < 2))
        have hX2 : Sh n (lx_up (lx_up X (43 + 1 + f) m c) 134 (448 + 15 * f + (5 + m)) c) := hX1.upA (by decide +kernel)
        have hw := ((hR5 f (by omega)).1 hlt).2.2.2.2.2 m (by omega)
        refine jp_of hn hn2 (e_of vX11_likes (Nat.le_of_ble_eq_true rfl) (cat_of rfl) (bX11_likes_0_0 (Nat.le_of_ble_eq_true rfl) hn hX h h' q (by omega) (by omega) ⟨rfl, rfl⟩)) (e_of vX12_likes (Nat.le_of_ble_eq_true rfl) (cat_of rfl) (bX12_likes_0_0 (Nat.le_of_ble_eq_true rfl) hn hX1 (by rw [up_ne (by omega)]; exact hm1) (by rw [up_ne (by omega)]; exact hm2) q (by omega) ⟨by rw [up_ne (by omega), hw], rfl⟩)) ?_
        refine iv_now hL hI hX2 (hK.fr5 hL (fun k _ _ _ => by rw [up_ne (by omega), up_ne (by omega)]) (fun j _ _ => by rw [up_at (by omega), up_ne (by omega)]) (hR5.likes (v := c) hlt (by omega) (show m < 10 by omega) (fun k _ _ hk => by rw [up_ne (by omega), up_ne hk]) (fun j hj => by rw [up_ne (by omega), up_at hj]) (by rw [up_ne (by omega), up_it]) (by rw [up_at (by omega), up_ne (by omega)]) (fun j _ _ hj => by rw [up_at hj, up_ne (by omega)]) up_it) (hK.2.2.2.2.2.2.2.1.2.2.2.1.fr (by rw [up_at (by omega), up_ne (by omega)]; exact Nat.le_refl _) (fun q _ t _ => by rw [up_at (by omega), up_ne (by omega)])))
          (hT.fr ⟨by rw [up_ne (by omega), up_ne (by omega)], by rw [up_ne (by omega), up_ne (by omega)], by rw [up_ne (by omega), up_ne (by omega)], by rw [up_ne (by omega), up_ne (by omega)]⟩ (fun k _ => by rw [up_ne (by omega), up_ne (by omega)])) (by rw [up_ne (by omega), up_ne (by omega)]) (by rw [up_ne (by omega), up_ne (by omega)]) (fun k _ => by rw [up_ne (by omega), up_ne (by omega)]) (by rw [up_ne (by omega), up_ne (by omega)])
      · exact jp_of hn hn2 (e_of vX11_likes (Nat.le_of_ble_eq_true rfl) (cat_of rfl) (bX11_likes_0_1 (Nat.le_of_ble_eq_true rfl) hn hX h h' q ⟨rfl, rfl⟩)) (e_of vX12_likes (Nat.le_of_ble_eq_true rfl) (cat_of rfl) (bX12_likes_0_1 (Nat.le_of_ble_eq_true rfl) hn hX hm1 hm2 q ⟨rfl, rfl⟩)) hI
    · have hm2 := fun w => h' (i2.mpr w)
      rw [e5] at hm2
      exact jp_of hn hn2 (e_of vX11_likes (Nat.le_of_ble_eq_true rfl) (cat_of rfl) (bX11_likes_0_2 (Nat.le_of_ble_eq_true rfl) hn hX h h' ⟨rfl, rfl⟩)) (e_of vX12_likes (Nat.le_of_ble_eq_true rfl) (cat_of rfl) (bX12_likes_0_2 (Nat.le_of_ble_eq_true rfl) hn hX hm1 hm2 ⟨rfl, rfl⟩)) hI
  · have hm1 := fun w => h (i1.mpr w)
    rw [e6] at hm1
    exact jp_of hn hn2 (e_of vX11_likes (Nat.le_of_ble_eq_true rfl) (cat_of rfl) (bX11_likes_0_3 (Nat.le_of_ble_eq_true rfl) hn hX h ⟨rfl, rfl⟩)) (e_of vX12_likes (Nat.le_of_ble_eq_true rfl) (cat_of rfl) (bX12_likes_0_3 (Nat.le_of_ble_eq_true rfl) hn hX hm1 ⟨rfl, rfl⟩)) hI
end JP3
