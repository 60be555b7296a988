/-! THE CALLS, 13: lot. -/
theorem R2.fr2 {C C' : LX} {A A' : Nat → Int32} (h : R2 C A) (hC : ∀ k, (3 ≤ k ∧ k ≤ 7) ∨ k = 75 ∨ k = 76 → C' k = C k) (hA : ∀ i, i < 14 → ∀ t, t < 8 → t ≠ 5 → A' (10 + 8 * i + t) = A (10 + 8 * i + t)) : R2 C' A' := by
  intro i hi
  rw [hC 3 (by omega), hC 4 (by omega), hC 5 (by omega), hC 6 (by omega), hC 7 (by omega), hC 75 (by omega), hC 76 (by omega), hA i hi 0 (by omega) (by omega), hA i hi 1 (by omega) (by omega), hA i hi 2 (by omega) (by omega), hA i hi 3 (by omega) (by omega), hA i hi 4 (by omega) (by omega), hA i hi 6 (by omega) (by omega), hA i hi 7 (by omega) (by omega)]
  exact h i hi
section LOT
variable {LR : LX → (Nat → Int32) → Prop} {g : GG} {n : Nat} {X : LX}
set_option maxHeartbeats 1000000 in
theorem jp_lot (hL : LRok LR) {a b : Int32} (hn : 146 ≤ n) (hn2 : n ≤ 226) (hI : Iv LR n X) : JP g (Iv LR) mX11_lot mX12_lot [.int a, .int b] n X := by
  obtain ⟨hX, hK, hT, hB⟩ := id hI
  obtain ⟨⟨e0, e1, e3, e8, e4, e5, e6, e7⟩, r0, r3, ⟨cp, hcp, ep⟩, r5, r6, ⟨j, hj, ej⟩⟩ := hK.1
  have i1 := cnt_iff (x := X 2 0) (v := a) (c := cp) (by omega) (e4.trans ep)
  by_cases h : 0 ≤ a ∧ a < X 2 0
  · have hm1 := i1.mp h
    rw [e4] at hm1
    by_cases h' : 1 ≤ b ∧ b ≤ 99999
    · rcases Nat.lt_or_ge j 40 with q | q
      · obtain ⟨p, hp, rfl⟩ := cnt_num (by omega) (e4.trans ep) h
        have hc : X 69 0 < 40 := by rw [e7, ej]; show nI j < nI 40; exact (nI_lt_iff (by omega) (by omega)).mpr q
        obtain ⟨X1, hX1⟩ : ∃ Y : LX, Y = lx_up (lx_up (lx_up (lx_up (lx_up X 69 0 (X 69 0 + 1)) 70 j (nI p)) 71 j b) 72 j (X 1 5)) 73 j b := ⟨_, rfl⟩
        have hS1 : Sh n X1 := by
          rw [hX1]
          exact ((((hX.upF (by decide +kernel) (by decide +kernel)).upA (by decide +kernel)).upA (by decide +kernel)).upA (by decide +kernel)).upA (by decide +kernel)
        have x134 : X1 134 = X 134 := by rw [hX1]; simp (disch := omega) only [up_ne]
        have hne : ¬ X1 134 7 = 40 := by
          rw [x134, ej]
          show ¬ nI j = nI 40
          rw [nI_eq (by omega) (by omega)]
          omega
        have hE := fun post => bX12_lot_0_1 (g := g) (d := 200) (post := post) (Nat.le_of_ble_eq_true rfl) hn hS1 (v1 := p) (v2 := b) (by rw [x134]; exact hm1) h' hne (show X1 134 7 = nI j by rw [x134, ej]) (by omega) (by omega) (by omega) (by omega) (by omega) (by omega)
        obtain ⟨Y, hY⟩ : ∃ Y : LX, Y = lx_up (lx_up (lx_up (lx_up (lx_up (lx_up (lx_up X1 134 (628 + 5 * j + 0) (nI p)) 134 (628 + 5 * j + 1) b) 134 (628 + 5 * j + 2) (X 134 0)) 134 (628 + 5 * j + 3) b) 134 (628 + 5 * j + 4) 0) 134 (10 + 8 * p + 5) (X 134 (10 + 8 * p + 5) + b)) 134 7 (X 134 7 + 1) := ⟨_, rfl⟩
        have hSY : Sh n Y := by
          rw [hY]
          exact ((((((hS1.upA (by decide +kernel)).upA (by decide +kernel)).upA (by decide +kernel)).upA (by decide +kernel)).upA (by decide +kernel)).upA (by decide +kernel)).upA (by decide +kernel)
        refine jp_of (X1 := X1) (X2 := Y) hn hn2 (e_of vX11_lot (Nat.le_of_ble_eq_true rfl) (cat_of rfl) (bX11_lot_0_1 (Nat.le_of_ble_eq_true rfl) hn hX h h' hc (e7.trans ej) q ⟨rfl, hX1.symm⟩)) (e_of vX12_lot (Nat.le_of_ble_eq_true rfl) (cat_of rfl) (hE _ ⟨by rw [x134, e7], ?_⟩)) ?_
        · rw [hY]
          simp (disch := omega) only [up_at, x134]
        have fC : ∀ k, k ≠ 134 ∧ (k < 69 ∨ 73 < k) → Y k = X k := fun k w => by rw [hY, hX1]; simp (disch := omega) only [up_ne]
        have fA : ∀ t, t ≠ 7 ∧ t ≠ 10 + 8 * p + 5 ∧ (t < 628 + 5 * j ∨ 628 + 5 * j + 4 < t) → Y 134 t = X 134 t := fun t w => by rw [hY]; simp (disch := omega) only [up_at, x134]
        have y69 : Y 69 0 = X 69 0 + 1 := by rw [hY, hX1]; simp (disch := omega) only [up_ne, up_it]
        have yA7 : Y 134 7 = X 134 7 + 1 := by rw [hY, up_it]
        have yin : Y 134 (10 + 8 * p + 5) = X 134 (10 + 8 * p + 5) + b := by rw [hY]; simp (disch := omega) only [up_at, up_it]
        have y0 : Y 134 (628 + 5 * j + 0) = nI p ∧ Y 134 (628 + 5 * j + 1) = b ∧ Y 134 (628 + 5 * j + 2) = X 134 0 ∧ Y 134 (628 + 5 * j + 3) = b ∧ Y 134 (628 + 5 * j + 4) = 0 := by
          rw [hY]
          simp (disch := omega) only [up_at, up_it, and_self]
        have yc : Y 70 j = nI p ∧ Y 71 j = b ∧ Y 72 j = X 1 5 ∧ Y 73 j = b := by
          rw [hY, hX1]
          simp (disch := omega) only [up_ne, up_it, and_self]
        have yo : ∀ l, l ≠ j → Y 70 l = X 70 l ∧ Y 71 l = X 71 l ∧ Y 72 l = X 72 l ∧ Y 73 l = X 73 l := fun l hl => by
          rw [hY, hX1]
          simp (disch := omega) only [up_ne, up_at, and_self]
        obtain ⟨-, k2, k3, k4, k5, k6, k7, ⟨b1, b2, b3, b4, b5, b6, ⟨ca, hca, eca, hin⟩⟩, k8⟩ := hK
        have hca2 : ca = j := by
          rw [ej] at eca
          exact ((nI_eq (by omega) (by omega)).mp eca).symm
        subst hca2
        have hR1 : R1 Y (Y 134) := by
          unfold R1
          rw [fC 1 (by omega), fC 2 (by omega), fC 23 (by omega), fC 37 (by omega), y69, yA7, fA 0 (by omega), fA 1 (by omega), fA 3 (by omega), fA 8 (by omega), fA 5 (by omega), fA 4 (by omega), fA 6 (by omega)]
          exact ⟨⟨e0, e1, e3, e8, e4, e5, e6, by rw [e7]⟩, r0, r3, ⟨cp, hcp, ep⟩, r5, r6, ⟨ca + 1, by omega, by rw [ej]; exact nI_1 ca⟩⟩
        have hR7 : R7 Y (Y 134) := by
          intro l hl
          by_cases z : l = ca
          · subst z
            have w := (b6 l hl).2.2 (by rw [ej, nI_lt_iff (by omega) (by omega)]; omega)
            exact ⟨by rw [yc.1, y0.1], by rw [yc.2.1, y0.2.1], by rw [yc.2.2.1, y0.2.2.1, e0], by rw [yc.2.2.2, y0.2.2.2.1], by rw [fC 74 (by omega), (k7 l hl).2.2.2.2, w, y0.2.2.2.2]⟩
          · rw [(yo l z).1, (yo l z).2.1, (yo l z).2.2.1, (yo l z).2.2.2, fC 74 (by omega), fA _ (by omega), fA _ (by omega), fA _ (by omega), fA _ (by omega), fA _ (by omega)]
            exact k7 l hl
        have hB6 : B6 (Y 134) := by
          intro l hl
          by_cases z : l = ca
          · subst z
            rw [y0.1, y0.2.2.2.1, y0.2.2.2.2]
            exact ⟨⟨p, by omega, rfl⟩, i_num (N := 99999) (by omega) (Int32.le_trans (by decide) h'.1) h'.2, fun _ => rfl⟩
          · rw [fA (628 + 5 * l + 0) (by omega), fA (628 + 5 * l + 3) (by omega), fA (628 + 5 * l + 4) (by omega), yA7, ej, nI_1]
            refine ⟨(b6 l hl).1, (b6 l hl).2.1, fun w => (b6 l hl).2.2 (fun w2 => w ?_)⟩
            rw [ej, nI_lt_iff (by omega) (by omega)] at w2
            rw [nI_lt_iff (by omega) (by omega)]
            omega
        have hB7 : B7 (Y 134) := by
          refine ⟨ca + 1, by omega, by rw [yA7, ej]; exact nI_1 ca, fun i hi => ?_⟩
          show _ = sumTo (fun l => if Y 134 (628 + 5 * l + 0) = nI i then Y 134 (628 + 5 * l + 1) else 0) ca + (if Y 134 (628 + 5 * ca + 0) = nI i then Y 134 (628 + 5 * ca + 1) else 0)
          rw [y0.1, y0.2.1, sum_cg0 (G := fun l => if X 134 (628 + 5 * l + 0) = nI i then X 134 (628 + 5 * l + 1) else 0) (fun l hl => by rw [fA (628 + 5 * l + 0) (by omega), fA (628 + 5 * l + 1) (by omega)]), ← hin i hi]
          by_cases z : i = p
          · subst z
            rw [if_pos rfl, yin]
          · rw [if_neg (fun w => z ((nI_eq (by omega) (by omega)).mp w).symm), Int32.add_zero, fA _ (by omega)]
        refine iv_now hL hI hSY ⟨hR1, k2.fr2 (fun k _ => fC k (by omega)) (fun i _ t _ _ => fA _ (by omega)), k3.fr (fun k _ _ => fC k (by omega)) (fun t _ _ => fA t (by omega)), k4.fr (fun k _ _ => fC k (by omega)) (fA 4 (by omega)) (fun t _ _ => fA t (by omega)), k5.fr (fun k _ _ => fC k (by omega)) (fA 6 (by omega)) (fun t _ _ => fA t (by omega)), k6.fr (fun k _ _ => fC k (by omega)) (fun t _ _ => fA t (by omega)), hR7,
          ⟨fun i hi => by rw [fA (10 + 8 * i + 2) (by omega), fA (10 + 8 * i + 0) (by omega)]; exact b1 i hi, b2.fr (fun t _ _ => fA t (by omega)), b3.fr (fun t _ _ => fA t (by omega)), b4.fr (by rw [fA 5 (by omega)]; exact Nat.le_refl _) (fun f _ t _ => fA _ (by omega)), b5.fr (by rw [fA 5 (by omega)]; exact Nat.le_refl _) (fun t _ _ => fA t (by omega)), hB6, hB7⟩, hL _ _ _ _ (fun k _ _ => fC k (by omega)) (fA 2 (by omega)) (fun t _ _ => fA t (by omega)) k8⟩
          (hT.fr ⟨by rw [fC 81 (by omega)], by rw [fC 133 (by omega)], by rw [fC 0 (by omega)], by rw [fC 133 (by omega)]⟩ (fun k _ => fC k (by omega))) (by rw [fC 0 (by omega)]) (by rw [fC 133 (by omega)]) (fun k _ => fC k (by omega)) (fC 135 (by omega))
      · have e40 : j = 40 := by omega
        subst e40
        exact jp_of hn hn2 (e_of vX11_lot (Nat.le_of_ble_eq_true rfl) (cat_of rfl) (bX11_lot_0_0 (Nat.le_of_ble_eq_true rfl) hn hX h h' (by rw [e7, ej]; decide +kernel) ⟨rfl, rfl⟩)) (e_of vX12_lot (Nat.le_of_ble_eq_true rfl) (cat_of rfl) (bX12_lot_0_0 (Nat.le_of_ble_eq_true rfl) hn hX hm1 h' ej ⟨rfl, rfl⟩)) hI
    · exact jp_of hn hn2 (e_of vX11_lot (Nat.le_of_ble_eq_true rfl) (cat_of rfl) (bX11_lot_0_2 (Nat.le_of_ble_eq_true rfl) hn hX h h' ⟨rfl, rfl⟩)) (e_of vX12_lot (Nat.le_of_ble_eq_true rfl) (cat_of rfl) (bX12_lot_0_2 (Nat.le_of_ble_eq_true rfl) hn hX hm1 h' ⟨rfl, rfl⟩)) hI
  · have hm1 := fun w => h (i1.mpr w)
    rw [e4] at hm1
    exact jp_of hn hn2 (e_of vX11_lot (Nat.le_of_ble_eq_true rfl) (cat_of rfl) (bX11_lot_0_3 (Nat.le_of_ble_eq_true rfl) hn hX h ⟨rfl, rfl⟩)) (e_of vX12_lot (Nat.le_of_ble_eq_true rfl) (cat_of rfl) (bX12_lot_0_3 (Nat.le_of_ble_eq_true rfl) hn hX hm1 ⟨rfl, rfl⟩)) hI
end LOT
