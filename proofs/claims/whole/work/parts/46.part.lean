/-! THE CALLS, 11: part. -/
theorem i_lt0 {x : Int32} : x < 0 ↔ x.toInt < 0 := by rw [Int32.lt_iff_toInt_lt, show (0 : Int32).toInt = 0 by decide]
theorem how_iff {v : Int32} : (¬ v < 0 ∧ 1 ≤ v / 100 ∧ v / 100 ≤ 999) ↔ (100 ≤ v ∧ v ≤ 99999) := by
  by_cases h : v < 0
  · refine ⟨fun w => absurd h w.1, fun w => absurd h (Int32.not_lt.mpr (Int32.le_trans (by decide) w.1))⟩
  · obtain ⟨k, hk, rfl⟩ := nI_of h
    have e : nI k / 100 = nI (k / 100) := pk_div (d := 100) hk (by omega) (by omega)
    have e1 : (1 ≤ nI (k / 100)) ↔ 1 ≤ k / 100 := nI_leI (a := 1) (by omega) (by omega)
    have e2 : (nI (k / 100) ≤ 999) ↔ k / 100 ≤ 999 := nI_leI (b := 999) (by omega) (by omega)
    have e3 : (100 ≤ nI k) ↔ 100 ≤ k := nI_leI (a := 100) (by omega) (by omega)
    have e4 : (nI k ≤ 99999) ↔ k ≤ 99999 := nI_leI (b := 99999) (by omega) (by omega)
    rw [e, e1, e2, e3, e4]
    constructor
    · intro w; omega
    · intro w; exact ⟨h, by omega, by omega⟩
theorem lt6_iff {x : Int32} : x < 6 ↔ ¬ 5 < x := by
  rw [Int32.lt_iff_toInt_lt, Int32.lt_iff_toInt_lt, show (6 : Int32).toInt = 6 by decide, show (5 : Int32).toInt = 5 by decide]
  omega
/-- meals stay, parts may grow -/
theorem R4.fr2 {C C' : LX} {A A' : Nat → Int32} (h : R4 C A) (hC : ∀ k, 24 ≤ k → k ≤ 36 → C' k = C k) (h4 : ∀ q, q < 14 → nI q < A 4 → nI q < A' 4) (hA : ∀ j, 318 ≤ j → j < 448 → A' j = A j) : R4 C' A' := by
  intro m hm
  obtain ⟨a, b, a3, k, q, h1, h2, h3, h5, h6⟩ := h m hm
  refine ⟨?_, ?_, by rw [hA _ (by omega) (by omega)]; exact a3, k, q, h1, ?_, fun t ht => ?_, h5, fun p hp hq => ?_⟩
  · rw [hC 24 (by omega) (by omega), hA _ (by omega) (by omega)]; exact a
  · rw [hC 25 (by omega) (by omega), hA _ (by omega) (by omega)]; exact b
  · rw [hA _ (by omega) (by omega)]; exact h2
  · obtain ⟨g1, g2, g3, g4, g5, g6⟩ := h3 t ht
    rw [hC _ (by omega) (by omega), hA (318 + 13 * m + (3 + t)) (by omega) (by omega), hA (318 + 13 * m + (8 + t)) (by omega) (by omega)]
    exact ⟨g1, g2, h4 _ g2 g3, g4, g5, g6⟩
  · rw [hC _ (by omega) (by omega)]; exact h6 p hp hq

section PART
variable {LR : LX → (Nat → Int32) → Prop} {g : GG} {n : Nat} {X : LX}
abbrev gPart (a b c : Int32) : Prop := (0 ≤ a ∧ a ≤ 255) ∧ (1 ≤ c ∧ c ≤ 20) ∧ (100 ≤ b ∧ b ≤ 99999) ∧ ¬ 4 ≤ b / 10 - b / 10 / 10 * 10 ∧ ¬ 5 < b - b / 10 * 10
theorem c_part_bad {a b c : Int32} (hn : 146 ≤ n) (hX : Sh n X) (h : ¬ gPart a b c) : Ex g mX11_part 200 n n [.ref 0, .int a, .int b, .int c] X (rt (-1000000001) X) := by
  refine e_of vX11_part (Nat.le_of_ble_eq_true rfl) (cat_of rfl) ?_
  by_cases c0 : 0 ≤ a ∧ a ≤ 255
  · by_cases c1 : 1 ≤ c ∧ c ≤ 20
    · by_cases c2 : b < 0
      · exact bX11_part_0_5 (Nat.le_of_ble_eq_true rfl) hn hX c0 c1 c2 ⟨rfl, rfl⟩
      · by_cases c3 : 1 ≤ b / 100 ∧ b / 100 ≤ 999
        · by_cases c4 : 4 ≤ b / 10 - b / 10 / 10 * 10
          · exact bX11_part_0_3 (Nat.le_of_ble_eq_true rfl) hn hX c0 c1 c2 c3 c4 ⟨rfl, rfl⟩
          · by_cases c5 : b - b / 10 * 10 < 6
            · exact absurd ⟨c0, c1, how_iff.mp ⟨c2, c3⟩, c4, lt6_iff.mp c5⟩ h
            · exact bX11_part_0_0 (Nat.le_of_ble_eq_true rfl) hn hX c0 c1 c2 c3 c4 c5 ⟨rfl, rfl⟩
        · exact bX11_part_0_4 (Nat.le_of_ble_eq_true rfl) hn hX c0 c1 c2 c3 ⟨rfl, rfl⟩
    · exact bX11_part_0_6 (Nat.le_of_ble_eq_true rfl) hn hX c0 c1 ⟨rfl, rfl⟩
  · exact bX11_part_0_7 (Nat.le_of_ble_eq_true rfl) hn hX c0 ⟨rfl, rfl⟩
theorem m_part_bad {a b c : Int32} (hn : 146 ≤ n) (hX : Sh n X) (h : ¬ gPart a b c) : Ex g mX12_part 200 n n [.ref 133, .int a, .int b, .int c] X (rt (-1000000001) X) := by
  refine e_of vX12_part (Nat.le_of_ble_eq_true rfl) (cat_of rfl) ?_
  by_cases c3 : 0 ≤ a ∧ a ≤ 255
  · by_cases c0 : 100 ≤ b ∧ b ≤ 99999
    · by_cases c1 : 5 < b - b / 10 * 10
      · exact bX12_part_0_6 (Nat.le_of_ble_eq_true rfl) hn hX c0 c1 c3 ⟨rfl, rfl⟩
      · by_cases c2 : 4 ≤ b / 10 - b / 10 / 10 * 10
        · exact bX12_part_0_4 (Nat.le_of_ble_eq_true rfl) hn hX c0 c1 c2 c3 ⟨rfl, rfl⟩
        · by_cases c4 : 1 ≤ c ∧ c ≤ 20
          · exact absurd ⟨c3, c4, c0, c2, c1⟩ h
          · exact bX12_part_0_2 (Nat.le_of_ble_eq_true rfl) hn hX c0 c1 c2 c3 c4 ⟨rfl, rfl⟩
    · exact bX12_part_0_8 (Nat.le_of_ble_eq_true rfl) hn hX c0 c3 ⟨rfl, rfl⟩
  · by_cases c0 : 100 ≤ b ∧ b ≤ 99999
    · by_cases c1 : 5 < b - b / 10 * 10
      · exact bX12_part_0_7 (Nat.le_of_ble_eq_true rfl) hn hX c0 c1 c3 ⟨rfl, rfl⟩
      · by_cases c2 : 4 ≤ b / 10 - b / 10 / 10 * 10
        · exact bX12_part_0_5 (Nat.le_of_ble_eq_true rfl) hn hX c0 c1 c2 c3 ⟨rfl, rfl⟩
        · exact bX12_part_0_3 (Nat.le_of_ble_eq_true rfl) hn hX c0 c1 c2 c3 ⟨rfl, rfl⟩
    · exact bX12_part_0_9 (Nat.le_of_ble_eq_true rfl) hn hX c0 c3 ⟨rfl, rfl⟩
set_option maxHeartbeats 1000000 in
theorem jp_part (hL : LRok LR) {a b c : Int32} (hn : 146 ≤ n) (hn2 : n ≤ 226) (hI : Iv LR n X) : JP g (Iv LR) mX11_part mX12_part [.int a, .int b, .int c] n X := by
  by_cases h : gPart a b c
  · obtain ⟨hX, hK, hT, hB⟩ := id hI
    obtain ⟨⟨e0, e1, e3, e8, e4, e5, e6, e7⟩, r0, r3, ⟨j, hj, ej⟩, r5, r6, r7⟩ := hK.1
    obtain ⟨g0, g1, g2, g4, g5⟩ := h
    obtain ⟨g2a, g2b⟩ := how_iff.mpr g2
    rcases Nat.lt_or_ge j 14 with q | q
    · have hc : X 2 0 < 14 := by rw [e4, ej]; show nI j < nI 14; exact (nI_lt_iff (by omega) (by omega)).mpr q
      obtain ⟨X1, hX1⟩ : ∃ Y : LX, Y = lx_up (lx_up (lx_up (lx_up (lx_up (lx_up X 2 0 (X 2 0 + 1)) 3 j a) 5 j (b / 100)) 6 j (b / 10 - b / 10 / 10 * 10)) 4 j (b - b / 10 * 10)) 7 j c := ⟨_, rfl⟩
      have hS1 : Sh n X1 := by
        rw [hX1]
        exact (((((hX.upF (by decide +kernel) (by decide +kernel)).upA (by decide +kernel)).upA (by decide +kernel)).upA (by decide +kernel)).upA (by decide +kernel)).upA (by decide +kernel)
      have x134 : X1 134 = X 134 := by rw [hX1]; simp (disch := omega) only [up_ne]
      have hne : ¬ X1 134 4 = 14 := by
        rw [x134, ej]
        show ¬ nI j = nI 14
        rw [nI_eq (by omega) (by omega)]
        omega
      obtain ⟨Y, hY⟩ : ∃ Y : LX, Y = lx_up (lx_up (lx_up (lx_up (lx_up (lx_up X1 134 (10 + 8 * j + 0) a) 134 (10 + 8 * j + 1) (b / 100)) 134 (10 + 8 * j + 2) (b / 10 - b / 10 / 10 * 10)) 134 (10 + 8 * j + 3) (b - b / 10 * 10)) 134 (10 + 8 * j + 4) c) 134 4 (lx_up (lx_up (lx_up (lx_up (lx_up X1 134 (10 + 8 * j + 0) a) 134 (10 + 8 * j + 1) (b / 100)) 134 (10 + 8 * j + 2) (b / 10 - b / 10 / 10 * 10)) 134 (10 + 8 * j + 3) (b - b / 10 * 10)) 134 (10 + 8 * j + 4) c 134 4 + 1) := ⟨_, rfl⟩
      have hSY : Sh n Y := by
        rw [hY]
        exact (((((hS1.upA (by decide +kernel)).upA (by decide +kernel)).upA (by decide +kernel)).upA (by decide +kernel)).upA (by decide +kernel)).upA (by decide +kernel)
      refine jp_of (X1 := X1) (X2 := Y) hn hn2 (e_of vX11_part (Nat.le_of_ble_eq_true rfl) (cat_of rfl) (bX11_part_0_2 (Nat.le_of_ble_eq_true rfl) hn hX g0 g1 g2a g2b g4 (lt6_iff.mpr g5) hc (e4.trans ej) q ⟨rfl, hX1.symm⟩)) (e_of vX12_part (Nat.le_of_ble_eq_true rfl) (cat_of rfl) (bX12_part_0_1 (Nat.le_of_ble_eq_true rfl) hn hS1 g2 g5 g4 g0 g1 hne (show X1 134 4 = nI j by rw [x134, ej]) (by omega) (by omega) (by omega) (by omega) (by omega) ⟨by rw [x134, e4], hY.symm⟩)) ?_
      have fC : ∀ k, k ≠ 134 ∧ (k < 2 ∨ 7 < k) → Y k = X k := fun k w => by rw [hY, hX1]; simp (disch := omega) only [up_ne]
      have fA : ∀ t, t ≠ 4 ∧ (t < 10 + 8 * j ∨ 10 + 8 * j + 4 < t) → Y 134 t = X 134 t := fun t w => by rw [hY]; simp (disch := omega) only [up_at, x134]
      have y2 : Y 2 0 = X 2 0 + 1 := by rw [hY, hX1]; simp (disch := omega) only [up_ne, up_it]
      have yA4 : Y 134 4 = X 134 4 + 1 := by rw [hY]; simp (disch := omega) only [up_at, up_it, x134]
      obtain ⟨-, k2, k3, k4, k5, k6, k7, ⟨b1, b2, b3, b4, b5, b6, b7⟩, k8⟩ := hK
      have hR1 : R1 Y (Y 134) := by
        unfold R1
        rw [fC 1 (by omega), fC 23 (by omega), fC 37 (by omega), fC 69 (by omega), y2, yA4, fA 0 (by omega), fA 1 (by omega), fA 3 (by omega), fA 8 (by omega), fA 5 (by omega), fA 6 (by omega), fA 7 (by omega)]
        exact ⟨⟨e0, e1, e3, e8, by rw [e4], e5, e6, e7⟩, r0, r3, ⟨j + 1, by omega, by rw [ej]; exact nI_1 j⟩, r5, r6, r7⟩
      have hR2 : R2 Y (Y 134) := by
        intro i hi
        obtain ⟨s1, s2, s3, s4, s5, s6, s7⟩ := k2 i hi
        rw [fC 75 (by omega), fC 76 (by omega), fA (10 + 8 * i + 6) (by omega), fA (10 + 8 * i + 7) (by omega)]
        by_cases z : i = j
        · subst z
          refine ⟨?_, ?_, ?_, ?_, ?_, s6, s7⟩ <;> (rw [hY, hX1]; simp (disch := omega) only [up_ne, up_at, up_it])
        · rw [fA (10 + 8 * i + 0) (by omega), fA (10 + 8 * i + 1) (by omega), fA (10 + 8 * i + 2) (by omega), fA (10 + 8 * i + 3) (by omega), fA (10 + 8 * i + 4) (by omega)]
          refine ⟨?_, ?_, ?_, ?_, ?_, s6, s7⟩
          · rw [← s1, hY, hX1]; simp (disch := omega) only [up_ne, up_at]
          · rw [← s2, hY, hX1]; simp (disch := omega) only [up_ne, up_at]
          · rw [← s3, hY, hX1]; simp (disch := omega) only [up_ne, up_at]
          · rw [← s4, hY, hX1]; simp (disch := omega) only [up_ne, up_at]
          · rw [← s5, hY, hX1]; simp (disch := omega) only [up_ne, up_at]
      have hB1 : B1 (Y 134) := by
        intro p hp
        by_cases z : p = j
        · subst z
          have ey : Y 134 (10 + 8 * p + 2) = b / 10 - b / 10 / 10 * 10 := by rw [hY]; simp (disch := omega) only [up_at, up_it]
          have ea : Y 134 (10 + 8 * p + 0) = a := by rw [hY]; simp (disch := omega) only [up_at, up_it]
          rw [ey, ea]
          refine ⟨?_, ?_⟩
          case refine_2 =>
            obtain ⟨k, hk, e⟩ := nI_of (x := a) (Int32.not_lt.mpr g0.1)
            have g0b := g0.2
            rw [e] at g0b ⊢
            exact ⟨k, (nI_leI (b := 255) (by omega) (by omega)).mp g0b, rfl⟩
          obtain ⟨k, hk, rfl⟩ := nI_of g2a
          have d1 : nI k / 10 = nI (k / 10) := pk_div (d := 10) hk (by omega) (by omega)
          have d2 : nI (k / 10) - nI (k / 10) / 10 * 10 = nI (k / 10 % 10) := pk_rem (d := 10) (by omega) (by omega) (by omega)
          rw [d1, d2] at g4 ⊢
          refine ⟨k / 10 % 10, ?_, rfl⟩
          have d3 : (4 ≤ nI (k / 10 % 10)) ↔ 4 ≤ k / 10 % 10 := nI_leI (a := 4) (by omega) (by omega)
          rw [d3] at g4
          omega
        · rw [fA (10 + 8 * p + 2) (by omega), fA (10 + 8 * p + 0) (by omega)]; exact b1 p hp
      refine iv_now hL hI hSY ⟨hR1, hR2, k3.fr (fun k _ _ => fC k (by omega)) (fun t _ _ => fA t (by omega)), k4.fr2 (fun k _ _ => fC k (by omega)) (fun p hp w => by rw [yA4, ej, nI_1]; rw [ej] at w; rw [nI_lt_iff (by omega) (by omega)] at w ⊢; omega) (fun t _ _ => fA t (by omega)), k5.fr (fun k _ _ => fC k (by omega)) (fA 6 (by omega)) (fun t _ _ => fA t (by omega)), k6.fr (fun k _ _ => fC k (by omega)) (fun t _ _ => fA t (by omega)), k7.fr (fun k _ _ => fC k (by omega)) (fun t _ _ => fA t (by omega)),
        ⟨hB1, b2.fr (fun t _ _ => fA t (by omega)), b3.fr (fun t _ _ => fA t (by omega)), b4.fr (by rw [fA 5 (by omega)]; exact Nat.le_refl _) (fun f _ t _ => fA _ (by omega)), b5.fr (by rw [fA 5 (by omega)]; exact Nat.le_refl _) (fun t _ _ => fA t (by omega)), b6.fr (fA 7 (by omega)) (fun t _ _ => fA t (by omega)), b7.fr (fA 7 (by omega)) (fun p _ => fA _ (by omega)) (fun l _ => ⟨fA _ (by omega), fA _ (by omega)⟩)⟩, hL _ _ _ _ (fun k _ _ => fC k (by omega)) (fA 2 (by omega)) (fun t _ _ => fA t (by omega)) k8⟩
        (hT.fr ⟨by rw [fC 81 (by omega)], by rw [fC 133 (by omega)], by rw [fC 0 (by omega)], by rw [fC 133 (by omega)]⟩ (fun k _ => fC k (by omega))) (by rw [fC 0 (by omega)]) (by rw [fC 133 (by omega)]) (fun k _ => fC k (by omega)) (fC 135 (by omega))
    · have e14 : j = 14 := by omega
      subst e14
      exact jp_of hn hn2 (e_of vX11_part (Nat.le_of_ble_eq_true rfl) (cat_of rfl) (bX11_part_0_1 (Nat.le_of_ble_eq_true rfl) hn hX g0 g1 g2a g2b g4 (lt6_iff.mpr g5) (by rw [e4, ej]; decide +kernel) ⟨rfl, rfl⟩)) (e_of vX12_part (Nat.le_of_ble_eq_true rfl) (cat_of rfl) (bX12_part_0_0 (Nat.le_of_ble_eq_true rfl) hn hX g2 g5 g4 g0 g1 ej ⟨rfl, rfl⟩)) hI
  · exact jp_of hn hn2 (c_part_bad hn hI.1 h) (m_part_bad hn hI.1 h) hI
end PART
