/-! THE CALLS, 12: family. -/
def lkr (f : Nat → Int32) (j i : Nat) : Nat → Int32 := fun t => if 448 + 15 * j + 5 ≤ t ∧ t < 448 + 15 * j + 5 + i then 5 else f t
theorem lkr_0 (f : Nat → Int32) (j : Nat) : lkr f j 0 = f := by funext t; unfold lkr; rw [if_neg (by omega)]
theorem lkr_s (f : Nat → Int32) (j i : Nat) : upd (lkr f j i) (448 + 15 * j + (5 + i)) 5 = lkr f j (i + 1) := by
  funext t
  unfold upd lkr
  by_cases h : t = 448 + 15 * j + (5 + i)
  · rw [if_pos h, if_pos (by omega)]
  · rw [if_neg h]
    by_cases q : 448 + 15 * j + 5 ≤ t ∧ t < 448 + 15 * j + 5 + i
    · rw [if_pos q, if_pos (by omega)]
    · rw [if_neg q, if_neg (by omega)]
theorem howf_iff {v : Int32} : (¬ v < 0 ∧ v / 10000 ≤ 1) ↔ (0 ≤ v ∧ v ≤ 19999) := by
  by_cases h : v < 0
  · exact ⟨fun w => absurd h w.1, fun w => absurd h (Int32.not_lt.mpr w.1)⟩
  · obtain ⟨k, hk, rfl⟩ := nI_of h
    have e : nI k / 10000 = nI (k / 10000) := pk_div (d := 10000) hk (by omega) (by omega)
    have e1 : (nI (k / 10000) ≤ 1) ↔ k / 10000 ≤ 1 := nI_leI (b := 1) (by omega) (by omega)
    have e2 : (nI k ≤ 19999) ↔ k ≤ 19999 := nI_leI (b := 19999) (by omega) (by omega)
    rw [e, e1, e2]
    constructor
    · intro w; exact ⟨Int32.not_lt.mp h, by omega⟩
    · intro w; exact ⟨h, by omega⟩
section FAM
variable {LR : LX → (Nat → Int32) → Prop} {g : GG} {n : Nat} {X : LX}
abbrev gFam (a b : Int32) : Prop := (0 ≤ a ∧ a ≤ 255) ∧ (0 ≤ b ∧ b ≤ 19999) ∧ (1 ≤ b - b / 10 * 10 ∧ b - b / 10 * 10 ≤ 6)
theorem c_fam_bad {a b : Int32} (hn : 146 ≤ n) (hX : Sh n X) (h : ¬ gFam a b) : Ex g mX11_family 200 n n [.ref 0, .int a, .int b] X (rt (-1000000001) X) := by
  refine e_of vX11_family (Nat.le_of_ble_eq_true rfl) (cat_of rfl) ?_
  by_cases c0 : 0 ≤ a ∧ a ≤ 255
  · by_cases c1 : b < 0
    · exact bX11_family_0_4 (Nat.le_of_ble_eq_true rfl) hn hX c0 c1 ⟨rfl, rfl⟩
    · by_cases c2 : 1 ≤ b - b / 10 * 10 ∧ b - b / 10 * 10 ≤ 6
      · by_cases c3 : b / 10000 ≤ 1
        · exact absurd ⟨c0, howf_iff.mp ⟨c1, c3⟩, c2⟩ h
        · exact bX11_family_0_0 (Nat.le_of_ble_eq_true rfl) hn hX c0 c1 c2 c3 ⟨rfl, rfl⟩
      · exact bX11_family_0_3 (Nat.le_of_ble_eq_true rfl) hn hX c0 c1 c2 ⟨rfl, rfl⟩
  · exact bX11_family_0_5 (Nat.le_of_ble_eq_true rfl) hn hX c0 ⟨rfl, rfl⟩
theorem m_fam_bad {a b : Int32} (hn : 146 ≤ n) (hX : Sh n X) (h : ¬ gFam a b) : Ex g mX12_family 200 n n [.ref 133, .int a, .int b] X (rt (-1000000001) X) := by
  refine e_of vX12_family (Nat.le_of_ble_eq_true rfl) (cat_of rfl) ?_
  by_cases c0 : 0 ≤ a ∧ a ≤ 255
  · by_cases c1 : 0 ≤ b ∧ b ≤ 19999
    · by_cases c2 : 1 ≤ b - b / 10 * 10 ∧ b - b / 10 * 10 ≤ 6
      · exact absurd ⟨c0, c1, c2⟩ h
      · exact bX12_family_0_2 (Nat.le_of_ble_eq_true rfl) hn hX c0 c1 c2 ⟨rfl, rfl⟩
    · exact bX12_family_0_3 (Nat.le_of_ble_eq_true rfl) hn hX c0 c1 ⟨rfl, rfl⟩
  · exact bX12_family_0_4 (Nat.le_of_ble_eq_true rfl) hn hX c0 ⟨rfl, rfl⟩
def famM (X : LX) (j : Nat) (a b : Int32) : LX := lx_up (lx_up (lx_up (lx_up (lx_up X 134 (448 + 15 * j + 0) a) 134 (448 + 15 * j + 1) (b - b / 10 * 10)) 134 (448 + 15 * j + 2) (b / 10000)) 134 (448 + 15 * j + 3) (b / 10 - b / 10 / 1000 * 1000)) 134 (448 + 15 * j + 4) 0
theorem c_X12_family {a b : Int32} {j : Nat} (hn : 146 ≤ n) (hX : Sh n X) (h : gFam a b) (hj : j < 12) (ej : X 134 6 = nI j) : Ex g mX12_family 200 n n [.ref 133, .int a, .int b] X (rt (nI j) (lx_up (lx_row (famM X j a b) 134 (lkr (famM X j a b 134) j 10)) 134 6 (nI j + 1))) := by
  have hX0 : Sh n (famM X j a b) := ((((hX.upA (by decide +kernel)).upA (by decide +kernel)).upA (by decide +kernel)).upA (by decide +kernel)).upA (by decide +kernel)
  have hne : ¬ X 134 6 = 12 := by
    rw [ej]
    show ¬ nI j = nI 12
    rw [nI_eq (by omega) (by omega)]
    omega
  have f6 : famM X j a b 134 6 = nI j := by unfold famM; simp (disch := omega) only [up_at]; exact ej
  refine e_of vX12_family (Nat.le_of_ble_eq_true rfl) (cat_of rfl) (bX12_family_0_1 (Nat.le_of_ble_eq_true rfl) hn hX h.1 h.2.1 h.2.2 hne ej (by omega) (by omega) (by omega) (by omega) (by omega) ?_)
  have loop : ∀ i, i ≤ 10 → Ev g mX12_family 200 n n (rt (nI j) (lx_up (lx_row (famM X j a b) 134 (lkr (famM X j a b 134) j 10)) 134 6 (nI j + 1))) n 127 [some (.ref 133), some (.int a), some (.int b), some (.int (nI j)), some (.int (nI i))] [] (lx_row (famM X j a b) 134 (lkr (famM X j a b 134) j i)) := by
    refine down ?_ ?_
    · refine bX12_family_127_1 hn (hX0.row (by decide +kernel)) (show nI 10 ≤ nI 10 from nI_le (by omega) (by omega)) ⟨rfl, ?_⟩
      have e : lx_row (famM X j a b) 134 (lkr (famM X j a b 134) j 10) 134 6 = nI j := by
        rw [lx_row_self]
        unfold lkr
        rw [if_neg (by omega)]
        exact f6
      rw [e]
    · intro i hi k
      rw [show nI (i + 1) = nI i + 1 from (nI_1 i).symm, ← lkr_s _ j i, ← lx_row_up] at k
      exact bX12_family_127_0 (Nat.le_of_ble_eq_true rfl) hn (hX0.row (by decide +kernel)) (show ¬ nI 10 ≤ nI i from nI_ge hi (by omega)) (by omega) k
  have h0 := loop 0 (by omega)
  rw [lkr_0, lx_row_id] at h0
  rw [ej]
  exact h0
set_option maxHeartbeats 1000000 in
theorem jp_family (hL : LRok LR) {a b : Int32} (hn : 146 ≤ n) (hn2 : n ≤ 226) (hI : Iv LR n X) : JP g (Iv LR) mX11_family mX12_family [.int a, .int b] n X := by
  by_cases h : gFam a b
  · obtain ⟨hX, hK, hT, hB⟩ := id hI
    obtain ⟨⟨e0, e1, e3, e8, e4, e5, e6, e7⟩, r0, r3, r4, r5, ⟨j, hj, ej⟩, r7⟩ := hK.1
    have g2 := howf_iff.mpr h.2.1
    rcases Nat.lt_or_ge j 12 with q | q
    · have hc : X 37 0 < 12 := by rw [e6, ej]; show nI j < nI 12; exact (nI_lt_iff (by omega) (by omega)).mpr q
      obtain ⟨X1, hX1⟩ : ∃ Y : LX, Y = lx_up (lx_up (lx_up (lx_up (lx_up X 37 0 (X 37 0 + 1)) 38 j a) 39 j (b - b / 10 * 10)) 41 j (b / 10 - b / 10 / 1000 * 1000)) 40 j (b / 10000) := ⟨_, rfl⟩
      have hS1 : Sh n X1 := by
        rw [hX1]
        exact ((((hX.upF (by decide +kernel) (by decide +kernel)).upA (by decide +kernel)).upA (by decide +kernel)).upA (by decide +kernel)).upA (by decide +kernel)
      have x134 : X1 134 = X 134 := by rw [hX1]; simp (disch := omega) only [up_ne]
      obtain ⟨Y, hY⟩ : ∃ Y : LX, Y = lx_up (lx_row (famM X1 j a b) 134 (lkr (famM X1 j a b 134) j 10)) 134 6 (nI j + 1) := ⟨_, rfl⟩
      have hSY : Sh n Y := by
        rw [hY]
        exact ((((((hS1.upA (by decide +kernel)).upA (by decide +kernel)).upA (by decide +kernel)).upA (by decide +kernel)).upA (by decide +kernel)).row (by decide +kernel)).upA (by decide +kernel)
      refine jp_of (X1 := X1) (X2 := Y) hn hn2 (e_of vX11_family (Nat.le_of_ble_eq_true rfl) (cat_of rfl) (bX11_family_0_2 (Nat.le_of_ble_eq_true rfl) hn hX h.1 g2.1 h.2.2 g2.2 hc (e6.trans ej) q ⟨rfl, hX1.symm⟩)) (by rw [e6, ej, hY]; exact c_X12_family hn hS1 h q (by rw [x134, ej])) ?_
      have fC : ∀ k, k ≠ 134 ∧ (k < 37 ∨ 41 < k) → Y k = X k := fun k w => by
        rw [hY, up_ne w.1, lx_row_ne _ _ _ w.1, famM, hX1]; simp (disch := omega) only [up_ne]
      have yA : ∀ t, t ≠ 6 → Y 134 t = lkr (famM X1 j a b 134) j 10 t := fun t w => by rw [hY, up_at w, lx_row_self]
      have fA : ∀ t, t ≠ 6 ∧ (t < 448 + 15 * j ∨ 448 + 15 * j + 14 < t) → Y 134 t = X 134 t := fun t w => by
        rw [yA t w.1]
        unfold lkr famM
        rw [if_neg (by omega)]
        simp (disch := omega) only [up_at, x134]
      have y37 : Y 37 0 = X 37 0 + 1 := by
        rw [hY, up_ne (by omega), lx_row_ne _ _ _ (by omega), famM, hX1]; simp (disch := omega) only [up_ne, up_it]
      have yA6 : Y 134 6 = X 134 6 + 1 := by rw [hY, up_it, ej]
      have yl : ∀ m, m < 10 → Y 134 (448 + 15 * j + (5 + m)) = 5 := fun m hm => by
        rw [yA _ (by omega)]
        unfold lkr
        rw [if_pos (by omega)]
      have y0 : Y 134 (448 + 15 * j + 0) = a ∧ Y 134 (448 + 15 * j + 1) = b - b / 10 * 10 ∧ Y 134 (448 + 15 * j + 2) = b / 10000 ∧ Y 134 (448 + 15 * j + 3) = b / 10 - b / 10 / 1000 * 1000 ∧ Y 134 (448 + 15 * j + 4) = 0 := by
        rw [yA _ (by omega), yA _ (by omega), yA _ (by omega), yA _ (by omega), yA _ (by omega)]
        unfold lkr famM
        rw [if_neg (by omega), if_neg (by omega), if_neg (by omega), if_neg (by omega), if_neg (by omega)]
        simp (disch := omega) only [up_at, up_it, and_self]
      have yc : Y 38 j = a ∧ Y 39 j = b - b / 10 * 10 ∧ Y 40 j = b / 10000 ∧ Y 41 j = b / 10 - b / 10 / 1000 * 1000 := by
        rw [hY, up_ne (by omega), up_ne (by omega), up_ne (by omega), up_ne (by omega), lx_row_ne _ _ _ (by omega), lx_row_ne _ _ _ (by omega), lx_row_ne _ _ _ (by omega), lx_row_ne _ _ _ (by omega), famM, hX1]
        simp (disch := omega) only [up_ne, up_it, and_self]
      have yo : ∀ f, f ≠ j → Y 38 f = X 38 f ∧ Y 39 f = X 39 f ∧ Y 40 f = X 40 f ∧ Y 41 f = X 41 f := fun f hf => by
        rw [hY, up_ne (by omega), up_ne (by omega), up_ne (by omega), up_ne (by omega), lx_row_ne _ _ _ (by omega), lx_row_ne _ _ _ (by omega), lx_row_ne _ _ _ (by omega), lx_row_ne _ _ _ (by omega), famM, hX1]
        simp (disch := omega) only [up_ne, up_at, and_self]
      obtain ⟨-, k2, k3, k4, k5, k6, k7, ⟨b1, b2, b3, b4, b5, b6, b7⟩, k8⟩ := hK
      have hR1 : R1 Y (Y 134) := by
        unfold R1
        rw [fC 1 (by omega), fC 2 (by omega), fC 23 (by omega), fC 69 (by omega), y37, yA6, fA 0 (by omega), fA 1 (by omega), fA 3 (by omega), fA 8 (by omega), fA 5 (by omega), fA 4 (by omega), fA 7 (by omega)]
        exact ⟨⟨e0, e1, e3, e8, e4, e5, by rw [e6], e7⟩, r0, r3, r4, r5, ⟨j + 1, by omega, by rw [ej]; exact nI_1 j⟩, r7⟩
      have hR5 : R5 Y (Y 134) := by
        intro f hf
        obtain ⟨s1, s2⟩ := k5 f hf
        have ef : nI f < Y 134 6 ↔ f < j + 1 := by rw [yA6, ej, nI_1, nI_lt_iff (by omega) (by omega)]
        have eg : nI f < X 134 6 ↔ f < j := by rw [ej, nI_lt_iff (by omega) (by omega)]
        rw [ef]
        rw [eg] at s1 s2
        by_cases z : f = j
        · subst z
          obtain ⟨t1, t2⟩ := s2 (by omega)
          refine ⟨fun _ => ⟨by rw [yc.1, y0.1], by rw [yc.2.1, y0.2.1], by rw [yc.2.2.1, y0.2.2.1], by rw [yc.2.2.2, y0.2.2.2.1], by rw [fC 42 (by omega), t1, y0.2.2.2.2], fun m hm => by rw [fC (43 + 1 + f) (by omega), t2 m hm, yl m hm]⟩, fun w => absurd (by omega) w⟩
        · rw [(yo f z).1, (yo f z).2.1, (yo f z).2.2.1, (yo f z).2.2.2, fC 42 (by omega), fC (43 + 1 + f) (by omega), fA _ (by omega), fA _ (by omega), fA _ (by omega), fA _ (by omega), fA _ (by omega)]
          refine ⟨fun w => ?_, fun w => s2 (by omega)⟩
          obtain ⟨u1, u2, u3, u4, u5, u6⟩ := s1 (by omega)
          exact ⟨u1, u2, u3, u4, u5, fun m hm => by rw [fA _ (by omega)]; exact u6 m hm⟩
      have hB4 : B4 (Y 134) := by
        intro f hf
        by_cases z : f = j
        · subst z
          rw [y0.2.1, y0.2.2.2.2]
          exact ⟨i_num (N := 6) (by omega) (Int32.le_trans (by decide) h.2.2.1) h.2.2.2, Or.inr ⟨0, Nat.pow_pos (by omega), rfl⟩⟩
        · rw [fA _ (by omega), fA _ (by omega), fA 5 (by omega)]
          exact b4 f hf
      refine iv_now hL hI hSY ⟨hR1, k2.fr (fun k _ => fC k (by omega)) (fun t _ _ => fA t (by omega)), k3.fr (fun k _ _ => fC k (by omega)) (fun t _ _ => fA t (by omega)), k4.fr (fun k _ _ => fC k (by omega)) (fA 4 (by omega)) (fun t _ _ => fA t (by omega)), hR5, k6.fr (fun k _ _ => fC k (by omega)) (fun t _ _ => fA t (by omega)), k7.fr (fun k _ _ => fC k (by omega)) (fun t _ _ => fA t (by omega)),
        ⟨b1.fr (fun t _ _ => fA t (by omega)), b2.fr (fun t _ _ => fA t (by omega)), b3.fr (fun t _ _ => fA t (by omega)), hB4, b5.fr (by rw [fA 5 (by omega)]; exact Nat.le_refl _) (fun t _ _ => fA t (by omega)), b6.fr (fA 7 (by omega)) (fun t _ _ => fA t (by omega)), b7.fr (fA 7 (by omega)) (fun p _ => fA _ (by omega)) (fun l _ => ⟨fA _ (by omega), fA _ (by omega)⟩)⟩, hL _ _ _ _ (fun k _ _ => fC k (by omega)) (fA 2 (by omega)) (fun t _ _ => fA t (by omega)) k8⟩
        (hT.fr ⟨by rw [fC 81 (by omega)], by rw [fC 133 (by omega)], by rw [fC 0 (by omega)], by rw [fC 133 (by omega)]⟩ (fun k _ => fC k (by omega))) (by rw [fC 0 (by omega)]) (by rw [fC 133 (by omega)]) (fun k _ => fC k (by omega)) (fC 135 (by omega))
    · have e12 : j = 12 := by omega
      subst e12
      exact jp_of hn hn2 (e_of vX11_family (Nat.le_of_ble_eq_true rfl) (cat_of rfl) (bX11_family_0_1 (Nat.le_of_ble_eq_true rfl) hn hX h.1 g2.1 h.2.2 g2.2 (by rw [e6, ej]; decide +kernel) ⟨rfl, rfl⟩)) (e_of vX12_family (Nat.le_of_ble_eq_true rfl) (cat_of rfl) (bX12_family_0_0 (Nat.le_of_ble_eq_true rfl) hn hX h.1 h.2.1 h.2.2 ej ⟨rfl, rfl⟩)) hI
  · exact jp_of hn hn2 (c_fam_bad hn hI.1 h) (m_fam_bad hn hI.1 h) hI
end FAM
