/-! THE CALLS, 15: menu. -/
/-- the choices of the first i families are none -/
def chz (r : Nat → Int32) (i : Nat) : Nat → Int32 := fun t => if 448 ≤ t ∧ (t - 448) % 15 = 4 ∧ (t - 448) / 15 < i then 0 else r t
theorem chz_0 (r : Nat → Int32) : chz r 0 = r := by funext t; unfold chz; rw [if_neg (by omega)]
theorem chz_s (r : Nat → Int32) (i : Nat) : upd (chz r i) (448 + 15 * i + 4) 0 = chz r (i + 1) := by
  funext t
  unfold upd chz
  by_cases h : t = 448 + 15 * i + 4
  · rw [if_pos h, if_pos (by omega)]
  · rw [if_neg h]
    by_cases q : 448 ≤ t ∧ (t - 448) % 15 = 4 ∧ (t - 448) / 15 < i
    · rw [if_pos q, if_pos (by omega)]
    · rw [if_neg q, if_neg (by omega)]
theorem chz_o {r : Nat → Int32} {i t : Nat} (h : t < 448 ∨ (t - 448) % 15 ≠ 4 ∨ i ≤ (t - 448) / 15) : chz r i t = r t := by
  unfold chz
  rw [if_neg (by omega)]
theorem chz_z {r : Nat → Int32} {i f : Nat} (h : f < i) : chz r i (448 + 15 * f + 4) = 0 := by
  unfold chz
  rw [if_pos (by omega)]
theorem R5.zero {C C' : LX} {A A' : Nat → Int32} (h : R5 C A) (hC : ∀ k, 38 ≤ k → k ≤ 55 → k ≠ 42 → C' k = C k) (hz : ∀ f, f < 12 → C' 42 f = 0) (h6 : A' 6 = A 6) (hA : ∀ f, f < 12 → ∀ t, t < 15 → t ≠ 4 → A' (448 + 15 * f + t) = A (448 + 15 * f + t)) (h4 : ∀ f, f < 12 → nI f < A 6 → A' (448 + 15 * f + 4) = 0) : R5 C' A' := by
  intro q hq
  obtain ⟨s1, s2⟩ := h q hq
  rw [h6, hC 38 (by omega) (by omega) (by omega), hC 39 (by omega) (by omega) (by omega), hC 40 (by omega) (by omega) (by omega), hC 41 (by omega) (by omega) (by omega), hC (43 + 1 + q) (by omega) (by omega) (by omega), hA q hq 0 (by omega) (by omega), hA q hq 1 (by omega) (by omega), hA q hq 2 (by omega) (by omega), hA q hq 3 (by omega) (by omega), hz q hq]
  refine ⟨fun w => ?_, fun w => ⟨rfl, (s2 w).2⟩⟩
  obtain ⟨a, b, c, d, e, g⟩ := s1 w
  exact ⟨a, b, c, d, (h4 q hq w).symm, fun m hm => by rw [hA q hq (5 + m) (by omega) (by omega)]; exact g m hm⟩
theorem B4.zero {A A' : Nat → Int32} (h : B4 A) (h5 : ix (A 5) ≤ ix (A' 5)) (h1 : ∀ f, f < 12 → A' (448 + 15 * f + 1) = A (448 + 15 * f + 1)) (h4 : ∀ f, f < 12 → A' (448 + 15 * f + 4) = A (448 + 15 * f + 4) ∨ A' (448 + 15 * f + 4) = 0) : B4 A' := fun f hf => by
  rw [h1 f hf]
  refine ⟨(h f hf).1, ?_⟩
  rcases h4 f hf with w | w
  · rw [w]
    rcases (h f hf).2 with q | ⟨b, hb, e⟩
    · exact Or.inl q
    · exact Or.inr ⟨b, Nat.lt_of_lt_of_le hb (Nat.pow_le_pow_right (by omega) h5), e⟩
  · rw [w]; exact Or.inr ⟨0, Nat.pow_pos (by omega), rfl⟩
section MENU
variable {LR : LX → (Nat → Int32) → Prop} {g : GG} {d n : Nat} {X : LX} {post : Option Value → LX → Prop}
theorem t_X12_areMeals {v : Int32} (hn : 146 ≤ n) (hX : Sh n X) (h : 0 ≤ v ∧ v < 1 <<< (X 134 5 &&& 31)) : Ex g mX12_areMeals d n n [.ref 133, .int v] X (rt 1 X) :=
  e_of vX12_areMeals (Nat.le_of_ble_eq_true rfl) (cat_of rfl) (bX12_areMeals_0_0 hn hX (Int32.not_lt.mpr h.1) (Int32.not_le.mpr h.2) ⟨rfl, rfl⟩)
theorem f_X12_areMeals {v : Int32} (hn : 146 ≤ n) (hX : Sh n X) (h : ¬ (0 ≤ v ∧ v < 1 <<< (X 134 5 &&& 31))) : Ex g mX12_areMeals d n n [.ref 133, .int v] X (rt 0 X) :=
  e_of vX12_areMeals (Nat.le_of_ble_eq_true rfl) (cat_of rfl) (by
    by_cases c : v < 0
    · exact bX12_areMeals_0_2 hn hX c ⟨rfl, rfl⟩
    · by_cases c2 : 1 <<< (X 134 5 &&& 31) ≤ v
      · exact bX12_areMeals_0_1 hn hX c c2 ⟨rfl, rfl⟩
      · exact absurd ⟨Int32.not_lt.mp c, Int32.not_le.mp c2⟩ h)
theorem menu_loop {v : Int32} {F : Nat} (hd : 1 ≤ d) (hn : 146 ≤ n) (hX : Sh n X) (hF : F ≤ 12) (e6 : X 134 6 = nI F) (hp : post (some (.int (ones v))) (lx_row X 134 (chz (X 134) F))) : Ev g mX12_menu d n n post n 34 [some (.ref 133), some (.int v), some (.int 0)] [] X := by
  have loop : ∀ i, i ≤ F → Ev g mX12_menu d n n post n 34 [some (.ref 133), some (.int v), some (.int (nI i))] [] (lx_row X 134 (chz (X 134) i)) := by
    have e : ∀ i, lx_row X 134 (chz (X 134) i) 134 6 = nI F := fun i => by rw [lx_row_self, chz_o (by omega), e6]
    refine down ?_ ?_
    · exact bX12_menu_34_1 hd hn (hX.row (by decide +kernel)) (by rw [e]; exact nI_le (by omega) (by omega)) hp
    · intro i hi k
      rw [show nI (i + 1) = nI i + 1 from (nI_1 i).symm, ← chz_s, ← lx_row_up] at k
      exact bX12_menu_34_0 hd hn (hX.row (by decide +kernel)) (by rw [e]; exact nI_ge hi (by omega)) (by omega) k
  have h := loop 0 (by omega)
  rw [chz_0, lx_row_id] at h
  exact h
theorem jp_menu (hL : LRok LR) {a : Int32} (hn : 146 ≤ n) (hn2 : n ≤ 226) (hI : Iv LR n X) : JP g (Iv LR) mX11_menu mX12_menu [.int a] n X := by
  obtain ⟨hX, hK, hT, hB⟩ := id hI
  obtain ⟨⟨e0, e1, e3, e8, e4, e5', e6, e7⟩, r0, h3, r4, r5, ⟨F, hF, ef⟩, r7⟩ := hK.1
  obtain ⟨M, hM, e23, e5, eix, mb, hmb, eb1, eb2⟩ := hK.meals
  have hi := bits_iff (v := a) (M := M) (by omega)
  rw [← e23] at hi
  by_cases h : 0 ≤ a ∧ a >>> (X 23 0 &&& 31) = 0
  · have hm := hi.mp h
    rw [e5'] at hm
    rcases h3 with h3 | h3
    · have c1 : X 1 8 = 0 := e3.trans h3
      have c2 : ¬ X 134 3 = 1 := by rw [h3]; decide
      obtain ⟨b, hb0, rfl⟩ := bits_num (M := M) (by omega) (by rw [← e23]; exact h)
      obtain ⟨X1, hX1⟩ : ∃ Y : LX, Y = lx_row (lx_up X 1 6 (nI b)) 42 (fillTo (lx_up X 1 6 (nI b) 42) 0 12) := ⟨_, rfl⟩
      have hS1 : Sh n X1 := by rw [hX1]; exact (hX.upF (by decide +kernel) (by decide +kernel)).row (by decide +kernel)
      have x134 : X1 134 = X 134 := by rw [hX1, lx_row_ne _ _ _ (by omega), up_ne (by omega)]
      have hS2 : Sh n (lx_up X1 134 8 (nI b)) := hS1.upA (by decide +kernel)
      obtain ⟨Y, hY⟩ : ∃ Y : LX, Y = lx_row (lx_up X1 134 8 (nI b)) 134 (chz (lx_up X1 134 8 (nI b) 134) F) := ⟨_, rfl⟩
      have hSY : Sh n Y := by rw [hY]; exact hS2.row (by decide +kernel)
      refine jp_of (X1 := X1) (X2 := Y) hn hn2 (e_of vX11_menu (Nat.le_of_ble_eq_true rfl) (cat_of rfl) (bX11_menu_0_1 (Nat.le_of_ble_eq_true rfl) hn hX h c1 ⟨rfl, hX1.symm⟩)) (e_of vX12_menu (Nat.le_of_ble_eq_true rfl) (cat_of rfl) (bX12_menu_0_0 hn hS1 (qX12_menu_2 (d' := 100) (rest := []) hn (by omega) (by decide) (t_X12_areMeals hn hS1 (by rw [x134]; exact hm)) (fun v Z hv => ?_)))) ?_
      · obtain ⟨rfl, rfl⟩ := hv
        refine bX12_menu_5_2 hn hS1 (by decide) (by rw [x134]; exact c2) (menu_loop (Nat.le_of_ble_eq_true rfl) hn hS2 hF (by rw [up_at (by omega), x134, ef]) ⟨?_, hY.symm⟩)
        rw [bc_ones b (pow_10 hM hb0)]
      have fC : ∀ k, k ≠ 134 ∧ k ≠ 42 ∧ k ≠ 1 → Y k = X k := fun k w => by rw [hY, lx_row_ne _ _ _ w.1, up_ne w.1, hX1, lx_row_ne _ _ _ w.2.1, up_ne w.2.2]
      have fA : ∀ t, t ≠ 8 ∧ (t < 448 ∨ (t - 448) % 15 ≠ 4 ∨ F ≤ (t - 448) / 15) → Y 134 t = X 134 t := fun t w => by rw [hY, lx_row_self, chz_o w.2, up_at w.1, x134]
      have y8 : Y 134 8 = nI b := by rw [hY, lx_row_self, chz_o (by omega), up_it]
      have y1 : ∀ t, t ≠ 6 → Y 1 t = X 1 t := fun t w => by rw [hY, lx_row_ne _ _ _ (by omega), up_ne (by omega), hX1, lx_row_ne _ _ _ (by omega), up_at w]
      have y16 : Y 1 6 = nI b := by rw [hY, lx_row_ne _ _ _ (by omega), up_ne (by omega), hX1, lx_row_ne _ _ _ (by omega), up_it]
      have yz : ∀ f, f < F → Y 134 (448 + 15 * f + 4) = 0 := fun f hf => by rw [hY, lx_row_self, chz_z hf]
      have y42 : ∀ f, f < 12 → Y 42 f = 0 := fun f hf => by
        rw [hY, lx_row_ne _ _ _ (by omega), up_ne (by omega), hX1, lx_row_self]
        unfold fillTo
        rw [if_pos hf]
      obtain ⟨-, k2, k3, k4, k5, k6, k7, ⟨b1, b2, b3, b4, b5, b6, b7⟩, k8⟩ := hK
      have hR1 : R1 Y (Y 134) := by
        unfold R1
        rw [fC 2 (by omega), fC 23 (by omega), fC 37 (by omega), fC 69 (by omega), y1 5 (by omega), y1 7 (by omega), y1 8 (by omega), y16, y8, fA 0 (by omega), fA 1 (by omega), fA 3 (by omega), fA 4 (by omega), fA 5 (by omega), fA 6 (by omega), fA 7 (by omega)]
        exact ⟨⟨e0, e1, e3, rfl, e4, e5', e6, e7⟩, r0, Or.inl h3, r4, ⟨M, hM, e5, b, hb0, rfl⟩, ⟨F, hF, ef⟩, r7⟩
      have hle : ix (X 134 5) ≤ ix (Y 134 5) := by rw [fA 5 (by omega)]; exact Nat.le_refl _
      refine iv_now hL hI hSY ⟨hR1, k2.fr (fun k _ => fC k (by omega)) (fun t _ _ => fA t (by omega)), k3.fr (fun k _ _ => fC k (by omega)) (fun t _ _ => fA t (by omega)), k4.fr (fun k _ _ => fC k (by omega)) (fA 4 (by omega)) (fun t _ _ => fA t (by omega)),
        k5.zero (fun k _ _ _ => fC k (by omega)) y42 (fA 6 (by omega)) (fun f _ t _ _ => fA _ (by omega)) (fun f _ w => yz f (by rw [ef, nI_lt_iff (by omega) (by omega)] at w; exact w)), k6.fr (fun k _ _ => fC k (by omega)) (fun t _ _ => fA t (by omega)), k7.fr (fun k _ _ => fC k (by omega)) (fun t _ _ => fA t (by omega)),
        ⟨b1.fr (fun t _ _ => fA t (by omega)), b2.fr (fun t _ _ => fA t (by omega)), b3.fr (fun t _ _ => fA t (by omega)), b4.zero hle (fun f _ => fA _ (by omega)) (fun f _ => by
          rcases Nat.lt_or_ge f F with z | z
          · exact Or.inr (yz f z)
          · exact Or.inl (fA _ (by omega))), b5.fr hle (fun t _ _ => fA t (by omega)), b6.fr (fA 7 (by omega)) (fun t _ _ => fA t (by omega)), b7.fr (fA 7 (by omega)) (fun p _ => fA _ (by omega)) (fun l _ => ⟨fA _ (by omega), fA _ (by omega)⟩)⟩, hL _ _ _ _ (fun k _ _ => fC k (by omega)) (fA 2 (by omega)) (fun t _ _ => fA t (by omega)) k8⟩
        (hT.fr ⟨by rw [fC 81 (by omega)], by rw [fC 133 (by omega)], by rw [fC 0 (by omega)], by rw [fC 133 (by omega)]⟩ (fun k _ => fC k (by omega))) (by rw [fC 0 (by omega)]) (by rw [fC 133 (by omega)]) (fun k _ => fC k (by omega)) (fC 135 (by omega))
    · have c1 : ¬ X 1 8 = 0 := by rw [e3, h3]; decide
      refine jp_of hn hn2 (e_of vX11_menu (Nat.le_of_ble_eq_true rfl) (cat_of rfl) (bX11_menu_0_0 (Nat.le_of_ble_eq_true rfl) hn hX h c1 ⟨rfl, rfl⟩)) (e_of vX12_menu (Nat.le_of_ble_eq_true rfl) (cat_of rfl) (bX12_menu_0_0 hn hX (qX12_menu_2 (d' := 100) (rest := []) hn (by omega) (by decide) (t_X12_areMeals hn hX hm) (fun v Z hv => ?_)))) hI
      obtain ⟨rfl, rfl⟩ := hv
      exact bX12_menu_5_1 hn hX (by decide) h3 ⟨rfl, rfl⟩
  · have hm := fun w => h (hi.mpr w)
    rw [e5'] at hm
    refine jp_of hn hn2 (e_of vX11_menu (Nat.le_of_ble_eq_true rfl) (cat_of rfl) (bX11_menu_0_2 (Nat.le_of_ble_eq_true rfl) hn hX h ⟨rfl, rfl⟩)) (e_of vX12_menu (Nat.le_of_ble_eq_true rfl) (cat_of rfl) (bX12_menu_0_0 hn hX (qX12_menu_2 (d' := 100) (rest := []) hn (by omega) (by decide) (f_X12_areMeals hn hX hm) (fun v Z hv => ?_)))) hI
    obtain ⟨rfl, rfl⟩ := hv
    exact bX12_menu_5_0 hn hX rfl ⟨rfl, rfl⟩
end MENU
