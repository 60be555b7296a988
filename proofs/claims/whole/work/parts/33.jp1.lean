/-! THE CALLS, 2: heat, trim, told, isOf. -/
theorem up_ne {X : LX} {k j a : Nat} {v : Int32} (h : a ≠ k) : lx_up X k j v a = X a := if_neg h
theorem up_at {X : LX} {k j i : Nat} {v : Int32} (h : i ≠ j) : lx_up X k j v k i = X k i := by
  unfold lx_up
  rw [if_pos rfl]
  exact if_neg h
theorem up_it {X : LX} {k j : Nat} {v : Int32} : lx_up X k j v k j = v := by
  unfold lx_up
  rw [if_pos rfl]
  exact if_pos rfl
section JP1
variable {LR : LX → (Nat → Int32) → Prop} {g : GG} {n : Nat} {X : LX}
/-- only counts and small numbers have moved -/
theorem KR.fr1 (hL : LRok LR) {C C' : LX} {A A' : Nat → Int32} (h : KR LR C A) (hC : ∀ k, 3 ≤ k → k ≤ 80 → k ≠ 23 → k ≠ 37 → k ≠ 69 → C' k = C k) (hA : ∀ j, 10 ≤ j → j < 2156 → A' j = A j) (a4 : A' 4 = A 4) (a6 : A' 6 = A 6) (a2 : A' 2 = A 2) (a5 : A' 5 = A 5) (a7 : A' 7 = A 7) (hR : R1 C' A') : KR LR C' A' := by
  obtain ⟨h1, h2, h3, h4, h5, h6, h7, hb, h8⟩ := h
  exact ⟨hR, h2.fr (fun k hk => hC k (by omega) (by omega) (by omega) (by omega) (by omega)) (fun j _ hj => hA j (by omega) (by omega)), h3.fr (fun k _ hk => hC k (by omega) (by omega) (by omega) (by omega) (by omega)) (fun j _ hj => hA j (by omega) (by omega)), h4.fr (fun k _ hk => hC k (by omega) (by omega) (by omega) (by omega) (by omega)) a4 (fun j _ hj => hA j (by omega) (by omega)),
    h5.fr (fun k _ hk => hC k (by omega) (by omega) (by omega) (by omega) (by omega)) a6 (fun j _ hj => hA j (by omega) (by omega)), h6.fr (fun k _ hk => hC k (by omega) (by omega) (by omega) (by omega) (by omega)) (fun j _ hj => hA j (by omega) (by omega)), h7.fr (fun k _ hk => hC k (by omega) (by omega) (by omega) (by omega) (by omega)) (fun j _ hj => hA j (by omega) (by omega)), hb.fr a5 a7 (fun j h hj => hA j h (by omega)), hL _ _ _ _ (fun k _ hk => hC k (by omega) (by omega) (by omega) (by omega) (by omega)) a2 (fun j h hj => hA j (by omega) hj) h8⟩
theorem jp_heat (hL : LRok LR) {a : Int32} (hn : 146 ≤ n) (hn2 : n ≤ 226) (hI : Iv LR n X) : JP g (Iv LR) mX11_heat mX12_heat [.int a] n X := by
  obtain ⟨hX, hK, hT, hB⟩ := id hI
  by_cases h : 0 ≤ a ∧ a ≤ 60
  · have hX1 : Sh n (lx_up X 1 7 a) := hX.upF (by decide +kernel) (by decide +kernel)
    have hX2 : Sh n (lx_up (lx_up X 1 7 a) 134 1 a) := hX1.upA (by decide +kernel)
    refine jp_of hn hn2 (e_of vX11_heat (Nat.le_of_ble_eq_true rfl) (cat_of rfl) (bX11_heat_0_0 (Nat.le_of_ble_eq_true rfl) hn hX h ⟨rfl, rfl⟩)) (e_of vX12_heat (Nat.le_of_ble_eq_true rfl) (cat_of rfl) (bX12_heat_0_0 (Nat.le_of_ble_eq_true rfl) hn hX1 h ⟨by rw [up_ne (by omega), hK.1.1.2.1], rfl⟩)) ?_
    refine iv_now hL hI hX2 (hK.fr1 hL (fun k _ _ _ _ _ => by rw [up_ne (by omega), up_ne (by omega)]) (fun j _ _ => by rw [up_at (by omega), up_ne (by omega)]) rfl rfl rfl rfl rfl ?_) (hT.fr ⟨rfl, rfl, rfl, rfl⟩ (fun k _ => by rw [up_ne (by omega), up_ne (by omega)])) rfl rfl (fun k _ => by rw [up_ne (by omega), up_ne (by omega)]) rfl
    obtain ⟨⟨e0, e1, e3, e8, e4, e5, e6, e7⟩, hr⟩ := hK.1
    exact ⟨⟨e0, rfl, e3, e8, e4, e5, e6, e7⟩, hr⟩
  · exact jp_of hn hn2 (e_of vX11_heat (Nat.le_of_ble_eq_true rfl) (cat_of rfl) (bX11_heat_0_1 (Nat.le_of_ble_eq_true rfl) hn hX h ⟨rfl, rfl⟩)) (e_of vX12_heat (Nat.le_of_ble_eq_true rfl) (cat_of rfl) (bX12_heat_0_1 (Nat.le_of_ble_eq_true rfl) hn hX h ⟨rfl, rfl⟩)) hI
theorem i_num {N : Nat} {a : Int32} (hN : N < 1000000) (h0 : 0 ≤ a) (h1 : a ≤ nI N) : ∃ k, k ≤ N ∧ a = nI k := by
  refine i_cases N hN ?_
  rw [Int32.le_iff_toInt_le] at h0 h1
  rw [nI_toInt (by omega)] at h1
  have e0 : (0 : Int32).toInt = 0 := by decide
  rw [e0] at h0
  omega
theorem jp_trim (hL : LRok LR) {a : Int32} (hn : 146 ≤ n) (hn2 : n ≤ 226) (hI : Iv LR n X) : JP g (Iv LR) mX11_trim mX12_trim [.int a] n X := by
  obtain ⟨hX, hK, hT, hB⟩ := id hI
  obtain ⟨⟨t1, ⟨b, hb, t2⟩, t3⟩, tw, ts⟩ := hT
  by_cases h : 0 ≤ a ∧ a ≤ X 81 1
  · have hX1 : Sh n (lx_up X 81 1 a) := hX.upF (by decide +kernel) (by decide +kernel)
    have hX2 : Sh n (lx_up (lx_up X 81 1 a) 133 4 a) := hX1.upF (by decide +kernel) (by decide +kernel)
    have h2 := h
    rw [t1] at h2
    refine jp_of hn hn2 (e_of vX11_trim (Nat.le_of_ble_eq_true rfl) (cat_of rfl) (bX11_trim_0_0 (Nat.le_of_ble_eq_true rfl) hn hX h ⟨rfl, rfl⟩)) (e_of vX12_trim (Nat.le_of_ble_eq_true rfl) (cat_of rfl) (bX12_trim_0_0 (Nat.le_of_ble_eq_true rfl) hn hX1 (by rw [up_ne (by omega)]; exact h2) ⟨rfl, rfl⟩)) ?_
    refine iv_now hL hI hX2 (hK.same hL (fun k _ _ => by rw [up_ne (by omega), up_ne (by omega)]) (fun j _ => rfl)) ⟨⟨rfl, ?_, t3⟩, tw, ?_⟩ rfl rfl (fun k _ => by rw [up_ne (by omega), up_ne (by omega)]) rfl
    · rw [t2] at h2
      obtain ⟨k, hk, e⟩ := i_num (by omega) h2.1 h2.2
      exact ⟨k, by omega, e⟩
    · intro s hs
      rw [up_ne (show 128 + 1 + s ≠ 133 by omega), up_ne (show 128 + 1 + s ≠ 81 by omega)]
      exact ts s hs
  · have h2 := h
    rw [t1] at h2
    exact jp_of hn hn2 (e_of vX11_trim (Nat.le_of_ble_eq_true rfl) (cat_of rfl) (bX11_trim_0_1 (Nat.le_of_ble_eq_true rfl) hn hX h ⟨rfl, rfl⟩)) (e_of vX12_trim (Nat.le_of_ble_eq_true rfl) (cat_of rfl) (bX12_trim_0_1 (Nat.le_of_ble_eq_true rfl) hn hX h2 ⟨rfl, rfl⟩)) hI
end JP1
