/-! THE CALLS, 1: rows for the invariant's keeping, and the first calls. -/
/-- a relation of codes that looks at the laws alone -/
def LRok (LR : LX → (Nat → Int32) → Prop) : Prop := ∀ (C C' : LX) (A A' : Nat → Int32), (∀ k, 77 ≤ k → k ≤ 80 → C' k = C k) → A' 2 = A 2 → (∀ j, 2028 ≤ j → j < 2156 → A' j = A j) → LR C A → LR C' A'
section JP0
variable {LR : LX → (Nat → Int32) → Prop} {g : GG} {n : Nat} {X : LX}
theorem KR.same (hL : LRok LR) {C C' : LX} {A A' : Nat → Int32} (h : KR LR C A) (hC : ∀ k, 1 ≤ k → k ≤ 80 → C' k = C k) (hA : ∀ j, j < 2156 → A' j = A j) : KR LR C' A' := by
  obtain ⟨h1, h2, h3, h4, h5, h6, h7, hb, h8⟩ := h
  refine ⟨h1.fr ⟨?_, ?_, ?_, ?_, ?_, ?_, ?_, ?_⟩ (fun j hj => hA j (by omega)), h2.fr (fun k hk => hC k (by omega) (by omega)) (fun j _ hj => hA j (by omega)), h3.fr (fun k _ hk => hC k (by omega) (by omega)) (fun j _ hj => hA j (by omega)), h4.fr (fun k _ hk => hC k (by omega) (by omega)) (hA 4 (by omega)) (fun j _ hj => hA j (by omega)),
    h5.fr (fun k _ hk => hC k (by omega) (by omega)) (hA 6 (by omega)) (fun j _ hj => hA j (by omega)), h6.fr (fun k _ hk => hC k (by omega) (by omega)) (fun j _ hj => hA j (by omega)), h7.fr (fun k _ hk => hC k (by omega) (by omega)) (fun j _ hj => hA j (by omega)), hb.fr (hA 5 (by omega)) (hA 7 (by omega)) (fun j _ hj => hA j (by omega)), hL _ _ _ _ (fun k _ hk => hC k (by omega) (by omega)) (hA 2 (by omega)) (fun j _ hj => hA j hj) h8⟩ <;> rw [hC _ (by omega) (by omega)]
theorem RT.fr {X' : LX} (h : RT X) (h1 : X' 81 1 = X 81 1 ∧ X' 133 4 = X 133 4 ∧ X' 0 7 = X 0 7 ∧ X' 133 6 = X 133 6) (hC : ∀ k, k = 82 ∨ k = 136 ∨ k = 132 ∨ k = 137 ∨ k = 131 ∨ k = 138 ∨ k = 129 ∨ k = 130 ∨ k = 139 → X' k = X k) : RT X' := by
  obtain ⟨a, b, c, d⟩ := h1
  unfold RT
  rw [a, b, c, d, hC 82 (by omega), hC 136 (by omega), hC 132 (by omega), hC 137 (by omega), hC 131 (by omega), hC 138 (by omega), hC 139 (by omega)]
  refine ⟨h.1, h.2.1, fun s hs => ?_⟩
  rw [hC (128 + 1 + s) (by omega)]
  exact h.2.2 s hs
theorem iv_now (hL : LRok LR) {X' : LX} (hI : Iv LR n X) (hS : Sh n X') (hK : KR LR X' (X' 134)) (hT : RT X') (h8 : X' 0 8 = X 0 8) (h2 : X' 133 2 = X 133 2) (hC : ∀ k, 146 ≤ k ∨ k = 125 ∨ k = 126 → X' k = X k) (hA : X' 135 = X 135) : Iv LR n X' := by
  refine ⟨hS, hK, hT, ?_, fun s hs i hi => by rw [hC (124 + 1 + s) (by omega)]; exact hI.2.2.2.2 s hs i hi⟩
  rw [h8, h2]
  rcases hI.2.2.2.1 with h | ⟨a, b, c, d⟩
  · exact Or.inl h
  · exact Or.inr ⟨a, b, c, d.same hL (fun k h1 _ => hC (k + 145) (by omega)) (fun j _ => by rw [hA])⟩
theorem Ex.mono {M : Mt} {d n0 nf : Nat} {av : List Value} {p1 p2 : Option Value → LX → Prop} (h : Ex g M d n0 nf av X p1) (hp : ∀ v Z, p1 v Z → p2 v Z) : Ex g M d n0 nf av X p2 := by
  unfold Ex at h ⊢
  unfold Met at h ⊢
  exact Jvm.Free.MetFree.mono h (fun _ _ q => q) (fun _ _ _ _ _ q => q) (fun _ _ _ _ _ q => ⟨Qp_mono hp q.1, q.2⟩)
theorem jp_of {Mc Mm : Mt} {as : List Value} {r : Int32} {X1 X2 : LX} (hn : 146 ≤ n) (hn2 : n ≤ 226) (hc : Ex g Mc 200 n n (.ref 0 :: as) X (rt r X1)) (hm : Ex g Mm 200 n n (.ref 133 :: as) X1 (rt r X2)) (hI : Iv LR n X2) : JP g (Iv LR) Mc Mm as n X :=
  ⟨n, fun r' Z => r' = r ∧ Z = X1, Nat.le_refl _, hn2, hn, hc.mono (fun v Z h => ⟨r, h.1, rfl, h.2⟩), fun r' Z h => by
    obtain ⟨rfl, rfl⟩ := h
    exact hm.mono (fun v Z h => ⟨h.1, by rw [h.2]; exact hI⟩)⟩
theorem i_cases (N : Nat) {a : Int32} (hN : N < 1000000) (h : ¬ (a.toInt < 0 ∨ (N : Int) < a.toInt)) : ∃ k, k ≤ N ∧ a = nI k := by
  refine ⟨a.toInt.toNat, by omega, Int32.toInt_inj.mp ?_⟩
  rw [nI_toInt (by omega)]
  omega
theorem bc_ones : ∀ b, b < 1024 → bc (nI b) = ones (nI b) := by decide +kernel
theorem jp_count {a : Int32} (hn : 146 ≤ n) (hn2 : n ≤ 226) (hI : Iv LR n X) : JP g (Iv LR) mX11_count mX12_count [.int a] n X := by
  obtain ⟨hX, hK, hT, hB⟩ := id hI
  obtain ⟨⟨e0, e1, e3, e8, e4, e5, e6, e7⟩, -, h3, -, ⟨c5, hc5, -, b, hb, hb8⟩, -⟩ := hK.1
  by_cases h : a.toInt < 0 ∨ 8 < a.toInt
  · exact jp_of hn hn2 (e_of vX11_count (Nat.le_of_ble_eq_true rfl) (cat_of rfl) (bX11_count_0_0 hn hX h ⟨rfl, rfl⟩)) (e_of vX12_count (Nat.le_of_ble_eq_true rfl) (cat_of rfl) (bX12_count_0_0 hn hX h ⟨rfl, rfl⟩)) hI
  · obtain ⟨k, hk, rfl⟩ := i_cases 8 (by omega) h
    rcases (show k = 0 ∨ k = 1 ∨ k = 2 ∨ k = 3 ∨ k = 4 ∨ k = 5 ∨ k = 6 ∨ k = 7 ∨ k = 8 by omega) with e | e | e | e | e | e | e | e | e <;> subst e
    · exact jp_of hn hn2 (e_of vX11_count (Nat.le_of_ble_eq_true rfl) (cat_of rfl) (bX11_count_0_1 hn hX rfl ⟨rfl, rfl⟩)) (e_of vX12_count (Nat.le_of_ble_eq_true rfl) (cat_of rfl) (bX12_count_0_1 hn hX rfl ⟨by rw [e4], rfl⟩)) hI
    · exact jp_of hn hn2 (e_of vX11_count (Nat.le_of_ble_eq_true rfl) (cat_of rfl) (bX11_count_0_2 hn hX rfl ⟨rfl, rfl⟩)) (e_of vX12_count (Nat.le_of_ble_eq_true rfl) (cat_of rfl) (bX12_count_0_2 hn hX rfl ⟨by rw [e5], rfl⟩)) hI
    · exact jp_of hn hn2 (e_of vX11_count (Nat.le_of_ble_eq_true rfl) (cat_of rfl) (bX11_count_0_3 hn hX rfl ⟨rfl, rfl⟩)) (e_of vX12_count (Nat.le_of_ble_eq_true rfl) (cat_of rfl) (bX12_count_0_3 hn hX rfl ⟨by rw [e6], rfl⟩)) hI
    · exact jp_of hn hn2 (e_of vX11_count (Nat.le_of_ble_eq_true rfl) (cat_of rfl) (bX11_count_0_4 hn hX rfl ⟨rfl, rfl⟩)) (e_of vX12_count (Nat.le_of_ble_eq_true rfl) (cat_of rfl) (bX12_count_0_4 hn hX rfl ⟨by rw [e7], rfl⟩)) hI
    · have hp : 2 ^ c5 ≤ 2 ^ 10 := Nat.pow_le_pow_right (by omega) hc5
      exact jp_of hn hn2 (e_of vX11_count (Nat.le_of_ble_eq_true rfl) (cat_of rfl) (bX11_count_0_5 (Nat.le_of_ble_eq_true rfl) hn hX rfl ⟨rfl, rfl⟩)) (e_of vX12_count (Nat.le_of_ble_eq_true rfl) (cat_of rfl) (bX12_count_0_5 (Nat.le_of_ble_eq_true rfl) hn hX rfl ⟨by rw [e8, hb8, bc_ones b (by omega)], rfl⟩)) hI
    · by_cases q : ¬ X 1 8 = 0
      · exact jp_of hn hn2 (e_of vX11_count (Nat.le_of_ble_eq_true rfl) (cat_of rfl) (bX11_count_0_6 (Nat.le_of_ble_eq_true rfl) hn hX rfl q ⟨rfl, rfl⟩)) (e_of vX12_count (Nat.le_of_ble_eq_true rfl) (cat_of rfl) (bX12_count_0_6 hn hX rfl ⟨by rcases h3 with h3 | h3 <;> rw [e3, h3] at q <;> first | exact absurd rfl q | rw [h3], rfl⟩)) hI
      · exact jp_of hn hn2 (e_of vX11_count (Nat.le_of_ble_eq_true rfl) (cat_of rfl) (bX11_count_0_7 (Nat.le_of_ble_eq_true rfl) hn hX rfl q ⟨rfl, rfl⟩)) (e_of vX12_count (Nat.le_of_ble_eq_true rfl) (cat_of rfl) (bX12_count_0_6 hn hX rfl ⟨by rw [← e3, Classical.not_not.mp q], rfl⟩)) hI
    · exact jp_of hn hn2 (e_of vX11_count (Nat.le_of_ble_eq_true rfl) (cat_of rfl) (bX11_count_0_8 hn hX rfl ⟨rfl, rfl⟩)) (e_of vX12_count (Nat.le_of_ble_eq_true rfl) (cat_of rfl) (bX12_count_0_7 hn hX rfl ⟨by rw [e0], rfl⟩)) hI
    · exact jp_of hn hn2 (e_of vX11_count (Nat.le_of_ble_eq_true rfl) (cat_of rfl) (bX11_count_0_9 hn hX rfl ⟨rfl, rfl⟩)) (e_of vX12_count (Nat.le_of_ble_eq_true rfl) (cat_of rfl) (bX12_count_0_8 hn hX rfl ⟨by rw [hT.2.1.1], rfl⟩)) hI
    · exact jp_of hn hn2 (e_of vX11_count (Nat.le_of_ble_eq_true rfl) (cat_of rfl) (bX11_count_0_10 hn hX rfl ⟨rfl, rfl⟩)) (e_of vX12_count (Nat.le_of_ble_eq_true rfl) (cat_of rfl) (bX12_count_0_9 hn hX rfl ⟨by rw [hT.1.1], rfl⟩)) hI
end JP0
