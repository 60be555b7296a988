/-! THE CALLS, 19: recall, end. -/
/-- what is left of a lot is thrown: the class's cells, the model's row -/
def thC (X : LX) (l : Nat) : LX := lx_up (lx_up X 76 (ix (X 70 l)) (X 76 (ix (X 70 l)) + X 73 l)) 73 l 0
def thM (A : Nat → Int32) (l : Nat) : Nat → Int32 := upd (upd A (10 + 8 * ix (A (628 + 5 * l + 0)) + 7) (A (10 + 8 * ix (A (628 + 5 * l + 0)) + 7) + A (628 + 5 * l + 3))) (628 + 5 * l + 3) 0
/-- what a throw keeps alike -/
def RTh (C : LX) (A : Nat → Int32) : Prop := (∀ i, i < 14 → C 76 i = A (10 + 8 * i + 7)) ∧ (∀ q, q < 40 → C 73 q = A (628 + 5 * q + 3)) ∧ ∀ q, q < 40 → ∃ s, s ≤ 99999 ∧ A (628 + 5 * q + 3) = nI s
theorem thC_o {X : LX} {l k : Nat} (h : k ≠ 73 ∧ k ≠ 76) : thC X l k = X k := by unfold thC; rw [up_ne h.1, up_ne h.2]
theorem thM_o {A : Nat → Int32} {l t : Nat} (h : (t < 10 ∨ 122 ≤ t ∨ (t - 10) % 8 ≠ 7) ∧ (t < 628 ∨ 828 ≤ t ∨ (t - 628) % 5 ≠ 3)) (hl : l < 40) (hq : ix (A (628 + 5 * l + 0)) < 14) : thM A l t = A t := by
  unfold thM
  rw [pk_un (by omega), pk_un (by omega)]
theorem th_rel {C : LX} {A : Nat → Int32} {l p : Nat} (hl : l < 40) (hp : p < 14) (e : A (628 + 5 * l + 0) = nI p) (e2 : C 70 l = A (628 + 5 * l + 0)) (h : RTh C A) : RTh (thC C l) (thM A l) := by
  obtain ⟨h1, h2, h3⟩ := h
  have ec : ix (C 70 l) = p := by rw [e2, e, ix_nI (by omega)]
  have em : ix (A (628 + 5 * l + 0)) = p := by rw [e, ix_nI (by omega)]
  unfold thC thM
  rw [ec, em]
  refine ⟨fun i hi => ?_, fun q hq => ?_, fun q hq => ?_⟩
  · rw [up_ne (by omega), pk_un (by omega)]
    by_cases z : i = p
    · subst z
      rw [up_it, pk_us, h1 i hi, h2 l hl]
    · rw [up_at z, pk_un (by omega), h1 i hi]
  · by_cases z : q = l
    · subst z
      rw [up_it, pk_us]
    · rw [up_at z, up_ne (by omega), pk_un (by omega), pk_un (by omega), h2 q hq]
  · by_cases z : q = l
    · subst z
      rw [pk_us]; exact ⟨0, by omega, rfl⟩
    · rw [pk_un (by omega), pk_un (by omega)]; exact h3 q hq
section THROW
variable {LR : LX → (Nat → Int32) → Prop} {g : GG} {d n : Nat} {X : LX} {post : Option Value → LX → Prop}
theorem Sh.th {l : Nat} (hX : Sh n X) : Sh n (thC X l) := (hX.upA (by decide +kernel)).upA (by decide +kernel)
theorem c_X4_throwLeft {l p : Nat} (hn : 146 ≤ n) (hX : Sh n X) (hl : l < 40) (hp : p < 14) (e : X 70 l = nI p) : Ex g mX4_throwLeft d n n [.ref 69, .int (nI l)] X (rv (thC X l)) :=
  e_of vX4_throwLeft (Nat.le_of_ble_eq_true rfl) (cat_of rfl) (bX4_throwLeft_0_0 hn hX hl e hp ⟨rfl, by unfold thC; rw [e, ix_nI (by omega)]⟩)
theorem c_X12_throwLeft {l p : Nat} (hd : 1 ≤ d) (hn : 146 ≤ n) (hX : Sh n X) (hl : l < 40) (hp : p < 14) (e : X 134 (628 + 5 * l + 0) = nI p) : Ex g mX12_throwLeft d n n [.ref 133, .int (nI l)] X (rv (lx_row X 134 (thM (X 134) l))) :=
  e_of vX12_throwLeft (Nat.le_of_ble_eq_true rfl) (cat_of rfl) (bX12_throwLeft_0_0 hd hn hX (by omega) e (by omega) (by omega) ⟨rfl, by
    unfold thM
    rw [e, ix_nI (by omega), lx_up_row, lx_up_row]
    funext a
    by_cases z : a = 134
    · subst z; rw [lx_row_self, lx_row_self, lx_row_self]
    · rw [lx_row_ne _ _ _ z, lx_row_ne _ _ _ z, lx_row_ne _ _ _ z]⟩)
/-- the kitchens behind throws -/
theorem KR.thr (hL : LRok LR) (hK : KR LR X (X 134)) {Y : LX} (fC : ∀ k, k ≠ 134 ∧ k ≠ 73 ∧ k ≠ 76 ∧ k < 124 → Y k = X k) (fA : ∀ t, (t < 10 ∨ 122 ≤ t ∨ (t - 10) % 8 ≠ 7) ∧ (t < 628 ∨ 828 ≤ t ∨ (t - 628) % 5 ≠ 3) → Y 134 t = X 134 t) (hR : RTh Y (Y 134)) : KR LR Y (Y 134) := by
  obtain ⟨k1, k2, k3, k4, k5, k6, k7, ⟨b1, b2, b3, b4, b5, b6, b7⟩, k8⟩ := hK
  have hle : ix (X 134 5) ≤ ix (Y 134 5) := by rw [fA 5 (by omega)]; exact Nat.le_refl _
  refine ⟨k1.fr ⟨by rw [fC 1 (by omega)], by rw [fC 1 (by omega)], by rw [fC 1 (by omega)], by rw [fC 1 (by omega)], by rw [fC 2 (by omega)], by rw [fC 23 (by omega)], by rw [fC 37 (by omega)], by rw [fC 69 (by omega)]⟩ (fun t _ => fA t (by omega)), fun i hi => ?_, k3.fr (fun k _ _ => fC k (by omega)) (fun t _ _ => fA t (by omega)), k4.fr (fun k _ _ => fC k (by omega)) (fA 4 (by omega)) (fun t _ _ => fA t (by omega)),
    k5.fr (fun k _ _ => fC k (by omega)) (fA 6 (by omega)) (fun t _ _ => fA t (by omega)), k6.fr (fun k _ _ => fC k (by omega)) (fun t _ _ => fA t (by omega)), fun l hl => ?_,
    ⟨fun p hp => by rw [fA (10 + 8 * p + 2) (by omega), fA (10 + 8 * p + 0) (by omega)]; exact b1 p hp, b2.fr (fun t _ _ => fA t (by omega)), b3.fr (fun t _ _ => fA t (by omega)), b4.fr hle (fun f _ t _ => fA _ (by omega)), b5.fr hle (fun t _ _ => fA t (by omega)), fun l hl => ?_, b7.fr (fA 7 (by omega)) (fun p _ => fA _ (by omega)) (fun l _ => ⟨fA _ (by omega), fA _ (by omega)⟩)⟩, hL _ _ _ _ (fun k _ _ => fC k (by omega)) (fA 2 (by omega)) (fun t _ _ => fA t (by omega)) k8⟩
  · obtain ⟨s1, s2, s3, s4, s5, s6, s7⟩ := k2 i hi
    rw [fC 3 (by omega), fC 4 (by omega), fC 5 (by omega), fC 6 (by omega), fC 7 (by omega), fC 75 (by omega), fA (10 + 8 * i + 0) (by omega), fA (10 + 8 * i + 1) (by omega), fA (10 + 8 * i + 2) (by omega), fA (10 + 8 * i + 3) (by omega), fA (10 + 8 * i + 4) (by omega), fA (10 + 8 * i + 6) (by omega)]
    exact ⟨s1, s2, s3, s4, s5, s6, hR.1 i hi⟩
  · obtain ⟨s1, s2, s3, s4, s5⟩ := k7 l hl
    rw [fC 70 (by omega), fC 71 (by omega), fC 72 (by omega), fC 74 (by omega), fA (628 + 5 * l + 0) (by omega), fA (628 + 5 * l + 1) (by omega), fA (628 + 5 * l + 2) (by omega), fA (628 + 5 * l + 4) (by omega)]
    exact ⟨s1, s2, s3, hR.2.1 l hl, s5⟩
  · obtain ⟨s1, s2, s3⟩ := b6 l hl
    rw [fA (628 + 5 * l + 0) (by omega), fA (628 + 5 * l + 4) (by omega), fA 7 (by omega)]
    exact ⟨s1, hR.2.2 l hl, s3⟩
theorem KR.rth (hK : KR LR X (X 134)) : RTh X (X 134) := ⟨fun i hi => (hK.2.1 i hi).2.2.2.2.2.2, fun q hq => (hK.2.2.2.2.2.2.1 q hq).2.2.2.1, fun q hq => (hK.2.2.2.2.2.2.2.1.2.2.2.2.2.1 q hq).2.1⟩
theorem jp_recall (hL : LRok LR) {a : Int32} (hn : 146 ≤ n) (hn2 : n ≤ 226) (hI : Iv LR n X) : JP g (Iv LR) mX11_recall mX12_recall [.int a] n X := by
  obtain ⟨hX, hK, hT, hB⟩ := id hI
  obtain ⟨⟨-, -, -, -, -, -, -, e7⟩, -, -, -, -, -, ⟨L, hLn, eL⟩⟩ := hK.1
  have i1 := cnt_iff (x := X 69 0) (v := a) (c := L) (by omega) (e7.trans eL)
  by_cases h : 0 ≤ a ∧ a < X 69 0
  · have hm1 := i1.mp h
    rw [e7] at hm1
    obtain ⟨l, hl, rfl⟩ := cnt_num (by omega) (e7.trans eL) h
    obtain ⟨r0, -, -, -, r4⟩ := hK.2.2.2.2.2.2.1 l (by omega)
    obtain ⟨⟨p, hp, ep⟩, -⟩ := hK.2.2.2.2.2.2.2.1.2.2.2.2.2.1 l (by omega)
    have x134 : thC X l 134 = X 134 := thC_o (by omega)
    have hS1 : Sh n (thC X l) := hX.th
    have hS2 : Sh n (lx_row (thC X l) 134 (thM (X 134) l)) := hS1.row (by decide +kernel)
    have hq : ix (X 134 (628 + 5 * l + 0)) < 14 := by rw [ep, ix_nI (by omega)]; omega
    refine jp_of (r := X 74 l) (X1 := thC X l) (X2 := lx_row (thC X l) 134 (thM (X 134) l)) hn hn2 (e_of vX11_recall (Nat.le_of_ble_eq_true rfl) (cat_of rfl) (bX11_recall_0_0 (Nat.le_of_ble_eq_true rfl) hn hX h (qX11_recall_25 (d' := 100) (rest := []) hn (by omega) (by decide) (c_X4_throwLeft hn hX (by omega) (by omega) (r0.trans ep)) (fun v Z hv => ?_)))) (e_of vX12_recall (Nat.le_of_ble_eq_true rfl) (cat_of rfl) (bX12_recall_0_0 (Nat.le_of_ble_eq_true rfl) hn hS1 (by rw [x134]; exact hm1) (qX12_recall_22 (d' := 100) (rest := []) hn (by omega) (by decide) (c_X12_throwLeft (by omega) hn hS1 (by omega) (show p < 14 by omega) (by rw [x134, ep])) (fun v Z hv => ?_)))) ?_
    · obtain ⟨rfl, rfl⟩ := hv
      exact bX11_recall_28_0 hn hS1 (by omega) ⟨by rw [thC_o (by omega)], rfl⟩
    · obtain ⟨rfl, rfl⟩ := hv
      rw [x134]
      refine bX12_recall_25_0 (Nat.le_of_ble_eq_true rfl) hn hS2 (by omega) ⟨?_, rfl⟩
      rw [lx_row_self, thM_o (by omega) (by omega) hq, r4]
    · have fC : ∀ k, k ≠ 134 ∧ k ≠ 73 ∧ k ≠ 76 → lx_row (thC X l) 134 (thM (X 134) l) k = X k := fun k w => by rw [lx_row_ne _ _ _ w.1, thC_o w.2]
      refine iv_now hL hI hS2 (hK.thr hL (fun k w => fC k (by omega)) (fun t w => by rw [lx_row_self, thM_o w (by omega) hq]) ?_) (hT.fr ⟨by rw [fC 81 (by omega)], by rw [fC 133 (by omega)], by rw [fC 0 (by omega)], by rw [fC 133 (by omega)]⟩ (fun k _ => fC k (by omega))) (by rw [fC 0 (by omega)]) (by rw [fC 133 (by omega)]) (fun k _ => fC k (by omega)) (fC 135 (by omega))
      have w := th_rel (C := X) (A := X 134) (l := l) (p := p) (by omega) (by omega) ep r0 hK.rth
      unfold RTh at w ⊢
      rw [lx_row_self, lx_row_ne _ _ _ (by omega), lx_row_ne _ _ _ (by omega)]
      exact w
  · have hm1 := fun w => h (i1.mpr w)
    rw [e7] at hm1
    exact jp_of hn hn2 (e_of vX11_recall (Nat.le_of_ble_eq_true rfl) (cat_of rfl) (bX11_recall_0_1 (Nat.le_of_ble_eq_true rfl) hn hX h ⟨rfl, rfl⟩)) (e_of vX12_recall (Nat.le_of_ble_eq_true rfl) (cat_of rfl) (bX12_recall_0_1 (Nat.le_of_ble_eq_true rfl) hn hX hm1 ⟨rfl, rfl⟩)) hI
end THROW
