/-! THE CALLS, 16: lay. -/
abbrev lk9 (x : Int32) : Prop := 0 ≤ x ∧ x ≤ 9
/-- likes out of a sheet's first i places -/
def layR (r s : Nat → Int32) (b i : Nat) : Nat → Int32 := fun t => if b ≤ t ∧ t < b + i ∧ lk9 (s (t - b)) then s (t - b) else r t
theorem layR_0 (r s : Nat → Int32) (b : Nat) : layR r s b 0 = r := by funext t; unfold layR; rw [if_neg (fun w => by omega)]
theorem layR_s {r s : Nat → Int32} {b i : Nat} (h : lk9 (s i)) : upd (layR r s b i) (b + i) (s i) = layR r s b (i + 1) := by
  funext t
  unfold upd layR
  by_cases e : t = b + i
  · subst e
    rw [if_pos rfl, Nat.add_sub_cancel_left, if_pos ⟨by omega, by omega, h⟩]
  · rw [if_neg e]
    by_cases q : b ≤ t ∧ t < b + i ∧ lk9 (s (t - b))
    · rw [if_pos q, if_pos ⟨q.1, by omega, q.2.2⟩]
    · rw [if_neg q, if_neg (fun w => q ⟨w.1, by omega, w.2.2⟩)]
theorem layR_n {r s : Nat → Int32} {b i : Nat} (h : ¬ lk9 (s i)) : layR r s b (i + 1) = layR r s b i := by
  funext t
  unfold layR
  by_cases q : b ≤ t ∧ t < b + i ∧ lk9 (s (t - b))
  · rw [if_pos q, if_pos ⟨q.1, by omega, q.2.2⟩]
  · rw [if_neg q, if_neg (fun w => ?_)]
    by_cases e : t = b + i
    · subst e
      rw [Nat.add_sub_cancel_left] at w
      exact h w.2.2
    · exact q ⟨w.1, by omega, w.2.2⟩
theorem layR_o {r s : Nat → Int32} {b i t : Nat} (h : t < b ∨ b + i ≤ t) : layR r s b i t = r t := by unfold layR; rw [if_neg (fun w => by omega)]
theorem R5.lik {C C' : LX} {A A' : Nat → Int32} (h : R5 C A) {f : Nat} (hf : nI f < A 6) (hf2 : f < 12) (hC : ∀ k, 38 ≤ k → k ≤ 55 → k ≠ 43 + 1 + f → C' k = C k) (h6 : A' 6 = A 6) (hA : ∀ j, 448 ≤ j → j < 628 → (j < 448 + 15 * f + 5 ∨ 448 + 15 * f + 15 ≤ j) → A' j = A j) (hm : ∀ m, m < 10 → C' (43 + 1 + f) m = A' (448 + 15 * f + (5 + m))) : R5 C' A' := by
  intro q hq
  obtain ⟨s1, s2⟩ := h q hq
  rw [h6, hC 38 (by omega) (by omega) (by omega), hC 39 (by omega) (by omega) (by omega), hC 40 (by omega) (by omega) (by omega), hC 41 (by omega) (by omega) (by omega), hC 42 (by omega) (by omega) (by omega), hA (448 + 15 * q + 0) (by omega) (by omega) (by omega), hA (448 + 15 * q + 1) (by omega) (by omega) (by omega), hA (448 + 15 * q + 2) (by omega) (by omega) (by omega), hA (448 + 15 * q + 3) (by omega) (by omega) (by omega), hA (448 + 15 * q + 4) (by omega) (by omega) (by omega)]
  by_cases e : q = f
  · subst e
    refine ⟨fun w => ?_, fun w => absurd hf w⟩
    obtain ⟨a, b, c, d, e, g⟩ := s1 w
    exact ⟨a, b, c, d, e, hm⟩
  · rw [hC (43 + 1 + q) (by omega) (by omega) (by omega)]
    refine ⟨fun w => ?_, s2⟩
    obtain ⟨a, b, c, d, e, g⟩ := s1 w
    exact ⟨a, b, c, d, e, fun t ht => by rw [hA _ (by omega) (by omega) (by omega)]; exact g t ht⟩
section LAY
variable {LR : LX → (Nat → Int32) → Prop} {g : GG} {d n : Nat} {X : LX} {post : Option Value → LX → Prop}
theorem c_lay {f q K : Nat} (hd : 2 ≤ d) (hn : 146 ≤ n) (hX : Sh n X) (hf : f < 12) (hq : q < 2) (hK : K ≤ 10) (hp : post (some (.int (sumTo (fun t => if lk9 (X (128 + 1 + q) t) then 1 else 0) K))) (lx_row X (43 + 1 + f) (layR (X (43 + 1 + f)) (X (128 + 1 + q)) 0 K))) : Ev g mX11_lay d n n post n 71 [some (.ref 0), some (.int (nI f)), some (.int (nI q)), some (.int (nI K)), some (.int 0), some (.int 0), none] [] X := by
  have hly : (LY (43 + 1 + f)).1 < 2 := by rw [lyr_43 f (by omega)]; exact (by decide : 0 < 2)
  have loop : ∀ i, i ≤ K → Ev g mX11_lay d n n post n 71 [some (.ref 0), some (.int (nI f)), some (.int (nI q)), some (.int (nI K)), some (.int (sumTo (fun t => if lk9 (X (128 + 1 + q) t) then 1 else 0) i)), some (.int (nI i)), none] [] (lx_row X (43 + 1 + f) (layR (X (43 + 1 + f)) (X (128 + 1 + q)) 0 i)) := by
    have e : ∀ i, lx_row X (43 + 1 + f) (layR (X (43 + 1 + f)) (X (128 + 1 + q)) 0 i) (128 + 1 + q) = X (128 + 1 + q) := fun i => lx_row_ne _ _ _ (by omega)
    refine down ?_ ?_
    · exact bX11_lay_71_2 hn (hX.row hly) (nI_le (by omega) (by omega)) hp
    · intro i hi k
      rw [show nI (i + 1) = nI i + 1 from (nI_1 i).symm] at k
      by_cases c : lk9 (X (128 + 1 + q) i)
      · rw [show sumTo (fun t => if lk9 (X (128 + 1 + q) t) then (1 : Int32) else 0) (i + 1) = sumTo (fun t => if lk9 (X (128 + 1 + q) t) then (1 : Int32) else 0) i + 1 by simp only [sumTo, if_pos c], ← layR_s c, ← lx_row_up, Nat.zero_add] at k
        exact bX11_lay_71_0 hd hn (hX.row hly) (nI_ge hi (by omega)) hq (by omega) (by rw [e]; exact c) hf (by omega) (by rw [e]; exact k)
      · rw [show sumTo (fun t => if lk9 (X (128 + 1 + q) t) then (1 : Int32) else 0) (i + 1) = sumTo (fun t => if lk9 (X (128 + 1 + q) t) then (1 : Int32) else 0) i by simp only [sumTo, if_neg c, Int32.add_zero], layR_n c] at k
        exact bX11_lay_71_1 hd hn (hX.row hly) (nI_ge hi (by omega)) hq (by omega) (by rw [e]; exact c) k
  have h := loop 0 (by omega)
  rw [layR_0, lx_row_id] at h
  exact h
theorem m_lay {f q K M P : Nat} (hd : 1 ≤ d) (hn : 146 ≤ n) (hX : Sh n X) (hf : f < 12) (hq : q < 2) (hM : M ≤ 10) (hP : P ≤ 16) (eM : X 134 5 = nI M) (eP : X 138 q = nI P) (eK : K = if P < M then P else M) (hp : post (some (.int (sumTo (fun t => if lk9 (X 139 (16 * q + t)) then 1 else 0) K))) (lx_row X 134 (layR (X 134) (fun t => X 139 (16 * q + t)) (448 + 15 * f + 5) K))) : Ev g mX12_lay d n n post n 37 [some (.ref 133), some (.int (nI f)), some (.int (nI q)), some (.int 0), some (.int 0), none] [] X := by
  have hK : K ≤ M ∧ K ≤ P ∧ (K = M ∨ K = P) := by rw [eK]; split <;> omega
  have loop : ∀ i, i ≤ K → Ev g mX12_lay d n n post n 37 [some (.ref 133), some (.int (nI f)), some (.int (nI q)), some (.int (sumTo (fun t => if lk9 (X 139 (16 * q + t)) then 1 else 0) i)), some (.int (nI i)), none] [] (lx_row X 134 (layR (X 134) (fun t => X 139 (16 * q + t)) (448 + 15 * f + 5) i)) := by
    have e : ∀ i k, k ≠ 134 → lx_row X 134 (layR (X 134) (fun t => X 139 (16 * q + t)) (448 + 15 * f + 5) i) k = X k := fun i k hk => lx_row_ne _ _ _ hk
    have e5 : ∀ i, lx_row X 134 (layR (X 134) (fun t => X 139 (16 * q + t)) (448 + 15 * f + 5) i) 134 5 = nI M := fun i => by rw [lx_row_self, layR_o (by omega), eM]
    refine down ?_ ?_
    · by_cases z : K = M
      · exact bX12_lay_37_3 hn (hX.row (by decide +kernel)) (by rw [e5]; exact nI_le (by omega) (by omega)) hp
      · exact bX12_lay_37_2 hn (hX.row (by decide +kernel)) (by rw [e5]; exact nI_ge (by omega) (by omega)) hq (by rw [e _ 138 (by omega), eP]; exact nI_le (by omega) (by omega)) hp
    · intro i hi k
      rw [show nI (i + 1) = nI i + 1 from (nI_1 i).symm] at k
      by_cases c : lk9 (X 139 (16 * q + i))
      · rw [show sumTo (fun t => if lk9 (X 139 (16 * q + t)) then (1 : Int32) else 0) (i + 1) = sumTo (fun t => if lk9 (X 139 (16 * q + t)) then (1 : Int32) else 0) i + 1 by simp only [sumTo, if_pos c], ← layR_s (s := fun t => X 139 (16 * q + t)) c, ← lx_row_up, show 448 + 15 * f + 5 + i = 448 + 15 * f + (5 + i) by omega] at k
        have k2 : Ev g mX12_lay d n n post n 37 [some (.ref 133), some (.int (nI f)), some (.int (nI q)), some (.int (sumTo (fun t => if lk9 (X 139 (16 * q + t)) then 1 else 0) i + 1)), some (.int (nI i + 1)), none] [] (lx_up (lx_row X 134 (layR (X 134) (fun t => X 139 (16 * q + t)) (448 + 15 * f + 5) i)) 134 (448 + 15 * f + (5 + i)) (lx_row X 134 (layR (X 134) (fun t => X 139 (16 * q + t)) (448 + 15 * f + 5) i) 139 (16 * q + i))) := by
          rw [e i 139 (by omega)]; exact k
        exact bX12_lay_37_0 hd hn (hX.row (by decide +kernel)) (by rw [e5]; exact nI_ge (by omega) (by omega)) hq (by rw [e _ 138 (by omega), eP]; exact nI_ge (by omega) (by omega)) (by omega) (by rw [e _ 139 (by omega)]; exact c) (by omega) k2
      · rw [show sumTo (fun t => if lk9 (X 139 (16 * q + t)) then (1 : Int32) else 0) (i + 1) = sumTo (fun t => if lk9 (X 139 (16 * q + t)) then (1 : Int32) else 0) i by simp only [sumTo, if_neg c, Int32.add_zero], layR_n (s := fun t => X 139 (16 * q + t)) c] at k
        exact bX12_lay_37_1 hd hn (hX.row (by decide +kernel)) (by rw [e5]; exact nI_ge (by omega) (by omega)) hq (by rw [e _ 138 (by omega), eP]; exact nI_ge (by omega) (by omega)) (by omega) (by rw [e _ 139 (by omega)]; exact c) k
  have h := loop 0 (by omega)
  rw [layR_0, lx_row_id] at h
  exact h
theorem jp_lay (hL : LRok LR) {a b : Int32} (hn : 146 ≤ n) (hn2 : n ≤ 226) (hI : Iv LR n X) : JP g (Iv LR) mX11_lay mX12_lay [.int a, .int b] n X := by
  obtain ⟨hX, hK, hT, hB⟩ := id hI
  obtain ⟨⟨-, -, -, -, -, -, e6, -⟩, -, -, -, -, ⟨cf, hcf, ef⟩, -⟩ := hK.1
  obtain ⟨M, hM, e23, e5, eix, -⟩ := hK.meals
  have i1 := cnt_iff (x := X 37 0) (v := a) (c := cf) (by omega) (e6.trans ef)
  have i2 : (0 ≤ b ∧ b < 2) ↔ (0 ≤ b ∧ b ≤ 1) := cnt_iff (x := 2) (c := 2) (by omega) rfl
  by_cases h : 0 ≤ a ∧ a < X 37 0
  · have hm1 := i1.mp h
    rw [e6] at hm1
    by_cases h' : 0 ≤ b ∧ b < 2
    · have hm2 := i2.mp h'
      obtain ⟨q, hq, rfl⟩ := cnt_num (x := 2) (c := 2) (by omega) rfl h'
      obtain ⟨u1, u2, u3⟩ := hT.2.2 q hq
      rcases u2 with u2 | ⟨P, hP, u2⟩
      · exact jp_of hn hn2 (e_of vX11_lay (Nat.le_of_ble_eq_true rfl) (cat_of rfl) (bX11_lay_0_0 (Nat.le_of_ble_eq_true rfl) hn hX h h' hq (by rw [u1, u2]; decide) ⟨rfl, rfl⟩)) (e_of vX12_lay (Nat.le_of_ble_eq_true rfl) (cat_of rfl) (bX12_lay_0_0 (Nat.le_of_ble_eq_true rfl) hn hX hm1 hm2 hq (by rw [u2]; decide) ⟨rfl, rfl⟩)) hI
      · obtain ⟨f, hf, rfl⟩ := cnt_num (by omega) (e6.trans ef) h
        have hlt : nI f < X 134 6 := by rw [ef, nI_lt_iff (by omega) (by omega)]; exact hf
        have p1 : ¬ X 131 q < 0 := by rw [u1, u2]; exact nI_pos (by omega)
        have p2 : 0 ≤ X 138 q := by rw [u2]; exact nI_pos' (by omega)
        obtain ⟨K, eK⟩ : ∃ K, K = if P < M then P else M := ⟨_, rfl⟩
        have hKM : K ≤ M ∧ K ≤ P := by rw [eK]; split <;> omega
        have eKi : (if X 131 q < X 23 0 then X 131 q else X 23 0) = nI K := by
          rw [u1, u2, e23, eK]
          by_cases z : P < M
          · rw [if_pos z, if_pos (nI_lt z (by omega))]
          · rw [if_neg z, if_neg (nI_nlt (by omega) (by omega))]
        obtain ⟨X1, hX1⟩ : ∃ Y : LX, Y = lx_row X (43 + 1 + f) (layR (X (43 + 1 + f)) (X (128 + 1 + q)) 0 K) := ⟨_, rfl⟩
        have hS1 : Sh n X1 := by rw [hX1]; exact hX.row (by rw [lyr_43 f (by omega)]; exact (by decide : 0 < 2))
        have x1 : ∀ k, k ≠ 43 + 1 + f → X1 k = X k := fun k hk => by rw [hX1, lx_row_ne _ _ _ hk]
        have hsum : sumTo (fun t => if lk9 (X (128 + 1 + q) t) then (1 : Int32) else 0) K = sumTo (fun t => if lk9 (X1 139 (16 * q + t)) then 1 else 0) K := sum_cg (fun t ht => by rw [x1 139 (by omega), (u3 t (by omega)).1])
        obtain ⟨Y, hY⟩ : ∃ Y : LX, Y = lx_row X1 134 (layR (X1 134) (fun t => X1 139 (16 * q + t)) (448 + 15 * f + 5) K) := ⟨_, rfl⟩
        have hSY : Sh n Y := by rw [hY]; exact hS1.row (by decide +kernel)
        refine jp_of (X1 := X1) (X2 := Y) hn hn2 (e_of vX11_lay (Nat.le_of_ble_eq_true rfl) (cat_of rfl) (bX11_lay_0_1 (Nat.le_of_ble_eq_true rfl) hn hX h h' hq p1 hq (by rw [eKi]; exact c_lay (Nat.le_of_ble_eq_true rfl) hn hX (by omega) hq (by omega) ⟨rfl, hX1.symm⟩))) (e_of vX12_lay (Nat.le_of_ble_eq_true rfl) (cat_of rfl) (bX12_lay_0_1 (Nat.le_of_ble_eq_true rfl) hn hS1 (by rw [x1 134 (by omega)]; exact hm1) hm2 hq (by rw [x1 138 (by omega)]; exact p2) (m_lay (K := K) (M := M) (P := P) (Nat.le_of_ble_eq_true rfl) hn hS1 (by omega) hq hM hP (by rw [x1 134 (by omega), e5]) (by rw [x1 138 (by omega), u2]) eK ⟨by rw [hsum], hY.symm⟩))) ?_
        have fC : ∀ k, k ≠ 134 ∧ k ≠ 43 + 1 + f → Y k = X k := fun k w => by rw [hY, lx_row_ne _ _ _ w.1, x1 k w.2]
        have fA : ∀ t, t < 448 + 15 * f + 5 ∨ 448 + 15 * f + 15 ≤ t → Y 134 t = X 134 t := fun t w => by rw [hY, lx_row_self, layR_o (by omega), x1 134 (by omega)]
        have yl : ∀ m, m < 10 → Y (43 + 1 + f) m = Y 134 (448 + 15 * f + (5 + m)) := fun m hm => by
          have w := ((hK.2.2.2.2.1 f (by omega)).1 hlt).2.2.2.2.2 m hm
          rw [hY, lx_row_self, lx_row_ne _ _ _ (by omega), hX1, lx_row_self, lx_row_ne _ _ _ (by omega), lx_row_ne _ _ _ (by omega)]
          unfold layR
          rw [show 448 + 15 * f + (5 + m) - (448 + 15 * f + 5) = m by omega, Nat.sub_zero]
          by_cases z : m < K
          · rw [(u3 m (by omega)).1]
            by_cases c : lk9 (X 139 (16 * q + m))
            · rw [if_pos ⟨by omega, by omega, c⟩, if_pos ⟨by omega, by omega, c⟩]
            · rw [if_neg (fun w => c w.2.2), if_neg (fun w => c w.2.2)]
              exact w
          · rw [if_neg (fun w => by omega), if_neg (fun w => by omega)]
            exact w
        refine iv_now hL hI hSY (hK.fr5 hL (fun k _ _ _ => fC k (by omega)) (fun t _ _ => fA t (by omega)) (hK.2.2.2.2.1.lik hlt (by omega) (fun k _ _ hk => fC k (by omega)) (fA 6 (by omega)) (fun t _ _ w => fA t w) yl) (hK.2.2.2.2.2.2.2.1.2.2.2.1.fr (by rw [fA 5 (by omega)]; exact Nat.le_refl _) (fun p _ t _ => fA _ (by omega))))
          (hT.fr ⟨by rw [fC 81 (by omega)], by rw [fC 133 (by omega)], by rw [fC 0 (by omega)], by rw [fC 133 (by omega)]⟩ (fun k _ => fC k (by omega))) (by rw [fC 0 (by omega)]) (by rw [fC 133 (by omega)]) (fun k _ => fC k (by omega)) (fC 135 (by omega))
    · exact jp_of hn hn2 (e_of vX11_lay (Nat.le_of_ble_eq_true rfl) (cat_of rfl) (bX11_lay_0_2 (Nat.le_of_ble_eq_true rfl) hn hX h h' ⟨rfl, rfl⟩)) (e_of vX12_lay (Nat.le_of_ble_eq_true rfl) (cat_of rfl) (bX12_lay_0_2 (Nat.le_of_ble_eq_true rfl) hn hX hm1 (fun w => h' (i2.mpr w)) ⟨rfl, rfl⟩)) hI
  · have hm1 := fun w => h (i1.mpr w)
    rw [e6] at hm1
    exact jp_of hn hn2 (e_of vX11_lay (Nat.le_of_ble_eq_true rfl) (cat_of rfl) (bX11_lay_0_3 (Nat.le_of_ble_eq_true rfl) hn hX h ⟨rfl, rfl⟩)) (e_of vX12_lay (Nat.le_of_ble_eq_true rfl) (cat_of rfl) (bX12_lay_0_3 (Nat.le_of_ble_eq_true rfl) hn hX hm1 ⟨rfl, rfl⟩)) hI
end LAY
