/-! PLAN, 5: what the class gathers: needs, spare, shorts. -/
theorem sum_bd {F : Nat → Int32} {b : Nat} : ∀ {N : Nat}, (∀ m, m < N → ∃ k, k ≤ b ∧ F m = nI k) → ∃ k, k ≤ N * b ∧ sumTo F N = nI k
  | 0, _ => ⟨0, Nat.zero_le _, rfl⟩
  | N + 1, h => by
    obtain ⟨k, hk, e⟩ := sum_bd (N := N) (fun m hm => h m (Nat.lt_succ_of_lt hm))
    obtain ⟨k2, hk2, e2⟩ := h N (Nat.lt_succ_self N)
    refine ⟨k + k2, by rw [Nat.succ_mul]; omega, ?_⟩
    show sumTo F N + F N = _
    rw [e, e2, nI_add]
theorem sb_sb (x a b : Int32) : x - a - b = x - (a + b) := by
  rw [Int32.sub_eq_add_neg (x - a) b, Int32.sub_eq_add_neg x a, Int32.sub_eq_add_neg x (a + b), Int32.neg_add, Int32.sub_eq_add_neg (-a) b, Int32.add_assoc]
section PLG
variable {LR : LX → (Nat → Int32) → Prop} {g : GG} {d n F P : Nat} {X : LX} {st : Nat → Nat} {N0 : Nat → Nat → Nat} {post : Option Value → LX → Prop}
theorem grams_nat {m : Nat} (h : mealR X (X 134) m) {p : Nat} (hp : p < 14) : ∃ k, k ≤ 999 ∧ X (26 + 1 + m) p = nI k := by
  obtain ⟨k, q, hk, ek, h1, h2, h3⟩ := h
  by_cases c : ∃ t, t < k ∧ q t = p
  · obtain ⟨t, ht, e⟩ := c
    obtain ⟨-, -, -, a1, a2, a3⟩ := h1 t ht
    rw [e] at a3
    rw [a3]
    exact i_num (by omega) (Int32.le_trans (by decide) a1) a2
  · exact ⟨0, by omega, h3 p hp (fun t ht e => c ⟨t, ht, e⟩)⟩
theorem need_nat (hK : KR LR X (X 134)) {f p : Nat} {v : Int32} (hf : f < 12) (hlt : nI f < X 134 6) (hp : p < 14) : ∃ k, k ≤ 60000 ∧ cNeed X f v p = nI k := by
  obtain ⟨M, hM, e23, e5, eix, -⟩ := hK.meals
  obtain ⟨k1, hk1, e1⟩ := sum_bd (F := fun m => if nb v m then 0 else X (26 + 1 + m) p) (b := 999) (N := M) (fun m hm => by
    by_cases c : nb v m
    · exact ⟨0, by omega, if_pos c⟩
    · obtain ⟨k, hk, e⟩ := grams_nat (hK.2.2.2.1 m (by omega)).2.2.2 hp
      exact ⟨k, hk, by show (if nb v m then 0 else X (26 + 1 + m) p) = _; rw [if_neg c, e]⟩)
  obtain ⟨s, hs, es⟩ := (hK.2.2.2.2.2.2.2.1.2.2.2.1 f hf).1
  unfold cNeed
  rw [e23, ix_nI (by omega), e1, ((hK.2.2.2.2.1 f hf).1 hlt).2.1, es, pk_mul]
  have h1 : M * 999 ≤ 10 * 999 := Nat.mul_le_mul_right _ hM
  have h2 : k1 * s ≤ 9990 * 6 := Nat.mul_le_mul (by omega) hs
  exact ⟨k1 * s, by omega, rfl⟩
theorem stock_nat (hK : KR LR X (X 134)) {p : Int32} : ∃ k, k ≤ 4000000 ∧ mStock X p = nI k := by
  obtain ⟨-, -, -, -, -, -, ⟨L, hL, eL⟩⟩ := hK.1
  have hB6 := hK.2.2.2.2.2.2.2.1.2.2.2.2.2.1
  unfold mStock
  rw [eL, ix_nI (by omega)]
  obtain ⟨k, hk, e⟩ := sum_bd (F := fun l => if X 134 (628 + 5 * l + 0) = p then X 134 (628 + 5 * l + 3) else 0) (b := 99999) (N := L) (fun l hl => by
    by_cases c : X 134 (628 + 5 * l + 0) = p
    · obtain ⟨-, ⟨s, hs, es⟩, -⟩ := hB6 l (by omega)
      exact ⟨s, hs, by show (if X 134 (628 + 5 * l + 0) = p then X 134 (628 + 5 * l + 3) else 0) = _; rw [if_pos c, es]⟩
    · exact ⟨0, by omega, if_neg c⟩)
  have : L * 99999 ≤ 40 * 99999 := Nat.mul_le_mul_right _ hL
  exact ⟨k, by omega, e⟩
def Gb (n : Nat) (X Z : LX) : Prop := Sh n Z ∧ (∀ k, k ≤ 86 ∨ 102 ≤ k → Z k = X k) ∧ ∀ j, j ≠ 3 → Z 87 j = X 87 j
/-- what is given for the gathering -/
def Gi (X : LX) (F P : Nat) (st : Nat → Nat) (N0 : Nat → Nat → Nat) : Prop := (F ≤ 12 ∧ P ≤ 14) ∧ X 37 0 = nI F ∧ X 2 0 = nI P ∧ num X 23 0 10 ∧ num X 69 0 40 ∧ okK X ∧ (∀ p, p < P → st p < 2 ^ 29 ∧ cLeft X (nI p) = nI (st p)) ∧ Nb F P N0 ∧ ∀ f, f < F → ∀ p, p < P → cNeed X f (cBox X f) p = nI (N0 f p)
theorem Gb.s76 {Z : LX} (h : Gb n X Z) : same76 X Z := fun k _ h2 => h.2.1 k (by omega)
theorem Gb.left {Z : LX} (h : Gb n X Z) (p : Int32) : cLeft Z p = cLeft X p := by
  unfold cLeft
  rw [h.s76 69 (by omega) (by omega), h.s76 70 (by omega) (by omega), h.s76 73 (by omega) (by omega)]
theorem gn_3 (hn : 146 ≤ n) (hG : Gi X F P st N0) {t : Nat → Nat} (ht : ∀ p, p < P → t p < 2 ^ 30) (hp : ∀ Z, Gb n X Z → (∀ k, k ≠ 87 → True) → (∀ p, p < P → Z 101 p = nI (st p) - nI (t p)) → Z 87 3 = nI (cnS st t P) → (∀ f, f < F → ∀ p, p < P → Z (88 + 1 + f) p = nI (N0 f p)) → post none Z) : ∀ r, r ≤ P → ∀ Z, Gb n X Z → (∀ p, p < P → Z 101 p = nI (st p) - nI (t p)) → Z 87 3 = nI (cnS st t (P - r)) → (∀ f, f < F → ∀ p, p < P → Z (88 + 1 + f) p = nI (N0 f p)) → Ev g mX8_gatherNeeds d n n post n 134 [some (.ref 87), some (.int (nI (P - r))), none, none] [] Z := by
  obtain ⟨⟨gF, gP⟩, g37, g2, -, -, -, gs, -, -⟩ := id hG
  intro r
  induction r with
  | zero =>
    intro _ Z hZ h1 h2 h3
    exact bX8_gatherNeeds_134_2 hn hZ.1 (by rw [hZ.2.1 2 (by omega), g2, Nat.sub_zero]; exact Int32.le_refl _) (hp Z hZ (fun _ _ => trivial) h1 h2 h3)
  | succ r ih =>
    intro hr Z hZ h1 h2 h3
    have c0 : ¬ Z 2 0 ≤ nI (P - (r + 1)) := by rw [hZ.2.1 2 (by omega), g2]; exact nI_ge (by omega) (by omega)
    have en : nI (P - (r + 1)) + 1 = nI (P - r) := by rw [nI_1, show P - (r + 1) + 1 = P - r by omega]
    have hlt : P - (r + 1) < P := by omega
    have hsg := (gs _ hlt).1
    have hni := neg_iff (a := st (P - (r + 1))) (b := t (P - (r + 1))) (by omega) (ht _ hlt)
    have ecn : cnS st t (P - r) = cnS st t (P - (r + 1)) + (if st (P - (r + 1)) < t (P - (r + 1)) then 1 else 0) := by
      rw [show P - r = P - (r + 1) + 1 by omega]
      rfl
    by_cases c : st (P - (r + 1)) < t (P - (r + 1))
    · rw [if_pos c] at ecn
      refine bX8_gatherNeeds_134_0 hn hZ.1 c0 (by omega) (by rw [h1 _ hlt]; exact Int32.not_le.mpr (hni.mpr c)) ?_
      rw [en]
      refine ih (by omega) _ ⟨hZ.1.upF (by decide +kernel) (by decide +kernel), fun k hk => by rw [up_ne (by omega), hZ.2.1 k hk], fun j hj => by rw [up_at hj, hZ.2.2 j hj]⟩ (fun p hp => by rw [up_ne (by omega), h1 p hp]) (by rw [up_it, h2, nI_1, ecn]) (fun f hf p hp => by rw [up_ne (by omega), h3 f hf p hp])
    · rw [if_neg c] at ecn
      refine bX8_gatherNeeds_134_1 hn hZ.1 c0 (by omega) (by rw [h1 _ hlt]; exact Int32.not_lt.mp (fun w => c (hni.mp w))) ?_
      rw [en]
      exact ih (by omega) Z hZ h1 (by rw [h2, ecn]; rfl) h3
theorem gn_2i {f : Nat} (hd : 4 ≤ d) (hn : 146 ≤ n) (hG : Gi X F P st N0) (hf : f < F) (hk : ∀ Z, Gb n X Z → Z 87 3 = 0 → (∀ p, p < P → Z 101 p = nI (st p) - nI (nsum (fun f => N0 f p) (f + 1))) → (∀ f', f' < f + 1 → ∀ p, p < P → Z (88 + 1 + f') p = nI (N0 f' p)) → Ev g mX8_gatherNeeds d n n post n 46 [some (.ref 87), some (.int (nI (f + 1))), none, none] [] Z) : ∀ r, r ≤ P → ∀ Z, Gb n X Z → Z 87 3 = 0 → (∀ p, p < P - r → Z 101 p = nI (st p) - nI (nsum (fun f => N0 f p) (f + 1)) ∧ Z (88 + 1 + f) p = nI (N0 f p)) → (∀ p, P - r ≤ p → p < P → Z 101 p = nI (st p) - nI (nsum (fun f => N0 f p) f)) → (∀ f', f' < f → ∀ p, p < P → Z (88 + 1 + f') p = nI (N0 f' p)) → Ev g mX8_gatherNeeds d n n post n 71 [some (.ref 87), some (.int (nI f)), some (.int (cBox X f)), some (.int (nI (P - r)))] [] Z := by
  obtain ⟨⟨gF, gP⟩, g37, g2, g23, -, -, -, -, gN⟩ := id hG
  intro r
  induction r with
  | zero =>
    intro _ Z hZ h3 h1 h2 h4
    rw [Nat.sub_zero] at h1
    refine bX8_gatherNeeds_71_1 hn hZ.1 (by rw [hZ.2.1 2 (by omega), g2, Nat.sub_zero]; exact Int32.le_refl _) ?_
    rw [nI_1]
    refine hk Z hZ h3 (fun p hp => (h1 p hp).1) (fun f' hf' p hp => ?_)
    rcases Nat.lt_succ_iff_lt_or_eq.mp hf' with q | q
    · exact h4 f' q p hp
    · rw [q]; exact (h1 p hp).2
  | succ r ih =>
    intro hr Z hZ h3 h1 h2 h4
    obtain ⟨p0, ep⟩ : ∃ p0, p0 = P - (r + 1) := ⟨_, rfl⟩
    rw [← ep] at h1 h2 ⊢
    have hlt : p0 < P := by omega
    have ep1 : P - r = p0 + 1 := by omega
    have c0 : ¬ Z 2 0 ≤ nI p0 := by rw [hZ.2.1 2 (by omega), g2]; exact nI_ge (by omega) (by omega)
    have eN : cNeed Z f (cBox X f) p0 = nI (N0 f p0) := by rw [cNeed_cg hZ.s76 g23, gN f hf p0 hlt]
    refine bX8_gatherNeeds_71_0 (by omega) hn hZ.1 c0 (by omega) (by omega) (by omega) (by rw [num_cg (hZ.s76 23 (by omega) (by omega))]; exact g23) (by omega) ?_
    rw [eN, up_it, up_ne (by omega), h2 p0 (Nat.le_refl _) hlt, sb_sb, nI_add, nI_1, ← ep1]
    obtain ⟨Y, hY⟩ : ∃ Y : LX, Y = lx_up (lx_up Z (88 + 1 + f) p0 (nI (N0 f p0))) 101 p0 (nI (st p0) - nI (nsum (fun f => N0 f p0) f + N0 f p0)) := ⟨_, rfl⟩
    rw [← hY]
    have hYS : Sh n Y := by
      rw [hY]
      exact (Sh.upA hZ.1 (by rw [lyr_88 _ (by omega)]; exact (by decide : 0 < 2))).upA (by decide +kernel)
    have yk : ∀ k, k ≠ 101 → k ≠ 88 + 1 + f → Y k = Z k := fun k h1 h2 => by rw [hY, up_ne h1, up_ne h2]
    refine ih (by omega) Y ⟨hYS, fun k hk => by rw [yk k (by omega) (by omega), hZ.2.1 k hk], fun j hj => by rw [yk 87 (by omega) (by omega), hZ.2.2 j hj]⟩ (by rw [yk 87 (by omega) (by omega), h3]) (fun p hp => ?_) (fun p hp1 hp2 => ?_) (fun f' hf' p hp => ?_)
    · rw [ep1] at hp
      by_cases c : p = p0
      · subst c
        refine ⟨by rw [hY, up_it]; rfl, by rw [hY, up_ne (by omega), up_it]⟩
      · obtain ⟨k1, k2⟩ := h1 p (by omega)
        exact ⟨by rw [hY, up_at c, up_ne (by omega), k1], by rw [hY, up_ne (by omega), up_at c, k2]⟩
    · rw [hY, up_at (by omega), up_ne (by omega), h2 p (by omega) hp2]
    · rw [yk _ (by omega) (by omega), h4 f' hf' p hp]
theorem c_gatherNeeds (hd : 5 ≤ d) (hn : 146 ≤ n) (hX : Sh n X) (hG : Gi X F P st N0) : Ex g mX8_gatherNeeds d n n [.ref 87] X (fun v Z => v = none ∧ Gb n X Z ∧ Sp st P Z (tn F N0) ∧ ∀ f, f < F → ∀ p, p < P → Z (88 + 1 + f) p = nI (N0 f p)) := by
  obtain ⟨⟨gF, gP⟩, g37, g2, g23, g69, gk, gs, gNb, gN⟩ := id hG
  refine e_of vX8_gatherNeeds (Nat.le_of_ble_eq_true rfl) (cat_of rfl) (bX8_gatherNeeds_0_0 hn hX ?_)
  have l2 : ∀ r, r ≤ F → ∀ Z, Gb n X Z → Z 87 3 = 0 → (∀ p, p < P → Z 101 p = nI (st p) - nI (nsum (fun f => N0 f p) (F - r))) → (∀ f', f' < F - r → ∀ p, p < P → Z (88 + 1 + f') p = nI (N0 f' p)) → Ev g mX8_gatherNeeds d n n (fun v Z => v = none ∧ Gb n X Z ∧ Sp st P Z (tn F N0) ∧ ∀ f, f < F → ∀ p, p < P → Z (88 + 1 + f) p = nI (N0 f p)) n 46 [some (.ref 87), some (.int (nI (F - r))), none, none] [] Z := by
    intro r
    induction r with
    | zero =>
      intro _ Z hZ h3 h1 h4
      rw [Nat.sub_zero] at h1 h4 ⊢
      refine bX8_gatherNeeds_46_1 hn hZ.1 (by rw [hZ.2.1 37 (by omega), g37]; exact Int32.le_refl _) ?_
      have := gn_3 (g := g) (d := d) (t := tn F N0) (post := fun v Z => v = none ∧ Gb n X Z ∧ Sp st P Z (tn F N0) ∧ ∀ f, f < F → ∀ p, p < P → Z (88 + 1 + f) p = nI (N0 f p)) hn hG (fun p hp => by have := gNb.tnl gF hp; omega) (fun Z hZ _ q1 q2 q3 => ⟨rfl, hZ, ⟨q1, q2⟩, q3⟩) P (Nat.le_refl _) Z hZ h1 (by rw [h3, Nat.sub_self]; rfl) h4
      rw [Nat.sub_self] at this
      exact this
    | succ r ih =>
      intro hr Z hZ h3 h1 h4
      obtain ⟨f, ef⟩ : ∃ f, f = F - (r + 1) := ⟨_, rfl⟩
      rw [← ef] at h1 h4 ⊢
      have hf : f < F := by omega
      have ef1 : F - r = f + 1 := by omega
      rw [ef1] at ih
      refine bX8_gatherNeeds_46_0 (by omega) hn hZ.1 (by rw [hZ.2.1 37 (by omega), g37]; exact nI_ge (by omega) (by omega)) (by omega) (by rw [okK_cg hZ.s76]; exact gk) ?_
      rw [cBox_cg hZ.s76 g23 (by omega)]
      have := gn_2i (g := g) (post := fun v Z => v = none ∧ Gb n X Z ∧ Sp st P Z (tn F N0) ∧ ∀ f, f < F → ∀ p, p < P → Z (88 + 1 + f) p = nI (N0 f p)) (show 4 ≤ d by omega) hn hG hf (fun Z hZ q1 q2 q3 => ih (by omega) Z hZ q1 q2 q3) P (Nat.le_refl _) Z hZ h3 (fun p hp => by omega) (fun p _ hp => h1 p hp) h4
      rw [Nat.sub_self] at this
      exact this
  have l1 : ∀ r, r ≤ P → ∀ Z, Gb n X Z → Z 87 3 = 0 → (∀ p, p < P - r → Z 101 p = nI (st p)) → Ev g mX8_gatherNeeds d n n (fun v Z => v = none ∧ Gb n X Z ∧ Sp st P Z (tn F N0) ∧ ∀ f, f < F → ∀ p, p < P → Z (88 + 1 + f) p = nI (N0 f p)) n 7 [some (.ref 87), some (.int (nI (P - r))), none, none] [] Z := by
    intro r
    induction r with
    | zero =>
      intro _ Z hZ h3 h1
      rw [Nat.sub_zero] at h1
      refine bX8_gatherNeeds_7_1 hn hZ.1 (by rw [hZ.2.1 2 (by omega), g2, Nat.sub_zero]; exact Int32.le_refl _) ?_
      have := l2 F (Nat.le_refl _) Z hZ h3 (fun p hp => by
        rw [h1 p hp, Nat.sub_self]
        show nI (st p) = nI (st p) - nI 0
        rw [pk_sub (Nat.zero_le _), Nat.sub_zero]) (fun f' hf' => by omega)
      rw [Nat.sub_self] at this
      exact this
    | succ r ih =>
      intro hr Z hZ h3 h1
      obtain ⟨p0, ep⟩ : ∃ p0, p0 = P - (r + 1) := ⟨_, rfl⟩
      rw [← ep] at h1 ⊢
      have ep1 : P - r = p0 + 1 := by omega
      rw [ep1] at ih
      refine bX8_gatherNeeds_7_0 (by omega) hn hZ.1 (by rw [hZ.2.1 2 (by omega), g2]; exact nI_ge (by omega) (by omega)) (by rw [num_cg (hZ.s76 69 (by omega) (by omega))]; exact g69) (by omega) ?_
      rw [hZ.left, (gs p0 (by omega)).2, nI_1]
      refine ih (by omega) _ ⟨hZ.1.upA (by decide +kernel), fun k hk => by rw [up_ne (by omega), hZ.2.1 k hk], fun j hj => by rw [up_ne (by omega), hZ.2.2 j hj]⟩ (by rw [up_ne (by omega), h3]) (fun p hp => ?_)
      by_cases c : p = p0
      · rw [c, up_it]
      · rw [up_at c, h1 p (by omega)]
  have := l1 P (Nat.le_refl _) (lx_up X 87 3 0) ⟨hX.upF (by decide +kernel) (by decide +kernel), fun k hk => by rw [up_ne (by omega)], fun j hj => by rw [up_at hj]⟩ up_it (fun p hp => by omega)
  rw [Nat.sub_self] at this
  exact this
end PLG
