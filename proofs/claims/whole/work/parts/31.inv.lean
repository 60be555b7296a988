/-! THE INVARIANT between the class's cells C (C k = the kitchen's cell k) and the model's row A, by regions. LR: the two laws' codes (a relation that looks at C 77 .. 80, A 2 and A 2028 .. alone). -/
/-- counts and small numbers -/
def R1 (C : LX) (A : Nat → Int32) : Prop := (C 1 5 = A 0 ∧ C 1 7 = A 1 ∧ C 1 8 = A 3 ∧ C 1 6 = A 8 ∧ C 2 0 = A 4 ∧ C 23 0 = A 5 ∧ C 37 0 = A 6 ∧ C 69 0 = A 7) ∧ (∃ a, a ≤ 99 ∧ A 0 = nI a) ∧ (A 3 = 0 ∨ A 3 = 1) ∧ (∃ a, a ≤ 14 ∧ A 4 = nI a) ∧ (∃ a, a ≤ 10 ∧ A 5 = nI a ∧ ∃ b, b < 2 ^ a ∧ A 8 = nI b) ∧ (∃ a, a ≤ 12 ∧ A 6 = nI a) ∧ (∃ a, a ≤ 40 ∧ A 7 = nI a)
/-- parts -/
def R2 (C : LX) (A : Nat → Int32) : Prop := ∀ i, i < 14 → C 3 i = A (10 + 8 * i + 0) ∧ C 5 i = A (10 + 8 * i + 1) ∧ C 6 i = A (10 + 8 * i + 2) ∧ C 4 i = A (10 + 8 * i + 3) ∧ C 7 i = A (10 + 8 * i + 4) ∧ C 75 i = A (10 + 8 * i + 6) ∧ C 76 i = A (10 + 8 * i + 7)
/-- how unlike two parts are -/
def R3 (C : LX) (A : Nat → Int32) : Prop := ∀ i, i < 14 → ∀ j, j < 14 → C (8 + 1 + i) j = A (122 + 14 * i + j)
/-- lots -/
def R7 (C : LX) (A : Nat → Int32) : Prop := ∀ l, l < 40 → C 70 l = A (628 + 5 * l + 0) ∧ C 71 l = A (628 + 5 * l + 1) ∧ C 72 l = A (628 + 5 * l + 2) ∧ C 73 l = A (628 + 5 * l + 3) ∧ C 74 l = A (628 + 5 * l + 4)
/-- boxes of the weeks -/
def R6 (C : LX) (A : Nat → Int32) : Prop := ∀ f, f < 12 → ∀ w, w < 100 → C (56 + 1 + f) w = A (828 + 12 * w + f)
theorem ri_1 : R1 XI (XI 134) := ⟨by decide +kernel, ⟨0, by decide, by decide +kernel⟩, by decide +kernel, ⟨0, by decide, by decide +kernel⟩, ⟨0, by decide, by decide +kernel, 0, by decide, by decide +kernel⟩, ⟨0, by decide, by decide +kernel⟩, ⟨0, by decide, by decide +kernel⟩⟩
theorem ri_2 : R2 XI (XI 134) := by unfold R2; decide +kernel
theorem ri_3 : R3 XI (XI 134) := by unfold R3; decide +kernel
theorem ri_7 : R7 XI (XI 134) := by unfold R7; decide +kernel
theorem ri_6 : R6 XI (XI 134) := by unfold R6; decide +kernel
/-- frames: a region stays where its cells stay -/
theorem R1.fr {C C' : LX} {A A' : Nat → Int32} (h : R1 C A) (h1 : C' 1 5 = C 1 5 ∧ C' 1 6 = C 1 6 ∧ C' 1 7 = C 1 7 ∧ C' 1 8 = C 1 8 ∧ C' 2 0 = C 2 0 ∧ C' 23 0 = C 23 0 ∧ C' 37 0 = C 37 0 ∧ C' 69 0 = C 69 0) (hA : ∀ j, j < 10 → A' j = A j) : R1 C' A' := by
  obtain ⟨e5, e6, e7, e8, f2, f23, f37, f69⟩ := h1
  unfold R1
  rw [e5, e6, e7, e8, f2, f23, f37, f69, hA 0 (by omega), hA 1 (by omega), hA 3 (by omega), hA 8 (by omega), hA 4 (by omega), hA 5 (by omega), hA 6 (by omega), hA 7 (by omega)]
  exact h
theorem R2.fr {C C' : LX} {A A' : Nat → Int32} (h : R2 C A) (hC : ∀ k, (3 ≤ k ∧ k ≤ 7) ∨ k = 75 ∨ k = 76 → C' k = C k) (hA : ∀ j, 10 ≤ j → j < 122 → A' j = A j) : R2 C' A' := by
  intro i hi
  rw [hC 3 (by omega), hC 4 (by omega), hC 5 (by omega), hC 6 (by omega), hC 7 (by omega), hC 75 (by omega), hC 76 (by omega), hA _ (by omega) (by omega), hA _ (by omega) (by omega), hA _ (by omega) (by omega), hA _ (by omega) (by omega), hA _ (by omega) (by omega), hA _ (by omega) (by omega), hA _ (by omega) (by omega)]
  exact h i hi
theorem R3.fr {C C' : LX} {A A' : Nat → Int32} (h : R3 C A) (hC : ∀ k, 9 ≤ k → k ≤ 22 → C' k = C k) (hA : ∀ j, 122 ≤ j → j < 318 → A' j = A j) : R3 C' A' := by
  intro i hi j hj
  rw [hC _ (by omega) (by omega), hA _ (by omega) (by omega)]
  exact h i hi j hj
theorem R7.fr {C C' : LX} {A A' : Nat → Int32} (h : R7 C A) (hC : ∀ k, 70 ≤ k → k ≤ 74 → C' k = C k) (hA : ∀ j, 628 ≤ j → j < 828 → A' j = A j) : R7 C' A' := by
  intro l hl
  rw [hC 70 (by omega) (by omega), hC 71 (by omega) (by omega), hC 72 (by omega) (by omega), hC 73 (by omega) (by omega), hC 74 (by omega) (by omega), hA _ (by omega) (by omega), hA _ (by omega) (by omega), hA _ (by omega) (by omega), hA _ (by omega) (by omega), hA _ (by omega) (by omega)]
  exact h l hl
theorem R6.fr {C C' : LX} {A A' : Nat → Int32} (h : R6 C A) (hC : ∀ k, 57 ≤ k → k ≤ 68 → C' k = C k) (hA : ∀ j, 828 ≤ j → j < 2028 → A' j = A j) : R6 C' A' := by
  intro f hf w hw
  rw [hC _ (by omega) (by omega), hA _ (by omega) (by omega)]
  exact h f hf w hw
/-- a meal's parts: the class's row of grams against the model's list -/
def mealR (C : LX) (A : Nat → Int32) (m : Nat) : Prop := ∃ (k : Nat) (q : Nat → Nat), k ≤ 5 ∧ A (318 + 13 * m + 2) = nI k ∧ (∀ t, t < k → A (318 + 13 * m + (3 + t)) = nI (q t) ∧ q t < 14 ∧ nI (q t) < A 4 ∧ 1 ≤ A (318 + 13 * m + (8 + t)) ∧ A (318 + 13 * m + (8 + t)) ≤ 999 ∧ C (26 + 1 + m) (q t) = A (318 + 13 * m + (8 + t))) ∧ (∀ s t, s < k → t < k → q s = q t → s = t) ∧ ∀ p, p < 14 → (∀ t, t < k → q t ≠ p) → C (26 + 1 + m) p = 0
def R4 (C : LX) (A : Nat → Int32) : Prop := ∀ m, m < 10 → C 24 m = A (318 + 13 * m + 0) ∧ C 25 m = A (318 + 13 * m + 1) ∧ A (318 + 13 * m + 0) ≤ 3 ∧ mealR C A m
/-- families: those that are there, and those still to come -/
def R5 (C : LX) (A : Nat → Int32) : Prop := ∀ f, f < 12 → (nI f < A 6 → C 38 f = A (448 + 15 * f + 0) ∧ C 39 f = A (448 + 15 * f + 1) ∧ C 40 f = A (448 + 15 * f + 2) ∧ C 41 f = A (448 + 15 * f + 3) ∧ C 42 f = A (448 + 15 * f + 4) ∧ ∀ m, m < 10 → C (43 + 1 + f) m = A (448 + 15 * f + (5 + m))) ∧ (¬ nI f < A 6 → C 42 f = 0 ∧ ∀ m, m < 10 → C (43 + 1 + f) m = 5)
theorem ri_4 : R4 XI (XI 134) := by
  have h : ∀ m, m < 10 → XI 24 m = XI 134 (318 + 13 * m + 0) ∧ XI 25 m = XI 134 (318 + 13 * m + 1) ∧ XI 134 (318 + 13 * m + 0) ≤ 3 ∧ XI 134 (318 + 13 * m + 2) = nI 0 ∧ ∀ p, p < 14 → XI (26 + 1 + m) p = 0 := by decide +kernel
  intro m hm
  obtain ⟨a, b, a3, c, d⟩ := h m hm
  exact ⟨a, b, a3, 0, fun _ => 0, by omega, c, fun t ht => absurd ht (Nat.not_lt_zero _), fun s t hs => absurd hs (Nat.not_lt_zero _), fun p hp _ => d p hp⟩
theorem ri_5 : R5 XI (XI 134) := by unfold R5; decide +kernel
/-- tape, waiting words, sheets -/
def RT (X : LX) : Prop := (X 81 1 = X 133 4 ∧ (∃ a, a ≤ 120 ∧ X 133 4 = nI a) ∧ ∀ i, i < 120 → X 82 i = X 136 i ∧ 0 ≤ X 136 i ∧ X 136 i ≤ 255) ∧ (X 0 7 = X 133 6 ∧ (∃ a, a ≤ 36 ∧ X 133 6 = nI a) ∧ ∀ i, i < 36 → X 132 i = X 137 i) ∧ ∀ s, s < 2 → X 131 s = X 138 s ∧ (X 138 s = -1 ∨ ∃ a, a ≤ 16 ∧ X 138 s = nI a) ∧ ∀ i, i < 16 → X (128 + 1 + s) i = X 139 (16 * s + i) ∧ (X 139 (16 * s + i)).toInt16.toInt32 = X 139 (16 * s + i)
theorem ri_T : RT XI := by
  refine ⟨⟨by decide +kernel, ⟨0, by decide, by decide +kernel⟩, by decide +kernel⟩, ⟨by decide +kernel, ⟨0, by decide, by decide +kernel⟩, by decide +kernel⟩, ?_⟩
  have h : ∀ s, s < 2 → XI 131 s = XI 138 s ∧ XI 138 s = -1 ∧ ∀ i, i < 16 → XI (128 + 1 + s) i = XI 139 (16 * s + i) ∧ (XI 139 (16 * s + i)).toInt16.toInt32 = XI 139 (16 * s + i) := by decide +kernel
  intro s hs
  exact ⟨(h s hs).1, Or.inl (h s hs).2.1, (h s hs).2.2⟩
/-- bounds of the model's row, and what came of each part -/
def B1 (A : Nat → Int32) : Prop := ∀ p, p < 14 → (∃ s, s ≤ 3 ∧ A (10 + 8 * p + 2) = nI s) ∧ ∃ a, a ≤ 255 ∧ A (10 + 8 * p + 0) = nI a
def B2 (A : Nat → Int32) : Prop := ∀ i, i < 14 → ∀ j, j < 14 → ∃ u, u ≤ 99 ∧ A (122 + 14 * i + j) = nI u
def B3 (A : Nat → Int32) : Prop := ∀ m, m < 10 → ∃ t, t ≤ 15 ∧ A (318 + 13 * m + 1) = nI t
def B4 (A : Nat → Int32) : Prop := ∀ f, f < 12 → (∃ s, s ≤ 6 ∧ A (448 + 15 * f + 1) = nI s) ∧ (A (448 + 15 * f + 4) = -1 ∨ ∃ b, b < 2 ^ ix (A 5) ∧ A (448 + 15 * f + 4) = nI b)
def B5 (A : Nat → Int32) : Prop := ∀ f, f < 12 → ∀ w, w < 100 → ∃ b, b < 2 ^ ix (A 5) ∧ A (828 + 12 * w + f) = nI b
def B6 (A : Nat → Int32) : Prop := ∀ l, l < 40 → (∃ p, p ≤ 13 ∧ A (628 + 5 * l + 0) = nI p) ∧ (∃ s, s ≤ 99999 ∧ A (628 + 5 * l + 3) = nI s) ∧ (¬ nI l < A 7 → A (628 + 5 * l + 4) = 0)
def B7 (A : Nat → Int32) : Prop := ∃ a, a ≤ 40 ∧ A 7 = nI a ∧ ∀ p, p < 14 → A (10 + 8 * p + 5) = sumTo (fun l => if A (628 + 5 * l + 0) = nI p then A (628 + 5 * l + 1) else 0) a
def RB (A : Nat → Int32) : Prop := B1 A ∧ B2 A ∧ B3 A ∧ B4 A ∧ B5 A ∧ B6 A ∧ B7 A
theorem B1.fr {A A' : Nat → Int32} (h : B1 A) (hA : ∀ j, 10 ≤ j → j < 122 → A' j = A j) : B1 A' := fun p hp => by
  rw [hA (10 + 8 * p + 2) (by omega) (by omega), hA (10 + 8 * p + 0) (by omega) (by omega)]; exact h p hp
theorem B2.fr {A A' : Nat → Int32} (h : B2 A) (hA : ∀ j, 122 ≤ j → j < 318 → A' j = A j) : B2 A' := fun i hi j hj => by
  rw [hA _ (by omega) (by omega)]; exact h i hi j hj
theorem B3.fr {A A' : Nat → Int32} (h : B3 A) (hA : ∀ j, 318 ≤ j → j < 448 → A' j = A j) : B3 A' := fun m hm => by
  rw [hA _ (by omega) (by omega)]; exact h m hm
theorem B4.fr {A A' : Nat → Int32} (h : B4 A) (h5 : ix (A 5) ≤ ix (A' 5)) (hA : ∀ f, f < 12 → ∀ t, t = 1 ∨ t = 4 → A' (448 + 15 * f + t) = A (448 + 15 * f + t)) : B4 A' := fun f hf => by
  rw [hA f hf 1 (by omega), hA f hf 4 (by omega)]
  refine ⟨(h f hf).1, ?_⟩
  rcases (h f hf).2 with q | ⟨b, hb, e⟩
  · exact Or.inl q
  · exact Or.inr ⟨b, Nat.lt_of_lt_of_le hb (Nat.pow_le_pow_right (by omega) h5), e⟩
theorem B5.fr {A A' : Nat → Int32} (h : B5 A) (h5 : ix (A 5) ≤ ix (A' 5)) (hA : ∀ j, 828 ≤ j → j < 2028 → A' j = A j) : B5 A' := fun f hf w hw => by
  rw [hA (828 + 12 * w + f) (by omega) (by omega)]
  obtain ⟨b, hb, e⟩ := h f hf w hw
  exact ⟨b, Nat.lt_of_lt_of_le hb (Nat.pow_le_pow_right (by omega) h5), e⟩
theorem B6.fr {A A' : Nat → Int32} (h : B6 A) (h7 : A' 7 = A 7) (hA : ∀ j, 628 ≤ j → j < 828 → A' j = A j) : B6 A' := fun l hl => by
  rw [h7, hA _ (by omega) (by omega), hA _ (by omega) (by omega), hA _ (by omega) (by omega)]; exact h l hl
theorem sum_cg0 {F G : Nat → Int32} : ∀ {N : Nat}, (∀ p, p < N → F p = G p) → sumTo F N = sumTo G N
  | 0, _ => rfl
  | N + 1, h => by
    show sumTo F N + F N = sumTo G N + G N
    rw [sum_cg0 (fun p hp => h p (Nat.lt_succ_of_lt hp)), h N (Nat.lt_succ_self N)]
theorem B7.fr {A A' : Nat → Int32} (h : B7 A) (h7 : A' 7 = A 7) (hp : ∀ p, p < 14 → A' (10 + 8 * p + 5) = A (10 + 8 * p + 5)) (hA : ∀ l, l < 40 → A' (628 + 5 * l + 0) = A (628 + 5 * l + 0) ∧ A' (628 + 5 * l + 1) = A (628 + 5 * l + 1)) : B7 A' := by
  obtain ⟨a, ha, e, h1⟩ := h
  refine ⟨a, ha, h7.trans e, fun p hq => ?_⟩
  rw [hp p hq, h1 p hq]
  refine sum_cg0 (fun l hl => ?_)
  rw [(hA l (by omega)).1, (hA l (by omega)).2]
theorem RB.fr {A A' : Nat → Int32} (h : RB A) (h5 : A' 5 = A 5) (h7 : A' 7 = A 7) (hA : ∀ j, 10 ≤ j → j < 2028 → A' j = A j) : RB A' :=
  ⟨h.1.fr (fun j _ _ => hA j (by omega) (by omega)), h.2.1.fr (fun j _ _ => hA j (by omega) (by omega)), h.2.2.1.fr (fun j _ _ => hA j (by omega) (by omega)), h.2.2.2.1.fr (by rw [h5]; exact Nat.le_refl _) (fun f _ t _ => hA _ (by omega) (by omega)), h.2.2.2.2.1.fr (by rw [h5]; exact Nat.le_refl _) (fun j _ _ => hA j (by omega) (by omega)), h.2.2.2.2.2.1.fr h7 (fun j _ _ => hA j (by omega) (by omega)), h.2.2.2.2.2.2.fr h7 (fun p _ => hA _ (by omega) (by omega)) (fun l _ => ⟨hA _ (by omega) (by omega), hA _ (by omega) (by omega)⟩)⟩
theorem ri_B : RB (XI 134) := by
  have h1 : ∀ p, p < 14 → XI 134 (10 + 8 * p + 2) = nI 0 ∧ XI 134 (10 + 8 * p + 5) = 0 ∧ XI 134 (10 + 8 * p + 0) = nI 0 := by decide +kernel
  have h2 : ∀ i, i < 14 → ∀ j, j < 14 → XI 134 (122 + 14 * i + j) = nI 50 := by decide +kernel
  have h3 : ∀ m, m < 10 → XI 134 (318 + 13 * m + 1) = nI 0 := by decide +kernel
  have h4 : ∀ f, f < 12 → XI 134 (448 + 15 * f + 1) = nI 0 ∧ XI 134 (448 + 15 * f + 4) = nI 0 := by decide +kernel
  have h5 : ∀ f, f < 12 → ∀ w, w < 100 → XI 134 (828 + 12 * w + f) = nI 0 := by decide +kernel
  have h6 : ∀ l, l < 40 → XI 134 (628 + 5 * l + 0) = nI 0 ∧ XI 134 (628 + 5 * l + 3) = nI 0 ∧ XI 134 (628 + 5 * l + 4) = 0 := by decide +kernel
  exact ⟨fun p hp => ⟨⟨0, by omega, (h1 p hp).1⟩, ⟨0, by omega, (h1 p hp).2.2⟩⟩, fun i hi j hj => ⟨50, by omega, h2 i hi j hj⟩, fun m hm => ⟨0, by omega, h3 m hm⟩, fun f hf => ⟨⟨0, by omega, (h4 f hf).1⟩, Or.inr ⟨0, Nat.pow_pos (by omega), (h4 f hf).2⟩⟩, fun f hf w hw => ⟨0, Nat.pow_pos (by omega), h5 f hf w hw⟩, fun l hl => ⟨⟨0, by omega, (h6 l hl).1⟩, ⟨0, by omega, (h6 l hl).2.1⟩, fun _ => (h6 l hl).2.2⟩, 0, by omega, by decide +kernel, fun p hp => (h1 p hp).2.1⟩
/-- the shifts' loads are nought between calls -/
def LZ (X : LX) : Prop := ∀ s, s < 2 → ∀ i, i < 4 → X (124 + 1 + s) i = 0
theorem ri_L : LZ XI := by unfold LZ; decide +kernel
/-- the two kitchens, but for the laws' codes -/
def KR (LR : LX → (Nat → Int32) → Prop) (C : LX) (A : Nat → Int32) : Prop := R1 C A ∧ R2 C A ∧ R3 C A ∧ R4 C A ∧ R5 C A ∧ R6 C A ∧ R7 C A ∧ RB A ∧ LR C A
/-- the invariant: the kitchens of now, tape and sheets, and the images where one was kept -/
def Iv (LR : LX → (Nat → Int32) → Prop) (n : Nat) (X : LX) : Prop := Sh n X ∧ KR LR X (X 134) ∧ RT X ∧ ((n = 146 ∧ X 0 8 = 0 ∧ X 133 2 = 0) ∨ (n = 226 ∧ X 0 8 = rE 146 ∧ X 133 2 = 1 ∧ KR LR (fun k => X (k + 145)) (X 135))) ∧ LZ X
theorem iv_0 {LR : LX → (Nat → Int32) → Prop} (h : LR XI (XI 134)) : Iv LR 146 XI := ⟨sh_I, ⟨ri_1, ri_2, ri_3, ri_4, ri_5, ri_6, ri_7, ri_B, h⟩, ri_T, Or.inl ⟨rfl, by decide +kernel, by decide +kernel⟩, ri_L⟩
theorem R4.fr {C C' : LX} {A A' : Nat → Int32} (h : R4 C A) (hC : ∀ k, 24 ≤ k → k ≤ 36 → C' k = C k) (h4 : A' 4 = A 4) (hA : ∀ j, 318 ≤ j → j < 448 → A' j = A j) : R4 C' A' := by
  intro m hm
  obtain ⟨a, b, a3, k, q, h1, h2, h3, h5, h6⟩ := h m hm
  refine ⟨?_, ?_, by rw [hA _ (by omega) (by omega)]; exact a3, k, q, h1, ?_, fun t ht => ?_, h5, fun p hp hq => ?_⟩
  · rw [hC 24 (by omega) (by omega), hA _ (by omega) (by omega)]; exact a
  · rw [hC 25 (by omega) (by omega), hA _ (by omega) (by omega)]; exact b
  · rw [hA _ (by omega) (by omega)]; exact h2
  · rw [hC _ (by omega) (by omega), hA (318 + 13 * m + (3 + t)) (by omega) (by omega), hA (318 + 13 * m + (8 + t)) (by omega) (by omega), h4]
    exact h3 t ht
  · rw [hC _ (by omega) (by omega)]; exact h6 p hp hq
theorem R5.fr {C C' : LX} {A A' : Nat → Int32} (h : R5 C A) (hC : ∀ k, 38 ≤ k → k ≤ 55 → C' k = C k) (h6 : A' 6 = A 6) (hA : ∀ j, 448 ≤ j → j < 628 → A' j = A j) : R5 C' A' := by
  intro f hf
  rw [h6, hC 38 (by omega) (by omega), hC 39 (by omega) (by omega), hC 40 (by omega) (by omega), hC 41 (by omega) (by omega), hC 42 (by omega) (by omega), hC (43 + 1 + f) (by omega) (by omega), hA (448 + 15 * f + 0) (by omega) (by omega), hA (448 + 15 * f + 1) (by omega) (by omega), hA (448 + 15 * f + 2) (by omega) (by omega), hA (448 + 15 * f + 3) (by omega) (by omega), hA (448 + 15 * f + 4) (by omega) (by omega)]
  refine ⟨fun q => ?_, (h f hf).2⟩
  obtain ⟨a, b, c, d, e, g⟩ := (h f hf).1 q
  exact ⟨a, b, c, d, e, fun m hm => by rw [hA _ (by omega) (by omega)]; exact g m hm⟩
