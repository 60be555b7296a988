/-! THE CALLS, 26: keep. -/
/-- a relation of codes by what it reads, number by number -/
def LRpt (LR : LX → (Nat → Int32) → Prop) : Prop := ∀ (C C' : LX) (A A' : Nat → Int32), (∀ t, t = 0 ∨ t = 1 ∨ t = 2 → C' 77 t = C 77 t) → (∀ j, j < 120 → C' 78 j = C 78 j) → A' 2 = A 2 → (∀ j, 2028 ≤ j → j < 2156 → A' j = A j) → LR C A → LR C' A'
/-- and what it says at least -/
def LRbd (LR : LX → (Nat → Int32) → Prop) : Prop := ∀ (C : LX) (A : Nat → Int32), LR C A → (C 77 0 = 0 ∨ C 77 0 = 1) ∧ ∃ y z, y ≤ z ∧ z ≤ 120 ∧ C 77 1 = nI z ∧ C 77 2 = nI y
/-- two kitchens, number by number -/
def Pt (C C' : LX) : Prop := (∀ t, t = 5 ∨ t = 6 ∨ t = 7 ∨ t = 8 → C' 1 t = C 1 t) ∧ (C' 2 0 = C 2 0 ∧ C' 23 0 = C 23 0 ∧ C' 37 0 = C 37 0 ∧ C' 69 0 = C 69 0) ∧ (∀ k, 3 ≤ k → k ≤ 7 → ∀ j, j < 14 → C' k j = C k j) ∧ (∀ i, i < 14 → ∀ j, j < 14 → C' (8 + 1 + i) j = C (8 + 1 + i) j) ∧ (∀ k, 24 ≤ k → k ≤ 25 → ∀ j, j < 10 → C' k j = C k j) ∧ (∀ i, i < 10 → ∀ j, j < 14 → C' (26 + 1 + i) j = C (26 + 1 + i) j) ∧ (∀ k, 38 ≤ k → k ≤ 42 → ∀ j, j < 12 → C' k j = C k j) ∧ (∀ i, i < 12 → ∀ j, j < 10 → C' (43 + 1 + i) j = C (43 + 1 + i) j) ∧ (∀ i, i < 12 → ∀ j, j < 100 → C' (56 + 1 + i) j = C (56 + 1 + i) j) ∧ (∀ k, 70 ≤ k → k ≤ 74 → ∀ j, j < 40 → C' k j = C k j) ∧ (∀ k, 75 ≤ k → k ≤ 76 → ∀ j, j < 14 → C' k j = C k j) ∧ (∀ t, t = 0 ∨ t = 1 ∨ t = 2 → C' 77 t = C 77 t) ∧ ∀ j, j < 120 → C' 78 j = C 78 j
theorem KR.pt {LR : LX → (Nat → Int32) → Prop} (hp : LRpt LR) {C C' : LX} {A A' : Nat → Int32} (h : KR LR C A) (hC : Pt C C') (hA : ∀ j, j < 2156 → A' j = A j) : KR LR C' A' := by
  obtain ⟨k1, k2, k3, k4, k5, k6, k7, kb, k8⟩ := h
  obtain ⟨p1, ⟨p2, p23, p37, p69⟩, pa, p8, pm, p26, pf, p43, p56, pl, pt, p77, p78⟩ := hC
  refine ⟨k1.fr ⟨p1 5 (by omega), p1 6 (by omega), p1 7 (by omega), p1 8 (by omega), p2, p23, p37, p69⟩ (fun j hj => hA j (by omega)), fun i hi => ?_, fun i hi j hj => ?_, fun m hm => ?_, fun f hf => ?_, fun f hf w hw => ?_, fun l hl => ?_, kb.fr (hA 5 (by omega)) (hA 7 (by omega)) (fun j _ hj => hA j (by omega)), hp _ _ _ _ p77 p78 (hA 2 (by omega)) (fun j _ hj => hA j hj) k8⟩
  · rw [pa 3 (by omega) (by omega) i hi, pa 4 (by omega) (by omega) i hi, pa 5 (by omega) (by omega) i hi, pa 6 (by omega) (by omega) i hi, pa 7 (by omega) (by omega) i hi, pt 75 (by omega) (by omega) i hi, pt 76 (by omega) (by omega) i hi, hA _ (by omega), hA _ (by omega), hA _ (by omega), hA _ (by omega), hA _ (by omega), hA _ (by omega), hA _ (by omega)]
    exact k2 i hi
  · rw [p8 i hi j hj, hA _ (by omega)]
    exact k3 i hi j hj
  · obtain ⟨a, b, a3, k, q, h1, h2, h3, h5, h6⟩ := k4 m hm
    refine ⟨?_, ?_, by rw [hA _ (by omega)]; exact a3, k, q, h1, ?_, fun t ht => ?_, h5, fun p hp2 hq => ?_⟩
    · rw [pm 24 (by omega) (by omega) m hm, hA _ (by omega)]; exact a
    · rw [pm 25 (by omega) (by omega) m hm, hA _ (by omega)]; exact b
    · rw [hA _ (by omega)]; exact h2
    · have hq := (h3 t ht).2.1
      rw [p26 m hm (q t) hq, hA (318 + 13 * m + (3 + t)) (by omega), hA (318 + 13 * m + (8 + t)) (by omega), hA 4 (by omega)]
      exact h3 t ht
    · rw [p26 m hm p hp2]; exact h6 p hp2 hq
  · obtain ⟨s1, s2⟩ := k5 f hf
    rw [hA 6 (by omega), pf 38 (by omega) (by omega) f hf, pf 39 (by omega) (by omega) f hf, pf 40 (by omega) (by omega) f hf, pf 41 (by omega) (by omega) f hf, pf 42 (by omega) (by omega) f hf, hA (448 + 15 * f + 0) (by omega), hA (448 + 15 * f + 1) (by omega), hA (448 + 15 * f + 2) (by omega), hA (448 + 15 * f + 3) (by omega), hA (448 + 15 * f + 4) (by omega)]
    refine ⟨fun w => ?_, fun w => ⟨(s2 w).1, fun m hm => by rw [p43 f hf m hm]; exact (s2 w).2 m hm⟩⟩
    obtain ⟨a, b, c, d, e, g⟩ := s1 w
    exact ⟨a, b, c, d, e, fun m hm => by rw [p43 f hf m hm, hA _ (by omega)]; exact g m hm⟩
  · rw [p56 f hf w hw, hA _ (by omega)]
    exact k6 f hf w hw
  · rw [pl 70 (by omega) (by omega) l hl, pl 71 (by omega) (by omega) l hl, pl 72 (by omega) (by omega) l hl, pl 73 (by omega) (by omega) l hl, pl 74 (by omega) (by omega) l hl, hA _ (by omega), hA _ (by omega), hA _ (by omega), hA _ (by omega), hA _ (by omega)]
    exact k7 l hl
theorem pt_A {n : Nat} {X Z : LX} (h : X1PA n X Z) : Pt X (fun k => Z (k + 145)) := by
  obtain ⟨-, -, p1, ⟨p2, p23, p37, p69⟩, pa, p8, pm, p26, pf, p43, p56, pl, pt, p77, p78⟩ := h
  refine ⟨p1, ⟨p2, p23, p37, p69⟩, pa, fun i hi j hj => ?_, pm, fun i hi j hj => ?_, pf, fun i hi j hj => ?_, fun i hi j hj => ?_, pl, pt, p77, p78⟩
  · show Z (8 + 1 + i + 145) j = _
    rw [show 8 + 1 + i + 145 = 153 + 1 + i by omega]; exact p8 i hi j hj
  · show Z (26 + 1 + i + 145) j = _
    rw [show 26 + 1 + i + 145 = 171 + 1 + i by omega]; exact p26 i hi j hj
  · show Z (43 + 1 + i + 145) j = _
    rw [show 43 + 1 + i + 145 = 188 + 1 + i by omega]; exact p43 i hi j hj
  · show Z (56 + 1 + i + 145) j = _
    rw [show 56 + 1 + i + 145 = 201 + 1 + i by omega]; exact p56 i hi j hj
theorem pt_B {n : Nat} {X Z : LX} (h : X1PB n X Z) : Pt (fun k => X (k + 145)) Z := by
  obtain ⟨-, -, p1, ⟨p2, p23, p37, p69⟩, pa, p8, pm, p26, pf, p43, p56, pl, pt, p77, p78⟩ := h
  refine ⟨p1, ⟨p2, p23, p37, p69⟩, pa, fun i hi j hj => ?_, pm, fun i hi j hj => ?_, pf, fun i hi j hj => ?_, fun i hi j hj => ?_, pl, pt, p77, p78⟩
  · show _ = X (8 + 1 + i + 145) j
    rw [show 8 + 1 + i + 145 = 153 + 1 + i by omega]; exact p8 i hi j hj
  · show _ = X (26 + 1 + i + 145) j
    rw [show 26 + 1 + i + 145 = 171 + 1 + i by omega]; exact p26 i hi j hj
  · show _ = X (43 + 1 + i + 145) j
    rw [show 43 + 1 + i + 145 = 188 + 1 + i by omega]; exact p43 i hi j hj
  · show _ = X (56 + 1 + i + 145) j
    rw [show 56 + 1 + i + 145 = 201 + 1 + i by omega]; exact p56 i hi j hj
