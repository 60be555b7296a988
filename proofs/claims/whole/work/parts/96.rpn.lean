/-! LAW, 1: the law's code by tokens (kind, number): 0 a value, 1 a name, 2 not, 3 a sign; both encodings; the relation; its worth. -/
def sgn : Nat → Int32
  | 0 => 124
  | 1 => 38
  | 2 => 60
  | 3 => 61
  | 4 => 62
  | 5 => 43
  | 6 => 45
  | 7 => 42
  | _ => 47
def jn : Nat → Int32 → Int32 → Int32
  | 0, a, b => if a = 0 then (if b = 0 then 0 else 1) else 1
  | 1, a, b => if a = 0 then 0 else (if b = 0 then 0 else 1)
  | 2, a, b => if b ≤ a then 0 else 1
  | 3, a, b => if a = b then 1 else 0
  | 4, a, b => if a ≤ b then 0 else 1
  | 5, a, b => a + b
  | 6, a, b => a - b
  | 7, a, b => a * b
  | _, a, b => if b = 0 then 0 else a / b
def cTk (t : Nat × Nat) : Int32 := if t.1 = 0 then nI t.2 else if t.1 = 1 then -1000 - nI t.2 else if t.1 = 2 then -33 else -sgn t.2
def mTk (t : Nat × Nat) : Int32 := if t.1 = 0 then nI t.2 else if t.1 = 1 then nI (100000 + t.2) else if t.1 = 2 then nI 200009 else nI (200000 + t.2)
def okTk (N : Nat) (t : Nat × Nat) : Prop := (t.1 = 0 ∧ t.2 < 100000) ∨ (t.1 = 1 ∧ t.2 < N) ∨ t.1 = 2 ∨ (t.1 = 3 ∧ t.2 < 9)
/-- well formed: with h values at hand it ends with one -/
def wf (N : Nat) : List (Nat × Nat) → Nat → Prop
  | [], h => h = 1
  | t :: l, h => okTk N t ∧ (if t.1 = 2 then 1 ≤ h ∧ wf N l h else if t.1 = 3 then 2 ≤ h ∧ wf N l (h - 1) else wf N l (h + 1))
theorem wf_s (N : Nat) (t : Nat × Nat) (l : List (Nat × Nat)) (h : Nat) : wf N (t :: l) h = (okTk N t ∧ (if t.1 = 2 then 1 ≤ h ∧ wf N l h else if t.1 = 3 then 2 ≤ h ∧ wf N l (h - 1) else wf N l (h + 1))) := rfl
/-- one token's work on the stack, the last value first -/
def tok (nm : Nat → Int32) (t : Nat × Nat) (st : List Int32) : List Int32 := if t.1 = 0 then nI t.2 :: st else if t.1 = 1 then nm t.2 :: st else if t.1 = 2 then (match st with
  | [] => []
  | a :: r => (if a = 0 then 1 else 0) :: r) else (match st with
  | b :: a :: r => jn t.2 a b :: r
  | r => r)
def evT (nm : Nat → Int32) : List (Nat × Nat) → List Int32 → Int32
  | [], st => st.headD 0
  | t :: l, st => evT nm l (tok nm t st)
theorem evT_s (nm : Nat → Int32) (t : Nat × Nat) (l : List (Nat × Nat)) (st : List Int32) : evT nm (t :: l) st = evT nm l (tok nm t st) := rfl
def Sk (Z : LX) (c : Nat) : List Int32 → Prop
  | [] => True
  | x :: r => Z c r.length = x ∧ Sk Z c r
theorem Sk.up {Z Z' : LX} {c i : Nat} (h : ∀ j, j < i → Z' c j = Z c j) : ∀ {st : List Int32}, st.length ≤ i → Sk Z c st → Sk Z' c st
  | [], _, _ => trivial
  | x :: r, hl, hs => by
    rw [List.length_cons] at hl
    exact ⟨by rw [h _ (by omega)]; exact hs.1, Sk.up h (by omega) hs.2⟩
/-- the relation of the two codes -/
def LRw (C : LX) (A : Nat → Int32) : Prop := (C 77 0 = A 2 ∧ (A 2 = 0 ∨ A 2 = 1)) ∧ ∃ y z, y ≤ z ∧ z ≤ 118 ∧ C 77 1 = nI z ∧ C 77 2 = nI y ∧ (A 2 = 1 → ∃ T1 T2 : List (Nat × Nat), T1.length = y ∧ y + T2.length = z ∧ wf 5 T1 0 ∧ wf 4 T2 0 ∧ (∀ i t, T1[i]? = some t → C 78 i = cTk t ∧ A (2028 + i) = mTk t) ∧ A (2028 + y) = 300000 ∧ (∀ i t, T2[i]? = some t → C 78 (y + i) = cTk t ∧ A (2028 + (y + 1 + i)) = mTk t) ∧ A (2028 + (z + 1)) = 300000)
theorem get_lt {l : List (Nat × Nat)} {i : Nat} {t : Nat × Nat} (h : l[i]? = some t) : i < l.length := by
  refine Classical.byContradiction (fun w => ?_)
  rw [List.getElem?_eq_none (by omega)] at h
  cases h
theorem lrw_pt : LRpt LRw := by
  intro C C' A A' h77 h78 h2 hA h
  obtain ⟨⟨h0, h01⟩, y, z, hyz, hz, e1, e2, hT⟩ := h
  refine ⟨⟨by rw [h77 0 (by omega), h2]; exact h0, by rw [h2]; exact h01⟩, y, z, hyz, hz, by rw [h77 1 (by omega)]; exact e1, by rw [h77 2 (by omega)]; exact e2, fun h1 => ?_⟩
  rw [h2] at h1
  obtain ⟨T1, T2, l1, l2, w1, w2, q1, q2, q3, q4⟩ := hT h1
  refine ⟨T1, T2, l1, l2, w1, w2, fun i t hi => ?_, by rw [hA _ (by omega) (by omega)]; exact q2, fun i t hi => ?_, by rw [hA _ (by omega) (by omega)]; exact q4⟩
  · have := get_lt hi
    rw [h78 i (by omega), hA _ (by omega) (by omega)]
    exact q1 i t hi
  · have := get_lt hi
    rw [h78 _ (by omega), hA _ (by omega) (by omega)]
    exact q3 i t hi
theorem lrw_bd : LRbd LRw := by
  intro C A h
  obtain ⟨⟨h0, h01⟩, y, z, hyz, hz, e1, e2, -⟩ := h
  exact ⟨by rw [h0]; exact h01, y, z, hyz, by omega, e1, e2⟩
theorem lrw_0 : LRw XI (XI 134) := by
  have h : XI 77 0 = XI 134 2 ∧ XI 134 2 = 0 ∧ XI 77 1 = nI 0 ∧ XI 77 2 = nI 0 := by decide +kernel
  exact ⟨⟨h.1, Or.inl h.2.1⟩, 0, 0, Nat.le_refl _, Nat.zero_le _, h.2.2.1, h.2.2.2, fun w => by rw [h.2.1] at w; exact absurd w (by decide)⟩
section RPN
variable {g : GG} {d n : Nat} {X : LX}
theorem k_join {k : Nat} {a b : Int32} (hd : 1 ≤ d) (hn : 146 ≤ n) (hX : Sh n X) (hk : k < 9) : Ex g mX2_join d n n [.int (sgn k), .int a, .int b] X (rt (jn k a b) X) := by
  refine e_of vX2_join (Nat.le_of_ble_eq_true rfl) (cat_of rfl) ?_
  rcases (show k = 0 ∨ k = 1 ∨ k = 2 ∨ k = 3 ∨ k = 4 ∨ k = 5 ∨ k = 6 ∨ k = 7 ∨ k = 8 by omega) with rfl | rfl | rfl | rfl | rfl | rfl | rfl | rfl | rfl
  · by_cases c1 : a = 0
    · by_cases c2 : b = 0
      · exact bX2_join_0_15 hd hn hX rfl c1 c2 ⟨by simp only [jn, if_pos c1, if_pos c2], rfl⟩
      · exact bX2_join_0_14 hd hn hX rfl c1 c2 ⟨by simp only [jn, if_pos c1, if_neg c2], rfl⟩
    · exact bX2_join_0_16 hd hn hX rfl c1 ⟨by simp only [jn, if_neg c1], rfl⟩
  · by_cases c1 : a = 0
    · exact bX2_join_0_4 hd hn hX rfl c1 ⟨by simp only [jn, if_pos c1], rfl⟩
    · by_cases c2 : b = 0
      · exact bX2_join_0_3 hd hn hX rfl c1 c2 ⟨by simp only [jn, if_neg c1, if_pos c2], rfl⟩
      · exact bX2_join_0_2 hd hn hX rfl c1 c2 ⟨by simp only [jn, if_neg c1, if_neg c2], rfl⟩
  · by_cases c1 : b ≤ a
    · exact bX2_join_0_9 hd hn hX rfl c1 ⟨by simp only [jn, if_pos c1], rfl⟩
    · exact bX2_join_0_8 hd hn hX rfl c1 ⟨by simp only [jn, if_neg c1], rfl⟩
  · by_cases c1 : a = b
    · exact bX2_join_0_10 hd hn hX rfl c1 ⟨by simp only [jn, if_pos c1], rfl⟩
    · exact bX2_join_0_11 hd hn hX rfl c1 ⟨by simp only [jn, if_neg c1], rfl⟩
  · by_cases c1 : a ≤ b
    · exact bX2_join_0_13 hd hn hX rfl c1 ⟨by simp only [jn, if_pos c1], rfl⟩
    · exact bX2_join_0_12 hd hn hX rfl c1 ⟨by simp only [jn, if_neg c1], rfl⟩
  · exact bX2_join_0_6 hn hX rfl ⟨rfl, rfl⟩
  · exact bX2_join_0_7 hn hX rfl ⟨rfl, rfl⟩
  · exact bX2_join_0_5 hn hX rfl ⟨rfl, rfl⟩
  · by_cases c1 : b = 0
    · exact bX2_join_0_0 hn hX (by decide) (by decide) (by decide) (by decide) (by decide) (by decide) (by decide) (by decide) c1 ⟨by simp only [jn, if_pos c1], rfl⟩
    · exact bX2_join_0_1 hn hX (by decide) (by decide) (by decide) (by decide) (by decide) (by decide) (by decide) (by decide) c1 c1 ⟨by simp only [jn, if_neg c1], rfl⟩
theorem k_done {k : Nat} {a b : Int32} (hn : 146 ≤ n) (hX : Sh n X) (hk : k < 9) : Ex g mX12_done d n n [.int (nI k), .int a, .int b] X (rt (jn k a b) X) := by
  refine e_of vX12_done (Nat.le_of_ble_eq_true rfl) (cat_of rfl) ?_
  rcases (show k = 0 ∨ k = 1 ∨ k = 2 ∨ k = 3 ∨ k = 4 ∨ k = 5 ∨ k = 6 ∨ k = 7 ∨ k = 8 by omega) with rfl | rfl | rfl | rfl | rfl | rfl | rfl | rfl | rfl
  · by_cases c1 : a = 0
    · by_cases c2 : b = 0
      · exact bX12_done_0_3 hn hX rfl c1 c2 ⟨by simp only [jn, if_pos c1, if_pos c2], rfl⟩
      · exact bX12_done_0_2 hn hX rfl c1 c2 ⟨by simp only [jn, if_pos c1, if_neg c2], rfl⟩
    · exact bX12_done_0_4 hn hX rfl c1 ⟨by simp only [jn, if_neg c1], rfl⟩
  · by_cases c1 : a = 0
    · exact bX12_done_0_7 hn hX rfl c1 ⟨by simp only [jn, if_pos c1], rfl⟩
    · by_cases c2 : b = 0
      · exact bX12_done_0_6 hn hX rfl c1 c2 ⟨by simp only [jn, if_neg c1, if_pos c2], rfl⟩
      · exact bX12_done_0_5 hn hX rfl c1 c2 ⟨by simp only [jn, if_neg c1, if_neg c2], rfl⟩
  · by_cases c1 : b ≤ a
    · exact bX12_done_0_9 hn hX rfl c1 ⟨by simp only [jn, if_pos c1], rfl⟩
    · exact bX12_done_0_8 hn hX rfl c1 ⟨by simp only [jn, if_neg c1], rfl⟩
  · by_cases c1 : a = b
    · exact bX12_done_0_10 hn hX rfl c1 ⟨by simp only [jn, if_pos c1], rfl⟩
    · exact bX12_done_0_11 hn hX rfl c1 ⟨by simp only [jn, if_neg c1], rfl⟩
  · by_cases c1 : a ≤ b
    · exact bX12_done_0_13 hn hX rfl c1 ⟨by simp only [jn, if_pos c1], rfl⟩
    · exact bX12_done_0_12 hn hX rfl c1 ⟨by simp only [jn, if_neg c1], rfl⟩
  · exact bX12_done_0_14 hn hX rfl ⟨rfl, rfl⟩
  · exact bX12_done_0_15 hn hX rfl ⟨rfl, rfl⟩
  · exact bX12_done_0_16 hn hX rfl ⟨rfl, rfl⟩
  · by_cases c1 : b = 0
    · exact bX12_done_0_0 hn hX (Or.inr (by decide)) c1 ⟨by simp only [jn, if_pos c1], rfl⟩
    · exact bX12_done_0_1 hn hX (Or.inr (by decide)) c1 c1 ⟨by simp only [jn, if_neg c1], rfl⟩
end RPN
