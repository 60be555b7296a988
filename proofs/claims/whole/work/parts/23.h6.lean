/-! CONTRACTS: the box of today. -/
def cAdd (X : LX) (f : Nat) (b : Int32) : Int32 := b ||| cGuess X f b
def cBox (X : LX) (f : Nat) : Int32 := if ¬ X 1 8 = 0 then X (56 + 1 + f) (ix (X 1 5)) else if X 42 f = -1 then 0 else if bc (X 42 f) = 0 then cAdd X f (cAdd X f (X 42 f)) else if bc (X 42 f) = 1 then cAdd X f (X 42 f) else X 42 f
abbrev okC (X : LX) (f : Nat) : Prop := X 42 f = -1 ∨ bc (X 42 f) = 0 ∨ bc (X 42 f) = 1 ∨ 2 ≤ bc (X 42 f)
def mAdd (X : LX) (f : Nat) (b : Int32) : Int32 := if 0 ≤ mGuess X f b then b ||| (1 <<< (mGuess X f b &&& 31)) else b ||| 0
def mBox (X : LX) (f : Nat) : Int32 := if X 134 3 = 1 then X 134 (828 + 12 * ix (X 134 0) + f) else if X 134 (448 + 15 * f + 4) = -1 then 0 else if ones (X 134 (448 + 15 * f + 4)) = 0 then mAdd X f (mAdd X f (X 134 (448 + 15 * f + 4))) else if ones (X 134 (448 + 15 * f + 4)) = 1 then mAdd X f (X 134 (448 + 15 * f + 4)) else X 134 (448 + 15 * f + 4)
abbrev okD (X : LX) (f : Nat) : Prop := X 134 (448 + 15 * f + 4) = -1 ∨ ones (X 134 (448 + 15 * f + 4)) = 0 ∨ ones (X 134 (448 + 15 * f + 4)) = 1 ∨ 2 ≤ ones (X 134 (448 + 15 * f + 4))
/-- what the class's kitchen must be for a box to be read -/
def okK (X : LX) : Prop := num X 2 0 14 ∧ num X 23 0 10 ∧ num X 1 5 99 ∧ ∀ f, f < 12 → okC X f
def okN (X : LX) : Prop := (∀ m, m < 10 → okM X m) ∧ num X 134 0 99 ∧ ∀ f, f < 12 → okD X f
section H6
variable {g : GG} {d n : Nat} {X : LX} {post : Option Value → LX → Prop}
theorem cbox_2 {f : Nat} {v2 v3 v4 : Int32} (hn : 146 ≤ n) (hX : Sh n X) (h : 2 ≤ v4) (hp : post (some (.int v3)) X) : Ev g mX1_boxToday d n n post n 47 [some (.ref 1), some (.int (nI f)), some (.int v2), some (.int v3), some (.int v4)] [] X := bX1_boxToday_47_1 hn hX h hp
theorem k_X1_boxToday {f : Nat} (hd : 3 ≤ d) (hn : 146 ≤ n) (hX : Sh n X) (hf : f < 12) (hk : okK X) : Ex g mX1_boxToday d n n [.ref 1, .int (nI f)] X (rt (cBox X f) X) := by
  obtain ⟨hP, hM, hT, hC⟩ := hk
  refine e_of vX1_boxToday (Nat.le_of_ble_eq_true rfl) (cat_of rfl) ?_
  unfold cBox
  by_cases h0 : X 1 8 = 0
  · rw [if_neg (fun q => q h0)]
    by_cases h1 : X 42 f = -1
    · rw [if_pos h1]
      exact bX1_boxToday_0_1 hn hX h0 hf h1 ⟨rfl, rfl⟩
    · rw [if_neg h1]
      refine bX1_boxToday_0_2 (by omega) hn hX h0 hf h1 ?_
      rcases (hC f hf).resolve_left h1 with h | h | h
      · rw [if_pos h, h]
        refine bX1_boxToday_47_0 hd hn hX (by decide) hf hP hM hT ?_
        refine bX1_boxToday_47_0 hd hn hX (by decide) hf hP hM hT ?_
        exact cbox_2 hn hX (by decide) ⟨rfl, rfl⟩
      · rw [if_neg (by rw [h]; decide), if_pos h, h]
        refine bX1_boxToday_47_0 hd hn hX (by decide) hf hP hM hT ?_
        exact cbox_2 hn hX (by decide) ⟨rfl, rfl⟩
      · rw [if_neg (fun q => by rw [q] at h; exact absurd h (by decide)), if_neg (fun q => by rw [q] at h; exact absurd h (by decide))]
        exact cbox_2 hn hX h ⟨rfl, rfl⟩
  · rw [if_pos h0]
    exact bX1_boxToday_0_0 hn hX h0 hf (hT.eq (by omega)).1 (by have := (hT.eq (by omega)).2; omega) ⟨rfl, rfl⟩
theorem mbox_2 {f : Nat} {v2 v3 : Int32} (hn : 146 ≤ n) (hX : Sh n X) (h : 2 ≤ v3) (hp : post (some (.int v2)) X) : Ev g mX12_boxToday d n n post n 54 [some (.ref 133), some (.int (nI f)), some (.int v2), some (.int v3), none] [] X := bX12_boxToday_54_2 hn hX h hp
theorem mbox_1 {f : Nat} {v2 v3 : Int32} (hd : 4 ≤ d) (hn : 146 ≤ n) (hX : Sh n X) (hf : f < 12) (hk : okN X) (h : ¬ 2 ≤ v3) (k : Ev g mX12_boxToday d n n post n 54 [some (.ref 133), some (.int (nI f)), some (.int (mAdd X f v2)), some (.int (v3 + 1)), none] [] X) : Ev g mX12_boxToday d n n post n 54 [some (.ref 133), some (.int (nI f)), some (.int v2), some (.int v3), none] [] X := by
  unfold mAdd at k
  by_cases h1 : 0 ≤ mGuess X f v2
  · rw [if_pos h1] at k
    exact bX12_boxToday_54_1 hd hn hX h hf hk.1 hk.2.1 h1 k
  · rw [if_neg h1] at k
    exact bX12_boxToday_54_0 hd hn hX h hf hk.1 hk.2.1 h1 k
theorem k_X12_boxToday {f : Nat} (hd : 4 ≤ d) (hn : 146 ≤ n) (hX : Sh n X) (hf : f < 12) (hk : okN X) : Ex g mX12_boxToday d n n [.ref 133, .int (nI f)] X (rt (mBox X f) X) := by
  refine e_of vX12_boxToday (Nat.le_of_ble_eq_true rfl) (cat_of rfl) ?_
  unfold mBox
  by_cases h0 : X 134 3 = 1
  · rw [if_pos h0]
    exact bX12_boxToday_0_0 hn hX h0 (hk.2.1.eq (by omega)).1 (by have := (hk.2.1.eq (by omega)).2; omega) ⟨rfl, rfl⟩
  · rw [if_neg h0]
    by_cases h1 : X 134 (448 + 15 * f + 4) = -1
    · rw [if_pos h1]
      exact bX12_boxToday_0_1 (by omega) hn hX h0 (by omega) h1 ⟨rfl, rfl⟩
    · rw [if_neg h1]
      refine bX12_boxToday_0_2 (by omega) hn hX h0 (by omega) h1 ?_
      rcases (hk.2.2 f hf).resolve_left h1 with h | h | h
      · rw [if_pos h, h]
        exact mbox_1 hd hn hX hf hk (by decide) (mbox_1 hd hn hX hf hk (by decide) (mbox_2 hn hX (by decide) ⟨rfl, rfl⟩))
      · rw [if_neg (by rw [h]; decide), if_pos h, h]
        exact mbox_1 hd hn hX hf hk (by decide) (mbox_2 hn hX (by decide) ⟨rfl, rfl⟩)
      · rw [if_neg (fun q => by rw [q] at h; exact absurd h (by decide)), if_neg (fun q => by rw [q] at h; exact absurd h (by decide))]
        exact mbox_2 hn hX h ⟨rfl, rfl⟩
end H6
