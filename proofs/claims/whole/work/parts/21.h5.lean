/-! CONTRACTS: choices, guesses, needs. -/
/-- the bit m of v isn't set -/
abbrev nb (v : Int32) (m : Nat) : Prop := (v >>> (nI m &&& 31)) &&& 1 = 0
abbrev hb (v : Int32) (m : Nat) : Prop := (v >>> (nI m &&& 31)) &&& 1 = 1
abbrev cCh (X : LX) (f : Nat) (v : Int32) : Prop := ¬ v < 0 ∧ v &&& (X 1 6 ^^^ (-1)) = 0 ∧ bc v ≤ 2 ∧ ∀ m, m < ix (X 23 0) → ¬ nb v m → cMay X f m
def cNeed (X : LX) (f : Nat) (v : Int32) (p : Nat) : Int32 := sumTo (fun m => if nb v m then 0 else X (26 + 1 + m) p) (ix (X 23 0)) * X 39 f
def cGs (X : LX) (f : Nat) (has ahead : Int32) : Nat → Int32 × Int32
  | 0 => (-1, 0)
  | m + 1 => if ¬ nb (X 1 6 &&& (has ^^^ (-1))) m ∧ cMay X f m then
      (if X (43 + 1 + f) m + (if nb ahead m then 10 else 0) ≤ (cGs X f has ahead m).1 then cGs X f has ahead m else (X (43 + 1 + f) m + (if nb ahead m then 10 else 0), 1 <<< (nI m &&& 31)))
    else cGs X f has ahead m
def cAhead (X : LX) (f : Nat) : Int32 := if X 1 5 ≤ 0 then 0 else X (56 + 1 + f) (ix (X 1 5) - 1)
def cGuess (X : LX) (f : Nat) (has : Int32) : Int32 := (cGs X f has (cAhead X f) (ix (X 23 0))).2
def mGs (X : LX) (f : Nat) (box before : Int32) : Nat → Int32 × Int32
  | 0 => (-1, -1)
  | m + 1 => if hb (X 134 8) m ∧ ¬ hb box m ∧ mMay X f m then
      (if X 134 (448 + 15 * f + (5 + m)) + (if hb before m then 0 else 10) ≤ (mGs X f box before m).2 then mGs X f box before m else (nI m, X 134 (448 + 15 * f + (5 + m)) + (if hb before m then 0 else 10)))
    else mGs X f box before m
def mBefore (X : LX) (f : Nat) : Int32 := if X 134 0 = 0 then 0 else X 134 (828 + 12 * (ix (X 134 0) - 1) + f)
def mGuess (X : LX) (f : Nat) (box : Int32) : Int32 := (mGs X f box (mBefore X f) 10).1
section H5
variable {g : GG} {d n : Nat} {X : LX}
theorem k_X1_needOf {f p : Nat} {v : Int32} (hd : 1 ≤ d) (hn : 146 ≤ n) (hX : Sh n X) (hf : f < 12) (hp : p < 14) (hM : num X 23 0 10) : Ex g mX1_needOf d n n [.ref 1, .int (nI f), .int v, .int (nI p)] X (rt (cNeed X f v p) X) := by
  obtain ⟨e1, e2⟩ := hM.eq (by omega)
  refine e_of vX1_needOf (Nat.le_of_ble_eq_true rfl) (cat_of rfl) (bX1_needOf_0_0 hn hX ?_)
  have loop : ∀ i, i ≤ ix (X 23 0) → Ev g mX1_needOf d n n (rt (cNeed X f v p) X) n 6 [some (.ref 1), some (.int (nI f)), some (.int v), some (.int (nI p)), some (.int (sumTo (fun m => if nb v m then 0 else X (26 + 1 + m) p) i)), some (.int (nI i))] [] X := by
    refine down ?_ ?_
    · exact bX1_needOf_6_2 hn hX (by rw [← e1]; exact Int32.le_refl _) hf ⟨rfl, rfl⟩
    · intro i hi k
      have c0 : ¬ X 23 0 ≤ nI i := by rw [e1]; exact nI_ge hi (by omega)
      rw [show nI (i + 1) = nI i + 1 from (nI_1 i).symm] at k
      by_cases c : nb v i
      · refine bX1_needOf_6_1 hd hn hX c0 (fun q => q c) ?_
        rw [show sumTo (fun m => if nb v m then 0 else X (26 + 1 + m) p) (i + 1) = sumTo (fun m => if nb v m then 0 else X (26 + 1 + m) p) i by simp only [sumTo, if_pos c, Int32.add_zero]] at k
        exact k
      · refine bX1_needOf_6_0 hd hn hX c0 c (by omega) hp ?_
        rw [show sumTo (fun m => if nb v m then 0 else X (26 + 1 + m) p) (i + 1) = sumTo (fun m => if nb v m then 0 else X (26 + 1 + m) p) i + X (26 + 1 + i) p by simp only [sumTo, if_neg c]] at k
        exact k
  exact loop 0 (Nat.zero_le _)
theorem mayChoose_loop {f : Nat} {v r : Int32} (hd : 2 ≤ d) (hn : 146 ≤ n) (hX : Sh n X) (hf : f < 12) (hP : num X 2 0 14) (hM : num X 23 0 10) (hr : r = if (∀ m, m < ix (X 23 0) → ¬ nb v m → cMay X f m) then 1 else 0) : Ev g mX1_mayChoose d n n (rt r X) n 27 [some (.ref 1), some (.int (nI f)), some (.int v), some (.int 0)] [] X := by
  obtain ⟨e1, e2⟩ := hM.eq (by omega)
  have loop : ∀ i, i ≤ ix (X 23 0) → (∀ m, m < i → ¬ nb v m → cMay X f m) → Ev g mX1_mayChoose d n n (rt r X) n 27 [some (.ref 1), some (.int (nI f)), some (.int v), some (.int (nI i))] [] X := by
    refine down ?_ ?_
    · intro h
      rw [if_pos h] at hr
      exact bX1_mayChoose_27_3 hn hX (by rw [← e1]; exact Int32.le_refl _) ⟨by rw [hr], rfl⟩
    · intro i hi k h
      have c0 : ¬ X 23 0 ≤ nI i := by rw [e1]; exact nI_ge hi (by omega)
      rw [show nI (i + 1) = nI i + 1 from (nI_1 i).symm] at k
      by_cases c : nb v i
      · exact bX1_mayChoose_27_2 (by omega) hn hX c0 (fun q => q c) (k (fun m hm hb => by
          rcases Nat.lt_succ_iff_lt_or_eq.mp hm with q | q
          · exact h m q hb
          · subst q; exact absurd c hb))
      · by_cases cm : cMay X f i
        · exact bX1_mayChoose_27_0 hd hn hX c0 c hf (by omega) hP cm (k (fun m hm hb => by
            rcases Nat.lt_succ_iff_lt_or_eq.mp hm with q | q
            · exact h m q hb
            · subst q; exact cm))
        · rw [if_neg (fun q => cm (q i hi c))] at hr
          exact bX1_mayChoose_27_1 hd hn hX c0 c hf (by omega) hP cm ⟨by rw [hr], rfl⟩
  exact loop 0 (Nat.zero_le _) (fun m hm => absurd hm (Nat.not_lt_zero m))
theorem t_X1_mayChoose {f : Nat} {v : Int32} (hd : 2 ≤ d) (hn : 146 ≤ n) (hX : Sh n X) (hf : f < 12) (hP : num X 2 0 14) (hM : num X 23 0 10) (h : cCh X f v) : Ex g mX1_mayChoose d n n [.ref 1, .int (nI f), .int v] X (rt 1 X) :=
  e_of vX1_mayChoose (Nat.le_of_ble_eq_true rfl) (cat_of rfl) (bX1_mayChoose_0_1 (by omega) hn hX h.1 h.2.1 h.2.2.1 (mayChoose_loop hd hn hX hf hP hM (by rw [if_pos h.2.2.2])))
theorem f_X1_mayChoose {f : Nat} {v : Int32} (hd : 2 ≤ d) (hn : 146 ≤ n) (hX : Sh n X) (hf : f < 12) (hP : num X 2 0 14) (hM : num X 23 0 10) (h : ¬ cCh X f v) : Ex g mX1_mayChoose d n n [.ref 1, .int (nI f), .int v] X (rt 0 X) :=
  e_of vX1_mayChoose (Nat.le_of_ble_eq_true rfl) (cat_of rfl) (by
    by_cases h1 : v < 0
    · exact bX1_mayChoose_0_3 hn hX h1 ⟨rfl, rfl⟩
    · by_cases h2 : v &&& (X 1 6 ^^^ (-1)) = 0
      · by_cases h3 : bc v ≤ 2
        · exact bX1_mayChoose_0_1 (by omega) hn hX h1 h2 h3 (mayChoose_loop hd hn hX hf hP hM (by rw [if_neg (fun q => h ⟨h1, h2, h3, q⟩)]))
        · exact bX1_mayChoose_0_0 (by omega) hn hX h1 h2 h3 ⟨rfl, rfl⟩
      · exact bX1_mayChoose_0_2 hn hX h1 h2 ⟨rfl, rfl⟩)
theorem guess_loop {f : Nat} {has ah : Int32} (hd : 2 ≤ d) (hn : 146 ≤ n) (hX : Sh n X) (hf : f < 12) (hP : num X 2 0 14) (hM : num X 23 0 10) : Ev g mX1_guess d n n (rt (cGs X f has ah (ix (X 23 0))).2 X) n 37 [some (.ref 1), some (.int (nI f)), some (.int has), some (.int ah), some (.int (-1)), some (.int 0), some (.int 0), none] [] X := by
  obtain ⟨e1, e2⟩ := hM.eq (by omega)
  have loop : ∀ i, i ≤ ix (X 23 0) → Ev g mX1_guess d n n (rt (cGs X f has ah (ix (X 23 0))).2 X) n 37 [some (.ref 1), some (.int (nI f)), some (.int has), some (.int ah), some (.int (cGs X f has ah i).1), some (.int (cGs X f has ah i).2), some (.int (nI i)), none] [] X := by
    refine down ?_ ?_
    · exact bX1_guess_37_6 hn hX (by rw [← e1]; exact Int32.le_refl _) ⟨rfl, rfl⟩
    · intro i hi k
      have c0 : ¬ X 23 0 ≤ nI i := by rw [e1]; exact nI_ge hi (by omega)
      rw [show nI (i + 1) = nI i + 1 from (nI_1 i).symm] at k
      have hi10 : i < 10 := by omega
      generalize rt (cGs X f has ah (ix (X 23 0))).2 X = post at k ⊢
      unfold cGs at k
      by_cases c : nb (X 1 6 &&& (has ^^^ (-1))) i
      · rw [if_neg (fun q => q.1 c)] at k
        exact bX1_guess_37_5 (by omega) hn hX c0 (fun q => q c) k
      · by_cases cm : cMay X f i
        · rw [if_pos ⟨c, cm⟩] at k
          by_cases ca : nb ah i
          · rw [if_pos ca] at k
            by_cases cl : X (43 + 1 + f) i + 10 ≤ (cGs X f has ah i).1
            · rw [if_pos cl] at k
              exact bX1_guess_37_3 hd hn hX c0 c hf hi10 hP cm hf hi10 (fun q => q ca) cl k
            · rw [if_neg cl] at k
              exact bX1_guess_37_2 hd hn hX c0 c hf hi10 hP cm hf hi10 (fun q => q ca) cl k
          · rw [if_neg ca] at k
            by_cases cl : X (43 + 1 + f) i + 0 ≤ (cGs X f has ah i).1
            · rw [if_pos cl] at k
              exact bX1_guess_37_1 hd hn hX c0 c hf hi10 hP cm hf hi10 ca cl k
            · rw [if_neg cl] at k
              exact bX1_guess_37_0 hd hn hX c0 c hf hi10 hP cm hf hi10 ca cl k
        · rw [if_neg (fun q => cm q.2)] at k
          exact bX1_guess_37_4 hd hn hX c0 c hf hi10 hP cm k
  exact loop 0 (Nat.zero_le _)
theorem i_pred {x : Int32} {N : Nat} (h : ∃ a, a ≤ N ∧ x = nI a) (hN : N < 2 ^ 31) (h0 : ¬ x = 0) : x - 1 = nI (ix x - 1) ∧ ix x - 1 < N := by
  obtain ⟨a, ha, e⟩ := h
  subst e
  have ha0 : a ≠ 0 := fun q => h0 (by rw [q]; rfl)
  rw [ix_nI (by omega)]
  obtain ⟨b, rfl⟩ : ∃ b, a = b + 1 := ⟨a - 1, by omega⟩
  exact ⟨nI_pred b, by omega⟩
theorem k_X1_guess {f : Nat} {has : Int32} (hd : 2 ≤ d) (hn : 146 ≤ n) (hX : Sh n X) (hf : f < 12) (hP : num X 2 0 14) (hM : num X 23 0 10) (hT : num X 1 5 99) : Ex g mX1_guess d n n [.ref 1, .int (nI f), .int has] X (rt (cGuess X f has) X) := by
  refine e_of vX1_guess (Nat.le_of_ble_eq_true rfl) (cat_of rfl) ?_
  unfold cGuess cAhead
  by_cases h : X 1 5 ≤ 0
  · rw [if_pos h]
    exact bX1_guess_0_1 hn hX h (guess_loop hd hn hX hf hP hM)
  · rw [if_neg h]
    have hp := i_pred hT (by omega) (fun q => h (by rw [q]; exact Int32.le_refl _))
    exact bX1_guess_0_0 hn hX h hf hp.1 (by omega) (guess_loop hd hn hX hf hP hM)
theorem mguess_loop {f : Nat} {box bf : Int32} (hd : 3 ≤ d) (hn : 146 ≤ n) (hX : Sh n X) (hf : f < 12) (hk : ∀ m, m < 10 → okM X m) : Ev g mX12_guess d n n (rt (mGs X f box bf 10).1 X) n 45 [some (.ref 133), some (.int (nI f)), some (.int box), some (.int bf), some (.int (-1)), some (.int (-1)), some (.int 0), none] [] X := by
  have loop : ∀ i, i ≤ 10 → Ev g mX12_guess d n n (rt (mGs X f box bf 10).1 X) n 45 [some (.ref 133), some (.int (nI f)), some (.int box), some (.int bf), some (.int (mGs X f box bf i).1), some (.int (mGs X f box bf i).2), some (.int (nI i)), none] [] X := by
    refine down ?_ ?_
    · exact bX12_guess_45_7 hn hX (show nI 10 ≤ nI 10 from nI_le (by omega) (by omega)) ⟨rfl, rfl⟩
    · intro i hi k
      have c0 : ¬ (10 : Int32) ≤ nI i := show ¬ nI 10 ≤ nI i from nI_ge hi (by omega)
      rw [show nI (i + 1) = nI i + 1 from (nI_1 i).symm] at k
      generalize rt (mGs X f box bf 10).1 X = post at k ⊢
      unfold mGs at k
      by_cases c : hb (X 134 8) i
      · by_cases cb : hb box i
        · rw [if_neg (fun q => q.2.1 cb)] at k
          exact bX12_guess_45_0 (by omega) hn hX c0 c cb k
        · by_cases cm : mMay X f i
          · rw [if_pos ⟨c, cb, cm⟩] at k
            by_cases ca : hb bf i
            · rw [if_pos ca] at k
              by_cases cl : X 134 (448 + 15 * f + (5 + i)) + 0 ≤ (mGs X f box bf i).2
              · rw [if_pos cl] at k
                exact bX12_guess_45_2 hd hn hX c0 c cb hf hi (hk i hi) cm (by omega) ca cl k
              · rw [if_neg cl] at k
                exact bX12_guess_45_1 hd hn hX c0 c cb hf hi (hk i hi) cm (by omega) ca cl k
            · rw [if_neg ca] at k
              by_cases cl : X 134 (448 + 15 * f + (5 + i)) + 10 ≤ (mGs X f box bf i).2
              · rw [if_pos cl] at k
                exact bX12_guess_45_4 hd hn hX c0 c cb hf hi (hk i hi) cm (by omega) ca cl k
              · rw [if_neg cl] at k
                exact bX12_guess_45_3 hd hn hX c0 c cb hf hi (hk i hi) cm (by omega) ca cl k
          · rw [if_neg (fun q => cm q.2.2)] at k
            exact bX12_guess_45_5 hd hn hX c0 c cb hf hi (hk i hi) cm k
      · rw [if_neg (fun q => c q.1)] at k
        exact bX12_guess_45_6 (by omega) hn hX c0 c k
  exact loop 0 (Nat.zero_le _)
theorem k_X12_guess {f : Nat} {box : Int32} (hd : 3 ≤ d) (hn : 146 ≤ n) (hX : Sh n X) (hf : f < 12) (hk : ∀ m, m < 10 → okM X m) (hT : num X 134 0 99) : Ex g mX12_guess d n n [.ref 133, .int (nI f), .int box] X (rt (mGuess X f box) X) := by
  refine e_of vX12_guess (Nat.le_of_ble_eq_true rfl) (cat_of rfl) ?_
  unfold mGuess mBefore
  by_cases h : X 134 0 = 0
  · rw [if_pos h]
    exact bX12_guess_0_0 hn hX h (mguess_loop hd hn hX hf hk)
  · rw [if_neg h]
    have hp := i_pred hT (by omega) h
    exact bX12_guess_0_1 hn hX h hp.1 (by omega) (mguess_loop hd hn hX hf hk)
end H5
