/-! CONTRACTS over those of parts 11 and 12. -/
section H2
variable {g : GG} {d n : Nat} {X : LX}
theorem t_X11_isLikes {a : Int32} (hd : 1 ≤ d) (hn : 146 ≤ n) (hX : Sh n X) (h : 0 ≤ a ∧ a ≤ 9) : Ex g mX11_isLikes d n n [.int a] X (rt 1 X) :=
  e_of vX11_isLikes (Nat.le_of_ble_eq_true rfl) (cat_of rfl) (bX11_isLikes_0_0 hd hn hX h ⟨rfl, rfl⟩)
theorem f_X11_isLikes {a : Int32} (hd : 1 ≤ d) (hn : 146 ≤ n) (hX : Sh n X) (h : ¬ (0 ≤ a ∧ a ≤ 9)) : Ex g mX11_isLikes d n n [.int a] X (rt 0 X) :=
  e_of vX11_isLikes (Nat.le_of_ble_eq_true rfl) (cat_of rfl) (bX11_isLikes_0_1 hd hn hX h ⟨rfl, rfl⟩)
theorem t_X12_isPart {a : Int32} (hd : 1 ≤ d) (hn : 146 ≤ n) (hX : Sh n X) (h : 0 ≤ a ∧ a ≤ X 134 4 - 1) : Ex g mX12_isPart d n n [.ref 133, .int a] X (rt 1 X) :=
  e_of vX12_isPart (Nat.le_of_ble_eq_true rfl) (cat_of rfl) (bX12_isPart_0_0 hd hn hX h ⟨rfl, rfl⟩)
theorem f_X12_isPart {a : Int32} (hd : 1 ≤ d) (hn : 146 ≤ n) (hX : Sh n X) (h : ¬ (0 ≤ a ∧ a ≤ X 134 4 - 1)) : Ex g mX12_isPart d n n [.ref 133, .int a] X (rt 0 X) :=
  e_of vX12_isPart (Nat.le_of_ble_eq_true rfl) (cat_of rfl) (bX12_isPart_0_1 hd hn hX h ⟨rfl, rfl⟩)
theorem t_X12_isMeal {a : Int32} (hd : 1 ≤ d) (hn : 146 ≤ n) (hX : Sh n X) (h : 0 ≤ a ∧ a ≤ X 134 5 - 1) : Ex g mX12_isMeal d n n [.ref 133, .int a] X (rt 1 X) :=
  e_of vX12_isMeal (Nat.le_of_ble_eq_true rfl) (cat_of rfl) (bX12_isMeal_0_0 hd hn hX h ⟨rfl, rfl⟩)
theorem f_X12_isMeal {a : Int32} (hd : 1 ≤ d) (hn : 146 ≤ n) (hX : Sh n X) (h : ¬ (0 ≤ a ∧ a ≤ X 134 5 - 1)) : Ex g mX12_isMeal d n n [.ref 133, .int a] X (rt 0 X) :=
  e_of vX12_isMeal (Nat.le_of_ble_eq_true rfl) (cat_of rfl) (bX12_isMeal_0_1 hd hn hX h ⟨rfl, rfl⟩)
theorem t_X12_isFamily {a : Int32} (hd : 1 ≤ d) (hn : 146 ≤ n) (hX : Sh n X) (h : 0 ≤ a ∧ a ≤ X 134 6 - 1) : Ex g mX12_isFamily d n n [.ref 133, .int a] X (rt 1 X) :=
  e_of vX12_isFamily (Nat.le_of_ble_eq_true rfl) (cat_of rfl) (bX12_isFamily_0_0 hd hn hX h ⟨rfl, rfl⟩)
theorem f_X12_isFamily {a : Int32} (hd : 1 ≤ d) (hn : 146 ≤ n) (hX : Sh n X) (h : ¬ (0 ≤ a ∧ a ≤ X 134 6 - 1)) : Ex g mX12_isFamily d n n [.ref 133, .int a] X (rt 0 X) :=
  e_of vX12_isFamily (Nat.le_of_ble_eq_true rfl) (cat_of rfl) (bX12_isFamily_0_1 hd hn hX h ⟨rfl, rfl⟩)
theorem t_X12_isGreen {m : Nat} (hd : 1 ≤ d) (hn : 146 ≤ n) (hX : Sh n X) (hm : m < 10) (h : 2 ≤ X 134 (318 + 13 * m + 0)) : Ex g mX12_isGreen d n n [.ref 133, .int (nI m)] X (rt 1 X) :=
  e_of vX12_isGreen (Nat.le_of_ble_eq_true rfl) (cat_of rfl) (bX12_isGreen_0_0 hd hn hX (by omega) (i_nlt h) ⟨rfl, rfl⟩)
theorem f_X12_isGreen {m : Nat} (hd : 1 ≤ d) (hn : 146 ≤ n) (hX : Sh n X) (hm : m < 10) (h : ¬ 2 ≤ X 134 (318 + 13 * m + 0)) : Ex g mX12_isGreen d n n [.ref 133, .int (nI m)] X (rt 0 X) :=
  e_of vX12_isGreen (Nat.le_of_ble_eq_true rfl) (cat_of rfl) (bX12_isGreen_0_1 hd hn hX (by omega) (i_lt h) ⟨rfl, rfl⟩)
theorem t_X12_isLetter {a : Nat} (hd : 1 ≤ d) (hn : 146 ≤ n) (hX : Sh n X) (ha : a ≤ 120) (h120 : X 133 4 ≤ 120) (h : nI a < X 133 4 ∧ 97 ≤ X 136 a ∧ X 136 a ≤ 122) : Ex g mX12_isLetter d n n [.ref 133, .int (nI a)] X (rt 1 X) :=
  e_of vX12_isLetter (Nat.le_of_ble_eq_true rfl) (cat_of rfl) (by
    have ha2 : a < 120 := by
      rcases Nat.lt_or_ge a 120 with q | q
      · exact q
      · exact absurd (Int32.lt_of_lt_of_le h.1 h120) (show ¬ nI a < nI 120 from nI_nlt q (by omega))
    exact bX12_isLetter_0_0 hd hn hX (i_nle h.1) ha2 ⟨h.2.1, h.2.2⟩ ⟨rfl, rfl⟩)
theorem f_X12_isLetter {a : Nat} (hd : 1 ≤ d) (hn : 146 ≤ n) (hX : Sh n X) (ha : a ≤ 120) (h120 : X 133 4 ≤ 120) (h : ¬ (nI a < X 133 4 ∧ 97 ≤ X 136 a ∧ X 136 a ≤ 122)) : Ex g mX12_isLetter d n n [.ref 133, .int (nI a)] X (rt 0 X) :=
  e_of vX12_isLetter (Nat.le_of_ble_eq_true rfl) (cat_of rfl) (by
    by_cases h1 : X 133 4 ≤ nI a
    · exact bX12_isLetter_0_2 hn hX h1 ⟨rfl, rfl⟩
    · have ha2 : a < 120 := by
        rcases Nat.lt_or_ge a 120 with q | q
        · exact q
        · exact absurd (Int32.lt_of_lt_of_le (i_lt h1) h120) (show ¬ nI a < nI 120 from nI_nlt q (by omega))
      exact bX12_isLetter_0_1 hd hn hX h1 ha2 (fun q => h ⟨i_lt h1, q.1, q.2⟩) ⟨rfl, rfl⟩)
theorem t_X12_isDigit {a : Nat} (hd : 1 ≤ d) (hn : 146 ≤ n) (hX : Sh n X) (ha : a ≤ 120) (h120 : X 133 4 ≤ 120) (h : nI a < X 133 4 ∧ 48 ≤ X 136 a ∧ X 136 a ≤ 57) : Ex g mX12_isDigit d n n [.ref 133, .int (nI a)] X (rt 1 X) :=
  e_of vX12_isDigit (Nat.le_of_ble_eq_true rfl) (cat_of rfl) (by
    have ha2 : a < 120 := by
      rcases Nat.lt_or_ge a 120 with q | q
      · exact q
      · exact absurd (Int32.lt_of_lt_of_le h.1 h120) (show ¬ nI a < nI 120 from nI_nlt q (by omega))
    exact bX12_isDigit_0_0 hd hn hX (i_nle h.1) ha2 ⟨h.2.1, h.2.2⟩ ⟨rfl, rfl⟩)
theorem f_X12_isDigit {a : Nat} (hd : 1 ≤ d) (hn : 146 ≤ n) (hX : Sh n X) (ha : a ≤ 120) (h120 : X 133 4 ≤ 120) (h : ¬ (nI a < X 133 4 ∧ 48 ≤ X 136 a ∧ X 136 a ≤ 57)) : Ex g mX12_isDigit d n n [.ref 133, .int (nI a)] X (rt 0 X) :=
  e_of vX12_isDigit (Nat.le_of_ble_eq_true rfl) (cat_of rfl) (by
    by_cases h1 : X 133 4 ≤ nI a
    · exact bX12_isDigit_0_2 hn hX h1 ⟨rfl, rfl⟩
    · have ha2 : a < 120 := by
        rcases Nat.lt_or_ge a 120 with q | q
        · exact q
        · exact absurd (Int32.lt_of_lt_of_le (i_lt h1) h120) (show ¬ nI a < nI 120 from nI_nlt q (by omega))
      exact bX12_isDigit_0_1 hd hn hX h1 ha2 (fun q => h ⟨i_lt h1, q.1, q.2⟩) ⟨rfl, rfl⟩)
end H2
