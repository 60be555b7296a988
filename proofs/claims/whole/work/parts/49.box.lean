/-! THE BOX OF TODAY, both sides; the call box. -/
theorem bc_cases : ∀ b, b < 1024 → bc (nI b) = 0 ∨ bc (nI b) = 1 ∨ 2 ≤ bc (nI b) := by decide +kernel
section BOX
variable {LR : LX → (Nat → Int32) → Prop} {g : GG} {n : Nat} {X : LX}
/-- how many meals there are -/
theorem KR.meals (hK : KR LR X (X 134)) : ∃ M, M ≤ 10 ∧ X 23 0 = nI M ∧ X 134 5 = nI M ∧ ix (X 134 5) = M ∧ ∃ b, b < 2 ^ M ∧ X 1 6 = nI b ∧ X 134 8 = nI b := by
  obtain ⟨⟨-, -, -, e8, -, e5, -, -⟩, -, -, -, ⟨M, hM, em, b, hb, eb⟩, -⟩ := hK.1
  exact ⟨M, hM, e5.trans em, em, by rw [em, ix_nI (by omega)], b, hb, e8.trans eb, eb⟩
theorem pow_10 {b M : Nat} (hM : M ≤ 10) (hb : b < 2 ^ M) : b < 1024 := Nat.lt_of_lt_of_le hb (Nat.pow_le_pow_right (n := 2) (by omega) hM)
theorem okK_of (hK : KR LR X (X 134)) : okK X := by
  obtain ⟨M, hM, e23, e5, eix, -⟩ := hK.meals
  obtain ⟨⟨e0, -, -, -, e4, -, e6, -⟩, ⟨t, ht, et⟩, -, ⟨cp, hcp, ep⟩, -, ⟨cf, hcf, ef⟩, -⟩ := hK.1
  refine ⟨⟨cp, hcp, e4.trans ep⟩, ⟨M, hM, e23⟩, ⟨t, ht, e0.trans et⟩, fun f hf => ?_⟩
  by_cases w : nI f < X 134 6
  · have c := ((hK.2.2.2.2.1 f hf).1 w).2.2.2.2.1
    unfold okC
    rw [c]
    rcases (hK.2.2.2.2.2.2.2.1.2.2.2.1 f hf).2 with q | ⟨b, hb, eb⟩
    · exact Or.inl q
    · rw [eb]
      rw [eix] at hb
      exact Or.inr (bc_cases b (pow_10 hM hb))
  · unfold okC
    rw [((hK.2.2.2.2.1 f hf).2 w).1]
    exact Or.inr (Or.inl (by decide +kernel))
theorem okN_of (hK : KR LR X (X 134)) : okN X := by
  obtain ⟨M, hM, e23, e5, eix, -⟩ := hK.meals
  refine ⟨fun m hm => ok_meal (hK.2.2.2.1 m hm).2.2.2, hK.1.2.1, fun f hf => ?_⟩
  unfold okD
  rcases (hK.2.2.2.2.2.2.2.1.2.2.2.1 f hf).2 with q | ⟨b, hb, eb⟩
  · exact Or.inl q
  · rw [eb]
    rw [eix] at hb
    have h := bc_cases b (pow_10 hM hb)
    rw [bc_ones b (pow_10 hM hb)] at h
    exact Or.inr h
theorem ahead_eq (hK : KR LR X (X 134)) {f : Nat} (hf : f < 12) : cAhead X f = mBefore X f := by
  obtain ⟨⟨e0, -⟩, ⟨t, ht, et⟩, -⟩ := hK.1
  unfold cAhead mBefore
  rw [e0, et, ix_nI (by omega)]
  by_cases h : t = 0
  · subst h
    rw [if_pos (by decide), if_pos (by decide)]
  · rw [if_neg (nI_nle (by omega) (by omega)), if_neg (nI_ne0 (by omega) (by omega))]
    exact hK.2.2.2.2.2.1 f hf (t - 1) (by omega)
/-- the guess, meal by meal -/
theorem gs_eq (hK : KR LR X (X 134)) {f : Nat} (hf : f < 12) (hlt : nI f < X 134 6) (has ah : Int32) : ∀ i, i ≤ ix (X 134 5) → (cGs X f has ah i).1 = (mGs X f has ah i).2 ∧ (((mGs X f has ah i).1 = -1 ∧ (cGs X f has ah i).2 = 0) ∨ ∃ m, m < ix (X 134 5) ∧ (mGs X f has ah i).1 = nI m ∧ (cGs X f has ah i).2 = 1 <<< (nI m &&& 31)) := by
  obtain ⟨M, hM, e23, e5, eix, b, hb0, eb1, eb2⟩ := hK.meals
  have hlk := ((hK.2.2.2.2.1 f hf).1 hlt).2.2.2.2.2
  intro i
  induction i with
  | zero => intro _; exact ⟨rfl, Or.inl ⟨rfl, rfl⟩⟩
  | succ m ih =>
    intro hi
    obtain ⟨i1, i2⟩ := ih (by omega)
    have hm : m < 10 := by omega
    have c1 : (¬ nb (X 1 6 &&& (has ^^^ (-1))) m ∧ cMay X f m) ↔ (hb (X 134 8) m ∧ ¬ hb has m ∧ mMay X f m) := by
      rw [nb_less (by omega), may_iff hK hlt hf hm, eb1, eb2, and_assoc]
    have c2 : X (43 + 1 + f) m + (if nb ah m then 10 else 0) = X 134 (448 + 15 * f + (5 + m)) + (if hb ah m then 0 else 10) := by
      rw [hlk m hm]
      by_cases w : hb ah m
      · rw [if_pos w, if_neg ((nb_hb (by omega)).mpr w)]
      · rw [if_neg w, if_pos ((nh_nb (by omega)).mp w)]
    unfold cGs mGs
    by_cases w : hb (X 134 8) m ∧ ¬ hb has m ∧ mMay X f m
    · rw [if_pos w, if_pos (c1.mpr w), c2, i1]
      by_cases z : X 134 (448 + 15 * f + (5 + m)) + (if hb ah m then 0 else 10) ≤ (mGs X f has ah m).2
      · rw [if_pos z, if_pos z]; exact ⟨i1, i2⟩
      · rw [if_neg z, if_neg z]; exact ⟨rfl, Or.inr ⟨m, by omega, rfl, rfl⟩⟩
    · rw [if_neg w, if_neg (fun q => w (c1.mp q))]
      exact ⟨i1, i2⟩
/-- meals that are not there aren't guessed -/
theorem gs_more (hK : KR LR X (X 134)) {f : Nat} (has ah : Int32) : ∀ i, ix (X 134 5) + i ≤ 10 → mGs X f has ah (ix (X 134 5) + i) = mGs X f has ah (ix (X 134 5)) := by
  obtain ⟨M, hM, e23, e5, eix, b, hb0, eb1, eb2⟩ := hK.meals
  intro i
  induction i with
  | zero => intro _; rfl
  | succ m ih =>
    intro hi
    show mGs X f has ah ((ix (X 134 5) + m) + 1) = _
    rw [← ih (by omega)]
    have hn : ¬ hb (X 134 8) (ix (X 134 5) + m) := fun w => by
      rw [eb2] at w
      have := hb_lt hb0 (by omega) w
      omega
    generalize hz : mGs X f has ah (ix (X 134 5) + m) = z
    unfold mGs
    rw [if_neg (fun w => hn w.1), hz]
theorem guess_eq (hK : KR LR X (X 134)) {f : Nat} (hf : f < 12) (hlt : nI f < X 134 6) (has : Int32) : (mGuess X f has = -1 ∧ cGuess X f has = 0) ∨ ∃ m, m < ix (X 134 5) ∧ mGuess X f has = nI m ∧ cGuess X f has = 1 <<< (nI m &&& 31) := by
  obtain ⟨M, hM, e23, e5, eix, -⟩ := hK.meals
  unfold mGuess cGuess
  rw [ahead_eq hK hf, e23, ← e5]
  have h := gs_more hK (f := f) has (mBefore X f) (10 - ix (X 134 5)) (by omega)
  rw [show ix (X 134 5) + (10 - ix (X 134 5)) = 10 by omega] at h
  rw [h]
  exact (gs_eq hK hf hlt has _ _ (Nat.le_refl _)).2
theorem add_eq (hK : KR LR X (X 134)) {f : Nat} (hf : f < 12) (hlt : nI f < X 134 6) (b : Int32) : cAdd X f b = mAdd X f b := by
  obtain ⟨M, hM, e23, e5, eix, -⟩ := hK.meals
  unfold cAdd mAdd
  rcases guess_eq hK hf hlt b with ⟨h1, h2⟩ | ⟨m, hm, h1, h2⟩
  · rw [h1, h2, if_neg (by decide)]
  · rw [h1, h2, if_pos (nI_pos' (by omega))]
theorem add_lt (hK : KR LR X (X 134)) {f : Nat} (hf : f < 12) (hlt : nI f < X 134 6) {b : Int32} (h : ∃ k, k < 2 ^ ix (X 134 5) ∧ b = nI k) : ∃ k, k < 2 ^ ix (X 134 5) ∧ mAdd X f b = nI k := by
  obtain ⟨M, hM, e23, e5, eix, -⟩ := hK.meals
  obtain ⟨k, hk, rfl⟩ := h
  unfold mAdd
  rcases guess_eq hK hf hlt (nI k) with ⟨h1, h2⟩ | ⟨m, hm, h1, h2⟩
  · rw [h1, if_neg (by decide), Int32.or_zero]
    exact ⟨k, hk, rfl⟩
  · rw [h1, if_pos (nI_pos' (by omega)), shl_nI (by omega), nx_or]
    exact ⟨_, Nat.or_lt_two_pow hk (Nat.pow_lt_pow_right (by omega) hm), rfl⟩
theorem box_eq (hK : KR LR X (X 134)) {f : Nat} (hf : f < 12) (hlt : nI f < X 134 6) : cBox X f = mBox X f := by
  obtain ⟨M, hM, e23, e5, eix, -⟩ := hK.meals
  obtain ⟨⟨e0, -, e3, -⟩, ⟨t, ht, et⟩, h3, -⟩ := hK.1
  have c := ((hK.2.2.2.2.1 f hf).1 hlt).2.2.2.2.1
  unfold cBox mBox
  rw [c, e3, e0]
  rcases h3 with h3 | h3
  · rw [h3, if_neg (show ¬ ¬ (0 : Int32) = 0 by decide), if_neg (show ¬ (0 : Int32) = 1 by decide)]
    by_cases h1 : X 134 (448 + 15 * f + 4) = -1
    · rw [if_pos h1, if_pos h1]
    · rw [if_neg h1, if_neg h1]
      rcases (hK.2.2.2.2.2.2.2.1.2.2.2.1 f hf).2 with q | ⟨b, hb, eb⟩
      · exact absurd q h1
      · rw [eix] at hb
        rw [eb, bc_ones b (pow_10 hM hb), add_eq hK hf hlt, add_eq hK hf hlt]
  · rw [h3, if_pos (by decide), if_pos rfl, et, ix_nI (by omega)]
    exact hK.2.2.2.2.2.1 f hf t (by omega)
theorem box_lt (hK : KR LR X (X 134)) {f : Nat} (hf : f < 12) (hlt : nI f < X 134 6) : ∃ k, k < 2 ^ ix (X 134 5) ∧ mBox X f = nI k := by
  obtain ⟨⟨e0, -, e3, -⟩, ⟨t, ht, et⟩, h3, -⟩ := hK.1
  unfold mBox
  by_cases h : X 134 3 = 1
  · rw [if_pos h, et, ix_nI (by omega)]
    exact hK.2.2.2.2.2.2.2.1.2.2.2.2.1 f hf t (by omega)
  · rw [if_neg h]
    rcases (hK.2.2.2.2.2.2.2.1.2.2.2.1 f hf).2 with q | q
    · rw [if_pos q]
      exact ⟨0, Nat.pow_pos (by omega), rfl⟩
    · by_cases h1 : X 134 (448 + 15 * f + 4) = -1
      · rw [if_pos h1]
        exact ⟨0, Nat.pow_pos (by omega), rfl⟩
      · rw [if_neg h1]
        by_cases h2 : ones (X 134 (448 + 15 * f + 4)) = 0
        · rw [if_pos h2]
          exact add_lt hK hf hlt (add_lt hK hf hlt q)
        · rw [if_neg h2]
          by_cases h4 : ones (X 134 (448 + 15 * f + 4)) = 1
          · rw [if_pos h4]
            exact add_lt hK hf hlt q
          · rw [if_neg h4]
            exact q
theorem jp_box {a b : Int32} (hn : 146 ≤ n) (hn2 : n ≤ 226) (hI : Iv LR n X) : JP g (Iv LR) mX11_box mX12_box [.int a, .int b] n X := by
  obtain ⟨hX, hK, hT, hB⟩ := id hI
  obtain ⟨⟨e0, -, -, -, -, -, e6, -⟩, ⟨t, ht, et⟩, -, -, -, ⟨cf, hcf, ef⟩, -⟩ := hK.1
  have i1 := cnt_iff (x := X 37 0) (v := a) (c := cf) (by omega) (e6.trans ef)
  by_cases h : 0 ≤ a ∧ a < X 37 0
  · have hm1 := i1.mp h
    rw [e6] at hm1
    obtain ⟨f, hf, rfl⟩ := cnt_num (by omega) (e6.trans ef) h
    have hlt : nI f < X 134 6 := by rw [ef, nI_lt_iff (by omega) (by omega)]; exact hf
    by_cases h' : 0 ≤ b ∧ b ≤ X 1 5
    · have h2 := h'
      rw [e0] at h2
      by_cases q : b = X 1 5
      · exact jp_of hn hn2 (e_of vX11_box (Nat.le_of_ble_eq_true rfl) (cat_of rfl) (bX11_box_0_0 (Nat.le_of_ble_eq_true rfl) hn hX h h' q (by omega) (okK_of hK) ⟨rfl, rfl⟩)) (e_of vX12_box (Nat.le_of_ble_eq_true rfl) (cat_of rfl) (bX12_box_0_0 (Nat.le_of_ble_eq_true rfl) hn hX hm1 h2 (by rw [← e0]; exact q) (by omega) (okN_of hK) ⟨by rw [box_eq hK (by omega) hlt], rfl⟩)) hI
      · rw [et] at h2
        obtain ⟨w, hw, rfl⟩ := i_num (by omega) h2.1 h2.2
        rw [← et] at h2
        exact jp_of hn hn2 (e_of vX11_box (Nat.le_of_ble_eq_true rfl) (cat_of rfl) (bX11_box_0_1 (Nat.le_of_ble_eq_true rfl) hn hX h h' q (by omega) (by omega) ⟨rfl, rfl⟩)) (e_of vX12_box (Nat.le_of_ble_eq_true rfl) (cat_of rfl) (bX12_box_0_1 (Nat.le_of_ble_eq_true rfl) hn hX hm1 h2 (by rw [← e0]; exact q) (by omega) ⟨by rw [hK.2.2.2.2.2.1 f (by omega) w (by omega)], rfl⟩)) hI
    · have h2 := h'
      rw [e0] at h2
      exact jp_of hn hn2 (e_of vX11_box (Nat.le_of_ble_eq_true rfl) (cat_of rfl) (bX11_box_0_2 (Nat.le_of_ble_eq_true rfl) hn hX h h' ⟨rfl, rfl⟩)) (e_of vX12_box (Nat.le_of_ble_eq_true rfl) (cat_of rfl) (bX12_box_0_2 (Nat.le_of_ble_eq_true rfl) hn hX hm1 h2 ⟨rfl, rfl⟩)) hI
  · have hm1 := fun w => h (i1.mpr w)
    rw [e6] at hm1
    exact jp_of hn hn2 (e_of vX11_box (Nat.le_of_ble_eq_true rfl) (cat_of rfl) (bX11_box_0_3 (Nat.le_of_ble_eq_true rfl) hn hX h ⟨rfl, rfl⟩)) (e_of vX12_box (Nat.le_of_ble_eq_true rfl) (cat_of rfl) (bX12_box_0_3 (Nat.le_of_ble_eq_true rfl) hn hX hm1 ⟨rfl, rfl⟩)) hI
end BOX
