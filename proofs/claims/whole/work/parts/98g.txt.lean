/-! LAW, 8: texts (length, charAt, indexOf). -/
section TXT
variable {g : GG} {d n : Nat} {X : LX}
theorem tx_sh : ∀ t, t < 14 → nI (tLn.getD t 0) >>> ((0 : Int32) &&& 31) = nI (tLn.getD t 0) := by decide +kernel
theorem k_coder {t : Nat} (hn : 146 ≤ n) (hX : Sh n X) (ht : t < 14) : Ex g mJ0_coder_7d493 d n n [.ref (1000 + t)] X (rt 0 X) :=
  e_of vJ0_coder_7d493 (Nat.le_of_ble_eq_true rfl) (cat_of rfl) (bJ0_coder_7d493_0_0 hn hX ht (by decide) ⟨rfl, rfl⟩)
theorem k_latin {t : Nat} (hn : 146 ≤ n) (hX : Sh n X) (ht : t < 14) : Ex g mJ0_isLatin1_aae02 d n n [.ref (1000 + t)] X (rt 1 X) :=
  e_of vJ0_isLatin1_aae02 (Nat.le_of_ble_eq_true rfl) (cat_of rfl) (bJ0_isLatin1_aae02_0_0 hn hX ht ⟨rfl, rfl⟩)
theorem k_len {t : Nat} (hd : 1 ≤ d) (hn : 146 ≤ n) (hX : Sh n X) (ht : t < 14) : Ex g mJ0_length_8abf5 d n n [.ref (1000 + t)] X (rt (nI (tLn.getD t 0)) X) := by
  refine e_of vJ0_length_8abf5 (Nat.le_of_ble_eq_true rfl) (cat_of rfl) (bJ0_length_8abf5_0_0 hn hX ht (qJ0_length_8abf5_6 (d' := d - 1) (rest := [.int (nI (tLn.getD t 0))]) ht hn (by omega) (Nat.le_of_ble_eq_true rfl) (k_coder hn hX ht) (fun v W hv => ?_)))
  obtain ⟨rfl, rfl⟩ := hv
  exact bJ0_length_8abf5_9_0 hn hX ht ⟨by rw [tx_sh t ht], rfl⟩
def txC (t i : Nat) : Int32 := ((((tBy.getD t []).getD i 0) &&& 255).toUInt32 % 65536).toInt32
theorem tx_nr : ∀ t, t < 14 → ∀ i, i < 20 → (narrow .char (.int (txC t i)) = .int (txC t i)) := by decide +kernel
theorem k_check {i N : Nat} (hd : 1 ≤ d) (hn : 146 ≤ n) (hX : Sh n X) (hi : i < N) (hN : N < 2 ^ 31) : Ex g mJ0_checkIndex_df160 d n n [.int (nI i), .int (nI N)] X (rv X) := by
  refine e_of vJ0_checkIndex_df160 (Nat.le_of_ble_eq_true rfl) (cat_of rfl) (bJ0_checkIndex_df160_0_0 hn hX (qJ0_checkIndex_df160_5 (d' := d - 1) (rest := []) hn (by omega) (by decide) (e_of vJ3_checkIndex_8e157 (Nat.le_of_ble_eq_true rfl) (cat_of rfl) (bJ3_checkIndex_8e157_0_0 (post := rt (nI i) X) hn hX (nI_pos (by omega)) (nI_lt hi (by omega)) ⟨rfl, rfl⟩)) (fun v W hv => ?_)))
  obtain ⟨rfl, rfl⟩ := hv
  exact bJ0_checkIndex_df160_8_0 hn hX ⟨rfl, rfl⟩
theorem k_charAt {t i : Nat} (hd : 4 ≤ d) (hn : 146 ≤ n) (hX : Sh n X) (ht : t < 14) (hi : i < tLn.getD t 0) : Ex g mJ0_charAt_5068e d n n [.ref (1000 + t), .int (nI i)] X (rt (txC t i) X) := by
  have hl := tLn_lt ht
  have h1 : Ex g mJ1_charAt_3b067 (d - 1) n n [.ref (2000 + t), .int (nI i)] X (rt (txC t i) X) := by
    refine e_of vJ1_charAt_3b067 (Nat.le_of_ble_eq_true rfl) (cat_of rfl) (bJ1_charAt_3b067_0_0 hn hX ht (qJ1_charAt_3b067_3 (d' := d - 2) (rest := []) hn (by omega) (by decide) (k_check (by omega) hn hX hi (by omega)) (fun v W hv => ?_)))
    obtain ⟨rfl, rfl⟩ := hv
    exact bJ1_charAt_3b067_6_0 hn hX ht hi (tx_nr t ht i (by omega)) ⟨rfl, rfl⟩
  refine e_of vJ0_charAt_5068e (Nat.le_of_ble_eq_true rfl) (cat_of rfl) (bJ0_charAt_5068e_0_0 hn hX ht (qJ0_charAt_5068e_1 (d' := d - 1) (rest := []) ht hn (by omega) (by decide) (k_latin hn hX ht) (fun v W hv => ?_)))
  obtain ⟨rfl, rfl⟩ := hv
  refine bJ0_charAt_5068e_4_0 hn hX ht (by decide) (qJ0_charAt_5068e_12 (d' := d - 1) (rest := []) hn (by omega) (by decide) h1 (fun v W hv => ?_))
  obtain ⟨rfl, rfl⟩ := hv
  exact bJ0_charAt_5068e_15_0 hn hX ht (tx_nr t ht i (by omega)) ⟨rfl, rfl⟩
def txF (t : Nat) (b : Int32) : Nat → Nat → Int32
  | 0, _ => -1
  | r + 1, i => if (tBy.getD t []).getD i 0 = b then nI i else txF t b r (i + 1)
theorem txF_s (t : Nat) (b : Int32) (r i : Nat) : txF t b (r + 1) i = if (tBy.getD t []).getD i 0 = b then nI i else txF t b r (i + 1) := rfl
def txO (t c : Nat) : Int32 := txF t (nI c).toInt8.toInt32 (tLn.getD t 0) 0
theorem k_ioc {t : Nat} {c : Int32} (hn : 146 ≤ n) (hX : Sh n X) (ht : t < 14) : Ex g mJ1_indexOfChar_4cfef d n n [.ref (2000 + t), .int c, .int 0, .int (nI (tLn.getD t 0))] X (rt (txF t c.toInt8.toInt32 (tLn.getD t 0) 0) X) := by
  have hl := tLn_lt ht
  refine e_of vJ1_indexOfChar_4cfef (Nat.le_of_ble_eq_true rfl) (cat_of rfl) (bJ1_indexOfChar_4cfef_0_0 hn hX ht ?_)
  have loop : ∀ r i, i + r = tLn.getD t 0 → Ev g mJ1_indexOfChar_4cfef d n n (rt (txF t c.toInt8.toInt32 r i) X) n 7 [some (.ref (2000 + t)), some (.int c), some (.int 0), some (.int (nI (tLn.getD t 0))), some (.int c.toInt8.toInt32), some (.int (nI i))] [] X := by
    intro r
    induction r with
    | zero =>
      intro i hi
      exact bJ1_indexOfChar_4cfef_7_2 hn hX ht (by rw [← hi, Nat.add_zero]; exact Int32.le_refl _) ⟨rfl, rfl⟩
    | succ r ih =>
      intro i hi
      have c0 : ¬ nI (tLn.getD t 0) ≤ nI i := nI_ge (by omega) (by omega)
      rw [txF_s]
      by_cases c1 : (tBy.getD t []).getD i 0 = c.toInt8.toInt32
      · rw [if_pos c1]
        exact bJ1_indexOfChar_4cfef_7_0 hn hX ht c0 (by omega) c1 ⟨rfl, rfl⟩
      · rw [if_neg c1]
        refine bJ1_indexOfChar_4cfef_7_1 hn hX ht c0 (by omega) c1 ?_
        rw [nI_1]
        exact ih (i + 1) (by omega)
  exact loop (tLn.getD t 0) 0 (by omega)
theorem k_indexOf {t c : Nat} (hd : 5 ≤ d) (hn : 146 ≤ n) (hX : Sh n X) (ht : t < 14) (hc : c ≤ 255) : Ex g mJ0_indexOf_0f7a4 d n n [.ref (1000 + t), .int (nI c)] X (rt (txO t c) X) := by
  have hl := tLn_lt ht
  have h3 : Ex g mJ1_indexOf_4cfef (d - 2) n n [.ref (2000 + t), .int (nI c), .int 0, .int (nI (tLn.getD t 0))] X (rt (txO t c) X) := by
    have en : Ex g mJ1_canEncode_9a6ad (d - 3) n n [.int (nI c)] X (rt 1 X) := e_of vJ1_canEncode_9a6ad (Nat.le_of_ble_eq_true rfl) (cat_of rfl) (bJ1_canEncode_9a6ad_0_0 hn hX (nI_pos (by omega)) (fun w => by have h : nI 255 < nI c := w; rw [nI_lt_iff (by omega) (by omega)] at h; omega) ⟨rfl, rfl⟩)
    refine e_of vJ1_indexOf_4cfef (Nat.le_of_ble_eq_true rfl) (cat_of rfl) (bJ1_indexOf_4cfef_0_0 hn hX ht (qJ1_indexOf_4cfef_1 (d' := d - 3) (rest := []) hn (by omega) (by decide) en (fun v W hv => ?_)))
    obtain ⟨rfl, rfl⟩ := hv
    have e1 : (if (0 : Int32) < 0 then (0 : Int32) else 0) = 0 := by decide
    have e2 : (if nI (tLn.getD t 0) < nI (tLn.getD t 0) then nI (tLn.getD t 0) else nI (tLn.getD t 0)) = nI (tLn.getD t 0) := by split <;> rfl
    by_cases z : tLn.getD t 0 = 0
    · refine bJ1_indexOf_4cfef_4_1 (by omega) hn hX ht (by decide) (by rw [e1, e2, z]; decide) ⟨?_, rfl⟩
      unfold txO
      rw [z]
      rfl
    · refine bJ1_indexOf_4cfef_4_2 (by omega) hn hX ht (by decide) (by rw [e1, e2]; exact nI_lt (a := 0) (by omega) (by omega)) ?_
      rw [e1, e2]
      refine qJ1_indexOf_4cfef_33 (d' := d - 3) (rest := []) hn (by omega) (by decide) (k_ioc hn hX ht) (fun v W hv => ?_)
      obtain ⟨rfl, rfl⟩ := hv
      exact bJ1_indexOf_4cfef_36_0 hn hX ht ⟨rfl, rfl⟩
  have h2 : Ex g mJ0_indexOf_7cf53 (d - 1) n n [.ref (1000 + t), .int (nI c), .int 0] X (rt (txO t c) X) := by
    refine e_of vJ0_indexOf_7cf53 (Nat.le_of_ble_eq_true rfl) (cat_of rfl) (bJ0_indexOf_7cf53_0_0 hn hX ht (qJ0_indexOf_7cf53_1 (d' := d - 2) (rest := []) ht hn (by omega) (by decide) (k_latin hn hX ht) (fun v W hv => ?_)))
    obtain ⟨rfl, rfl⟩ := hv
    refine bJ0_indexOf_7cf53_4_0 hn hX ht (by decide) (qJ0_indexOf_7cf53_14 (d' := d - 2) (rest := [.int 0, .int (nI c), .ref (2000 + t)]) ht hn (by omega) (Nat.le_of_ble_eq_true rfl) (k_len (by omega) hn hX ht) (fun v W hv => ?_))
    obtain ⟨rfl, rfl⟩ := hv
    refine qJ0_indexOf_7cf53_17 (d' := d - 2) (rest := []) hn (by omega) (by decide) h3 (fun v W hv => ?_)
    obtain ⟨rfl, rfl⟩ := hv
    exact bJ0_indexOf_7cf53_20_0 hn hX ht ⟨rfl, rfl⟩
  refine e_of vJ0_indexOf_0f7a4 (Nat.le_of_ble_eq_true rfl) (cat_of rfl) (bJ0_indexOf_0f7a4_0_0 hn hX ht (qJ0_indexOf_0f7a4_3 (d' := d - 1) (rest := []) ht hn (by omega) (by decide) h2 (fun v W hv => ?_)))
  obtain ⟨rfl, rfl⟩ := hv
  exact bJ0_indexOf_0f7a4_6_0 hn hX ht ⟨rfl, rfl⟩
end TXT
