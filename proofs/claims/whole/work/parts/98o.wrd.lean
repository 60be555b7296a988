/-! LAW, 16: a word that must stand, both sides. -/
abbrev wrdP (tb : Nat → Nat) (m : Nat) (w : Nat → Nat) (σ : RdS) : Prop := σ.1 = 1 ∧ σ.2.2.1 - σ.2.1 = m ∧ ∀ i, i < m → tb (σ.2.1 + i) = w i
def wrd (tb : Nat → Nat) (L m : Nat) (w : Nat → Nat) (σ : RdS) : RdS := if σ.2.2.2.1 = false ∧ wrdP tb m w σ then stp tb L σ else fl σ
section WRD
variable {g : GG} {d n : Nat} {X Z : LX} {tb : Nat → Nat} {L t t' b q m : Nat} {sp : Int32} {pr : List (Nat × Nat)} {pr' : List Int32} {σ : RdS} {w : Nat → Nat}
theorem c_readWord (hd : 8 ≤ d) (hn : 146 ≤ n) (hT : TP X tb L) (hO : OkS tb L σ) (ht : t' < 14) (hm : tLn.getD t' 0 = m) (hw : ∀ i, i < m → txC t' i = nI (w i) ∧ w i ≤ 255) (hz : σ.2.2.2.1 = false → pr.length + σ.2.2.2.2.1.length ≤ 120) (h : CS n X L t sp pr σ Z) : Ex g mX3_readWord d n n [.ref 81, .ref (1000 + t')] Z (csQ n X L t sp pr (wrd tb L m w σ)) := by
  have hL := hT.1
  have hs0 := hO.1
  have hk4 := hO.k4
  have hm20 : m < 20 := by rw [← hm]; exact tLn_lt ht
  obtain ⟨h1, h2, ⟨h3, h4, h5⟩, ⟨k1, k2, k3⟩, h6, h7⟩ := id h
  refine e_of vX3_readWord (Nat.le_of_ble_eq_true rfl) (cat_of rfl) ?_
  have bad : ¬ (σ.2.2.2.1 = false ∧ wrdP tb m w σ) → ∀ v3 : Int32, Ev g mX3_readWord d n n (csQ n X L t sp pr (wrd tb L m w σ)) n 39 [some (.ref 81), some (.ref (1000 + t')), some (.int 0), some (.int v3)] [] Z := by
    intro hb v3
    have e : wrd tb L m w σ = fl σ := if_neg hb
    rw [e]
    refine bX3_readWord_39_2 hn h1 ht rfl rfl (qX3_readWord_94 (d' := d - 1) (rest := []) hn (by omega) (by decide) (c_fail hn (by omega) hz h) (fun v W hv => ?_))
    obtain ⟨rfl, hW⟩ := hv
    exact bX3_readWord_97_0 hn hW.1 ht ⟨rfl, hW⟩
  by_cases f : σ.2.2.2.1 = true
  · exact bX3_readWord_0_2 hn h1 ht (by rw [(h7 f).1]; exact nI_pos' (by omega)) (bad (fun z => absurd (z.1.symm.trans f) Bool.false_ne_true) 0)
  · have hf := bf f
    have c0 : ¬ 0 ≤ Z 81 6 := by rw [(h6 hf).1]; decide
    have i1 : (Z 81 8 = 1) ↔ σ.1 = 1 := by rw [k1]; exact nI_eq (b := 1) (by omega) (by omega)
    by_cases c1 : σ.1 = 1
    · obtain ⟨o1, o2, o3⟩ := hO.i (by omega)
      have loop : σ.2.2.1 - σ.2.1 = m → ∀ r i, i + r = m → (∀ j, j < i → tb (σ.2.1 + j) = w j) → Ev g mX3_readWord d n n (csQ n X L t sp pr (wrd tb L m w σ)) n 39 [some (.ref 81), some (.ref (1000 + t')), some (.int 1), some (.int (nI i))] [] Z := by
        intro hlen r
        induction r with
        | zero =>
          intro i hi hj
          refine bX3_readWord_39_0 hn h1 ht (by decide) (qX3_readWord_45 (d' := d - 1) (rest := [.int (nI i)]) ht hn (by omega) (Nat.le_of_ble_eq_true rfl) (k_len (by omega) hn h1 ht) (fun v W hv => ?_))
          obtain ⟨rfl, hW⟩ := hv
          rw [hW, hm]
          have e : wrd tb L m w σ = stp tb L σ := if_pos ⟨hf, c1, hlen, fun j hj' => hj j (by omega)⟩
          rw [e]
          refine bX3_readWord_48_1 hn h1 ht (nI_le (by omega) (by omega)) (by decide) (qX3_readWord_87 (d' := d - 1) (rest := []) hn (by omega) (by decide) (c_stepS (by omega) hn hT hO hf h) (fun v W hv => ?_))
          obtain ⟨rfl, hW⟩ := hv
          exact bX3_readWord_90_0 hn hW.1 ht ⟨rfl, hW⟩
        | succ r ih =>
          intro i hi hj
          refine bX3_readWord_39_0 hn h1 ht (by decide) (qX3_readWord_45 (d' := d - 1) (rest := [.int (nI i)]) ht hn (by omega) (Nat.le_of_ble_eq_true rfl) (k_len (by omega) hn h1 ht) (fun v W hv => ?_))
          obtain ⟨rfl, hW⟩ := hv
          rw [hW, hm]
          obtain ⟨b1, b2⟩ := h.b hT (σ.2.1 + i) (by omega)
          obtain ⟨w1, w2⟩ := hw i (by omega)
          refine bX3_readWord_48_0 hn h1 ht (nI_ge (by omega) (by omega)) k2 (by omega) ?_
          rw [b1]
          refine qX3_readWord_64 (d' := d - 1) (rest := [.int (nI (tb (σ.2.1 + i)))]) ht hn (by omega) (Nat.le_of_ble_eq_true rfl) (k_charAt (by omega) hn h1 ht (by omega)) (fun v W hv => ?_)
          obtain ⟨rfl, hW⟩ := hv
          rw [hW, w1]
          by_cases e : tb (σ.2.1 + i) = w i
          · refine bX3_readWord_67_0 hn h1 ht (by rw [e]) ?_
            rw [nI_1]
            refine ih (i + 1) (by omega) (fun j hj' => ?_)
            by_cases z : j = i
            · rw [z]; exact e
            · exact hj j (by omega)
          · exact bX3_readWord_67_1 hn h1 ht (fun z => e ((nI_eq (by omega) (by omega)).mp z)) (bad (fun z => e (z.2.2.2 i (by omega))) _)
      refine bX3_readWord_0_0 hn h1 ht c0 (i1.mpr c1) ?_
      rw [k3, k2, pk_sub (by omega)]
      refine qX3_readWord_25 (d' := d - 1) (rest := [.int (nI (σ.2.2.1 - σ.2.1))]) ht hn (by omega) (Nat.le_of_ble_eq_true rfl) (k_len (by omega) hn h1 ht) (fun v W hv => ?_)
      obtain ⟨rfl, hW⟩ := hv
      rw [hW, hm]
      by_cases e : σ.2.2.1 - σ.2.1 = m
      · exact bX3_readWord_28_0 hn h1 ht (by rw [e]) (loop e m 0 (by omega) (fun j hj => absurd hj (Nat.not_lt_zero _)))
      · exact bX3_readWord_28_1 hn h1 ht (fun z => e ((nI_eq (by omega) (by omega)).mp z)) (bad (fun z => e z.2.2.1) 0)
    · exact bX3_readWord_0_1 hn h1 ht c0 (fun z => c1 (i1.mp z)) (bad (fun z => c1 z.2.1) 0)
theorem m_word (hd : 8 ≤ d) (hn : 146 ≤ n) (hT : TP X tb L) (hO : OkS tb L σ) (ht : t' < 14) (hm : tLn.getD t' 0 = m) (hw : ∀ i, i < m → txC t' i = nI (w i) ∧ w i ≤ 255) (h : MS n X L t b q pr' σ Z) : Ex g mX12_word d n n [.ref 133, .ref (1000 + t')] Z (msQ n X L t b q pr' (wrd tb L m w σ)) := by
  have hL := hT.1
  have hs0 := hO.1
  have hk4 := hO.k4
  have hm20 : m < 20 := by rw [← hm]; exact tLn_lt ht
  obtain ⟨h1, h2, ⟨h3, h4⟩, ⟨h5, h6, h7⟩, ⟨k1, k2, k3⟩, h8, h9⟩ := id h
  refine e_of vX12_word (Nat.le_of_ble_eq_true rfl) (cat_of rfl) ?_
  have i1 : (Z 133 12 = 1) ↔ σ.1 = 1 := by rw [k1]; exact nI_eq (b := 1) (by omega) (by omega)
  have last : ∀ (v2 v3 : Int32), (¬ v2 = 0 ↔ wrdP tb m w σ) → Ev g mX12_word d n n (msQ n X L t b q pr' (wrd tb L m w σ)) n 77 [some (.ref 133), some (.ref (1000 + t')), some (.int v2), some (.int v3)] [.int v2, .ref 133] Z := by
    intro v2 v3 hv2
    refine qX12_word_77 (d' := d - 1) (rest := []) hn (by omega) (by decide) (m_need (P := wrdP tb m w σ) (by omega) hn hT hk4 hO.le (fun _ => hv2) h) (fun v W hv => ?_)
    obtain ⟨rfl, hW⟩ := hv
    exact bX12_word_80_0 hn hW.1 ht ⟨rfl, hW⟩
  have bad : ¬ wrdP tb m w σ → ∀ v3 : Int32, Ev g mX12_word d n n (msQ n X L t b q pr' (wrd tb L m w σ)) n 32 [some (.ref 133), some (.ref (1000 + t')), some (.int 0), some (.int v3)] [] Z := fun hb v3 => bX12_word_32_1 hn h1 ht rfl (last 0 v3 ⟨fun z => absurd rfl z, fun z => absurd z hb⟩)
  by_cases c1 : σ.1 = 1
  · obtain ⟨o1, o2, o3⟩ := hO.i (by omega)
    have loop : σ.2.2.1 - σ.2.1 = m → ∀ r i, i + r = m → (∀ j, j < i → tb (σ.2.1 + j) = w j) → Ev g mX12_word d n n (msQ n X L t b q pr' (wrd tb L m w σ)) n 32 [some (.ref 133), some (.ref (1000 + t')), some (.int 1), some (.int (nI i))] [] Z := by
      intro hlen r
      induction r with
      | zero =>
        intro i hi hj
        refine bX12_word_32_0 hn h1 ht (by decide) (qX12_word_38 (d' := d - 1) (rest := [.int (nI i)]) ht hn (by omega) (Nat.le_of_ble_eq_true rfl) (k_len (by omega) hn h1 ht) (fun v W hv => ?_))
        obtain ⟨rfl, hW⟩ := hv
        rw [hW, hm]
        exact bX12_word_41_1 hn h1 ht (nI_le (by omega) (by omega)) (last 1 _ ⟨fun _ => ⟨c1, hlen, fun j hj' => hj j (by omega)⟩, fun _ => by decide⟩)
      | succ r ih =>
        intro i hi hj
        refine bX12_word_32_0 hn h1 ht (by decide) (qX12_word_38 (d' := d - 1) (rest := [.int (nI i)]) ht hn (by omega) (Nat.le_of_ble_eq_true rfl) (k_len (by omega) hn h1 ht) (fun v W hv => ?_))
        obtain ⟨rfl, hW⟩ := hv
        rw [hW, hm]
        obtain ⟨b1, b2⟩ := h.by_ hT (σ.2.1 + i) (by omega)
        obtain ⟨w1, w2⟩ := hw i (by omega)
        refine bX12_word_41_0 hn h1 ht (nI_ge (by omega) (by omega)) k2 (by omega) ?_
        rw [b1]
        refine qX12_word_57 (d' := d - 1) (rest := [.int (nI (tb (σ.2.1 + i)))]) ht hn (by omega) (Nat.le_of_ble_eq_true rfl) (k_charAt (by omega) hn h1 ht (by omega)) (fun v W hv => ?_)
        obtain ⟨rfl, hW⟩ := hv
        rw [hW, w1]
        by_cases e : tb (σ.2.1 + i) = w i
        · refine bX12_word_60_0 hn h1 ht (by rw [e]) ?_
          rw [nI_1]
          refine ih (i + 1) (by omega) (fun j hj' => ?_)
          by_cases z : j = i
          · rw [z]; exact e
          · exact hj j (by omega)
        · exact bX12_word_60_1 hn h1 ht (fun z => e ((nI_eq (by omega) (by omega)).mp z)) (bad (fun z => e (z.2.2 i (by omega))) _)
    refine bX12_word_0_0 hn h1 ht (i1.mpr c1) ?_
    rw [k3, k2, pk_sub (by omega)]
    refine qX12_word_18 (d' := d - 1) (rest := [.int (nI (σ.2.2.1 - σ.2.1))]) ht hn (by omega) (Nat.le_of_ble_eq_true rfl) (k_len (by omega) hn h1 ht) (fun v W hv => ?_)
    obtain ⟨rfl, hW⟩ := hv
    rw [hW, hm]
    by_cases e : σ.2.2.1 - σ.2.1 = m
    · exact bX12_word_21_0 hn h1 ht (by rw [e]) (loop e m 0 (by omega) (fun j hj => absurd hj (Nat.not_lt_zero _)))
    · exact bX12_word_21_1 hn h1 ht (fun z => e ((nI_eq (by omega) (by omega)).mp z)) (bad (fun z => e z.2.1) 0)
  · exact bX12_word_0_1 hn h1 ht (fun z => c1 (i1.mp z)) (bad (fun z => c1 z.1) 0)
end WRD
