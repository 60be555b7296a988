/-! LAW, 20: law, both sides. -/
section JPLAW
variable {g : GG} {n : Nat} {X Y : LX}
theorem KR.law {LR LR' : LX → (Nat → Int32) → Prop} (hK : KR LR X (X 134)) (fC : ∀ k, k ≤ 76 → Y k = X k) (fA : ∀ t, t ≠ 2 → t < 2028 → Y 134 t = X 134 t) (hLR : LR' Y (Y 134)) : KR LR' Y (Y 134) := by
  obtain ⟨k1, k2, k3, k4, k5, k6, k7, kb, -⟩ := hK
  refine ⟨?_, k2.fr (fun k hk => fC k (by omega)) (fun j _ _ => fA j (by omega) (by omega)), k3.fr (fun k _ _ => fC k (by omega)) (fun j _ _ => fA j (by omega) (by omega)), k4.fr (fun k _ _ => fC k (by omega)) (fA 4 (by omega) (by omega)) (fun j _ _ => fA j (by omega) (by omega)), k5.fr (fun k _ _ => fC k (by omega)) (fA 6 (by omega) (by omega)) (fun j _ _ => fA j (by omega) (by omega)), k6.fr (fun k _ _ => fC k (by omega)) (fun j _ _ => fA j (by omega) (by omega)), k7.fr (fun k _ _ => fC k (by omega)) (fun j _ _ => fA j (by omega) (by omega)), kb.fr (fA 5 (by omega) (by omega)) (fA 7 (by omega) (by omega)) (fun j _ _ => fA j (by omega) (by omega)), hLR⟩
  unfold R1
  rw [fC 1 (by omega), fC 2 (by omega), fC 23 (by omega), fC 37 (by omega), fC 69 (by omega), fA 0 (by omega) (by omega), fA 1 (by omega) (by omega), fA 3 (by omega) (by omega), fA 8 (by omega) (by omega), fA 4 (by omega) (by omega), fA 5 (by omega) (by omega), fA 6 (by omega) (by omega), fA 7 (by omega) (by omega)]
  exact k1
theorem RT.law (h : RT X) (h1 : Y 81 1 = 0) (h2 : Y 133 4 = 0) (h3 : Y 0 7 = X 0 7) (h4 : Y 133 6 = X 133 6) (hC : ∀ k, k = 82 ∨ k = 136 ∨ k = 132 ∨ k = 137 ∨ k = 131 ∨ k = 138 ∨ k = 129 ∨ k = 130 ∨ k = 139 → Y k = X k) : RT Y := by
  unfold RT
  rw [h1, h2, h3, h4, hC 82 (by omega), hC 136 (by omega), hC 132 (by omega), hC 137 (by omega), hC 131 (by omega), hC 138 (by omega), hC 139 (by omega)]
  refine ⟨⟨rfl, ⟨0, by omega, rfl⟩, h.1.2.2⟩, h.2.1, fun s hs => ?_⟩
  rw [hC (128 + 1 + s) (by omega)]
  exact h.2.2 s hs
theorem jp_law (hn : 146 ≤ n) (hn2 : n ≤ 226) (hI : Iv LRw n X) : JP g (Iv LRw) mX11_law mX12_law [] n X := by
  have hL : LRok LRw := LRpt.ok lrw_pt
  obtain ⟨hX, hK, hT, hB⟩ := id hI
  obtain ⟨⟨e81, ⟨L, hL120, e4⟩, hby⟩, hw2, hw3⟩ := id hT
  have hLR : LRw X (X 134) := hK.2.2.2.2.2.2.2.2
  obtain ⟨tb, htb⟩ : ∃ tb : Nat → Nat, tb = fun i => ix (X 136 i) := ⟨_, rfl⟩
  have hbt : ∀ i, i < 120 → X 82 i = nI (tb i) ∧ X 136 i = nI (tb i) ∧ tb i ≤ 255 := fun i hi => by
    obtain ⟨b1, b2, b3⟩ := hby i hi
    obtain ⟨k, hk, e⟩ := nI_of (x := X 136 i) (Int32.not_lt.mpr b2)
    have et : tb i = k := by rw [htb]; show ix (X 136 i) = k; rw [e]; exact ix_nI hk
    rw [b1, et, e]
    refine ⟨rfl, rfl, ?_⟩
    rw [e] at b3
    exact (nI_leI (b := 255) (by omega) (by omega)).mp b3
  have hTP : TP X tb L := ⟨hL120, hbt⟩
  refine jp_rel (LQ n X tb L) hn hn2 (c_law hn hX hTP (e81.trans e4)) (fun r Y hY => ?_)
  obtain ⟨y1, y2, y3, yF, yN⟩ := hY
  have hTY : TP Y tb L := ⟨hL120, fun i hi => by rw [y2 82 (by omega) (by omega) (by omega) (by omega), y2 136 (by omega) (by omega) (by omega) (by omega)]; exact hbt i hi⟩
  refine Ex.mono (m_law hn y1 hTY (by rw [y2 133 (by omega) (by omega) (by omega) (by omega)]; exact e4)) (fun v V hv => ?_)
  obtain ⟨v1, v2, v3, v4, vF, vN⟩ := hv
  have fC : ∀ k, k ≠ 77 → k ≠ 78 → k ≠ 81 → k ≠ 83 → k ≠ 133 → k ≠ 134 → k ≠ 141 → V k = X k := fun k a b c d e f h => (v2 k e f h).trans (y2 k a b c d)
  have f133 : ∀ j, j < 10 → j ≠ 4 → V 133 j = X 133 j := fun j a b => (v3 j a b).trans (by rw [y2 133 (by omega) (by omega) (by omega) (by omega)])
  have hRT : RT V := hT.law (by rw [v2 81 (by omega) (by omega) (by omega)]; exact y3) v4 (by rw [fC 0 (by omega) (by omega) (by omega) (by omega) (by omega) (by omega) (by omega)]) (f133 6 (by omega) (by omega)) (fun k hk => fC k (by omega) (by omega) (by omega) (by omega) (by omega) (by omega) (by omega))
  have fin : KR LRw V (V 134) → Iv LRw n V := fun hKV => iv_now hL hI v1 hKV hRT (by rw [fC 0 (by omega) (by omega) (by omega) (by omega) (by omega) (by omega) (by omega)]) (f133 2 (by omega) (by omega)) (fun k hk => fC k (by omega) (by omega) (by omega) (by omega) (by omega) (by omega) (by omega)) (fC 135 (by omega) (by omega) (by omega) (by omega) (by omega) (by omega) (by omega))
  have y134 : Y 134 = X 134 := y2 134 (by omega) (by omega) (by omega) (by omega)
  by_cases hF : lzF tb L
  · obtain ⟨r1, r77, r78⟩ := yF hF
    obtain ⟨q1, q134⟩ := vF hF
    have w77 : V 77 = X 77 := (v2 77 (by omega) (by omega) (by omega)).trans r77
    have w78 : V 78 = X 78 := (v2 78 (by omega) (by omega) (by omega)).trans r78
    have w134 : V 134 = X 134 := q134.trans y134
    refine ⟨by rw [q1, r1], fin (hK.law (fun k hk => fC k (by omega) (by omega) (by omega) (by omega) (by omega) (by omega) (by omega)) (fun t _ _ => by rw [w134]) ?_)⟩
    exact lrw_pt _ _ _ _ (fun t _ => by rw [w77]) (fun j _ => by rw [w78]) (by rw [w134]) (fun j _ _ => by rw [w134]) hLR
  · obtain ⟨r1, r0, rz, ry, rc⟩ := yN hF
    obtain ⟨q1, q2, qA, qc⟩ := vN hF
    have f0 : (lz4 tb L).2.2.2.1 = false := bf (fun w => hF (Or.inl w))
    obtain ⟨t3, h3, h34⟩ := lz_34 (tb := tb) hL120
    obtain ⟨-, -, h12⟩ := lz_12 (tb := tb) hL120
    obtain ⟨f3, h7, wf4⟩ := h34 f0
    have wf5 := (h12 (h3 f3).1).2
    obtain ⟨T1, hT1⟩ : ∃ T, T = (lz2 tb L).2.2.2.2.1 := ⟨_, rfl⟩
    obtain ⟨T2, hT2⟩ : ∃ T, T = (lz4 tb L).2.2.2.2.1 := ⟨_, rfl⟩
    have eLC : LC4 tb L = T1.map mTk ++ ([300000] ++ (T2.map mTk ++ [300000])) := by
      unfold LC4 LC2
      rw [hT1, hT2, List.append_assoc, List.append_assoc]
    rw [← hT1, ← hT2] at rc rz h7
    rw [← hT1] at ry wf5
    rw [← hT2] at wf4
    rw [eLC] at qc
    have w77 : V 77 = Y 77 := v2 77 (by omega) (by omega) (by omega)
    have w78 : V 78 = Y 78 := v2 78 (by omega) (by omega) (by omega)
    refine ⟨by rw [q1, r1], fin (hK.law (fun k hk => fC k (by omega) (by omega) (by omega) (by omega) (by omega) (by omega) (by omega)) (fun t a b => by rw [qA t a b, y134]) ?_)⟩
    refine ⟨⟨by rw [w77, r0, q2], Or.inr q2⟩, T1.length, T1.length + T2.length, by omega, by omega, by rw [w77]; exact rz, by rw [w77]; exact ry, fun _ => ⟨T1, T2, rfl, rfl, wf5, wf4, fun i t hi => ?_, ?_, fun i t hi => ?_, ?_⟩⟩
    · have hlt := get_lt hi
      refine ⟨by rw [w78]; exact rc i t (by rw [List.getElem?_append_left hlt]; exact hi), qc i (mTk t) ?_⟩
      rw [List.getElem?_append_left (by rw [List.length_map]; exact hlt), List.getElem?_map, hi]
      rfl
    · refine qc T1.length 300000 ?_
      rw [List.getElem?_append_right (by rw [List.length_map]; exact Nat.le_refl _), List.length_map, Nat.sub_self]
      rfl
    · have hlt := get_lt hi
      refine ⟨by rw [w78]; exact rc _ t (by rw [List.getElem?_append_right (by omega), Nat.add_sub_cancel_left]; exact hi), ?_⟩
      have := qc (T1.length + 1 + i) (mTk t) (by
        rw [List.getElem?_append_right (by rw [List.length_map]; omega), List.length_map, List.getElem?_append_right (by rw [List.length_singleton]; omega), List.length_singleton, show T1.length + 1 + i - T1.length - 1 = i by omega, List.getElem?_append_left (by rw [List.length_map]; exact hlt), List.getElem?_map, hi]
        rfl)
      exact this
    · have := qc (T1.length + T2.length + 1) 300000 (by
        rw [List.getElem?_append_right (by rw [List.length_map]; omega), List.length_map, List.getElem?_append_right (by rw [List.length_singleton]; omega), List.length_singleton, show T1.length + T2.length + 1 - T1.length - 1 = T2.length by omega, List.getElem?_append_right (by rw [List.length_map]; exact Nat.le_refl _), List.length_map, Nat.sub_self]
        rfl)
      exact this
end JPLAW
