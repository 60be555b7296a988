/-! THE CALLS, 17: with. -/
theorem sum_1 : ∀ k, sumTo (fun _ => (1 : Int32)) k = nI k
  | 0 => rfl
  | k + 1 => by
    show sumTo (fun _ => (1 : Int32)) k + 1 = nI (k + 1)
    rw [sum_1 k, nI_1]
/-- how many parts a meal has, by the class's row -/
theorem cnt_eq {C : LX} {A : Nat → Int32} {m k : Nat} {q : Nat → Nat} (h1 : ∀ t, t < k → q t < 14 ∧ 1 ≤ C (26 + 1 + m) (q t)) (hi : ∀ s t, s < k → t < k → q s = q t → s = t) (h0 : ∀ p, p < 14 → (∀ t, t < k → q t ≠ p) → C (26 + 1 + m) p = 0) : cCnt C m = nI k := by
  unfold cCnt
  rw [← sum_1 k]
  refine sum_list (q := q) (fun t ht => (h1 t ht).1) hi (fun t ht => ?_) (fun p hp hn => ?_)
  · have a4 := (h1 t ht).2
    rw [if_neg (fun w => by rw [Int32.le_iff_toInt_le] at a4 w; rw [show (1 : Int32).toInt = 1 by decide] at a4; rw [show (0 : Int32).toInt = 0 by decide] at w; omega)]
  · rw [h0 p hp hn, if_pos (by decide)]
theorem hb_nnb {v : Int32} {m : Nat} (hm : m < 32) : ¬ nb v m ↔ hb v m := nb_hb hm
section WITH
variable {LR : LX → (Nat → Int32) → Prop} {g : GG} {d n : Nat} {X : LX} {post : Option Value → LX → Prop}
/-- the model's search for a part in a meal's list -/
theorem with_loop {m : Nat} {v2 v3 : Int32} {k s : Nat} (hd : 1 ≤ d) (hn : 146 ≤ n) (hX : Sh n X) (hm : m < 10) (hk : k ≤ 5) (hs : s ≤ k) (hne : ∀ t, t < s → ¬ X 134 (318 + 13 * m + (3 + t)) = v2) (kk : Ev g mX12_with d n n post n 62 [some (.ref 133), some (.int (nI m)), some (.int v2), some (.int v3), some (.int (nI k)), some (.int (nI s))] [] X) : Ev g mX12_with d n n post n 62 [some (.ref 133), some (.int (nI m)), some (.int v2), some (.int v3), some (.int (nI k)), some (.int 0)] [] X := by
  have loop : ∀ i, i ≤ s → Ev g mX12_with d n n post n 62 [some (.ref 133), some (.int (nI m)), some (.int v2), some (.int v3), some (.int (nI k)), some (.int (nI i))] [] X := by
    refine down kk ?_
    intro i hi k
    rw [show nI (i + 1) = nI i + 1 from (nI_1 i).symm] at k
    exact bX12_with_62_0 hd hn hX (nI_ge (by omega) (by omega)) (by omega) (hne i hi) k
  exact loop 0 (by omega)
/-- the kitchens behind a change of one meal's list -/
theorem iv_meal (hL : LRok LR) (hI : Iv LR n X) {Y : LX} {m : Nat} (hm : m < 10) (hS : Sh n Y) (fC : ∀ k, k ≠ 134 ∧ k ≠ 26 + 1 + m → Y k = X k) (fA : ∀ t, t < 318 + 13 * m + 2 ∨ 318 + 13 * m + 13 ≤ t → Y 134 t = X 134 t) (hml : mealR Y (Y 134) m) : Iv LR n Y := by
  obtain ⟨hX, hK, hT, hB⟩ := id hI
  obtain ⟨k1, k2, k3, k4, k5, k6, k7, ⟨b1, b2, b3, b4, b5, b6, b7⟩, k8⟩ := hK
  have hR4 : R4 Y (Y 134) := by
    intro q hq
    obtain ⟨s1, s2, s3, hq4⟩ := k4 q hq
    rw [fC 24 (by omega), fC 25 (by omega), fA (318 + 13 * q + 0) (by omega), fA (318 + 13 * q + 1) (by omega)]
    refine ⟨s1, s2, s3, ?_⟩
    by_cases z : q = m
    · subst z; exact hml
    · obtain ⟨k, w, g1, g2, g3, g5, g6⟩ := hq4
      refine ⟨k, w, g1, ?_, fun t ht => ?_, g5, fun p hp hw => ?_⟩
      · rw [fA _ (by omega)]; exact g2
      · rw [fC (26 + 1 + q) (by omega), fA (318 + 13 * q + (3 + t)) (by omega), fA (318 + 13 * q + (8 + t)) (by omega), fA 4 (by omega)]
        exact g3 t ht
      · rw [fC (26 + 1 + q) (by omega)]; exact g6 p hp hw
  have hle : ix (X 134 5) ≤ ix (Y 134 5) := by rw [fA 5 (by omega)]; exact Nat.le_refl _
  refine iv_now hL hI hS ⟨k1.fr ⟨by rw [fC 1 (by omega)], by rw [fC 1 (by omega)], by rw [fC 1 (by omega)], by rw [fC 1 (by omega)], by rw [fC 2 (by omega)], by rw [fC 23 (by omega)], by rw [fC 37 (by omega)], by rw [fC 69 (by omega)]⟩ (fun t _ => fA t (by omega)), k2.fr (fun k _ => fC k (by omega)) (fun t _ _ => fA t (by omega)), k3.fr (fun k _ _ => fC k (by omega)) (fun t _ _ => fA t (by omega)), hR4,
    k5.fr (fun k _ _ => fC k (by omega)) (fA 6 (by omega)) (fun t _ _ => fA t (by omega)), k6.fr (fun k _ _ => fC k (by omega)) (fun t _ _ => fA t (by omega)), k7.fr (fun k _ _ => fC k (by omega)) (fun t _ _ => fA t (by omega)),
    ⟨b1.fr (fun t _ _ => fA t (by omega)), b2.fr (fun t _ _ => fA t (by omega)), fun q hq => by rw [fA _ (by omega)]; exact b3 q hq, b4.fr hle (fun f _ t _ => fA _ (by omega)), b5.fr hle (fun t _ _ => fA t (by omega)), b6.fr (fA 7 (by omega)) (fun t _ _ => fA t (by omega)), b7.fr (fA 7 (by omega)) (fun p _ => fA _ (by omega)) (fun l _ => ⟨fA _ (by omega), fA _ (by omega)⟩)⟩, hL _ _ _ _ (fun k _ _ => fC k (by omega)) (fA 2 (by omega)) (fun t _ _ => fA t (by omega)) k8⟩
    (hT.fr ⟨by rw [fC 81 (by omega)], by rw [fC 133 (by omega)], by rw [fC 0 (by omega)], by rw [fC 133 (by omega)]⟩ (fun k _ => fC k (by omega))) (by rw [fC 0 (by omega)]) (by rw [fC 133 (by omega)]) (fun k _ => fC k (by omega)) (fC 135 (by omega))
set_option maxHeartbeats 1000000 in
theorem jp_with (hL : LRok LR) {a b c : Int32} (hn : 146 ≤ n) (hn2 : n ≤ 226) (hI : Iv LR n X) : JP g (Iv LR) mX11_with mX12_with [.int a, .int b, .int c] n X := by
  obtain ⟨hX, hK, hT, hB⟩ := id hI
  obtain ⟨⟨-, -, -, -, e4, e5', -, -⟩, -, -, ⟨cp, hcp, ep⟩, -⟩ := hK.1
  obtain ⟨M, hM, e23, e5, eix, mb, hmb, eb1, eb2⟩ := hK.meals
  have i1 := cnt_iff (x := X 23 0) (v := a) (c := M) (by omega) e23
  have i2 := cnt_iff (x := X 2 0) (v := b) (c := cp) (by omega) (e4.trans ep)
  by_cases h : 0 ≤ a ∧ a < X 23 0
  · have hm1 := i1.mp h
    rw [e5'] at hm1
    by_cases h' : 0 ≤ b ∧ b < X 2 0
    · have hm2 := i2.mp h'
      rw [e4] at hm2
      by_cases hc : 1 ≤ c ∧ c ≤ 999
      · obtain ⟨m, hm, rfl⟩ := cnt_num (by omega) e23 h
        obtain ⟨p, hp, rfl⟩ := cnt_num (by omega) (e4.trans ep) h'
        have hbm : ¬ nb (X 1 6) m ↔ hb (X 134 8) m := by rw [eb1, eb2]; exact nb_hb (by omega)
        by_cases w : hb (X 134 8) m
        · exact jp_of hn hn2 (e_of vX11_with (Nat.le_of_ble_eq_true rfl) (cat_of rfl) (bX11_with_0_0 (Nat.le_of_ble_eq_true rfl) hn hX h h' hc (hbm.mpr w) ⟨rfl, rfl⟩)) (e_of vX12_with (Nat.le_of_ble_eq_true rfl) (cat_of rfl) (bX12_with_0_0 (Nat.le_of_ble_eq_true rfl) hn hX hm1 hm2 hc w ⟨rfl, rfl⟩)) hI
        · have wc : ¬ ¬ nb (X 1 6) m := fun z => w (hbm.mp z)
          obtain ⟨k, q, hk, ek, h1, hi, h0⟩ := (hK.2.2.2.1 m (by omega)).2.2.2
          have hcnt : cCnt X m = nI k := cnt_eq (A := X 134) (fun t ht => ⟨(h1 t ht).2.1, by rw [(h1 t ht).2.2.2.2.2]; exact (h1 t ht).2.2.2.1⟩) hi h0
          obtain ⟨X1, hX1⟩ : ∃ Y : LX, Y = lx_up X (26 + 1 + m) p c := ⟨_, rfl⟩
          have hS1 : Sh n X1 := by rw [hX1]; exact hX.upA (by rw [lyr_26 m (by omega)]; exact (by decide : 0 < 2))
          have x134 : X1 134 = X 134 := by rw [hX1, up_ne (by omega)]
          by_cases hin : ∃ t, t < k ∧ q t = p
          · obtain ⟨s, hs, es⟩ := hin
            have hg : ¬ X (26 + 1 + m) p = 0 := fun z => by
              have a4 := (h1 s hs).2.2.2.1
              rw [← (h1 s hs).2.2.2.2.2, es, z] at a4
              exact absurd a4 (by decide)
            obtain ⟨Y, hY⟩ : ∃ Y : LX, Y = lx_up (lx_up (lx_up X1 134 (318 + 13 * m + (3 + s)) (nI p)) 134 (318 + 13 * m + (8 + s)) c) 134 (318 + 13 * m + 2) (if nI k < nI s + 1 then nI s + 1 else nI k) := ⟨_, rfl⟩
            have hSY : Sh n Y := by rw [hY]; exact ((hS1.upA (by decide +kernel)).upA (by decide +kernel)).upA (by decide +kernel)
            have emax : (if nI k < nI s + 1 then nI s + 1 else nI k) = nI k := if_neg (by rw [nI_1, nI_ltI (by omega) (by omega)]; omega)
            have y2 : Y 134 (318 + 13 * m + 2) = nI k := by rw [hY, up_it, emax]
            have yP : ∀ t, t < 5 → Y 134 (318 + 13 * m + (3 + t)) = X 134 (318 + 13 * m + (3 + t)) := fun t ht => by
              by_cases z : t = s
              · subst z
                rw [hY, up_at (by omega), up_at (by omega), up_it, (h1 t hs).1, es]
              · rw [hY]; simp (disch := omega) only [up_at, x134]
            have yG : ∀ t, t < 5 → t ≠ s → Y 134 (318 + 13 * m + (8 + t)) = X 134 (318 + 13 * m + (8 + t)) := fun t ht z => by rw [hY]; simp (disch := omega) only [up_at, x134]
            have yGs : Y 134 (318 + 13 * m + (8 + s)) = c := by rw [hY, up_at (by omega), up_it]
            have yr : Y (26 + 1 + m) = X1 (26 + 1 + m) := by rw [hY]; simp (disch := omega) only [up_ne]
            have yrp : Y (26 + 1 + m) p = c := by rw [yr, hX1, up_it]
            have yro : ∀ i, i ≠ p → Y (26 + 1 + m) i = X (26 + 1 + m) i := fun i z => by rw [yr, hX1, up_at z]
            have fA : ∀ t, t < 318 + 13 * m + 2 ∨ 318 + 13 * m + 13 ≤ t → Y 134 t = X 134 t := fun t z => by rw [hY]; simp (disch := omega) only [up_at, x134]
            have fC : ∀ k, k ≠ 134 ∧ k ≠ 26 + 1 + m → Y k = X k := fun k z => by rw [hY, up_ne z.1, up_ne z.1, up_ne z.1, hX1, up_ne z.2]
            have hml : mealR Y (Y 134) m := by
              refine ⟨k, q, hk, y2, fun t ht => ?_, hi, fun i hi2 hq => ?_⟩
              · obtain ⟨g1, g2, g3, g4, g5, g6⟩ := h1 t ht
                rw [yP t (by omega), fA 4 (by omega)]
                by_cases z : t = s
                · subst z
                  rw [yGs, es, yrp]
                  exact ⟨by rw [g1, es], by omega, by rw [← es]; exact g3, hc.1, hc.2, rfl⟩
                · rw [yG t (by omega) z, yro (q t) (fun e => z (hi t s ht hs (e.trans es.symm)))]
                  exact ⟨g1, g2, g3, g4, g5, g6⟩
              · rw [yro i (fun e => hq s hs (es.trans e.symm))]
                exact h0 i hi2 hq
            have hcY : cCnt X1 m = nI k := by
              have e : cCnt Y m = nI k := cnt_eq (A := Y 134) (k := k) (q := q) (fun t ht => ⟨(h1 t ht).2.1, by
                by_cases z : t = s
                · subst z
                  rw [es, yrp]; exact hc.1
                · rw [yro (q t) (fun e => z (hi t s ht hs (e.trans es.symm))), (h1 t ht).2.2.2.2.2]; exact (h1 t ht).2.2.2.1⟩) hi (fun i hi2 hq => by rw [yro i (fun e => hq s hs (es.trans e.symm))]; exact h0 i hi2 hq)
              unfold cCnt at e ⊢
              rw [← yr]; exact e
            refine jp_of (X1 := X1) (X2 := Y) hn hn2 (e_of vX11_with (Nat.le_of_ble_eq_true rfl) (cat_of rfl) (bX11_with_0_3 (Nat.le_of_ble_eq_true rfl) hn hX h h' hc wc (by omega) (by omega) hg (by omega) ⟨by rw [← hX1, hcY], hX1.symm⟩)) (e_of vX12_with (Nat.le_of_ble_eq_true rfl) (cat_of rfl) (bX12_with_0_1 (Nat.le_of_ble_eq_true rfl) hn hS1 (by rw [x134]; exact hm1) (by rw [x134]; exact hm2) hc (by rw [x134]; exact w) (by omega) ?_)) (iv_meal hL hI (by omega) hSY fC fA hml)
            rw [x134, ek]
            refine with_loop (s := s) (Nat.le_of_ble_eq_true rfl) hn hS1 (by omega) hk (by omega) (fun t ht e => ?_) (bX12_with_62_2 (Nat.le_of_ble_eq_true rfl) hn hS1 (nI_ge hs (by omega)) (by omega) (by rw [x134, (h1 s hs).1, es]) (show ¬ nI s = nI 5 by rw [nI_eq (by omega) (by omega)]; omega) (by omega) (by omega) ⟨by rw [up_it, emax], hY.symm⟩)
            rw [x134, (h1 t (by omega)).1, nI_eq (by have := (h1 t (by omega)).2.1; omega) (by omega)] at e
            have := hi t s (by omega) hs (e.trans es.symm)
            omega
          · have hno : ∀ t, t < k → q t ≠ p := fun t ht e => hin ⟨t, ht, e⟩
            have hg : X (26 + 1 + m) p = 0 := h0 p (by omega) hno
            rcases Nat.lt_or_ge k 5 with hk5 | hk5
            · obtain ⟨Y, hY⟩ : ∃ Y : LX, Y = lx_up (lx_up (lx_up X1 134 (318 + 13 * m + (3 + k)) (nI p)) 134 (318 + 13 * m + (8 + k)) c) 134 (318 + 13 * m + 2) (if nI k < nI k + 1 then nI k + 1 else nI k) := ⟨_, rfl⟩
              have hSY : Sh n Y := by rw [hY]; exact ((hS1.upA (by decide +kernel)).upA (by decide +kernel)).upA (by decide +kernel)
              have emax : (if nI k < nI k + 1 then nI k + 1 else nI k) = nI (k + 1) := by rw [nI_1]; exact if_pos (nI_lt (by omega) (by omega))
              have y2 : Y 134 (318 + 13 * m + 2) = nI (k + 1) := by rw [hY, up_it, emax]
              have yP : ∀ t, t < k → Y 134 (318 + 13 * m + (3 + t)) = X 134 (318 + 13 * m + (3 + t)) := fun t ht => by rw [hY]; simp (disch := omega) only [up_at, x134]
              have yPk : Y 134 (318 + 13 * m + (3 + k)) = nI p := by rw [hY, up_at (by omega), up_at (by omega), up_it]
              have yG : ∀ t, t < k → Y 134 (318 + 13 * m + (8 + t)) = X 134 (318 + 13 * m + (8 + t)) := fun t ht => by rw [hY]; simp (disch := omega) only [up_at, x134]
              have yGk : Y 134 (318 + 13 * m + (8 + k)) = c := by rw [hY, up_at (by omega), up_it]
              have yr : Y (26 + 1 + m) = X1 (26 + 1 + m) := by rw [hY]; simp (disch := omega) only [up_ne]
              have yrp : Y (26 + 1 + m) p = c := by rw [yr, hX1, up_it]
              have yro : ∀ i, i ≠ p → Y (26 + 1 + m) i = X (26 + 1 + m) i := fun i z => by rw [yr, hX1, up_at z]
              have fA : ∀ t, t < 318 + 13 * m + 2 ∨ 318 + 13 * m + 13 ≤ t → Y 134 t = X 134 t := fun t z => by rw [hY]; simp (disch := omega) only [up_at, x134]
              have fC : ∀ k, k ≠ 134 ∧ k ≠ 26 + 1 + m → Y k = X k := fun k z => by rw [hY, up_ne z.1, up_ne z.1, up_ne z.1, hX1, up_ne z.2]
              have hq2 : ∀ t, t < k → (if t = k then p else q t) = q t := fun t ht => if_neg (by omega)
              have hinj : ∀ s t, s < k + 1 → t < k + 1 → (if s = k then p else q s) = (if t = k then p else q t) → s = t := by
                intro s t hs ht e
                by_cases z1 : s = k
                · by_cases z2 : t = k
                  · omega
                  · rw [if_pos z1, if_neg z2] at e
                    exact absurd e.symm (hno t (by omega))
                · by_cases z2 : t = k
                  · rw [if_neg z1, if_pos z2] at e
                    exact absurd e (hno s (by omega))
                  · rw [if_neg z1, if_neg z2] at e
                    exact hi s t (by omega) (by omega) e
              have hrest : ∀ i, i < 14 → (∀ t, t < k + 1 → (if t = k then p else q t) ≠ i) → Y (26 + 1 + m) i = 0 := by
                intro i hi2 hq
                have z : i ≠ p := fun e => hq k (by omega) (by rw [if_pos rfl]; exact e.symm)
                rw [yro i z]
                exact h0 i hi2 (fun t ht => by have := hq t (by omega); rw [hq2 t ht] at this; exact this)
              have hml : mealR Y (Y 134) m := by
                refine ⟨k + 1, fun t => if t = k then p else q t, by omega, y2, fun t ht => ?_, hinj, hrest⟩
                rw [fA 4 (by omega)]
                by_cases z : t = k
                · subst z
                  simp only [if_true]
                  rw [yPk, yGk, yrp]
                  exact ⟨rfl, by omega, by rw [ep, nI_lt_iff (by omega) (by omega)]; exact hp, hc.1, hc.2, rfl⟩
                · obtain ⟨g1, g2, g3, g4, g5, g6⟩ := h1 t (by omega)
                  simp only [if_neg z]
                  rw [yP t (by omega), yG t (by omega), yro (q t) (hno t (by omega))]
                  exact ⟨g1, g2, g3, g4, g5, g6⟩
              have hcY : cCnt X1 m = nI (k + 1) := by
                have e : cCnt Y m = nI (k + 1) := cnt_eq (A := Y 134) (k := k + 1) (q := fun t => if t = k then p else q t) (fun t ht => by
                  by_cases z : t = k
                  · subst z
                    show (if t = t then p else q t) < 14 ∧ 1 ≤ Y (26 + 1 + m) (if t = t then p else q t)
                    rw [if_pos rfl, yrp]; exact ⟨by omega, hc.1⟩
                  · show (if t = k then p else q t) < 14 ∧ 1 ≤ Y (26 + 1 + m) (if t = k then p else q t)
                    rw [if_neg z, yro (q t) (hno t (by omega)), (h1 t (by omega)).2.2.2.2.2]
                    exact ⟨(h1 t (by omega)).2.1, (h1 t (by omega)).2.2.2.1⟩) hinj hrest
                unfold cCnt at e ⊢
                rw [← yr]; exact e
              refine jp_of (X1 := X1) (X2 := Y) hn hn2 (e_of vX11_with (Nat.le_of_ble_eq_true rfl) (cat_of rfl) (bX11_with_0_2 (Nat.le_of_ble_eq_true rfl) hn hX h h' hc wc (by omega) (by omega) hg (by omega) (by rw [hcnt]; exact nI_lt (b := 5) hk5 (by omega)) ⟨by rw [← hX1, hcY], hX1.symm⟩)) (e_of vX12_with (Nat.le_of_ble_eq_true rfl) (cat_of rfl) (bX12_with_0_1 (Nat.le_of_ble_eq_true rfl) hn hS1 (by rw [x134]; exact hm1) (by rw [x134]; exact hm2) hc (by rw [x134]; exact w) (by omega) ?_)) (iv_meal hL hI (by omega) hSY fC fA hml)
              rw [x134, ek]
              refine with_loop (s := k) (Nat.le_of_ble_eq_true rfl) hn hS1 (by omega) hk (by omega) (fun t ht e => ?_) (bX12_with_62_4 (Nat.le_of_ble_eq_true rfl) hn hS1 (nI_le (by omega) (by omega)) (show ¬ nI k = nI 5 by rw [nI_eq (by omega) (by omega)]; omega) (by omega) (by omega) (by omega) ⟨by rw [up_it, emax], hY.symm⟩)
              rw [x134, (h1 t ht).1, nI_eq (by have := (h1 t ht).2.1; omega) (by omega)] at e
              exact hno t ht e
            · have hk6 : k = 5 := by omega
              subst hk6
              refine jp_of hn hn2 (e_of vX11_with (Nat.le_of_ble_eq_true rfl) (cat_of rfl) (bX11_with_0_1 (Nat.le_of_ble_eq_true rfl) hn hX h h' hc wc (by omega) (by omega) hg (by omega) (by rw [hcnt]; decide +kernel) ⟨rfl, rfl⟩)) (e_of vX12_with (Nat.le_of_ble_eq_true rfl) (cat_of rfl) (bX12_with_0_1 (Nat.le_of_ble_eq_true rfl) hn hX hm1 hm2 hc w (by omega) ?_)) hI
              rw [ek]
              refine with_loop (s := 5) (Nat.le_of_ble_eq_true rfl) hn hX (by omega) hk (by omega) (fun t ht e => ?_) (bX12_with_62_3 hn hX (nI_le (by omega) (by omega)) rfl ⟨rfl, rfl⟩)
              rw [(h1 t ht).1, nI_eq (by have := (h1 t ht).2.1; omega) (by omega)] at e
              exact hno t ht e
      · exact jp_of hn hn2 (e_of vX11_with (Nat.le_of_ble_eq_true rfl) (cat_of rfl) (bX11_with_0_4 (Nat.le_of_ble_eq_true rfl) hn hX h h' hc ⟨rfl, rfl⟩)) (e_of vX12_with (Nat.le_of_ble_eq_true rfl) (cat_of rfl) (bX12_with_0_2 (Nat.le_of_ble_eq_true rfl) hn hX hm1 hm2 hc ⟨rfl, rfl⟩)) hI
    · have hm2 := fun w => h' (i2.mpr w)
      rw [e4] at hm2
      exact jp_of hn hn2 (e_of vX11_with (Nat.le_of_ble_eq_true rfl) (cat_of rfl) (bX11_with_0_5 (Nat.le_of_ble_eq_true rfl) hn hX h h' ⟨rfl, rfl⟩)) (e_of vX12_with (Nat.le_of_ble_eq_true rfl) (cat_of rfl) (bX12_with_0_3 (Nat.le_of_ble_eq_true rfl) hn hX hm1 hm2 ⟨rfl, rfl⟩)) hI
  · have hm1 := fun w => h (i1.mpr w)
    rw [e5'] at hm1
    exact jp_of hn hn2 (e_of vX11_with (Nat.le_of_ble_eq_true rfl) (cat_of rfl) (bX11_with_0_6 (Nat.le_of_ble_eq_true rfl) hn hX h ⟨rfl, rfl⟩)) (e_of vX12_with (Nat.le_of_ble_eq_true rfl) (cat_of rfl) (bX12_with_0_4 (Nat.le_of_ble_eq_true rfl) hn hX hm1 ⟨rfl, rfl⟩)) hI
end WITH
