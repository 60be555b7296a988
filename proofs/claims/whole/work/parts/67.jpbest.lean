/-! THE CALLS, 24: best. -/
section JPBEST
variable {LR : LX → (Nat → Int32) → Prop} {g : GG} {n : Nat} {X : LX}
/-- the class's answer behind a search -/
theorem c_X6_seek {nn L : Nat} {M : Nat} {ts : Nat → Nat} (hn : 146 ≤ n) (hX : Sh n X) (hM : M ≤ 10) (hL : L ≤ 5000) (hnn : nn ≤ 4) (e23 : X 23 0 = nI M) (hP : num X 2 0 14) (hF : num X 37 0 12) (hts : ∀ m, m < 10 → ts m ≤ 15 ∧ X 25 m = nI (ts m)) : Ex g mX6_seek 100 n n [.ref 84, .int (nI nn), .int (nI L)] X (fun v W => ∃ (Z : LX) (s : BS), Mg n X Z ∧ s = bSr (grC Z) (cKb Z) (csC Z) M ts nn M 0 0 (L, false, none) ∧ (∀ k, k ≠ 84 → W k = Z k) ∧ Sh n W ∧ ((s.2.1 = true ∧ v = some (.int (-1000000004))) ∨ (s.2.1 = false ∧ s.2.2 = none ∧ v = some (.int (-1000000002))) ∨ (s.2.1 = false ∧ ∃ q, s.2.2 = some q ∧ v = some (.int 0) ∧ W 84 8 = q.1))) := by
  refine e_of vX6_seek (Nat.le_of_ble_eq_true rfl) (cat_of rfl) (bX6_seek_0_0 hn hX (qX6_seek_1 (d' := 99) (rest := []) hn (by omega) (by decide) (c_X6_gather (by omega) hn hX hP ⟨M, hM, e23⟩ hF) (fun v Z hv => ?_)))
  obtain ⟨rfl, hZ⟩ := hv
  obtain ⟨z1, z2, z3, z4, z5⟩ := id hZ
  obtain ⟨Y, hY⟩ : ∃ Y : LX, Y = lx_up (lx_up (lx_up (lx_up (lx_up Z 84 4 (nI L)) 84 5 0) 84 6 (-1)) 84 7 0) 84 8 0 := ⟨_, rfl⟩
  have hSY : Sh n Y := by
    rw [hY]
    exact ((((z1.upF (by decide +kernel) (by decide +kernel)).upF (by decide +kernel) (by decide +kernel)).upF (by decide +kernel) (by decide +kernel)).upF (by decide +kernel) (by decide +kernel)).upF (by decide +kernel) (by decide +kernel)
  have y84 : ∀ k, k ≠ 84 → Y k = Z k := fun k hk => by rw [hY, up_ne hk, up_ne hk, up_ne hk, up_ne hk, up_ne hk]
  have y3 : Y 84 3 = Z 84 3 := by rw [hY]; simp (disch := omega) only [up_at]
  have hB : Bc n Y L Y (L, false, none) := ⟨hSY, fun k _ => rfl, rfl, by rw [hY]; simp (disch := omega) only [up_at, up_it], Nat.le_refl _, by rw [hY, if_neg (fun w => by cases w)]; simp (disch := omega) only [up_at, up_it, Nat.sub_self]; rfl, by show Y 84 6 = -1; rw [hY]; simp (disch := omega) only [up_at, up_it]⟩
  have hE := c_seekFrom (g := g) (X := Y) (M := M) (ts := ts) hn hM hL (by rw [y84 23 (by omega), z2 23 (by omega) (by omega) (by omega), e23]) (by rw [num_cg (y84 37 (by omega)), num_cg (z2 37 (by omega) (by omega) (by omega))]; exact hF) (fun m hm => by rw [y84 25 (by omega), z2 25 (by omega) (by omega) (by omega)]; exact hts m hm) nn M hnn (Nat.le_refl _) 99 0 0 (L, false, none) Y (by omega) hB
  rw [Nat.sub_self] at hE
  refine bX6_seek_4_0 hn z1 ?_
  rw [← hY]
  refine qX6_seek_34 (d' := 99) (rest := []) hn (by omega) (by decide) hE (fun v W hv => ?_)
  obtain ⟨rfl, hW⟩ := hv
  have efun : bSr (grC Y) (cKb Y) (csC Y) M ts nn M 0 0 (L, false, none) = bSr (grC Z) (cKb Z) (csC Z) M ts nn M 0 0 (L, false, none) := by
    have e1 : grC Y = grC Z := by funext v; unfold grC; rw [y3]
    have e2 : cKb Y = cKb Z := by funext v; unfold cKb; rw [y84 37 (by omega), y84 85 (by omega)]
    have e3 : csC Y = csC Z := by funext v; unfold csC; rw [y84 23 (by omega), y84 86 (by omega)]
    rw [e1, e2, e3]
  rw [efun] at hW
  obtain ⟨w1, w2, w3, w4, w5, w6, w7⟩ := hW
  generalize hs : bSr (grC Z) (cKb Z) (csC Z) M ts nn M 0 0 (L, false, none) = s at w5 w6 w7
  have wf : ∀ k, k ≠ 84 → W k = Z k := fun k hk => by rw [w2 k hk, y84 k hk]
  by_cases hsp : s.2.1 = true
  · rw [if_pos hsp] at w6
    exact bX6_seek_37_0 hn w1 (by rw [w4, w6]; exact nI_ge (by omega) (by omega)) ⟨Z, s, hZ, hs.symm, wf, w1, Or.inl ⟨hsp, rfl⟩⟩
  · rw [if_neg hsp] at w6
    have hsf : s.2.1 = false := Bool.eq_false_iff.mpr hsp
    have c0 : W 84 5 ≤ W 84 4 := by rw [w4, w6]; exact nI_le (by omega) (by omega)
    cases hb : s.2.2 with
    | none =>
      rw [hb] at w7
      exact bX6_seek_37_1 hn w1 c0 (by rw [show W 84 6 = -1 from w7]; decide) ⟨Z, s, hZ, hs.symm, wf, w1, Or.inr (Or.inl ⟨hsf, hb, rfl⟩)⟩
    | some q =>
      rw [hb] at w7
      exact bX6_seek_37_2 hn w1 c0 (by rw [w7.1]; exact w7.2.2.2) ⟨Z, s, hZ, hs.symm, wf, w1, Or.inr (Or.inr ⟨hsf, q, hb, rfl, w7.2.2.1⟩)⟩
theorem jp_best (hLR : LRok LR) {a b : Int32} (hn : 146 ≤ n) (hn2 : n ≤ 226) (hI : Iv LR n X) : JP g (Iv LR) mX11_best mX12_best [.int a, .int b] n X := by
  obtain ⟨hX, hK, hT, hB⟩ := id hI
  obtain ⟨⟨-, -, -, -, e4, e5', e6, -⟩, -, -, ⟨P, hP, ep⟩, -, ⟨F, hF, ef⟩, -⟩ := hK.1
  obtain ⟨M, hM, e23, e5, eix, -⟩ := hK.meals
  by_cases h1 : 1 ≤ a ∧ a ≤ 4
  · by_cases h2 : 1 ≤ b ∧ b ≤ 2000
    · obtain ⟨nn, hnn, ea⟩ := i_num (N := 4) (by omega) (Int32.le_trans (by decide) h1.1) h1.2
      obtain ⟨L, hL, eb⟩ := i_num (N := 2000) (by omega) (Int32.le_trans (by decide) h2.1) h2.2
      have hnn0 : nn ≠ 0 := fun w => by rw [ea, w] at h1; exact absurd h1.1 (by decide)
      have hts : ∀ m, m < 10 → ix (X 134 (318 + 13 * m + 1)) ≤ 15 ∧ X 134 (318 + 13 * m + 1) = nI (ix (X 134 (318 + 13 * m + 1))) := fun m hm => by
        obtain ⟨t, ht, e⟩ := hK.2.2.2.2.2.2.2.1.2.2.1 m hm
        rw [e, ix_nI (by omega)]
        exact ⟨ht, rfl⟩
      have htsC : ∀ m, m < 10 → ix (X 134 (318 + 13 * m + 1)) ≤ 15 ∧ X 25 m = nI (ix (X 134 (318 + 13 * m + 1))) := fun m hm => ⟨(hts m hm).1, (hK.2.2.2.1 m hm).2.1.trans (hts m hm).2⟩
      have efun : ∀ Z, Mg n X Z → bSr (grC Z) (cKb Z) (csC Z) M (fun m => ix (X 134 (318 + 13 * m + 1))) nn M 0 0 (L, false, none) = bSrM X M (fun m => ix (X 134 (318 + 13 * m + 1))) nn M 0 0 (L, false, none) := fun Z hZ => by
        have w := bSr_cg (gr := grC Z) (gr' := fun w => grM X w 10) (kp := cKb Z) (kp' := mKb X) (cs := csC Z) (cs' := fun w => csM X w 10) (ts := fun m => ix (X 134 (318 + 13 * m + 1))) hM (fun k hk h0 => ⟨?_, kb_eq hK hZ (by rw [eix]; exact hk) h0, cs_eq2 hK hZ (by rw [eix]; exact hk)⟩) nn M (Nat.le_refl _) 0 0 (L, false, none) (Nat.pow_pos (by omega)) (fun w => absurd w hnn0)
        · exact w
        · unfold grC
          rw [hZ.2.2.1]
          exact gr_eq2 hK (by rw [eix]; exact hk)
      refine jp_rel (fun r W => r = bRes (bSrM X M (fun m => ix (X 134 (318 + 13 * m + 1))) nn M 0 0 (L, false, none)) ∧ Sh n W ∧ ∀ k, k ≠ 84 → k ≠ 85 → k ≠ 86 → W k = X k) hn hn2 (e_of vX11_best (Nat.le_of_ble_eq_true rfl) (cat_of rfl) (bX11_best_0_0 (Nat.le_of_ble_eq_true rfl) hn hX h1 h2 (qX11_best_29 (d' := 100) (rest := []) hn (by omega) (by decide) (by rw [ea, eb]; exact c_X6_seek hn hX hM (by omega) hnn e23 ⟨P, hP, e4.trans ep⟩ ⟨F, hF, e6.trans ef⟩ htsC) (fun v W hv => ?_)))) (fun r W hW => ?_)
      · obtain ⟨Z, s, hZ, es, wf, w1, hcase⟩ := hv
        have hfr : ∀ k, k ≠ 84 → k ≠ 85 → k ≠ 86 → W k = X k := fun k h1 h2 h3 => by rw [wf k h1, hZ.2.1 k h1 h2 h3]
        rw [efun Z hZ] at es
        rw [← es]
        rcases hcase with ⟨hsp, rfl⟩ | ⟨hsp, hno, rfl⟩ | ⟨hsp, q, hq, rfl, w8⟩
        · exact bX11_best_32_1 hn w1 (by decide) ⟨_, rfl, by unfold bRes; rw [if_pos hsp], w1, hfr⟩
        · exact bX11_best_32_1 hn w1 (by decide) ⟨_, rfl, by unfold bRes; rw [hsp, hno, if_neg (by decide)], w1, hfr⟩
        · exact bX11_best_32_0 hn w1 rfl ⟨_, rfl, by unfold bRes; rw [hsp, hq, if_neg (by decide), w8], w1, hfr⟩
      · obtain ⟨rfl, w1, wf⟩ := hW
        have w134 : W 134 = X 134 := wf 134 (by omega) (by omega) (by omega)
        have hIW : Iv LR n W := iv_scr hLR hI w1 (fun k hk => wf k (by omega) (by omega) (by omega)) (by rw [wf 81 (by omega) (by omega) (by omega)]) (fun t _ => by rw [wf 133 (by omega) (by omega) (by omega)])
        obtain ⟨Y, hY⟩ : ∃ Y : LX, Y = lx_up (lx_up (lx_up W 133 23 (-1)) 133 21 (nI L)) 133 22 0 := ⟨_, rfl⟩
        have hSY : Sh n Y := by
          rw [hY]
          exact ((w1.upF (by decide +kernel) (by decide +kernel)).upF (by decide +kernel) (by decide +kernel)).upF (by decide +kernel) (by decide +kernel)
        have y133 : ∀ k, k ≠ 133 → Y k = W k := fun k hk => by rw [hY, up_ne hk, up_ne hk, up_ne hk]
        have y134 : Y 134 = X 134 := by rw [y133 134 (by omega), w134]
        have yt : ∀ t, t < 21 ∨ 25 < t → Y 133 t = W 133 t := fun t ht => by rw [hY]; simp (disch := omega) only [up_at]
        have hBm : Bm n Y Y (L, false, none) := ⟨hSY, fun k _ => rfl, fun t _ => rfl, by show L ≤ 5000; omega, by rw [hY]; simp (disch := omega) only [up_at, up_it], by rw [hY, up_it, if_neg (fun w => by cases w)], by show Y 133 23 = -1; rw [hY]; simp (disch := omega) only [up_at, up_it]⟩
        have hE := m_menuFrom (g := g) (X := Y) (M := M) (ts := fun m => ix (X 134 (318 + 13 * m + 1))) hn hM (by rw [y134, e5]) (fun m hm => by rw [okM_cg y134]; exact ok_meal (hK.2.2.2.1 m hm).2.2.2) (by rw [num_cg y134]; exact ⟨F, hF, ef⟩) (fun m hm => by rw [y134]; exact hts m hm) nn M hnn (Nat.le_refl _) 100 0 0 (L, false, none) Y (by omega) (Nat.pow_pos (by omega)) hBm
        rw [Nat.sub_self] at hE
        have hg : (fun w => grM Y w 10) = fun w => grM X w 10 := by
          funext w
          have : ∀ i, grM Y w i = grM X w i := by
            intro i
            induction i with
            | zero => rfl
            | succ i ih => rw [grM_s, grM_s, ih, y134]
          exact this 10
        have hk2 : mKb Y = mKb X := by funext w; exact mKb_cg y134
        have hc2 : (fun w => csM Y w 10) = fun w => csM X w 10 := by
          funext w
          unfold csM
          exact sum_cg (fun m _ => by rw [mCost_cg y134])
        rw [ea, eb]
        refine e_of vX12_best (Nat.le_of_ble_eq_true rfl) (cat_of rfl) (bX12_best_0_0 (Nat.le_of_ble_eq_true rfl) hn w1 (by rw [← ea]; exact h1) (by rw [← eb]; exact h2) ?_)
        rw [← hY]
        refine qX12_best_43 (d' := 100) (rest := []) hn (by omega) (by decide) hE (fun v V hv => ?_)
        obtain ⟨rfl, hV⟩ := hv
        rw [show bSrM Y M (fun m => ix (X 134 (318 + 13 * m + 1))) nn M (nI 0) 0 (L, false, none) = bSrM X M (fun m => ix (X 134 (318 + 13 * m + 1))) nn M 0 0 (L, false, none) by unfold bSrM; rw [hg, hk2, hc2]; rfl] at hV
        obtain ⟨v1, v2, v3, v4, v5, v6, v7⟩ := hV
        generalize bSrM X M (fun m => ix (X 134 (318 + 13 * m + 1))) nn M 0 0 (L, false, none) = s at v4 v5 v6 v7
        have hIV : Iv LR n V := iv_scr hLR hIW v1 (fun k hk => by rw [v2 k (by omega), y133 k (by omega)]) (by rw [v2 81 (by omega), y133 81 (by omega)]) (fun t ht => by rw [v3 t (by omega), yt t (by omega)])
        by_cases hsp : s.2.1 = true
        · rw [if_pos hsp] at v6
          exact bX12_best_46_0 hn v1 (by rw [v6]; decide) ⟨by unfold bRes; rw [if_pos hsp], hIV⟩
        · rw [if_neg hsp] at v6
          cases hb : s.2.2 with
          | none =>
            rw [hb] at v7
            exact bX12_best_46_1 hn v1 v6 (by rw [show V 133 23 = -1 from v7]; decide) ⟨by unfold bRes; rw [if_neg hsp, hb], hIV⟩
          | some q =>
            rw [hb] at v7
            exact bX12_best_46_2 hn v1 v6 (by rw [v7.1]; exact v7.2.2.2) ⟨by unfold bRes; rw [if_neg hsp, hb, v7.1], hIV⟩
    · exact jp_of hn hn2 (e_of vX11_best (Nat.le_of_ble_eq_true rfl) (cat_of rfl) (bX11_best_0_1 (Nat.le_of_ble_eq_true rfl) hn hX h1 h2 ⟨rfl, rfl⟩)) (e_of vX12_best (Nat.le_of_ble_eq_true rfl) (cat_of rfl) (bX12_best_0_1 (Nat.le_of_ble_eq_true rfl) hn hX h1 h2 ⟨rfl, rfl⟩)) hI
  · exact jp_of hn hn2 (e_of vX11_best (Nat.le_of_ble_eq_true rfl) (cat_of rfl) (bX11_best_0_2 (Nat.le_of_ble_eq_true rfl) hn hX h1 ⟨rfl, rfl⟩)) (e_of vX12_best (Nat.le_of_ble_eq_true rfl) (cat_of rfl) (bX12_best_0_2 (Nat.le_of_ble_eq_true rfl) hn hX h1 ⟨rfl, rfl⟩)) hI
end JPBEST
