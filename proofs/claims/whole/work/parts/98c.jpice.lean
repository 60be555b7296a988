/-! LAW, 6: ice, both sides. -/
section JPICE
variable {g : GG} {d n : Nat} {X : LX}
theorem jp_ice {a : Int32} (hn : 146 ≤ n) (hn2 : n ≤ 226) (hI : Iv LRw n X) : JP g (Iv LRw) mX11_ice mX12_ice [.int a] n X := by
  have hL : LRok LRw := LRpt.ok lrw_pt
  obtain ⟨hX, hK, hT, hB⟩ := id hI
  obtain ⟨⟨-, r1, -, -, -, -, e6, -⟩, -, -, -, -, ⟨F, hF, ef⟩, -⟩ := hK.1
  obtain ⟨M, hM, e23, e5, eix, -⟩ := hK.meals
  have hLR : LRw X (X 134) := hK.2.2.2.2.2.2.2.2
  obtain ⟨⟨e0, h01⟩, y, z, hyz, hz, e1, e2, hTt⟩ := hLR
  have i1 := cnt_iff (x := X 37 0) (v := a) (c := F) (by omega) (e6.trans ef)
  rw [show X 37 0 - 1 = X 134 6 - 1 by rw [e6]] at i1
  by_cases h : 0 ≤ a ∧ a < X 37 0
  · have hm := i1.mp h
    obtain ⟨f, hfj, ea⟩ := nI_of (x := a) (Int32.not_lt.mpr h.1)
    have hf : f < F := by
      have := h.2
      rw [ea, e6, ef, nI_ltI hfj (by omega)] at this
      exact this
    have hlt : nI f < X 134 6 := by rw [ef]; exact nI_lt hf (by omega)
    have hbx := box_eq hK (by omega) hlt
    have hkm : ∀ m, m < 10 → okM X m := fun m hm => ok_meal (hK.2.2.2.1 m hm).2.2.2
    rw [ea] at h hm ⊢
    by_cases hz0 : cBox X f = 0 ∨ X 77 0 = 0
    · refine jp_of (r := 0) (X1 := X) hn hn2 (e_of vX11_ice (Nat.le_of_ble_eq_true rfl) (cat_of rfl) (bX11_ice_0_0 (Nat.le_of_ble_eq_true rfl) hn hX h (qX11_ice_22 (d' := 100) (rest := []) hn (by omega) (by decide) (post1 := rt 0 X) ?_ (fun v W hv => ?_)))) (e_of vX12_ice (Nat.le_of_ble_eq_true rfl) (cat_of rfl) ?_) hI
      · refine e_of vX1_iceOf (Nat.le_of_ble_eq_true rfl) (cat_of rfl) ?_
        by_cases c : cBox X f = 0
        · exact bX1_iceOf_0_2 (by omega) hn hX (by omega) (okK_of hK) c ⟨rfl, rfl⟩
        · rcases hz0 with w | w
          · exact absurd w c
          · exact bX1_iceOf_0_0 (by omega) hn hX (by omega) (okK_of hK) c w ⟨rfl, rfl⟩
      · obtain ⟨rfl, hW⟩ := hv
        rw [hW]
        exact bX11_ice_25_0 hn hX ⟨rfl, rfl⟩
      · by_cases c : X 134 2 = 0
        · exact bX12_ice_0_2 (Nat.le_of_ble_eq_true rfl) hn hX hm c ⟨rfl, rfl⟩
        · rcases hz0 with w | w
          · exact bX12_ice_0_0 (Nat.le_of_ble_eq_true rfl) hn hX hm c (by omega) (okN_of hK) (by rw [← hbx, w]) ⟨rfl, rfl⟩
          · exact absurd (e0.symm.trans w) c
    · have hb0 : ¬ cBox X f = 0 := fun w => hz0 (Or.inl w)
      have h70 : ¬ X 77 0 = 0 := fun w => hz0 (Or.inr w)
      have h21 : X 134 2 = 1 := by
        rcases h01 with w | w
        · exact absurd (e0.trans w) h70
        · exact w
      obtain ⟨T1, T2, l1, l2, w1, w2, q1, q2, q3, q4⟩ := hTt h21
      obtain ⟨b, hb1, eb⟩ := box_lt hK (by omega) hlt
      rw [eix] at hb1
      have hout : ∀ m, M ≤ m → m < 10 → ¬ hb (mBox X f) m := fun m h1 h2 w => by
        rw [eb] at w
        have := hb_lt hb1 (by omega) w
        omega
      obtain ⟨-, p39, -, p41, -⟩ := (hK.2.2.2.2.1 f (by omega)).1 hlt
      have n0 : nmI X f 0 = sumTo (fun m => if nb (cBox X f) m then 0 else cGr X m) M * X 39 f := by
        show grI X f (mBox X f) 10 = _
        unfold grI
        rw [hbx, sum_mul, show (10 : Nat) = M + (10 - M) by omega, sum_ext (fun i h1 h2 => if_neg (hout i h1 (by omega)))]
        refine sum_cg (fun m hm => ?_)
        by_cases c : hb (mBox X f) m
        · rw [if_pos c, if_neg ((nb_hb (by omega)).mpr c), gr_eq (hK.2.2.2.1 m (by omega)).2.2.2, p39]
        · rw [if_neg c, if_pos ((nh_nb (by omega)).mp c), Int32.zero_mul]
      have hraw : ∀ i, i ≤ M → rwC X (cBox X f) i = rwM X (mBox X f) i := by
        intro i
        induction i with
        | zero => intro _; rfl
        | succ i ih =>
          intro hi
          rw [rwC_s, rwM_s, ih (by omega), hbx]
          have r24 := (hK.2.2.2.1 i (by omega)).1
          have i3 : isKd X i 3 ↔ X 134 (318 + 13 * i + 0) = 3 := by
            unfold isKd
            rw [r24]
            constructor
            · rintro (w | w | w)
              · exact absurd w (by decide)
              · exact w
              · exact absurd w.1 (by decide)
            · exact fun w => Or.inr (Or.inl w)
          by_cases c : hb (mBox X f) i ∧ X 134 (318 + 13 * i + 0) = 3
          · rw [if_pos c, if_pos ⟨(nb_hb (by omega)).mpr c.1, i3.mpr c.2⟩]
          · rw [if_neg c, if_neg (fun w => c ⟨(nb_hb (by omega)).mp w.1, i3.mp w.2⟩)]
      have hraw2 : ∀ j, M + j ≤ 10 → rwM X (mBox X f) (M + j) = rwM X (mBox X f) M := by
        intro j
        induction j with
        | zero => intro _; rfl
        | succ j ih =>
          intro hj
          rw [show M + (j + 1) = M + j + 1 from rfl, rwM_s, if_neg (fun w => hout (M + j) (by omega) (by omega) w.1), ih (by omega)]
      have n3 : nmI X f 3 = rwC X (cBox X f) M := by
        rw [hraw M (Nat.le_refl _)]
        show rwM X (mBox X f) 10 = _
        have := hraw2 (10 - M) (by omega)
        rw [show M + (10 - M) = 10 by omega] at this
        exact this
      refine jp_rel (fun r W => r = mxm (evT (nmI X f) T2 []) ∧ Sh n W ∧ ∀ k, k ≠ 79 → k ≠ 80 → W k = X k) hn hn2 (e_of vX11_ice (Nat.le_of_ble_eq_true rfl) (cat_of rfl) (bX11_ice_0_0 (Nat.le_of_ble_eq_true rfl) hn hX h (qX11_ice_22 (d' := 100) (rest := []) hn (by omega) (by decide) (c_iceOf (F := F) (nm := nmI X f) (by omega) hn hX (by omega) (okK_of hK) hM e23 hb0 h70 l2 hz e1 e2 w2 (fun i t hi => (q3 i t hi).1) n0 p41.symm r1.symm n3) (fun v W hv => ?_)))) (fun r W hW => ?_)
      · obtain ⟨rfl, v1, vk⟩ := hv
        exact bX11_ice_25_0 hn v1 ⟨_, rfl, rfl, v1, vk⟩
      · obtain ⟨rfl, v1, vk⟩ := hW
        have hIW := iv_79 lrw_pt hI v1 vk
        have v134 : W 134 = X 134 := vk 134 (by omega) (by omega)
        have hokN : okN W := by rw [okN_cg v134]; exact okN_of hK
        refine e_of vX12_ice (Nat.le_of_ble_eq_true rfl) (cat_of rfl) (bX12_ice_0_1 (Nat.le_of_ble_eq_true rfl) hn v1 (by rw [v134]; exact hm) (by rw [v134, h21]; decide) (by omega) hokN (by rw [mBox_cg v134, ← hbx]; exact hb0) (qX12_ice_37 (d' := 100) (rest := [.int 9999, .int 0]) hn (by omega) (by decide) (c_worked1 (nm := nmI X f) (T1 := T1) (T2 := T2) (by omega) hn v1 (by omega) w1 w2 (fun i t hi => by rw [v134]; exact (q1 i t hi).2) (by rw [v134, l1]; exact q2) (fun i t hi => by rw [v134, l1]; exact (q3 i t hi).2) (by rw [v134, l1, l2]; exact q4) (fun Z hZ zk s hs => ⟨fun w => absurd w (by decide), fun _ => ?_⟩)) (fun v V hv => ?_)))
        · have z134 : Z 134 = X 134 := by rw [zk 134 (by omega), v134]
          have := k_ofIce (g := g) (d := 99) (X := Z) (s := s) (f := f) (by omega) hn hZ hs (by omega) (by rw [okN_cg z134]; exact okN_of hK) (fun m hm => by rw [okM_cg z134]; exact hkm m hm)
          rw [nmI_cg z134] at this
          exact this
        · obtain ⟨rfl, u1, uk⟩ := hv
          exact bX12_ice_40_0 (Nat.le_of_ble_eq_true rfl) hn u1 ⟨rfl, iv_scr hL hIW u1 (fun k hk => uk k (by omega)) (by rw [uk 81 (by omega)]) (fun t _ => by rw [uk 133 (by omega)])⟩
  · exact jp_of hn hn2 (e_of vX11_ice (Nat.le_of_ble_eq_true rfl) (cat_of rfl) (bX11_ice_0_1 (Nat.le_of_ble_eq_true rfl) hn hX h ⟨rfl, rfl⟩)) (e_of vX12_ice (Nat.le_of_ble_eq_true rfl) (cat_of rfl) (bX12_ice_0_3 (Nat.le_of_ble_eq_true rfl) hn hX (fun w => h (i1.mpr w)) ⟨rfl, rfl⟩)) hI
end JPICE
