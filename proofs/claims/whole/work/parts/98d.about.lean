/-! LAW, 7: about, both sides. -/
section ABOUT
variable {g : GG} {d n : Nat} {X : LX}
theorem or_bd {F : Nat → Int32} : ∀ {N : Nat}, (∀ p, p < N → ∃ a, a < 2 ^ 8 ∧ F p = nI a) → ∃ b, b < 2 ^ 8 ∧ orTo F N = nI b
  | 0, _ => ⟨0, by decide, rfl⟩
  | N + 1, h => by
    obtain ⟨b, hb, e⟩ := or_bd (fun p hp => h p (Nat.lt_succ_of_lt hp))
    obtain ⟨a, ha, f⟩ := h N (Nat.lt_succ_self N)
    refine ⟨b ||| a, Nat.or_lt_two_pow hb ha, ?_⟩
    show orTo F N ||| F N = _
    rw [e, f, nx_or]
theorem all_bd {LR : LX → (Nat → Int32) → Prop} (hK : KR LR X (X 134)) (m : Nat) : ∃ b, b < 2 ^ 8 ∧ cAll X m = nI b := by
  obtain ⟨⟨-, -, -, -, e4, -, -, -⟩, -, -, ⟨P, hP, eP⟩, -⟩ := hK.1
  unfold cAll
  refine or_bd (fun p hp => ?_)
  rw [e4, eP, ix_nI (by omega)] at hp
  by_cases c : X (26 + 1 + m) p ≤ 0
  · exact ⟨0, by decide, by rw [if_pos c]; rfl⟩
  · obtain ⟨a, ha, ea⟩ := (hK.2.2.2.2.2.2.2.1.1 p (by omega)).2
    exact ⟨a, by omega, by rw [if_neg c, (hK.2.1 p (by omega)).1, ea]⟩
def nmK (X : LX) (m : Nat) : Nat → Int32
  | 0 => mGr X m
  | 1 => X 134 (318 + 13 * m + 2)
  | 2 => ones (mAll X m)
  | 3 => X 134 (318 + 13 * m + 0)
  | _ => mCost X m
theorem nmK_cg {X' : LX} (h : X' 134 = X 134) {m s : Nat} : nmK X' m s = nmK X m s := by
  match s with
  | 0 => show mGr X' m = mGr X m; simp only [mGr, mMany, h]
  | 1 => show X' 134 _ = X 134 _; rw [h]
  | 2 => show ones (mAll X' m) = ones (mAll X m); simp only [mAll, mMany, mQ, h]
  | 3 => show X' 134 _ = X 134 _; rw [h]
  | s + 4 => show mCost X' m = mCost X m; simp only [mCost, mMany, mQ, h]
theorem k_ofMark {s m : Nat} (hd : 5 ≤ d) (hn : 146 ≤ n) (hX : Sh n X) (hs : s < 5) (hm : m < 10) (hk : okM X m) : Ex g mX12_ofMark d n n [.ref 133, .int (nI s), .int (nI m)] X (rt (nmK X m s) X) := by
  refine e_of vX12_ofMark (Nat.le_of_ble_eq_true rfl) (cat_of rfl) ?_
  rcases (show s = 0 ∨ s = 1 ∨ s = 2 ∨ s = 3 ∨ s = 4 by omega) with rfl | rfl | rfl | rfl | rfl
  · exact bX12_ofMark_0_0 (by omega) hn hX rfl hm hk ⟨rfl, rfl⟩
  · exact bX12_ofMark_0_1 (by omega) hn hX (by decide) rfl (by omega) ⟨rfl, rfl⟩
  · exact bX12_ofMark_0_2 (by omega) hn hX (by decide) (by decide) rfl hm hk ⟨rfl, rfl⟩
  · exact bX12_ofMark_0_3 (by omega) hn hX (by decide) (by decide) (by decide) rfl (by omega) ⟨rfl, rfl⟩
  · exact bX12_ofMark_0_4 (by omega) hn hX (by decide) (by decide) (by decide) (by decide) hm hk ⟨rfl, rfl⟩
theorem c_isMarked {m y : Nat} {T1 : List (Nat × Nat)} (hd : 8 ≤ d) (hn : 146 ≤ n) (hX : Sh n X) (hm : m < 10) (hP : num X 2 0 14) (h77 : ¬ X 77 0 = 0) (hy : T1.length = y) (hy2 : y ≤ 118) (e2 : X 77 2 = nI y) (w1 : wf 5 T1 0) (q : ∀ i t, T1[i]? = some t → X 78 i = cTk t) {nm : Nat → Int32} (h0 : nm 0 = cGr X m) (h1 : nm 1 = cCnt X m) (h2 : nm 2 = bc (cAll X m)) (h3 : nm 3 = X 24 m) (h4 : nm 4 = cCost X m) : Ex g mX1_isMarked d n n [.ref 1, .int (nI m)] X (fun v W => v = some (.int (if evT nm T1 [] = 0 then 0 else 1)) ∧ Sh n W ∧ ∀ k, k ≠ 79 → k ≠ 80 → W k = X k) := by
  obtain ⟨P, hP, eP⟩ := hP
  have hc : ∀ W : LX, (∀ k, k ≠ 80 → W k = X k) → num W 2 0 14 ∧ cCnt W m = cCnt X m ∧ cAll W m = cAll X m ∧ cCost W m = cCost X m := fun W hW => ⟨⟨P, hP, by rw [hW 2 (by omega)]; exact eP⟩, by simp only [cCnt, hW (26 + 1 + m) (by omega)], by simp only [cAll, hW (26 + 1 + m) (by omega), hW 2 (by omega), hW 3 (by omega)], by simp only [cCost, hW (26 + 1 + m) (by omega), hW 2 (by omega), hW 5 (by omega)]⟩
  have u1 : ∀ v k, k ≠ 80 → lx_up X 80 0 v k = X k := fun v k hk => up_ne hk
  have u2 : ∀ v w k, k ≠ 80 → lx_up (lx_up X 80 0 v) 80 1 w k = X k := fun v w k hk => by rw [up_ne hk, up_ne hk]
  have u4 : ∀ v w x z k, k ≠ 80 → lx_up (lx_up (lx_up (lx_up X 80 0 v) 80 1 w) 80 2 x) 80 3 z k = X k := fun v w x z k hk => by rw [up_ne hk, up_ne hk, up_ne hk, up_ne hk]
  refine e_of vX1_isMarked (Nat.le_of_ble_eq_true rfl) (cat_of rfl) (bX1_isMarked_0_1 (by omega) hn hX h77 hm (hc _ (u2 _ _)).1 hm (hc _ (u4 _ _ _ _)).1 ?_)
  rw [(hc _ (u4 _ _ _ _)).2.2.2, (hc _ (u2 _ _)).2.2.1, (hc _ (u1 _)).2.1]
  obtain ⟨Y, hY⟩ : ∃ Y : LX, Y = lx_up (lx_up (lx_up (lx_up (lx_up X 80 0 (cGr X m)) 80 1 (cCnt X m)) 80 2 (bc (cAll X m))) 80 3 (X 24 m)) 80 4 (cCost X m) := ⟨_, rfl⟩
  rw [← hY]
  have hYS : Sh n Y := by rw [hY]; exact ((((hX.upA (by decide +kernel)).upA (by decide +kernel)).upA (by decide +kernel)).upA (by decide +kernel)).upA (by decide +kernel)
  have yk : ∀ k, k ≠ 80 → Y k = X k := fun k hk => by rw [hY, up_ne hk, up_ne hk, up_ne hk, up_ne hk, up_ne hk]
  have ynm : ∀ s, s < 5 → Y 80 s = nm s := fun s hs => by
    rcases (show s = 0 ∨ s = 1 ∨ s = 2 ∨ s = 3 ∨ s = 4 by omega) with rfl | rfl | rfl | rfl | rfl
    · rw [h0, hY]; simp (disch := omega) only [up_at, up_it]
    · rw [h1, hY]; simp (disch := omega) only [up_at, up_it]
    · rw [h2, hY]; simp (disch := omega) only [up_at, up_it]
    · rw [h3, hY]; simp (disch := omega) only [up_at, up_it]
    · rw [h4, hY]; simp (disch := omega) only [up_at, up_it]
  have hW : Ex g mX2_worthOfMark (d - 1) n n [.ref 77] Y (fun v Z => v = some (.int (evT nm T1 [])) ∧ Sh n Z ∧ ∀ k, k ≠ 79 → Z k = Y k) := by
    refine e_of vX2_worthOfMark (Nat.le_of_ble_eq_true rfl) (cat_of rfl) (bX2_worthOfMark_0_0 hn hYS ?_)
    rw [yk 77 (by omega), e2]
    refine qX2_worthOfMark_6 (d' := d - 2) (rest := []) hn (by omega) (by decide) (c_worth (N := 5) (nm := nm) (fr := 0) (l := T1) (by omega) hn hYS (by omega) (by omega) (by omega) w1 (fun i t hi => by rw [yk 78 (by omega), Nat.zero_add, q i t hi]) ynm) (fun v V hv => ?_)
    obtain ⟨rfl, v1, vk⟩ := hv
    exact bX2_worthOfMark_9_0 hn v1 ⟨rfl, v1, vk⟩
  refine qX1_isMarked_99 (d' := d - 1) (rest := []) hn (by omega) (by decide) hW (fun v V hv => ?_)
  obtain ⟨rfl, v1, vk⟩ := hv
  have hk : ∀ k, k ≠ 79 → k ≠ 80 → V k = X k := fun k h1 h2 => by rw [vk k h1, yk k h2]
  by_cases c : evT nm T1 [] = 0
  · exact bX1_isMarked_102_1 hn v1 c ⟨by rw [if_pos c], v1, hk⟩
  · exact bX1_isMarked_102_0 hn v1 c ⟨by rw [if_neg c], v1, hk⟩
theorem jp_about {a b : Int32} (hn : 146 ≤ n) (hn2 : n ≤ 226) (hI : Iv LRw n X) : JP g (Iv LRw) mX11_about mX12_about [.int a, .int b] n X := by
  have hL : LRok LRw := LRpt.ok lrw_pt
  obtain ⟨hX, hK, hT, hB⟩ := id hI
  obtain ⟨⟨-, -, -, -, e4, -, -, -⟩, -, -, ⟨P, hP, eP⟩, -⟩ := id hK.1
  obtain ⟨M, hM, e23, e5, eix, -⟩ := hK.meals
  have e235 : X 23 0 = X 134 5 := by rw [e23, e5]
  have hLR : LRw X (X 134) := hK.2.2.2.2.2.2.2.2
  obtain ⟨⟨e0, h01⟩, y, z, hyz, hz, e1, e2, hTt⟩ := hLR
  have i1 := cnt_iff (x := X 23 0) (v := a) (c := M) (by omega) e23
  by_cases h : 0 ≤ a ∧ a < X 23 0
  · have hm1 := i1.mp h
    rw [e235] at hm1
    obtain ⟨m, hm, rfl⟩ := cnt_num (by omega) e23 h
    have hR := hK.2.2.2.1 m (by omega)
    have hkm : okM X m := ok_meal hR.2.2.2
    have nP : num X 2 0 14 := ⟨P, hP, e4.trans eP⟩
    have hall := all_eq hR.2.2.2 hK.2.1 nP e4
    have hcost := cost_eq hR.2.2.2 hK.2.1 nP e4
    have hgr := gr_eq hR.2.2.2
    have hcnt : cCnt X m = X 134 (318 + 13 * m + 2) := by
      obtain ⟨k, q, hk, ek, h1, hi, h3⟩ := hR.2.2.2
      rw [ek]
      exact cnt_eq (A := X 134) (q := q) (fun t ht => ⟨(h1 t ht).2.1, by rw [(h1 t ht).2.2.2.2.2]; exact (h1 t ht).2.2.2.1⟩) hi h3
    by_cases q : b.toInt < 0 ∨ 6 < b.toInt
    · refine jp_of hn hn2 (e_of vX11_about (Nat.le_of_ble_eq_true rfl) (cat_of rfl) (bX11_about_0_0 (Nat.le_of_ble_eq_true rfl) hn hX h q ⟨rfl, rfl⟩)) (e_of vX12_about (Nat.le_of_ble_eq_true rfl) (cat_of rfl) (bX12_about_0_8 (Nat.le_of_ble_eq_true rfl) hn hX hm1 (fun w => ?_) ⟨rfl, rfl⟩)) hI
      rw [Int32.le_iff_toInt_le, Int32.le_iff_toInt_le, show (0 : Int32).toInt = 0 by decide, show (6 : Int32).toInt = 6 by decide] at w
      omega
    · obtain ⟨t, ht, rfl⟩ := i_cases 6 (by omega) q
      rcases (show t = 0 ∨ t = 1 ∨ t = 2 ∨ t = 3 ∨ t = 4 ∨ t = 5 ∨ t = 6 by omega) with e | e | e | e | e | e | e <;> subst e
      · exact jp_of hn hn2 (e_of vX11_about (Nat.le_of_ble_eq_true rfl) (cat_of rfl) (bX11_about_0_1 (Nat.le_of_ble_eq_true rfl) hn hX h rfl (by omega) ⟨rfl, rfl⟩)) (e_of vX12_about (Nat.le_of_ble_eq_true rfl) (cat_of rfl) (bX12_about_0_2 (Nat.le_of_ble_eq_true rfl) hn hX hm1 (by decide +kernel) rfl (by omega) ⟨by rw [hR.1], rfl⟩)) hI
      · exact jp_of hn hn2 (e_of vX11_about (Nat.le_of_ble_eq_true rfl) (cat_of rfl) (bX11_about_0_2 (Nat.le_of_ble_eq_true rfl) hn hX h rfl (by omega) ⟨rfl, rfl⟩)) (e_of vX12_about (Nat.le_of_ble_eq_true rfl) (cat_of rfl) (bX12_about_0_3 (Nat.le_of_ble_eq_true rfl) hn hX hm1 (by decide +kernel) rfl (by omega) ⟨by rw [hR.2.1], rfl⟩)) hI
      · exact jp_of hn hn2 (e_of vX11_about (Nat.le_of_ble_eq_true rfl) (cat_of rfl) (bX11_about_0_3 (Nat.le_of_ble_eq_true rfl) hn hX h rfl (by omega) nP ⟨rfl, rfl⟩)) (e_of vX12_about (Nat.le_of_ble_eq_true rfl) (cat_of rfl) (bX12_about_0_4 (Nat.le_of_ble_eq_true rfl) hn hX hm1 (by decide +kernel) rfl (by omega) hkm ⟨by rw [hall], rfl⟩)) hI
      · exact jp_of hn hn2 (e_of vX11_about (Nat.le_of_ble_eq_true rfl) (cat_of rfl) (bX11_about_0_4 (Nat.le_of_ble_eq_true rfl) hn hX h rfl (by omega) nP ⟨rfl, rfl⟩)) (e_of vX12_about (Nat.le_of_ble_eq_true rfl) (cat_of rfl) (bX12_about_0_5 (Nat.le_of_ble_eq_true rfl) hn hX hm1 (by decide +kernel) rfl (by omega) hkm ⟨by rw [hcost], rfl⟩)) hI
      · exact jp_of hn hn2 (e_of vX11_about (Nat.le_of_ble_eq_true rfl) (cat_of rfl) (bX11_about_0_5 (Nat.le_of_ble_eq_true rfl) hn hX h rfl (by omega) ⟨rfl, rfl⟩)) (e_of vX12_about (Nat.le_of_ble_eq_true rfl) (cat_of rfl) (bX12_about_0_6 (Nat.le_of_ble_eq_true rfl) hn hX hm1 (by decide +kernel) rfl (by omega) ⟨by rw [hcnt], rfl⟩)) hI
      · exact jp_of hn hn2 (e_of vX11_about (Nat.le_of_ble_eq_true rfl) (cat_of rfl) (bX11_about_0_6 (Nat.le_of_ble_eq_true rfl) hn hX h rfl (by omega) ⟨rfl, rfl⟩)) (e_of vX12_about (Nat.le_of_ble_eq_true rfl) (cat_of rfl) (bX12_about_0_7 (Nat.le_of_ble_eq_true rfl) hn hX hm1 (by decide +kernel) rfl (by omega) hkm ⟨by rw [hgr], rfl⟩)) hI
      · by_cases h70 : X 77 0 = 0
        · refine jp_of (r := 0) (X1 := X) hn hn2 (e_of vX11_about (Nat.le_of_ble_eq_true rfl) (cat_of rfl) (bX11_about_0_7 (Nat.le_of_ble_eq_true rfl) hn hX h rfl (qX11_about_133 (d' := 100) (rest := []) hn (by omega) (by decide) (post1 := rt 0 X) (e_of vX1_isMarked (Nat.le_of_ble_eq_true rfl) (cat_of rfl) (bX1_isMarked_0_0 hn hX h70 ⟨rfl, rfl⟩)) (fun v W hv => ?_)))) (e_of vX12_about (Nat.le_of_ble_eq_true rfl) (cat_of rfl) (bX12_about_0_1 (Nat.le_of_ble_eq_true rfl) hn hX hm1 (by decide +kernel) (by decide +kernel) (by rw [← e0, h70]; decide) ⟨rfl, rfl⟩)) hI
          obtain ⟨rfl, hW⟩ := hv
          rw [hW]
          exact bX11_about_136_1 (Nat.le_of_ble_eq_true rfl) hn hX (fun w => w rfl) ⟨rfl, rfl⟩
        · have h21 : X 134 2 = 1 := by
            rcases h01 with w | w
            · exact absurd (e0.trans w) h70
            · exact w
          obtain ⟨T1, T2, l1, l2, w1, w2, q1, q2, q3, q4⟩ := hTt h21
          obtain ⟨ab, hab, eab⟩ := all_bd hK m
          have n2 : nmK X m 2 = bc (cAll X m) := by
            show ones (mAll X m) = _
            rw [← hall, eab, bc_ones ab (by omega)]
          refine jp_rel (fun r W => r = (if evT (nmK X m) T1 [] = 0 then 0 else 1) ∧ Sh n W ∧ ∀ k, k ≠ 79 → k ≠ 80 → W k = X k) hn hn2 (e_of vX11_about (Nat.le_of_ble_eq_true rfl) (cat_of rfl) (bX11_about_0_7 (Nat.le_of_ble_eq_true rfl) hn hX h rfl (qX11_about_133 (d' := 100) (rest := []) hn (by omega) (by decide) (c_isMarked (nm := nmK X m) (by omega) hn hX (by omega) nP h70 l1 (by omega) e2 w1 (fun i t hi => (q1 i t hi).1) hgr.symm hcnt.symm n2 hR.1.symm hcost.symm) (fun v W hv => ?_)))) (fun r W hW => ?_)
          · obtain ⟨rfl, v1, vk⟩ := hv
            by_cases c : evT (nmK X m) T1 [] = 0
            · rw [if_pos c]
              exact bX11_about_136_1 (Nat.le_of_ble_eq_true rfl) hn v1 (fun w => w rfl) ⟨_, rfl, rfl, v1, vk⟩
            · rw [if_neg c]
              exact bX11_about_136_0 (Nat.le_of_ble_eq_true rfl) hn v1 (by decide) ⟨_, rfl, rfl, v1, vk⟩
          · obtain ⟨rfl, v1, vk⟩ := hW
            have hIW := iv_79 lrw_pt hI v1 vk
            have v134 : W 134 = X 134 := vk 134 (by omega) (by omega)
            refine e_of vX12_about (Nat.le_of_ble_eq_true rfl) (cat_of rfl) (bX12_about_0_0 (Nat.le_of_ble_eq_true rfl) hn v1 (by rw [v134]; exact hm1) (by decide +kernel) (by decide +kernel) (by rw [v134]; exact h21) (qX12_about_124 (d' := 100) (rest := []) hn (by omega) (by decide) (c_worked0 (nm := nmK X m) (T1 := T1) (by omega) hn v1 (by omega) w1 (fun i t hi => by rw [v134]; exact (q1 i t hi).2) (by rw [v134, l1]; exact q2) (fun Z hZ zk s hs => ⟨fun _ => ?_, fun w => absurd rfl w⟩)) (fun v V hv => ?_)))
            · have z134 : Z 134 = X 134 := by rw [zk 134 (by omega), v134]
              have := k_ofMark (g := g) (d := 99) (X := Z) (s := s) (m := m) (by omega) hn hZ hs (by omega) (by rw [okM_cg z134]; exact hkm)
              rw [nmK_cg z134] at this
              exact this
            · obtain ⟨rfl, u1, uk⟩ := hv
              have hIV := iv_scr hL hIW u1 (fun k hk => uk k (by omega)) (by rw [uk 81 (by omega)]) (fun t _ => by rw [uk 133 (by omega)])
              by_cases c : evT (nmK X m) T1 [] = 0
              · rw [if_pos c]
                exact bX12_about_127_1 hn u1 c ⟨rfl, hIV⟩
              · rw [if_neg c]
                exact bX12_about_127_0 hn u1 c ⟨rfl, hIV⟩
  · have hm1 := fun w => h (i1.mpr w)
    rw [e235] at hm1
    exact jp_of hn hn2 (e_of vX11_about (Nat.le_of_ble_eq_true rfl) (cat_of rfl) (bX11_about_0_8 (Nat.le_of_ble_eq_true rfl) hn hX h ⟨rfl, rfl⟩)) (e_of vX12_about (Nat.le_of_ble_eq_true rfl) (cat_of rfl) (bX12_about_0_9 (Nat.le_of_ble_eq_true rfl) hn hX hm1 ⟨rfl, rfl⟩)) hI
end ABOUT
