/-! PLAN, 15: pack. -/
section JPPACK2
variable {LR : LX → (Nat → Int32) → Prop} {g : GG} {d n : Nat} {X : LX}
theorem jp_pack (hLR : LRok LR) {a : Int32} (hn : 146 ≤ n) (hn2 : n ≤ 226) (hI : Iv LR n X) : JP g (Iv LR) mX11_pack mX12_pack [.int a] n X := by
  obtain ⟨hX, hK, hT, hB⟩ := id hI
  obtain ⟨⟨r0, -, r3, -, -, -, -, r7⟩, ⟨T, hTb, eT⟩, x3, -, -, -, ⟨L7, hL7, e7⟩⟩ := hK.1
  by_cases h : 1 ≤ a ∧ a ≤ 5000
  · by_cases hp : X 1 8 = 0
    · obtain ⟨F, P, st, un, N0, hS⟩ := plan_set hK
      obtain ⟨L, hL, ea⟩ := i_num (N := 5000) (by omega) (Int32.le_trans (by decide) h.1) h.2
      obtain ⟨hGi, -, -, -, hGm⟩ := id hS
      obtain ⟨⟨gF, gP⟩, g37, g2, g23, g69, gk, gs, gNb, gN⟩ := id hGi
      obtain ⟨-, m6, m4, -, ms, mu⟩ := id hGm
      have h3 : X 134 3 = 0 := by rw [← r3, hp]
      obtain ⟨s, hs⟩ : ∃ s : DS, s = ((fun l => ix (X 134 (628 + 5 * l + 3))), (fun l => X 134 (628 + 5 * l + 4)), (fun p => X 134 (10 + 8 * p + 6)), 0) := ⟨_, rfl⟩
      have s1 : ∀ l, l < 40 → s.1 l ≤ 99999 ∧ X 134 (628 + 5 * l + 3) = nI (s.1 l) := fun l hl => by
        obtain ⟨-, ⟨v, hv, e⟩, -⟩ := hK.2.2.2.2.2.2.2.1.2.2.2.2.2.1 l hl
        rw [hs]
        show ix (X 134 (628 + 5 * l + 3)) ≤ 99999 ∧ X 134 (628 + 5 * l + 3) = nI (ix (X 134 (628 + 5 * l + 3)))
        rw [e, ix_nI (by omega)]
        exact ⟨hv, rfl⟩
      have s2 : ∀ l, s.2.1 l = X 134 (628 + 5 * l + 4) := fun l => by rw [hs]
      have s3 : ∀ p, s.2.2.1 p = X 134 (10 + 8 * p + 6) := fun p => by rw [hs]
      have s4 : s.2.2.2 = 0 := by rw [hs]
      have hst : ∀ p, p < P → pS1 (ptC X p) s.1 L7 = st p := fun p hp => by
        have e1 : mStock X (nI p) = nI (pS1 (ptC X p) s.1 L7) := by
          unfold mStock
          rw [e7, ix_nI (by omega)]
          refine sum_nI (fun l hl => ?_)
          obtain ⟨q0, -⟩ := hK.2.2.2.2.2.2.1 l (by omega)
          show (if X 134 (628 + 5 * l + 0) = nI p then X 134 (628 + 5 * l + 3) else 0) = nI (if decide (X 70 l = nI p) = true then s.1 l else 0)
          rw [← q0]
          by_cases c : X 70 l = nI p
          · rw [if_pos c, if_pos (decide_eq_true c), (s1 l (by omega)).2]
          · rw [if_neg c, if_neg (fun w => c (of_decide_eq_true w))]; rfl
        have hb : pS1 (ptC X p) s.1 L7 ≤ L7 * 99999 := nsum_le (fun l hl => by
          show (if ptC X p l = true then s.1 l else 0) ≤ 99999
          by_cases c : ptC X p l = true
          · rw [if_pos c]; exact (s1 l (by omega)).1
          · rw [if_neg c]; exact Nat.zero_le _)
        have hb2 : L7 * 99999 ≤ 40 * 99999 := Nat.mul_le_mul_right _ hL7
        have h29 := (ms p hp).1
        rw [(ms p hp).2, nI_eq (by omega) (by omega)] at e1
        exact e1.symm
      have hOk : ∀ q, (sR (X 134) F P L st un N0).2.2 = some q → enC F P st (fun f => mvO N0 f (q.2.2 f)) = true := pS_ok F (Nat.le_refl _) N0 0 0 (fun _ => none) (L, false, none) (fun f hf => by omega) (fun _ _ => rfl) (fun q hq => by cases hq)
      have hMe : ∀ q, (sR (X 134) F P L st un N0).2.2 = some q → ∀ f, f < F → ∀ e, q.2.2 f = some e → e.1 < P ∧ e.2 < P ∧ e.1 ≠ e.2 := fun q hq f hf e he => by
        have hm := pS_mem (en := enC F P st) (Pr := prA (X 134) N0 P) (sr := srA un N0) F (Nat.le_refl _) N0 0 0 (fun _ => none) (L, false, none) (fun f hf => by omega) (fun q hq => by cases hq) q hq f hf e he
        obtain ⟨m1, m2, m3⟩ := gl_mem (Nat.le_refl _) hm
        obtain ⟨l1, l2, -⟩ := of_decide_eq_true m3
        exact ⟨m1, m2, fun w => by rw [w, l2] at l1; omega⟩
      refine jp_rel (fun r W => (¬ pRs (sR (X 134) F P L st un N0) = 0 ∧ r = pRs (sR (X 134) F P L st un N0) ∧ Sh n W ∧ ∀ k, k ≤ 86 ∨ 109 ≤ k → W k = X k) ∨ (pRs (sR (X 134) F P L st un N0) = 0 ∧ ∃ q s', (sR (X 134) F P L st un N0).2.2 = some q ∧ s' = dFa (ptC X) L7 (fun f => mvO N0 f (q.2.2 f)) F P F s ∧ r = s'.2.2.2 ∧ Sh n W ∧ (∀ k, k ≠ 1 → k < 57 ∨ 68 < k → k ≠ 73 → k ≠ 74 → k ≠ 75 → k ≤ 86 ∨ 109 ≤ k → W k = X k) ∧ W 1 8 = 1 ∧ (∀ j, j ≠ 8 → W 1 j = X 1 j) ∧ Fz X F T W ∧ Lt W L7 s')) hn hn2 (e_of vX11_pack (Nat.le_of_ble_eq_true rfl) (cat_of rfl) (bX11_pack_0_1 (Nat.le_of_ble_eq_true rfl) hn hX h hp (qX11_pack_32 (d' := 100) (rest := []) hn (by omega) (by decide) (by rw [ea]; exact c_X8_seek (by omega) hn hX hL hS) (fun v W hv => ?_)))) (fun r W hW => ?_)
      · obtain ⟨w1, wf, wN, rfl, wq⟩ := hv
        by_cases c : pRs (sR (X 134) F P L st un N0) = 0
        · obtain ⟨q, hq⟩ := pRs_0 c
          have s76 : same76 X W := fun k _ h2 => wf k (by omega)
          have ept : ptC W = ptC X := by
            funext p l
            exact decide_eq_decide.mpr (by rw [wf 70 (by omega)])
          have hLt : Lt W L7 s := ⟨by rw [wf 69 (by omega), r7, e7], fun l hl => ⟨(s1 l hl).1, by rw [wf 73 (by omega), (hK.2.2.2.2.2.2.1 l hl).2.2.2.1, (s1 l hl).2], by rw [wf 74 (by omega), (hK.2.2.2.2.2.2.1 l hl).2.2.2.2, s2]⟩, fun p hp => by rw [wf 75 (by omega), (hK.2.1 p hp).2.2.2.2.2.1, s3]⟩
          refine bX11_pack_35_0 hn w1 c (qX11_pack_44 (d' := 100) (rest := []) hn (by omega) (by decide) (c_packAll (F := F) (P := P) (L := L7) (T := T) (q := q.2.2) (s := s) (st := st) (N0 := N0) (by omega) hn w1 gF gP hL7 (by rw [wf 37 (by omega), g37]) (by rw [wf 2 (by omega), g2]) (by rw [num_cg (wf 23 (by omega))]; exact g23) (by rw [okK_cg s76]; exact gk) (by omega) (by rw [wf 1 (by omega), r0, eT]) (fun p hp => (gs p hp).1) wN (wq q hq).2.2 hLt s4 (fun p hp => by rw [ept]; exact hst p hp) (hOk q hq)) (fun v V hv => ?_))
          obtain ⟨s', hs', rfl, v1, vk, v18, v1j, vz, vL⟩ := hv
          refine bX11_pack_47_0 hn v1 ⟨_, rfl, Or.inr ⟨c, q, s', hq, by rw [hs', ept], rfl, v1, fun k h1 h2 h3 h4 h5 h6 => by rw [vk k h1 h2 h3 h4 h5, wf k h6], v18, fun j hj => by rw [v1j j hj, wf 1 (by omega)], fun f hf w hw => ?_, vL⟩⟩
          rw [vz f hf w hw, cBox_cg s76 g23 hf, wf _ (by omega)]
        · exact bX11_pack_35_1 hn w1 c ⟨_, rfl, Or.inl ⟨c, rfl, w1, wf⟩⟩
      · rcases hW with ⟨c, rfl, w1, wf⟩ | ⟨c, q, s', hq, hs', rfl, w1, wk, w18, w1j, wz, wL⟩
        · have hIW := iv_seek hLR hI w1 wf
          refine e_of vX12_pack (Nat.le_of_ble_eq_true rfl) (cat_of rfl) (bX12_pack_0_1 (Nat.le_of_ble_eq_true rfl) hn w1 h (by rw [wf 134 (by omega), h3]; decide) (qX12_pack_29 (d' := 100) (rest := []) hn (by omega) (by decide) (by rw [ea]; exact m_find2 (by omega) hn hL hS hIW wf) (fun v V hv => ?_)))
          obtain ⟨v1, vf, vj, vN, rfl, vq⟩ := hv
          exact bX12_pack_32_0 hn v1 c ⟨rfl, iv_plan hLR hIW v1 vf vj⟩
        · have e134 : W 134 = X 134 := wk 134 (by omega) (by omega) (by omega) (by omega) (by omega) (by omega)
          have e140 : W 140 = X 140 := wk 140 (by omega) (by omega) (by omega) (by omega) (by omega) (by omega)
          have hG : Gm W F P st un := by
            obtain ⟨-, -, -, m7, -, -⟩ := id hGm
            refine ⟨⟨gF, gP⟩, by rw [e134, m6], by rw [e134, m4], by rw [num_cg e134]; exact m7, fun p hp => ⟨(ms p hp).1, ?_⟩, fun a ha c hc => by rw [e134]; exact mu a ha c hc⟩
            rw [← (ms p hp).2]
            unfold mStock
            rw [e134]
          have hM := m_findPlan (g := g) (d := 100) (X := W) (N0 := N0) (by omega) hn w1 hL (by rw [okN_cg e134]; exact okN_of hK) hG gNb (fun f hf p hp => by rw [mNd_cg e134 e140, need_eq hK (by omega) (by rw [m6]; exact nI_lt hf (by omega)) (by omega), gN f hf p hp])
          rw [e134] at hM
          refine e_of vX12_pack (Nat.le_of_ble_eq_true rfl) (cat_of rfl) (bX12_pack_0_1 (Nat.le_of_ble_eq_true rfl) hn w1 h (by rw [e134, h3]; decide) (qX12_pack_29 (d' := 100) (rest := []) hn (by omega) (by decide) (by rw [ea]; exact hM) (fun v V hv => ?_)))
          obtain ⟨v1, vf, vj, vN, rfl, vq⟩ := hv
          have v134 : V 134 = X 134 := by rw [vf 134 (by omega) (by omega) (by omega) (by omega), e134]
          have hen' := of_decide_eq_true (hOk q hq)
          have hb29 : ∀ f, f < F → ∀ p, p < P → mvO N0 f (q.2.2 f) p < 2 ^ 29 := fun f hf p hp => by
            have h1 := hen' p hp
            have h2 := tn_ge (N := fun f => mvO N0 f (q.2.2 f)) (p := p) hf
            have h3 := (ms p hp).1
            have h4 : (fun f => mvO N0 f (q.2.2 f)) f p = mvO N0 f (q.2.2 f) p := rfl
            omega
          refine bX12_pack_32_1 hn v1 c ?_
          refine m_pack1 (X := X) (F := F) (P := P) (L := L7) (N0 := N0) (q := q.2.2) (s := s) (by omega) hn v1 gF gP hL7 (by rw [v134, m6]) (by rw [v134, m4]) vN (vq q hq).2 (hMe q hq) hb29 (fun l hl => by rw [v134, (hK.2.2.2.2.2.2.1 l hl).1]) ⟨by rw [v134, e7], fun l hl => ⟨(s1 l hl).1, by rw [v134, (s1 l hl).2], by rw [v134, s2]⟩, fun p hp => by rw [v134, s3]⟩ s4 (fun Z hZ zk zA zL => ?_)
          rw [← hs'] at zL ⊢
          have hgt : ∀ l, L7 ≤ l → s'.2.1 l = s.2.1 l := fun l hl => by rw [hs']; exact gt_keepF hl F s
          have zA' : Fa X Z := fun t ht => by rw [zA t ht, v134]
          refine m_boxes hLR hK (by omega) hn gF m6 (by omega) eT hL7 e7 h3 hgt (fun l _ => s2 l) hZ zA' zL wL wz (fun U hU uk uB uA u3 => ⟨rfl, ?_⟩)
          have uW : ∀ k, k ≠ 133 → k ≠ 134 → k ≠ 140 → k ≠ 143 → k ≠ 144 → U k = W k := fun k h1 h2 h3 h4 h5 => by rw [uk k h2, zk k h2 h3, vf k h1 h3 h4 h5]
          have uj : ∀ j, j ≠ 21 → j ≠ 22 → j ≠ 28 → j ≠ 29 → U 133 j = X 133 j := fun j h1 h2 h3 h4 => by rw [uk 133 (by omega), zk 133 (by omega) (by omega), vj j h1 h2 h3 h4, wk 133 (by omega) (by omega) (by omega) (by omega) (by omega) (by omega)]
          have uX : ∀ k, k ≠ 1 → k < 57 ∨ 68 < k → k ≠ 73 → k ≠ 74 → k ≠ 75 → k ≤ 86 ∨ 109 ≤ k → k ≠ 133 → k ≠ 134 → k ≠ 140 → k ≠ 143 → k ≠ 144 → U k = X k := fun k h1 h2 h3 h4 h5 h6 h7 h8 h9 h10 h11 => by rw [uW k h7 h8 h9 h10 h11, wk k h1 h2 h3 h4 h5 h6]
          have hKU : KR LR U (U 134) := by
            refine pk_kr (F := F) (T := T) (L := L7) (i := F) (s := s) (s' := s') hLR hK (Nat.le_refl _) gF m6 (by omega) hL7 e7 hgt (fun l _ => s2 l) (fun k h1 h2 h3 h4 h5 h6 h7 => uX k h6 h5 h2 h3 h4 (by omega) (by omega) h1 (by omega) (by omega) (by omega)) (fun j hj => by rw [uW 1 (by omega) (by omega) (by omega) (by omega) (by omega), w1j j hj]) (by rw [uW 1 (by omega) (by omega) (by omega) (by omega) (by omega), w18, u3]) (by rw [u3]; exact Or.inr rfl) (fun t ht h2 => by rw [uA t (by omega) ht, zA' t ⟨h2.1, by omega⟩]) (fun f hf w hw => by rw [uW _ (by omega) (by omega) (by omega) (by omega) (by omega), wz f hf w hw]) uB ⟨by rw [uW 69 (by omega) (by omega) (by omega) (by omega) (by omega)]; exact wL.1, fun l hl => by rw [uW 73 (by omega) (by omega) (by omega) (by omega) (by omega), uW 74 (by omega) (by omega) (by omega) (by omega) (by omega)]; exact wL.2.1 l hl, fun p hp => by rw [uW 75 (by omega) (by omega) (by omega) (by omega) (by omega)]; exact wL.2.2 p hp⟩ ⟨by rw [uA 7 (by omega) (by omega)]; exact zL.1, fun l hl => by rw [uA _ (by omega) (by omega), uA _ (by omega) (by omega)]; exact zL.2.1 l hl, fun p hp => by rw [uA _ (by omega) (by omega)]; exact zL.2.2 p hp⟩
          have uX' : ∀ k, 0 = k ∨ k = 81 ∨ k = 82 ∨ (125 ≤ k ∧ k ≤ 132) ∨ (135 ≤ k ∧ k ≤ 139) ∨ 146 ≤ k → U k = X k := fun k hk => uX k (by omega) (by omega) (by omega) (by omega) (by omega) (by omega) (by omega) (by omega) (by omega) (by omega) (by omega)
          exact iv_now hLR hI hU hKU (hT.fr ⟨by rw [uX' 81 (by omega)], uj 4 (by omega) (by omega) (by omega) (by omega), by rw [uX' 0 (by omega)], uj 6 (by omega) (by omega) (by omega) (by omega)⟩ (fun k _ => uX' k (by omega))) (by rw [uX' 0 (by omega)]) (uj 2 (by omega) (by omega) (by omega) (by omega)) (fun k _ => uX' k (by omega)) (uX' 135 (by omega))
    · exact jp_of hn hn2 (e_of vX11_pack (Nat.le_of_ble_eq_true rfl) (cat_of rfl) (bX11_pack_0_0 (Nat.le_of_ble_eq_true rfl) hn hX h hp ⟨rfl, rfl⟩)) (e_of vX12_pack (Nat.le_of_ble_eq_true rfl) (cat_of rfl) (bX12_pack_0_0 (Nat.le_of_ble_eq_true rfl) hn hX h (by
        rcases x3 with w | w
        · exact absurd (r3.trans w) hp
        · exact w) ⟨rfl, rfl⟩)) hI
  · exact jp_of hn hn2 (e_of vX11_pack (Nat.le_of_ble_eq_true rfl) (cat_of rfl) (bX11_pack_0_2 (Nat.le_of_ble_eq_true rfl) hn hX h ⟨rfl, rfl⟩)) (e_of vX12_pack (Nat.le_of_ble_eq_true rfl) (cat_of rfl) (bX12_pack_0_2 (Nat.le_of_ble_eq_true rfl) hn hX h ⟨rfl, rfl⟩)) hI
end JPPACK2
