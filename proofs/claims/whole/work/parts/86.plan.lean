/-! PLAN, 7: both searches from their beginning; plan. -/
def pRs (s : PS) : Int32 := if s.2.1 = true then -1000000004 else match s.2.2 with
  | none => -1000000002
  | some _ => 0
/-- what the search finds -/
def sR (A : Nat → Int32) (F P L : Nat) (st : Nat → Nat) (un N0 : Nat → Nat → Nat) : PS := pS F (enC F P st) (prA A N0 P) (srA un N0) F N0 0 0 (fun _ => none) (L, false, none)
def Pst (X : LX) (F P : Nat) (st : Nat → Nat) (un N0 : Nat → Nat → Nat) : Prop := Gi X F P st N0 ∧ (∀ p, p < 14 → X 3 p = X 134 (10 + 8 * p + 0) ∧ X 4 p = X 134 (10 + 8 * p + 3)) ∧ (∀ f, f < F → X 38 f = X 134 (448 + 15 * f + 0)) ∧ (∀ a, a < 14 → ∀ c, c < 14 → un a c ≤ 99 ∧ X (8 + 1 + a) c = nI (un a c)) ∧ Gm X F P st un
section PLAN
variable {LR : LX → (Nat → Int32) → Prop} {g : GG} {d n F P L : Nat} {X : LX} {st : Nat → Nat} {un N0 : Nat → Nat → Nat}
theorem plan_set (hK : KR LR X (X 134)) : ∃ F P st un N0, Pst X F P st un N0 := by
  obtain ⟨⟨-, -, -, -, e4, e5', e6, e7⟩, -, -, ⟨P, hP, ep⟩, -, ⟨F, hF, ef⟩, ⟨Ln, hLn, eL⟩⟩ := hK.1
  obtain ⟨M, hM, e23, -⟩ := hK.meals
  have hst : ∀ p : Nat, ix (mStock X (nI p)) < 2 ^ 29 ∧ mStock X (nI p) = nI (ix (mStock X (nI p))) := fun p => by
    obtain ⟨k, hk, e⟩ := stock_nat hK (p := nI p)
    rw [e, ix_nI (by omega)]
    exact ⟨by omega, rfl⟩
  have hun : ∀ a, a < 14 → ∀ c, c < 14 → ix (X 134 (122 + 14 * a + c)) ≤ 99 ∧ X 134 (122 + 14 * a + c) = nI (ix (X 134 (122 + 14 * a + c))) := fun a ha c hc => by
    obtain ⟨u, hu, e⟩ := hK.2.2.2.2.2.2.2.1.2.1 a ha c hc
    rw [e, ix_nI (by omega)]
    exact ⟨hu, rfl⟩
  have hnd : ∀ f, f < F → ∀ p, p < 14 → ix (cNeed X f (cBox X f) p) ≤ 60000 ∧ cNeed X f (cBox X f) p = nI (ix (cNeed X f (cBox X f) p)) := fun f hf p hp => by
    obtain ⟨k, hk, e⟩ := need_nat hK (f := f) (v := cBox X f) (by omega) (by rw [ef]; exact nI_lt hf (by omega)) hp
    rw [e, ix_nI (by omega)]
    exact ⟨hk, rfl⟩
  refine ⟨F, P, fun p => ix (mStock X (nI p)), fun a c => ix (X 134 (122 + 14 * a + c)), fun f p => ix (cNeed X f (cBox X f) p), ⟨⟨hF, hP⟩, e6.trans ef, e4.trans ep, ⟨M, hM, e23⟩, ⟨Ln, hLn, e7.trans eL⟩, okK_of hK, fun p _ => ⟨(hst p).1, by rw [stock_eq hK]; exact (hst p).2⟩, fun f hf p hp => (hnd f hf p (by omega)).1, fun f hf p hp => (hnd f hf p (by omega)).2⟩, fun p hp => ⟨(hK.2.1 p hp).1, (hK.2.1 p hp).2.2.2.1⟩, fun f hf => ((hK.2.2.2.2.1 f (by omega)).1 (by rw [ef]; exact nI_lt hf (by omega))).1, fun a ha c hc => ⟨(hun a ha c hc).1, ?_⟩, ⟨hF, hP⟩, ef, ep, ⟨Ln, hLn, eL⟩, fun p _ => hst p, hun⟩
  rw [hK.2.2.1 a ha c hc]
  exact (hun a ha c hc).2
theorem c_X8_seek (hd : 40 ≤ d) (hn : 146 ≤ n) (hX : Sh n X) (hL : L ≤ 5000) (hS : Pst X F P st un N0) : Ex g mX8_seek d n n [.ref 87, .int (nI L)] X (fun v W => Sh n W ∧ (∀ k, k ≤ 86 ∨ 109 ≤ k → W k = X k) ∧ (∀ f, f < F → ∀ p, p < P → W (88 + 1 + f) p = nI (N0 f p)) ∧ v = some (.int (pRs (sR (X 134) F P L st un N0))) ∧ ∀ q, (sR (X 134) F P L st un N0).2.2 = some q → W 87 16 = nI q.1 ∧ q.1 ≤ 1000000 ∧ ∀ f, f < F → Cd W N0 f (W 108 f) (q.2.2 f)) := by
  obtain ⟨hGi, h3, h38, hun, hGm⟩ := hS
  obtain ⟨⟨gF, gP⟩, g37, g2, g23, g69, gk, gs, gNb, gN⟩ := id hGi
  refine e_of vX8_seek (Nat.le_of_ble_eq_true rfl) (cat_of rfl) (bX8_seek_0_0 hn hX (qX8_seek_1 (d' := d - 1) (rest := []) hn (by omega) (by decide) (c_gatherNeeds (by omega) hn hX hGi) (fun v Y hv => ?_)))
  obtain ⟨rfl, hY, ySp, yN⟩ := hv
  have yk := hY.2.1
  refine bX8_seek_4_0 hn hY.1 (qX8_seek_5 (d' := d - 1) (rest := []) hn (by omega) (by decide) (c_gatherSwaps (X := Y) (F := F) (P := P) (un := un) (N0 := N0) (by omega) hn hY.1 ⟨⟨gF, gP⟩, by rw [yk 37 (by omega), g37], by rw [yk 2 (by omega), g2], gNb, yN, fun p hp => by rw [yk 3 (by omega), yk 4 (by omega), yk 134 (by omega)]; exact h3 p hp, fun f hf => by rw [yk 38 (by omega), yk 134 (by omega)]; exact h38 f hf, fun a ha c hc => by rw [yk _ (by omega)]; exact hun a ha c hc⟩) (fun v W hv => ?_))
  obtain ⟨rfl, hW, wA, w102⟩ := hv
  have wk := hW.2.1
  have e134 : Y 134 = X 134 := yk 134 (by omega)
  rw [e134] at wA w102
  have hlen := al_len (Pr := prA (X 134) N0 P) (fun f => pr_len gP)
  refine bX8_seek_8_0 hn hW.1 ?_
  obtain ⟨U, hU⟩ : ∃ U : LX, U = lx_up (lx_up (lx_up (lx_up (lx_up W 87 12 (nI L)) 87 13 0) 87 14 0) 87 16 0) 87 15 0 := ⟨_, rfl⟩
  rw [← hU]
  have hUS : Sh n U := by
    rw [hU]
    exact ((((hW.1.upF (by decide +kernel) (by decide +kernel)).upF (by decide +kernel) (by decide +kernel)).upF (by decide +kernel) (by decide +kernel)).upF (by decide +kernel) (by decide +kernel)).upF (by decide +kernel) (by decide +kernel)
  have uk : ∀ k, k ≠ 87 → U k = W k := fun k hk => by rw [hU, up_ne hk, up_ne hk, up_ne hk, up_ne hk, up_ne hk]
  have hGt : Gt U L F P st N0 (prA (X 134) N0 P) (srA un N0) := by
    refine ⟨⟨gF, gP, hL⟩, by rw [uk 37 (by omega), wk 37 (by omega), yk 37 (by omega), g37], by rw [uk 2 (by omega), wk 2 (by omega), yk 2 (by omega), g2], by rw [hU]; simp (disch := omega) only [up_at, up_it], fun p hp => (gs p hp).1, fun f hf => ⟨(al (prA (X 134) N0 P) f).length, ?_, ?_, ?_, ?_⟩, fun f hf e he => ?_⟩
    · rw [uk 102 (by omega), w102 f (by omega)]
    · rw [uk 102 (by omega), w102 (f + 1) (by omega), al_s, List.length_append, List.length_map]
    · have h1 := hlen (f + 1)
      rw [al_s, List.length_append, List.length_map] at h1
      have : (f + 1) * 49 ≤ 12 * 49 := Nat.mul_le_mul_right _ (by omega)
      omega
    · intro i e hi
      obtain ⟨B, hB⟩ := al_pre (Pr := prA (X 134) N0 P) (f := f + 1) (F - (f + 1))
      rw [show f + 1 + (F - (f + 1)) = F by omega, al_s, List.append_assoc] at hB
      have hilt : i < (prA (X 134) N0 P f).length := by
        refine Classical.byContradiction (fun w => ?_)
        rw [List.getElem?_eq_none (by omega)] at hi
        cases hi
      have hget : (al (prA (X 134) N0 P) F)[(al (prA (X 134) N0 P) f).length + i]? = some (f, e) := by
        rw [hB, List.getElem?_append_right (by omega), show (al (prA (X 134) N0 P) f).length + i - (al (prA (X 134) N0 P) f).length = i by omega, List.getElem?_append_left (by rw [List.length_map]; exact hilt), List.getElem?_map, hi]
        rfl
      have := wA _ _ hget
      rw [uk 103 (by omega), uk 104 (by omega), uk 105 (by omega), uk 106 (by omega)]
      exact this
    · obtain ⟨m1, m2, m3⟩ := gl_mem (Nat.le_refl _) he
      obtain ⟨l1, l2, -⟩ := of_decide_eq_true m3
      refine ⟨m1, m2, fun w => by rw [w, l2] at l1; omega, l2, ?_⟩
      have hprod : N0 f e.1 * un e.1 e.2 ≤ 60000 * 99 := Nat.mul_le_mul (gNb f hf _ m1) (hun _ (by omega) _ (by omega)).1
      unfold srA
      omega
  have hPl : Pl n U L F P st N0 U (tn F N0) (L, false, none) := ⟨hUS, fun _ _ _ _ _ => rfl, fun _ _ _ _ _ _ => rfl, ⟨fun p hp => by rw [uk 101 (by omega), wk 101 (by omega), ySp.1 p hp], by
    rw [hU]
    simp (disch := omega) only [up_at]
    rw [hW.2.2 3 (by omega), ySp.2]⟩, Nat.le_refl _, by
    rw [if_neg Bool.false_ne_true, hU]
    simp (disch := omega) only [up_at, up_it, Nat.sub_self]
    rfl, by
    show U 87 14 = 0
    rw [hU]
    simp (disch := omega) only [up_at, up_it]⟩
  have hE := c_plan (g := g) hn hGt F (Nat.le_refl _) (d - 1) N0 0 0 (fun _ => none) (L, false, none) U (by omega) gNb (fun _ _ => rfl) (by omega) (by omega) hPl (fun f hf => by omega)
  rw [Nat.sub_self] at hE
  refine qX8_seek_37 (d' := d - 1) (rest := []) hn (by omega) (by decide) hE (fun v V hv => ?_)
  obtain ⟨rfl, hV, -⟩ := hv
  obtain ⟨v1, v2, v3, v4, v5, v6, v7⟩ := id hV
  have esR : pS F (enC F P st) (prA (X 134) N0 P) (srA un N0) F N0 0 0 (fun _ => none) (L, false, none) = sR (X 134) F P L st un N0 := rfl
  rw [esR] at v5 v6 v7
  have e12 : V 87 12 = nI L := by rw [v3 12 (by omega) (by omega) (by omega) (by omega) (by omega)]; exact hGt.2.2.2.1
  have hfr : ∀ k, k ≤ 86 ∨ 109 ≤ k → V k = X k := fun k hk => by rw [v2 k (by omega) (by omega) (by omega) (by omega), uk k (by omega), wk k (by omega), yk k (by omega)]
  have hN : ∀ f, f < F → ∀ p, p < P → V (88 + 1 + f) p = nI (N0 f p) := fun f hf p hp => by rw [v2 _ (by omega) (by omega) (by omega) (by omega), uk _ (by omega), wk _ (by omega), yN f hf p hp]
  have hq : ∀ q, (sR (X 134) F P L st un N0).2.2 = some q → V 87 16 = nI q.1 ∧ q.1 ≤ 1000000 ∧ ∀ f, f < F → Cd V N0 f (V 108 f) (q.2.2 f) := fun q hq => by
    rw [hq] at v7
    obtain ⟨-, q2, -, q4, -, q6⟩ := v7
    refine ⟨q2, q4, fun f hf => ?_⟩
    have h := q6 f hf
    cases ho : q.2.2 f with
    | none => rw [ho] at h; exact h
    | some e =>
      rw [ho] at h
      obtain ⟨j, j1, j2, j3, j4, j5, j6⟩ := h
      exact ⟨j, j1, j2, by rw [v2 103 (by omega) (by omega) (by omega) (by omega), j3], by rw [v2 104 (by omega) (by omega) (by omega) (by omega), j4], by rw [v2 105 (by omega) (by omega) (by omega) (by omega), j5], j6⟩
  generalize sR (X 134) F P L st un N0 = s at v5 v6 v7 hq
  by_cases hsp : s.2.1 = true
  · rw [if_pos hsp] at v6
    exact bX8_seek_40_0 hn v1 (by rw [e12, v6]; exact nI_ge (by omega) (by omega)) ⟨v1, hfr, hN, by unfold pRs; rw [if_pos hsp], hq⟩
  · rw [if_neg hsp] at v6
    have c0 : V 87 13 ≤ V 87 12 := by rw [e12, v6]; exact nI_le (by omega) (by omega)
    cases hb : s.2.2 with
    | none =>
      rw [hb] at v7
      exact bX8_seek_40_2 hn v1 c0 v7 ⟨v1, hfr, hN, by unfold pRs; rw [if_neg hsp, hb], fun q' e' => hq q' (hb.trans e')⟩
    | some q =>
      rw [hb] at v7
      exact bX8_seek_40_1 hn v1 c0 (by rw [v7.1]; decide) ⟨v1, hfr, hN, by unfold pRs; rw [if_neg hsp, hb], fun q' e' => hq q' (hb.trans e')⟩
theorem m_findPlan (hd : 40 ≤ d) (hn : 146 ≤ n) (hX : Sh n X) (hL : L ≤ 5000) (hk : okN X) (hG : Gm X F P st un) (hNb : Nb F P N0) (hN : ∀ f, f < F → ∀ p, p < P → mNd X (14 * f + p) = nI (N0 f p)) : Ex g mX12_findPlan d n n [.ref 133, .int (nI L)] X (fun v W => Sh n W ∧ (∀ k, k ≠ 133 → k ≠ 140 → k ≠ 143 → k ≠ 144 → W k = X k) ∧ (∀ j, j ≠ 21 → j ≠ 22 → j ≠ 28 → j ≠ 29 → W 133 j = X 133 j) ∧ (∀ f, f < F → ∀ p, p < P → W 140 (14 * f + p) = nI (N0 f p)) ∧ v = some (.int (pRs (sR (X 134) F P L st un N0))) ∧ ∀ q, (sR (X 134) F P L st un N0).2.2 = some q → W 133 28 = nI q.1 ∧ ∀ f, f < F → W 144 f = Md (q.2.2 f)) := by
  obtain ⟨⟨gF, gP⟩, g6, g4, g7, gs, gu⟩ := id hG
  refine e_of vX12_findPlan (Nat.le_of_ble_eq_true rfl) (cat_of rfl) (bX12_findPlan_0_0 hn hX (qX12_findPlan_1 (d' := d - 1) (rest := []) hn (by omega) (by decide) (c_X12_findNeeds (by omega) hn hX hk ⟨F, gF, g6⟩) (fun v Y hv => ?_)))
  obtain ⟨rfl, hY⟩ := hv
  have hYS : Sh n Y := by rw [hY]; exact hX.row (by decide +kernel)
  have yk : ∀ k, k ≠ 140 → Y k = X k := fun k hk => by rw [hY, lx_row_ne _ _ _ hk]
  have y140 : Y 140 = mNd X := by rw [hY, lx_row_self]
  refine bX12_findPlan_4_0 hn hYS ?_
  have loop : ∀ i, i ≤ 12 → ∀ W, Sh n W → (∀ k, k ≠ 143 → W k = Y k) → (∀ f, f < 12 - i → W 143 f = -1) → Ev g mX12_findPlan d n n (fun v W => Sh n W ∧ (∀ k, k ≠ 133 → k ≠ 140 → k ≠ 143 → k ≠ 144 → W k = X k) ∧ (∀ j, j ≠ 21 → j ≠ 22 → j ≠ 28 → j ≠ 29 → W 133 j = X 133 j) ∧ (∀ f, f < F → ∀ p, p < P → W 140 (14 * f + p) = nI (N0 f p)) ∧ v = some (.int (pRs (sR (X 134) F P L st un N0))) ∧ ∀ q, (sR (X 134) F P L st un N0).2.2 = some q → W 133 28 = nI q.1 ∧ ∀ f, f < F → W 144 f = Md (q.2.2 f)) n 6 [some (.ref 133), some (.int (nI L)), some (.int (nI (12 - i)))] [] W := by
    intro i
    induction i with
    | zero =>
      intro _ W hW wk w143
      refine bX12_findPlan_6_1 hn hW (show nI 12 ≤ nI 12 from Int32.le_refl _) ?_
      obtain ⟨U, hU⟩ : ∃ U : LX, U = lx_up (lx_up (lx_up (lx_up W 133 28 (-1)) 133 29 0) 133 21 (nI L)) 133 22 0 := ⟨_, rfl⟩
      rw [← hU]
      have hUS : Sh n U := by
        rw [hU]
        exact (((hW.upF (by decide +kernel) (by decide +kernel)).upF (by decide +kernel) (by decide +kernel)).upF (by decide +kernel) (by decide +kernel)).upF (by decide +kernel) (by decide +kernel)
      have uk : ∀ k, k ≠ 133 → U k = W k := fun k hk => by rw [hU, up_ne hk, up_ne hk, up_ne hk, up_ne hk]
      have e134 : U 134 = X 134 := by rw [uk 134 (by omega), wk 134 (by omega), yk 134 (by omega)]
      have hGU : Gm U F P st un := by
        refine ⟨⟨gF, gP⟩, by rw [e134, g6], by rw [e134, g4], by rw [num_cg e134]; exact g7, fun p hp => ⟨(gs p hp).1, ?_⟩, fun a ha c hc => by rw [e134]; exact gu a ha c hc⟩
        rw [← (gs p hp).2]
        unfold mStock
        rw [e134]
      have hPm : Pm n U F P U N0 (L, false, none) := ⟨hUS, fun _ _ _ _ _ => rfl, fun _ _ _ _ _ => rfl, fun f hf p hp => by rw [uk 140 (by omega), wk 140 (by omega), y140, hN f hf p hp], hL, by rw [hU]; simp (disch := omega) only [up_at, up_it], by rw [if_neg Bool.false_ne_true, hU, up_it], by
        show U 133 28 = -1
        rw [hU]
        simp (disch := omega) only [up_at, up_it]⟩
      have hE := m_plan (g := g) hn hGU hNb F (Nat.le_refl _) (d - 1) N0 0 0 (fun _ => none) (L, false, none) U (by omega) hNb (fun _ _ => rfl) (by omega) (by omega) hPm (fun f hf => by omega) (fun f _ h2 => by rw [uk 143 (by omega), w143 f (by omega)])
      rw [Nat.sub_self, e134] at hE
      refine qX12_findPlan_49 (d' := d - 1) (rest := []) hn (by omega) (by decide) hE (fun v V hv => ?_)
      obtain ⟨rfl, hV, -⟩ := hv
      obtain ⟨v1, v2, v3, v4, v5, v6, v7, v8⟩ := id hV
      have esR : pS F (enC F P st) (prA (X 134) N0 P) (srA un N0) F N0 0 0 (fun _ => none) (L, false, none) = sR (X 134) F P L st un N0 := rfl
      rw [esR] at v5 v6 v7 v8
      have hfr : ∀ k, k ≠ 133 → k ≠ 140 → k ≠ 143 → k ≠ 144 → V k = X k := fun k h1 h2 h3 h4 => by rw [v2 k h1 h2 h3 h4, uk k h1, wk k h3, yk k h2]
      have hfj : ∀ j, j ≠ 21 → j ≠ 22 → j ≠ 28 → j ≠ 29 → V 133 j = X 133 j := fun j h1 h2 h3 h4 => by rw [v3 j h1 h2 h3 h4, hU, up_at h2, up_at h1, up_at h4, up_at h3, wk 133 (by omega), yk 133 (by omega)]
      have hq : ∀ q, (sR (X 134) F P L st un N0).2.2 = some q → V 133 28 = nI q.1 ∧ ∀ f, f < F → V 144 f = Md (q.2.2 f) := fun q hq => by
        rw [hq] at v8
        exact ⟨v8.1, v8.2.2.2.2⟩
      generalize sR (X 134) F P L st un N0 = s at v5 v6 v7 v8 hq
      by_cases hsp : s.2.1 = true
      · rw [if_pos hsp] at v7
        exact bX12_findPlan_52_0 hn v1 (by rw [v7]; decide) ⟨v1, hfr, hfj, v4, by unfold pRs; rw [if_pos hsp], hq⟩
      · rw [if_neg hsp] at v7
        cases hb : s.2.2 with
        | none =>
          rw [hb] at v8
          exact bX12_findPlan_52_1 hn v1 v7 (by rw [show V 133 28 = -1 from v8]; decide) ⟨v1, hfr, hfj, v4, by unfold pRs; rw [if_neg hsp, hb], fun q' e' => hq q' (hb.trans e')⟩
        | some q =>
          rw [hb] at v8
          exact bX12_findPlan_52_2 hn v1 v7 (by rw [v8.1]; exact nI_pos' (by have := v8.2.2.1; omega)) ⟨v1, hfr, hfj, v4, by unfold pRs; rw [if_neg hsp, hb], fun q' e' => hq q' (hb.trans e')⟩
    | succ i ih =>
      intro hi W hW wk w143
      refine bX12_findPlan_6_0 hn hW (show ¬ nI 12 ≤ nI (12 - (i + 1)) from nI_ge (by omega) (by omega)) (by omega) ?_
      rw [nI_1, show 12 - (i + 1) + 1 = 12 - i by omega]
      refine ih (by omega) _ (hW.upA (by decide +kernel)) (fun k hk => by rw [up_ne hk, wk k hk]) (fun f hf => ?_)
      by_cases c : f = 12 - (i + 1)
      · rw [c, up_it]
      · rw [up_at c, w143 f (by omega)]
  exact loop 12 (Nat.le_refl _) Y hYS (fun _ _ => rfl) (fun f hf => by omega)
/-- what is left of the class's search is the model's beginning -/
theorem iv_seek (hLR : LRok LR) (hI : Iv LR n X) {W : LX} (hW : Sh n W) (hfr : ∀ k, k ≤ 86 ∨ 109 ≤ k → W k = X k) : Iv LR n W :=
  iv_scr hLR hI hW (fun k hk => hfr k (by omega)) (by rw [hfr 81 (by omega)]) (fun t _ => by rw [hfr 133 (by omega)])
theorem iv_plan (hLR : LRok LR) (hI : Iv LR n X) {W : LX} (hW : Sh n W) (hfr : ∀ k, k ≠ 133 → k ≠ 140 → k ≠ 143 → k ≠ 144 → W k = X k) (hj : ∀ j, j ≠ 21 → j ≠ 22 → j ≠ 28 → j ≠ 29 → W 133 j = X 133 j) : Iv LR n W :=
  iv_scr hLR hI hW (fun k hk => hfr k (by omega) (by omega) (by omega) (by omega)) (by rw [hfr 81 (by omega) (by omega) (by omega) (by omega)]) (fun t ht => hj t (by omega) (by omega) (by omega) (by omega))
/-- the model's search behind the class's -/
theorem m_find2 (hd : 40 ≤ d) (hn : 146 ≤ n) (hL : L ≤ 5000) (hS : Pst X F P st un N0) {W : LX} (hI : Iv LR n W) (hfr : ∀ k, k ≤ 86 ∨ 109 ≤ k → W k = X k) : Ex g mX12_findPlan d n n [.ref 133, .int (nI L)] W (fun v V => Sh n V ∧ (∀ k, k ≠ 133 → k ≠ 140 → k ≠ 143 → k ≠ 144 → V k = W k) ∧ (∀ j, j ≠ 21 → j ≠ 22 → j ≠ 28 → j ≠ 29 → V 133 j = W 133 j) ∧ (∀ f, f < F → ∀ p, p < P → V 140 (14 * f + p) = nI (N0 f p)) ∧ v = some (.int (pRs (sR (X 134) F P L st un N0))) ∧ ∀ q, (sR (X 134) F P L st un N0).2.2 = some q → V 133 28 = nI q.1 ∧ ∀ f, f < F → V 144 f = Md (q.2.2 f)) := by
  obtain ⟨hGi, -, -, -, ⟨gF, gP⟩, g6, g4, g7, gs, gu⟩ := id hS
  obtain ⟨-, -, -, g23, -, -, -, gNb, gN⟩ := id hGi
  have e134 : W 134 = X 134 := hfr 134 (by omega)
  have hG : Gm W F P st un := by
    refine ⟨⟨gF, gP⟩, by rw [e134, g6], by rw [e134, g4], by rw [num_cg e134]; exact g7, fun p hp => ⟨(gs p hp).1, ?_⟩, fun a ha c hc => by rw [e134]; exact gu a ha c hc⟩
    rw [← (gs p hp).2]
    unfold mStock
    rw [e134]
  have s76 : same76 X W := fun k _ h2 => hfr k (by omega)
  have h := m_findPlan (g := g) (X := W) (N0 := N0) hd hn hI.1 hL (okN_of hI.2.1) hG gNb (fun f hf p hp => by
    rw [need_eq hI.2.1 (by omega) (by rw [e134, g6]; exact nI_lt hf (by omega)) (by omega), cBox_cg s76 g23 (by omega), cNeed_cg s76 g23, gN f hf p hp])
  rw [e134] at h
  exact h
theorem pRs_0 {s : PS} (h : pRs s = 0) : ∃ q, s.2.2 = some q := by
  unfold pRs at h
  by_cases c : s.2.1 = true
  · rw [if_pos c] at h; exact absurd h (by decide)
  · rw [if_neg c] at h
    cases hs : s.2.2 with
    | none => rw [hs] at h; exact absurd h (by decide)
    | some q => exact ⟨q, rfl⟩
theorem jp_plan (hLR : LRok LR) {a : Int32} (hn : 146 ≤ n) (hn2 : n ≤ 226) (hI : Iv LR n X) : JP g (Iv LR) mX11_plan mX12_plan [.int a] n X := by
  obtain ⟨hX, hK, hT, hB⟩ := id hI
  by_cases h : 1 ≤ a ∧ a ≤ 5000
  · obtain ⟨F, P, st, un, N0, hS⟩ := plan_set hK
    obtain ⟨L, hL, ea⟩ := i_num (N := 5000) (by omega) (Int32.le_trans (by decide) h.1) h.2
    refine jp_rel (fun r W => Sh n W ∧ (∀ k, k ≤ 86 ∨ 109 ≤ k → W k = X k) ∧ ((pRs (sR (X 134) F P L st un N0) = 0 ∧ ∃ q, (sR (X 134) F P L st un N0).2.2 = some q ∧ r = nI q.1) ∨ (¬ pRs (sR (X 134) F P L st un N0) = 0 ∧ r = pRs (sR (X 134) F P L st un N0)))) hn hn2 (e_of vX11_plan (Nat.le_of_ble_eq_true rfl) (cat_of rfl) (bX11_plan_0_0 (Nat.le_of_ble_eq_true rfl) hn hX h (qX11_plan_19 (d' := 100) (rest := []) hn (by omega) (by decide) (by rw [ea]; exact c_X8_seek (by omega) hn hX hL hS) (fun v W hv => ?_)))) (fun r W hW => ?_)
    · obtain ⟨w1, wf, wN, rfl, wq⟩ := hv
      by_cases c : pRs (sR (X 134) F P L st un N0) = 0
      · obtain ⟨q, hq⟩ := pRs_0 c
        exact bX11_plan_22_0 hn w1 c ⟨_, rfl, w1, wf, Or.inl ⟨c, q, hq, (wq q hq).1⟩⟩
      · exact bX11_plan_22_1 hn w1 c ⟨_, rfl, w1, wf, Or.inr ⟨c, rfl⟩⟩
    · obtain ⟨w1, wf, wc⟩ := hW
      have hIW := iv_seek hLR hI w1 wf
      refine e_of vX12_plan (Nat.le_of_ble_eq_true rfl) (cat_of rfl) (bX12_plan_0_0 (Nat.le_of_ble_eq_true rfl) hn w1 h (qX12_plan_16 (d' := 100) (rest := []) hn (by omega) (by decide) (by rw [ea]; exact m_find2 (by omega) hn hL hS hIW wf) (fun v V hv => ?_)))
      obtain ⟨v1, vf, vj, vN, rfl, vq⟩ := hv
      have hIV := iv_plan hLR hIW v1 vf vj
      rcases wc with ⟨c, q, hq, rfl⟩ | ⟨c, rfl⟩
      · refine bX12_plan_19_1 hn v1 c ⟨?_, hIV⟩
        rw [(vq q hq).1]
      · exact bX12_plan_19_0 hn v1 c ⟨rfl, hIV⟩
  · exact jp_of hn hn2 (e_of vX11_plan (Nat.le_of_ble_eq_true rfl) (cat_of rfl) (bX11_plan_0_1 (Nat.le_of_ble_eq_true rfl) hn hX h ⟨rfl, rfl⟩)) (e_of vX12_plan (Nat.le_of_ble_eq_true rfl) (cat_of rfl) (bX12_plan_0_1 (Nat.le_of_ble_eq_true rfl) hn hX h ⟨rfl, rfl⟩)) hI
end PLAN
