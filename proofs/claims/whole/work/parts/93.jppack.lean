/-! PLAN, 14: pack, both sides. -/
theorem pL_pr {G : Option (Nat × Nat × PRow) → Prop} {step : Nat × Nat → PS → PS} : ∀ {l : List (Nat × Nat)}, (∀ e s, e ∈ l → G s.2.2 → G (step e s).2.2) → ∀ {s : PS}, G s.2.2 → G (pL step l s).2.2
  | [], _, s, h => h
  | e :: l, hs, s, h => by
    rw [pL_s]
    by_cases c : s.2.1 = true
    · rw [if_pos c]; exact h
    · rw [if_neg c]
      by_cases c2 : s.1 = 0
      · rw [if_pos c2]; exact h
      · rw [if_neg c2]
        exact pL_pr (fun e' s' he' => hs e' s' (List.mem_cons_of_mem _ he')) (hs e _ List.mem_cons_self h)
def MeB (F : Nat) (Pr : Nat → List (Nat × Nat)) (o : Option (Nat × Nat × PRow)) : Prop := ∀ q, o = some q → ∀ f, f < F → ∀ e, q.2.2 f = some e → e ∈ Pr f
theorem pS_mem {F : Nat} {en : (Nat → Nat → Nat) → Bool} {Pr : Nat → List (Nat × Nat)} {sr : Nat → Nat × Nat → Nat} : ∀ (k : Nat), k ≤ F → ∀ (N : Nat → Nat → Nat) (a b : Nat) (r : PRow) (s : PS), (∀ f, f < F - k → ∀ e, r f = some e → e ∈ Pr f) → MeB F Pr s.2.2 → MeB F Pr (pS F en Pr sr k N a b r s).2.2 := by
  intro k
  induction k with
  | zero =>
    intro _ N a b r s h1 h
    rw [pS_0]
    by_cases c : pPr s.2.2 a b = true
    · rw [if_pos c]; exact h
    · rw [if_neg c]
      by_cases c2 : en N = true
      · rw [if_pos c2]
        intro q hq
        have e : (a, b, r) = q := Option.some.inj hq
        rw [← e]
        exact fun f hf => h1 f (by omega)
      · rw [if_neg c2]; exact h
  | succ k ih =>
    intro hk N a b r s h1 h
    obtain ⟨f, ef⟩ : ∃ f, f = F - (k + 1) := ⟨_, rfl⟩
    rw [pS_s]
    rw [← ef] at h1 ⊢
    by_cases c : pPr s.2.2 a b = true
    · rw [if_pos c]; exact h
    · rw [if_neg c]
      refine pL_pr (G := MeB F Pr) (fun e s' hm hs' => ?_) ?_
      · refine ih (by omega) _ _ _ _ _ (fun f' hf' e' he' => ?_) hs'
        unfold rwU at he'
        by_cases c1 : f' = f
        · rw [if_pos c1] at he'
          have e2 : e = e' := Option.some.inj he'
          rw [c1, ← e2]; exact hm
        · rw [if_neg c1] at he'
          exact h1 f' (by omega) e' he'
      · refine ih (by omega) _ _ _ _ _ (fun f' hf' e' he' => ?_) h
        unfold rwU at he'
        by_cases c1 : f' = f
        · rw [if_pos c1] at he'; cases he'
        · rw [if_neg c1] at he'
          exact h1 f' (by omega) e' he'
section JPPACK
variable {LR : LX → (Nat → Int32) → Prop} {g : GG} {d n F P L T : Nat} {X : LX} {st : Nat → Nat} {N0 : Nat → Nat → Nat}
theorem pk_kr (hLR : LRok LR) (hK : KR LR X (X 134)) {i : Nat} (hi : i ≤ F) (hF : F ≤ 12) (e6 : X 134 6 = nI F) (hT : T < 100) (hL : L ≤ 40) (e7 : X 134 7 = nI L) {s s' : DS} (hgt : ∀ l, L ≤ l → s'.2.1 l = s.2.1 l) (hs : ∀ l, l < 40 → s.2.1 l = X 134 (628 + 5 * l + 4)) {Y : LX} (fC : ∀ k, k ≠ 134 → k ≠ 73 → k ≠ 74 → k ≠ 75 → k < 57 ∨ 68 < k → k ≠ 1 → k < 87 → Y k = X k) (f1 : ∀ j, j ≠ 8 → Y 1 j = X 1 j) (f18 : Y 1 8 = Y 134 3) (f3 : Y 134 3 = 0 ∨ Y 134 3 = 1) (fA : ∀ t, t ≠ 3 → (t < 10 ∨ 122 ≤ t ∨ (t - 10) % 8 ≠ 6) ∧ (t < 628 ∨ 2028 ≤ t ∨ (t < 828 ∧ (t - 628) % 5 ≠ 3 ∧ (t - 628) % 5 ≠ 4)) → Y 134 t = X 134 t) (fR : ∀ f, f < 12 → ∀ w, w < 100 → Y (56 + 1 + f) w = if f < i ∧ w = T then cBox X f else X (56 + 1 + f) w) (fB : ∀ f, f < 12 → ∀ w, w < 100 → Y 134 (828 + 12 * w + f) = if f < i ∧ w = T then cBox X f else X 134 (828 + 12 * w + f)) (hLt : Lt Y L s') (hLm : Lm Y L s') : KR LR Y (Y 134) := by
  refine hK.pk hLR fC f1 f18 f3 fA (fun p hp => by rw [hLt.2.2 p hp, hLm.2.2 p hp]) (fun l hl => ⟨by rw [(hLt.2.1 l hl).2.1, (hLm.2.1 l hl).2.1], by rw [(hLt.2.1 l hl).2.2, (hLm.2.1 l hl).2.2], ⟨s'.1 l, (hLt.2.1 l hl).1, (hLm.2.1 l hl).2.1⟩, fun hn => ?_⟩) (fun f hf w hw => ?_)
  · have hge : L ≤ l := by
      refine Classical.byContradiction (fun w => hn ?_)
      rw [e7]
      exact nI_lt (by omega) (by omega)
    rw [(hLm.2.1 l hl).2.2, hgt l hge, hs l hl]
    exact (hK.2.2.2.2.2.2.2.1.2.2.2.2.2.1 l hl).2.2 hn
  · rw [fR f hf w hw, fB f hf w hw]
    by_cases c : f < i ∧ w = T
    · rw [if_pos c, if_pos c]
      have hlt : nI f < X 134 6 := by rw [e6]; exact nI_lt (by omega) (by omega)
      obtain ⟨b, hb, eb⟩ := box_lt hK hf hlt
      exact ⟨rfl, b, hb, by rw [box_eq hK hf hlt, eb]⟩
    · rw [if_neg c, if_neg c]
      exact ⟨hK.2.2.2.2.2.1 f hf w hw, hK.2.2.2.2.2.2.2.1.2.2.2.2.1 f hf w hw⟩
/-- the model writes the boxes -/
theorem m_boxes (hLR : LRok LR) (hK : KR LR X (X 134)) (hd : 6 ≤ d) (hn : 146 ≤ n) (hF : F ≤ 12) (e6 : X 134 6 = nI F) (hT : T < 100) (e0 : X 134 0 = nI T) (hL : L ≤ 40) (e7 : X 134 7 = nI L) (h3 : X 134 3 = 0) {s s' : DS} (hgt : ∀ l, L ≤ l → s'.2.1 l = s.2.1 l) (hs : ∀ l, l < 40 → s.2.1 l = X 134 (628 + 5 * l + 4)) {W Z : LX} (hZ : Sh n Z) (zA : Fa X Z) (zL : Lm Z L s') (wL : Lt W L s') (wz : Fz X F T W) {v1 v2 v3 : Int32} {post : Option Value → LX → Prop} (hk : ∀ U, Sh n U → (∀ k, k ≠ 134 → U k = Z k) → (∀ f, f < 12 → ∀ w, w < 100 → U 134 (828 + 12 * w + f) = if f < F ∧ w = T then cBox X f else X 134 (828 + 12 * w + f)) → (∀ t, t < 828 ∨ 2028 ≤ t → t ≠ 3 → U 134 t = Z 134 t) → U 134 3 = 1 → post (some (.int v3)) U) : Ev g mX12_pack d n n post n 158 [some (.ref 133), some (.int v1), some (.int v2), some (.int v3), some (.int 0), none] [] Z := by
  have loop : ∀ r, r ≤ F → ∀ (Y : LX), Sh n Y → (∀ k, k ≠ 134 → Y k = Z k) → (∀ f, f < 12 → ∀ w, w < 100 → Y 134 (828 + 12 * w + f) = if f < F - r ∧ w = T then cBox X f else X 134 (828 + 12 * w + f)) → (∀ t, t < 828 ∨ 2028 ≤ t → Y 134 t = Z 134 t) → Ev g mX12_pack d n n post n 158 [some (.ref 133), some (.int v1), some (.int v2), some (.int v3), some (.int (nI (F - r))), none] [] Y := by
    intro r
    induction r with
    | zero =>
      intro _ Y hY yk yB yA
      rw [Nat.sub_zero] at yB ⊢
      refine bX12_pack_158_1 hn hY (by rw [yA 6 (by omega), zA 6 (by omega), e6]; exact Int32.le_refl _) (hk _ (hY.upA (by decide +kernel)) (fun k hk => by rw [up_ne hk, yk k hk]) (fun f hf w hw => by rw [up_at (by omega), yB f hf w hw]) (fun t ht h3 => by rw [up_at h3, yA t ht]) up_it)
    | succ r ih =>
      intro hr Y hY yk yB yA
      obtain ⟨f, ef⟩ : ∃ f, f = F - (r + 1) := ⟨_, rfl⟩
      have ef1 : F - r = f + 1 := by omega
      have hf : f < F := by omega
      rw [← ef] at yB ⊢
      rw [ef1] at ih
      obtain ⟨H, hH⟩ : ∃ H : LX, H = fun k => if k = 134 then Y 134 else if k = 73 ∨ k = 74 ∨ k = 75 then W k else if 57 ≤ k ∧ k < 57 + f then W k else X k := ⟨_, rfl⟩
      have h134 : H 134 = Y 134 := by rw [hH]; rfl
      have hW : ∀ k, k = 73 ∨ k = 74 ∨ k = 75 → H k = W k := fun k hk => by rw [hH]; show (if k = 134 then _ else if k = 73 ∨ k = 74 ∨ k = 75 then W k else _) = W k; rw [if_neg (by omega), if_pos hk]
      have hR : ∀ f', f' < f → H (56 + 1 + f') = W (56 + 1 + f') := fun f' hf' => by rw [hH]; show (if 56 + 1 + f' = 134 then _ else if 56 + 1 + f' = 73 ∨ 56 + 1 + f' = 74 ∨ 56 + 1 + f' = 75 then _ else if 57 ≤ 56 + 1 + f' ∧ 56 + 1 + f' < 57 + f then W (56 + 1 + f') else _) = W (56 + 1 + f'); rw [if_neg (by omega), if_neg (by omega), if_pos (by omega)]
      have hX : ∀ k, k ≠ 134 → k ≠ 73 → k ≠ 74 → k ≠ 75 → ¬ (57 ≤ k ∧ k < 57 + f) → H k = X k := fun k h1 h2 h3 h4 h5 => by rw [hH]; show (if k = 134 then _ else if k = 73 ∨ k = 74 ∨ k = 75 then _ else if 57 ≤ k ∧ k < 57 + f then _ else X k) = X k; rw [if_neg h1, if_neg (by omega), if_neg h5]
      have zA3 : Y 134 3 = 0 := by rw [yA 3 (by omega), zA 3 (by omega), h3]
      have hKH : KR LR H (H 134) := by
        refine pk_kr (F := F) (T := T) (L := L) (i := f) (s := s) (s' := s') hLR hK (by omega) hF e6 hT hL e7 hgt hs (fun k h1 h2 h3 h4 h5 _ _ => hX k h1 h2 h3 h4 (by omega)) (fun j _ => by rw [hX 1 (by omega) (by omega) (by omega) (by omega) (by omega)]) ?_ (by rw [h134, zA3]; exact Or.inl rfl) (fun t ht h2 => ?_) (fun f' hf' w hw => ?_) (fun f' hf' w hw => by rw [h134, yB f' hf' w hw]) ⟨?_, fun l hl => ?_, fun p hp => ?_⟩ ⟨?_, fun l hl => ?_, fun p hp => ?_⟩
        · rw [h134, zA3, hX 1 (by omega) (by omega) (by omega) (by omega) (by omega), hK.1.1.2.2.1, h3]
        · rw [h134, yA t (by omega), zA t ⟨h2.1, by omega⟩]
        · by_cases c : f' < f
          · rw [hR f' c, wz f' hf' w hw]
            have hlt : f' < f ↔ f' < F := ⟨fun _ => by omega, fun _ => c⟩
            simp only [hlt]
          · rw [hX _ (by omega) (by omega) (by omega) (by omega) (by omega), if_neg (fun q => c q.1)]
        · rw [hX 69 (by omega) (by omega) (by omega) (by omega) (by omega), hK.1.1.2.2.2.2.2.2.2, e7]
        · rw [hW 73 (by omega), hW 74 (by omega)]; exact wL.2.1 l hl
        · rw [hW 75 (by omega)]; exact wL.2.2 p hp
        · rw [h134, yA 7 (by omega)]; exact zL.1
        · rw [h134, yA _ (by omega), yA _ (by omega)]; exact zL.2.1 l hl
        · rw [h134, yA _ (by omega)]; exact zL.2.2 p hp
      obtain ⟨M, hM, e23, -⟩ := hK.meals
      have hbox : mBox Y f = cBox X f := by
        rw [← mBox_cg h134, ← box_eq hKH (by omega) (by rw [h134, yA 6 (by omega), zA 6 (by omega), e6]; exact nI_lt hf (by omega))]
        exact cBox_cgb (fun k h1 h2 h3 => by
          exact hX k (by omega) (by omega) (by omega) (by omega) (by omega)) ⟨M, hM, e23⟩ (by omega)
      refine bX12_pack_158_0 (j1 := T) (by omega) hn hY (by rw [yA 6 (by omega), zA 6 (by omega), e6]; exact nI_ge hf (by omega)) (by omega) (by rw [← okN_cg h134]; exact okN_of hKH) (by rw [yA 0 (by omega), zA 0 (by omega), e0]) (by omega) ?_
      rw [hbox, nI_1]
      refine ih (by omega) _ (hY.upA (by decide +kernel)) (fun k hk => by rw [up_ne hk, yk k hk]) (fun f' hf' w hw => ?_) (fun t ht => by rw [up_at (by omega), yA t ht])
      by_cases c : f' = f ∧ w = T
      · obtain ⟨c1, c2⟩ := c
        subst c1
        subst c2
        rw [up_it, if_pos ⟨Nat.lt_succ_self _, rfl⟩]
      · rw [up_at (by omega), yB f' hf' w hw]
        by_cases c2 : f' < f ∧ w = T
        · rw [if_pos c2, if_pos ⟨by omega, c2.2⟩]
        · rw [if_neg c2, if_neg (fun q => by omega)]
  have := loop F (Nat.le_refl _) Z hZ (fun _ _ => rfl) (fun f hf w hw => by rw [if_neg (fun q => by have := q.1; omega), zA _ (by omega)]) (fun _ _ => rfl)
  rw [Nat.sub_self] at this
  exact this
end JPPACK
