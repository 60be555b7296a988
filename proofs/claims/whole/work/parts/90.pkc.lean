/-! PLAN, 11: pack: the class's side. -/
/-- the kitchen's cells, but of the boxes only the row of family f -/
abbrev sameB (X X' : LX) (f : Nat) : Prop := ∀ k, 1 ≤ k → k ≤ 72 → k < 57 ∨ 68 < k ∨ k = 56 + 1 + f → X' k = X k
theorem cAll_cgb {X X' : LX} {f0 : Nat} (h : sameB X X' f0) {m : Nat} (hm : m < 10) : cAll X' m = cAll X m := by
  unfold cAll
  rw [h 2 (by omega) (by omega) (by omega), h 3 (by omega) (by omega) (by omega), h (26 + 1 + m) (by omega) (by omega) (by omega)]
theorem cMay_cgb {X X' : LX} {f : Nat} (h : sameB X X' f) {m : Nat} (hm : m < 10) : cMay X' f m ↔ cMay X f m := by
  unfold cMay isKd
  rw [cAll_cgb h hm, h 38 (by omega) (by omega) (by omega), h 40 (by omega) (by omega) (by omega), h 24 (by omega) (by omega) (by omega)]
theorem cGs_cgb {X X' : LX} {f : Nat} (h : sameB X X' f) (hf : f < 12) {b a : Int32} : ∀ i, i ≤ 10 → cGs X' f b a i = cGs X f b a i
  | 0, _ => rfl
  | i + 1, hi => by
    unfold cGs
    rw [cGs_cgb h hf i (by omega), h 1 (by omega) (by omega) (by omega), h (43 + 1 + f) (by omega) (by omega) (by omega)]
    exact ite_congr (propext (and_congr_right (fun _ => cMay_cgb h (by omega)))) (fun _ => rfl) (fun _ => rfl)
theorem cGuess_cgb {X X' : LX} {f : Nat} (h : sameB X X' f) (hM : num X 23 0 10) (hf : f < 12) {b : Int32} : cGuess X' f b = cGuess X f b := by
  unfold cGuess cAhead
  rw [h 1 (by omega) (by omega) (by omega), h 23 (by omega) (by omega) (by omega), h (56 + 1 + f) (by omega) (by omega) (by omega), cGs_cgb h hf _ (hM.eq (by omega)).2]
theorem cBox_cgb {X X' : LX} {f : Nat} (h : sameB X X' f) (hM : num X 23 0 10) (hf : f < 12) : cBox X' f = cBox X f := by
  unfold cBox cAdd
  simp only [cGuess_cgb h hM hf]
  rw [h 1 (by omega) (by omega) (by omega), h 42 (by omega) (by omega) (by omega), h (56 + 1 + f) (by omega) (by omega) (by omega)]
theorem okK_cgb {X X' : LX} {f : Nat} (h : sameB X X' f) : okK X' = okK X := by
  unfold okK okC
  rw [num_cg (h 2 (by omega) (by omega) (by omega)), num_cg (h 23 (by omega) (by omega) (by omega)), num_cg (h 1 (by omega) (by omega) (by omega)), h 42 (by omega) (by omega) (by omega)]
section PKC
variable {g : GG} {d n F P L : Nat} {X : LX} {st : Nat → Nat} {N0 : Nat → Nat → Nat}
def Fz (X : LX) (F T : Nat) (W : LX) : Prop := ∀ f, f < 12 → ∀ w, w < 100 → W (56 + 1 + f) w = if f < F ∧ w = T then cBox X f else X (56 + 1 + f) w
theorem c_freeze {T : Nat} (hd : 5 ≤ d) (hn : 146 ≤ n) (hX : Sh n X) (hF : F ≤ 12) (eF : X 37 0 = nI F) (hM : num X 23 0 10) (hk : okK X) (hT : T < 100) (eT : X 1 5 = nI T) : Ex g mX1_freezeBoxes d n n [.ref 1] X (fun v W => v = none ∧ Sh n W ∧ (∀ k, k ≠ 1 → k < 57 ∨ 68 < k → W k = X k) ∧ W 1 8 = 1 ∧ (∀ j, j ≠ 8 → W 1 j = X 1 j) ∧ Fz X F T W) := by
  refine e_of vX1_freezeBoxes (Nat.le_of_ble_eq_true rfl) (cat_of rfl) (bX1_freezeBoxes_0_0 hn hX ?_)
  have loop : ∀ r, r ≤ F → ∀ W, Sh n W → (∀ k, k < 57 ∨ 68 < k → W k = X k) → Fz X (F - r) T W → (∀ f, F - r ≤ f → f < 12 → W (56 + 1 + f) = X (56 + 1 + f)) → Ev g mX1_freezeBoxes d n n (fun v W => v = none ∧ Sh n W ∧ (∀ k, k ≠ 1 → k < 57 ∨ 68 < k → W k = X k) ∧ W 1 8 = 1 ∧ (∀ j, j ≠ 8 → W 1 j = X 1 j) ∧ Fz X F T W) n 2 [some (.ref 1), some (.int (nI (F - r)))] [] W := by
    intro r
    induction r with
    | zero =>
      intro _ W hW wk wz _
      rw [Nat.sub_zero] at wz ⊢
      refine bX1_freezeBoxes_2_1 hn hW (by rw [wk 37 (by omega), eF]; exact Int32.le_refl _) ⟨rfl, hW.upF (by decide +kernel) (by decide +kernel), fun k h1 h2 => by rw [up_ne h1, wk k h2], up_it, fun j hj => by rw [up_at hj, wk 1 (by omega)], fun f hf w hw => ?_⟩
      rw [up_ne (by omega)]
      exact wz f hf w hw
    | succ r ih =>
      intro hr W hW wk wz wo
      obtain ⟨f, ef⟩ : ∃ f, f = F - (r + 1) := ⟨_, rfl⟩
      have ef1 : F - r = f + 1 := by omega
      have hf : f < F := by omega
      rw [← ef] at wz wo ⊢
      rw [ef1] at ih
      have hsb : sameB X W f := fun k _ _ h3 => by
        rcases h3 with h3 | h3 | h3
        · exact wk k (by omega)
        · exact wk k (by omega)
        · rw [h3]; exact wo f (Nat.le_refl _) (by omega)
      refine bX1_freezeBoxes_2_0 (j1 := T) (by omega) hn hW (by rw [wk 37 (by omega), eF]; exact nI_ge hf (by omega)) (by omega) (by omega) (by rw [okK_cgb hsb]; exact hk) (by rw [wk 1 (by omega), eT]) hT ?_
      rw [cBox_cgb hsb hM (by omega), nI_1]
      refine ih (by omega) _ (Sh.upA hW (by rw [lyr_56 _ (by omega)]; exact (by decide : 0 < 2))) (fun k hk => by rw [up_ne (by omega), wk k hk]) (fun f' hf' w hw => ?_) (fun f' h1 h2 => by rw [up_ne (by omega), wo f' (by omega) h2])
      by_cases c : f' = f
      · subst c
        by_cases cw : w = T
        · subst cw
          rw [up_it, if_pos ⟨Nat.lt_succ_self _, rfl⟩]
        · rw [up_at cw, if_neg (fun q => cw q.2), wo f' (Nat.le_refl _) hf']
      · rw [up_ne (by omega), wz f' hf' w hw]
        have hlt : f' < f + 1 ↔ f' < f := by omega
        simp only [hlt]
  have := loop F (Nat.le_refl _) X hX (fun _ _ => rfl) (fun f _ w _ => by
    rw [if_neg (fun q => by have := q.1; omega)]) (fun _ _ _ => rfl)
  rw [Nat.sub_self] at this
  exact this
theorem k_planned {f p : Nat} {o : Option (Nat × Nat)} (hd : 1 ≤ d) (hn : 146 ≤ n) (hX : Sh n X) (hf : f < 12) (hp : p < 14) (hN : X (88 + 1 + f) p = nI (N0 f p)) (h : Cd X N0 f (X 108 f) o) : Ex g mX8_plannedNeed d n n [.ref 87, .int (nI f), .int (nI p)] X (rt (nI (mvO N0 f o p)) X) := by
  refine e_of vX8_plannedNeed (Nat.le_of_ble_eq_true rfl) (cat_of rfl) (bX8_plannedNeed_0_0 hn hX (qX8_plannedNeed_3 (d' := d - 1) (rest := [.int (nI p)]) hn (by omega) (Nat.le_of_ble_eq_true rfl) (k_goesOf hn hX hf h) (fun v V hv => ?_)))
  obtain ⟨rfl, hV⟩ := hv
  rw [hV]
  have hneg : ¬ nI p = -1000000005 := fun w => by
    have h1 := nI_pos' (n := p) (by omega)
    rw [w] at h1
    exact absurd h1 (by decide)
  cases o with
  | none =>
    refine bX8_plannedNeed_6_1 hn hX hneg (qX8_plannedNeed_14 (d' := d - 1) (rest := [.int (nI p)]) hn (by omega) (Nat.le_of_ble_eq_true rfl) (k_comesOf hn hX hf h) (fun v V hv => ?_))
    obtain ⟨rfl, hV⟩ := hv
    rw [hV]
    refine bX8_plannedNeed_17_1 hn hX hneg hf hp ?_
    rw [hN]
    exact ⟨rfl, rfl⟩
  | some e =>
    obtain ⟨j, j1, j2, j3, j4, j5, j6, j7, j8⟩ := id h
    have e0 : mvO N0 f (some e) p = if f = f then (if p = e.2 then N0 f e.1 else if p = e.1 then 0 else N0 f p) else N0 f p := rfl
    rw [if_pos rfl] at e0
    rw [e0]
    by_cases c1 : p = e.1
    · refine bX8_plannedNeed_6_0 hn hX (by rw [c1]; rfl) ?_
      rw [if_neg (fun w => j8 (c1.symm.trans w)), if_pos c1]
      exact ⟨rfl, rfl⟩
    · refine bX8_plannedNeed_6_1 hn hX (fun w => c1 ((nI_eq (by omega) (by omega)).mp w)) (qX8_plannedNeed_14 (d' := d - 1) (rest := [.int (nI p)]) hn (by omega) (Nat.le_of_ble_eq_true rfl) (k_comesOf hn hX hf h) (fun v V hv => ?_))
      obtain ⟨rfl, hV⟩ := hv
      rw [hV]
      by_cases c2 : p = e.2
      · refine bX8_plannedNeed_17_0 (j1 := j) hn hX (by rw [c2]; rfl) hf j2 j1 ?_
        rw [if_pos c2, j5]
        exact ⟨rfl, rfl⟩
      · refine bX8_plannedNeed_17_1 hn hX (fun w => c2 ((nI_eq (by omega) (by omega)).mp w)) hf hp ?_
        rw [if_neg c2, if_neg c1, hN]
        exact ⟨rfl, rfl⟩
/-- how much of a part is left, while families take -/
def Enf (pt : Nat → Nat → Bool) (L P : Nat) (st : Nat → Nat) (N : Nat → Nat → Nat) (s : DS) (f i : Nat) : Prop := ∀ p, p < P → pS1 (pt p) s.1 L + nsum (fun f' => N f' p) (if p < i then f + 1 else f) = st p
theorem pt_ne {X : LX} {p p' : Nat} (hp : p < 14) (hp' : p' < 14) (h : p' ≠ p) : ∀ l, ptC X p' l = true → ptC X p l = false := fun l h1 => decide_eq_false (fun w => by
  have h2 := of_decide_eq_true h1
  rw [h2, nI_eq (by omega) (by omega)] at w
  exact h w)
theorem Enf.step {N : Nat → Nat → Nat} {s : DS} {f i : Nat} (hP : P ≤ 14) (hi : i < P) (h : Enf (ptC X) L P st N s f i) (hle : nsum (fun f' => N f' i) (f + 1) ≤ st i) : N f i ≤ pS1 (ptC X i) s.1 L ∧ Enf (ptC X) L P st N (dst (ptC X) L f i (N f i) s) f (i + 1) := by
  have h1 := h i hi
  rw [if_neg (Nat.lt_irrefl _)] at h1
  have h2 : nsum (fun f' => N f' i) (f + 1) = nsum (fun f' => N f' i) f + N f i := rfl
  refine ⟨by omega, fun p hp => ?_⟩
  show pS1 (ptC X p) (lfN (ptC X i) s.1 (N f i) L) L + _ = _
  by_cases c : p = i
  · subst c
    rw [lfN_sum (Nat.le_refl _), if_pos (Nat.lt_succ_self _)]
    omega
  · rw [lfN_oth (pt_ne (by omega) (by omega) c), ← h p hp]
    have hlt : p < i + 1 ↔ p < i := by omega
    simp only [hlt]
theorem c_packAll {T : Nat} {q : PRow} {s : DS} (hd : 8 ≤ d) (hn : 146 ≤ n) (hX : Sh n X) (hF : F ≤ 12) (hP : P ≤ 14) (hL : L ≤ 40) (eF : X 37 0 = nI F) (eP : X 2 0 = nI P) (hM : num X 23 0 10) (hk : okK X) (hT : T < 100) (eT : X 1 5 = nI T) (h29 : ∀ p, p < P → st p < 2 ^ 29) (hN : ∀ f, f < F → ∀ p, p < P → X (88 + 1 + f) p = nI (N0 f p)) (hC : ∀ f, f < F → Cd X N0 f (X 108 f) (q f)) (hs : Lt X L s) (hs4 : s.2.2.2 = 0) (hst : ∀ p, p < P → pS1 (ptC X p) s.1 L = st p) (hen : enC F P st (fun f => mvO N0 f (q f)) = true) : Ex g mX8_packAll d n n [.ref 87] X (fun v W => ∃ s', s' = dFa (ptC X) L (fun f => mvO N0 f (q f)) F P F s ∧ v = some (.int s'.2.2.2) ∧ Sh n W ∧ (∀ k, k ≠ 1 → k < 57 ∨ 68 < k → k ≠ 73 → k ≠ 74 → k ≠ 75 → W k = X k) ∧ W 1 8 = 1 ∧ (∀ j, j ≠ 8 → W 1 j = X 1 j) ∧ Fz X F T W ∧ Lt W L s') := by
  have hen' := of_decide_eq_true hen
  have hle : ∀ f, f < F → ∀ p, p < P → nsum (fun f' => mvO N0 f' (q f') p) (f + 1) ≤ st p := fun f hf p hp => by
    refine Nat.le_trans ?_ (hen' p hp)
    have hmono : ∀ k, nsum (fun f' => mvO N0 f' (q f') p) (f + 1) ≤ nsum (fun f' => mvO N0 f' (q f') p) (f + 1 + k) := by
      intro k
      induction k with
      | zero => exact Nat.le_refl _
      | succ k ih => exact Nat.le_trans ih (Nat.le_add_right _ _)
    have := hmono (F - (f + 1))
    rw [show f + 1 + (F - (f + 1)) = F by omega] at this
    exact this
  have hNb2 : ∀ f, f < F → ∀ p, p < P → mvO N0 f (q f) p < 2 ^ 29 := fun f hf p hp => by
    have h1 := hle f hf p hp
    have h2 : nsum (fun f' => mvO N0 f' (q f') p) (f + 1) = nsum (fun f' => mvO N0 f' (q f') p) f + mvO N0 f (q f) p := rfl
    have := h29 p hp
    omega
  refine e_of vX8_packAll (Nat.le_of_ble_eq_true rfl) (cat_of rfl) (bX8_packAll_0_0 hn hX (qX8_packAll_6 (d' := d - 1) (rest := []) hn (by omega) (by decide) (c_freeze (by omega) hn hX hF eF hM hk hT eT) (fun v W0 hv => ?_)))
  obtain ⟨rfl, w1, wk, w18, w1j, wz⟩ := hv
  refine bX8_packAll_9_0 hn w1 ?_
  have inner : ∀ (f : Nat), f < F → ∀ (post : Option Value → LX → Prop) (sf : DS), (∀ Z v3 v4, Sh n Z → (∀ k, k ≠ 73 → k ≠ 74 → k ≠ 75 → Z k = W0 k) → Lt Z L sf → Enf (ptC X) L P st (fun f => mvO N0 f (q f)) sf f P → Ev g mX8_packAll d n n post n 11 [some (.ref 87), some (.int sf.2.2.2), some (.int (nI f + 1)), v3, v4] [] Z) → ∀ r, r ≤ P → ∀ (Z : LX) (s1 : DS) (v4 : Option Value), dPa (ptC X) L f (mvO N0 f (q f)) P r s1 = sf → Sh n Z → (∀ k, k ≠ 73 → k ≠ 74 → k ≠ 75 → Z k = W0 k) → Lt Z L s1 → Enf (ptC X) L P st (fun f => mvO N0 f (q f)) s1 f (P - r) → Ev g mX8_packAll d n n post n 27 [some (.ref 87), some (.int s1.2.2.2), some (.int (nI f)), some (.int (nI (P - r))), v4] [] Z := by
    intro f hf post sf hk2 r
    induction r with
    | zero =>
      intro _ Z s1 v4 he hZ zk zL zE
      have he' : s1 = sf := he
      subst he'
      rw [Nat.sub_zero] at zE ⊢
      refine ev_wk (L' := [some (.ref 87), some (.int s1.2.2.2), some (.int (nI f)), some (.int (nI P)), none]) (by simp [lwk]) (bX8_packAll_27_1 hn hZ (by rw [zk 2 (by omega) (by omega) (by omega), wk 2 (by omega) (by omega), eP]; exact Int32.le_refl _) ?_)
      exact hk2 Z _ _ hZ zk zL zE
    | succ r ih =>
      intro hr Z s1 v4 he hZ zk zL zE
      obtain ⟨p, ep⟩ : ∃ p, p = P - (r + 1) := ⟨_, rfl⟩
      have ep1 : P - r = p + 1 := by omega
      have hp : p < P := by omega
      rw [dPa_s] at he
      rw [← ep] at he zE ⊢
      rw [ep1] at ih
      have zkk : ∀ k, k ≠ 1 → k < 57 ∨ 68 < k → k ≠ 73 → k ≠ 74 → k ≠ 75 → Z k = X k := fun k h1 h2 h3 h4 h5 => by rw [zk k h3 h4 h5, wk k h1 h2]
      have hCf := (hC f hf).cg (X' := Z) (fun k h1 h2 => zkk k (by omega) (by omega) (by omega) (by omega) (by omega))
      rw [← zkk 108 (by omega) (by omega) (by omega) (by omega) (by omega)] at hCf
      obtain ⟨q1, q2⟩ := zE.step hP hp (hle f hf p hp)
      refine ev_wk (L' := [some (.ref 87), some (.int s1.2.2.2), some (.int (nI f)), some (.int (nI p)), none]) (by simp [lwk]) (bX8_packAll_27_0 hn hZ (by rw [zkk 2 (by omega) (by omega) (by omega) (by omega) (by omega), eP]; exact nI_ge hp (by omega)) (qX8_packAll_44 (d' := d - 1) (rest := []) hn (by omega) (by decide) (k_planned (by omega) hn hZ (by omega) (by omega) (by rw [zkk _ (by omega) (by omega) (by omega) (by omega) (by omega), hN f hf p hp]) hCf) (fun v V hv => ?_)))
      obtain ⟨rfl, hV⟩ := hv
      rw [hV]
      refine bX8_packAll_47_0 hn hZ (qX8_packAll_60 (d' := d - 1) (rest := []) hn (by omega) (by decide) (c_draw (X := X) (s := s1) (by omega) hn hZ hL (by omega) (hNb2 f hf p hp) (zkk 70 (by omega) (by omega) (by omega) (by omega) (by omega)) zL q1) (fun v V hv => ?_))
      obtain ⟨rfl, v1, vk, vL⟩ := hv
      refine bX8_packAll_63_0 hn v1 ?_
      rw [nI_1]
      exact ih (by omega) V (dst (ptC X) L f p (mvO N0 f (q f) p) s1) _ he v1 (fun k h1 h2 h3 => by rw [vk k h1 h2 h3, zk k h1 h2 h3]) vL q2
  have outer : ∀ r, r ≤ F → ∀ (Z : LX) (s1 : DS) (v3 v4 : Option Value), dFa (ptC X) L (fun f => mvO N0 f (q f)) F P r s1 = dFa (ptC X) L (fun f => mvO N0 f (q f)) F P F s → Sh n Z → (∀ k, k ≠ 73 → k ≠ 74 → k ≠ 75 → Z k = W0 k) → Lt Z L s1 → Enf (ptC X) L P st (fun f => mvO N0 f (q f)) s1 (F - r) 0 → Ev g mX8_packAll d n n (fun v W => ∃ s', s' = dFa (ptC X) L (fun f => mvO N0 f (q f)) F P F s ∧ v = some (.int s'.2.2.2) ∧ Sh n W ∧ (∀ k, k ≠ 1 → k < 57 ∨ 68 < k → k ≠ 73 → k ≠ 74 → k ≠ 75 → W k = X k) ∧ W 1 8 = 1 ∧ (∀ j, j ≠ 8 → W 1 j = X 1 j) ∧ Fz X F T W ∧ Lt W L s') n 11 [some (.ref 87), some (.int s1.2.2.2), some (.int (nI (F - r))), v3, v4] [] Z := by
    intro r
    induction r with
    | zero =>
      intro _ Z s1 v3 v4 he hZ zk zL zE
      have he' : s1 = dFa (ptC X) L (fun f => mvO N0 f (q f)) F P F s := he
      refine ev_wk (L' := [some (.ref 87), some (.int s1.2.2.2), some (.int (nI (F - 0))), none, none]) (by simp [lwk]) (bX8_packAll_11_1 hn hZ (by rw [zk 37 (by omega) (by omega) (by omega), wk 37 (by omega) (by omega), eF, Nat.sub_zero]; exact Int32.le_refl _) ⟨s1, he', rfl, hZ, fun k h1 h2 h3 h4 h5 => by rw [zk k h3 h4 h5, wk k h1 h2], by rw [zk 1 (by omega) (by omega) (by omega), w18], fun j hj => by rw [zk 1 (by omega) (by omega) (by omega), w1j j hj], fun f hf w hw => by rw [zk _ (by omega) (by omega) (by omega), wz f hf w hw], zL⟩)
    | succ r ih =>
      intro hr Z s1 v3 v4 he hZ zk zL zE
      obtain ⟨f, ef⟩ : ∃ f, f = F - (r + 1) := ⟨_, rfl⟩
      have ef1 : F - r = f + 1 := by omega
      have hf : f < F := by omega
      rw [dFa_s] at he
      rw [← ef] at he zE ⊢
      rw [ef1] at ih
      refine ev_wk (L' := [some (.ref 87), some (.int s1.2.2.2), some (.int (nI f)), none, none]) (by simp [lwk]) (bX8_packAll_11_0 hn hZ (by rw [zk 37 (by omega) (by omega) (by omega), wk 37 (by omega) (by omega), eF]; exact nI_ge hf (by omega)) ?_)
      have := inner f hf _ (dPa (ptC X) L f (mvO N0 f (q f)) P P s1) (fun Z' v3 v4 hZ' zk' zL' zE' => by
        rw [nI_1]
        refine ih (by omega) Z' _ v3 v4 he hZ' zk' zL' (fun p hp => ?_)
        have := zE' p hp
        rw [if_pos hp] at this
        rw [if_neg (Nat.not_lt_zero _)]
        exact this) P (Nat.le_refl _) Z s1 none rfl hZ zk zL (by rw [Nat.sub_self]; exact zE)
      rw [Nat.sub_self] at this
      exact this
  have hs0 : Lt W0 L s := ⟨by rw [wk 69 (by omega) (by omega)]; exact hs.1, fun l hl => by rw [wk 73 (by omega) (by omega), wk 74 (by omega) (by omega)]; exact hs.2.1 l hl, fun p hp => by rw [wk 75 (by omega) (by omega)]; exact hs.2.2 p hp⟩
  have := outer F (Nat.le_refl _) W0 s none none rfl w1 (fun _ _ _ _ => rfl) hs0 (fun p hp => by
    rw [if_neg (Nat.not_lt_zero _), Nat.sub_self, hst p hp]
    rfl)
  rw [Nat.sub_self, hs4] at this
  exact this
end PKC
