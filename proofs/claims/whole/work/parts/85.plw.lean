/-! PLAN, 6: the swaps that the class gathers. -/
def zc (N : Nat → Nat) (P : Nat) : Nat → Nat
  | 0 => 0
  | q + 1 => zc N P q + (if N (P - (q + 1)) = 0 then 1 else 0)
def kc (N : Nat → Nat) (P : Nat) : Nat → Nat
  | 0 => 0
  | q + 1 => kc N P q + (if N (P - (q + 1)) = 0 then 0 else 1)
theorem zc_s (N : Nat → Nat) (P q : Nat) : zc N P (q + 1) = zc N P q + (if N (P - (q + 1)) = 0 then 1 else 0) := rfl
theorem kc_s (N : Nat → Nat) (P q : Nat) : kc N P (q + 1) = kc N P q + (if N (P - (q + 1)) = 0 then 0 else 1) := rfl
theorem zk (N : Nat → Nat) (P : Nat) : ∀ q, zc N P q + kc N P q = q
  | 0 => rfl
  | q + 1 => by
    rw [zc_s, kc_s]
    have := zk N P q
    by_cases c : N (P - (q + 1)) = 0
    · rw [if_pos c, if_pos c]; omega
    · rw [if_neg c, if_neg c]; omega
theorem cl_len {lg : Nat → Bool} {N : Nat → Nat} {a P : Nat} (h : ∀ c, lg c = true → N c = 0) : ∀ q, (cl lg a P q).length ≤ zc N P q
  | 0 => Nat.le_refl _
  | q + 1 => by
    rw [cl_s, zc_s]
    have := cl_len h (a := a) (P := P) q
    by_cases c : lg (P - (q + 1)) = true
    · rw [if_pos c, if_pos (h _ c), List.length_cons]; omega
    · rw [if_neg c]; omega
theorem cl_nil {lg : Nat → Bool} {a P : Nat} (h : ∀ c, lg c = false) : ∀ q, cl lg a P q = []
  | 0 => rfl
  | q + 1 => by rw [cl_s, if_neg (by rw [h]; decide), cl_nil h q]
theorem gl_len {lg : Nat → Nat → Bool} {N : Nat → Nat} {P : Nat} (h1 : ∀ a c, lg a c = true → N c = 0) (h2 : ∀ a, N a = 0 → ∀ c, lg a c = false) : ∀ q, (gl lg P q).length ≤ kc N P q * zc N P P
  | 0 => by show 0 ≤ _; omega
  | q + 1 => by
    rw [gl_s, kc_s, List.length_append]
    have ih := gl_len h1 h2 (P := P) q
    by_cases c : N (P - (q + 1)) = 0
    · rw [if_pos c, cl_nil (h2 _ c)]
      simp only [List.length_nil, Nat.zero_add, Nat.add_zero]
      exact ih
    · rw [if_neg c, Nat.succ_mul]
      have := cl_len (N := N) (a := P - (q + 1)) (P := P) (h1 (P - (q + 1))) P
      omega
theorem kz_49 : ∀ a, a < 15 → ∀ b, b < 15 → a + b < 15 → a * b ≤ 49 := by decide
theorem pr_len {A : Nat → Int32} {N0 : Nat → Nat → Nat} {P f : Nat} (hP : P ≤ 14) : (prA A N0 P f).length ≤ 49 := by
  have h := gl_len (lg := lgA A N0 f) (N := N0 f) (P := P) (fun a c w => (of_decide_eq_true w).2.1) (fun a ha c => decide_eq_false (fun w => by have := w.1; omega)) P
  have hz := zk (N0 f) P P
  have := kz_49 (kc (N0 f) P P) (by omega) (zc (N0 f) P P) (by omega) (by omega)
  exact Nat.le_trans h this
def al (Pr : Nat → List (Nat × Nat)) : Nat → List (Nat × (Nat × Nat))
  | 0 => []
  | f + 1 => al Pr f ++ (Pr f).map (fun e => (f, e))
theorem al_s (Pr : Nat → List (Nat × Nat)) (f : Nat) : al Pr (f + 1) = al Pr f ++ (Pr f).map (fun e => (f, e)) := rfl
theorem al_pre {Pr : Nat → List (Nat × Nat)} {f : Nat} : ∀ k, ∃ B, al Pr (f + k) = al Pr f ++ B
  | 0 => ⟨[], (List.append_nil _).symm⟩
  | k + 1 => by
    obtain ⟨B, e⟩ := al_pre (Pr := Pr) (f := f) k
    refine ⟨B ++ (Pr (f + k)).map (fun e => (f + k, e)), ?_⟩
    show al Pr (f + k) ++ (Pr (f + k)).map (fun e => (f + k, e)) = _
    rw [e, List.append_assoc]
theorem al_len {Pr : Nat → List (Nat × Nat)} (h : ∀ f, (Pr f).length ≤ 49) : ∀ f, (al Pr f).length ≤ f * 49
  | 0 => Nat.le_refl _
  | f + 1 => by
    rw [al_s, List.length_append, List.length_map, Nat.succ_mul]
    have := al_len h f
    have := h f
    omega
def Arr (N0 : Nat → Nat → Nat) (sr : Nat → Nat × Nat → Nat) (Z : LX) (l : List (Nat × (Nat × Nat))) : Prop := ∀ i x, l[i]? = some x → Z 103 i = nI x.2.1 ∧ Z 104 i = nI x.2.2 ∧ Z 105 i = nI (N0 x.1 x.2.1) ∧ Z 106 i = nI (sr x.1 x.2)
section PLW
variable {g : GG} {d n F P : Nat} {X : LX} {un N0 : Nat → Nat → Nat} {post : Option Value → LX → Prop}
/-- what is given for the gathering of swaps: needs stand, and parts and families alike on both sides -/
def Gw (X : LX) (F P : Nat) (un N0 : Nat → Nat → Nat) : Prop := (F ≤ 12 ∧ P ≤ 14) ∧ X 37 0 = nI F ∧ X 2 0 = nI P ∧ Nb F P N0 ∧ (∀ f, f < F → ∀ p, p < P → X (88 + 1 + f) p = nI (N0 f p)) ∧ (∀ p, p < 14 → X 3 p = X 134 (10 + 8 * p + 0) ∧ X 4 p = X 134 (10 + 8 * p + 3)) ∧ (∀ f, f < F → X 38 f = X 134 (448 + 15 * f + 0)) ∧ ∀ a, a < 14 → ∀ c, c < 14 → un a c ≤ 99 ∧ X (8 + 1 + a) c = nI (un a c)
def Wb (n : Nat) (X Z : LX) : Prop := Sh n Z ∧ (∀ k, k ≤ 86 ∨ (88 ≤ k ∧ k ≤ 101) ∨ 107 ≤ k → Z k = X k) ∧ ∀ j, j ≠ 9 → Z 87 j = X 87 j
theorem c_gatherSwapsOf {f a : Nat} {Z : LX} {l : List (Nat × (Nat × Nat))} (hn : 146 ≤ n) (hG : Gw X F P un N0) (hf : f < F) (ha : a < P) (hpos : 0 < N0 f a) (hl : l.length + (cl (lgA (X 134) N0 f a) a P P).length ≤ 588) (hZ : Wb n X Z) (h9 : Z 87 9 = nI l.length) (hA : Arr N0 (srA un N0) Z l) : Ex g mX8_gatherSwapsOf d n n [.ref 87, .int (nI f), .int (nI a)] Z (fun v Z' => v = none ∧ Wb n X Z' ∧ Z' 102 = Z 102 ∧ Z' 87 9 = nI (l ++ (cl (lgA (X 134) N0 f a) a P P).map (fun e => (f, e))).length ∧ Arr N0 (srA un N0) Z' (l ++ (cl (lgA (X 134) N0 f a) a P P).map (fun e => (f, e)))) := by
  obtain ⟨⟨gF, gP⟩, g37, g2, gNb, gN, g3, g38, gu⟩ := id hG
  refine e_of vX8_gatherSwapsOf (Nat.le_of_ble_eq_true rfl) (cat_of rfl) (bX8_gatherSwapsOf_0_0 hn hZ.1 ?_)
  have loop : ∀ q, q ≤ P → ∀ (l' : List (Nat × (Nat × Nat))) (W : LX), l'.length + (cl (lgA (X 134) N0 f a) a P q).length ≤ 588 → Wb n X W → W 102 = Z 102 → W 87 9 = nI l'.length → Arr N0 (srA un N0) W l' → Ev g mX8_gatherSwapsOf d n n (fun v Z' => v = none ∧ Wb n X Z' ∧ Z' 102 = Z 102 ∧ Z' 87 9 = nI (l' ++ (cl (lgA (X 134) N0 f a) a P q).map (fun e => (f, e))).length ∧ Arr N0 (srA un N0) Z' (l' ++ (cl (lgA (X 134) N0 f a) a P q).map (fun e => (f, e)))) n 11 [some (.ref 87), some (.int (nI f)), some (.int (nI a)), some (.ref 2), some (.int (nI (P - q)))] [] W := by
    intro q
    induction q with
    | zero =>
      intro _ l' W hl' hW h102 h9 hA
      refine bX8_gatherSwapsOf_11_5 hn hW.1 (by rw [hW.2.1 2 (by omega), g2, Nat.sub_zero]; exact Int32.le_refl _) ?_
      show none = none ∧ _ ∧ _ ∧ W 87 9 = nI (l' ++ []).length ∧ Arr N0 (srA un N0) W (l' ++ [])
      rw [List.append_nil]
      exact ⟨rfl, hW, h102, h9, hA⟩
    | succ q ih =>
      intro hq l' W hl' hW h102 h9 hA
      obtain ⟨c, ec⟩ : ∃ c, c = P - (q + 1) := ⟨_, rfl⟩
      have ec1 : P - q = c + 1 := by omega
      have hc : c < P := by omega
      rw [cl_s] at hl' ⊢
      rw [← ec] at hl' ⊢
      rw [ec1] at ih
      have c0 : ¬ W 2 0 ≤ nI c := by rw [hW.2.1 2 (by omega), g2]; exact nI_ge hc (by omega)
      by_cases hfull : l'.length = 588
      · refine bX8_gatherSwapsOf_11_4 hn hW.1 c0 (by rw [h9, hfull]; exact Int32.le_refl _) ?_
        have e0 : (if lgA (X 134) N0 f a c = true then (a, c) :: cl (lgA (X 134) N0 f a) a P q else cl (lgA (X 134) N0 f a) a P q) = [] := List.length_eq_zero_iff.mp (by omega)
        rw [e0, List.map_nil, List.append_nil]
        exact ⟨rfl, hW, h102, h9, hA⟩
      have c1 : ¬ 588 ≤ W 87 9 := by rw [h9]; exact nI_ge (b := 588) (by omega) (by omega)
      have hNc := gNb f hf c hc
      have hNa := gNb f hf a ha
      have eNc : W (88 + 1 + f) c = nI (N0 f c) := by rw [hW.2.1 _ (by omega), gN f hf c hc]
      have i2 : 0 < W (88 + 1 + f) c ↔ 0 < N0 f c := by
        rw [eNc]
        have := nI_ltI (a := 0) (b := N0 f c) (by omega) (by omega)
        rw [nI_0] at this
        exact this
      have es : ∀ p, p < 14 → W 4 p = X 134 (10 + 8 * p + 3) ∧ W 3 p = X 134 (10 + 8 * p + 0) := fun p hp => by rw [hW.2.1 4 (by omega), hW.2.1 3 (by omega)]; exact ⟨(g3 p hp).2, (g3 p hp).1⟩
      have e38 : W 38 f = X 134 (448 + 15 * f + 0) := by rw [hW.2.1 38 (by omega), g38 f hf]
      have skip : lgA (X 134) N0 f a c = false → Ev g mX8_gatherSwapsOf d n n (fun v Z' => v = none ∧ Wb n X Z' ∧ Z' 102 = Z 102 ∧ Z' 87 9 = nI (l' ++ (if lgA (X 134) N0 f a c = true then (a, c) :: cl (lgA (X 134) N0 f a) a P q else cl (lgA (X 134) N0 f a) a P q).map (fun e => (f, e))).length ∧ Arr N0 (srA un N0) Z' (l' ++ (if lgA (X 134) N0 f a c = true then (a, c) :: cl (lgA (X 134) N0 f a) a P q else cl (lgA (X 134) N0 f a) a P q).map (fun e => (f, e)))) n 11 [some (.ref 87), some (.int (nI f)), some (.int (nI a)), some (.ref 2), some (.int (nI c + 1))] [] W := by
        intro hlg
        rw [hlg, if_neg (by decide)] at hl'
        rw [hlg, if_neg (by decide), nI_1]
        exact ih (by omega) l' W hl' hW h102 h9 hA
      by_cases k1 : 0 < N0 f c
      · exact bX8_gatherSwapsOf_11_3 hn hW.1 c0 c1 (by omega) (by omega) (i2.mpr k1) (skip (decide_eq_false (fun w => by have := w.2.1; omega)))
      · have k1' : ¬ 0 < W (88 + 1 + f) c := fun w => k1 (i2.mp w)
        by_cases k2 : W 4 c = W 4 a
        · by_cases k3 : W 3 c &&& W 38 f = 0
          · have hlg : lgA (X 134) N0 f a c = true := by
              refine decide_eq_true ⟨hpos, by omega, ?_, ?_⟩
              · rw [← (es a (by omega)).1, ← (es c (by omega)).1, k2]
              · rw [← (es c (by omega)).2, ← e38]; exact k3
            rw [hlg, if_pos rfl, List.length_cons] at hl'
            rw [hlg, if_pos rfl]
            refine bX8_gatherSwapsOf_11_2 (j1 := l'.length) hn hW.1 c0 c1 (by omega) (by omega) k1' (by omega) k2 k3 h9 (by omega) ?_
            have ea1 : lx_up (lx_up W 103 l'.length (nI a)) 104 l'.length (nI c) (88 + 1 + f) a = nI (N0 f a) := by rw [up_ne (by omega), up_ne (by omega), hW.2.1 _ (by omega), gN f hf a ha]
            rw [ea1]
            have ea2 : lx_up (lx_up (lx_up W 103 l'.length (nI a)) 104 l'.length (nI c)) 105 l'.length (nI (N0 f a)) (88 + 1 + f) a = nI (N0 f a) := by rw [up_ne (by omega), ea1]
            have ea3 : lx_up (lx_up (lx_up W 103 l'.length (nI a)) 104 l'.length (nI c)) 105 l'.length (nI (N0 f a)) (8 + 1 + a) c = nI (un a c) := by rw [up_ne (by omega), up_ne (by omega), up_ne (by omega), hW.2.1 _ (by omega), (gu a (by omega) c (by omega)).2]
            have hprod : N0 f a * un a c ≤ 60000 * 99 := Nat.mul_le_mul hNa (gu a (by omega) c (by omega)).1
            have ea4 : nI (N0 f a) * nI (un a c) / 100 = nI (srA un N0 f (a, c)) := by
              rw [pk_mul]
              show nI (N0 f a * un a c) / nI 100 = _
              rw [pk_div (by omega) (by omega) (by omega)]
              rfl
            rw [ea2, ea3, ea4, h9, nI_1, nI_1]
            obtain ⟨Y, hY⟩ : ∃ Y : LX, Y = lx_up (lx_up (lx_up (lx_up (lx_up W 103 l'.length (nI a)) 104 l'.length (nI c)) 105 l'.length (nI (N0 f a))) 106 l'.length (nI (srA un N0 f (a, c)))) 87 9 (nI (l'.length + 1)) := ⟨_, rfl⟩
            rw [← hY]
            have hYS : Sh n Y := by
              rw [hY]
              exact ((((hW.1.upA (by decide +kernel)).upA (by decide +kernel)).upA (by decide +kernel)).upA (by decide +kernel)).upF (by decide +kernel) (by decide +kernel)
            have yk : ∀ k, k ≠ 87 → k ≠ 103 → k ≠ 104 → k ≠ 105 → k ≠ 106 → Y k = W k := fun k h1 h2 h3 h4 h5 => by rw [hY, up_ne h1, up_ne h5, up_ne h4, up_ne h3, up_ne h2]
            have hih := ih (by omega) (l' ++ [(f, (a, c))]) Y (by rw [List.length_append, List.length_singleton]; omega) ⟨hYS, fun k hk => by rw [yk k (by omega) (by omega) (by omega) (by omega) (by omega), hW.2.1 k hk], fun j hj => by rw [hY, up_at hj, up_ne (by omega), up_ne (by omega), up_ne (by omega), up_ne (by omega), hW.2.2 j hj]⟩ (by rw [yk 102 (by omega) (by omega) (by omega) (by omega) (by omega), h102]) (by rw [hY, up_it, List.length_append, List.length_singleton]) (fun i x hx => by
              by_cases hi : i < l'.length
              · rw [List.getElem?_append_left hi] at hx
                obtain ⟨x1, x2, x3, x4⟩ := hA i x hx
                have hne : i ≠ l'.length := by omega
                rw [hY]
                simp (disch := omega) only [up_ne, up_at]
                exact ⟨x1, x2, x3, x4⟩
              · rw [List.getElem?_append_right (by omega)] at hx
                by_cases hi2 : i = l'.length
                · rw [hi2, Nat.sub_self] at hx
                  have ex : (f, (a, c)) = x := Option.some.inj hx
                  rw [← ex, hi2, hY]
                  simp (disch := omega) only [up_ne, up_it]
                  exact ⟨trivial, trivial, trivial, trivial⟩
                · have : ([(f, (a, c))] : List (Nat × (Nat × Nat)))[i - l'.length]? = none := List.getElem?_eq_none (by rw [List.length_singleton]; omega)
                  rw [this] at hx
                  cases hx)
            rw [List.append_assoc] at hih
            exact hih
          · exact bX8_gatherSwapsOf_11_1 hn hW.1 c0 c1 (by omega) (by omega) k1' (by omega) k2 k3 (skip (decide_eq_false (fun w => by rw [(es c (by omega)).2, e38] at k3; exact k3 w.2.2.2)))
        · exact bX8_gatherSwapsOf_11_0 hn hW.1 c0 c1 (by omega) (by omega) k1' (by omega) k2 (skip (decide_eq_false (fun w => by rw [(es a (by omega)).1, (es c (by omega)).1] at k2; exact k2 w.2.2.1.symm)))
  have := loop P (Nat.le_refl _) l Z hl hZ rfl h9 hA
  rw [Nat.sub_self] at this
  exact this
theorem c_gatherSwaps (hd : 1 ≤ d) (hn : 146 ≤ n) (hX : Sh n X) (hG : Gw X F P un N0) : Ex g mX8_gatherSwaps d n n [.ref 87] X (fun v Z => v = none ∧ Wb n X Z ∧ Arr N0 (srA un N0) Z (al (prA (X 134) N0 P) F) ∧ ∀ f, f ≤ F → Z 102 f = nI (al (prA (X 134) N0 P) f).length) := by
  obtain ⟨⟨gF, gP⟩, g37, g2, gNb, gN, g3, g38, gu⟩ := id hG
  have hlen := al_len (Pr := prA (X 134) N0 P) (fun f => pr_len gP)
  refine e_of vX8_gatherSwaps (Nat.le_of_ble_eq_true rfl) (cat_of rfl) (bX8_gatherSwaps_0_0 hn hX ?_)
  have inner : ∀ (f : Nat), f < F → ∀ (post : Option Value → LX → Prop) (Z0 : LX), (∀ W v2, Wb n X W → W 102 = Z0 102 → W 87 9 = nI (al (prA (X 134) N0 P) (f + 1)).length → Arr N0 (srA un N0) W (al (prA (X 134) N0 P) (f + 1)) → Ev g mX8_gatherSwaps d n n post n 14 [some (.ref 87), some (.int (nI f + 1)), v2] [] (lx_up W 102 (f + 1) (W 87 9))) → ∀ q, q ≤ P → ∀ (l : List (Nat × (Nat × Nat))) (W : LX), l ++ (gl (lgA (X 134) N0 f) P q).map (fun e => (f, e)) = al (prA (X 134) N0 P) (f + 1) → Wb n X W → W 102 = Z0 102 → W 87 9 = nI l.length → Arr N0 (srA un N0) W l → Ev g mX8_gatherSwaps d n n post n 30 [some (.ref 87), some (.int (nI f)), some (.int (nI (P - q)))] [] W := by
    intro f hf post Z0 hk q
    induction q with
    | zero =>
      intro _ l W hl hW h102 h9 hA
      have hl2 : l = al (prA (X 134) N0 P) (f + 1) := by
        rw [← hl]
        show l = l ++ []
        rw [List.append_nil]
      refine bX8_gatherSwaps_30_2 hn hW.1 (by rw [hW.2.1 2 (by omega), g2, Nat.sub_zero]; exact Int32.le_refl _) (by omega) ?_
      exact hk W _ hW h102 (by rw [h9, hl2]) (by rw [← hl2]; exact hA)
    | succ q ih =>
      intro hq l W hl hW h102 h9 hA
      obtain ⟨a, ea⟩ : ∃ a, a = P - (q + 1) := ⟨_, rfl⟩
      have ea1 : P - q = a + 1 := by omega
      have ha : a < P := by omega
      rw [gl_s] at hl
      rw [← ea] at hl ⊢
      rw [ea1] at ih
      rw [List.map_append] at hl
      have hlb : l.length + (cl (lgA (X 134) N0 f a) a P P).length ≤ 588 := by
        have h1 := hlen (f + 1)
        rw [← hl] at h1
        simp only [List.length_append, List.length_map] at h1
        have : (f + 1) * 49 ≤ 12 * 49 := Nat.mul_le_mul_right _ (by omega)
        omega
      have c0 : ¬ W 2 0 ≤ nI a := by rw [hW.2.1 2 (by omega), g2]; exact nI_ge ha (by omega)
      have hNa := gNb f hf a ha
      have eNa : W (88 + 1 + f) a = nI (N0 f a) := by rw [hW.2.1 _ (by omega), gN f hf a ha]
      by_cases k1 : 0 < N0 f a
      · refine bX8_gatherSwaps_30_0 hn hW.1 c0 (by omega) (by omega) (by rw [eNa]; exact nI_nle k1 (by omega)) (qX8_gatherSwaps_58 (d' := d - 1) (rest := []) hn (by omega) (by decide) (c_gatherSwapsOf hn hG hf ha k1 hlb hW h9 hA) (fun v V hv => ?_))
        obtain ⟨rfl, v1, v2, v3, v4⟩ := hv
        refine bX8_gatherSwaps_61_0 hn v1.1 ?_
        rw [nI_1]
        exact ih (by omega) _ V (by rw [List.append_assoc, hl]) v1 (by rw [v2, h102]) v3 v4
      · refine bX8_gatherSwaps_30_1 hn hW.1 c0 (by omega) (by omega) (by rw [eNa, show N0 f a = 0 by omega]; decide) ?_
        rw [cl_nil (lg := lgA (X 134) N0 f a) (fun c => decide_eq_false (fun w => k1 w.1)), List.map_nil, List.nil_append] at hl
        rw [nI_1]
        exact ih (by omega) l W hl hW h102 h9 hA
  have outer : ∀ r, r ≤ F → ∀ (W : LX), Wb n X W → W 87 9 = nI (al (prA (X 134) N0 P) (F - r)).length → Arr N0 (srA un N0) W (al (prA (X 134) N0 P) (F - r)) → (∀ f, f ≤ F - r → W 102 f = nI (al (prA (X 134) N0 P) f).length) → ∀ v2, Ev g mX8_gatherSwaps d n n (fun v Z => v = none ∧ Wb n X Z ∧ Arr N0 (srA un N0) Z (al (prA (X 134) N0 P) F) ∧ ∀ f, f ≤ F → Z 102 f = nI (al (prA (X 134) N0 P) f).length) n 14 [some (.ref 87), some (.int (nI (F - r))), v2] [] W := by
    intro r
    induction r with
    | zero =>
      intro _ W hW h9 hA h1 v2
      rw [Nat.sub_zero] at h9 hA h1 ⊢
      exact ev_wk (L' := [some (.ref 87), some (.int (nI F)), none]) (by simp [lwk]) (bX8_gatherSwaps_14_1 hn hW.1 (by rw [hW.2.1 37 (by omega), g37]; exact Int32.le_refl _) ⟨rfl, hW, hA, h1⟩)
    | succ r ih =>
      intro hr W hW h9 hA h1 v2
      obtain ⟨f, ef⟩ : ∃ f, f = F - (r + 1) := ⟨_, rfl⟩
      have ef1 : F - r = f + 1 := by omega
      have hf : f < F := by omega
      rw [← ef] at h9 hA h1 ⊢
      rw [ef1] at ih
      refine ev_wk (L' := [some (.ref 87), some (.int (nI f)), none]) (by simp [lwk]) (bX8_gatherSwaps_14_0 hn hW.1 (by rw [hW.2.1 37 (by omega), g37]; exact nI_ge hf (by omega)) ?_)
      have := inner f hf (fun v Z => v = none ∧ Wb n X Z ∧ Arr N0 (srA un N0) Z (al (prA (X 134) N0 P) F) ∧ ∀ f, f ≤ F → Z 102 f = nI (al (prA (X 134) N0 P) f).length) W (fun V v2 hV h102 v9 vA => by
        rw [nI_1]
        refine ih (by omega) _ ⟨hV.1.upA (by decide +kernel), fun k hk => by rw [up_ne (by omega), hV.2.1 k hk], fun j hj => by rw [up_ne (by omega), hV.2.2 j hj]⟩ (by rw [up_ne (by omega), v9]) (fun i x hx => by rw [up_ne (by omega), up_ne (by omega), up_ne (by omega), up_ne (by omega)]; exact vA i x hx) (fun f' hf' => ?_) v2
        by_cases c : f' = f + 1
        · rw [c, up_it, v9]
        · rw [up_at c, h102, h1 f' (by omega)]) P (Nat.le_refl _) (al (prA (X 134) N0 P) f) W rfl hW rfl h9 hA
      rw [Nat.sub_self] at this
      exact this
  have := outer F (Nat.le_refl _) (lx_up (lx_up X 87 9 0) 102 0 0) ⟨(hX.upF (by decide +kernel) (by decide +kernel)).upA (by decide +kernel), fun k hk => by rw [up_ne (by omega), up_ne (by omega)], fun j hj => by rw [up_ne (by omega), up_at hj]⟩ (by rw [up_ne (by omega), up_it, Nat.sub_self]; rfl) (fun i x hx => by
    rw [Nat.sub_self] at hx
    cases hx) (fun f hf => by
    rw [Nat.sub_self] at hf
    rw [show f = 0 by omega, up_it]
    rfl) none
  rw [Nat.sub_self] at this
  exact this
end PLW
