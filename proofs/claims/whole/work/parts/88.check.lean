/-! PLAN, 9: check. -/
def itO (f : Nat) : Option (Nat × Nat) → List Int32
  | none => []
  | some e => [nI f, nI e.1, nI e.2]
/-- the rows of the last r families -/
def lsR (q : PRow) (F : Nat) : Nat → List Int32
  | 0 => []
  | r + 1 => itO (F - (r + 1)) (q (F - (r + 1))) ++ lsR q F r
theorem lsR_s (q : PRow) (F r : Nat) : lsR q F (r + 1) = itO (F - (r + 1)) (q (F - (r + 1))) ++ lsR q F r := rfl
theorem itO_len (f : Nat) (o : Option (Nat × Nat)) : (itO f o).length ≤ 3 := by
  cases o with
  | none => exact Nat.zero_le _
  | some e => exact Nat.le_refl _
theorem lsR_len (q : PRow) (F : Nat) : ∀ r, (lsR q F r).length ≤ 3 * r
  | 0 => Nat.zero_le _
  | r + 1 => by
    rw [lsR_s, List.length_append]
    have := itO_len (F - (r + 1)) (q (F - (r + 1)))
    have := lsR_len q F r
    omega
/-- the answer when i words are right and these are still due -/
def cmpR (w : Nat → Int32) (m : Nat) : List Int32 → Nat → Int32
  | [], i => if i < m then 1 + nI i else 0
  | x :: l, i => if i = m then 1 + nI i else if w i = x then cmpR w m l (i + 1) else 1 + nI i
theorem cmpR_0 (w : Nat → Int32) (m i : Nat) : cmpR w m [] i = if i < m then 1 + nI i else 0 := rfl
theorem cmpR_s (w : Nat → Int32) (m : Nat) (x : Int32) (l : List Int32) (i : Nat) : cmpR w m (x :: l) i = if i = m then 1 + nI i else if w i = x then cmpR w m l (i + 1) else 1 + nI i := rfl
def LsA (Z : LX) (l : List Int32) : Prop := ∀ i x, l[i]? = some x → Z 109 i = x
theorem LsA.snoc {Z Z' : LX} {l : List Int32} {x : Int32} (h : LsA Z l) (he : Z' 109 l.length = x) (hs : ∀ i, i ≠ l.length → Z' 109 i = Z 109 i) : LsA Z' (l ++ [x]) := by
  intro i y hy
  by_cases hi : i < l.length
  · rw [List.getElem?_append_left hi] at hy
    rw [hs i (by omega)]
    exact h i y hy
  · rw [List.getElem?_append_right (by omega)] at hy
    by_cases hi2 : i = l.length
    · rw [hi2, Nat.sub_self] at hy
      have ex : x = y := Option.some.inj hy
      rw [hi2, he, ex]
    · have : ([x] : List Int32)[i - l.length]? = none := List.getElem?_eq_none (by rw [List.length_singleton]; omega)
      rw [this] at hy
      cases hy
section CHECK
variable {LR : LX → (Nat → Int32) → Prop} {g : GG} {d n F P L : Nat} {X : LX} {st : Nat → Nat} {un N0 : Nat → Nat → Nat}
theorem Pst_cg {X' : LX} (h76 : same76 X X') (hA : X' 134 = X 134) (hS : Pst X F P st un N0) : Pst X' F P st un N0 := by
  obtain ⟨⟨⟨gF, gP⟩, g37, g2, g23, g69, gk, gs, gNb, gN⟩, h3, h38, hun, -, m6, m4, m7, ms, mu⟩ := hS
  have hm : ∀ p : Int32, mStock X' p = mStock X p := fun p => by unfold mStock; rw [hA]
  refine ⟨⟨⟨gF, gP⟩, by rw [h76 37 (by omega) (by omega), g37], by rw [h76 2 (by omega) (by omega), g2], by rw [num_cg (h76 23 (by omega) (by omega))]; exact g23, by rw [num_cg (h76 69 (by omega) (by omega))]; exact g69, by rw [okK_cg h76]; exact gk, fun p hp => ⟨(gs p hp).1, ?_⟩, gNb, fun f hf p hp => by rw [cBox_cg h76 g23 (by omega), cNeed_cg h76 g23, gN f hf p hp]⟩, fun p hp => by rw [h76 3 (by omega) (by omega), h76 4 (by omega) (by omega), hA]; exact h3 p hp, fun f hf => by rw [h76 38 (by omega) (by omega), hA, h38 f hf], fun a ha c hc => by rw [h76 _ (by omega) (by omega)]; exact hun a ha c hc, ⟨gF, gP⟩, by rw [hA, m6], by rw [hA, m4], by rw [num_cg hA]; exact m7, fun p hp => by rw [hm]; exact ms p hp, fun a ha c hc => by rw [hA]; exact mu a ha c hc⟩
  rw [← (gs p hp).2]
  unfold cLeft
  rw [h76 69 (by omega) (by omega), h76 70 (by omega) (by omega), h76 73 (by omega) (by omega)]
theorem Cd.cg {X' : LX} {f : Nat} {v : Int32} {o : Option (Nat × Nat)} (h : Cd X N0 f v o) (hk : ∀ k, 103 ≤ k → k ≤ 105 → X' k = X k) : Cd X' N0 f v o := by
  cases o with
  | none => exact h
  | some e =>
    obtain ⟨j, j1, j2, j3, j4, j5, j6⟩ := h
    exact ⟨j, j1, j2, by rw [hk 103 (by omega) (by omega), j3], by rw [hk 104 (by omega) (by omega), j4], by rw [hk 105 (by omega) (by omega), j5], j6⟩
theorem c_listRows {q : PRow} (hd : 1 ≤ d) (hn : 146 ≤ n) (hX : Sh n X) (hF : F ≤ 12) (eF : X 37 0 = nI F) (hC : ∀ f, f < F → Cd X N0 f (X 108 f) (q f)) : Ex g mX8_listRows d n n [.ref 87] X (fun v W => v = some (.ref 109) ∧ Sh n W ∧ (∀ k, k ≠ 87 → k ≠ 109 → W k = X k) ∧ W 87 18 = nI (lsR q F F).length ∧ LsA W (lsR q F F)) := by
  refine e_of vX8_listRows (Nat.le_of_ble_eq_true rfl) (cat_of rfl) (bX8_listRows_0_0 hn hX ?_)
  have loop : ∀ r, r ≤ F → ∀ (l : List Int32) (W : LX), l ++ lsR q F r = lsR q F F → l.length ≤ 3 * (F - r) → Sh n W → (∀ k, k ≠ 87 → k ≠ 109 → W k = X k) → W 87 18 = nI l.length → LsA W l → Ev g mX8_listRows d n n (fun v W => v = some (.ref 109) ∧ Sh n W ∧ (∀ k, k ≠ 87 → k ≠ 109 → W k = X k) ∧ W 87 18 = nI (lsR q F F).length ∧ LsA W (lsR q F F)) n 7 [some (.ref 87), some (.int (nI (F - r)))] [] W := by
    intro r
    induction r with
    | zero =>
      intro _ l W hl hll hW wk w18 wA
      have hl2 : l = lsR q F F := by
        rw [← hl]
        show l = l ++ []
        rw [List.append_nil]
      rw [hl2] at w18 wA
      exact bX8_listRows_7_2 hn hW (by rw [wk 37 (by omega) (by omega), eF, Nat.sub_zero]; exact Int32.le_refl _) ⟨rfl, hW, wk, w18, wA⟩
    | succ r ih =>
      intro hr l W hl hll hW wk w18 wA
      obtain ⟨f, ef⟩ : ∃ f, f = F - (r + 1) := ⟨_, rfl⟩
      have ef1 : F - r = f + 1 := by omega
      have hf : f < F := by omega
      rw [lsR_s] at hl
      rw [← ef] at hl hll ⊢
      rw [ef1] at ih
      have hCf := (hC f hf).cg (X' := W) (fun k h1 h2 => wk k (by omega) (by omega))
      rw [← wk 108 (by omega) (by omega)] at hCf
      refine bX8_listRows_7_0 hn hW (by rw [wk 37 (by omega) (by omega), eF]; exact nI_ge hf (by omega)) (by rw [w18]; show ¬ nI 36 < nI l.length + nI 3; rw [nI_add]; exact nI_nlt (by omega) (by omega)) (qX8_listRows_34 (d' := d - 1) (rest := []) hn (by omega) (by decide) (k_isSwapped hn hW (by omega) hCf) (fun v V hv => ?_))
      obtain ⟨rfl, hV⟩ := hv
      rw [hV]
      cases ho : q f with
      | none =>
        rw [ho] at hl
        refine bX8_listRows_37_0 hn hW rfl ?_
        rw [nI_1]
        exact ih (by omega) l W hl (by omega) hW wk w18 wA
      | some e =>
        rw [ho] at hl hCf
        refine bX8_listRows_37_1 (j1 := l.length) hn hW (show ¬ (1 : Int32) = 0 by decide) w18 (by omega) ?_
        rw [w18, nI_1, nI_1]
        obtain ⟨Y, hY⟩ : ∃ Y : LX, Y = lx_up (lx_up (lx_up W 87 18 (nI (l.length + 1))) 109 l.length (nI f)) 87 18 (nI (l.length + 1 + 1)) := ⟨_, rfl⟩
        rw [← hY]
        have hYS : Sh n Y := by
          rw [hY]
          exact ((hW.upF (by decide +kernel) (by decide +kernel)).upA (by decide +kernel)).upF (by decide +kernel) (by decide +kernel)
        have yk : ∀ k, k ≠ 87 → k ≠ 109 → Y k = W k := fun k h1 h2 => by rw [hY, up_ne h1, up_ne h2, up_ne h1]
        have yA : LsA Y (l ++ [nI f]) := wA.snoc (by rw [hY, up_ne (by omega), up_it]) (fun i hi => by rw [hY, up_ne (by omega), up_at hi, up_ne (by omega)])
        have hCY := hCf.cg (X' := Y) (fun k h1 h2 => yk k (by omega) (by omega))
        rw [← yk 108 (by omega) (by omega)] at hCY
        refine qX8_listRows_77 (d' := d - 1) (rest := [.int (nI (l.length + 1)), .ref 109]) hn (by omega) (Nat.le_of_ble_eq_true rfl) (k_goesOf hn hYS (by omega) hCY) (fun v V hv => ?_)
        obtain ⟨rfl, hV⟩ := hv
        rw [hV]
        have y18 : Y 87 18 = nI (l.length + 1 + 1) := by rw [hY, up_it]
        refine bX8_listRows_80_0 (s1 := l.length + 1) hn hYS (by omega) ?_
        rw [y18, nI_1]
        obtain ⟨U, hU⟩ : ∃ U : LX, U = lx_up (lx_up Y 109 (l.length + 1) (goO (some e))) 87 18 (nI (l.length + 1 + 1 + 1)) := ⟨_, rfl⟩
        rw [← hU]
        have hUS : Sh n U := by rw [hU]; exact (hYS.upA (by decide +kernel)).upF (by decide +kernel) (by decide +kernel)
        have uk : ∀ k, k ≠ 87 → k ≠ 109 → U k = Y k := fun k h1 h2 => by rw [hU, up_ne h1, up_ne h2]
        have uA : LsA U ((l ++ [nI f]) ++ [nI e.1]) := by
          refine yA.snoc ?_ (fun i hi => ?_)
          · rw [List.length_append, List.length_singleton, hU, up_ne (by omega), up_it]; rfl
          · rw [List.length_append, List.length_singleton] at hi
            rw [hU, up_ne (by omega), up_at hi]
        have hCU := hCY.cg (X' := U) (fun k h1 h2 => uk k (by omega) (by omega))
        rw [← uk 108 (by omega) (by omega)] at hCU
        refine qX8_listRows_98 (d' := d - 1) (rest := [.int (nI (l.length + 1 + 1)), .ref 109]) hn (by omega) (Nat.le_of_ble_eq_true rfl) (k_comesOf hn hUS (by omega) hCU) (fun v V hv => ?_)
        obtain ⟨rfl, hV⟩ := hv
        rw [hV]
        refine bX8_listRows_101_0 (s1 := l.length + 1 + 1) hn hUS (by omega) ?_
        rw [nI_1]
        have tA : LsA (lx_up U 109 (l.length + 1 + 1) (coO (some e))) (((l ++ [nI f]) ++ [nI e.1]) ++ [nI e.2]) := by
          refine uA.snoc ?_ (fun i hi => ?_)
          · rw [List.length_append, List.length_append, List.length_singleton, List.length_singleton, up_it]; rfl
          · rw [List.length_append, List.length_append, List.length_singleton, List.length_singleton] at hi
            rw [up_at hi]
        refine ih (by omega) (((l ++ [nI f]) ++ [nI e.1]) ++ [nI e.2]) _ (by rw [← hl]; simp [itO]) (by simp only [List.length_append, List.length_singleton]; omega) (hUS.upA (by decide +kernel)) (fun k h1 h2 => by rw [up_ne h2, uk k h1 h2, yk k h1 h2, wk k h1 h2]) ?_ tA
        rw [up_ne (by omega), hU, up_it]
        simp only [List.length_append, List.length_singleton]
  have := loop F (Nat.le_refl _) [] (lx_up X 87 18 0) rfl (Nat.zero_le _) (hX.upF (by decide +kernel) (by decide +kernel)) (fun k h1 _ => up_ne h1) up_it (fun i x hx => by cases hx)
  rw [Nat.sub_self] at this
  exact this
theorem cmp_c {v2 : Int32} {m : Nat} {LS : List Int32} (hn : 146 ≤ n) (hX : Sh n X) (hm : m ≤ 36) (hl : LS.length ≤ 36) (hA : LsA X LS) {post : Option Value → LX → Prop} (hp : post (some (.int (cmpR (X 132) m LS 0))) X) : Ev g mX11_check d n n post n 47 [some (.ref 0), some (.int (nI m)), some (.int v2), some (.ref 109), some (.int (nI LS.length)), some (.int 0)] [] X := by
  have loop : ∀ (l : List Int32) (i : Nat), LS.drop i = l → i + l.length = LS.length → i ≤ m → cmpR (X 132) m l i = cmpR (X 132) m LS 0 → Ev g mX11_check d n n post n 47 [some (.ref 0), some (.int (nI m)), some (.int v2), some (.ref 109), some (.int (nI LS.length)), some (.int (nI i))] [] X := by
    intro l
    induction l with
    | nil =>
      intro i hl1 hl2 hi he
      simp only [List.length_nil, Nat.add_zero] at hl2
      rw [cmpR_0] at he
      by_cases c : i < m
      · rw [if_pos c] at he
        refine bX11_check_47_6 hn hX (nI_ge c (by omega)) (nI_le (by omega) (by omega)) (fun w => by rw [nI_eq (by omega) (by omega)] at w; omega) ?_
        rw [he]; exact hp
      · rw [if_neg c] at he
        refine bX11_check_47_7 hn hX (nI_le (by omega) (by omega)) (by rw [show i = m by omega]) (by rw [hl2]) ?_
        rw [he]; exact hp
    | cons x l ih =>
      intro i hl1 hl2 hi he
      simp only [List.length_cons] at hl2
      rw [cmpR_s] at he
      by_cases c : i = m
      · rw [if_pos c] at he
        refine bX11_check_47_8 hn hX (nI_le (by omega) (by omega)) (by rw [c]) (fun w => by rw [nI_eq (by omega) (by omega)] at w; omega) ?_
        rw [he]; exact hp
      · rw [if_neg c] at he
        have hget : LS[i]? = some x := by
          have := List.getElem?_drop (xs := LS) (i := i) (j := 0)
          rw [hl1] at this
          rw [show i + 0 = i from rfl] at this
          rw [← this]
          rfl
        have htl : LS.drop (i + 1) = l := by
          have := List.tail_drop (l := LS) (i := i)
          rw [hl1] at this
          exact this.symm
        have e109 := hA i x hget
        have c0 : ¬ nI m ≤ nI i := nI_ge (by omega) (by omega)
        have c1 : ¬ nI LS.length ≤ nI i := nI_ge (by omega) (by omega)
        by_cases cw : X 132 i = x
        · rw [if_pos cw] at he
          refine bX11_check_47_0 hn hX c0 c1 (by omega) (by rw [e109, cw]) ?_
          rw [nI_1]
          exact ih (i + 1) htl (by omega) (by omega) he
        · rw [if_neg cw] at he
          refine bX11_check_47_3 hn hX c0 c1 (by omega) (by rw [e109]; exact cw) (fun w => by rw [nI_eq (by omega) (by omega)] at w; omega) ?_
          rw [he]; exact hp
  exact loop LS 0 rfl (by omega) (Nat.zero_le _) rfl
theorem cmp_m {v2 : Int32} {m : Nat} {q : PRow} (hn : 146 ≤ n) (hX : Sh n X) (hm : m ≤ 36) (hF : F ≤ 12) (eF : X 134 6 = nI F) (h144 : ∀ f, f < F → X 144 f = Md (q f)) (hq : ∀ f, f < F → ∀ e, q f = some e → e.1 < 14 ∧ e.2 < 14) {post : Option Value → LX → Prop} (hp : post (some (.int (cmpR (X 137) m (lsR q F F) 0))) X) : Ev g mX12_check d n n post n 29 [some (.ref 133), some (.int (nI m)), some (.int v2), some (.int 0), some (.int 0), none, none] [] X := by
  have loop : ∀ r, r ≤ F → ∀ (i : Nat) (v5 v6 : Option Value), i ≤ m → cmpR (X 137) m (lsR q F r) i = cmpR (X 137) m (lsR q F F) 0 → Ev g mX12_check d n n post n 29 [some (.ref 133), some (.int (nI m)), some (.int v2), some (.int (nI i)), some (.int (nI (F - r))), v5, v6] [] X := by
    intro r
    induction r with
    | zero =>
      intro _ i v5 v6 hi he
      have he2 : (if i < m then 1 + nI i else 0) = cmpR (X 137) m (lsR q F F) 0 := he
      have c0 : X 134 6 ≤ nI (F - 0) := by rw [eF, Nat.sub_zero]; exact Int32.le_refl _
      refine ev_wk (L' := [some (.ref 133), some (.int (nI m)), some (.int v2), some (.int (nI i)), some (.int (nI (F - 0))), none, none]) (by simp [lwk]) ?_
      by_cases c : i < m
      · rw [if_pos c] at he2
        refine bX12_check_29_1 hn hX c0 (nI_ge c (by omega)) ?_
        rw [he2]; exact hp
      · rw [if_neg c] at he2
        refine bX12_check_29_2 hn hX c0 (nI_le (by omega) (by omega)) ?_
        rw [he2]; exact hp
    | succ r ih =>
      intro hr i v5 v6 hi he
      obtain ⟨f, ef⟩ : ∃ f, f = F - (r + 1) := ⟨_, rfl⟩
      have ef1 : F - r = f + 1 := by omega
      have hf : f < F := by omega
      rw [lsR_s] at he
      rw [← ef] at he ⊢
      rw [ef1] at ih
      have e144 := h144 f hf
      refine ev_wk (L' := [some (.ref 133), some (.int (nI m)), some (.int v2), some (.int (nI i)), some (.int (nI f)), none, none]) (by simp [lwk]) (bX12_check_29_0 hn hX (by rw [eF]; exact nI_ge hf (by omega)) ?_)
      cases ho : q f with
      | none =>
        rw [ho] at he e144
        refine bX12_check_44_9 hn hX (by decide) (by omega) (by rw [e144]; decide) ?_
        rw [nI_1]
        exact ih (by omega) i _ _ hi he
      | some e =>
        obtain ⟨b1, b2⟩ := hq f hf e ho
        rw [ho] at he e144
        have e144' : X 144 f = nI (100 * e.1 + e.2) := e144
        have cp : ¬ X 144 f < 0 := by rw [e144']; exact nI_pos (by omega)
        have eg : X 144 f / 100 = nI e.1 := by
          rw [e144']
          show nI (100 * e.1 + e.2) / nI 100 = _
          rw [pk_div (by omega) (by omega) (by omega), show (100 * e.1 + e.2) / 100 = e.1 by omega]
        have ec : X 144 f - X 144 f / 100 * 100 = nI e.2 := by
          rw [e144']
          show nI (100 * e.1 + e.2) - nI (100 * e.1 + e.2) / nI 100 * nI 100 = _
          rw [pk_rem (by omega) (by omega) (by omega), show (100 * e.1 + e.2) % 100 = e.2 by omega]
        have he1 : cmpR (X 137) m (nI f :: nI e.1 :: nI e.2 :: lsR q F r) i = cmpR (X 137) m (lsR q F F) 0 := he
        rw [cmpR_s] at he1
        by_cases k1 : i = m
        · rw [if_pos k1] at he1
          refine bX12_check_44_2 hn hX (by decide) (by omega) cp rfl (by rw [k1]) ?_
          rw [he1]; exact hp
        rw [if_neg k1] at he1
        have k1' : ¬ nI i = nI m := fun w => by rw [nI_eq (by omega) (by omega)] at w; omega
        by_cases w1 : X 137 i = nI f
        · rw [if_pos w1] at he1
          refine bX12_check_44_1 hn hX (by decide) (by omega) cp rfl k1' (by omega) w1 ?_
          rw [nI_1]
          rw [cmpR_s] at he1
          by_cases k2 : i + 1 = m
          · rw [if_pos k2] at he1
            refine bX12_check_44_5 hn hX (by decide) (by omega) cp (by decide) (by decide) (by rw [k2]) ?_
            rw [he1]; exact hp
          rw [if_neg k2] at he1
          have k2' : ¬ nI (i + 1) = nI m := fun w => by rw [nI_eq (by omega) (by omega)] at w; omega
          by_cases w2 : X 137 (i + 1) = nI e.1
          · rw [if_pos w2] at he1
            refine bX12_check_44_4 hn hX (by decide) (by omega) cp (by decide) (by decide) k2' (by omega) (by rw [eg]; exact w2) ?_
            rw [nI_1]
            rw [cmpR_s] at he1
            by_cases k3 : i + 1 + 1 = m
            · rw [if_pos k3] at he1
              refine bX12_check_44_8 hn hX (by decide) (by omega) cp (by decide) (by decide) (by rw [k3]) ?_
              rw [he1]; exact hp
            rw [if_neg k3] at he1
            have k3' : ¬ nI (i + 1 + 1) = nI m := fun w => by rw [nI_eq (by omega) (by omega)] at w; omega
            by_cases w3 : X 137 (i + 1 + 1) = nI e.2
            · rw [if_pos w3] at he1
              refine bX12_check_44_7 hn hX (by decide) (by omega) cp (by decide) (by decide) k3' (by omega) (by rw [ec]; exact w3) ?_
              rw [nI_1]
              refine bX12_check_44_10 hn hX (by decide) ?_
              rw [nI_1]
              exact ih (by omega) (i + 1 + 1 + 1) _ _ (by omega) he1
            · rw [if_neg w3] at he1
              refine bX12_check_44_6 hn hX (by decide) (by omega) cp (by decide) (by decide) k3' (by omega) (by rw [ec]; exact w3) ?_
              rw [he1]; exact hp
          · rw [if_neg w2] at he1
            refine bX12_check_44_3 hn hX (by decide) (by omega) cp (by decide) (by decide) k2' (by omega) (by rw [eg]; exact w2) ?_
            rw [he1]; exact hp
        · rw [if_neg w1] at he1
          refine bX12_check_44_0 hn hX (by decide) (by omega) cp rfl k1' (by omega) w1 ?_
          rw [he1]; exact hp
  have := loop F (Nat.le_refl _) 0 none none (Nat.zero_le _) rfl
  rw [Nat.sub_self] at this
  exact this
theorem cmpR_cg {w w' : Nat → Int32} {m : Nat} (hm : m ≤ 36) (h : ∀ i, i < 36 → w i = w' i) : ∀ (l : List Int32) (i : Nat), i ≤ m → cmpR w m l i = cmpR w' m l i
  | [], _, _ => rfl
  | x :: l, i, hi => by
    rw [cmpR_s, cmpR_s]
    by_cases c : i = m
    · rw [if_pos c, if_pos c]
    · rw [if_neg c, if_neg c, h i (by omega), cmpR_cg hm h l (i + 1) (by omega)]
theorem jp_check (hLR : LRok LR) (hn : 146 ≤ n) (hn2 : n ≤ 226) (hI : Iv LR n X) : JP g (Iv LR) mX11_check mX12_check [] n X := by
  obtain ⟨hX, hK, hT, hB⟩ := id hI
  obtain ⟨t1, ⟨t2, ⟨m, hm, em⟩, t3⟩, t4⟩ := id hT
  obtain ⟨X0, hX0⟩ : ∃ X0 : LX, X0 = lx_up X 0 7 0 := ⟨_, rfl⟩
  obtain ⟨X1, hX1⟩ : ∃ X1 : LX, X1 = lx_up X0 133 6 0 := ⟨_, rfl⟩
  have x0 : ∀ k, k ≠ 0 → X0 k = X k := fun k hk => by rw [hX0, up_ne hk]
  have x1 : ∀ k, k ≠ 133 → X1 k = X0 k := fun k hk => by rw [hX1, up_ne hk]
  have hS0 : Sh n X0 := by rw [hX0]; exact hX.upF (by decide +kernel) (by decide +kernel)
  have hS1 : Sh n X1 := by rw [hX1]; exact hS0.upF (by decide +kernel) (by decide +kernel)
  have x133 : ∀ j, j ≠ 6 → X1 133 j = X 133 j := fun j hj => by rw [hX1, up_at hj, x0 133 (by omega)]
  have hI1 : Iv LR n X1 := by
    refine iv_now hLR hI hS1 (hK.same hLR (fun k _ _ => by rw [x1 k (by omega), x0 k (by omega)]) (fun j _ => by rw [x1 134 (by omega), x0 134 (by omega)])) ⟨?_, ⟨?_, ⟨0, by omega, ?_⟩, fun i hi => ?_⟩, fun s hs => ?_⟩ (by rw [x1 0 (by omega), hX0, up_at (by omega)]) (x133 2 (by omega)) (fun k _ => by rw [x1 k (by omega), x0 k (by omega)]) (by rw [x1 135 (by omega), x0 135 (by omega)])
    · rw [x1 81 (by omega), x0 81 (by omega), x133 4 (by omega), x1 82 (by omega), x0 82 (by omega), x1 136 (by omega), x0 136 (by omega)]
      exact t1
    · rw [x1 0 (by omega), hX0, up_it, hX1, up_it]
    · rw [hX1, up_it]; rfl
    · rw [x1 132 (by omega), x0 132 (by omega), x1 137 (by omega), x0 137 (by omega)]; exact t3 i hi
    · rw [x1 131 (by omega), x0 131 (by omega), x1 138 (by omega), x0 138 (by omega), x1 (128 + 1 + s) (by omega), x0 (128 + 1 + s) (by omega), x1 139 (by omega), x0 139 (by omega)]; exact t4 s hs
  obtain ⟨F, P, st, un, N0, hS⟩ := plan_set hI1.2.1
  have hSc : Pst X0 F P st un N0 := Pst_cg (X := X1) (fun k h1 h2 => (x1 k (by omega)).symm) (x1 134 (by omega)).symm hS
  have e134 : X1 134 = X0 134 := x1 134 (by omega)
  have hF : F ≤ 12 := hSc.1.1.1
  refine jp_rel (fun r W => Sh n W ∧ (∀ k, k ≤ 86 ∨ 110 ≤ k → W k = X0 k) ∧ ((pRs (sR (X0 134) F P 5000 st un N0) = 0 ∧ ∃ q, (sR (X0 134) F P 5000 st un N0).2.2 = some q ∧ (∀ f, f < F → ∀ e, q.2.2 f = some e → e.1 < 14 ∧ e.2 < 14) ∧ r = cmpR (X 132) m (lsR q.2.2 F F) 0) ∨ (¬ pRs (sR (X0 134) F P 5000 st un N0) = 0 ∧ r = pRs (sR (X0 134) F P 5000 st un N0)))) hn hn2 (e_of vX11_check (Nat.le_of_ble_eq_true rfl) (cat_of rfl) (bX11_check_0_0 hn hX ?_)) (fun r W hW => ?_)
  · rw [← hX0]
    refine qX11_check_17 (d' := 100) (rest := []) hn (by omega) (by decide) (c_X8_seek (L := 5000) (by omega) hn hS0 (by omega) hSc) (fun v W hv => ?_)
    obtain ⟨w1, wf, wN, rfl, wq⟩ := hv
    by_cases c : pRs (sR (X0 134) F P 5000 st un N0) = 0
    · obtain ⟨q, hq⟩ := pRs_0 c
      have hC := (wq q hq).2.2
      have hb14 : ∀ f, f < F → ∀ e, q.2.2 f = some e → e.1 < 14 ∧ e.2 < 14 := fun f hf e he => by
        have h := hC f hf
        rw [he] at h
        obtain ⟨j, -, -, -, -, -, j6, j7, -⟩ := h
        exact ⟨j6, j7⟩
      refine bX11_check_20_1 hn w1 c (qX11_check_31 (d' := 100) (rest := []) hn (by omega) (by decide) (c_listRows (by omega) hn w1 hF (by rw [wf 37 (by omega)]; exact hSc.1.2.1) hC) (fun v V hv => ?_))
      obtain ⟨rfl, v1, vk, v18, vA⟩ := hv
      refine bX11_check_34_0 hn v1 ?_
      rw [v18, t2, em]
      have hlen := lsR_len q.2.2 F F
      refine cmp_c hn v1 hm (by omega) vA ⟨_, rfl, v1, fun k hk => by rw [vk k (by omega) (by omega), wf k (by omega)], Or.inl ⟨c, q, hq, hb14, ?_⟩⟩
      rw [vk 132 (by omega) (by omega), wf 132 (by omega), x0 132 (by omega)]
    · exact bX11_check_20_0 hn w1 c ⟨_, rfl, w1, fun k hk => wf k (by omega), Or.inr ⟨c, rfl⟩⟩
  · obtain ⟨w1, wf, wc⟩ := hW
    refine e_of vX12_check (Nat.le_of_ble_eq_true rfl) (cat_of rfl) (bX12_check_0_0 hn w1 ?_)
    obtain ⟨W', hW'⟩ : ∃ W' : LX, W' = lx_up W 133 6 0 := ⟨_, rfl⟩
    rw [← hW']
    have hW'S : Sh n W' := by rw [hW']; exact w1.upF (by decide +kernel) (by decide +kernel)
    have wf1 : ∀ k, k ≤ 86 ∨ 110 ≤ k → W' k = X1 k := fun k hk => by
      by_cases c : k = 133
      · subst c
        funext j
        by_cases cj : j = 6
        · subst cj; rw [hW', up_it, hX1, up_it]
        · rw [hW', up_at cj, wf 133 (by omega), hX1, up_at cj]
      · rw [hW', up_ne c, wf k hk, x1 k c]
    have hIW : Iv LR n W' := iv_scr hLR hI1 hW'S (fun k hk => wf1 k (by omega)) (by rw [wf1 81 (by omega)]) (fun t _ => by rw [wf1 133 (by omega)])
    have e6 : W 133 6 = nI m := by rw [wf 133 (by omega), x0 133 (by omega), em]
    obtain ⟨X2, hX2⟩ : ∃ X2 : LX, X2 = (fun k => if k = 109 then W' k else X1 k) := ⟨_, rfl⟩
    have x2 : ∀ k, k ≠ 109 → X2 k = X1 k := fun k hk => by rw [hX2]; exact if_neg hk
    have hS2 : Pst X2 F P st un N0 := Pst_cg (X := X1) (fun k h1 h2 => x2 k (by omega)) (x2 134 (by omega)) hS
    have hM := m_find2 (g := g) (d := 100) (L := 5000) (by omega) hn (by omega) hS2 hIW (fun k hk => by
      by_cases c : k = 109
      · subst c; rw [hX2]; exact (if_pos rfl).symm
      · rw [x2 k c]; exact wf1 k (by omega))
    rw [x2 134 (by omega), e134] at hM
    refine qX12_check_14 (d' := 100) (rest := []) hn (by omega) (by decide) hM (fun v V hv => ?_)
    obtain ⟨v1, vf, vj, vN, rfl, vq⟩ := hv
    have hIV := iv_plan hLR hIW v1 vf vj
    rw [e6]
    rcases wc with ⟨c, q, hq, hb14, rfl⟩ | ⟨c, rfl⟩
    · refine bX12_check_17_1 hn v1 c ?_
      refine cmp_m hn v1 hm hF (by rw [vf 134 (by omega) (by omega) (by omega) (by omega), wf1 134 (by omega)]; exact hS.2.2.2.2.2.1) (vq q hq).2 hb14 ⟨?_, hIV⟩
      rw [vf 137 (by omega) (by omega) (by omega) (by omega), wf1 137 (by omega), x1 137 (by omega), x0 137 (by omega), cmpR_cg hm (fun i hi => (t3 i hi).symm) (lsR q.2.2 F F) 0 (Nat.zero_le _)]
    · exact bX12_check_17_0 hn v1 c ⟨rfl, hIV⟩
end CHECK
