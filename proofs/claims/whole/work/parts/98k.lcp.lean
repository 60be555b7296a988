/-! LAW, 12: the class's reader of levels and parts. -/
theorem tx_2 : ∀ c, c < 256 → (¬ txO 2 c < 0 ↔ c = 33) := by decide +kernel
theorem tx_3 : ∀ c, c < 256 → (¬ txO 3 c < 0 ↔ c = 40) := by decide +kernel
theorem tx_4 : ∀ c, c < 256 → (¬ txO 4 c < 0 ↔ c = 41) := by decide +kernel
theorem tx_lv : ∀ lev, lev < 5 → ∀ c, c < 256 → (¬ txO (5 + lev) c < 0 ↔ ¬ sgOf lev c = none) := by decide +kernel
theorem sg_nI : ∀ lev, lev < 5 → ∀ c, c < 256 → ∀ j, j < 9 → sgOf lev c = some j → nI c = sgn j := by decide +kernel
def HZ (a e : Nat) (σ : RdS) : Prop := σ.2.2.2.1 = false → a + σ.2.2.2.2.1.length + e ≤ σ.2.1
section LCP
variable {g : GG} {n : Nat} {X : LX} {tb : Nat → Nat} {L t : Nat} {sp : Int32} {pr : List (Nat × Nat)} {nm : Nat → Option Nat} {a e : Nat} {σ τ : RdS}
theorem HZ.m {N fu lev b q : Nat} {m : Bool} (h : HZ a e σ) (hN : ∀ c j, nm c = some j → j < N) (hO : OkS tb L σ) (h1 : m = false → lev ≤ 5 ∧ 8 * (L - σ.2.1) + 7 - lev ≤ fu) (h2 : m = true → lev < 5 ∧ 8 * (L - σ.2.1) + 1 ≤ fu) : HZ a e (pm tb L nm fu m lev b q σ) := fun hf => by
  obtain ⟨c1, U, c2, c3, -⟩ := (pm_ok hN fu m lev b q σ hO h1 h2).2.2 hf
  rw [c2, List.length_append]
  have := h c1
  omega
theorem HZ.s (h : HZ a 0 σ) (hO : OkS tb L σ) (hk : ¬ σ.1 = 0) : HZ a 1 (stp tb L σ) := fun hf => by
  have h0 : a + σ.2.2.2.2.1.length + 0 ≤ σ.2.1 := h hf
  obtain ⟨-, o2, -⟩ := hO.i hk
  obtain ⟨-, a2⟩ := stp_ok (tb := tb) (L := L) (σ := σ) hO.le
  show a + σ.2.2.2.2.1.length + 1 ≤ (stp tb L σ).2.1
  omega
theorem HZ.w (h : HZ a 1 σ) : HZ a 0 σ := fun hf => by
  have := h hf
  omega
theorem HZ.p {tk : Nat × Nat} (h : HZ a 1 τ) : HZ a 0 (pt τ tk) := fun hf => by
  rw [pt_f.1] at hf
  rw [pt_T hf]
  show a + (τ.2.2.2.2.1 ++ [tk]).length + 0 ≤ τ.2.1
  rw [List.length_append, List.length_singleton]
  have := h hf
  omega
theorem HZ.lt (h : HZ a 1 τ) (hO : OkS tb L τ) (hL : L ≤ 120) : τ.2.2.2.1 = false → a + τ.2.2.2.2.1.length < 120 := fun hf => by
  have := h hf
  have := hO.1
  omega
theorem HZ.le (h : HZ a 0 τ) (hO : OkS tb L τ) (hL : L ≤ 120) : τ.2.2.2.1 = false → a + τ.2.2.2.2.1.length ≤ 120 := fun hf => by
  have := h hf
  have := hO.1
  omega
theorem c_pm (hn : 146 ≤ n) (hT : TP X tb L) {N : Nat} (hN : ∀ c j, nm c = some j → j < N) (hN5 : N ≤ 5) (ht : t < 14) (htx : ∀ c, c ≤ 255 → txO t c = oI (nm c)) : ∀ fu (σ : RdS) (Z : LX) (b q : Nat), OkS tb L σ → CS n X L t sp pr σ Z → HZ pr.length 0 σ → b ≤ 8 → q ≤ 8 →
    (∀ d, 10 + 8 * (8 - b) + (8 - q) ≤ d → 8 * (L - σ.2.1) + 2 ≤ fu → Ex g mX3_readPart d n n [.ref 81, .int (nI b), .int (nI q)] Z (csQ n X L t sp pr (pm tb L nm fu false 5 b q σ))) ∧
    (∀ d lev, lev ≤ 5 → 16 - lev + 8 * (8 - b) + (8 - q) ≤ d → 8 * (L - σ.2.1) + 7 - lev ≤ fu → Ex g mX3_readLevel d n n [.ref 81, .int (nI lev), .int (nI b), .int (nI q)] Z (csQ n X L t sp pr (pm tb L nm fu false lev b q σ))) ∧
    (∀ d lev i, lev < 5 → 16 - lev + 8 * (8 - b) + (8 - q) ≤ d → 8 * (L - σ.2.1) + 1 ≤ fu → i ≤ σ.2.1 → (lev = 2 → i = 0) → Ev g mX3_readLevel d n n (csQ n X L t sp pr (pm tb L nm fu true lev b q σ)) n 37 [some (.ref 81), some (.int (nI lev)), some (.int (nI b)), some (.int (nI q)), some (.int (if lev = 2 then 1 else 120)), some (.int (nI i)), none] [] Z) := by
  intro fu
  induction fu with
  | zero =>
    intro σ Z b q _ _ _ _ _
    exact ⟨fun d _ h => absurd h (by omega), fun d lev hl _ h => absurd h (by omega), fun d lev i _ _ h => absurd h (by omega)⟩
  | succ fu ih =>
    intro σ Z b q hO h hz hb hq
    have hL := hT.1
    have hp := hO.le
    have hs0 := hO.1
    have hk4 := hO.k4
    obtain ⟨h1, h2, ⟨h3, h4, h5⟩, ⟨k1, k2, k3⟩, h6, h7⟩ := id h
    obtain ⟨a1, a2⟩ := stp_ok (tb := tb) (L := L) (σ := σ) hp
    have hbt : σ.1 = 3 → tb σ.2.1 < 256 := fun w => by
      obtain ⟨o1, -, -⟩ := hO.i (by omega)
      have := (hT.2 σ.2.1 (by omega)).2.2
      omega
    have part : ∀ d, 10 + 8 * (8 - b) + (8 - q) ≤ d → 8 * (L - σ.2.1) + 2 ≤ fu + 1 → Ex g mX3_readPart d n n [.ref 81, .int (nI b), .int (nI q)] Z (csQ n X L t sp pr (pm tb L nm (fu + 1) false 5 b q σ)) := by
      intro d hd hfu
      refine e_of vX3_readPart (Nat.le_of_ble_eq_true rfl) (cat_of rfl) ?_
      by_cases f : σ.2.2.2.1 = true
      · rw [pm_f f]
        exact bX3_readPart_0_0 hn h1 (by rw [(h7 f).1]; exact nI_pos (by omega)) ⟨rfl, h⟩
      · have hf := bf f
        have hzf := hz hf
        have i2 : (Z 81 8 = 2) ↔ σ.1 = 2 := by rw [k1]; exact nI_eq (b := 2) (by omega) (by omega)
        refine bX3_readPart_0_1 hn h1 (by rw [(h6 hf).1]; decide) (qX3_readPart_9 (d' := d - 1) (rest := []) hn (by omega) (by decide) (c_slot (by omega) hn hT hO ht htx h) (fun v W hv => ?_))
        obtain ⟨rfl, hW⟩ := hv
        rw [hW]
        by_cases c2 : σ.1 = 2
        · rw [pm_v f c2]
          obtain ⟨o1, o2, o3⟩ := hO.i (by omega)
          refine bX3_readPart_12_0 hn h1 (i2.mpr c2) (qX3_readPart_23 (d' := d - 1) (rest := [.ref 81]) hn (by omega) (by decide) (c_number hn hT hO c2 h) (fun v W hv => ?_))
          obtain ⟨rfl, hW⟩ := hv
          rw [hW]
          have hc := c_putValue (g := g) (d := d - 1) (tk := (0, nmb tb σ.2.1 (σ.2.2.1 - σ.2.1))) (by omega) hn hT hO hf (by omega) h
          rw [show cTk (0, nmb tb σ.2.1 (σ.2.2.1 - σ.2.1)) = nI (nmb tb σ.2.1 (σ.2.2.1 - σ.2.1)) from rfl] at hc
          refine qX3_readPart_26 (d' := d - 1) (rest := []) hn (by omega) (by decide) hc (fun v W hv => ?_)
          obtain ⟨rfl, hW⟩ := hv
          exact bX3_readPart_29_0 hn hW.1 ⟨rfl, hW⟩
        · cases hN' : lwN tb nm σ with
          | some j =>
            rw [pm_a f c2 hN', show oI (some j) = nI j from rfl]
            obtain ⟨n1, n2, n3⟩ := lwN_some hN'
            obtain ⟨o1, o2, o3⟩ := hO.i (by omega)
            have hj := hN _ _ n3
            have hc := c_putValue (g := g) (d := d - 1) (tk := (1, j)) (by omega) hn hT hO hf (by omega) h
            rw [show cTk (1, j) = -1000 - nI j from rfl] at hc
            refine bX3_readPart_12_1 hn h1 (fun w => c2 (i2.mp w)) (nI_pos (by omega)) (qX3_readPart_42 (d' := d - 1) (rest := []) hn (by omega) (by decide) hc (fun v W hv => ?_))
            obtain ⟨rfl, hW⟩ := hv
            exact bX3_readPart_45_0 hn hW.1 ⟨rfl, hW⟩
          | none =>
            rw [show oI none = -1 from rfl]
            have par : ¬ (σ.1 = 3 ∧ tb σ.2.1 = 33 ∧ q < 8) → Ev g mX3_readPart d n n (csQ n X L t sp pr (pm tb L nm (fu + 1) false 5 b q σ)) n 87 [some (.ref 81), some (.int (nI b)), some (.int (nI q)), some (.int (-1))] [.ref 1003, .ref 81] Z := by
              intro c4
              refine qX3_readPart_87 (d' := d - 1) (rest := []) hn (by omega) (by decide) (c_isSignOf (t' := 3) (by omega) hn hT hO (by omega) h) (fun v W hv => ?_)
              obtain ⟨rfl, hW⟩ := hv
              rw [hW]
              by_cases c5 : σ.1 = 3 ∧ tb σ.2.1 = 40 ∧ b < 8
              · rw [if_pos ⟨⟨hf, c5.1⟩, (tx_3 _ (hbt c5.1)).mpr c5.2.1⟩, pm_b f c2 hN' c4 c5]
                refine bX3_readPart_90_0 hn h1 (by decide) (fun w => by have h : nI 8 ≤ nI b := w; rw [nI_leI (by omega) (by omega)] at h; omega) (qX3_readPart_100 (d' := d - 1) (rest := []) hn (by omega) (by decide) (c_stepS (by omega) hn hT hO hf h) (fun v W hv => ?_))
                obtain ⟨rfl, hW⟩ := hv
                obtain ⟨o1, o2, o3⟩ := hO.i (by omega)
                refine bX3_readPart_103_0 hn hW.1 ?_
                rw [nI_1]
                have hc := (ih (stp tb L σ) W (b + 1) q a1 hW (hz.s hO (by omega)).w (by omega) hq).2.1 (d - 1) 0 (by omega) (by omega) (by omega)
                rw [show nI 0 = 0 from rfl] at hc
                obtain ⟨r1, -, -⟩ := pm_ok (tb := tb) (L := L) hN fu false 0 (b + 1) q (stp tb L σ) a1 (fun _ => ⟨by omega, by omega⟩) (fun w => absurd w Bool.false_ne_true)
                have hzt := (hz.s hO (by omega)).w.m hN (lev := 0) (fu := fu) (m := false) (b := b + 1) (q := q) a1 (fun _ => ⟨by omega, by omega⟩) (fun w => absurd w Bool.false_ne_true)
                refine qX3_readPart_109 (d' := d - 1) (rest := []) hn (by omega) (by decide) hc (fun v V hv => ?_)
                obtain ⟨rfl, hV⟩ := hv
                obtain ⟨τ, hτ⟩ : ∃ τ, τ = pm tb L nm fu false 0 (b + 1) q (stp tb L σ) := ⟨_, rfl⟩
                rw [← hτ] at hV r1 hzt ⊢
                have hbτ : τ.1 = 3 → tb τ.2.1 < 256 := fun w => by
                  obtain ⟨o1, -, -⟩ := r1.i (by omega)
                  have := (hT.2 τ.2.1 (by omega)).2.2
                  omega
                refine bX3_readPart_112_0 hn hV.1 (qX3_readPart_115 (d' := d - 1) (rest := []) hn (by omega) (by decide) (c_isSignOf (t' := 4) (by omega) hn hT r1 (by omega) hV) (fun v U hv => ?_))
                obtain ⟨rfl, hU⟩ := hv
                rw [hU]
                unfold lwC
                by_cases c6 : τ.2.2.2.1 = false ∧ τ.1 = 3 ∧ tb τ.2.1 = 41
                · rw [if_pos c6, if_pos ⟨⟨c6.1, c6.2.1⟩, (tx_4 _ (hbτ c6.2.1)).mpr c6.2.2⟩]
                  refine bX3_readPart_118_0 hn hV.1 (by decide) (qX3_readPart_122 (d' := d - 1) (rest := []) hn (by omega) (by decide) (c_stepS (by omega) hn hT r1 c6.1 hV) (fun v W hv => ?_))
                  obtain ⟨rfl, hW⟩ := hv
                  exact bX3_readPart_125_0 hn hW.1 ⟨rfl, hW⟩
                · rw [if_neg c6, if_neg (fun w => c6 ⟨w.1.1, w.1.2, (tx_4 _ (hbτ w.1.2)).mp w.2⟩)]
                  refine bX3_readPart_118_1 hn hV.1 rfl (qX3_readPart_129 (d' := d - 1) (rest := []) hn (by omega) (by decide) (c_fail hn (by have := r1.1; omega) (hzt.le r1 hL) hV) (fun v W hv => ?_))
                  obtain ⟨rfl, hW⟩ := hv
                  exact bX3_readPart_132_0 hn hW.1 ⟨rfl, hW⟩
              · rw [pm_e f c2 hN' c4 c5]
                have last : Ev g mX3_readPart d n n (csQ n X L t sp pr (fl σ)) n 136 [some (.ref 81), some (.int (nI b)), some (.int (nI q)), some (.int (-1))] [.ref 81] Z := by
                  refine qX3_readPart_136 (d' := d - 1) (rest := []) hn (by omega) (by decide) (c_fail hn (by omega) (hz.le hO hL) h) (fun v W hv => ?_)
                  obtain ⟨rfl, hW⟩ := hv
                  exact bX3_readPart_139_0 hn hW.1 ⟨rfl, hW⟩
                by_cases c7 : σ.1 = 3 ∧ tb σ.2.1 = 40
                · rw [if_pos ⟨⟨hf, c7.1⟩, (tx_3 _ (hbt c7.1)).mpr c7.2⟩]
                  exact bX3_readPart_90_1 hn h1 (by decide) (show nI 8 ≤ nI b from nI_le (by have : ¬ b < 8 := fun w => c5 ⟨c7.1, c7.2, w⟩; omega) (by omega)) last
                · rw [if_neg (fun w => c7 ⟨w.1.2, (tx_3 _ (hbt w.1.2)).mp w.2⟩)]
                  exact bX3_readPart_90_2 hn h1 rfl last
            refine bX3_readPart_12_2 hn h1 (fun w => c2 (i2.mp w)) (by decide) (qX3_readPart_51 (d' := d - 1) (rest := []) hn (by omega) (by decide) (c_isSignOf (t' := 2) (by omega) hn hT hO (by omega) h) (fun v W hv => ?_))
            obtain ⟨rfl, hW⟩ := hv
            rw [hW]
            by_cases c4 : σ.1 = 3 ∧ tb σ.2.1 = 33 ∧ q < 8
            · rw [if_pos ⟨⟨hf, c4.1⟩, (tx_2 _ (hbt c4.1)).mpr c4.2.1⟩, pm_x f c2 hN' c4]
              obtain ⟨o1, o2, o3⟩ := hO.i (by omega)
              refine bX3_readPart_54_0 hn h1 (by decide) (fun w => by have h : nI 8 ≤ nI q := w; rw [nI_leI (by omega) (by omega)] at h; omega) (qX3_readPart_64 (d' := d - 1) (rest := []) hn (by omega) (by decide) (c_stepS (by omega) hn hT hO hf h) (fun v W hv => ?_))
              obtain ⟨rfl, hW⟩ := hv
              refine bX3_readPart_67_0 hn hW.1 ?_
              rw [nI_1]
              obtain ⟨r1, -, -⟩ := pm_ok (tb := tb) (L := L) hN fu false 5 b (q + 1) (stp tb L σ) a1 (fun _ => ⟨by omega, by omega⟩) (fun w => absurd w Bool.false_ne_true)
              have hzt := (hz.s hO (by omega)).m hN (lev := 5) (fu := fu) (m := false) (b := b) (q := q + 1) a1 (fun _ => ⟨by omega, by omega⟩) (fun w => absurd w Bool.false_ne_true)
              refine qX3_readPart_72 (d' := d - 1) (rest := []) hn (by omega) (by decide) ((ih (stp tb L σ) W b (q + 1) a1 hW (hz.s hO (by omega)).w hb (by omega)).1 (d - 1) (by omega) (by omega)) (fun v V hv => ?_)
              obtain ⟨rfl, hV⟩ := hv
              have hc := c_put (g := g) (d := d - 1) (tk := (2, 0)) hn (hzt.lt r1 hL) hV
              rw [show cTk (2, 0) = -33 from rfl] at hc
              refine bX3_readPart_75_0 hn hV.1 (qX3_readPart_78 (d' := d - 1) (rest := []) hn (by omega) (by decide) hc (fun v U hv => ?_))
              obtain ⟨rfl, hU⟩ := hv
              exact bX3_readPart_81_0 hn hU.1 ⟨rfl, hU⟩
            · by_cases c7 : σ.1 = 3 ∧ tb σ.2.1 = 33
              · rw [if_pos ⟨⟨hf, c7.1⟩, (tx_2 _ (hbt c7.1)).mpr c7.2⟩]
                exact bX3_readPart_54_1 hn h1 (by decide) (show nI 8 ≤ nI q from nI_le (by have : ¬ q < 8 := fun w => c4 ⟨c7.1, c7.2, w⟩; omega) (by omega)) (par c4)
              · rw [if_neg (fun w => c7 ⟨w.1.2, (tx_2 _ (hbt w.1.2)).mp w.2⟩)]
                exact bX3_readPart_54_2 hn h1 rfl (par c4)
    refine ⟨part, fun d lev hl hd hfu => ?_, fun d lev i hl hd hfu hi hi2 => ?_⟩
    · refine e_of vX3_readLevel (Nat.le_of_ble_eq_true rfl) (cat_of rfl) ?_
      rcases Nat.lt_or_ge lev 5 with c | c
      · rw [pm_l c]
        refine bX3_readLevel_0_1 hn h1 (show nI lev < nI 5 from nI_lt c (by omega)) ?_
        rw [nI_1]
        refine qX3_readLevel_18 (d' := d - 1) (rest := []) hn (by omega) (by decide) ((ih σ Z b q hO h hz hb hq).2.1 (d - 1) (lev + 1) (by omega) (by omega) (by omega)) (fun v W hv => ?_)
        obtain ⟨rfl, hW⟩ := hv
        obtain ⟨r1, r2, -⟩ := pm_ok (tb := tb) (L := L) hN fu false (lev + 1) b q σ hO (fun _ => ⟨by omega, by omega⟩) (fun w => absurd w Bool.false_ne_true)
        have hzt := hz.m hN (lev := lev + 1) (fu := fu) (m := false) (b := b) (q := q) hO (fun _ => ⟨by omega, by omega⟩) (fun w => absurd w Bool.false_ne_true)
        have lp := (ih (pm tb L nm fu false (lev + 1) b q σ) W b q r1 hW hzt hb hq).2.2 d lev 0 c hd (by omega) (by omega) (fun _ => rfl)
        by_cases e2 : lev = 2
        · rw [if_pos e2] at lp
          exact bX3_readLevel_21_0 hn hW.1 (by rw [e2]; rfl) lp
        · rw [if_neg e2] at lp
          exact bX3_readLevel_21_1 hn hW.1 (fun w => e2 ((nI_eq (b := 2) (by omega) (by omega)).mp w)) lp
      · have e5 : lev = 5 := by omega
        subst e5
        refine bX3_readLevel_0_0 hn h1 (by decide) (qX3_readLevel_8 (d' := d - 1) (rest := []) hn (by omega) (by decide) (part (d - 1) (by omega) (by omega)) (fun v W hv => ?_))
        obtain ⟨rfl, hW⟩ := hv
        exact bX3_readLevel_11_0 hn hW.1 ⟨rfl, hW⟩
    · by_cases ci : i < 120
      · have hmost : ¬ (if lev = 2 then (1 : Int32) else 120) ≤ nI i := by
          by_cases e2 : lev = 2
          · rw [if_pos e2, hi2 e2]; decide
          · rw [if_neg e2]
            exact fun w => by have h : nI 120 ≤ nI i := w; rw [nI_leI (by omega) (by omega)] at h; omega
        refine bX3_readLevel_37_0 hn h1 hmost (qX3_readLevel_46 (d' := d - 1) (rest := [.ref 81]) hn (by omega) (by decide) (c_signsOf hn h1 hl) (fun v W hv => ?_))
        obtain ⟨rfl, hW⟩ := hv
        rw [hW]
        refine qX3_readLevel_49 (d' := d - 1) (rest := []) hn (by omega) (by decide) (c_isSignOf (t' := 5 + lev) (by omega) hn hT hO (by omega) h) (fun v W hv => ?_)
        obtain ⟨rfl, hW⟩ := hv
        rw [hW]
        cases hh : hs tb lev σ with
        | none =>
          have hx : ¬ ((σ.2.2.2.1 = false ∧ σ.1 = 3) ∧ ¬ txO (5 + lev) (tb σ.2.1) < 0) := fun w => by
            have := (tx_lv lev hl _ (hbt w.1.2)).mp w.2
            unfold hs at hh
            rw [if_pos w.1] at hh
            exact this hh
          rw [pm_n hh, if_neg hx]
          exact bX3_readLevel_52_1 hn h1 rfl ⟨rfl, h⟩
        | some j =>
          obtain ⟨f1, k3', sg⟩ := hs_some hh
          have hj := sgOf_lt sg
          obtain ⟨o1, o2, o3⟩ := hO.i (by omega)
          have hx : (σ.2.2.2.1 = false ∧ σ.1 = 3) ∧ ¬ txO (5 + lev) (tb σ.2.1) < 0 := ⟨⟨f1, k3'⟩, (tx_lv lev hl _ (hbt k3')).mpr (by rw [sg]; exact fun w => by cases w)⟩
          rw [if_pos hx]
          refine bX3_readLevel_52_0 hn h1 (by decide) k2 (by omega) (qX3_readLevel_67 (d' := d - 1) (rest := []) hn (by omega) (by decide) (c_stepS (by omega) hn hT hO f1 h) (fun v W hv => ?_))
          obtain ⟨rfl, hW⟩ := hv
          refine bX3_readLevel_70_0 hn hW.1 ?_
          rw [nI_1]
          obtain ⟨r1, r2, -⟩ := pm_ok (tb := tb) (L := L) hN fu false (lev + 1) b q (stp tb L σ) a1 (fun _ => ⟨by omega, by omega⟩) (fun w => absurd w Bool.false_ne_true)
          have hzt := (hz.s hO (by omega)).m hN (lev := lev + 1) (fu := fu) (m := false) (b := b) (q := q) a1 (fun _ => ⟨by omega, by omega⟩) (fun w => absurd w Bool.false_ne_true)
          refine qX3_readLevel_76 (d' := d - 1) (rest := []) hn (by omega) (by decide) ((ih (stp tb L σ) W b q a1 hW (hz.s hO (by omega)).w hb hq).2.1 (d - 1) (lev + 1) (by omega) (by omega) (by omega)) (fun v V hv => ?_)
          obtain ⟨rfl, hV⟩ := hv
          refine bX3_readLevel_79_0 hn hV.1 ?_
          rw [(h.b hT σ.2.1 (by omega)).1, sg_nI lev hl _ (hbt k3') j hj sg]
          have hc := c_put (g := g) (d := d - 1) (tk := (3, j)) hn (hzt.lt r1 hL) hV
          rw [show cTk (3, j) = -sgn j from rfl] at hc
          refine qX3_readLevel_83 (d' := d - 1) (rest := []) hn (by omega) (by decide) hc (fun v U hv => ?_)
          obtain ⟨rfl, hU⟩ := hv
          refine bX3_readLevel_86_0 hn hU.1 ?_
          rw [nI_1]
          by_cases e2 : lev = 2
          · subst e2
            rw [pm_2 hh, hi2 rfl]
            exact bX3_readLevel_37_1 hn hU.1 (by decide) ⟨rfl, hU⟩
          · rw [pm_s hh e2]
            have p3 : (pt (pm tb L nm fu false (lev + 1) b q (stp tb L σ)) (3, j)).2.1 = (pm tb L nm fu false (lev + 1) b q (stp tb L σ)).2.1 := pt_f.2.2.1
            exact (ih (pt (pm tb L nm fu false (lev + 1) b q (stp tb L σ)) (3, j)) U b q r1.pt hU hzt.p hb hq).2.2 d lev (i + 1) hl hd (by rw [p3]; omega) (by rw [p3]; omega) (fun w => absurd w e2)
      · have hh : hs tb lev σ = none := by
          cases hh : hs tb lev σ with
          | none => rfl
          | some j =>
            obtain ⟨f1, k3', sg⟩ := hs_some hh
            obtain ⟨o1, o2, o3⟩ := hO.i (by omega)
            omega
        rw [pm_n hh]
        have e2 : ¬ lev = 2 := fun w => by have := hi2 w; omega
        exact bX3_readLevel_37_1 hn h1 (by rw [if_neg e2]; exact nI_le (a := 120) (by omega) (by omega)) ⟨rfl, h⟩
end LCP
