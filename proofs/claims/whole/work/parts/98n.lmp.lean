/-! LAW, 15: the model's reader of levels and parts. -/
def lvM : Nat → Mt
  | 0 => mX12_either
  | 1 => mX12_both
  | 2 => mX12_test
  | 3 => mX12_sum
  | 4 => mX12_term
  | _ => mX12_part_
theorem sgOf_0 {c j : Nat} (h : sgOf 0 c = some j) : j = 0 := by
  have h : (if c = 124 then some 0 else none) = some j := h
  by_cases e : c = 124
  · rw [if_pos e] at h; exact (Option.some.inj h).symm
  · rw [if_neg e] at h; cases h
theorem sgOf_1 {c j : Nat} (h : sgOf 1 c = some j) : j = 1 := by
  have h : (if c = 38 then some 1 else none) = some j := h
  by_cases e : c = 38
  · rw [if_pos e] at h; exact (Option.some.inj h).symm
  · rw [if_neg e] at h; cases h
section LMP
variable {g : GG} {n : Nat} {X W : LX} {tb : Nat → Nat} {L t b q : Nat} {pr : List Int32} {nm : Nat → Option Nat} {σ : RdS}
theorem MS.u19 (h : MS n X L t b q pr σ W) : MS n X L t b q pr (σ.1, σ.2.1, σ.2.2.1, σ.2.2.2.1, σ.2.2.2.2.1, σ.2.2.2.2.2 + 1) (lx_up W 133 19 (W 133 19 + 1)) := by
  obtain ⟨h1, h2, ⟨h3, h4⟩, ⟨h5, h6, h7⟩, ⟨k1, k2, k3⟩, h8, h9⟩ := h
  exact ⟨h1.upF (by decide +kernel) (by decide +kernel), fun k a b => by rw [up_ne a]; exact h2 k a b, ⟨fun j hj => by rw [up_at (by omega)]; exact h3 j hj, by rw [up_at (by omega)]; exact h4⟩, ⟨by rw [up_at (by omega)]; exact h5, by rw [up_at (by omega)]; exact h6, by rw [up_at (by omega)]; exact h7⟩, ⟨by rw [up_at (by omega)]; exact k1, by rw [up_at (by omega)]; exact k2, by rw [up_at (by omega)]; exact k3⟩, fun w => ⟨by rw [up_at (by omega)]; exact (h8 w).1, by rw [up_at (by omega)]; exact (h8 w).2.1, by rw [up_it, (h8 w).2.2.1]; exact nI_1 _, fun i t' hi => by rw [up_ne (by omega)]; exact (h8 w).2.2.2 i t' hi⟩, fun w => by rw [up_at (by omega)]; exact h9 w⟩
theorem MS.u15 {e : Nat} {v : Int32} (h : MS n X L t b q pr σ W) (hv : v = nI e) : MS n X L t b e pr σ (lx_up W 133 15 v) := by
  obtain ⟨h1, h2, ⟨h3, h4⟩, ⟨h5, h6, h7⟩, ⟨k1, k2, k3⟩, h8, h9⟩ := h
  exact ⟨h1.upF (by decide +kernel) (by decide +kernel), fun k a b => by rw [up_ne a]; exact h2 k a b, ⟨fun j hj => by rw [up_at (by omega)]; exact h3 j hj, by rw [up_at (by omega)]; exact h4⟩, ⟨by rw [up_at (by omega)]; exact h5, by rw [up_it]; exact hv, by rw [up_at (by omega)]; exact h7⟩, ⟨by rw [up_at (by omega)]; exact k1, by rw [up_at (by omega)]; exact k2, by rw [up_at (by omega)]; exact k3⟩, fun w => ⟨by rw [up_at (by omega)]; exact (h8 w).1, by rw [up_at (by omega)]; exact (h8 w).2.1, by rw [up_at (by omega)]; exact (h8 w).2.2.1, fun i t' hi => by rw [up_ne (by omega)]; exact (h8 w).2.2.2 i t' hi⟩, fun w => by rw [up_at (by omega)]; exact h9 w⟩
theorem MS.u14 {e : Nat} {v : Int32} (h : MS n X L t b q pr σ W) (hv : v = nI e) : MS n X L t e q pr σ (lx_up W 133 14 v) := by
  obtain ⟨h1, h2, ⟨h3, h4⟩, ⟨h5, h6, h7⟩, ⟨k1, k2, k3⟩, h8, h9⟩ := h
  exact ⟨h1.upF (by decide +kernel) (by decide +kernel), fun k a b => by rw [up_ne a]; exact h2 k a b, ⟨fun j hj => by rw [up_at (by omega)]; exact h3 j hj, by rw [up_at (by omega)]; exact h4⟩, ⟨by rw [up_it]; exact hv, by rw [up_at (by omega)]; exact h6, by rw [up_at (by omega)]; exact h7⟩, ⟨by rw [up_at (by omega)]; exact k1, by rw [up_at (by omega)]; exact k2, by rw [up_at (by omega)]; exact k3⟩, fun w => ⟨by rw [up_at (by omega)]; exact (h8 w).1, by rw [up_at (by omega)]; exact (h8 w).2.1, by rw [up_at (by omega)]; exact (h8 w).2.2.1, fun i t' hi => by rw [up_ne (by omega)]; exact (h8 w).2.2.2 i t' hi⟩, fun w => by rw [up_at (by omega)]; exact h9 w⟩
theorem q_sub {e : Nat} : nI (e + 1) - 1 = nI e := by
  have h : nI (e + 1) - nI 1 = nI e := by rw [pk_sub (by omega), Nat.add_sub_cancel]
  exact h
theorem m_pm (hn : 146 ≤ n) (hT : TP X tb L) {N : Nat} (hN : ∀ c j, nm c = some j → j < N) (hN5 : N ≤ 5) (ht : t < 14) (htx : ∀ c, c ≤ 255 → txO t c = oI (nm c)) : ∀ fu (σ : RdS) (Z : LX) (b q : Nat), OkS tb L σ → MS n X L t b q pr σ Z → HZ pr.length 0 σ → b ≤ 8 → q ≤ 8 →
    (∀ d lev, lev ≤ 5 → 18 - lev + 8 * (8 - b) + (8 - q) ≤ d → 8 * (L - σ.2.1) + 7 - lev ≤ fu → Ex g (lvM lev) d n n [.ref 133] Z (msQ n X L t b q pr (pm tb L nm fu false lev b q σ))) ∧
    (∀ d, 18 - 0 + 8 * (8 - b) + (8 - q) ≤ d → 8 * (L - σ.2.1) + 1 ≤ fu → Ev g mX12_either d n n (msQ n X L t b q pr (pm tb L nm fu true 0 b q σ)) n 4 [some (.ref 133)] [] Z) ∧
    (∀ d, 18 - 1 + 8 * (8 - b) + (8 - q) ≤ d → 8 * (L - σ.2.1) + 1 ≤ fu → Ev g mX12_both d n n (msQ n X L t b q pr (pm tb L nm fu true 1 b q σ)) n 4 [some (.ref 133)] [] Z) ∧
    (∀ d, 18 - 2 + 8 * (8 - b) + (8 - q) ≤ d → 8 * (L - σ.2.1) + 1 ≤ fu → Ev g mX12_test d n n (msQ n X L t b q pr (pm tb L nm fu true 2 b q σ)) n 4 [some (.ref 133), none] [] Z) ∧
    (∀ d, 18 - 3 + 8 * (8 - b) + (8 - q) ≤ d → 8 * (L - σ.2.1) + 1 ≤ fu → Ev g mX12_sum d n n (msQ n X L t b q pr (pm tb L nm fu true 3 b q σ)) n 12 [some (.ref 133), some (.int (oI (hs tb 3 σ)))] [] Z) ∧
    (∀ d, 18 - 4 + 8 * (8 - b) + (8 - q) ≤ d → 8 * (L - σ.2.1) + 1 ≤ fu → Ev g mX12_term d n n (msQ n X L t b q pr (pm tb L nm fu true 4 b q σ)) n 13 [some (.ref 133), some (.int (oI (hs tb 4 σ)))] [] Z) := by
  intro fu
  induction fu with
  | zero =>
    intro σ Z b q _ _ _ _ _
    exact ⟨fun d lev hl _ h => absurd h (by omega), fun d _ h => absurd h (by omega), fun d _ h => absurd h (by omega), fun d _ h => absurd h (by omega), fun d _ h => absurd h (by omega), fun d _ h => absurd h (by omega)⟩
  | succ fu ih =>
    intro σ Z b q hO h hz hb hq
    have hL := hT.1
    have hp := hO.le
    have hs0 := hO.1
    have hk4 := hO.k4
    obtain ⟨h1, h2, ⟨h3, h4⟩, ⟨h5, h6, h7⟩, ⟨k1, k2, k3⟩, h8, h9⟩ := id h
    obtain ⟨a1, a2⟩ := stp_ok (tb := tb) (L := L) (σ := σ) hp
    have hbt : σ.1 = 3 → tb σ.2.1 < 256 := fun w => by
      obtain ⟨o1, -, -⟩ := hO.i (by omega)
      have := (hT.2 σ.2.1 (by omega)).2.2
      omega
    have hz8 : ∀ {τ : RdS}, HZ pr.length 1 τ → OkS tb L τ → τ.2.2.2.1 = false → pr.length + τ.2.2.2.2.1.length < 128 := fun w o f => by
      have := w.lt o hL f
      omega
    have part : ∀ d, 13 + 8 * (8 - b) + (8 - q) ≤ d → 8 * (L - σ.2.1) + 2 ≤ fu + 1 → Ex g mX12_part_ d n n [.ref 133] Z (msQ n X L t b q pr (pm tb L nm (fu + 1) false 5 b q σ)) := by
      intro d hd hfu
      refine e_of vX12_part_ (Nat.le_of_ble_eq_true rfl) (cat_of rfl) ?_
      by_cases f : σ.2.2.2.1 = true
      · rw [pm_f f]
        exact bX12_part__0_0 hn h1 (by rw [h9 f]; decide) ⟨rfl, h⟩
      · have hf := bf f
        have hzf := hz hf
        have c0 : Z 133 13 = 0 := (h8 hf).1
        have i2 : (Z 133 12 = 2) ↔ σ.1 = 2 := by rw [k1]; exact nI_eq (b := 2) (by omega) (by omega)
        have i1 : (Z 133 12 = 1) ↔ σ.1 = 1 := by rw [k1]; exact nI_eq (b := 1) (by omega) (by omega)
        by_cases c2 : σ.1 = 2
        · rw [pm_v f c2]
          obtain ⟨o1, o2, o3⟩ := hO.i (by omega)
          obtain ⟨-, hD⟩ := hO.2.2 c2
          refine bX12_part__0_1 hn h1 c0 (i2.mpr c2) ?_
          have loop : ∀ i, i ≤ σ.2.2.1 - σ.2.1 → Ev g mX12_part_ d n n (msQ n X L t b q pr (stp tb L (pv σ (0, nmb tb σ.2.1 (σ.2.2.1 - σ.2.1))))) n 23 [some (.ref 133), some (.int (nI (nmb tb σ.2.1 i))), some (.int (nI (σ.2.1 + i)))] [] Z := by
            refine down ?_ ?_
            · have hc := m_putT (g := g) (d := d - 1) (tk := (0, nmb tb σ.2.1 (σ.2.2.1 - σ.2.1))) hn (fun _ => by omega) h
              rw [show mTk (0, nmb tb σ.2.1 (σ.2.2.1 - σ.2.1)) = nI (nmb tb σ.2.1 (σ.2.2.1 - σ.2.1)) from rfl] at hc
              refine bX12_part__23_1 hn h1 (by rw [k3]; exact nI_le (by omega) (by omega)) (qX12_part__54 (d' := d - 1) (rest := []) hn (by omega) (by decide) hc (fun v W hv => ?_))
              obtain ⟨rfl, hW⟩ := hv
              rw [pt_T hf] at hW
              refine bX12_part__57_0 hn hW.1 (qX12_part__68 (d' := d - 1) (rest := []) hn (by omega) (by decide) (m_nextS (σ := pv σ (0, nmb tb σ.2.1 (σ.2.2.1 - σ.2.1))) (by omega) hn hT hk4 hp hW.u19) (fun v V hv => ?_))
              obtain ⟨rfl, hV⟩ := hv
              exact bX12_part__71_0 hn hV.1 ⟨rfl, hV⟩
            · intro i hi k
              refine bX12_part__23_0 hn h1 (by rw [k3]; exact nI_ge (by omega) (by omega)) (by omega) ?_
              rw [(h.by_ hT (σ.2.1 + i) (by omega)).1, Int32.mul_comm 10 (nI (nmb tb σ.2.1 i)), dig_nI (hD (σ.2.1 + i) (by omega) (by omega)).1, nI_1]
              exact k
          have := loop 0 (by omega)
          rw [Nat.add_zero, ← k2] at this
          exact this
        · cases hN' : lwN tb nm σ with
          | some j =>
            rw [pm_a f c2 hN']
            obtain ⟨n1, n2, n3⟩ := lwN_some hN'
            obtain ⟨o1, o2, o3⟩ := hO.i (by omega)
            have hj := hN _ _ n3
            obtain ⟨b1, b2⟩ := h.by_ hT σ.2.1 (by omega)
            refine bX12_part__0_2 hn h1 c0 (fun w => c2 (i2.mp w)) (i1.mpr n1) (by rw [k3, k2, pk_sub (by omega), n2]; rfl) ht h7 k2 (by omega) ?_
            rw [b1]
            refine qX12_part__108 (d' := d - 1) (rest := []) ht hn (by omega) (by decide) (k_indexOf (by omega) hn h1 ht b2) (fun v W hv => ?_)
            obtain ⟨rfl, hW⟩ := hv
            rw [hW, htx _ b2, n3]
            refine bX12_part__111_0 hn h1 (nI_pos (n := j) (by omega)) ht h7 k2 (by omega) ?_
            rw [b1]
            refine qX12_part__130 (d' := d - 1) (rest := [.int 100000, .ref 133]) ht hn (by omega) (by decide) (k_indexOf (by omega) hn h1 ht b2) (fun v W hv => ?_)
            obtain ⟨rfl, hW⟩ := hv
            rw [hW, htx _ b2, n3]
            refine bX12_part__133_0 hn h1 ?_
            rw [show (100000 : Int32) + oI (some j) = mTk (1, j) from (show nI 100000 + nI j = nI (100000 + j) from nI_add _ _)]
            refine qX12_part__134 (d' := d - 1) (rest := []) hn (by omega) (by decide) (m_putT (tk := (1, j)) hn (fun _ => by omega) h) (fun v W hv => ?_)
            obtain ⟨rfl, hW⟩ := hv
            rw [pt_T hf] at hW
            refine bX12_part__137_0 hn hW.1 (qX12_part__148 (d' := d - 1) (rest := []) hn (by omega) (by decide) (m_nextS (σ := pv σ (1, j)) (by omega) hn hT hk4 hp hW.u19) (fun v V hv => ?_))
            obtain ⟨rfl, hV⟩ := hv
            exact bX12_part__151_0 hn hV.1 ⟨rfl, hV⟩
          | none =>
            have par : ¬ (σ.1 = 3 ∧ tb σ.2.1 = 33 ∧ q < 8) → Ev g mX12_part_ d n n (msQ n X L t b q pr (pm tb L nm (fu + 1) false 5 b q σ)) n 212 [some (.ref 133), none, none] [.int 40, .ref 133] Z := by
              intro c4
              have hs1 := m_isSign (g := g) (d := d - 1) (c := 40) hn hT hO (by omega) h
              rw [show nI 40 = 40 from rfl] at hs1
              refine qX12_part__212 (d' := d - 1) (rest := []) hn (by omega) (by decide) hs1 (fun v W hv => ?_)
              obtain ⟨rfl, hW⟩ := hv
              rw [hW]
              by_cases c5 : σ.1 = 3 ∧ tb σ.2.1 = 40 ∧ b < 8
              · rw [if_pos ⟨⟨hf, c5.1⟩, c5.2.1⟩, pm_b f c2 hN' c4 c5]
                obtain ⟨o1, o2, o3⟩ := hO.i (by omega)
                have hE : MS n X L t (b + 1) q pr σ (lx_up Z 133 14 (Z 133 14 + 1)) := h.u14 (by rw [h5]; exact nI_1 _)
                refine bX12_part__215_0 hn h1 (by decide) (fun w => by rw [h5] at w; have h : nI 8 ≤ nI b := w; rw [nI_leI (by omega) (by omega)] at h; omega) (qX12_part__238 (d' := d - 1) (rest := []) hn (by omega) (by decide) (m_nextS (by omega) hn hT hk4 hp hE) (fun v W hv => ?_))
                obtain ⟨rfl, hW⟩ := hv
                have hc := (ih (stp tb L σ) W (b + 1) q a1 hW (hz.s hO (by omega)).w (by omega) hq).1 (d - 1) 0 (by omega) (by omega) (by omega)
                obtain ⟨r1, -, -⟩ := pm_ok (tb := tb) (L := L) hN fu false 0 (b + 1) q (stp tb L σ) a1 (fun _ => ⟨by omega, by omega⟩) (fun w => absurd w Bool.false_ne_true)
                refine bX12_part__241_0 hn hW.1 (qX12_part__242 (d' := d - 1) (rest := []) hn (by omega) (by decide) hc (fun v V hv => ?_))
                obtain ⟨rfl, hV⟩ := hv
                obtain ⟨τ, hτ⟩ : ∃ τ, τ = pm tb L nm fu false 0 (b + 1) q (stp tb L σ) := ⟨_, rfl⟩
                rw [← hτ] at hV r1 ⊢
                have hs2 := m_isSign (g := g) (d := d - 1) (c := 41) hn hT r1 (by omega) hV
                rw [show nI 41 = 41 from rfl] at hs2
                refine bX12_part__245_0 hn hV.1 (qX12_part__249 (d' := d - 1) (rest := [.ref 133]) hn (by omega) (by decide) hs2 (fun v U hv => ?_))
                obtain ⟨rfl, hU⟩ := hv
                rw [hU]
                refine qX12_part__252 (d' := d - 1) (rest := []) hn (by omega) (by decide) (m_need (P := τ.1 = 3 ∧ tb τ.2.1 = 41) (by omega) hn hT r1.k4 r1.le (fun fτ => ?_) hV) (fun v U hv => ?_)
                · by_cases c6 : τ.1 = 3 ∧ tb τ.2.1 = 41
                  · rw [if_pos ⟨⟨fτ, c6.1⟩, c6.2⟩]
                    exact ⟨fun _ => c6, fun _ => by decide⟩
                  · rw [if_neg (fun w => c6 ⟨w.1.2, w.2⟩)]
                    exact ⟨fun w => absurd rfl w, fun w => absurd w c6⟩
                · obtain ⟨rfl, hU⟩ := hv
                  refine bX12_part__255_0 hn hU.1 ⟨rfl, ?_⟩
                  exact hU.u14 (by rw [hU.2.2.2.1.1]; exact q_sub)
              · rw [pm_e f c2 hN' c4 c5]
                by_cases c7 : σ.1 = 3 ∧ tb σ.2.1 = 40
                · rw [if_pos ⟨⟨hf, c7.1⟩, c7.2⟩]
                  exact bX12_part__215_1 hn h1 (by decide) (by rw [h5]; exact show nI 8 ≤ nI b from nI_le (by have : ¬ b < 8 := fun w => c5 ⟨c7.1, c7.2, w⟩; omega) (by omega)) ⟨rfl, h.f1⟩
                · rw [if_neg (fun w => c7 ⟨w.1.2, w.2⟩)]
                  exact bX12_part__215_2 hn h1 rfl ⟨rfl, h.f1⟩
            have exm : Ev g mX12_part_ d n n (msQ n X L t b q pr (pm tb L nm (fu + 1) false 5 b q σ)) n 157 [some (.ref 133), none, none] [.int 33, .ref 133] Z := by
              have hs1 := m_isSign (g := g) (d := d - 1) (c := 33) hn hT hO (by omega) h
              rw [show nI 33 = 33 from rfl] at hs1
              refine qX12_part__157 (d' := d - 1) (rest := []) hn (by omega) (by decide) hs1 (fun v W hv => ?_)
              obtain ⟨rfl, hW⟩ := hv
              rw [hW]
              by_cases c4 : σ.1 = 3 ∧ tb σ.2.1 = 33 ∧ q < 8
              · rw [if_pos ⟨⟨hf, c4.1⟩, c4.2.1⟩, pm_x f c2 hN' c4]
                obtain ⟨o1, o2, o3⟩ := hO.i (by omega)
                have hE : MS n X L t b (q + 1) pr σ (lx_up Z 133 15 (Z 133 15 + 1)) := h.u15 (by rw [h6]; exact nI_1 _)
                refine bX12_part__160_0 hn h1 (by decide) (fun w => by rw [h6] at w; have h : nI 8 ≤ nI q := w; rw [nI_leI (by omega) (by omega)] at h; omega) (qX12_part__183 (d' := d - 1) (rest := []) hn (by omega) (by decide) (m_nextS (by omega) hn hT hk4 hp hE) (fun v W hv => ?_))
                obtain ⟨rfl, hW⟩ := hv
                have hc := (ih (stp tb L σ) W b (q + 1) a1 hW (hz.s hO (by omega)).w hb (by omega)).1 (d - 1) 5 (by omega) (by omega) (by omega)
                obtain ⟨r1, -, -⟩ := pm_ok (tb := tb) (L := L) hN fu false 5 b (q + 1) (stp tb L σ) a1 (fun _ => ⟨by omega, by omega⟩) (fun w => absurd w Bool.false_ne_true)
                have hzt := (hz.s hO (by omega)).m hN (lev := 5) (fu := fu) (m := false) (b := b) (q := q + 1) a1 (fun _ => ⟨by omega, by omega⟩) (fun w => absurd w Bool.false_ne_true)
                refine bX12_part__186_0 hn hW.1 (qX12_part__187 (d' := d - 1) (rest := []) hn (by omega) (by decide) hc (fun v V hv => ?_))
                obtain ⟨rfl, hV⟩ := hv
                have hV' := hV.u15 (e := q) (v := V 133 15 - 1) (by rw [hV.2.2.2.1.2.1]; exact q_sub)
                have hc2 := m_putT (g := g) (d := d - 1) (tk := (2, 0)) hn (hz8 hzt r1) hV'
                rw [show mTk (2, 0) = 200009 from rfl] at hc2
                refine bX12_part__190_0 hn hV.1 (qX12_part__203 (d' := d - 1) (rest := []) hn (by omega) (by decide) hc2 (fun v U hv => ?_))
                obtain ⟨rfl, hU⟩ := hv
                exact bX12_part__206_0 hn hU.1 ⟨rfl, hU⟩
              · by_cases c7 : σ.1 = 3 ∧ tb σ.2.1 = 33
                · rw [if_pos ⟨⟨hf, c7.1⟩, c7.2⟩]
                  exact bX12_part__160_1 hn h1 (by decide) (by rw [h6]; exact show nI 8 ≤ nI q from nI_le (by have : ¬ q < 8 := fun w => c4 ⟨c7.1, c7.2, w⟩; omega) (by omega)) (par c4)
                · rw [if_neg (fun w => c7 ⟨w.1.2, w.2⟩)]
                  exact bX12_part__160_2 hn h1 rfl (par c4)
            by_cases n1 : σ.1 = 1
            · obtain ⟨o1, o2, o3⟩ := hO.i (by omega)
              have i3 : (Z 133 11 - Z 133 10 = 1) ↔ σ.2.2.1 - σ.2.1 = 1 := by
                rw [k3, k2, pk_sub (by omega)]
                exact nI_eq (b := 1) (by omega) (by omega)
              by_cases n2 : σ.2.2.1 - σ.2.1 = 1
              · obtain ⟨b1, b2⟩ := h.by_ hT σ.2.1 (by omega)
                have n3 : nm (tb σ.2.1) = none := by
                  unfold lwN at hN'
                  rw [if_pos ⟨n1, n2⟩] at hN'
                  exact hN'
                refine bX12_part__0_2 hn h1 c0 (fun w => c2 (i2.mp w)) (i1.mpr n1) (i3.mpr n2) ht h7 k2 (by omega) ?_
                rw [b1]
                refine qX12_part__108 (d' := d - 1) (rest := []) ht hn (by omega) (by decide) (k_indexOf (by omega) hn h1 ht b2) (fun v W hv => ?_)
                obtain ⟨rfl, hW⟩ := hv
                rw [hW, htx _ b2, n3]
                exact bX12_part__111_1 hn h1 (by decide) exm
              · exact bX12_part__0_3 hn h1 c0 (fun w => c2 (i2.mp w)) (i1.mpr n1) (fun w => n2 (i3.mp w)) exm
            · exact bX12_part__0_4 hn h1 c0 (fun w => c2 (i2.mp w)) (fun w => n1 (i1.mp w)) exm
    have lev0 : ∀ d, 18 - 0 + 8 * (8 - b) + (8 - q) ≤ d → 8 * (L - σ.2.1) + 7 - 0 ≤ fu + 1 → Ex g mX12_either d n n [.ref 133] Z (msQ n X L t b q pr (pm tb L nm (fu + 1) false 0 b q σ)) := by
      intro d hd hfu
      refine e_of vX12_either (Nat.le_of_ble_eq_true rfl) (cat_of rfl) ?_
      rw [pm_l (by omega)]
      have hc := (ih σ Z b q hO h hz hb hq).1 (d - 1) (0 + 1) (by omega) (by omega) (by omega)
      obtain ⟨r1, r2, -⟩ := pm_ok (tb := tb) (L := L) hN fu false (0 + 1) b q σ hO (fun _ => ⟨by omega, by omega⟩) (fun w => absurd w Bool.false_ne_true)
      have hzt := hz.m hN (lev := 0 + 1) (fu := fu) (m := false) (b := b) (q := q) hO (fun _ => ⟨by omega, by omega⟩) (fun w => absurd w Bool.false_ne_true)
      refine bX12_either_0_0 hn h1 (qX12_either_1 (d' := d - 1) (rest := []) hn (by omega) (by decide) hc (fun v W hv => ?_))
      obtain ⟨rfl, hW⟩ := hv
      exact (ih _ W b q r1 hW hzt hb hq).2.1 d hd (by omega)
    have lev1 : ∀ d, 18 - 1 + 8 * (8 - b) + (8 - q) ≤ d → 8 * (L - σ.2.1) + 7 - 1 ≤ fu + 1 → Ex g mX12_both d n n [.ref 133] Z (msQ n X L t b q pr (pm tb L nm (fu + 1) false 1 b q σ)) := by
      intro d hd hfu
      refine e_of vX12_both (Nat.le_of_ble_eq_true rfl) (cat_of rfl) ?_
      rw [pm_l (by omega)]
      have hc := (ih σ Z b q hO h hz hb hq).1 (d - 1) (1 + 1) (by omega) (by omega) (by omega)
      obtain ⟨r1, r2, -⟩ := pm_ok (tb := tb) (L := L) hN fu false (1 + 1) b q σ hO (fun _ => ⟨by omega, by omega⟩) (fun w => absurd w Bool.false_ne_true)
      have hzt := hz.m hN (lev := 1 + 1) (fu := fu) (m := false) (b := b) (q := q) hO (fun _ => ⟨by omega, by omega⟩) (fun w => absurd w Bool.false_ne_true)
      refine bX12_both_0_0 hn h1 (qX12_both_1 (d' := d - 1) (rest := []) hn (by omega) (by decide) hc (fun v W hv => ?_))
      obtain ⟨rfl, hW⟩ := hv
      exact (ih _ W b q r1 hW hzt hb hq).2.2.1 d hd (by omega)
    have lev2 : ∀ d, 18 - 2 + 8 * (8 - b) + (8 - q) ≤ d → 8 * (L - σ.2.1) + 7 - 2 ≤ fu + 1 → Ex g mX12_test d n n [.ref 133] Z (msQ n X L t b q pr (pm tb L nm (fu + 1) false 2 b q σ)) := by
      intro d hd hfu
      refine e_of vX12_test (Nat.le_of_ble_eq_true rfl) (cat_of rfl) ?_
      rw [pm_l (by omega)]
      have hc := (ih σ Z b q hO h hz hb hq).1 (d - 1) (2 + 1) (by omega) (by omega) (by omega)
      obtain ⟨r1, r2, -⟩ := pm_ok (tb := tb) (L := L) hN fu false (2 + 1) b q σ hO (fun _ => ⟨by omega, by omega⟩) (fun w => absurd w Bool.false_ne_true)
      have hzt := hz.m hN (lev := 2 + 1) (fu := fu) (m := false) (b := b) (q := q) hO (fun _ => ⟨by omega, by omega⟩) (fun w => absurd w Bool.false_ne_true)
      refine bX12_test_0_0 hn h1 (qX12_test_1 (d' := d - 1) (rest := []) hn (by omega) (by decide) hc (fun v W hv => ?_))
      obtain ⟨rfl, hW⟩ := hv
      exact (ih _ W b q r1 hW hzt hb hq).2.2.2.1 d hd (by omega)
    have lev3 : ∀ d, 18 - 3 + 8 * (8 - b) + (8 - q) ≤ d → 8 * (L - σ.2.1) + 7 - 3 ≤ fu + 1 → Ex g mX12_sum d n n [.ref 133] Z (msQ n X L t b q pr (pm tb L nm (fu + 1) false 3 b q σ)) := by
      intro d hd hfu
      refine e_of vX12_sum (Nat.le_of_ble_eq_true rfl) (cat_of rfl) ?_
      rw [pm_l (by omega)]
      have hc := (ih σ Z b q hO h hz hb hq).1 (d - 1) (3 + 1) (by omega) (by omega) (by omega)
      obtain ⟨r1, r2, -⟩ := pm_ok (tb := tb) (L := L) hN fu false (3 + 1) b q σ hO (fun _ => ⟨by omega, by omega⟩) (fun w => absurd w Bool.false_ne_true)
      have hzt := hz.m hN (lev := 3 + 1) (fu := fu) (m := false) (b := b) (q := q) hO (fun _ => ⟨by omega, by omega⟩) (fun w => absurd w Bool.false_ne_true)
      refine bX12_sum_0_0 hn h1 (qX12_sum_1 (d' := d - 1) (rest := []) hn (by omega) (by decide) hc (fun v W hv => ?_))
      obtain ⟨rfl, hW⟩ := hv
      refine bX12_sum_4_0 hn hW.1 (qX12_sum_8 (d' := d - 1) (rest := []) hn (by omega) (by decide) (m_signHere (lev := 3) (by omega) hn hT r1 (by omega) rfl rfl hW) (fun v V hv => ?_))
      obtain ⟨rfl, hV⟩ := hv
      rw [hV]
      exact bX12_sum_11_0 hn hW.1 ((ih _ W b q r1 hW hzt hb hq).2.2.2.2.1 d hd (by omega))
    have lev4 : ∀ d, 18 - 4 + 8 * (8 - b) + (8 - q) ≤ d → 8 * (L - σ.2.1) + 7 - 4 ≤ fu + 1 → Ex g mX12_term d n n [.ref 133] Z (msQ n X L t b q pr (pm tb L nm (fu + 1) false 4 b q σ)) := by
      intro d hd hfu
      refine e_of vX12_term (Nat.le_of_ble_eq_true rfl) (cat_of rfl) ?_
      rw [pm_l (by omega)]
      have hc := (ih σ Z b q hO h hz hb hq).1 (d - 1) (4 + 1) (by omega) (by omega) (by omega)
      obtain ⟨r1, r2, -⟩ := pm_ok (tb := tb) (L := L) hN fu false (4 + 1) b q σ hO (fun _ => ⟨by omega, by omega⟩) (fun w => absurd w Bool.false_ne_true)
      have hzt := hz.m hN (lev := 4 + 1) (fu := fu) (m := false) (b := b) (q := q) hO (fun _ => ⟨by omega, by omega⟩) (fun w => absurd w Bool.false_ne_true)
      refine bX12_term_0_0 hn h1 (qX12_term_1 (d' := d - 1) (rest := []) hn (by omega) (by decide) hc (fun v W hv => ?_))
      obtain ⟨rfl, hW⟩ := hv
      refine bX12_term_4_0 hn hW.1 (qX12_term_9 (d' := d - 1) (rest := []) hn (by omega) (by decide) (m_signHere (lev := 4) (by omega) hn hT r1 (by omega) rfl rfl hW) (fun v V hv => ?_))
      obtain ⟨rfl, hV⟩ := hv
      rw [hV]
      exact bX12_term_12_0 hn hW.1 ((ih _ W b q r1 hW hzt hb hq).2.2.2.2.2 d hd (by omega))
    have lp0 : ∀ d, 18 - 0 + 8 * (8 - b) + (8 - q) ≤ d → 8 * (L - σ.2.1) + 1 ≤ fu + 1 → Ev g mX12_either d n n (msQ n X L t b q pr (pm tb L nm (fu + 1) true 0 b q σ)) n 4 [some (.ref 133)] [] Z := by
      intro d hd hfu
      refine bX12_either_4_0 hn h1 (qX12_either_7 (d' := d - 1) (rest := []) hn (by omega) (by decide) (m_signHere (lev := 0) (by omega) hn hT hO (by omega) rfl rfl h) (fun v W hv => ?_))
      obtain ⟨rfl, hW⟩ := hv
      rw [hW]
      cases hh : hs tb 0 σ with
      | none =>
        rw [pm_n hh]
        exact bX12_either_10_1 hn h1 (by decide) ⟨rfl, h⟩
      | some j =>
        obtain ⟨f1, k3', sg⟩ := hs_some hh
        have hj := sgOf_lt sg
        obtain ⟨o1, o2, o3⟩ := hO.i (by omega)
        obtain ⟨r1, r2, -⟩ := pm_ok (tb := tb) (L := L) hN fu false (0 + 1) b q (stp tb L σ) a1 (fun _ => ⟨by omega, by omega⟩) (fun w => absurd w Bool.false_ne_true)
        have hzt := (hz.s hO (by omega)).m hN (lev := 0 + 1) (fu := fu) (m := false) (b := b) (q := q) a1 (fun _ => ⟨by omega, by omega⟩) (fun w => absurd w Bool.false_ne_true)
        have p3 : (pt (pm tb L nm fu false (0 + 1) b q (stp tb L σ)) (3, j)).2.1 = (pm tb L nm fu false (0 + 1) b q (stp tb L σ)).2.1 := pt_f.2.2.1
        have ej := sgOf_0 sg
        subst ej
        rw [pm_s hh (by omega)]
        have hc := m_nextS (g := g) (d := d - 1) (by omega) hn hT hk4 hp h
        refine bX12_either_10_0 hn h1 (by decide) (qX12_either_14 (d' := d - 1) (rest := []) hn (by omega) (by decide) hc (fun v W hv => ?_))
        obtain ⟨rfl, hW⟩ := hv
        have hc2 := (ih (stp tb L σ) W b q a1 hW (hz.s hO (by omega)).w hb hq).1 (d - 1) (0 + 1) (by omega) (by omega) (by omega)
        refine bX12_either_17_0 hn hW.1 (qX12_either_18 (d' := d - 1) (rest := []) hn (by omega) (by decide) hc2 (fun v V hv => ?_))
        obtain ⟨rfl, hV⟩ := hv
        have hc3 := m_putT (g := g) (d := d - 1) (tk := (3, 0)) hn (hz8 hzt r1) hV
        rw [show mTk (3, 0) = 200000 from rfl] at hc3
        refine bX12_either_21_0 hn hV.1 (qX12_either_24 (d' := d - 1) (rest := []) hn (by omega) (by decide) hc3 (fun v U hv => ?_))
        obtain ⟨rfl, hU⟩ := hv
        exact bX12_either_27_0 hn hU.1 ((ih _ U b q r1.pt hU hzt.p hb hq).2.1 d hd (by rw [p3]; omega))
    have lp1 : ∀ d, 18 - 1 + 8 * (8 - b) + (8 - q) ≤ d → 8 * (L - σ.2.1) + 1 ≤ fu + 1 → Ev g mX12_both d n n (msQ n X L t b q pr (pm tb L nm (fu + 1) true 1 b q σ)) n 4 [some (.ref 133)] [] Z := by
      intro d hd hfu
      refine bX12_both_4_0 hn h1 (qX12_both_7 (d' := d - 1) (rest := []) hn (by omega) (by decide) (m_signHere (lev := 1) (by omega) hn hT hO (by omega) rfl rfl h) (fun v W hv => ?_))
      obtain ⟨rfl, hW⟩ := hv
      rw [hW]
      cases hh : hs tb 1 σ with
      | none =>
        rw [pm_n hh]
        exact bX12_both_10_1 hn h1 (by decide) ⟨rfl, h⟩
      | some j =>
        obtain ⟨f1, k3', sg⟩ := hs_some hh
        have hj := sgOf_lt sg
        obtain ⟨o1, o2, o3⟩ := hO.i (by omega)
        obtain ⟨r1, r2, -⟩ := pm_ok (tb := tb) (L := L) hN fu false (1 + 1) b q (stp tb L σ) a1 (fun _ => ⟨by omega, by omega⟩) (fun w => absurd w Bool.false_ne_true)
        have hzt := (hz.s hO (by omega)).m hN (lev := 1 + 1) (fu := fu) (m := false) (b := b) (q := q) a1 (fun _ => ⟨by omega, by omega⟩) (fun w => absurd w Bool.false_ne_true)
        have p3 : (pt (pm tb L nm fu false (1 + 1) b q (stp tb L σ)) (3, j)).2.1 = (pm tb L nm fu false (1 + 1) b q (stp tb L σ)).2.1 := pt_f.2.2.1
        have ej := sgOf_1 sg
        subst ej
        rw [pm_s hh (by omega)]
        have hc := m_nextS (g := g) (d := d - 1) (by omega) hn hT hk4 hp h
        refine bX12_both_10_0 hn h1 (by decide) (qX12_both_14 (d' := d - 1) (rest := []) hn (by omega) (by decide) hc (fun v W hv => ?_))
        obtain ⟨rfl, hW⟩ := hv
        have hc2 := (ih (stp tb L σ) W b q a1 hW (hz.s hO (by omega)).w hb hq).1 (d - 1) (1 + 1) (by omega) (by omega) (by omega)
        refine bX12_both_17_0 hn hW.1 (qX12_both_18 (d' := d - 1) (rest := []) hn (by omega) (by decide) hc2 (fun v V hv => ?_))
        obtain ⟨rfl, hV⟩ := hv
        have hc3 := m_putT (g := g) (d := d - 1) (tk := (3, 1)) hn (hz8 hzt r1) hV
        rw [show mTk (3, 1) = 200001 from rfl] at hc3
        refine bX12_both_21_0 hn hV.1 (qX12_both_24 (d' := d - 1) (rest := []) hn (by omega) (by decide) hc3 (fun v U hv => ?_))
        obtain ⟨rfl, hU⟩ := hv
        exact bX12_both_27_0 hn hU.1 ((ih _ U b q r1.pt hU hzt.p hb hq).2.2.1 d hd (by rw [p3]; omega))
    have lp2 : ∀ d, 18 - 2 + 8 * (8 - b) + (8 - q) ≤ d → 8 * (L - σ.2.1) + 1 ≤ fu + 1 → Ev g mX12_test d n n (msQ n X L t b q pr (pm tb L nm (fu + 1) true 2 b q σ)) n 4 [some (.ref 133), none] [] Z := by
      intro d hd hfu
      refine bX12_test_4_0 hn h1 (qX12_test_7 (d' := d - 1) (rest := []) hn (by omega) (by decide) (m_signHere (lev := 2) (by omega) hn hT hO (by omega) rfl rfl h) (fun v W hv => ?_))
      obtain ⟨rfl, hW⟩ := hv
      rw [hW]
      cases hh : hs tb 2 σ with
      | none =>
        rw [pm_n hh]
        exact bX12_test_10_1 hn h1 (by decide) ⟨rfl, h⟩
      | some j =>
        obtain ⟨f1, k3', sg⟩ := hs_some hh
        have hj := sgOf_lt sg
        obtain ⟨o1, o2, o3⟩ := hO.i (by omega)
        obtain ⟨r1, r2, -⟩ := pm_ok (tb := tb) (L := L) hN fu false (2 + 1) b q (stp tb L σ) a1 (fun _ => ⟨by omega, by omega⟩) (fun w => absurd w Bool.false_ne_true)
        have hzt := (hz.s hO (by omega)).m hN (lev := 2 + 1) (fu := fu) (m := false) (b := b) (q := q) a1 (fun _ => ⟨by omega, by omega⟩) (fun w => absurd w Bool.false_ne_true)
        have p3 : (pt (pm tb L nm fu false (2 + 1) b q (stp tb L σ)) (3, j)).2.1 = (pm tb L nm fu false (2 + 1) b q (stp tb L σ)).2.1 := pt_f.2.2.1
        rw [pm_2 hh]
        have hc := m_nextS (g := g) (d := d - 1) (by omega) hn hT hk4 hp h
        refine bX12_test_10_0 hn h1 (nI_pos (n := j) (by omega)) (qX12_test_16 (d' := d - 1) (rest := []) hn (by omega) (by decide) hc (fun v W hv => ?_))
        obtain ⟨rfl, hW⟩ := hv
        have hc2 := (ih (stp tb L σ) W b q a1 hW (hz.s hO (by omega)).w hb hq).1 (d - 1) (2 + 1) (by omega) (by omega) (by omega)
        refine bX12_test_19_0 hn hW.1 (qX12_test_20 (d' := d - 1) (rest := []) hn (by omega) (by decide) hc2 (fun v V hv => ?_))
        obtain ⟨rfl, hV⟩ := hv
        refine bX12_test_23_0 hn hV.1 ?_
        rw [show (200000 : Int32) + oI (some j) = mTk (3, j) from (show nI 200000 + nI j = nI (200000 + j) from nI_add _ _)]
        refine qX12_test_28 (d' := d - 1) (rest := []) hn (by omega) (by decide) (m_putT (tk := (3, j)) hn (hz8 hzt r1) hV) (fun v U hv => ?_)
        obtain ⟨rfl, hU⟩ := hv
        exact bX12_test_31_0 hn hU.1 ⟨rfl, hU⟩
    have lp3 : ∀ d, 18 - 3 + 8 * (8 - b) + (8 - q) ≤ d → 8 * (L - σ.2.1) + 1 ≤ fu + 1 → Ev g mX12_sum d n n (msQ n X L t b q pr (pm tb L nm (fu + 1) true 3 b q σ)) n 12 [some (.ref 133), some (.int (oI (hs tb 3 σ)))] [] Z := by
      intro d hd hfu
      cases hh : hs tb 3 σ with
      | none =>
        rw [pm_n hh]
        exact bX12_sum_12_1 hn h1 (by decide) ⟨rfl, h⟩
      | some j =>
        obtain ⟨f1, k3', sg⟩ := hs_some hh
        have hj := sgOf_lt sg
        obtain ⟨o1, o2, o3⟩ := hO.i (by omega)
        obtain ⟨r1, r2, -⟩ := pm_ok (tb := tb) (L := L) hN fu false (3 + 1) b q (stp tb L σ) a1 (fun _ => ⟨by omega, by omega⟩) (fun w => absurd w Bool.false_ne_true)
        have hzt := (hz.s hO (by omega)).m hN (lev := 3 + 1) (fu := fu) (m := false) (b := b) (q := q) a1 (fun _ => ⟨by omega, by omega⟩) (fun w => absurd w Bool.false_ne_true)
        have p3 : (pt (pm tb L nm fu false (3 + 1) b q (stp tb L σ)) (3, j)).2.1 = (pm tb L nm fu false (3 + 1) b q (stp tb L σ)).2.1 := pt_f.2.2.1
        rw [pm_s hh (by omega)]
        have hc := m_nextS (g := g) (d := d - 1) (by omega) hn hT hk4 hp h
        refine bX12_sum_12_0 hn h1 (nI_pos (n := j) (by omega)) (qX12_sum_17 (d' := d - 1) (rest := []) hn (by omega) (by decide) hc (fun v W hv => ?_))
        obtain ⟨rfl, hW⟩ := hv
        have hc2 := (ih (stp tb L σ) W b q a1 hW (hz.s hO (by omega)).w hb hq).1 (d - 1) (3 + 1) (by omega) (by omega) (by omega)
        refine bX12_sum_20_0 hn hW.1 (qX12_sum_21 (d' := d - 1) (rest := []) hn (by omega) (by decide) hc2 (fun v V hv => ?_))
        obtain ⟨rfl, hV⟩ := hv
        refine bX12_sum_24_0 hn hV.1 ?_
        rw [show (200000 : Int32) + oI (some j) = mTk (3, j) from (show nI 200000 + nI j = nI (200000 + j) from nI_add _ _)]
        refine qX12_sum_29 (d' := d - 1) (rest := []) hn (by omega) (by decide) (m_putT (tk := (3, j)) hn (hz8 hzt r1) hV) (fun v U hv => ?_)
        obtain ⟨rfl, hU⟩ := hv
        refine bX12_sum_32_0 hn hU.1 (qX12_sum_36 (d' := d - 1) (rest := []) hn (by omega) (by decide) (m_signHere (lev := 3) (by omega) hn hT r1.pt (by omega) rfl rfl hU) (fun v Y hv => ?_))
        obtain ⟨rfl, hY⟩ := hv
        rw [hY]
        exact bX12_sum_39_0 hn hU.1 ((ih _ U b q r1.pt hU hzt.p hb hq).2.2.2.2.1 d hd (by rw [p3]; omega))
    have lp4 : ∀ d, 18 - 4 + 8 * (8 - b) + (8 - q) ≤ d → 8 * (L - σ.2.1) + 1 ≤ fu + 1 → Ev g mX12_term d n n (msQ n X L t b q pr (pm tb L nm (fu + 1) true 4 b q σ)) n 13 [some (.ref 133), some (.int (oI (hs tb 4 σ)))] [] Z := by
      intro d hd hfu
      cases hh : hs tb 4 σ with
      | none =>
        rw [pm_n hh]
        exact bX12_term_13_1 hn h1 (by decide) ⟨rfl, h⟩
      | some j =>
        obtain ⟨f1, k3', sg⟩ := hs_some hh
        have hj := sgOf_lt sg
        obtain ⟨o1, o2, o3⟩ := hO.i (by omega)
        obtain ⟨r1, r2, -⟩ := pm_ok (tb := tb) (L := L) hN fu false (4 + 1) b q (stp tb L σ) a1 (fun _ => ⟨by omega, by omega⟩) (fun w => absurd w Bool.false_ne_true)
        have hzt := (hz.s hO (by omega)).m hN (lev := 4 + 1) (fu := fu) (m := false) (b := b) (q := q) a1 (fun _ => ⟨by omega, by omega⟩) (fun w => absurd w Bool.false_ne_true)
        have p3 : (pt (pm tb L nm fu false (4 + 1) b q (stp tb L σ)) (3, j)).2.1 = (pm tb L nm fu false (4 + 1) b q (stp tb L σ)).2.1 := pt_f.2.2.1
        rw [pm_s hh (by omega)]
        have hc := m_nextS (g := g) (d := d - 1) (by omega) hn hT hk4 hp h
        refine bX12_term_13_0 hn h1 (nI_pos (n := j) (by omega)) (qX12_term_18 (d' := d - 1) (rest := []) hn (by omega) (by decide) hc (fun v W hv => ?_))
        obtain ⟨rfl, hW⟩ := hv
        have hc2 := (ih (stp tb L σ) W b q a1 hW (hz.s hO (by omega)).w hb hq).1 (d - 1) (4 + 1) (by omega) (by omega) (by omega)
        refine bX12_term_21_0 hn hW.1 (qX12_term_22 (d' := d - 1) (rest := []) hn (by omega) (by decide) hc2 (fun v V hv => ?_))
        obtain ⟨rfl, hV⟩ := hv
        refine bX12_term_25_0 hn hV.1 ?_
        rw [show (200000 : Int32) + oI (some j) = mTk (3, j) from (show nI 200000 + nI j = nI (200000 + j) from nI_add _ _)]
        refine qX12_term_30 (d' := d - 1) (rest := []) hn (by omega) (by decide) (m_putT (tk := (3, j)) hn (hz8 hzt r1) hV) (fun v U hv => ?_)
        obtain ⟨rfl, hU⟩ := hv
        refine bX12_term_33_0 hn hU.1 (qX12_term_38 (d' := d - 1) (rest := []) hn (by omega) (by decide) (m_signHere (lev := 4) (by omega) hn hT r1.pt (by omega) rfl rfl hU) (fun v Y hv => ?_))
        obtain ⟨rfl, hY⟩ := hv
        rw [hY]
        exact bX12_term_41_0 hn hU.1 ((ih _ U b q r1.pt hU hzt.p hb hq).2.2.2.2.2 d hd (by rw [p3]; omega))
    refine ⟨fun d lev hl hd hfu => ?_, lp0, lp1, lp2, lp3, lp4⟩
    rcases (show lev = 0 ∨ lev = 1 ∨ lev = 2 ∨ lev = 3 ∨ lev = 4 ∨ lev = 5 by omega) with rfl | rfl | rfl | rfl | rfl | rfl
    · exact lev0 d hd hfu
    · exact lev1 d hd hfu
    · exact lev2 d hd hfu
    · exact lev3 d hd hfu
    · exact lev4 d hd hfu
    · exact part d (by omega) (by omega)
end LMP
