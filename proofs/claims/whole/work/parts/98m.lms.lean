/-! LAW, 14: the model's reader against the state: its small methods. -/
def MS (n : Nat) (X : LX) (L t b q : Nat) (pr : List Int32) (σ : RdS) (Z : LX) : Prop := Sh n Z ∧ (∀ k, k ≠ 133 → k ≠ 141 → Z k = X k) ∧ ((∀ j, j < 10 → Z 133 j = X 133 j) ∧ Z 133 4 = nI L) ∧ (Z 133 14 = nI b ∧ Z 133 15 = nI q ∧ Z 133 16 = rE (1000 + t)) ∧ (Z 133 12 = nI σ.1 ∧ Z 133 10 = nI σ.2.1 ∧ Z 133 11 = nI σ.2.2.1) ∧ (σ.2.2.2.1 = false → Z 133 13 = 0 ∧ Z 133 18 = nI (pr.length + σ.2.2.2.2.1.length) ∧ Z 133 19 = nI σ.2.2.2.2.2 ∧ ∀ i c, (pr ++ σ.2.2.2.2.1.map mTk)[i]? = some c → Z 141 i = c) ∧ (σ.2.2.2.1 = true → Z 133 13 = 1)
def msQ (n : Nat) (X : LX) (L t b q : Nat) (pr : List Int32) (σ : RdS) : Option Value → LX → Prop := fun v Z => v = none ∧ MS n X L t b q pr σ Z
theorem ap_getI {l : List Int32} {t t' : Int32} {i : Nat} (h : (l ++ [t])[i]? = some t') : (i < l.length ∧ l[i]? = some t') ∨ (i = l.length ∧ t' = t) := by
  rcases Nat.lt_or_ge i l.length with c | c
  · rw [List.getElem?_append_left c] at h
    exact Or.inl ⟨c, h⟩
  · rw [List.getElem?_append_right c] at h
    have hi : i - l.length < [t].length := by
      refine Classical.byContradiction (fun w => ?_)
      rw [List.getElem?_eq_none (by omega)] at h
      cases h
    rw [List.length_singleton] at hi
    have e : i = l.length := by omega
    subst e
    rw [Nat.sub_self] at h
    exact Or.inr ⟨rfl, (Option.some.inj h).symm⟩
def sgB : Nat → Nat
  | 0 => 124
  | 1 => 38
  | 2 => 60
  | 3 => 61
  | 4 => 62
  | 5 => 43
  | 6 => 45
  | 7 => 42
  | _ => 47
def fndN (lo c : Nat) : Nat → Int32
  | 0 => -1
  | m + 1 => if c = sgB (lo + m) then nI (lo + m) else fndN lo c m
theorem fndN_s (lo c m : Nat) : fndN lo c (m + 1) = if c = sgB (lo + m) then nI (lo + m) else fndN lo c m := rfl
def lvLo : Nat → Nat
  | 0 => 0
  | 1 => 1
  | 2 => 2
  | 3 => 5
  | _ => 7
def lvHi : Nat → Nat
  | 0 => 0
  | 1 => 1
  | 2 => 4
  | 3 => 6
  | _ => 8
theorem fnd_sg : ∀ lev, lev < 5 → ∀ c, c < 256 → fndN (lvLo lev) c (lvHi lev + 1 - lvLo lev) = oI (sgOf lev c) := by decide +kernel
theorem txC_13 : ∀ j, j < 9 → txC 13 j = nI (sgB j) := by decide +kernel
theorem sgB_lt : ∀ j, sgB j < 256 := fun j => by
  rcases (show j = 0 ∨ j = 1 ∨ j = 2 ∨ j = 3 ∨ j = 4 ∨ j = 5 ∨ j = 6 ∨ j = 7 ∨ ∃ i, j = i + 8 from by
    rcases Nat.lt_or_ge j 8 with c | c
    · omega
    · exact Or.inr (Or.inr (Or.inr (Or.inr (Or.inr (Or.inr (Or.inr (Or.inr ⟨j - 8, by omega⟩)))))))) with rfl | rfl | rfl | rfl | rfl | rfl | rfl | rfl | ⟨i, rfl⟩
  all_goals exact Nat.le_of_ble_eq_true rfl
section LMS
variable {g : GG} {d n : Nat} {X Z : LX} {tb : Nat → Nat} {L t b q : Nat} {pr : List Int32} {σ : RdS} {nm : Nat → Option Nat}
theorem MS.by_ (h : MS n X L t b q pr σ Z) (hT : TP X tb L) : ∀ i, i < 120 → Z 136 i = nI (tb i) ∧ tb i ≤ 255 := fun i hi => by
  rw [h.2.1 136 (by omega) (by omega)]
  exact (hT.2 i hi).2
theorem m_nextS (hd : 2 ≤ d) (hn : 146 ≤ n) (hT : TP X tb L) (hk : σ.1 ≤ 4) (hp : σ.2.2.1 ≤ L) (h : MS n X L t b q pr σ Z) : Ex g mX12_next d n n [.ref 133] Z (msQ n X L t b q pr (stp tb L σ)) := by
  refine Ex.mono (m_next hd hn h.1 hT.1 (h.by_ hT) h.2.2.1.2 h.2.2.2.2.1.1 hk h.2.2.2.2.1.2.2 hp) (fun v W hv => ⟨hv.1, ?_⟩)
  obtain ⟨h1, h2, ⟨h3, h4⟩, ⟨h5, h6, h7⟩, -, h8, h9⟩ := h
  obtain ⟨-, w1, w2, w3, w12, w10, w11⟩ := hv
  exact ⟨w1, fun k a b => (w2 k a).trans (h2 k a b), ⟨fun j hj => by rw [w3 j (by omega) (by omega) (by omega)]; exact h3 j hj, by rw [w3 4 (by omega) (by omega) (by omega)]; exact h4⟩, ⟨by rw [w3 14 (by omega) (by omega) (by omega)]; exact h5, by rw [w3 15 (by omega) (by omega) (by omega)]; exact h6, by rw [w3 16 (by omega) (by omega) (by omega)]; exact h7⟩, ⟨w12, w10, w11⟩, fun f => ⟨by rw [w3 13 (by omega) (by omega) (by omega)]; exact (h8 f).1, by rw [w3 18 (by omega) (by omega) (by omega)]; exact (h8 f).2.1, by rw [w3 19 (by omega) (by omega) (by omega)]; exact (h8 f).2.2.1, fun i t hi => by rw [w2 141 (by omega)]; exact (h8 f).2.2.2 i t hi⟩, fun f => by rw [w3 13 (by omega) (by omega) (by omega)]; exact h9 f⟩
theorem m_put {v : Int32} {T' : List (Nat × Nat)} {pr' : List Int32} (hn : 146 ≤ n) (hz : σ.2.2.2.1 = false → pr.length + σ.2.2.2.2.1.length < 128) (hl : pr' ++ T'.map mTk = (pr ++ σ.2.2.2.2.1.map mTk) ++ [v]) (h : MS n X L t b q pr σ Z) : Ex g mX12_put d n n [.ref 133, .int v] Z (msQ n X L t b q pr' (σ.1, σ.2.1, σ.2.2.1, σ.2.2.2.1, T', σ.2.2.2.2.2)) := by
  refine e_of vX12_put (Nat.le_of_ble_eq_true rfl) (cat_of rfl) ?_
  obtain ⟨h1, h2, ⟨h3, h4⟩, ⟨h5, h6, h7⟩, ⟨k1, k2, k3⟩, h8, h9⟩ := h
  by_cases f : σ.2.2.2.1 = true
  · exact bX12_put_0_1 hn h1 (by rw [h9 f]; decide) ⟨rfl, h1, h2, ⟨h3, h4⟩, ⟨h5, h6, h7⟩, ⟨k1, k2, k3⟩, fun w => absurd (f.symm.trans w).symm Bool.false_ne_true, fun _ => h9 f⟩
  · have hf := bf f
    obtain ⟨a1, a2, a3, a4⟩ := h8 hf
    have hz := hz hf
    have hlen : pr'.length + T'.length = pr.length + σ.2.2.2.2.1.length + 1 := by
      have := congrArg List.length hl
      rw [List.length_append, List.length_append, List.length_append, List.length_map, List.length_map, List.length_singleton] at this
      exact this
    refine bX12_put_0_0 hn h1 a1 a2 hz ⟨rfl, (h1.upA (by decide +kernel)).upF (by decide +kernel) (by decide +kernel), fun k a b => by rw [up_ne a, up_ne b]; exact h2 k a b, ⟨fun j hj => by rw [up_at (by omega), up_ne (by omega)]; exact h3 j hj, by rw [up_at (by omega), up_ne (by omega)]; exact h4⟩, ⟨by rw [up_at (by omega), up_ne (by omega)]; exact h5, by rw [up_at (by omega), up_ne (by omega)]; exact h6, by rw [up_at (by omega), up_ne (by omega)]; exact h7⟩, ⟨by rw [up_at (by omega), up_ne (by omega)]; exact k1, by rw [up_at (by omega), up_ne (by omega)]; exact k2, by rw [up_at (by omega), up_ne (by omega)]; exact k3⟩, fun w => ⟨by rw [up_at (by omega), up_ne (by omega)]; exact a1, ?_, by rw [up_at (by omega), up_ne (by omega)]; exact a3, fun i t' hi => ?_⟩, fun w => absurd w f⟩
    · rw [up_it, a2, nI_1, hlen]
    · have hi : (pr' ++ T'.map mTk)[i]? = some t' := hi
      rw [hl] at hi
      rcases ap_getI hi with ⟨q1, q2⟩ | ⟨q1, q2⟩
      · rw [List.length_append, List.length_map] at q1
        rw [up_ne (by omega), up_at (by omega)]
        exact a4 i t' q2
      · rw [List.length_append, List.length_map] at q1
        rw [up_ne (by omega), q1, up_it, q2]
theorem m_putT {tk : Nat × Nat} (hn : 146 ≤ n) (hz : σ.2.2.2.1 = false → pr.length + σ.2.2.2.2.1.length < 128) (h : MS n X L t b q pr σ Z) : Ex g mX12_put d n n [.ref 133, .int (mTk tk)] Z (msQ n X L t b q pr (pt σ tk)) := by
  have hp := m_put (g := g) (d := d) (v := mTk tk) (pr' := pr) (T' := σ.2.2.2.2.1 ++ [tk]) hn hz (by rw [List.map_append, ← List.append_assoc]; rfl) h
  by_cases f : σ.2.2.2.1 = true
  · refine Ex.mono hp (fun v W hv => ⟨hv.1, ?_⟩)
    rw [pt_t f]
    obtain ⟨-, h1, h2, h3, h4, h5, h6, h7⟩ := hv
    exact ⟨h1, h2, h3, h4, h5, fun w => absurd (f.symm.trans w).symm Bool.false_ne_true, h7⟩
  · rw [pt_T (bf f)]
    exact hp
theorem m_isSign {c : Nat} (hn : 146 ≤ n) (hT : TP X tb L) (hO : OkS tb L σ) (hc : c ≤ 255) (h : MS n X L t b q pr σ Z) : Ex g mX12_isSign d n n [.ref 133, .int (nI c)] Z (rt (if (σ.2.2.2.1 = false ∧ σ.1 = 3) ∧ tb σ.2.1 = c then 1 else 0) Z) := by
  refine e_of vX12_isSign (Nat.le_of_ble_eq_true rfl) (cat_of rfl) ?_
  have hL := hT.1
  have hk4 := hO.k4
  obtain ⟨h1, h2, ⟨h3, h4⟩, ⟨h5, h6, h7⟩, ⟨k1, k2, k3⟩, h8, h9⟩ := id h
  by_cases f : σ.2.2.2.1 = true
  · rw [if_neg (fun w => absurd (w.1.1.symm.trans f) Bool.false_ne_true)]
    exact bX12_isSign_0_3 hn h1 (by rw [h9 f]; decide) ⟨rfl, rfl⟩
  · have hf := bf f
    have c0 : Z 133 13 = 0 := (h8 hf).1
    have i3 : (Z 133 12 = 3) ↔ σ.1 = 3 := by rw [k1]; exact nI_eq (b := 3) (by omega) (by omega)
    by_cases k : σ.1 = 3
    · obtain ⟨o1, o2, o3⟩ := hO.i (by omega)
      obtain ⟨b1, b2⟩ := h.by_ hT σ.2.1 (by omega)
      have ic : (Z 136 σ.2.1 = nI c) ↔ tb σ.2.1 = c := by rw [b1]; exact nI_eq (by omega) (by omega)
      by_cases e : tb σ.2.1 = c
      · rw [if_pos ⟨⟨hf, k⟩, e⟩]
        exact bX12_isSign_0_0 hn h1 c0 (i3.mpr k) k2 (by omega) (ic.mpr e) ⟨rfl, rfl⟩
      · rw [if_neg (fun w => e w.2)]
        exact bX12_isSign_0_1 hn h1 c0 (i3.mpr k) k2 (by omega) (fun w => e (ic.mp w)) ⟨rfl, rfl⟩
    · rw [if_neg (fun w => k w.1.2)]
      exact bX12_isSign_0_2 hn h1 c0 (fun w => k (i3.mp w)) ⟨rfl, rfl⟩
theorem MS.f1 (h : MS n X L t b q pr σ Z) : MS n X L t b q pr (fl σ) (lx_up Z 133 13 1) := by
  obtain ⟨h1, h2, ⟨h3, h4⟩, ⟨h5, h6, h7⟩, ⟨k1, k2, k3⟩, h8, h9⟩ := h
  exact ⟨h1.upF (by decide +kernel) (by decide +kernel), fun k a b => by rw [up_ne a]; exact h2 k a b, ⟨fun j hj => by rw [up_at (by omega)]; exact h3 j hj, by rw [up_at (by omega)]; exact h4⟩, ⟨by rw [up_at (by omega)]; exact h5, by rw [up_at (by omega)]; exact h6, by rw [up_at (by omega)]; exact h7⟩, ⟨by rw [up_at (by omega)]; exact k1, by rw [up_at (by omega)]; exact k2, by rw [up_at (by omega)]; exact k3⟩, fun w => absurd w.symm Bool.false_ne_true, fun _ => up_it⟩
theorem m_need {v : Int32} {P : Prop} [Decidable P] (hd : 3 ≤ d) (hn : 146 ≤ n) (hT : TP X tb L) (hk : σ.1 ≤ 4) (hp : σ.2.2.1 ≤ L) (hv : σ.2.2.2.1 = false → (¬ v = 0 ↔ P)) (h : MS n X L t b q pr σ Z) : Ex g mX12_need d n n [.ref 133, .int v] Z (msQ n X L t b q pr (if σ.2.2.2.1 = false ∧ P then stp tb L σ else fl σ)) := by
  refine e_of vX12_need (Nat.le_of_ble_eq_true rfl) (cat_of rfl) ?_
  by_cases f : σ.2.2.2.1 = true
  · rw [if_neg (fun w => absurd (w.1.symm.trans f) Bool.false_ne_true)]
    exact bX12_need_0_2 hn h.1 (by rw [h.2.2.2.2.2.2 f]; decide) ⟨rfl, h.f1⟩
  · have hf := bf f
    have hv := hv hf
    have c0 : Z 133 13 = 0 := (h.2.2.2.2.2.1 hf).1
    by_cases c : v = 0
    · rw [if_neg (fun w => hv.mpr w.2 c)]
      exact bX12_need_0_0 hn h.1 c0 c ⟨rfl, h.f1⟩
    · rw [if_pos ⟨hf, hv.mp c⟩]
      have h' : MS n X L t b q pr σ (lx_up Z 133 13 0) := by
        obtain ⟨h1, h2, ⟨h3, h4⟩, ⟨h5, h6, h7⟩, ⟨k1, k2, k3⟩, h8, h9⟩ := h
        exact ⟨h1.upF (by decide +kernel) (by decide +kernel), fun k a b => by rw [up_ne a]; exact h2 k a b, ⟨fun j hj => by rw [up_at (by omega)]; exact h3 j hj, by rw [up_at (by omega)]; exact h4⟩, ⟨by rw [up_at (by omega)]; exact h5, by rw [up_at (by omega)]; exact h6, by rw [up_at (by omega)]; exact h7⟩, ⟨by rw [up_at (by omega)]; exact k1, by rw [up_at (by omega)]; exact k2, by rw [up_at (by omega)]; exact k3⟩, fun w => ⟨up_it, by rw [up_at (by omega)]; exact (h8 w).2.1, by rw [up_at (by omega)]; exact (h8 w).2.2.1, fun i t' hi => by rw [up_ne (by omega)]; exact (h8 w).2.2.2 i t' hi⟩, fun w => absurd w f⟩
      refine bX12_need_0_1 hn h.1 c0 c (qX12_need_28 (d' := d - 1) (rest := []) hn (by omega) (by decide) (m_nextS (by omega) hn hT hk hp h') (fun v W hv => ?_))
      obtain ⟨rfl, hW⟩ := hv
      exact bX12_need_31_0 hn hW.1 ⟨rfl, hW⟩
theorem m_signHere {lev : Nat} {lo hi : Int32} (hd : 6 ≤ d) (hn : 146 ≤ n) (hT : TP X tb L) (hO : OkS tb L σ) (hl : lev < 5) (elo : lo = nI (lvLo lev)) (ehi : hi = nI (lvHi lev)) (h : MS n X L t b q pr σ Z) : Ex g mX12_signHere d n n [.ref 133, .int lo, .int hi] Z (rt (oI (hs tb lev σ)) Z) := by
  have hL := hT.1
  subst elo
  subst ehi
  have hlo : lvLo lev ≤ lvHi lev ∧ lvHi lev < 9 := by
    rcases (show lev = 0 ∨ lev = 1 ∨ lev = 2 ∨ lev = 3 ∨ lev = 4 by omega) with rfl | rfl | rfl | rfl | rfl <;> decide
  refine e_of vX12_signHere (Nat.le_of_ble_eq_true rfl) (cat_of rfl) (bX12_signHere_0_0 hn h.1 ?_)
  have hres : (if σ.2.2.2.1 = false ∧ σ.1 = 3 then fndN (lvLo lev) (tb σ.2.1) (lvHi lev + 1 - lvLo lev) else -1) = oI (hs tb lev σ) := by
    unfold hs
    by_cases c : σ.2.2.2.1 = false ∧ σ.1 = 3
    · rw [if_pos c, if_pos c]
      obtain ⟨o1, -, -⟩ := hO.i (by omega)
      have := (hT.2 σ.2.1 (by omega)).2.2
      exact fnd_sg lev hl _ (by omega)
    · rw [if_neg c, if_neg c]
      rfl
  have loop : ∀ m, m ≤ lvHi lev + 1 - lvLo lev → Ev g mX12_signHere d n n (rt (oI (hs tb lev σ)) Z) n 5 [some (.ref 133), some (.int (nI (lvLo lev))), some (.int (nI (lvHi lev))), some (.int (if σ.2.2.2.1 = false ∧ σ.1 = 3 then fndN (lvLo lev) (tb σ.2.1) m else -1)), some (.int (nI (lvLo lev + m)))] [] Z := by
    refine down ?_ ?_
    · rw [hres]
      exact bX12_signHere_5_1 hn h.1 (nI_lt (by omega) (by omega)) ⟨rfl, rfl⟩
    · intro m hm k
      have hlt : lvLo lev + m < 9 := by omega
      refine bX12_signHere_5_0 hn h.1 (fun w => by rw [nI_ltI (by omega) (by omega)] at w; omega) (qX12_signHere_16 (d' := d - 1) (rest := [.ref 133]) (t := 13) (by omega) hn (by omega) (by decide) (k_charAt (t := 13) (i := lvLo lev + m) (by omega) hn h.1 (by omega) (by show lvLo lev + m < 10; omega)) (fun v W hv => ?_))
      obtain ⟨rfl, hW⟩ := hv
      rw [hW, txC_13 _ hlt]
      refine qX12_signHere_19 (d' := d - 1) (rest := []) hn (by omega) (by decide) (m_isSign hn hT hO (by have := sgB_lt (lvLo lev + m); omega) h) (fun v W hv => ?_)
      obtain ⟨rfl, hW⟩ := hv
      rw [hW]
      rw [fndN_s, ← Nat.add_assoc, ← nI_1] at k
      by_cases c : (σ.2.2.2.1 = false ∧ σ.1 = 3) ∧ tb σ.2.1 = sgB (lvLo lev + m)
      · rw [if_pos c.1, if_pos c.2] at k
        rw [if_pos c]
        exact bX12_signHere_22_0 hn h.1 (by decide) k
      · rw [if_neg c]
        refine bX12_signHere_22_1 hn h.1 rfl ?_
        by_cases e : σ.2.2.2.1 = false ∧ σ.1 = 3
        · rw [if_pos e, if_neg (fun w => c ⟨e, w⟩)] at k
          rw [if_pos e]
          exact k
        · rw [if_neg e] at k
          rw [if_neg e]
          exact k
  have := loop 0 (by omega)
  rw [Nat.add_zero, show (if σ.2.2.2.1 = false ∧ σ.1 = 3 then fndN (lvLo lev) (tb σ.2.1) 0 else -1) = -1 by split <;> rfl] at this
  exact this
end LMS
