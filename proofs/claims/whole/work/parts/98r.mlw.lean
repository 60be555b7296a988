/-! LAW, 19: the model's law. -/
section MLW
variable {g : GG} {d n : Nat} {X : LX} {tb : Nat → Nat} {L t b q : Nat} {pr : List Int32} {σ : RdS} {W : LX}
theorem MS.u16 {e : Nat} {v : Int32} (h : MS n X L t b q pr σ W) (hv : v = rE (1000 + e)) : MS n X L e b q pr σ (lx_up W 133 16 v) := by
  obtain ⟨h1, h2, ⟨h3, h4⟩, ⟨h5, h6, h7⟩, ⟨k1, k2, k3⟩, h8, h9⟩ := h
  exact ⟨h1.upF (by decide +kernel) (by decide +kernel), fun k a b => by rw [up_ne a]; exact h2 k a b, ⟨fun j hj => by rw [up_at (by omega)]; exact h3 j hj, by rw [up_at (by omega)]; exact h4⟩, ⟨by rw [up_at (by omega)]; exact h5, by rw [up_at (by omega)]; exact h6, by rw [up_it]; exact hv⟩, ⟨by rw [up_at (by omega)]; exact k1, by rw [up_at (by omega)]; exact k2, by rw [up_at (by omega)]; exact k3⟩, fun w => ⟨by rw [up_at (by omega)]; exact (h8 w).1, by rw [up_at (by omega)]; exact (h8 w).2.1, by rw [up_at (by omega)]; exact (h8 w).2.2.1, fun i t' hi => by rw [up_ne (by omega)]; exact (h8 w).2.2.2 i t' hi⟩, fun w => by rw [up_at (by omega)]; exact h9 w⟩
def LC2 (tb : Nat → Nat) (L : Nat) : List Int32 := (lz2 tb L).2.2.2.2.1.map mTk ++ [300000]
def LC4 (tb : Nat → Nat) (L : Nat) : List Int32 := (LC2 tb L ++ (lz4 tb L).2.2.2.2.1.map mTk) ++ [300000]
def LMQ (n : Nat) (X : LX) (tb : Nat → Nat) (L : Nat) (v : Option Value) (V : LX) : Prop := Sh n V ∧ (∀ k, k ≠ 133 → k ≠ 134 → k ≠ 141 → V k = X k) ∧ (∀ j, j < 10 → j ≠ 4 → V 133 j = X 133 j) ∧ V 133 4 = 0 ∧ (lzF tb L → v = some (.int (-100 - nI (lz4 tb L).2.1)) ∧ V 134 = X 134) ∧ (¬ lzF tb L → v = some (.int (nI (lz4 tb L).2.2.2.2.2)) ∧ V 134 2 = 1 ∧ (∀ t, t ≠ 2 → t < 2028 → V 134 t = X 134 t) ∧ ∀ i c, (LC4 tb L)[i]? = some c → V 134 (2028 + i) = c)
theorem m_law (hn : 146 ≤ n) (hX : Sh n X) (hT : TP X tb L) (x4 : X 133 4 = nI L) : Ex g mX12_law 200 n n [.ref 133] X (LMQ n X tb L) := by
  have hL := hT.1
  obtain ⟨o0, o1, o2, o3, o4⟩ := lz_ok (tb := tb) hL
  obtain ⟨t0, t1, h12⟩ := lz_12 (tb := tb) hL
  obtain ⟨t3, h3, h34⟩ := lz_34 (tb := tb) hL
  refine e_of vX12_law (Nat.le_of_ble_eq_true rfl) (cat_of rfl) (bX12_law_0_0 hn hX ?_)
  obtain ⟨H, hH⟩ : ∃ H : LX, H = lx_up (lx_up (lx_up (lx_up (lx_up (lx_up (lx_up X 133 11 0) 133 12 0) 133 13 0) 133 14 0) 133 15 0) 133 18 0) 133 19 0 := ⟨_, rfl⟩
  rw [← hH]
  have hHS : Sh n H := by rw [hH]; exact ((((((hX.upF (by decide +kernel) (by decide +kernel)).upF (by decide +kernel) (by decide +kernel)).upF (by decide +kernel) (by decide +kernel)).upF (by decide +kernel) (by decide +kernel)).upF (by decide +kernel) (by decide +kernel)).upF (by decide +kernel) (by decide +kernel)).upF (by decide +kernel) (by decide +kernel)
  have hk : ∀ k, k ≠ 133 → H k = X k := fun k hk => by rw [hH, up_ne hk, up_ne hk, up_ne hk, up_ne hk, up_ne hk, up_ne hk, up_ne hk]
  have hj : ∀ j, j < 10 → H 133 j = X 133 j := fun j hj => by rw [hH]; simp (disch := omega) only [up_at]
  have g11 : H 133 11 = nI 0 := by rw [hH]; simp (disch := omega) only [up_at, up_it]; rfl
  have g12 : H 133 12 = nI 0 := by rw [hH]; simp (disch := omega) only [up_at, up_it]; rfl
  have g13 : H 133 13 = 0 := by rw [hH]; simp (disch := omega) only [up_at, up_it]
  have g14 : H 133 14 = nI 0 := by rw [hH]; simp (disch := omega) only [up_at, up_it]; rfl
  have g15 : H 133 15 = nI 0 := by rw [hH]; simp (disch := omega) only [up_at, up_it]; rfl
  have g18 : H 133 18 = nI 0 := by rw [hH]; simp (disch := omega) only [up_at, up_it]; rfl
  have g19 : H 133 19 = nI 0 := by rw [hH]; simp (disch := omega) only [up_at, up_it]; rfl
  refine qX12_law_36 (d' := 150) (rest := []) hn (by omega) (by decide) (m_next (tb := tb) (L := L) (k := 0) (p := 0) (by omega) hn hHS hL (fun i hi => by rw [hk 136 (by omega)]; exact (hT.2 i hi).2) (by rw [hj 4 (by omega)]; exact x4) g12 (by omega) g11 (by omega)) (fun v W hv => ?_)
  obtain ⟨rfl, w1, w2, w3, w12, w10, w11⟩ := hv
  refine bX12_law_39_0 hn w1 ?_
  have hW : MS n X L 0 0 0 [] (lz0 tb L) (lx_up W 133 16 (rE 1000)) := ⟨w1.upF (by decide +kernel) (by decide +kernel), fun k a b => by rw [up_ne a, w2 k a, hk k a], ⟨fun j h10 => by rw [up_at (by omega), w3 j (by omega) (by omega) (by omega)]; exact hj j h10, by rw [up_at (by omega), w3 4 (by omega) (by omega) (by omega), hj 4 (by omega)]; exact x4⟩, ⟨by rw [up_at (by omega), w3 14 (by omega) (by omega) (by omega)]; exact g14, by rw [up_at (by omega), w3 15 (by omega) (by omega) (by omega)]; exact g15, up_it⟩, ⟨by rw [up_at (by omega), w12]; rfl, by rw [up_at (by omega), w10]; rfl, by rw [up_at (by omega), w11]; rfl⟩, fun _ => ⟨by rw [up_at (by omega), w3 13 (by omega) (by omega) (by omega)]; exact g13, by rw [up_at (by omega), w3 18 (by omega) (by omega) (by omega)]; exact g18, by rw [up_at (by omega), w3 19 (by omega) (by omega) (by omega)]; exact g19, fun i t hi => by rw [t0] at hi; exact absurd hi (by simp)⟩, fun z => absurd z Bool.false_ne_true⟩
  refine qX12_law_48 (d' := 150) (rest := []) hn (by omega) (by decide) (m_word (t' := 1) (m := 4) (w := wA) (by omega) hn hT o0 (by omega) rfl wA_tx hW) (fun v W1 hv => ?_)
  obtain ⟨rfl, hW1⟩ := hv
  have hW1 : MS n X L 0 0 0 [] (lz1 tb L) W1 := hW1
  have hc : Ex g mX12_either 150 n n [.ref 133] W1 (msQ n X L 0 0 0 [] (lz2 tb L)) := (m_pm (g := g) (X := X) (pr := []) (t := 0) hn hT nmA_lt (by omega) (by omega) (fun c hc => nmA_tx c (by omega)) 1000 (lz1 tb L) W1 0 0 o1 hW1 (hz_1 hL) (by omega) (by omega)).1 150 0 (by omega) (by omega) (by omega)
  refine bX12_law_51_0 hn hW1.1 (qX12_law_52 (d' := 150) (rest := []) hn (by omega) (by decide) hc (fun v W2 hv => ?_))
  obtain ⟨rfl, hW2⟩ := hv
  have hp2 := m_put (g := g) (d := 150) (v := 300000) (pr' := LC2 tb L) (T' := []) hn (fun z => by have := (h12 z).1; have := o2.1; show 0 + (lz2 tb L).2.2.2.2.1.length < 128; omega) (by rw [List.map_nil, List.append_nil, List.nil_append]; rfl) hW2
  refine bX12_law_55_0 hn hW2.1 (qX12_law_58 (d' := 150) (rest := []) hn (by omega) (by decide) hp2 (fun v W3 hv => ?_))
  obtain ⟨rfl, hW3⟩ := hv
  have hW3 : MS n X L 0 0 0 (LC2 tb L) (rs (lz2 tb L)) W3 := hW3
  have hW3' : MS n X L 10 0 0 (LC2 tb L) (rs (lz2 tb L)) (lx_up W3 133 16 (rE 1010)) := hW3.u16 rfl
  refine bX12_law_61_0 hn hW3.1 (qX12_law_70 (d' := 150) (rest := []) hn (by omega) (by decide) (m_word (t' := 11) (m := 3) (w := wI) (by omega) hn hT (σ := rs (lz2 tb L)) o2 (by omega) rfl wI_tx hW3') (fun v W4 hv => ?_))
  obtain ⟨rfl, hW4⟩ := hv
  have hW4 : MS n X L 10 0 0 (LC2 tb L) (lz3 tb L) W4 := hW4
  have l2 : (LC2 tb L).length = (lz2 tb L).2.2.2.2.1.length + 1 := by
    unfold LC2
    rw [List.length_append, List.length_map, List.length_singleton]
  have hz3 : HZ (LC2 tb L).length 0 (lz3 tb L) := by
    rw [l2]
    exact hz_3 hL (by omega)
  have hc4 : Ex g mX12_either 150 n n [.ref 133] W4 (msQ n X L 10 0 0 (LC2 tb L) (lz4 tb L)) := (m_pm (g := g) (X := X) (pr := LC2 tb L) (t := 10) hn hT nmB_lt (by omega) (by omega) (fun c hc => nmB_tx c (by omega)) 1000 (lz3 tb L) W4 0 0 o3 hW4 hz3 (by omega) (by omega)).1 150 0 (by omega) (by omega) (by omega)
  refine bX12_law_73_0 hn hW4.1 (qX12_law_74 (d' := 150) (rest := []) hn (by omega) (by decide) hc4 (fun v W5 hv => ?_))
  obtain ⟨rfl, hW5⟩ := hv
  have hp4 := m_put (g := g) (d := 150) (v := 300000) (pr' := LC4 tb L) (T' := []) hn (fun z => by have := (h34 z).2.1; rw [l2]; omega) (by rw [List.map_nil, List.append_nil]; rfl) hW5
  refine bX12_law_77_0 hn hW5.1 (qX12_law_80 (d' := 150) (rest := []) hn (by omega) (by decide) hp4 (fun v W6 hv => ?_))
  obtain ⟨rfl, hW6⟩ := hv
  have hW6 : MS n X L 10 0 0 (LC4 tb L) (rs (lz4 tb L)) W6 := hW6
  obtain ⟨y1, y2, ⟨y3, -⟩, -, ⟨e1, e2, e3⟩, y8, y9⟩ := hW6
  have hk4 := o4.k4
  have i0 : (W6 133 12 = 0) ↔ (lz4 tb L).1 = 0 := by rw [e1]; exact nI_eq (b := 0) (by show (lz4 tb L).1 < 2 ^ 31; omega) (by omega)
  have hfl : lzF tb L → LMQ n X tb L (some (.int (-100 - W6 133 10))) (lx_up (lx_up W6 133 13 1) 133 4 0) := fun hF => ⟨(y1.upF (by decide +kernel) (by decide +kernel)).upF (by decide +kernel) (by decide +kernel), fun k a b c => by rw [up_ne a, up_ne a]; exact y2 k a c, fun j a b => by rw [up_at b, up_at (by omega)]; exact y3 j a, up_it, fun _ => ⟨by rw [e2]; rfl, by rw [up_ne (by omega), up_ne (by omega)]; exact y2 134 (by omega) (by omega)⟩, fun w => absurd hF w⟩
  by_cases f : (lz4 tb L).2.2.2.1 = true
  · exact bX12_law_83_2 hn y1 (by rw [y9 f]; decide) (hfl (Or.inl f))
  · have hf := bf f
    obtain ⟨a1, a2, a3, a4⟩ := y8 hf
    by_cases c : (lz4 tb L).1 = 0
    · have hF : ¬ lzF tb L := fun w => by rcases w with w | w; exact f w; exact w c
      obtain ⟨V, hV⟩ : ∃ V : LX, V = lx_up (lx_up W6 133 13 0) 133 4 0 := ⟨_, rfl⟩
      have hVS : Sh n V := by rw [hV]; exact (y1.upF (by decide +kernel) (by decide +kernel)).upF (by decide +kernel) (by decide +kernel)
      have vk : ∀ k, k ≠ 133 → V k = W6 k := fun k a => by rw [hV, up_ne a, up_ne a]
      have vj : ∀ j, j ≠ 4 → j ≠ 13 → V 133 j = W6 133 j := fun j a b => by rw [hV, up_at a, up_at b]
      have hlen : (LC4 tb L).length = (lz2 tb L).2.2.2.2.1.length + (lz4 tb L).2.2.2.2.1.length + 2 := by
        unfold LC4
        rw [List.length_append, List.length_append, List.length_map, List.length_singleton, l2]
        omega
      have h7 := (h34 hf).2.1
      have v18 : V 133 18 = nI (LC4 tb L).length := by
        rw [vj 18 (by omega) (by omega), a2]
        rfl
      have loop : ∀ r i (U : LX), i + r = (LC4 tb L).length → Sh n U → (∀ k, k ≠ 134 → U k = V k) → (∀ t, t < 2028 → U 134 t = V 134 t) → (∀ j, j < i → U 134 (2028 + j) = V 141 j) → Ev g mX12_law 200 n n (LMQ n X tb L) n 130 [some (.ref 133), some (.int (W6 133 10)), some (.int (nI i))] [] U := by
        intro r
        induction r with
        | zero =>
          intro i U hi hU u1 u2 u3
          refine bX12_law_130_1 hn hU (by rw [u1 133 (by omega), v18]; exact nI_le (by omega) (by omega)) ⟨hU.upA (by decide +kernel), fun k a b c => by rw [up_ne b, u1 k b, vk k a]; exact y2 k a c, fun j a b => by rw [up_ne (by omega), u1 133 (by omega), vj j b (by omega)]; exact y3 j a, by rw [up_ne (by omega), u1 133 (by omega), hV, up_it], fun w => absurd w hF, fun _ => ⟨by rw [u1 133 (by omega), vj 19 (by omega) (by omega), a3]; rfl, up_it, fun t a b => by rw [up_at a, u2 t b, vk 134 (by omega)]; rw [y2 134 (by omega) (by omega)], fun j c hjc => ?_⟩⟩
          have hlt : j < (LC4 tb L).length := by
            refine Classical.byContradiction (fun w => ?_)
            rw [List.getElem?_eq_none (by omega)] at hjc
            cases hjc
          rw [up_at (by omega), u3 j (by omega), vk 141 (by omega)]
          refine a4 j c ?_
          show (LC4 tb L ++ [])[j]? = some c
          rw [List.append_nil]
          exact hjc
        | succ r ih =>
          intro i U hi hU u1 u2 u3
          refine bX12_law_130_0 hn hU (by rw [u1 133 (by omega), v18]; exact nI_ge (by omega) (by omega)) (by omega) (by omega) ?_
          rw [nI_1]
          refine ih (i + 1) _ (by omega) (hU.upA (by decide +kernel)) (fun k a => by rw [up_ne a]; exact u1 k a) (fun t a => by rw [up_at (by omega)]; exact u2 t a) (fun j hj => ?_)
          by_cases z : j = i
          · rw [z, up_it, u1 141 (by omega)]
          · rw [up_at (by omega)]
            exact u3 j (by omega)
      refine bX12_law_83_1 hn y1 a1 (i0.mpr c) ?_
      rw [← hV]
      exact loop (LC4 tb L).length 0 V (by omega) hVS (fun k _ => rfl) (fun t _ => rfl) (fun j hj => absurd hj (Nat.not_lt_zero _))
    · exact bX12_law_83_0 hn y1 a1 (fun z => c (i0.mp z)) (hfl (Or.inr c))
end MLW
