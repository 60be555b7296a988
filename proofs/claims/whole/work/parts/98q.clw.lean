/-! LAW, 18: the class reads the tape; its law. -/
section CLW
variable {g : GG} {d n : Nat} {X : LX} {tb : Nat → Nat} {L : Nat}
theorem c_readTape (hd : 110 ≤ d) (hn : 146 ≤ n) (hX : Sh n X) (hT : TP X tb L) (x1 : X 81 1 = nI L) : Ex g mX3_readTape d n n [.ref 81] X (fun v Y => v = none ∧ ∃ sp, ((lz2 tb L).2.2.2.1 = false → sp = nI (lz2 tb L).2.2.2.2.1.length) ∧ CS n X L 10 sp (lz2 tb L).2.2.2.2.1 (if (lz4 tb L).1 = 0 then lz4 tb L else fl (lz4 tb L)) Y) := by
  have hL := hT.1
  obtain ⟨o0, o1, o2, o3, o4⟩ := lz_ok (tb := tb) hL
  obtain ⟨t0, t1, h12⟩ := lz_12 (tb := tb) hL
  obtain ⟨t3, h3, h34⟩ := lz_34 (tb := tb) hL
  refine e_of vX3_readTape (Nat.le_of_ble_eq_true rfl) (cat_of rfl) (bX3_readTape_0_0 hn hX ?_)
  obtain ⟨H, hH⟩ : ∃ H : LX, H = lx_up (lx_up (lx_up (lx_up (lx_up (lx_up X 81 3 0) 81 5 0) 81 6 (-1)) 81 8 3) 81 10 0) 81 7 (rE 1000) := ⟨_, rfl⟩
  rw [← hH]
  have hHS : Sh n H := by rw [hH]; exact (((((hX.upF (by decide +kernel) (by decide +kernel)).upF (by decide +kernel) (by decide +kernel)).upF (by decide +kernel) (by decide +kernel)).upF (by decide +kernel) (by decide +kernel)).upF (by decide +kernel) (by decide +kernel)).upF (by decide +kernel) (by decide +kernel)
  have hk : ∀ k, k ≠ 81 → H k = X k := fun k hk => by rw [hH, up_ne hk, up_ne hk, up_ne hk, up_ne hk, up_ne hk, up_ne hk]
  have g1 : H 81 1 = nI L := by rw [hH, ← x1]; simp (disch := omega) only [up_at]
  have g4 : H 81 4 = X 81 4 := by rw [hH]; simp (disch := omega) only [up_at]
  have g3 : H 81 3 = 0 := by rw [hH]; simp (disch := omega) only [up_at, up_it]
  have g5 : H 81 5 = 0 := by rw [hH]; simp (disch := omega) only [up_at, up_it]
  have g6 : H 81 6 = -1 := by rw [hH]; simp (disch := omega) only [up_at, up_it]
  have g7 : H 81 7 = rE 1000 := by rw [hH, up_it]
  have g8 : H 81 8 = nI 3 := by rw [hH]; simp (disch := omega) only [up_at, up_it]; rfl
  have g10 : H 81 10 = nI 0 := by rw [hH]; simp (disch := omega) only [up_at, up_it]; rfl
  refine qX3_readTape_32 (d' := d - 1) (rest := []) hn (by omega) (by decide) (c_step (tb := tb) (L := L) (k := 3) (p := 0) (by omega) hn hHS hL (fun i hi => by rw [hk 82 (by omega)]; exact ⟨(hT.2 i hi).1, (hT.2 i hi).2.2⟩) g1 g8 (by omega) g10 (by omega)) (fun v W hv => ?_)
  obtain ⟨rfl, w1, w2, w3, w8, w9, w10⟩ := hv
  have hW : CS n X L 0 (X 81 4) [] (lz0 tb L) W := ⟨w1, fun k a b => (w2 k a).trans (hk k a), ⟨by rw [w3 1 (by omega) (by omega) (by omega)]; exact g1, by rw [w3 4 (by omega) (by omega) (by omega)]; exact g4, by rw [w3 7 (by omega) (by omega) (by omega)]; exact g7⟩, ⟨by rw [w8, lwK_30]; rfl, w9, w10⟩, fun _ => ⟨by rw [w3 6 (by omega) (by omega) (by omega)]; exact g6, by rw [w3 3 (by omega) (by omega) (by omega)]; exact g3, by rw [w3 5 (by omega) (by omega) (by omega)]; exact g5, fun i t hi => by rw [t0] at hi; exact absurd hi (by simp)⟩, fun z => absurd z Bool.false_ne_true⟩
  refine bX3_readTape_35_0 hn hW.1 (qX3_readTape_38 (d' := d - 1) (rest := []) hn (by omega) (by decide) (c_readWord (t' := 1) (m := 4) (w := wA) (by omega) hn hT o0 (by omega) rfl wA_tx (fun _ => by rw [t0]; exact Nat.zero_le _) hW) (fun v W1 hv => ?_))
  obtain ⟨rfl, hW1⟩ := hv
  have hW1 : CS n X L 0 (X 81 4) [] (lz1 tb L) W1 := hW1
  have hc := (c_pm (g := g) (X := X) (sp := X 81 4) (pr := []) (t := 0) hn hT nmA_lt (by omega) (by omega) (fun c hc => nmA_tx c (by omega)) 1000 (lz1 tb L) W1 0 0 o1 hW1 (hz_1 hL) (by omega) (by omega)).2.1 (d - 1) 0 (by omega) (by omega) (by omega)
  rw [show nI 0 = 0 from rfl] at hc
  refine bX3_readTape_41_0 hn hW1.1 (qX3_readTape_45 (d' := d - 1) (rest := []) hn (by omega) (by decide) hc (fun v W2 hv => ?_))
  obtain ⟨rfl, hW2⟩ := hv
  have hW2 : CS n X L 0 (X 81 4) [] (lz2 tb L) W2 := hW2
  refine bX3_readTape_48_0 hn hW2.1 ?_
  obtain ⟨V, hV⟩ : ∃ V : LX, V = lx_up (lx_up W2 81 4 (W2 81 3)) 81 7 (rE 1010) := ⟨_, rfl⟩
  rw [← hV]
  have hVC : CS n X L 10 (W2 81 3) (lz2 tb L).2.2.2.2.1 (rs (lz2 tb L)) V := by
    obtain ⟨c1, c2, ⟨c3, c4, c5⟩, ⟨e1, e2, e3⟩, c6, c7⟩ := hW2
    rw [hV]
    refine ⟨(c1.upF (by decide +kernel) (by decide +kernel)).upF (by decide +kernel) (by decide +kernel), fun k a b => by rw [up_ne a, up_ne a]; exact c2 k a b, ⟨by rw [up_at (by omega), up_at (by omega)]; exact c3, by rw [up_at (by omega), up_it], by rw [up_it]⟩, ⟨by rw [up_at (by omega), up_at (by omega)]; exact e1, by rw [up_at (by omega), up_at (by omega)]; exact e2, by rw [up_at (by omega), up_at (by omega)]; exact e3⟩, fun z => ?_, fun z => ?_⟩
    · obtain ⟨f1, f2, f3, f4⟩ := c6 z
      refine ⟨by rw [up_at (by omega), up_at (by omega)]; exact f1, ?_, by rw [up_at (by omega), up_at (by omega)]; exact f3, fun i t hi => ?_⟩
      · rw [up_at (by omega), up_at (by omega), f2]
        show nI (0 + (lz2 tb L).2.2.2.2.1.length) = nI ((lz2 tb L).2.2.2.2.1.length + 0)
        rw [Nat.zero_add, Nat.add_zero]
      · have hi : ((lz2 tb L).2.2.2.2.1 ++ [])[i]? = some t := hi
        rw [List.append_nil] at hi
        rw [up_ne (by omega), up_ne (by omega)]
        exact f4 i t (by rw [List.nil_append]; exact hi)
    · obtain ⟨f1, f2⟩ := c7 z
      exact ⟨by rw [up_at (by omega), up_at (by omega)]; exact f1, by rw [up_at (by omega), up_at (by omega)]; exact f2⟩
  have hsp : (lz2 tb L).2.2.2.1 = false → W2 81 3 = nI (lz2 tb L).2.2.2.2.1.length := fun z => by
    rw [(hW2.2.2.2.2.1 z).2.1]
    show nI (0 + (lz2 tb L).2.2.2.2.1.length) = _
    rw [Nat.zero_add]
  refine qX3_readTape_65 (d' := d - 1) (rest := []) hn (by omega) (by decide) (c_readWord (t' := 11) (m := 3) (w := wI) (by omega) hn hT (σ := rs (lz2 tb L)) o2 (by omega) rfl wI_tx (fun z => by have := (h12 z).1; have := o2.1; show (lz2 tb L).2.2.2.2.1.length + 0 ≤ 120; omega) hVC) (fun v W3 hv => ?_)
  obtain ⟨rfl, hW3⟩ := hv
  have hW3 : CS n X L 10 (W2 81 3) (lz2 tb L).2.2.2.2.1 (lz3 tb L) W3 := hW3
  have hc2 := (c_pm (g := g) (X := X) (sp := W2 81 3) (pr := (lz2 tb L).2.2.2.2.1) (t := 10) hn hT nmB_lt (by omega) (by omega) (fun c hc => nmB_tx c (by omega)) 1000 (lz3 tb L) W3 0 0 o3 hW3 (hz_3 hL (e := 0) (by omega)) (by omega) (by omega)).2.1 (d - 1) 0 (by omega) (by omega) (by omega)
  rw [show nI 0 = 0 from rfl] at hc2
  refine bX3_readTape_68_0 hn hW3.1 (qX3_readTape_72 (d' := d - 1) (rest := []) hn (by omega) (by decide) hc2 (fun v W4 hv => ?_))
  obtain ⟨rfl, hW4⟩ := hv
  have hW4 : CS n X L 10 (W2 81 3) (lz2 tb L).2.2.2.2.1 (lz4 tb L) W4 := hW4
  have i0 : (W4 81 8 = 0) ↔ (lz4 tb L).1 = 0 := by rw [hW4.2.2.2.1.1]; exact nI_eq (b := 0) (by have := o4.k4; omega) (by omega)
  by_cases c : (lz4 tb L).1 = 0
  · rw [if_pos c]
    exact bX3_readTape_75_1 hn hW4.1 (i0.mpr c) ⟨rfl, _, hsp, hW4⟩
  · rw [if_neg c]
    refine bX3_readTape_75_0 hn hW4.1 (fun z => c (i0.mp z)) (qX3_readTape_83 (d' := d - 1) (rest := []) hn (by omega) (by decide) (c_fail hn (by have := o4.1; omega) (fun z => by have := (h34 z).2.1; omega) hW4) (fun v W5 hv => ?_))
    obtain ⟨rfl, hW5⟩ := hv
    exact bX3_readTape_86_0 hn hW5.1 ⟨rfl, _, hsp, hW5⟩
def lzF (tb : Nat → Nat) (L : Nat) : Prop := (lz4 tb L).2.2.2.1 = true ∨ ¬ (lz4 tb L).1 = 0
def LQ (n : Nat) (X : LX) (tb : Nat → Nat) (L : Nat) (r : Int32) (Y : LX) : Prop := Sh n Y ∧ (∀ k, k ≠ 77 → k ≠ 78 → k ≠ 81 → k ≠ 83 → Y k = X k) ∧ Y 81 1 = 0 ∧ (lzF tb L → r = -100 - nI (lz4 tb L).2.1 ∧ Y 77 = X 77 ∧ Y 78 = X 78) ∧ (¬ lzF tb L → r = nI (lz4 tb L).2.2.2.2.2 ∧ Y 77 0 = 1 ∧ Y 77 1 = nI ((lz2 tb L).2.2.2.2.1.length + (lz4 tb L).2.2.2.2.1.length) ∧ Y 77 2 = nI (lz2 tb L).2.2.2.2.1.length ∧ ∀ i t, ((lz2 tb L).2.2.2.2.1 ++ (lz4 tb L).2.2.2.2.1)[i]? = some t → Y 78 i = cTk t)
theorem c_law (hn : 146 ≤ n) (hX : Sh n X) (hT : TP X tb L) (x1 : X 81 1 = nI L) : Ex g mX11_law 200 n n [.ref 0] X (fun v Y => ∃ r, v = some (.int r) ∧ LQ n X tb L r Y) := by
  have hL := hT.1
  obtain ⟨o0, o1, o2, o3, o4⟩ := lz_ok (tb := tb) hL
  obtain ⟨t3, h3, h34⟩ := lz_34 (tb := tb) hL
  refine e_of vX11_law (Nat.le_of_ble_eq_true rfl) (cat_of rfl) (bX11_law_0_0 hn hX (qX11_law_4 (d' := 150) (rest := []) hn (by omega) (by decide) (c_readTape (by omega) hn hX hT x1) (fun v Y hv => ?_)))
  obtain ⟨rfl, sp, hsp, hY⟩ := hv
  by_cases hF : lzF tb L
  · have hft : (if (lz4 tb L).1 = 0 then lz4 tb L else fl (lz4 tb L)).2.2.2.1 = true ∧ (if (lz4 tb L).1 = 0 then lz4 tb L else fl (lz4 tb L)).2.1 = (lz4 tb L).2.1 := by
      by_cases c : (lz4 tb L).1 = 0
      · rw [if_pos c]
        rcases hF with w | w
        · exact ⟨w, rfl⟩
        · exact absurd c w
      · rw [if_neg c]
        exact ⟨rfl, rfl⟩
    have e6 := (hY.2.2.2.2.2 hft.1).1
    rw [hft.2] at e6
    have := o4.1
    exact bX11_law_7_0 hn hY.1 (by rw [e6]; exact nI_pos (by omega)) ⟨_, rfl, hY.1.upF (by decide +kernel) (by decide +kernel), fun k a b c e => by rw [up_ne c]; exact hY.2.1 k c e, up_it, fun _ => ⟨by rw [e6], by rw [up_ne (by omega)]; exact hY.2.1 77 (by omega) (by omega), by rw [up_ne (by omega)]; exact hY.2.1 78 (by omega) (by omega)⟩, fun w => absurd hF w⟩
  · have k0 : (lz4 tb L).1 = 0 := Classical.byContradiction (fun w => hF (Or.inr w))
    have f0 : (lz4 tb L).2.2.2.1 = false := bf (fun w => hF (Or.inl w))
    rw [if_pos k0] at hY
    obtain ⟨f3, z7, -⟩ := h34 f0
    have hsp := hsp (h3 f3).1
    obtain ⟨y1, y2, ⟨y3, y4, y5⟩, -, y6, -⟩ := hY
    obtain ⟨a1, a2, a3, a4⟩ := y6 f0
    refine bX11_law_7_1 hn y1 (by rw [a1]; decide) ?_
    rw [a2, y4, hsp]
    obtain ⟨z, ez⟩ : ∃ z, z = (lz2 tb L).2.2.2.2.1.length + (lz4 tb L).2.2.2.2.1.length := ⟨_, rfl⟩
    obtain ⟨y, ey⟩ : ∃ y, y = (lz2 tb L).2.2.2.2.1.length := ⟨_, rfl⟩
    rw [← ez, ← ey]
    have i1 : (if (120 : Int32) < nI z then (120 : Int32) else nI z) = nI z := if_neg (fun w => by have h : nI 120 < nI z := w; rw [nI_ltI (by omega) (by omega)] at h; omega)
    have i2 : (if nI z < nI y then nI z else nI y) = nI y := if_neg (fun w => by rw [nI_ltI (by omega) (by omega)] at w; omega)
    obtain ⟨V, hV⟩ : ∃ V : LX, V = lx_up Y 81 1 0 := ⟨_, rfl⟩
    rw [← hV]
    have hVS : Sh n V := by rw [hV]; exact y1.upF (by decide +kernel) (by decide +kernel)
    obtain ⟨H, hH⟩ : ∃ H : LX, H = lx_up (lx_up (lx_up (lx_row V 78 (va_cpy (V 83) (V 78) 0 0 120)) 77 1 (nI z)) 77 2 (nI y)) 77 0 1 := ⟨_, rfl⟩
    have hHS : Sh n H := by
      rw [hH]
      exact (((hVS.row (by decide +kernel)).upF (by decide +kernel) (by decide +kernel)).upF (by decide +kernel) (by decide +kernel)).upF (by decide +kernel) (by decide +kernel)
    have hE : Ex g mX2_takeCode 150 n n [.ref 77, .ref 83, .int (nI z), .int (nI y)] V (rv H) := by
      refine e_of vX2_takeCode (Nat.le_of_ble_eq_true rfl) (cat_of rfl) (bX2_takeCodeL_0_0 (by omega) hn hVS ⟨rfl, ?_⟩)
      rw [i1, i2, hH]
    refine qX11_law_64 (d' := 150) (rest := []) hn (by omega) (by decide) hE (fun v W hv => ?_)
    obtain ⟨rfl, hW⟩ := hv
    rw [hW]
    have hk : ∀ k, k ≠ 77 → k ≠ 78 → H k = V k := fun k a b => by rw [hH, up_ne a, up_ne a, up_ne a, lx_row_ne _ _ _ b]
    have vk : ∀ k, k ≠ 81 → V k = Y k := fun k a => by rw [hV, up_ne a]
    refine bX11_law_67_0 hn hHS ⟨_, rfl, hHS, fun k a b c e => by rw [hk k a b, vk k c]; exact y2 k c e, by rw [hk 81 (by omega) (by omega), hV, up_it], fun w => absurd w hF, fun _ => ⟨by rw [hk 81 (by omega) (by omega), hV, up_at (by omega)]; exact a3, by rw [hH, up_it], by rw [hH, up_at (by omega), up_at (by omega), up_it, ez], by rw [hH, up_at (by omega), up_it, ey], fun i t hi => ?_⟩⟩
    have hlt := get_lt hi
    rw [List.length_append] at hlt
    rw [hH, up_ne (by omega), up_ne (by omega), up_ne (by omega), lx_row_self, sb_cpy0 (by omega), vk 83 (by omega)]
    exact a4 i t hi
end CLW
