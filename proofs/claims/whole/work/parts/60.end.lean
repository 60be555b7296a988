/-! THE CALLS, 20: end. -/
abbrev spC (X : LX) (l : Nat) : Prop := X 1 5 < X 72 l + X 7 (ix (X 70 l))
def endC (X : LX) : Nat → LX
  | 0 => X
  | l + 1 => if spC X l then endC X l else thC (endC X l) l
abbrev spM (A : Nat → Int32) (l : Nat) : Prop := A 0 < A (628 + 5 * l + 2) + A (10 + 8 * ix (A (628 + 5 * l + 0)) + 4)
def endM (A : Nat → Int32) : Nat → Nat → Int32
  | 0 => A
  | l + 1 => if spM A l then endM A l else thM (endM A l) l
theorem endC_s (X : LX) (l : Nat) : endC X (l + 1) = if spC X l then endC X l else thC (endC X l) l := rfl
theorem endM_s (A : Nat → Int32) (l : Nat) : endM A (l + 1) = if spM A l then endM A l else thM (endM A l) l := rfl
theorem endC_o {X : LX} {k : Nat} (h : k ≠ 73 ∧ k ≠ 76) : ∀ {i : Nat}, endC X i k = X k
  | 0 => rfl
  | i + 1 => by
    unfold endC
    by_cases c : spC X i
    · rw [if_pos c]; exact endC_o h
    · rw [if_neg c, thC_o h]; exact endC_o h
theorem endM_o {A : Nat → Int32} (hq : ∀ l, l < 40 → ix (A (628 + 5 * l + 0)) < 14) {t : Nat} (h : (t < 10 ∨ 122 ≤ t ∨ (t - 10) % 8 ≠ 7) ∧ (t < 628 ∨ 828 ≤ t ∨ (t - 628) % 5 ≠ 3)) : ∀ {i : Nat}, i ≤ 40 → endM A i t = A t
  | 0, _ => rfl
  | i + 1, hi => by
    unfold endM
    by_cases c : spM A i
    · rw [if_pos c]; exact endM_o hq h (by omega)
    · have e : endM A i (628 + 5 * i + 0) = A (628 + 5 * i + 0) := endM_o hq (by omega) (by omega)
      rw [if_neg c, thM_o h (by omega) (by rw [e]; exact hq i (by omega))]
      exact endM_o hq h (by omega)
def ewC (Z : LX) : LX := lx_row (lx_up (lx_up (lx_up Z 1 5 (Z 1 5 + 1)) 1 6 0) 1 8 0) 42 (fillTo (lx_up (lx_up (lx_up Z 1 5 (Z 1 5 + 1)) 1 6 0) 1 8 0 42) 0 12)
def ewM (Z : LX) : LX := lx_up (lx_up (lx_up Z 134 0 (Z 134 0 + 1)) 134 3 0) 134 8 0
section ENDS2
variable {LR : LX → (Nat → Int32) → Prop} {g : GG} {d n : Nat} {X : LX} {post : Option Value → LX → Prop}
theorem Sh.ends (hX : Sh n X) : ∀ {i : Nat}, Sh n (endC X i)
  | 0 => hX
  | i + 1 => by
    unfold endC
    by_cases c : spC X i
    · rw [if_pos c]; exact Sh.ends hX
    · rw [if_neg c]; exact (Sh.ends hX).th
theorem c_X1_endWeek {L : Nat} (hd : 1 ≤ d) (hn : 146 ≤ n) (hX : Sh n X) (hL : L ≤ 40) (eL : X 69 0 = nI L) (hp : ∀ l, l < 40 → ∃ p, p < 14 ∧ X 70 l = nI p) : Ex g mX1_endWeek d n n [.ref 1] X (rv (ewC (endC X L))) := by
  refine e_of vX1_endWeek (Nat.le_of_ble_eq_true rfl) (cat_of rfl) (bX1_endWeek_0_0 hn hX ?_)
  have loop : ∀ i, i ≤ L → Ev g mX1_endWeek d n n (rv (ewC (endC X L))) n 2 [some (.ref 1), some (.int (nI i))] [] (endC X i) := by
    refine down ?_ ?_
    · exact bX1_endWeek_2_2 hd hn hX.ends (by rw [endC_o (by omega), eL]; exact Int32.le_refl _) ⟨rfl, rfl⟩
    · intro i hi k
      obtain ⟨p, hp1, hp2⟩ := hp i (by omega)
      rw [show nI (i + 1) = nI i + 1 from (nI_1 i).symm] at k
      have c0 : ¬ endC X i 69 0 ≤ nI i := by rw [endC_o (by omega), eL]; exact nI_ge hi (by omega)
      have e70 : endC X i 70 i = nI p := by rw [endC_o (by omega), hp2]
      rw [endC_s] at k
      by_cases c : spC X i
      · rw [if_pos c] at k
        refine bX1_endWeek_2_1 hn hX.ends c0 (by omega) e70 hp1 ?_ k
        rw [endC_o (by omega), endC_o (by omega), endC_o (by omega)]
        unfold spC at c
        rw [hp2, ix_nI (by omega)] at c
        exact c
      · rw [if_neg c] at k
        refine bX1_endWeek_2_0 hn hX.ends c0 (by omega) e70 hp1 ?_ (qX1_endWeek_52 (d' := 0) (rest := []) hn (by omega) (by decide) (c_X4_throwLeft hn hX.ends (by omega) hp1 e70) (fun v Z hv => ?_))
        · rw [endC_o (by omega), endC_o (by omega), endC_o (by omega)]
          unfold spC at c
          rw [hp2, ix_nI (by omega)] at c
          exact c
        · obtain ⟨rfl, rfl⟩ := hv
          exact bX1_endWeek_55_0 hn hX.ends.th k
  exact loop 0 (Nat.zero_le _)
theorem end_loop2 {F : Nat} (hd : 1 ≤ d) (hn : 146 ≤ n) (hX : Sh n X) (hF : F ≤ 12) (e6 : X 134 6 = nI F) (hp : post (some (.int (X 134 0))) (lx_row X 134 (chz (X 134) F))) : Ev g mX12_end d n n post n 104 [some (.ref 133), some (.int 0)] [] X := by
  have loop : ∀ i, i ≤ F → Ev g mX12_end d n n post n 104 [some (.ref 133), some (.int (nI i))] [] (lx_row X 134 (chz (X 134) i)) := by
    have e : ∀ i, lx_row X 134 (chz (X 134) i) 134 6 = nI F := fun i => by rw [lx_row_self, chz_o (by omega), e6]
    refine down ?_ ?_
    · exact bX12_end_104_1 hn (hX.row (by decide +kernel)) (by rw [e]; exact nI_le (by omega) (by omega)) (by rw [lx_row_self, chz_o (by omega)]; exact hp)
    · intro i hi k
      rw [show nI (i + 1) = nI i + 1 from (nI_1 i).symm, ← chz_s, ← lx_row_up] at k
      exact bX12_end_104_0 hd hn (hX.row (by decide +kernel)) (by rw [e]; exact nI_ge hi (by omega)) (by omega) k
  have h := loop 0 (by omega)
  rw [chz_0, lx_row_id] at h
  exact h
theorem c_X12_end {L F : Nat} (hd : 2 ≤ d) (hn : 146 ≤ n) (hX : Sh n X) (hL : L ≤ 40) (eL : X 134 7 = nI L) (hF : F ≤ 12) (eF : X 134 6 = nI F) (hne : ¬ X 134 0 = 99) (hp : ∀ l, l < 40 → ∃ p, p < 14 ∧ X 134 (628 + 5 * l + 0) = nI p) : Ex g mX12_end d n n [.ref 133] X (rt (X 134 0 + 1) (lx_row (ewM (lx_row X 134 (endM (X 134) L))) 134 (chz (ewM (lx_row X 134 (endM (X 134) L)) 134) F))) := by
  have hq : ∀ l, l < 40 → ix (X 134 (628 + 5 * l + 0)) < 14 := fun l hl => by
    obtain ⟨p, h1, h2⟩ := hp l hl
    rw [h2, ix_nI (by omega)]; exact h1
  refine e_of vX12_end (Nat.le_of_ble_eq_true rfl) (cat_of rfl) (bX12_end_0_1 hn hX hne ?_)
  have hSr : ∀ i, Sh n (lx_row X 134 (endM (X 134) i)) := fun i => hX.row (by decide +kernel)
  have e : ∀ i, i ≤ 40 → ∀ t, (t < 10 ∨ 122 ≤ t ∨ (t - 10) % 8 ≠ 7) ∧ (t < 628 ∨ 828 ≤ t ∨ (t - 628) % 5 ≠ 3) → lx_row X 134 (endM (X 134) i) 134 t = X 134 t := fun i hi t ht => by rw [lx_row_self, endM_o hq ht hi]
  have loop : ∀ i, i ≤ L → Ev g mX12_end d n n (rt (X 134 0 + 1) (lx_row (ewM (lx_row X 134 (endM (X 134) L))) 134 (chz (ewM (lx_row X 134 (endM (X 134) L)) 134) F))) n 16 [some (.ref 133), some (.int (nI i))] [] (lx_row X 134 (endM (X 134) i)) := by
    refine down ?_ ?_
    · refine bX12_end_16_2 hn (hSr L) (by rw [e L hL 7 (by omega), eL]; exact Int32.le_refl _) (end_loop2 (by omega) hn ((((hSr L).upA (by decide +kernel)).upA (by decide +kernel)).upA (by decide +kernel)) hF ?_ ⟨?_, rfl⟩)
      · rw [up_at (by omega), up_at (by omega), up_at (by omega), e L hL 6 (by omega), eF]
      · rw [up_at (by omega), up_at (by omega), up_it, e L hL 0 (by omega)]
    · intro i hi k
      obtain ⟨p, hp1, hp2⟩ := hp i (by omega)
      rw [show nI (i + 1) = nI i + 1 from (nI_1 i).symm] at k
      have c0 : ¬ lx_row X 134 (endM (X 134) i) 134 7 ≤ nI i := by rw [e i (by omega) 7 (by omega), eL]; exact nI_ge hi (by omega)
      have e70 : lx_row X 134 (endM (X 134) i) 134 (628 + 5 * i + 0) = nI p := by rw [e i (by omega) _ (by omega), hp2]
      rw [endM_s] at k
      by_cases c : spM (X 134) i
      · rw [if_pos c] at k
        refine bX12_end_16_1 (by omega) hn (hSr i) c0 (by omega) (by omega) e70 (by omega) ?_ k
        rw [e i (by omega) 0 (by omega), e i (by omega) _ (by omega), e i (by omega) _ (by omega)]
        unfold spM at c
        rw [hp2, ix_nI (by omega)] at c
        exact c
      · rw [if_neg c] at k
        refine bX12_end_16_0 (by omega) hn (hSr i) c0 (by omega) (by omega) e70 (by omega) ?_ (qX12_end_68 (d' := d - 1) (rest := []) hn (by omega) (by decide) (c_X12_throwLeft (by omega) hn (hSr i) (by omega) hp1 e70) (fun v Z hv => ?_))
        · rw [e i (by omega) 0 (by omega), e i (by omega) _ (by omega), e i (by omega) _ (by omega)]
          unfold spM at c
          rw [hp2, ix_nI (by omega)] at c
          exact c
        · obtain ⟨rfl, rfl⟩ := hv
          refine bX12_end_71_0 hn ((hSr i).row (by decide +kernel)) ?_
          rw [lx_row_self, show lx_row (lx_row X 134 (endM (X 134) i)) 134 (thM (endM (X 134) i) i) = lx_row X 134 (thM (endM (X 134) i) i) by
            funext a
            by_cases z : a = 134
            · subst z; rw [lx_row_self, lx_row_self]
            · rw [lx_row_ne _ _ _ z, lx_row_ne _ _ _ z, lx_row_ne _ _ _ z]]
          exact k
  have h := loop 0 (Nat.zero_le _)
  rw [show endM (X 134) 0 = X 134 from rfl, lx_row_id] at h
  exact h
/-- both sides throw alike -/
theorem end_rel (hK : KR LR X (X 134)) : ∀ {i : Nat}, i ≤ 40 → RTh (endC X i) (endM (X 134) i)
  | 0, _ => hK.rth
  | i + 1, hi => by
    obtain ⟨⟨e0, -⟩, -⟩ := hK.1
    obtain ⟨r0, -, r2, -⟩ := hK.2.2.2.2.2.2.1 i (by omega)
    obtain ⟨⟨p, hp, ep⟩, -⟩ := hK.2.2.2.2.2.2.2.1.2.2.2.2.2.1 i (by omega)
    have hq : ∀ l, l < 40 → ix (X 134 (628 + 5 * l + 0)) < 14 := fun l hl => by
      obtain ⟨⟨p, h1, h2⟩, -⟩ := hK.2.2.2.2.2.2.2.1.2.2.2.2.2.1 l hl
      rw [h2, ix_nI (by omega)]; omega
    have hs : spC X i ↔ spM (X 134) i := by
      unfold spC spM
      rw [e0, r2, r0, ep, ix_nI (by omega), (hK.2.1 p (by omega)).2.2.2.2.1]
    unfold endC endM
    by_cases c : spM (X 134) i
    · rw [if_pos c, if_pos (hs.mpr c)]
      exact end_rel hK (by omega)
    · rw [if_neg c, if_neg (fun w => c (hs.mp w))]
      refine th_rel (p := p) (by omega) (by omega) ?_ ?_ (end_rel hK (by omega))
      · rw [endM_o hq (by omega) (by omega), ep]
      · rw [endC_o (by omega), endM_o hq (by omega) (by omega), r0]
set_option maxHeartbeats 1000000 in
theorem jp_end (hL : LRok LR) (hn : 146 ≤ n) (hn2 : n ≤ 226) (hI : Iv LR n X) : JP g (Iv LR) mX11_end mX12_end [] n X := by
  obtain ⟨hX, hK, hT, hB⟩ := id hI
  obtain ⟨⟨e0, e1, e3, e8, e4, e5, e6, e7⟩, ⟨t, ht, et⟩, h3, r4, r5, ⟨F, hF, ef⟩, ⟨L, hLn, eL⟩⟩ := hK.1
  rcases Nat.lt_or_ge t 99 with q | q
  · have hpM : ∀ l, l < 40 → ∃ p, p < 14 ∧ X 134 (628 + 5 * l + 0) = nI p := fun l hl => by
      obtain ⟨⟨p, h1, h2⟩, -⟩ := hK.2.2.2.2.2.2.2.1.2.2.2.2.2.1 l hl
      exact ⟨p, by omega, h2⟩
    have hpC : ∀ l, l < 40 → ∃ p, p < 14 ∧ X 70 l = nI p := fun l hl => by
      obtain ⟨p, h1, h2⟩ := hpM l hl
      exact ⟨p, h1, (hK.2.2.2.2.2.2.1 l hl).1.trans h2⟩
    have hq : ∀ l, l < 40 → ix (X 134 (628 + 5 * l + 0)) < 14 := fun l hl => by
      obtain ⟨p, h1, h2⟩ := hpM l hl
      rw [h2, ix_nI (by omega)]; exact h1
    have hSe : Sh n (endC X L) := hX.ends
    obtain ⟨X1, hX1⟩ : ∃ Y : LX, Y = ewC (endC X L) := ⟨_, rfl⟩
    have hS1 : Sh n X1 := by
      rw [hX1]
      exact (((hSe.upF (by decide +kernel) (by decide +kernel)).upF (by decide +kernel) (by decide +kernel)).upF (by decide +kernel) (by decide +kernel)).row (by decide +kernel)
    have x1 : ∀ k, k ≠ 1 → k ≠ 42 → X1 k = endC X L k := fun k h1 h2 => by rw [hX1]; unfold ewC; rw [lx_row_ne _ _ _ h2, up_ne h1, up_ne h1, up_ne h1]
    have x134 : X1 134 = X 134 := by rw [x1 134 (by omega) (by omega), endC_o (by omega)]
    obtain ⟨Y, hY⟩ : ∃ Y : LX, Y = lx_row (ewM (lx_row X1 134 (endM (X1 134) L))) 134 (chz (ewM (lx_row X1 134 (endM (X1 134) L)) 134) F) := ⟨_, rfl⟩
    have hSY : Sh n Y := by
      rw [hY]
      exact ((((hS1.row (by decide +kernel)).upA (by decide +kernel)).upA (by decide +kernel)).upA (by decide +kernel)).row (by decide +kernel)
    refine jp_of (r := X 134 0 + 1) (X1 := X1) (X2 := Y) hn hn2 (e_of vX11_end (Nat.le_of_ble_eq_true rfl) (cat_of rfl) (bX11_end_0_1 hn hX (by rw [e0, et]; exact nI_lt (b := 99) q (by omega)) (qX11_end_19 (d' := 100) (rest := []) hn (by omega) (by decide) (c_X1_endWeek (by omega) hn hX hLn (e7.trans eL) hpC) (fun v Z hv => ?_)))) ?_ ?_
    · obtain ⟨rfl, rfl⟩ := hv
      rw [← hX1]
      refine bX11_end_22_0 hn hS1 ⟨?_, rfl⟩
      rw [hX1]
      unfold ewC
      rw [lx_row_ne _ _ _ (by omega), up_at (by omega), up_at (by omega), up_it, endC_o (by omega), e0]
    · have hE := c_X12_end (g := g) (d := 200) (L := L) (F := F) (Nat.le_of_ble_eq_true rfl) hn hS1 hLn (by rw [x134, eL]) hF (by rw [x134, ef]) (by rw [x134, et]; exact fun w => by rw [show (99 : Int32) = nI 99 from rfl, nI_eq (by omega) (by omega)] at w; omega) (by rw [x134]; exact hpM)
      rw [← hY, x134] at hE
      exact hE
    obtain ⟨V, hV⟩ : ∃ V : LX, V = lx_row (endC X L) 134 (endM (X 134) L) := ⟨_, rfl⟩
    have v134 : V 134 = endM (X 134) L := by rw [hV, lx_row_self]
    have vC : ∀ k, k ≠ 134 → V k = endC X L k := fun k hk => by rw [hV, lx_row_ne _ _ _ hk]
    have hKV : KR LR V (V 134) := by
      refine hK.thr hL (fun k w => by rw [vC k (by omega), endC_o (by omega)]) (fun s w => by rw [v134, endM_o hq w hLn]) ?_
      have w := end_rel hK hLn
      unfold RTh at w ⊢
      rw [v134, vC 76 (by omega), vC 73 (by omega)]
      exact w
    have hX1V : ∀ k, k ≠ 134 ∧ k ≠ 1 ∧ k ≠ 42 → Y k = V k := fun k w => by
      rw [hY, lx_row_ne _ _ _ w.1]; unfold ewM
      rw [up_ne w.1, up_ne w.1, up_ne w.1, lx_row_ne _ _ _ w.1, x1 k w.2.1 w.2.2, vC k w.1]
    have fA : ∀ s, s ≠ 0 ∧ s ≠ 3 ∧ s ≠ 8 ∧ (s < 448 ∨ (s - 448) % 15 ≠ 4 ∨ F ≤ (s - 448) / 15) → Y 134 s = V 134 s := fun s w => by
      rw [hY, lx_row_self, chz_o w.2.2.2]; unfold ewM
      rw [up_at w.2.2.1, up_at w.2.1, up_at w.1, lx_row_self, x134, v134]
    have y0 : Y 134 0 = X 134 0 + 1 := by
      rw [hY, lx_row_self, chz_o (by omega)]; unfold ewM
      rw [up_at (by omega), up_at (by omega), up_it, lx_row_self, x134, endM_o hq (by omega) hLn]
    have y3 : Y 134 3 = 0 := by
      rw [hY, lx_row_self, chz_o (by omega)]; unfold ewM
      rw [up_at (by omega), up_it]
    have y8 : Y 134 8 = 0 := by
      rw [hY, lx_row_self, chz_o (by omega)]; unfold ewM
      rw [up_it]
    have yz : ∀ f, f < F → Y 134 (448 + 15 * f + 4) = 0 := fun f hf => by rw [hY, lx_row_self, chz_z hf]
    have y1 : Y 1 = X1 1 := by
      rw [hY, lx_row_ne _ _ _ (by omega)]; unfold ewM
      rw [up_ne (by omega), up_ne (by omega), up_ne (by omega), lx_row_ne _ _ _ (by omega)]
    have z1 : X1 1 5 = X 134 0 + 1 ∧ X1 1 6 = 0 ∧ X1 1 8 = 0 ∧ X1 1 7 = X 1 7 := by
      rw [hX1]; unfold ewC
      rw [lx_row_ne _ _ _ (by omega)]
      refine ⟨?_, ?_, ?_, ?_⟩
      · rw [up_at (by omega), up_at (by omega), up_it, endC_o (by omega), e0]
      · rw [up_at (by omega), up_it]
      · rw [up_it]
      · rw [up_at (by omega), up_at (by omega), up_at (by omega), endC_o (by omega)]
    have y42 : ∀ f, f < 12 → Y 42 f = 0 := fun f hf => by
      rw [hY, lx_row_ne _ _ _ (by omega)]; unfold ewM
      rw [up_ne (by omega), up_ne (by omega), up_ne (by omega), lx_row_ne _ _ _ (by omega), hX1]; unfold ewC
      rw [lx_row_self]
      unfold fillTo
      rw [if_pos hf]
    have vA : ∀ s, (s < 10 ∨ 122 ≤ s ∨ (s - 10) % 8 ≠ 7) ∧ (s < 628 ∨ 828 ≤ s ∨ (s - 628) % 5 ≠ 3) → V 134 s = X 134 s := fun s w => by rw [v134, endM_o hq w hLn]
    have vX : ∀ k, k ≠ 134 ∧ k ≠ 73 ∧ k ≠ 76 → V k = X k := fun k w => by rw [vC k w.1, endC_o w.2]
    have hfC : ∀ k, k ≠ 134 ∧ k ≠ 1 ∧ k ≠ 42 ∧ k ≠ 73 ∧ k ≠ 76 → Y k = X k := fun k w => by rw [hX1V k (by omega), vX k (by omega)]
    obtain ⟨-, k2, k3, k4, k5, k6, k7, ⟨b1, b2, b3, b4, b5, b6, b7⟩, k8⟩ := hKV
    have hR1 : R1 Y (Y 134) := by
      unfold R1
      rw [hfC 2 (by omega), hfC 23 (by omega), hfC 37 (by omega), hfC 69 (by omega), y1, z1.1, z1.2.1, z1.2.2.1, z1.2.2.2, y0, y3, y8, fA 1 (by omega), fA 4 (by omega), fA 5 (by omega), fA 6 (by omega), fA 7 (by omega), vA 1 (by omega), vA 4 (by omega), vA 5 (by omega), vA 6 (by omega), vA 7 (by omega)]
      obtain ⟨M, hM, eM, -⟩ := r5
      exact ⟨⟨rfl, e1, rfl, rfl, e4, e5, e6, e7⟩, ⟨t + 1, by omega, by rw [et]; exact nI_1 t⟩, Or.inl rfl, r4, ⟨M, hM, eM, 0, Nat.pow_pos (by omega), rfl⟩, ⟨F, hF, ef⟩, ⟨L, hLn, eL⟩⟩
    have hle : ix (V 134 5) ≤ ix (Y 134 5) := by rw [fA 5 (by omega)]; exact Nat.le_refl _
    have hV6 : V 134 6 = nI F := by rw [vA 6 (by omega), ef]
    refine iv_now hL hI hSY ⟨hR1, k2.fr (fun k _ => hX1V k (by omega)) (fun s _ _ => fA s (by omega)), k3.fr (fun k _ _ => hX1V k (by omega)) (fun s _ _ => fA s (by omega)), k4.fr (fun k _ _ => hX1V k (by omega)) (fA 4 (by omega)) (fun s _ _ => fA s (by omega)),
      k5.zero (fun k _ _ _ => hX1V k (by omega)) y42 (fA 6 (by omega)) (fun f _ s _ _ => fA _ (by omega)) (fun f _ w => yz f (by rw [hV6, nI_lt_iff (by omega) (by omega)] at w; exact w)), k6.fr (fun k _ _ => hX1V k (by omega)) (fun s _ _ => fA s (by omega)), k7.fr (fun k _ _ => hX1V k (by omega)) (fun s _ _ => fA s (by omega)),
      ⟨b1.fr (fun s _ _ => fA s (by omega)), b2.fr (fun s _ _ => fA s (by omega)), b3.fr (fun s _ _ => fA s (by omega)), b4.zero hle (fun f _ => fA _ (by omega)) (fun f _ => by
        rcases Nat.lt_or_ge f F with z | z
        · exact Or.inr (yz f z)
        · exact Or.inl (fA _ (by omega))), b5.fr hle (fun s _ _ => fA s (by omega)), b6.fr (fA 7 (by omega)) (fun s _ _ => fA s (by omega)), b7.fr (fA 7 (by omega)) (fun p _ => fA _ (by omega)) (fun l _ => ⟨fA _ (by omega), fA _ (by omega)⟩)⟩, hL _ _ _ _ (fun k _ _ => hX1V k (by omega)) (fA 2 (by omega)) (fun s _ _ => fA s (by omega)) k8⟩
      (hT.fr ⟨by rw [hfC 81 (by omega)], by rw [hfC 133 (by omega)], by rw [hfC 0 (by omega)], by rw [hfC 133 (by omega)]⟩ (fun k _ => hfC k (by omega))) (by rw [hfC 0 (by omega)]) (by rw [hfC 133 (by omega)]) (fun k _ => hfC k (by omega)) (hfC 135 (by omega))
  · have e99 : t = 99 := by omega
    subst e99
    exact jp_of hn hn2 (e_of vX11_end (Nat.le_of_ble_eq_true rfl) (cat_of rfl) (bX11_end_0_0 hn hX (by rw [e0, et]; decide +kernel) ⟨rfl, rfl⟩)) (e_of vX12_end (Nat.le_of_ble_eq_true rfl) (cat_of rfl) (bX12_end_0_0 hn hX et ⟨rfl, rfl⟩)) hI
end ENDS2
