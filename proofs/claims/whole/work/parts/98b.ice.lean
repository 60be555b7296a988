/-! LAW, 5: ice. -/
section ICE
variable {g : GG} {d n : Nat} {X : LX}
abbrev mxm (w : Int32) : Int32 := if 0 < (if w < 9999 then w else 9999) then (if w < 9999 then w else 9999) else 0
def rwC (X : LX) (v : Int32) : Nat → Int32
  | 0 => 0
  | i + 1 => if ¬ nb v i ∧ isKd X i 3 then 1 else rwC X v i
theorem rwC_s (X : LX) (v : Int32) (i : Nat) : rwC X v (i + 1) = if ¬ nb v i ∧ isKd X i 3 then 1 else rwC X v i := rfl
/-- scratch of the worth may change -/
theorem iv_79 (hp : LRpt LRw) (hI : Iv LRw n X) {W : LX} (hW : Sh n W) (hk : ∀ k, k ≠ 79 → k ≠ 80 → W k = X k) : Iv LRw n W := by
  have hL : LRok LRw := LRpt.ok hp
  refine iv_now hL hI hW (hI.2.1.pt hp ⟨fun t _ => by rw [hk 1 (by omega) (by omega)], ⟨by rw [hk 2 (by omega) (by omega)], by rw [hk 23 (by omega) (by omega)], by rw [hk 37 (by omega) (by omega)], by rw [hk 69 (by omega) (by omega)]⟩, fun k _ _ j _ => by rw [hk k (by omega) (by omega)], fun i _ j _ => by rw [hk _ (by omega) (by omega)], fun k _ _ j _ => by rw [hk k (by omega) (by omega)], fun i _ j _ => by rw [hk _ (by omega) (by omega)], fun k _ _ j _ => by rw [hk k (by omega) (by omega)], fun i _ j _ => by rw [hk _ (by omega) (by omega)], fun i _ j _ => by rw [hk _ (by omega) (by omega)], fun k _ _ j _ => by rw [hk k (by omega) (by omega)], fun k _ _ j _ => by rw [hk k (by omega) (by omega)], fun t _ => by rw [hk 77 (by omega) (by omega)], fun j _ => by rw [hk 78 (by omega) (by omega)]⟩ (fun j _ => by rw [hk 134 (by omega) (by omega)])) (hI.2.2.1.fr ⟨by rw [hk 81 (by omega) (by omega)], by rw [hk 133 (by omega) (by omega)], by rw [hk 0 (by omega) (by omega)], by rw [hk 133 (by omega) (by omega)]⟩ (fun k _ => hk k (by omega) (by omega))) (by rw [hk 0 (by omega) (by omega)]) (by rw [hk 133 (by omega) (by omega)]) (fun k _ => hk k (by omega) (by omega)) (hk 135 (by omega) (by omega))
theorem c_iceOf {f M F y z : Nat} {T2 : List (Nat × Nat)} (hd : 8 ≤ d) (hn : 146 ≤ n) (hX : Sh n X) (hf : f < 12) (hk : okK X) (hM : M ≤ 10) (e23 : X 23 0 = nI M) (hbx : ¬ cBox X f = 0) (h77 : ¬ X 77 0 = 0) (hyz : y + T2.length = z) (hz : z ≤ 118) (e1 : X 77 1 = nI z) (e2 : X 77 2 = nI y) (w2 : wf 4 T2 0) (q : ∀ i t, T2[i]? = some t → X 78 (y + i) = cTk t) {nm : Nat → Int32} (h0 : nm 0 = sumTo (fun m => if nb (cBox X f) m then 0 else cGr X m) M * X 39 f) (h1 : nm 1 = X 41 f) (h2 : nm 2 = X 1 7) (h3 : nm 3 = rwC X (cBox X f) M) : Ex g mX1_iceOf d n n [.ref 1, .int (nI f)] X (fun v W => v = some (.int (mxm (evT nm T2 []))) ∧ Sh n W ∧ ∀ k, k ≠ 79 → k ≠ 80 → W k = X k) := by
  refine e_of vX1_iceOf (Nat.le_of_ble_eq_true rfl) (cat_of rfl) (bX1_iceOf_0_1 (by omega) hn hX hf hk hbx h77 ?_)
  have loop : ∀ i, i ≤ M → Ev g mX1_iceOf d n n (fun v W => v = some (.int (mxm (evT nm T2 []))) ∧ Sh n W ∧ ∀ k, k ≠ 79 → k ≠ 80 → W k = X k) n 30 [some (.ref 1), some (.int (nI f)), some (.int (cBox X f)), some (.int (sumTo (fun m => if nb (cBox X f) m then 0 else cGr X m) i)), some (.int (rwC X (cBox X f) i)), some (.int (nI i))] [] X := by
    refine down ?_ ?_
    · refine bX1_iceOf_30_3 hn hX (by rw [e23]; exact Int32.le_refl _) hf ?_
      obtain ⟨Y, hY⟩ : ∃ Y : LX, Y = lx_up (lx_up (lx_up (lx_up X 80 0 (sumTo (fun m => if nb (cBox X f) m then 0 else cGr X m) M * X 39 f)) 80 1 (X 41 f)) 80 2 (X 1 7)) 80 3 (rwC X (cBox X f) M) := ⟨_, rfl⟩
      rw [← hY]
      have hYS : Sh n Y := by rw [hY]; exact (((hX.upA (by decide +kernel)).upA (by decide +kernel)).upA (by decide +kernel)).upA (by decide +kernel)
      have yk : ∀ k, k ≠ 80 → Y k = X k := fun k hk => by rw [hY, up_ne hk, up_ne hk, up_ne hk, up_ne hk]
      have ynm : ∀ s, s < 4 → Y 80 s = nm s := fun s hs => by
        rcases (show s = 0 ∨ s = 1 ∨ s = 2 ∨ s = 3 by omega) with rfl | rfl | rfl | rfl
        · rw [h0, hY]; simp (disch := omega) only [up_at, up_it]
        · rw [h1, hY]; simp (disch := omega) only [up_at, up_it]
        · rw [h2, hY]; simp (disch := omega) only [up_at, up_it]
        · rw [h3, hY]; simp (disch := omega) only [up_at, up_it]
      have hW : Ex g mX2_worthOfIce (d - 1) n n [.ref 77] Y (fun v Z => v = some (.int (evT nm T2 [])) ∧ Sh n Z ∧ ∀ k, k ≠ 79 → Z k = Y k) := by
        refine e_of vX2_worthOfIce (Nat.le_of_ble_eq_true rfl) (cat_of rfl) (bX2_worthOfIce_0_0 hn hYS ?_)
        rw [yk 77 (by omega), e1, e2]
        refine qX2_worthOfIce_9 (d' := d - 2) (rest := []) hn (by omega) (by decide) (c_worth (N := 4) (nm := nm) (by omega) hn hYS (by omega) hyz (by omega) w2 (fun i t hi => by rw [yk 78 (by omega), q i t hi]) ynm) (fun v V hv => ?_)
        obtain ⟨rfl, v1, vk⟩ := hv
        exact bX2_worthOfIce_12_0 hn v1 ⟨rfl, v1, vk⟩
      refine qX1_iceOf_158 (d' := d - 1) (rest := [.int 9999, .int 0]) hn (by omega) (by decide) hW (fun v V hv => ?_)
      obtain ⟨rfl, v1, vk⟩ := hv
      exact bX1_iceOf_161_0 (by omega) hn v1 ⟨rfl, v1, fun k h1 h2 => by rw [vk k h1, yk k h2]⟩
    · intro i hi k
      have c0 : ¬ X 23 0 ≤ nI i := by rw [e23]; exact nI_ge hi (by omega)
      rw [show nI (i + 1) = nI i + 1 from (nI_1 i).symm, rwC_s] at k
      by_cases c1 : nb (cBox X f) i
      · rw [show sumTo (fun m => if nb (cBox X f) m then 0 else cGr X m) (i + 1) = sumTo (fun m => if nb (cBox X f) m then 0 else cGr X m) i by simp only [sumTo, if_pos c1, Int32.add_zero], if_neg (fun w => w.1 c1)] at k
        exact bX1_iceOf_30_2 (by omega) hn hX c0 (fun w => w c1) k
      · rw [show sumTo (fun m => if nb (cBox X f) m then 0 else cGr X m) (i + 1) = sumTo (fun m => if nb (cBox X f) m then 0 else cGr X m) i + cGr X i by simp only [sumTo, if_neg c1]] at k
        by_cases c2 : isKd X i 3
        · rw [if_pos ⟨c1, c2⟩] at k
          exact bX1_iceOf_30_0 (by omega) hn hX c0 c1 (by omega) c2 k
        · rw [if_neg (fun w => c2 w.2)] at k
          exact bX1_iceOf_30_1 (by omega) hn hX c0 c1 (by omega) c2 k
  exact loop 0 (Nat.zero_le _)
end ICE
