/-! THE CALLS, 22: picks; the class's functions look at the kitchen's cells alone. -/
abbrev same76 (X X' : LX) : Prop := ∀ k, 1 ≤ k → k ≤ 76 → X' k = X k
theorem cAll_cg {X X' : LX} (h : same76 X X') {m : Nat} (hm : m < 10) : cAll X' m = cAll X m := by
  unfold cAll
  rw [h 2 (by omega) (by omega), h 3 (by omega) (by omega), h (26 + 1 + m) (by omega) (by omega)]
theorem cMay_cg {X X' : LX} (h : same76 X X') {f m : Nat} (hm : m < 10) : cMay X' f m ↔ cMay X f m := by
  unfold cMay isKd
  rw [cAll_cg h hm, h 38 (by omega) (by omega), h 40 (by omega) (by omega), h 24 (by omega) (by omega)]
theorem cGs_cg {X X' : LX} (h : same76 X X') {f : Nat} (hf : f < 12) {b a : Int32} : ∀ i, i ≤ 10 → cGs X' f b a i = cGs X f b a i
  | 0, _ => rfl
  | i + 1, hi => by
    unfold cGs
    rw [cGs_cg h hf i (by omega), h 1 (by omega) (by omega), h (43 + 1 + f) (by omega) (by omega)]
    exact ite_congr (propext (and_congr_right (fun _ => cMay_cg h (by omega)))) (fun _ => rfl) (fun _ => rfl)
theorem cGuess_cg {X X' : LX} (h : same76 X X') (hM : num X 23 0 10) {f : Nat} (hf : f < 12) {b : Int32} : cGuess X' f b = cGuess X f b := by
  unfold cGuess cAhead
  rw [h 1 (by omega) (by omega), h 23 (by omega) (by omega), h (56 + 1 + f) (by omega) (by omega), cGs_cg h hf _ (hM.eq (by omega)).2]
theorem cBox_cg {X X' : LX} (h : same76 X X') (hM : num X 23 0 10) {f : Nat} (hf : f < 12) : cBox X' f = cBox X f := by
  unfold cBox cAdd
  simp only [cGuess_cg h hM hf]
  rw [h 1 (by omega) (by omega), h 42 (by omega) (by omega), h (56 + 1 + f) (by omega) (by omega)]
theorem cNeed_cg {X X' : LX} (h : same76 X X') (hM : num X 23 0 10) {f p : Nat} {v : Int32} : cNeed X' f v p = cNeed X f v p := by
  unfold cNeed
  rw [h 23 (by omega) (by omega), h 39 (by omega) (by omega)]
  rw [sum_cg (F := fun m => if nb v m then 0 else X' (26 + 1 + m) p) (G := fun m => if nb v m then 0 else X (26 + 1 + m) p) (fun m hm => by
    have := (hM.eq (by omega)).2
    show (if nb v m then 0 else X' (26 + 1 + m) p) = _
    rw [h (26 + 1 + m) (by omega) (by omega)])]
theorem num_cg {X X' : LX} {k j N : Nat} (h : X' k = X k) : num X' k j N = num X k j N := by unfold num; rw [h]
theorem okK_cg {X X' : LX} (h : same76 X X') : okK X' = okK X := by
  unfold okK okC
  rw [num_cg (h 2 (by omega) (by omega)), num_cg (h 23 (by omega) (by omega)), num_cg (h 1 (by omega) (by omega)), h 42 (by omega) (by omega)]
/-- how many parts of a station a family needs -/
def pkd (X : LX) (f s : Nat) (i : Nat) : Int32 := sumTo (fun p => if cNeed X f (cBox X f) p ≤ 0 then 0 else if X 6 p = nI s then 1 else 0) i
abbrev sel (late : Int32) (shift : Int32) (f : Nat) : Prop := hb late f ↔ shift = 1
def pks (X : LX) (s : Nat) (shift late : Int32) : Int32 := sumTo (fun f => if sel late shift f then pkd X f s (ix (X 2 0)) else 0) (ix (X 37 0))
def mPkf (X : LX) (s : Int32) (f i : Nat) : Int32 := sumTo (fun p => if X 140 (14 * f + p) ≤ 0 then 0 else if X 134 (10 + 8 * p + 2) = s then 1 else 0) i
def mPk (X : LX) (s shift late : Int32) : Int32 := sumTo (fun f => if sel late shift f then mPkf X s f (ix (X 134 4)) else 0) (ix (X 134 6))
section PICKS
variable {LR : LX → (Nat → Int32) → Prop} {g : GG} {d n : Nat} {X : LX} {post : Option Value → LX → Prop}
/-- the rows of the first i families are gathered -/
def Pg (n : Nat) (X Z : LX) (i : Nat) : Prop := Sh n Z ∧ (∀ k, k < 112 ∨ 112 + i ≤ k → Z k = X k) ∧ ∀ f, f < i → ∀ s, s < 4 → Z (111 + 1 + f) s = pkd X f s (ix (X 2 0))
theorem gather_p {f P : Nat} (hd : 4 ≤ d) (hn : 146 ≤ n) (hf : f < 12) (hP : P ≤ 14) (eP : X 2 0 = nI P) (hM : num X 23 0 10) (hs : ∀ p, p < 14 → ∃ s, s < 4 ∧ X 6 p = nI s) (k : ∀ Z, Sh n Z → (∀ k, k ≠ 111 + 1 + f → Z k = X k) → (∀ s, s < 4 → Z (111 + 1 + f) s = pkd X f s P) → Ev g mX10_gather d n n post n 2 [some (.ref 110), some (.int (nI (f + 1))), none, none] [] Z) : ∀ i, i ≤ P → ∀ Z, Sh n Z → (∀ k, k ≠ 111 + 1 + f → Z k = X k) → (∀ s, s < 4 → Z (111 + 1 + f) s = pkd X f s i) → Ev g mX10_gather d n n post n 37 [some (.ref 110), some (.int (nI f)), some (.int (cBox X f)), some (.int (nI i))] [] Z := by
  refine down ?_ ?_
  · intro Z hZ h1 h2
    have kk := k Z hZ h1 h2
    rw [show nI (f + 1) = nI f + 1 from (nI_1 f).symm] at kk
    exact bX10_gather_37_2 hn hZ (by rw [h1 2 (by omega), eP]; exact Int32.le_refl _) kk
  · intro i hi kk Z hZ h1 h2
    have c0 : ¬ Z 2 0 ≤ nI i := by rw [h1 2 (by omega), eP]; exact nI_ge hi (by omega)
    have s76 : same76 X Z := fun k _ _ => h1 k (by omega)
    have hM2 : num Z 23 0 10 := by rw [num_cg (h1 23 (by omega))]; exact hM
    rw [show nI (i + 1) = nI i + 1 from (nI_1 i).symm] at kk
    by_cases c : cNeed X f (cBox X f) i ≤ 0
    · refine bX10_gather_37_1 (by omega) hn hZ c0 hf (by omega) hM2 (by rw [cNeed_cg s76 hM]; exact c) (kk Z hZ h1 (fun s hs4 => ?_))
      rw [h2 s hs4]
      unfold pkd
      show _ = sumTo _ i + (if cNeed X f (cBox X f) i ≤ 0 then 0 else if X 6 i = nI s then 1 else 0)
      rw [if_pos c, Int32.add_zero]
    · obtain ⟨j, hj, ej⟩ := hs i (by omega)
      refine bX10_gather_37_0 (by omega) hn hZ c0 hf (by omega) hM2 (by rw [cNeed_cg s76 hM]; exact c) hf (by omega) (by rw [h1 6 (by omega), ej]) hj (kk _ (hZ.upA (by rw [lyr_111 f hf]; exact (by decide : 0 < 2))) (fun k hk => by rw [up_ne hk, h1 k hk]) (fun s hs4 => ?_))
      unfold pkd
      show _ = sumTo _ i + (if cNeed X f (cBox X f) i ≤ 0 then 0 else if X 6 i = nI s then 1 else 0)
      rw [if_neg c, ej]
      by_cases z : s = j
      · subst z
        rw [up_it, h2 s hs4, if_pos rfl]; rfl
      · rw [up_at z, h2 s hs4, if_neg (fun w => z ((nI_eq (by omega) (by omega)).mp w).symm), Int32.add_zero]; rfl
theorem c_X10_gather (hd : 4 ≤ d) (hn : 146 ≤ n) (hX : Sh n X) (hk : okK X) (hF : num X 37 0 12) (hs : ∀ p, p < 14 → ∃ s, s < 4 ∧ X 6 p = nI s) : Ex g mX10_gather d n n [.ref 110] X (fun v Z => v = none ∧ Pg n X Z (ix (X 37 0))) := by
  obtain ⟨e1, e2⟩ := hF.eq (by omega)
  obtain ⟨p1, p2⟩ := hk.1.eq (by omega)
  refine e_of vX10_gather (Nat.le_of_ble_eq_true rfl) (cat_of rfl) (bX10_gather_0_0 hn hX ?_)
  have loop : ∀ i, i ≤ ix (X 37 0) → ∀ Z, Pg n X Z i → Ev g mX10_gather d n n (fun v Z => v = none ∧ Pg n X Z (ix (X 37 0))) n 2 [some (.ref 110), some (.int (nI i)), none, none] [] Z := by
    refine down ?_ ?_
    · intro Z hZ
      exact bX10_gather_2_1 hn hZ.1 (by rw [hZ.2.1 37 (by omega), ← e1]; exact Int32.le_refl _) ⟨rfl, hZ⟩
    · intro f hf kk Z hZ
      obtain ⟨z1, z2, z3⟩ := hZ
      have s76 : same76 X Z := fun k _ _ => z2 k (by omega)
      refine bX10_gather_2_0 hd hn z1 (by rw [z2 37 (by omega), e1]; exact nI_ge hf (by omega)) (by omega) (by rw [okK_cg s76]; exact hk) (by omega) ?_
      have hZ0 : ∀ k, k ≠ 111 + 1 + f → lx_row Z (111 + 1 + f) (fillTo (Z (111 + 1 + f)) 0 4) k = Z k := fun k hk => lx_row_ne _ _ _ hk
      have hM2 : num Z 23 0 10 := by rw [num_cg (z2 23 (by omega))]; exact hk.2.1
      refine gather_p (X := Z) (P := ix (X 2 0)) hd hn (by omega) p2 (by rw [z2 2 (by omega)]; exact p1) hM2 (fun p hp => by rw [z2 6 (by omega)]; exact hs p hp) (fun W w1 w2 w3 => kk W ⟨w1, fun k hk => by rw [w2 k (by omega), z2 k (by omega)], fun q hq s hs4 => ?_⟩) 0 (Nat.zero_le _) _ (z1.row (by rw [lyr_111 f (by omega)]; exact (by decide : 0 < 2))) hZ0 (fun s hs4 => ?_)
      · by_cases e : q = f
        · subst e
          rw [w3 s hs4]
          unfold pkd
          rw [cBox_cg s76 hk.2.1 (by omega)]
          refine sum_cg (fun p hp => ?_)
          rw [cNeed_cg s76 hk.2.1, z2 6 (by omega)]
        · rw [w2 (111 + 1 + q) (by omega)]
          exact z3 q (by omega) s hs4
      · rw [lx_row_self]
        unfold fillTo
        rw [if_pos hs4]; rfl
  exact loop 0 (Nat.zero_le _) X ⟨hX, fun k _ => rfl, fun f hf => absurd hf (Nat.not_lt_zero _)⟩
theorem c_X10_picksOf {s : Nat} {shift late : Int32} (hd : 5 ≤ d) (hn : 146 ≤ n) (hX : Sh n X) (hs4 : s < 4) (hk : okK X) (hF : num X 37 0 12) (hs : ∀ p, p < 14 → ∃ s, s < 4 ∧ X 6 p = nI s) : Ex g mX10_picksOf d n n [.ref 110, .int (nI s), .int shift, .int late] X (fun v Z => v = some (.int (pks X s shift late)) ∧ Sh n Z ∧ ∀ k, k < 112 ∨ 124 ≤ k → Z k = X k) := by
  obtain ⟨e1, e2⟩ := hF.eq (by omega)
  refine e_of vX10_picksOf (Nat.le_of_ble_eq_true rfl) (cat_of rfl) (bX10_picksOf_0_0 hn hX (qX10_picksOf_1 (d' := d - 1) (rest := []) hn (by omega) (by decide) (c_X10_gather (by omega) hn hX hk hF hs) (fun v Z hv => ?_)))
  obtain ⟨rfl, z1, z2, z3⟩ := hv
  refine bX10_picksOf_4_0 hn z1 ?_
  have e37 : Z 37 0 = nI (ix (X 37 0)) := by rw [z2 37 (by omega)]; exact e1
  have loop : ∀ i, i ≤ ix (X 37 0) → Ev g mX10_picksOf d n n (fun v Z => v = some (.int (pks X s shift late)) ∧ Sh n Z ∧ ∀ k, k < 112 ∨ 124 ≤ k → Z k = X k) n 10 [some (.ref 110), some (.int (nI s)), some (.int shift), some (.int late), some (.int (sumTo (fun f => if sel late shift f then pkd X f s (ix (X 2 0)) else 0) i)), some (.int (nI i))] [] Z := by
    refine down ?_ ?_
    · exact bX10_picksOf_10_4 hn z1 (by rw [e37]; exact Int32.le_refl _) ⟨rfl, z1, fun k hk => z2 k (by omega)⟩
    · intro f hf k
      have c0 : ¬ Z 37 0 ≤ nI f := by rw [e37]; exact nI_ge hf (by omega)
      rw [show nI (f + 1) = nI f + 1 from (nI_1 f).symm] at k
      by_cases c : hb late f
      · have c1 : ¬ nb late f := (nb_hb (by omega)).mpr c
        by_cases c2 : shift = 1
        · rw [show sumTo (fun f => if sel late shift f then pkd X f s (ix (X 2 0)) else 0) (f + 1) = sumTo (fun f => if sel late shift f then pkd X f s (ix (X 2 0)) else 0) f + Z (111 + 1 + f) s by rw [z3 f hf s hs4]; simp only [sumTo]; rw [if_pos (show sel late shift f from ⟨fun _ => c2, fun _ => c⟩)]] at k
          exact bX10_picksOf_10_0 (by omega) hn z1 c0 c1 c2 (by omega) hs4 k
        · rw [show sumTo (fun f => if sel late shift f then pkd X f s (ix (X 2 0)) else 0) (f + 1) = sumTo (fun f => if sel late shift f then pkd X f s (ix (X 2 0)) else 0) f by simp only [sumTo]; rw [if_neg (show ¬ sel late shift f from fun w => c2 (w.mp c)), Int32.add_zero]] at k
          exact bX10_picksOf_10_1 (by omega) hn z1 c0 c1 c2 k
      · have c1 : ¬ ¬ nb late f := fun w => c ((nb_hb (by omega)).mp w)
        by_cases c2 : shift = 1
        · rw [show sumTo (fun f => if sel late shift f then pkd X f s (ix (X 2 0)) else 0) (f + 1) = sumTo (fun f => if sel late shift f then pkd X f s (ix (X 2 0)) else 0) f by simp only [sumTo]; rw [if_neg (show ¬ sel late shift f from fun w => c (w.mpr c2)), Int32.add_zero]] at k
          exact bX10_picksOf_10_2 (by omega) hn z1 c0 c1 c2 k
        · rw [show sumTo (fun f => if sel late shift f then pkd X f s (ix (X 2 0)) else 0) (f + 1) = sumTo (fun f => if sel late shift f then pkd X f s (ix (X 2 0)) else 0) f + Z (111 + 1 + f) s by rw [z3 f hf s hs4]; simp only [sumTo]; rw [if_pos (show sel late shift f from ⟨fun w => absurd w c, fun w => absurd w c2⟩)]] at k
          exact bX10_picksOf_10_3 (by omega) hn z1 c0 c1 c2 (by omega) hs4 k
  exact loop 0 (Nat.zero_le _)
theorem k_X12_picksOf {s shift late : Int32} (hd : 1 ≤ d) (hn : 146 ≤ n) (hX : Sh n X) (hP : num X 134 4 14) (hF : num X 134 6 12) : Ex g mX12_picksOf d n n [.ref 133, .int s, .int shift, .int late] X (rt (mPk X s shift late) X) := by
  obtain ⟨e1, e2⟩ := hF.eq (by omega)
  obtain ⟨p1, p2⟩ := hP.eq (by omega)
  refine e_of vX12_picksOf (Nat.le_of_ble_eq_true rfl) (cat_of rfl) (bX12_picksOf_0_0 hn hX ?_)
  have inner : ∀ f, f < 12 → sel late shift f → ∀ v, Ev g mX12_picksOf d n n (rt (mPk X s shift late) X) n 6 [some (.ref 133), some (.int s), some (.int shift), some (.int late), some (.int (v + mPkf X s f (ix (X 134 4)))), some (.int (nI (f + 1))), none] [] X → ∀ i, i ≤ ix (X 134 4) → Ev g mX12_picksOf d n n (rt (mPk X s shift late) X) n 21 [some (.ref 133), some (.int s), some (.int shift), some (.int late), some (.int (v + mPkf X s f i)), some (.int (nI f)), some (.int (nI i))] [] X := by
    intro f hf hsel v k
    refine down ?_ ?_
    · rw [show nI (f + 1) = nI f + 1 from (nI_1 f).symm] at k
      exact bX12_picksOf_21_8 hn hX (by rw [← p1]; exact Int32.le_refl _) k
    · intro i hi kk
      have c0 : ¬ X 134 4 ≤ nI i := by rw [p1]; exact nI_ge hi (by omega)
      rw [show nI (i + 1) = nI i + 1 from (nI_1 i).symm, show mPkf X s f (i + 1) = mPkf X s f i + (if X 140 (14 * f + i) ≤ 0 then 0 else if X 134 (10 + 8 * i + 2) = s then 1 else 0) from rfl, ← Int32.add_assoc] at kk
      by_cases c : hb late f
      · have c2 : shift = 1 := hsel.mp c
        by_cases c3 : X 140 (14 * f + i) ≤ 0
        · rw [if_pos c3] at kk
          exact bX12_picksOf_21_2 hd hn hX c0 c c2 (by omega) c3 kk
        · rw [if_neg c3] at kk
          by_cases c4 : X 134 (10 + 8 * i + 2) = s
          · rw [if_pos c4] at kk
            exact bX12_picksOf_21_0 hd hn hX c0 c c2 (by omega) c3 (by omega) c4 kk
          · rw [if_neg c4] at kk
            exact bX12_picksOf_21_1 hd hn hX c0 c c2 (by omega) c3 (by omega) c4 kk
      · have c2 : ¬ shift = 1 := fun w => c (hsel.mpr w)
        by_cases c3 : X 140 (14 * f + i) ≤ 0
        · rw [if_pos c3] at kk
          exact bX12_picksOf_21_7 hd hn hX c0 c c2 (by omega) c3 kk
        · rw [if_neg c3] at kk
          by_cases c4 : X 134 (10 + 8 * i + 2) = s
          · rw [if_pos c4] at kk
            exact bX12_picksOf_21_5 hd hn hX c0 c c2 (by omega) c3 (by omega) c4 kk
          · rw [if_neg c4] at kk
            exact bX12_picksOf_21_6 hd hn hX c0 c c2 (by omega) c3 (by omega) c4 kk
  have loop : ∀ i, i ≤ ix (X 134 6) → Ev g mX12_picksOf d n n (rt (mPk X s shift late) X) n 6 [some (.ref 133), some (.int s), some (.int shift), some (.int late), some (.int (sumTo (fun f => if sel late shift f then mPkf X s f (ix (X 134 4)) else 0) i)), some (.int (nI i)), none] [] X := by
    refine down ?_ ?_
    · exact bX12_picksOf_6_1 hn hX (by rw [← e1]; exact Int32.le_refl _) ⟨rfl, rfl⟩
    · intro f hf k
      have c0 : ¬ X 134 6 ≤ nI f := by rw [e1]; exact nI_ge hf (by omega)
      refine bX12_picksOf_6_0 hn hX c0 ?_
      by_cases c : sel late shift f
      · rw [show sumTo (fun f => if sel late shift f then mPkf X s f (ix (X 134 4)) else 0) (f + 1) = sumTo (fun f => if sel late shift f then mPkf X s f (ix (X 134 4)) else 0) f + mPkf X s f (ix (X 134 4)) by simp only [sumTo]; rw [if_pos c]] at k
        have h := inner f (by omega) c _ k 0 (Nat.zero_le _)
        rw [show mPkf X s f 0 = 0 from rfl, Int32.add_zero] at h
        exact h
      · rw [show sumTo (fun f => if sel late shift f then mPkf X s f (ix (X 134 4)) else 0) (f + 1) = sumTo (fun f => if sel late shift f then mPkf X s f (ix (X 134 4)) else 0) f by simp only [sumTo]; rw [if_neg c, Int32.add_zero]] at k
        rw [show nI (f + 1) = nI f + 1 from (nI_1 f).symm] at k
        by_cases z : X 134 4 ≤ 0
        · exact bX12_picksOf_21_8 hn hX z k
        · by_cases c1 : hb late f
          · exact bX12_picksOf_21_3 hd hn hX z c1 (fun w => c ⟨fun _ => w, fun _ => c1⟩) k
          · exact bX12_picksOf_21_4 hd hn hX z c1 (Classical.byContradiction fun w => c ⟨fun y => absurd y c1, fun y => absurd y w⟩) k
  exact loop 0 (Nat.zero_le _)
/-- picks are alike, needs being at hand in the model -/
theorem pks_eq (hK : KR LR X (X 134)) {s : Nat} (hs : s < 4) {shift late : Int32} {Z : LX} (h134 : Z 134 = X 134) (h140 : Z 140 = mNd X) : pks X s shift late = mPk Z (nI s) shift late := by
  obtain ⟨⟨-, -, -, -, e4, -, e6, -⟩, -, -, ⟨P, hP, ep⟩, -, ⟨F, hF, ef⟩, -⟩ := hK.1
  unfold pks mPk pkd mPkf
  rw [h134, h140, e4, e6, ep, ef, ix_nI (by omega), ix_nI (by omega)]
  refine sum_cg (fun f hf => ?_)
  by_cases c : sel late shift f
  · rw [if_pos c, if_pos c]
    refine sum_cg (fun p hp => ?_)
    rw [need_eq hK (by omega) (by rw [ef, nI_lt_iff (by omega) (by omega)]; exact hf) (by omega), (hK.2.1 p (by omega)).2.2.1]
  · rw [if_neg c, if_neg c]
theorem KR.stn (hK : KR LR X (X 134)) : ∀ p, p < 14 → ∃ s, s < 4 ∧ X 6 p = nI s := fun p hp => by
  obtain ⟨s, hs, e⟩ := (hK.2.2.2.2.2.2.2.1.1 p hp).1
  exact ⟨s, by omega, (hK.2.1 p hp).2.2.1.trans e⟩
theorem jp_rel {Mc Mm : Mt} {as : List Value} (Q : Int32 → LX → Prop) (hn : 146 ≤ n) (hn2 : n ≤ 226) (hc : Ex g Mc 200 n n (.ref 0 :: as) X (fun v X1 => ∃ r, v = some (.int r) ∧ Q r X1)) (hm : ∀ r X1, Q r X1 → Ex g Mm 200 n n (.ref 133 :: as) X1 (fun v X2 => v = some (.int r) ∧ Iv LR n X2)) : JP g (Iv LR) Mc Mm as n X := ⟨n, Q, Nat.le_refl _, hn2, hn, hc, hm⟩
theorem jp_picks (hL : LRok LR) {a b c : Int32} (hn : 146 ≤ n) (hn2 : n ≤ 226) (hI : Iv LR n X) : JP g (Iv LR) mX11_picks mX12_picks [.int a, .int b, .int c] n X := by
  obtain ⟨hX, hK, hT, hB⟩ := id hI
  obtain ⟨⟨-, -, -, -, e4, -, e6, -⟩, -, -, ⟨P, hP, ep⟩, -, ⟨F, hF, ef⟩, -⟩ := hK.1
  have hi := bits_iff (v := c) (M := F) hF
  by_cases h1 : 0 ≤ a ∧ a ≤ 3
  · by_cases h2 : 0 ≤ b ∧ b ≤ 1
    · by_cases h3 : 0 ≤ c ∧ c >>> (X 37 0 &&& 31) = 0
      · have hm3 : 0 ≤ c ∧ c < 1 <<< (X 134 6 &&& 31) := by rw [ef]; exact hi.mp (by rw [← ef, ← e6]; exact h3)
        obtain ⟨s, hs, rfl⟩ := i_num (N := 3) (by omega) h1.1 h1.2
        refine jp_rel (fun r Z => r = pks X s b c ∧ Sh n Z ∧ ∀ k, k < 112 ∨ 124 ≤ k → Z k = X k) hn hn2 (e_of vX11_picks (Nat.le_of_ble_eq_true rfl) (cat_of rfl) (bX11_picks_0_0 (Nat.le_of_ble_eq_true rfl) hn hX h1 h2 h3 (qX11_picks_48 (d' := 100) (rest := []) hn (by omega) (by decide) (c_X10_picksOf (Nat.le_of_ble_eq_true rfl) hn hX (by omega) (okK_of hK) ⟨F, hF, e6.trans ef⟩ hK.stn) (fun v Z hv => ?_)))) (fun r Z hZ => ?_)
        · obtain ⟨rfl, z1, z2⟩ := hv
          exact bX11_picks_51_0 hn z1 ⟨_, rfl, rfl, z1, z2⟩
        · obtain ⟨rfl, z1, z2⟩ := hZ
          have hIZ : Iv LR n Z := iv_scr hL hI z1 (fun k hk => z2 k (by omega)) (by rw [z2 81 (by omega)]) (fun t _ => by rw [z2 133 (by omega)])
          have hKZ := hIZ.2.1
          have s76 : same76 X Z := fun k _ _ => z2 k (by omega)
          have z134 : Z 134 = X 134 := z2 134 (by omega)
          refine e_of vX12_picks (Nat.le_of_ble_eq_true rfl) (cat_of rfl) (bX12_picks_0_1 (Nat.le_of_ble_eq_true rfl) hn z1 h1 h2 (Int32.not_lt.mpr h3.1) (by rw [z134]; exact hm3.2) (qX12_picks_39 (d' := 100) (rest := []) hn (by omega) (by decide) (c_X12_findNeeds (Nat.le_of_ble_eq_true rfl) hn z1 (okN_of hKZ) ⟨F, hF, by rw [z134, ef]⟩) (fun v W hv => ?_)))
          obtain ⟨rfl, rfl⟩ := hv
          have hSW : Sh n (lx_row Z 140 (mNd Z)) := z1.row (by decide +kernel)
          have w134 : lx_row Z 140 (mNd Z) 134 = X 134 := by rw [lx_row_ne _ _ _ (by omega), z134]
          refine bX12_picks_42_0 hn hSW (qX12_picks_46 (d' := 100) (rest := []) hn (by omega) (by decide) (k_X12_picksOf (by omega) hn hSW ⟨P, hP, by rw [w134, ep]⟩ ⟨F, hF, by rw [w134, ef]⟩) (fun v W hv => ?_))
          obtain ⟨rfl, rfl⟩ := hv
          refine bX12_picks_49_0 hn hSW ⟨?_, iv_140 hL hIZ⟩
          rw [← pks_eq hKZ (by omega) (by rw [w134, z134]) (lx_row_self _ _ _)]
          have e : pks Z s b c = pks X s b c := by
            unfold pks pkd
            rw [z2 2 (by omega), z2 37 (by omega), e6, ef, ix_nI (by omega)]
            refine sum_cg (fun f hf => ?_)
            by_cases w : sel c b f
            · rw [if_pos w, if_pos w, cBox_cg s76 (okK_of hK).2.1 (by omega)]
              refine sum_cg (fun p hp => ?_)
              rw [cNeed_cg s76 (okK_of hK).2.1, z2 6 (by omega)]
            · rw [if_neg w, if_neg w]
          rw [e]
      · have hm3 : ¬ (0 ≤ c ∧ c < 1 <<< (X 134 6 &&& 31)) := fun w => h3 (by rw [e6, ef]; exact hi.mpr (by rw [← ef]; exact w))
        refine jp_of hn hn2 (e_of vX11_picks (Nat.le_of_ble_eq_true rfl) (cat_of rfl) (bX11_picks_0_1 (Nat.le_of_ble_eq_true rfl) hn hX h1 h2 h3 ⟨rfl, rfl⟩)) (e_of vX12_picks (Nat.le_of_ble_eq_true rfl) (cat_of rfl) ?_) hI
        by_cases z : c < 0
        · exact bX12_picks_0_2 (Nat.le_of_ble_eq_true rfl) hn hX h1 h2 z ⟨rfl, rfl⟩
        · exact bX12_picks_0_0 (Nat.le_of_ble_eq_true rfl) hn hX h1 h2 z (fun w => hm3 ⟨Int32.not_lt.mp z, w⟩) ⟨rfl, rfl⟩
    · exact jp_of hn hn2 (e_of vX11_picks (Nat.le_of_ble_eq_true rfl) (cat_of rfl) (bX11_picks_0_2 (Nat.le_of_ble_eq_true rfl) hn hX h1 h2 ⟨rfl, rfl⟩)) (e_of vX12_picks (Nat.le_of_ble_eq_true rfl) (cat_of rfl) (bX12_picks_0_3 (Nat.le_of_ble_eq_true rfl) hn hX h1 h2 ⟨rfl, rfl⟩)) hI
  · exact jp_of hn hn2 (e_of vX11_picks (Nat.le_of_ble_eq_true rfl) (cat_of rfl) (bX11_picks_0_3 (Nat.le_of_ble_eq_true rfl) hn hX h1 ⟨rfl, rfl⟩)) (e_of vX12_picks (Nat.le_of_ble_eq_true rfl) (cat_of rfl) (bX12_picks_0_4 (Nat.le_of_ble_eq_true rfl) hn hX h1 ⟨rfl, rfl⟩)) hI
end PICKS
