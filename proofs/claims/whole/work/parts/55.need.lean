/-! NEEDS of today, both sides. -/
def cNeedAll (X : LX) (p : Nat) : Int32 := sumTo (fun f => cNeed X f (cBox X f) p) (ix (X 37 0))
/-- the model's table of needs, part by part, meal by meal, family by family -/
def ndk (X : LX) (f m : Nat) (r : Nat → Int32) : Nat → Nat → Int32
  | 0 => r
  | k + 1 => upd (ndk X f m r k) (14 * f + mQ X m k) (ndk X f m r k (14 * f + mQ X m k) + X 134 (318 + 13 * m + (8 + k)) * X 134 (448 + 15 * f + 1))
def ndm (X : LX) (f : Nat) (box : Int32) (r : Nat → Int32) : Nat → Nat → Int32
  | 0 => r
  | m + 1 => if hb box m then ndk X f m (ndm X f box r m) (mMany X m) else ndm X f box r m
def ndf (X : LX) (r : Nat → Int32) : Nat → Nat → Int32
  | 0 => r
  | f + 1 => ndm X f (mBox X f) (ndf X r f) 10
def mNd (X : LX) : Nat → Int32 := ndf X (fillTo (X 140) 0 168) (ix (X 134 6))
def mNeedAll (X : LX) (p : Nat) : Int32 := sumTo (fun f => X 140 (14 * f + p)) (ix (X 134 6))
/-- the model's functions look at its row alone -/
theorem mMay_cg {X X' : LX} (h : X' 134 = X 134) {f m : Nat} : mMay X' f m = mMay X f m := by simp only [mMay, mAll, mQ, mMany, h]
theorem okM_cg {X X' : LX} (h : X' 134 = X 134) {m : Nat} : okM X' m = okM X m := by simp only [okM, num, mMany, h]
theorem mGs_cg {X X' : LX} (h : X' 134 = X 134) {f : Nat} {b a : Int32} : ∀ i, mGs X' f b a i = mGs X f b a i
  | 0 => rfl
  | i + 1 => by
    unfold mGs
    rw [mGs_cg h i]
    simp only [mMay, mAll, mQ, mMany, h]
    exact ite_congr rfl (fun _ => rfl) (fun _ => rfl)
theorem mGuess_cg {X X' : LX} (h : X' 134 = X 134) {f : Nat} {b : Int32} : mGuess X' f b = mGuess X f b := by
  unfold mGuess mBefore
  rw [mGs_cg h, h]
theorem mBox_cg {X X' : LX} (h : X' 134 = X 134) {f : Nat} : mBox X' f = mBox X f := by
  unfold mBox mAdd
  simp only [mGuess_cg h, h]
theorem okN_cg {X X' : LX} (h : X' 134 = X 134) : okN X' = okN X := by
  unfold okN okD num
  simp only [okM_cg h, h]
section NEED
variable {LR : LX → (Nat → Int32) → Prop} {g : GG} {d n : Nat} {X : LX} {post : Option Value → LX → Prop}
theorem k_X1_needOfAll {p : Nat} (hd : 4 ≤ d) (hn : 146 ≤ n) (hX : Sh n X) (hp : p < 14) (hk : okK X) (hF : num X 37 0 12) : Ex g mX1_needOfAll d n n [.ref 1, .int (nI p)] X (rt (cNeedAll X p) X) := by
  obtain ⟨e1, e2⟩ := hF.eq (by omega)
  refine e_of vX1_needOfAll (Nat.le_of_ble_eq_true rfl) (cat_of rfl) (bX1_needOfAll_0_0 hn hX ?_)
  have loop : ∀ i, i ≤ ix (X 37 0) → Ev g mX1_needOfAll d n n (rt (cNeedAll X p) X) n 4 [some (.ref 1), some (.int (nI p)), some (.int (sumTo (fun f => cNeed X f (cBox X f) p) i)), some (.int (nI i))] [] X := by
    refine down ?_ ?_
    · exact bX1_needOfAll_4_1 hn hX (by rw [← e1]; exact Int32.le_refl _) ⟨rfl, rfl⟩
    · intro i hi k
      have c0 : ¬ X 37 0 ≤ nI i := by rw [e1]; exact nI_ge hi (by omega)
      rw [show nI (i + 1) = nI i + 1 from (nI_1 i).symm] at k
      exact bX1_needOfAll_4_0 hd hn hX c0 (by omega) hk hp hk.2.1 k
  exact loop 0 (Nat.zero_le _)
theorem k_X12_needOf {p : Nat} (hd : 0 ≤ d) (hn : 146 ≤ n) (hX : Sh n X) (hp : p < 14) (hF : num X 134 6 12) : Ex g mX12_needOf d n n [.ref 133, .int (nI p)] X (rt (mNeedAll X p) X) := by
  obtain ⟨e1, e2⟩ := hF.eq (by omega)
  refine e_of vX12_needOf (Nat.le_of_ble_eq_true rfl) (cat_of rfl) (bX12_needOf_0_0 hn hX ?_)
  have loop : ∀ i, i ≤ ix (X 134 6) → Ev g mX12_needOf d n n (rt (mNeedAll X p) X) n 4 [some (.ref 133), some (.int (nI p)), some (.int (sumTo (fun f => X 140 (14 * f + p)) i)), some (.int (nI i))] [] X := by
    refine down ?_ ?_
    · exact bX12_needOf_4_1 hn hX (by rw [← e1]; exact Int32.le_refl _) ⟨rfl, rfl⟩
    · intro i hi k
      have c0 : ¬ X 134 6 ≤ nI i := by rw [e1]; exact nI_ge hi (by omega)
      rw [show nI (i + 1) = nI i + 1 from (nI_1 i).symm] at k
      exact bX12_needOf_4_0 hn hX c0 (by omega) k
  exact loop 0 (Nat.zero_le _)
/-- one meal -/
theorem nd_loop_k {f m : Nat} {box : Int32} {r : Nat → Int32} (hd : 5 ≤ d) (hn : 146 ≤ n) (hX : Sh n X) (hf : f < 12) (hm : m < 10) (hk : okM X m) (hbx : hb box m) (k : Ev g mX12_findNeeds d n n post n 43 [some (.ref 133), some (.int (nI f)), some (.int box), some (.int (nI (m + 1))), none] [] (lx_row X 140 (ndk X f m r (mMany X m)))) : Ev g mX12_findNeeds d n n post n 52 [some (.ref 133), some (.int (nI f)), some (.int box), some (.int (nI m)), some (.int 0)] [] (lx_row X 140 r) := by
  have e2 := hk.1.eq (by omega)
  have x134 : ∀ r', lx_row X 140 r' 134 = X 134 := fun r' => lx_row_ne _ _ _ (by omega)
  have loop : ∀ i, i ≤ mMany X m → Ev g mX12_findNeeds d n n post n 52 [some (.ref 133), some (.int (nI f)), some (.int box), some (.int (nI m)), some (.int (nI i))] [] (lx_row X 140 (ndk X f m r i)) := by
    refine down ?_ ?_
    · rw [show nI (m + 1) = nI m + 1 from (nI_1 m).symm] at k
      exact bX12_findNeeds_52_2 (by omega) hn (hX.row (by decide +kernel)) (by omega) (by rw [x134, e2.1]; exact Int32.le_refl _) k
    · intro i hi kk
      have hq := hk.q i hi
      rw [show nI (i + 1) = nI i + 1 from (nI_1 i).symm] at kk
      have hi5 : i < 5 := Nat.lt_of_lt_of_le hi e2.2
      refine bX12_findNeeds_52_0 (by omega) hn (hX.row (by decide +kernel)) (by omega) (by rw [x134, e2.1]; exact nI_ge hi (Nat.lt_of_le_of_lt e2.2 (by omega))) hbx (by omega) (by rw [x134]; exact hq.1) (by have := hq.2; omega) (by omega) (by omega) ?_
      rw [x134, lx_row_self, lx_row_up]
      exact kk
  exact loop 0 (Nat.zero_le _)
theorem nd_loop_m {f : Nat} {box : Int32} {r : Nat → Int32} (hd : 5 ≤ d) (hn : 146 ≤ n) (hX : Sh n X) (hf : f < 12) (hk : ∀ m, m < 10 → okM X m) (k : Ev g mX12_findNeeds d n n post n 24 [some (.ref 133), some (.int (nI (f + 1))), none, none, none] [] (lx_row X 140 (ndm X f box r 10))) : Ev g mX12_findNeeds d n n post n 43 [some (.ref 133), some (.int (nI f)), some (.int box), some (.int 0), none] [] (lx_row X 140 r) := by
  have x134 : ∀ r', lx_row X 140 r' 134 = X 134 := fun r' => lx_row_ne _ _ _ (by omega)
  have loop : ∀ i, i ≤ 10 → Ev g mX12_findNeeds d n n post n 43 [some (.ref 133), some (.int (nI f)), some (.int box), some (.int (nI i)), none] [] (lx_row X 140 (ndm X f box r i)) := by
    refine down ?_ ?_
    · rw [show nI (f + 1) = nI f + 1 from (nI_1 f).symm] at k
      exact bX12_findNeeds_43_1 hn (hX.row (by decide +kernel)) (show nI 10 ≤ nI 10 from nI_le (by omega) (by omega)) k
    · intro m hm kk
      refine bX12_findNeeds_43_0 hn (hX.row (by decide +kernel)) (show ¬ nI 10 ≤ nI m from nI_ge hm (by omega)) ?_
      unfold ndm at kk
      by_cases c : hb box m
      · rw [if_pos c] at kk
        exact nd_loop_k hd hn hX hf hm (hk m hm) c kk
      · rw [if_neg c, show nI (m + 1) = nI m + 1 from (nI_1 m).symm] at kk
        have e2 := (hk m hm).1.eq (by omega)
        by_cases z : X 134 (318 + 13 * m + 2) ≤ 0
        · exact bX12_findNeeds_52_2 (by omega) hn (hX.row (by decide +kernel)) (by omega) (by rw [x134]; exact z) kk
        · exact bX12_findNeeds_52_1 (by omega) hn (hX.row (by decide +kernel)) (by omega) (by rw [x134]; exact z) c kk
  exact loop 0 (Nat.zero_le _)
theorem c_X12_findNeeds (hd : 5 ≤ d) (hn : 146 ≤ n) (hX : Sh n X) (hk : okN X) (hF : num X 134 6 12) : Ex g mX12_findNeeds d n n [.ref 133] X (rv (lx_row X 140 (mNd X))) := by
  obtain ⟨e1, e2⟩ := hF.eq (by omega)
  have x134 : ∀ r', lx_row X 140 r' 134 = X 134 := fun r' => lx_row_ne _ _ _ (by omega)
  refine e_of vX12_findNeeds (Nat.le_of_ble_eq_true rfl) (cat_of rfl) (bX12_findNeeds_0_0 hn hX ?_)
  have loopf : ∀ i, i ≤ ix (X 134 6) → Ev g mX12_findNeeds d n n (rv (lx_row X 140 (mNd X))) n 24 [some (.ref 133), some (.int (nI i)), none, none, none] [] (lx_row X 140 (ndf X (fillTo (X 140) 0 168) i)) := by
    refine down ?_ ?_
    · exact bX12_findNeeds_24_1 hn (hX.row (by decide +kernel)) (by rw [x134, ← e1]; exact Int32.le_refl _) ⟨rfl, rfl⟩
    · intro f hf kk
      refine bX12_findNeeds_24_0 hd hn (hX.row (by decide +kernel)) (by rw [x134, e1]; exact nI_ge hf (by omega)) (by omega) (by rw [okN_cg (x134 _)]; exact hk) ?_
      rw [mBox_cg (x134 _)]
      exact nd_loop_m hd hn hX (by omega) hk.1 kk
  have loopz : ∀ i, i ≤ 168 → Ev g mX12_findNeeds d n n (rv (lx_row X 140 (mNd X))) n 2 [some (.ref 133), some (.int (nI i)), none, none, none] [] (lx_row X 140 (fillTo (X 140) 0 i)) := by
    refine down ?_ ?_
    · exact bX12_findNeeds_2_1 hn (hX.row (by decide +kernel)) (show nI 168 ≤ nI 168 from nI_le (by omega) (by omega)) (loopf 0 (Nat.zero_le _))
    · intro i hi kk
      rw [show nI (i + 1) = nI i + 1 from (nI_1 i).symm] at kk
      refine bX12_findNeeds_2_0 hn (hX.row (by decide +kernel)) (show ¬ nI 168 ≤ nI i from nI_ge hi (by omega)) hi ?_
      rw [lx_row_up, fillTo_s]
      exact kk
  have h := loopz 0 (Nat.zero_le _)
  rw [fillTo_0, lx_row_id] at h
  exact h
end NEED
