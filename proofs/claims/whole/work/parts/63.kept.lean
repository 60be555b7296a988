/-! THE CALLS, 23: kept; what the search for menus gathers. -/
theorem bt_or {c : Nat → Prop} [∀ m, Decidable (c m)] {k : Nat} (hk : k < 32) : ∀ {M : Nat}, M ≤ 31 → bt (orTo (fun m => if c m then 1 <<< (nI m &&& 31) else 0) M) k = decide (k < M ∧ c k)
  | 0, _ => by
    show bt 0 k = _
    rw [b_0, decide_eq_false (fun w => absurd w.1 (Nat.not_lt_zero _))]
  | M + 1, hM => by
    show bt (orTo (fun m => if c m then 1 <<< (nI m &&& 31) else 0) M ||| (if c M then 1 <<< (nI M &&& 31) else 0)) k = _
    rw [b_or, bt_or hk (by omega)]
    have e : bt (if c M then (1 : Int32) <<< (nI M &&& 31) else 0) k = decide (k = M ∧ c M) := by
      by_cases h : c M
      · rw [if_pos h, b_shl M (by omega) 1 (by omega)]
        by_cases q : M ≤ k
        · rw [b_1 _ (by omega)]
          by_cases z : k = M
          · subst z; simp [h]
          · rw [decide_eq_true q, decide_eq_false (show ¬ k - M = 0 by omega), decide_eq_false (fun w => z w.1)]; rfl
        · rw [decide_eq_false q, decide_eq_false (fun w => by omega)]; rfl
      · rw [if_neg h, b_0, decide_eq_false (fun w => h w.2)]
    rw [e]
    by_cases z : k = M
    · subst z
      by_cases h : c k
      · rw [decide_eq_true (show k = k ∧ c k from ⟨rfl, h⟩), decide_eq_true (show k < k + 1 ∧ c k from ⟨by omega, h⟩)]; simp
      · rw [decide_eq_false (fun w => h w.2), decide_eq_false (fun w => h w.2), decide_eq_false (fun w => h w.2)]; rfl
    · rw [decide_eq_false (show ¬ (k = M ∧ c M) from fun w => z w.1), Bool.or_false]
      by_cases h : c k
      · by_cases q : k < M
        · rw [decide_eq_true ⟨q, h⟩, decide_eq_true ⟨by omega, h⟩]
        · rw [decide_eq_false (fun w => q w.1), decide_eq_false (fun w => by omega)]
      · rw [decide_eq_false (fun w => h w.2), decide_eq_false (fun w => h w.2)]
theorem nI_self (x : Int32) : x = nI x.toBitVec.toNat := by
  apply b_ext
  intro i hi
  rw [bt_nI hi]
  rfl
theorem nx_and (a b : Nat) : nI a &&& nI b = nI (a &&& b) := by
  apply Int32.toBitVec_inj.1
  show BitVec.ofNat 32 a &&& BitVec.ofNat 32 b = BitVec.ofNat 32 (a &&& b)
  apply BitVec.eq_of_getLsbD_eq
  intro i hi
  simp [hi]
theorem and_lt {x : Int32} {b M : Nat} (hb0 : b < 2 ^ M) : ∃ k, k < 2 ^ M ∧ x &&& nI b = nI k := by
  rw [nI_self x, nx_and]
  exact ⟨_, Nat.and_lt_two_pow _ hb0, rfl⟩
/-- how many bits a small set has, one by one -/
theorem ones_bt (v : Int32) : ones v = sumTo (fun k => if bt v k = true then 1 else 0) 16 := by
  unfold ones
  exact sum_cg (fun k hk => sh_1 (by omega))
def grn (X : LX) : Int32 := orTo (fun m => if isKd X m 2 then 1 <<< (nI m &&& 31) else 0) (ix (X 23 0))
def lkd (X : LX) (f i : Nat) : Int32 := orTo (fun m => if ¬ X (43 + 1 + f) m < 5 ∧ cMay X f m then 1 <<< (nI m &&& 31) else 0) i
/-- what is gathered for the search of menus -/
def Mg (n : Nat) (X Z : LX) : Prop := Sh n Z ∧ (∀ k, k ≠ 84 → k ≠ 85 → k ≠ 86 → Z k = X k) ∧ Z 84 3 = grn X ∧ (∀ m, m < ix (X 23 0) → Z 86 m = cCost X m) ∧ ∀ f, f < ix (X 37 0) → Z 85 f = lkd X f (ix (X 23 0))
def cKb (X : LX) (v : Int32) : Int32 := sumTo (fun f => if bc (X 85 f &&& v) < (if bc v < 2 then bc v else 2) then 0 else 1) (ix (X 37 0))
def mKf (X : LX) (v : Int32) (f : Nat) (i : Nat) : Int32 := sumTo (fun m => if hb v m ∧ mMay X f m ∧ ¬ X 134 (448 + 15 * f + (5 + m)) < 5 then 1 else 0) i
def mKb (X : LX) (v : Int32) : Int32 := sumTo (fun f => if mKf X v f 10 < (if ones v = 1 then 1 else 2) then 0 else 1) (ix (X 134 6))
theorem mKf_cg {X X' : LX} (h : X' 134 = X 134) {v : Int32} {f i : Nat} : mKf X' v f i = mKf X v f i := by
  unfold mKf
  exact sum_cg (fun m _ => ite_congr (by rw [mMay_cg h, h]) (fun _ => rfl) (fun _ => rfl))
theorem mKb_cg {X X' : LX} (h : X' 134 = X 134) {v : Int32} : mKb X' v = mKb X v := by
  unfold mKb
  simp only [mKf_cg h, h]
section KEPT
variable {LR : LX → (Nat → Int32) → Prop} {g : GG} {d n : Nat} {X : LX} {post : Option Value → LX → Prop}
theorem c_X6_gather (hd : 2 ≤ d) (hn : 146 ≤ n) (hX : Sh n X) (hP : num X 2 0 14) (hM : num X 23 0 10) (hF : num X 37 0 12) : Ex g mX6_gather d n n [.ref 84] X (fun v Z => v = none ∧ Mg n X Z) := by
  obtain ⟨e1, e2⟩ := hF.eq (by omega)
  obtain ⟨m1, m2⟩ := hM.eq (by omega)
  refine e_of vX6_gather (Nat.le_of_ble_eq_true rfl) (cat_of rfl) (bX6_gather_0_0 hn hX ?_)
  have s76 : ∀ Z : LX, (∀ k, k ≠ 84 → k ≠ 85 → k ≠ 86 → Z k = X k) → same76 X Z := fun Z h k _ _ => h k (by omega) (by omega) (by omega)
  -- likes of one family
  have loopm : ∀ f, f < 12 → (∀ Z, Sh n Z → (∀ k, k ≠ 84 → k ≠ 85 → k ≠ 86 → Z k = X k) → Z 84 3 = grn X → (∀ m, m < ix (X 23 0) → Z 86 m = cCost X m) → (∀ q, q < f → Z 85 q = lkd X q (ix (X 23 0))) → Z 85 f = lkd X f (ix (X 23 0)) → Ev g mX6_gather d n n (fun v Z => v = none ∧ Mg n X Z) n 74 [some (.ref 84), some (.ref 23), some (.ref 37), some (.int (nI (f + 1))), none] [] Z) → ∀ i, i ≤ ix (X 23 0) → ∀ Z, Sh n Z → (∀ k, k ≠ 84 → k ≠ 85 → k ≠ 86 → Z k = X k) → Z 84 3 = grn X → (∀ m, m < ix (X 23 0) → Z 86 m = cCost X m) → (∀ q, q < f → Z 85 q = lkd X q (ix (X 23 0))) → Z 85 f = lkd X f i → Ev g mX6_gather d n n (fun v Z => v = none ∧ Mg n X Z) n 92 [some (.ref 84), some (.ref 23), some (.ref 37), some (.int (nI f)), some (.int (nI i))] [] Z := by
    intro f hf k
    refine down ?_ ?_
    · intro Z z1 z2 z3 z4 z5 z6
      have kk := k Z z1 z2 z3 z4 z5 z6
      rw [show nI (f + 1) = nI f + 1 from (nI_1 f).symm] at kk
      exact bX6_gather_92_3 hn z1 (by rw [z2 23 (by omega) (by omega) (by omega), ← m1]; exact Int32.le_refl _) kk
    · intro i hi kk Z z1 z2 z3 z4 z5 z6
      rw [show nI (i + 1) = nI i + 1 from (nI_1 i).symm] at kk
      have c0 : ¬ Z 23 0 ≤ nI i := by rw [z2 23 (by omega) (by omega) (by omega), m1]; exact nI_ge hi (by omega)
      have eL : Z (43 + 1 + f) i = X (43 + 1 + f) i := by rw [z2 (43 + 1 + f) (by omega) (by omega) (by omega)]
      have hs : lkd X f (i + 1) = lkd X f i ||| (if ¬ X (43 + 1 + f) i < 5 ∧ cMay X f i then 1 <<< (nI i &&& 31) else 0) := rfl
      by_cases c : X (43 + 1 + f) i < 5
      · refine bX6_gather_92_2 hn z1 c0 hf (by omega) (by rw [eL]; exact c) (kk Z z1 z2 z3 z4 z5 ?_)
        rw [hs, if_neg (fun w => w.1 c), Int32.or_zero, z6]
      · have hP2 : num Z 2 0 14 := by rw [num_cg (z2 2 (by omega) (by omega) (by omega))]; exact hP
        by_cases cm : cMay X f i
        · refine bX6_gather_92_0 hd hn z1 c0 hf (by omega) (by rw [eL]; exact c) hf (by omega) hP2 ((cMay_cg (s76 Z z2) (by omega)).mpr cm) (kk _ (z1.upA (by decide +kernel)) (fun k h1 h2 h3 => by rw [up_ne h2, z2 k h1 h2 h3]) (by rw [up_ne (by omega), z3]) (fun m hm => by rw [up_ne (by omega), z4 m hm]) (fun q hq => by rw [up_at (by omega), z5 q hq]) ?_)
          rw [up_it, z6, hs, if_pos ⟨c, cm⟩]
        · refine bX6_gather_92_1 hd hn z1 c0 hf (by omega) (by rw [eL]; exact c) hf (by omega) hP2 (fun w => cm ((cMay_cg (s76 Z z2) (by omega)).mp w)) (kk Z z1 z2 z3 z4 z5 ?_)
          rw [hs, if_neg (fun w => cm w.2), Int32.or_zero, z6]
  have loopf : ∀ i, i ≤ ix (X 37 0) → ∀ Z, Sh n Z → (∀ k, k ≠ 84 → k ≠ 85 → k ≠ 86 → Z k = X k) → Z 84 3 = grn X → (∀ m, m < ix (X 23 0) → Z 86 m = cCost X m) → (∀ q, q < i → Z 85 q = lkd X q (ix (X 23 0))) → Ev g mX6_gather d n n (fun v Z => v = none ∧ Mg n X Z) n 74 [some (.ref 84), some (.ref 23), some (.ref 37), some (.int (nI i)), none] [] Z := by
    refine down ?_ ?_
    · intro Z z1 z2 z3 z4 z5
      exact bX6_gather_74_1 hn z1 (by rw [z2 37 (by omega) (by omega) (by omega), ← e1]; exact Int32.le_refl _) ⟨rfl, z1, z2, z3, z4, z5⟩
    · intro f hf kk Z z1 z2 z3 z4 z5
      refine bX6_gather_74_0 hn z1 (by rw [z2 37 (by omega) (by omega) (by omega), e1]; exact nI_ge hf (by omega)) (by omega) ?_
      refine loopm f (by omega) (fun W w1 w2 w3 w4 w5 w6 => kk W w1 w2 w3 w4 (fun q hq => ?_)) 0 (Nat.zero_le _) _ (z1.upA (by decide +kernel)) (fun k h1 h2 h3 => by rw [up_ne h2, z2 k h1 h2 h3]) (by rw [up_ne (by omega), z3]) (fun m hm => by rw [up_ne (by omega), z4 m hm]) (fun q hq => by rw [up_at (by omega), z5 q hq]) (by rw [up_it]; rfl)
      rcases Nat.lt_succ_iff_lt_or_eq.mp hq with h | h
      · exact w5 q h
      · subst h; exact w6
  have loopc : ∀ i, i ≤ ix (X 23 0) → ∀ Z, Sh n Z → (∀ k, k ≠ 84 → k ≠ 85 → k ≠ 86 → Z k = X k) → Z 84 3 = orTo (fun m => if isKd X m 2 then 1 <<< (nI m &&& 31) else 0) i → (∀ m, m < i → Z 86 m = cCost X m) → Ev g mX6_gather d n n (fun v Z => v = none ∧ Mg n X Z) n 23 [some (.ref 84), some (.ref 23), some (.ref 37), some (.int (nI i)), none] [] Z := by
    refine down ?_ ?_
    · intro Z z1 z2 z3 z4
      exact bX6_gather_23_2 hn z1 (by rw [z2 23 (by omega) (by omega) (by omega), ← m1]; exact Int32.le_refl _) (loopf 0 (Nat.zero_le _) Z z1 z2 z3 z4 (fun q hq => absurd hq (Nat.not_lt_zero _)))
    · intro i hi kk Z z1 z2 z3 z4
      rw [show nI (i + 1) = nI i + 1 from (nI_1 i).symm] at kk
      have c0 : ¬ Z 23 0 ≤ nI i := by rw [z2 23 (by omega) (by omega) (by omega), m1]; exact nI_ge hi (by omega)
      have hP2 : num Z 2 0 14 := by rw [num_cg (z2 2 (by omega) (by omega) (by omega))]; exact hP
      have ec : cCost Z i = cCost X i := by
        unfold cCost
        rw [z2 2 (by omega) (by omega) (by omega), z2 5 (by omega) (by omega) (by omega), z2 (26 + 1 + i) (by omega) (by omega) (by omega)]
      have ek : isKd (lx_up Z 86 i (cCost Z i)) i 2 ↔ isKd X i 2 := by
        unfold isKd
        rw [up_ne (by omega), z2 24 (by omega) (by omega) (by omega)]
      have hs : orTo (fun m => if isKd X m 2 then 1 <<< (nI m &&& 31) else 0) (i + 1) = orTo (fun m => if isKd X m 2 then 1 <<< (nI m &&& 31) else 0) i ||| (if isKd X i 2 then 1 <<< (nI i &&& 31) else 0) := rfl
      have h86 : ∀ m, m < i + 1 → lx_up Z 86 i (cCost Z i) 86 m = cCost X m := fun m hm => by
        by_cases z : m = i
        · subst z; rw [up_it, ec]
        · rw [up_at z, z4 m (by omega)]
      have z1' := z1.upA (j := i) (v := cCost Z i) (k := 86) (by decide +kernel)
      by_cases c : isKd X i 2
      · refine bX6_gather_23_0 (by omega) hn z1 c0 (by omega) hP2 (by omega) (ek.mpr c) (kk _ (z1'.upF (by decide +kernel) (by decide +kernel)) (fun k h1 h2 h3 => by rw [up_ne h1, up_ne h3, z2 k h1 h2 h3]) ?_ (fun m hm => by rw [up_ne (by omega), h86 m hm]))
        rw [up_it, hs, if_pos c, z3]
      · refine bX6_gather_23_1 (by omega) hn z1 c0 (by omega) hP2 (by omega) (fun w => c (ek.mp w)) (kk _ z1' (fun k h1 h2 h3 => by rw [up_ne h3, z2 k h1 h2 h3]) ?_ h86)
        rw [up_ne (by omega), hs, if_neg c, Int32.or_zero, z3]
  exact loopc 0 (Nat.zero_le _) _ (hX.upF (by decide +kernel) (by decide +kernel)) (fun k h1 _ _ => up_ne h1) (by rw [up_it]; rfl) (fun m hm => absurd hm (Nat.not_lt_zero _))
theorem k_X6_keptBy {v : Int32} (hd : 1 ≤ d) (hn : 146 ≤ n) (hX : Sh n X) (hF : num X 37 0 12) : Ex g mX6_keptBy d n n [.ref 84, .int v] X (rt (cKb X v) X) := by
  obtain ⟨e1, e2⟩ := hF.eq (by omega)
  refine e_of vX6_keptBy (Nat.le_of_ble_eq_true rfl) (cat_of rfl) (bX6_keptBy_0_0 hd hn hX ?_)
  have loop : ∀ i, i ≤ ix (X 37 0) → Ev g mX6_keptBy d n n (rt (cKb X v) X) n 14 [some (.ref 84), some (.int v), some (.int (if bc v < 2 then bc v else 2)), some (.int (sumTo (fun f => if bc (X 85 f &&& v) < (if bc v < 2 then bc v else 2) then 0 else 1) i)), some (.int (nI i))] [] X := by
    refine down ?_ ?_
    · exact bX6_keptBy_14_2 hn hX (by rw [← e1]; exact Int32.le_refl _) ⟨rfl, rfl⟩
    · intro i hi k
      have c0 : ¬ X 37 0 ≤ nI i := by rw [e1]; exact nI_ge hi (by omega)
      rw [show nI (i + 1) = nI i + 1 from (nI_1 i).symm] at k
      by_cases c : bc (X 85 i &&& v) < (if bc v < 2 then bc v else 2)
      · rw [show sumTo (fun f => if bc (X 85 f &&& v) < (if bc v < 2 then bc v else 2) then (0 : Int32) else 1) (i + 1) = sumTo (fun f => if bc (X 85 f &&& v) < (if bc v < 2 then bc v else 2) then (0 : Int32) else 1) i by simp only [sumTo, if_pos c, Int32.add_zero]] at k
        exact bX6_keptBy_14_1 hd hn hX c0 (by omega) c k
      · rw [show sumTo (fun f => if bc (X 85 f &&& v) < (if bc v < 2 then bc v else 2) then (0 : Int32) else 1) (i + 1) = sumTo (fun f => if bc (X 85 f &&& v) < (if bc v < 2 then bc v else 2) then (0 : Int32) else 1) i + 1 by simp only [sumTo, if_neg c]] at k
        exact bX6_keptBy_14_0 hd hn hX c0 (by omega) c k
  exact loop 0 (Nat.zero_le _)
theorem k_X12_keptBy {v : Int32} (hd : 3 ≤ d) (hn : 146 ≤ n) (hX : Sh n X) (hk : ∀ m, m < 10 → okM X m) (hF : num X 134 6 12) : Ex g mX12_keptBy d n n [.ref 133, .int v] X (rt (mKb X v) X) := by
  obtain ⟨e1, e2⟩ := hF.eq (by omega)
  have inner : ∀ f, f < 12 → ∀ (l a : Int32), Ev g mX12_keptBy d n n (rt (mKb X v) X) n 19 [some (.ref 133), some (.int v), some (.int l), some (.int (a + if mKf X v f 10 < l then 0 else 1)), some (.int (nI (f + 1))), none, none] [] X → ∀ i, i ≤ 10 → Ev g mX12_keptBy d n n (rt (mKb X v) X) n 37 [some (.ref 133), some (.int v), some (.int l), some (.int a), some (.int (nI f)), some (.int (mKf X v f i)), some (.int (nI i))] [] X := by
    intro f hf l a k
    refine down ?_ ?_
    · rw [show nI (f + 1) = nI f + 1 from (nI_1 f).symm] at k
      by_cases c : mKf X v f 10 < l
      · rw [if_pos c] at k
        exact bX12_keptBy_37_5 hn hX (show nI 10 ≤ nI 10 from nI_le (by omega) (by omega)) c k
      · rw [if_neg c] at k
        exact bX12_keptBy_37_4 hn hX (show nI 10 ≤ nI 10 from nI_le (by omega) (by omega)) c k
    · intro i hi kk
      have c0 : ¬ (10 : Int32) ≤ nI i := show ¬ nI 10 ≤ nI i from nI_ge hi (by omega)
      rw [show nI (i + 1) = nI i + 1 from (nI_1 i).symm, show mKf X v f (i + 1) = mKf X v f i + (if hb v i ∧ mMay X f i ∧ ¬ X 134 (448 + 15 * f + (5 + i)) < 5 then 1 else 0) from rfl] at kk
      by_cases c : hb v i
      · by_cases cm : mMay X f i
        · by_cases cl : X 134 (448 + 15 * f + (5 + i)) < 5
          · rw [if_neg (fun w => w.2.2 cl)] at kk
            exact bX12_keptBy_37_1 hd hn hX c0 c hf hi (hk i hi) cm (by omega) cl kk
          · rw [if_pos ⟨c, cm, cl⟩] at kk
            exact bX12_keptBy_37_0 hd hn hX c0 c hf hi (hk i hi) cm (by omega) cl kk
        · rw [if_neg (fun w => cm w.2.1)] at kk
          exact bX12_keptBy_37_2 hd hn hX c0 c hf hi (hk i hi) cm kk
      · rw [if_neg (fun w => c w.1)] at kk
        exact bX12_keptBy_37_3 (by omega) hn hX c0 c kk
  have loop : ∀ i, i ≤ ix (X 134 6) → Ev g mX12_keptBy d n n (rt (mKb X v) X) n 19 [some (.ref 133), some (.int v), some (.int (if ones v = 1 then 1 else 2)), some (.int (sumTo (fun f => if mKf X v f 10 < (if ones v = 1 then 1 else 2) then 0 else 1) i)), some (.int (nI i)), none, none] [] X := by
    refine down ?_ ?_
    · exact bX12_keptBy_19_1 hn hX (by rw [← e1]; exact Int32.le_refl _) ⟨rfl, rfl⟩
    · intro f hf k
      have c0 : ¬ X 134 6 ≤ nI f := by rw [e1]; exact nI_ge hf (by omega)
      exact bX12_keptBy_19_0 hn hX c0 (inner f (by omega) _ _ k 0 (Nat.zero_le _))
  refine e_of vX12_keptBy (Nat.le_of_ble_eq_true rfl) (cat_of rfl) ?_
  by_cases c : ones v = 1
  · have h := loop 0 (Nat.zero_le _)
    rw [if_pos c] at h
    exact bX12_keptBy_0_0 (by omega) hn hX c h
  · have h := loop 0 (Nat.zero_le _)
    rw [if_neg c] at h
    exact bX12_keptBy_0_1 (by omega) hn hX c h
theorem least_eq : ∀ b, b < 1024 → b ≠ 0 → (if bc (nI b) < 2 then bc (nI b) else 2) = (if ones (nI b) = 1 then 1 else 2) := by decide +kernel
/-- a menu keeps the same families on both sides -/
theorem kb_eq (hK : KR LR X (X 134)) {Z : LX} (hZ : Mg n X Z) {b : Nat} (hb0 : b < 2 ^ ix (X 134 5)) (hb1 : b ≠ 0) : cKb Z (nI b) = mKb X (nI b) := by
  obtain ⟨M, hM, e23, e5, eix, -⟩ := hK.meals
  obtain ⟨⟨-, -, -, -, -, -, e6, -⟩, -, -, -, -, ⟨F, hF, ef⟩, -⟩ := hK.1
  obtain ⟨z1, z2, z3, z4, z5⟩ := hZ
  rw [eix] at hb0
  unfold cKb mKb
  rw [z2 37 (by omega) (by omega) (by omega), e6, ef, ix_nI (by omega), least_eq b (pow_10 hM hb0) hb1]
  refine sum_cg (fun f hf => ?_)
  have hlt : nI f < X 134 6 := by rw [ef, nI_lt_iff (by omega) (by omega)]; exact hf
  have hf37 : f < ix (X 37 0) := by rw [e6, ef, ix_nI (by omega)]; exact hf
  have e : bc (Z 85 f &&& nI b) = mKf X (nI b) f 10 := by
    obtain ⟨k, hk, ek⟩ := and_lt (x := Z 85 f) hb0
    rw [ek, bc_ones k (pow_10 hM hk), ← ek, ones_bt, z5 f hf37, e23, ix_nI (by omega)]
    unfold mKf
    rw [show (16 : Nat) = 10 + 6 from rfl, sum_ext (fun i h1 h2 => by
      rw [b_and, bt_nI (by omega), Nat.testBit_lt_two_pow (Nat.lt_of_lt_of_le (pow_10 hM hb0) (Nat.pow_le_pow_right (n := 2) (i := 10) (by omega) h1)), Bool.and_false, if_neg (by decide)])]
    refine sum_cg (fun m hm => ?_)
    unfold lkd
    rw [b_and, bt_or (c := fun m => ¬ X (43 + 1 + f) m < 5 ∧ cMay X f m) (by omega) (by omega)]
    have hlk := ((hK.2.2.2.2.1 f (by omega)).1 hlt).2.2.2.2.2 m hm
    by_cases c : hb (nI b) m
    · have hmM := hb_lt hb0 (by omega) c
      rw [(hb_bt (by omega)).mp c, Bool.and_true]
      by_cases c2 : ¬ X (43 + 1 + f) m < 5 ∧ cMay X f m
      · rw [decide_eq_true ⟨hmM, c2⟩, if_pos rfl, if_pos ⟨c, (may_iff hK hlt (by omega) hm).mp c2.2, by rw [← hlk]; exact c2.1⟩]
      · rw [decide_eq_false (fun w => c2 w.2), if_neg (by decide), if_neg (fun w => c2 ⟨by rw [hlk]; exact w.2.2, (may_iff hK hlt (by omega) hm).mpr w.2.1⟩)]
    · have c' : bt (nI b) m = false := by
        cases h : bt (nI b) m
        · rfl
        · exact absurd ((hb_bt (by omega)).mpr h) c
      rw [c', Bool.and_false, if_neg (by decide), if_neg (fun w => c w.1)]
  rw [e]
theorem jp_kept (hL : LRok LR) {a : Int32} (hn : 146 ≤ n) (hn2 : n ≤ 226) (hI : Iv LR n X) : JP g (Iv LR) mX11_kept mX12_kept [.int a] n X := by
  obtain ⟨hX, hK, hT, hB⟩ := id hI
  obtain ⟨⟨-, -, -, -, e4, e5', e6, -⟩, -, -, ⟨P, hP, ep⟩, -, ⟨F, hF, ef⟩, -⟩ := hK.1
  obtain ⟨M, hM, e23, e5, eix, -⟩ := hK.meals
  have hi := bits_iff (v := a) (M := M) (by omega)
  rw [← e23] at hi
  by_cases h : 0 ≤ a ∧ a >>> (X 23 0 &&& 31) = 0
  · have hm := hi.mp h
    rw [e5'] at hm
    obtain ⟨b, hb0, rfl⟩ := bits_num (M := M) (by omega) (by rw [← e23]; exact h)
    have eb := bc_ones b (pow_10 hM hb0)
    by_cases h2 : 1 ≤ bc (nI b) ∧ bc (nI b) ≤ 4
    · have hb1 : b ≠ 0 := fun w => by subst w; exact absurd h2.1 (by decide +kernel)
      refine jp_rel (fun r Z => r = cKb Z (nI b) ∧ Mg n X Z) hn hn2 (e_of vX11_kept (Nat.le_of_ble_eq_true rfl) (cat_of rfl) (bX11_kept_0_0 (Nat.le_of_ble_eq_true rfl) hn hX h h2 (qX11_kept_36 (d' := 100) (rest := []) hn (by omega) (by decide) (c_X6_gather (by omega) hn hX ⟨P, hP, e4.trans ep⟩ ⟨M, hM, e23⟩ ⟨F, hF, e6.trans ef⟩) (fun v Z hv => ?_)))) (fun r Z hZ => ?_)
      · obtain ⟨rfl, hZ⟩ := hv
        have hF2 : num Z 37 0 12 := by rw [num_cg (hZ.2.1 37 (by omega) (by omega) (by omega))]; exact ⟨F, hF, e6.trans ef⟩
        refine bX11_kept_39_0 hn hZ.1 (qX11_kept_44 (d' := 100) (rest := []) hn (by omega) (by decide) (k_X6_keptBy (by omega) hn hZ.1 hF2) (fun v W hv => ?_))
        obtain ⟨rfl, rfl⟩ := hv
        exact bX11_kept_47_0 hn hZ.1 ⟨_, rfl, rfl, hZ⟩
      · obtain ⟨rfl, hZ⟩ := hZ
        have z2 := hZ.2.1
        have z134 : Z 134 = X 134 := z2 134 (by omega) (by omega) (by omega)
        have hIZ : Iv LR n Z := iv_scr hL hI hZ.1 (fun k hk => z2 k (by omega) (by omega) (by omega)) (by rw [z2 81 (by omega) (by omega) (by omega)]) (fun t _ => by rw [z2 133 (by omega) (by omega) (by omega)])
        refine e_of vX12_kept (Nat.le_of_ble_eq_true rfl) (cat_of rfl) (bX12_kept_0_0 hn hZ.1 (qX12_kept_2 (d' := 100) (rest := []) hn (by omega) (by decide) (t_X12_areMeals hn hZ.1 (by rw [z134]; exact hm)) (fun v W hv => ?_)))
        obtain ⟨rfl, hW⟩ := hv
        rw [hW]
        refine bX12_kept_5_0 (Nat.le_of_ble_eq_true rfl) hn hZ.1 (by decide) (by rw [← eb]; exact h2) (qX12_kept_27 (d' := 100) (rest := []) hn (by omega) (by decide) (k_X12_keptBy (by omega) hn hZ.1 (fun m hm => ok_meal (hIZ.2.1.2.2.2.1 m hm).2.2.2) ⟨F, hF, by rw [z134, ef]⟩) (fun v W hv => ?_))
        obtain ⟨rfl, hW⟩ := hv
        rw [hW]
        refine bX12_kept_30_0 hn hZ.1 ⟨?_, hIZ⟩
        rw [kb_eq hK hZ (by rw [eix]; exact hb0) hb1]
        rw [mKb_cg z134]
    · refine jp_of hn hn2 (e_of vX11_kept (Nat.le_of_ble_eq_true rfl) (cat_of rfl) (bX11_kept_0_1 (Nat.le_of_ble_eq_true rfl) hn hX h h2 ⟨rfl, rfl⟩)) (e_of vX12_kept (Nat.le_of_ble_eq_true rfl) (cat_of rfl) (bX12_kept_0_0 hn hX (qX12_kept_2 (d' := 100) (rest := []) hn (by omega) (by decide) (t_X12_areMeals hn hX hm) (fun v W hv => ?_)))) hI
      obtain ⟨rfl, rfl⟩ := hv
      exact bX12_kept_5_1 (Nat.le_of_ble_eq_true rfl) hn hX (by decide) (by rw [← eb]; exact h2) ⟨rfl, rfl⟩
  · have hm := fun w => h (hi.mpr w)
    rw [e5'] at hm
    refine jp_of hn hn2 (e_of vX11_kept (Nat.le_of_ble_eq_true rfl) (cat_of rfl) (bX11_kept_0_2 (Nat.le_of_ble_eq_true rfl) hn hX h ⟨rfl, rfl⟩)) (e_of vX12_kept (Nat.le_of_ble_eq_true rfl) (cat_of rfl) (bX12_kept_0_0 hn hX (qX12_kept_2 (d' := 100) (rest := []) hn (by omega) (by decide) (f_X12_areMeals hn hX hm) (fun v W hv => ?_)))) hI
    obtain ⟨rfl, rfl⟩ := hv
    exact bX12_kept_5_2 hn hX rfl ⟨rfl, rfl⟩
end KEPT
