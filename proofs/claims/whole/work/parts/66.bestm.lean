/-! THE CALLS, 24, the model's side: takeMenu, menuFrom, best. -/
def bBm (Z : LX) : Option (Int32 × Int32 × Int32) → Prop
  | none => Z 133 23 = -1
  | some q => Z 133 23 = q.1 ∧ Z 133 24 = q.2.1 ∧ Z 133 25 = q.2.2 ∧ 0 ≤ q.1
def Bm (n : Nat) (X : LX) (Z : LX) (s : BS) : Prop := Sh n Z ∧ (∀ k, k ≠ 133 → Z k = X k) ∧ (∀ t, t < 21 ∨ 25 < t → Z 133 t = X 133 t) ∧ s.1 ≤ 5000 ∧ Z 133 21 = nI s.1 ∧ Z 133 22 = (if s.2.1 = true then 1 else 0) ∧ bBm Z s.2.2
def grM (X : LX) (v : Int32) : Nat → Bool
  | 0 => false
  | m + 1 => grM X v m || decide (hb v m ∧ 2 ≤ X 134 (318 + 13 * m + 0))
def csM (X : LX) (v : Int32) (i : Nat) : Int32 := sumTo (fun m => if hb v m then mCost X m else 0) i
theorem grM_s (X : LX) (v : Int32) (m : Nat) : grM X v (m + 1) = (grM X v m || decide (hb v m ∧ 2 ≤ X 134 (318 + 13 * m + 0))) := rfl
theorem csM_s (X : LX) (v : Int32) (m : Nat) : csM X v (m + 1) = csM X v m + (if hb v m then mCost X m else 0) := rfl
theorem mCost_cg {X X' : LX} (h : X' 134 = X 134) {m : Nat} : mCost X' m = mCost X m := by unfold mCost mQ mMany; rw [h]
section BESTM
variable {LR : LX → (Nat → Int32) → Prop} {g : GG} {n : Nat} {X : LX} {M : Nat} {ts : Nat → Nat}
theorem Bm.upd {Z Z' : LX} {s s' : BS} (h : Bm n X Z s) (hS : Sh n Z') (hC : ∀ k, k ≠ 133 → Z' k = Z k) (h133 : ∀ t, t < 21 ∨ 25 < t → Z' 133 t = Z 133 t) (hl : s'.1 ≤ 5000) (h21 : Z' 133 21 = nI s'.1) (h22 : Z' 133 22 = (if s'.2.1 = true then 1 else 0)) (hb : bBm Z' s'.2.2) : Bm n X Z' s' :=
  ⟨hS, fun k hk => by rw [hC k hk, h.2.1 k hk], fun t ht => by rw [h133 t ht, h.2.2.1 t ht], hl, h21, h22, hb⟩
theorem bBm.same {Z Z' : LX} {o : Option (Int32 × Int32 × Int32)} (h : bBm Z o) (he : ∀ t, t = 23 ∨ t = 24 ∨ t = 25 → Z' 133 t = Z 133 t) : bBm Z' o := by
  cases o with
  | none => show Z' 133 23 = -1; rw [he 23 (by omega)]; exact h
  | some q => exact ⟨by rw [he 23 (by omega)]; exact h.1, by rw [he 24 (by omega)]; exact h.2.1, by rw [he 25 (by omega)]; exact h.2.2.1, h.2.2.2⟩
abbrev bUpM (X : LX) (v : Int32) (s : BS) : BS := bUp (fun w => grM X w 10) (mKb X) (fun w => csM X w 10) v s
abbrev bSrM (X : LX) (M : Nat) (ts : Nat → Nat) := bSr (fun w => grM X w 10) (mKb X) (fun w => csM X w 10) M ts
theorem m_takeMenu {d : Nat} {v : Int32} {Z : LX} {s : BS} (hd : 4 ≤ d) (hn : 146 ≤ n) (hv0 : 0 ≤ v) (hk : ∀ m, m < 10 → okM X m) (hF : num X 134 6 12) (hZ : Bm n X Z s) : Ex g mX12_takeMenu d n n [.ref 133, .int v] Z (fun w Z' => w = none ∧ Bm n X Z' (bUpM X v s)) := by
  obtain ⟨z1, z2, z3, z4, z5, z6, z7⟩ := id hZ
  have z134 : Z 134 = X 134 := z2 134 (by omega)
  have hkZ : ∀ m, m < 10 → okM Z m := fun m hm => by rw [okM_cg z134]; exact hk m hm
  refine e_of vX12_takeMenu (Nat.le_of_ble_eq_true rfl) (cat_of rfl) (bX12_takeMenu_0_0 hn z1 ?_)
  have loop : ∀ i, i ≤ 10 → Ev g mX12_takeMenu d n n (fun w Z' => w = none ∧ Bm n X Z' (bUpM X v s)) n 7 [some (.ref 133), some (.int v), some (.int (if grM X v i = true then 1 else 0)), some (.int (csM X v i)), some (.int (nI i))] [] Z := by
    refine down ?_ ?_
    · refine bX12_takeMenu_7_8 hn z1 (show nI 10 ≤ nI 10 from nI_le (by omega) (by omega)) (qX12_takeMenu_72 (d' := d - 1) (rest := []) hn (by omega) (by decide) (k_X12_keptBy (by omega) hn z1 hkZ (by rw [num_cg z134]; exact hF)) (fun w W hv => ?_))
      obtain ⟨rfl, hW⟩ := hv
      rw [hW, mKb_cg z134]
      have hyes : grM X v 10 = true → bBt s.2.2 (mKb X v) (csM X v 10) = true → Bm n X (lx_up (lx_up (lx_up Z 133 23 v) 133 24 (mKb X v)) 133 25 (csM X v 10)) (bUpM X v s) := by
        intro hg hb
        show Bm n X _ (if (grM X v 10 && bBt s.2.2 (mKb X v) (csM X v 10)) = true then (s.1, s.2.1, some (v, mKb X v, csM X v 10)) else s)
        rw [hg, hb, if_pos (show (true && true) = true from rfl)]
        refine hZ.upd (s' := (s.1, s.2.1, some (v, mKb X v, csM X v 10))) (((z1.upF (by decide +kernel) (by decide +kernel)).upF (by decide +kernel) (by decide +kernel)).upF (by decide +kernel) (by decide +kernel)) (fun k hk => by rw [up_ne hk, up_ne hk, up_ne hk]) (fun t ht => by rw [up_at (by omega), up_at (by omega), up_at (by omega)]) z4 (by rw [up_at (by omega), up_at (by omega), up_at (by omega)]; exact z5) (by rw [up_at (by omega), up_at (by omega), up_at (by omega)]; exact z6) ⟨by rw [up_at (by omega), up_at (by omega), up_it], by rw [up_at (by omega), up_it], up_it, hv0⟩
      have hno : (grM X v 10 && bBt s.2.2 (mKb X v) (csM X v 10)) = false → Bm n X Z (bUpM X v s) := by
        intro hb
        show Bm n X _ (if (grM X v 10 && bBt s.2.2 (mKb X v) (csM X v 10)) = true then (s.1, s.2.1, some (v, mKb X v, csM X v 10)) else s)
        rw [hb, if_neg (by decide)]
        exact hZ
      cases hg : grM X v 10 with
      | false =>
        rw [hg] at hno
        rw [if_neg (show ¬ false = true by decide)]
        exact bX12_takeMenu_75_5 hn z1 rfl ⟨rfl, hno rfl⟩
      | true =>
        rw [hg] at hno
        rw [if_pos rfl]
        have c0 : ¬ (1 : Int32) = 0 := by decide
        cases hs : s.2.2 with
        | none =>
          rw [hs] at z7 hyes
          exact bX12_takeMenu_75_4 hn z1 c0 (by rw [show Z 133 23 = -1 from z7]; decide) ⟨rfl, hyes hg rfl⟩
        | some q =>
          rw [hs] at z7 hyes hno
          obtain ⟨q6, q7, q8, q9⟩ := z7
          have c1 : ¬ Z 133 23 < 0 := by rw [q6]; exact Int32.not_lt.mpr q9
          by_cases h6 : Z 133 24 < mKb X v
          · exact bX12_takeMenu_75_3 hn z1 c0 c1 h6 ⟨rfl, hyes hg (decide_eq_true (Or.inl (by rw [← q7]; exact h6)))⟩
          · by_cases h7 : mKb X v = Z 133 24
            · by_cases h8 : Z 133 25 ≤ csM X v 10
              · refine bX12_takeMenu_75_1 hn z1 c0 c1 h6 h7 h8 ⟨rfl, hno ?_⟩
                rw [Bool.true_and]
                refine decide_eq_false (fun w => ?_)
                rcases w with w | w
                · rw [← q7] at w; exact h6 w
                · rw [q8] at h8; exact Int32.not_lt.mpr h8 w.2
              · exact bX12_takeMenu_75_0 hn z1 c0 c1 h6 h7 h8 ⟨rfl, hyes hg (decide_eq_true (Or.inr ⟨by rw [← q7]; exact h7, by rw [← q8]; exact Int32.not_le.mp h8⟩))⟩
            · refine bX12_takeMenu_75_2 hn z1 c0 c1 h6 h7 ⟨rfl, hno ?_⟩
              rw [Bool.true_and]
              refine decide_eq_false (fun w => ?_)
              rcases w with w | w
              · rw [← q7] at w; exact h6 w
              · rw [← q7] at w; exact h7 w.1
    · intro i hi k
      have c0 : ¬ (10 : Int32) ≤ nI i := show ¬ nI 10 ≤ nI i from nI_ge hi (by omega)
      rw [show nI (i + 1) = nI i + 1 from (nI_1 i).symm, grM_s, csM_s] at k
      have eg : Z 134 (318 + 13 * i + 0) = X 134 (318 + 13 * i + 0) := by rw [z134]
      by_cases c : hb v i
      · rw [if_pos c, ← mCost_cg z134] at k
        cases hg : grM X v i with
        | true =>
          rw [hg, Bool.true_or, if_pos rfl] at k
          rw [if_pos rfl]
          exact bX12_takeMenu_7_6 (by omega) hn z1 c0 (by decide) c hi (hkZ i hi) k
        | false =>
          rw [hg, Bool.false_or] at k
          rw [if_neg (show ¬ false = true by decide)]
          by_cases c4 : 2 ≤ X 134 (318 + 13 * i + 0)
          · rw [decide_eq_true ⟨c, c4⟩, if_pos rfl] at k
            exact bX12_takeMenu_7_0 (by omega) hn z1 c0 rfl c hi (by rw [eg]; exact c4) (hkZ i hi) k
          · rw [decide_eq_false (fun w => c4 w.2), if_neg (show ¬ false = true by decide)] at k
            exact bX12_takeMenu_7_2 (by omega) hn z1 c0 rfl c hi (by rw [eg]; exact c4) (hkZ i hi) k
      · rw [if_neg c, decide_eq_false (fun w => c w.1), Bool.or_false] at k
        cases hg : grM X v i with
        | true =>
          rw [hg, if_pos rfl] at k
          rw [if_pos rfl]
          exact bX12_takeMenu_7_7 (by omega) hn z1 c0 (by decide) c k
        | false =>
          rw [hg, if_neg (show ¬ false = true by decide)] at k
          rw [if_neg (show ¬ false = true by decide)]
          exact bX12_takeMenu_7_5 (by omega) hn z1 c0 rfl c k
  exact loop 0 (Nat.zero_le _)
theorem m_menuFrom (hn : 146 ≤ n) (hM : M ≤ 10) (e5 : X 134 5 = nI M) (hk : ∀ m, m < 10 → okM X m) (hF : num X 134 6 12) (hts : ∀ m, m < 10 → ts m ≤ 15 ∧ X 134 (318 + 13 * m + 1) = nI (ts m)) : ∀ (o r : Nat), o ≤ 4 → r ≤ M → ∀ (d kb : Nat) (t : Int32) (s : BS) (Z : LX), o + 5 ≤ d → kb < 2 ^ M → Bm n X Z s → Ex g mX12_menuFrom d n n [.ref 133, .int (nI (M - r)), .int (nI o), .int (nI kb), .int t] Z (fun w Z' => w = none ∧ Bm n X Z' (bSrM X M ts o r (nI kb) t s)) := by
  intro o
  induction o with
  | zero =>
    intro r _ hr d kb t s Z hd hkb hZ
    refine e_of vX12_menuFrom (Nat.le_of_ble_eq_true rfl) (cat_of rfl) (bX12_menuFrom_0_0 hn hZ.1 rfl (qX12_menuFrom_6 (d' := d - 1) (rest := []) hn (by omega) (by decide) (m_takeMenu (by omega) hn (nI_pos' (Nat.lt_of_lt_of_le (pow_10 hM hkb) (by omega))) hk hF hZ) (fun w W hv => ?_)))
    obtain ⟨rfl, hW⟩ := hv
    exact bX12_menuFrom_9_0 hn hW.1 ⟨rfl, hW⟩
  | succ o ih =>
    intro r ho hr d kb t s Z hd hkb hZ
    refine e_of vX12_menuFrom (Nat.le_of_ble_eq_true rfl) (cat_of rfl) (bX12_menuFrom_0_1 hn hZ.1 (nI_ne0 (by omega) (by omega)) ?_)
    have loop : ∀ (r' : Nat), r' ≤ M → ∀ (s' : BS) (Z' : LX), Bm n X Z' s' → bLoop (bSrM X M ts o) M ts r' (nI kb) t s' = bSrM X M ts (o + 1) r (nI kb) t s → Ev g mX12_menuFrom d n n (fun w Z' => w = none ∧ Bm n X Z' (bSrM X M ts (o + 1) r (nI kb) t s)) n 13 [some (.ref 133), some (.int (nI (M - r))), some (.int (nI (o + 1))), some (.int (nI kb)), some (.int t), some (.int (nI (M - r'))), none] [] Z' := by
      intro r'
      induction r' with
      | zero =>
        intro _ s' Z' hZ' he
        refine bX12_menuFrom_13_4 hn hZ'.1 (by rw [hZ'.2.1 134 (by omega), e5, Nat.sub_zero]; exact Int32.le_refl _) ⟨rfl, ?_⟩
        rw [← he]
        exact hZ'
      | succ r' ih2 =>
        intro hr' s' Z' hZ' he
        obtain ⟨z1, z2, z3, z4, z5, z6, z7⟩ := id hZ'
        have z134 : Z' 134 = X 134 := z2 134 (by omega)
        have c0 : ¬ Z' 134 5 ≤ nI (M - (r' + 1)) := by rw [z134, e5]; exact nI_ge (by omega) (by omega)
        have en : nI (M - (r' + 1)) + 1 = nI (M - r') := by rw [nI_1, show M - (r' + 1) + 1 = M - r' by omega]
        obtain ⟨t1, t2⟩ := hts (M - (r' + 1)) (by omega)
        have e25 : Z' 134 (318 + 13 * (M - (r' + 1)) + 1) = nI (ts (M - (r' + 1))) := by rw [z134, t2]
        rw [bLoop_s] at he
        by_cases hsp : s'.2.1 = true
        · rw [if_pos hsp] at he
          refine bX12_menuFrom_13_3 hn z1 c0 (by rw [z6, if_pos hsp]; decide) ⟨rfl, ?_⟩
          rw [← he]; exact hZ'
        · rw [if_neg hsp] at he
          rw [if_neg hsp] at z6
          by_cases ht : hb t (ts (M - (r' + 1)))
          · rw [if_pos ht] at he
            refine bX12_menuFrom_13_0 (by omega) hn z1 c0 z6 (by omega) (by rw [e25]; exact ht) ?_
            rw [en]
            exact ih2 (by omega) s' Z' hZ' he
          · rw [if_neg ht] at he
            by_cases h0 : s'.1 = 0
            · rw [if_pos h0] at he
              refine bX12_menuFrom_13_1 (by omega) hn z1 c0 z6 (by omega) (by rw [e25]; exact ht) (by rw [z5, h0]; rfl) ?_
              rw [en]
              exact ih2 (by omega) (0, true, s'.2.2) _ (hZ'.upd (z1.upF (by decide +kernel) (by decide +kernel)) (fun k hk => up_ne hk) (fun q hq => up_at (by omega)) (Nat.zero_le _) (by rw [up_at (by omega), z5, h0]) (by rw [up_it, if_pos rfl]) (z7.same (fun q hq => up_at (by omega)))) he
            · rw [if_neg h0] at he
              refine bX12_menuFrom_13_2 (by omega) hn z1 c0 z6 (by omega) (by rw [e25]; exact ht) (by rw [z5]; exact nI_ne0 (by omega) (by omega)) ?_
              have hS' : Sh n (lx_up (lx_up Z' 133 22 0) 133 21 (Z' 133 21 - 1)) := (z1.upF (by decide +kernel) (by decide +kernel)).upF (by decide +kernel) (by decide +kernel)
              have hB1 : Bm n X (lx_up (lx_up Z' 133 22 0) 133 21 (Z' 133 21 - 1)) (s'.1 - 1, false, s'.2.2) := by
                refine hZ'.upd hS' (fun k hk => by rw [up_ne hk, up_ne hk]) (fun q hq => by rw [up_at (by omega), up_at (by omega)]) (by show s'.1 - 1 ≤ 5000; omega) ?_ (by rw [up_at (by omega), up_it, if_neg (fun w => by cases w)]) (z7.same (fun q hq => by rw [up_at (by omega), up_at (by omega)]))
                rw [up_it, z5]
                show nI s'.1 - nI 1 = nI (s'.1 - 1)
                rw [pk_sub (by omega)]
              have em : nI kb ||| (1 <<< (nI (M - (r' + 1)) &&& 31)) = nI (kb ||| 2 ^ (M - (r' + 1))) := by rw [shl_nI (by omega), nx_or]
              have hE := ih r' (by omega) (by omega) (d - 1) (kb ||| 2 ^ (M - (r' + 1))) (t ||| (1 <<< (nI (ts (M - (r' + 1))) &&& 31))) (s'.1 - 1, false, s'.2.2) _ (by omega) (Nat.or_lt_two_pow hkb (Nat.pow_lt_pow_right (by omega) (by omega))) hB1
              rw [← em] at hE
              rw [← e25, ← en, show nI o = nI (o + 1) - 1 from (nI_pred o).symm] at hE
              refine qX12_menuFrom_111 (d' := d - 1) (rest := []) hn (by omega) (by decide) hE (fun w W hv => ?_)
              obtain ⟨rfl, hW⟩ := hv
              refine bX12_menuFrom_114_0 hn hW.1 ?_
              rw [en]
              rw [e25] at hW
              exact (ev_wk (by simp [lwk]) (ih2 (by omega) _ W hW he))
    exact loop r hr s Z hZ rfl
/-- green menus, both sides -/
theorem gr_eq2 (hK : KR LR X (X 134)) {k : Nat} (hk : k < 2 ^ ix (X 134 5)) : decide (¬ nI k &&& grn X = 0) = grM X (nI k) 10 := by
  obtain ⟨M, hM, e23, e5, eix, -⟩ := hK.meals
  rw [eix] at hk
  have h1 : ∀ i, grM X (nI k) i = true ↔ ∃ m, m < i ∧ hb (nI k) m ∧ 2 ≤ X 134 (318 + 13 * m + 0) := by
    intro i
    induction i with
    | zero => exact ⟨fun w => absurd w (by unfold grM; decide), fun ⟨m, hm, _⟩ => absurd hm (Nat.not_lt_zero _)⟩
    | succ i ih =>
      rw [grM_s, Bool.or_eq_true, ih, decide_eq_true_iff]
      constructor
      · rintro (⟨m, hm, h⟩ | h)
        · exact ⟨m, by omega, h⟩
        · exact ⟨i, by omega, h⟩
      · rintro ⟨m, hm, h⟩
        rcases Nat.lt_succ_iff_lt_or_eq.mp hm with q | q
        · exact Or.inl ⟨m, q, h⟩
        · subst q; exact Or.inr h
  have h2 : (¬ nI k &&& grn X = 0) ↔ ∃ m, m < 10 ∧ hb (nI k) m ∧ 2 ≤ X 134 (318 + 13 * m + 0) := by
    have hbit : ∀ i, i < 31 → bt (grn X) i = decide (i < M ∧ isKd X i 2) := fun i hi => by
      unfold grn
      rw [e23, ix_nI (by omega)]
      exact bt_or (c := fun m => isKd X m 2) (by omega) (by omega)
    have hkd : ∀ i, i < 10 → (isKd X i 2 ↔ 2 ≤ X 134 (318 + 13 * i + 0)) := fun i hi => by
      obtain ⟨r1, -, r3, -⟩ := hK.2.2.2.1 i hi
      unfold isKd
      rw [r1]
      exact green_iff r3
    constructor
    · intro w
      refine Classical.byContradiction (fun q => w (b_ext (fun i hi => ?_)))
      rw [b_0, b_and]
      by_cases c : hb (nI k) i
      · have hiM := hb_lt hk hi c
        rw [hbit i (by omega), decide_eq_false (fun z => q ⟨i, by omega, c, (hkd i (by omega)).mp z.2⟩), Bool.and_false]
      · have c' : bt (nI k) i = false := by
          cases h : bt (nI k) i
          · rfl
          · exact absurd ((hb_bt hi).mpr h) c
        rw [c', Bool.false_and]
    · rintro ⟨m, hm, c, hg⟩ w
      have e : bt (nI k &&& grn X) m = false := by rw [w, b_0]
      rw [b_and, (hb_bt (by omega)).mp c, hbit m (by omega), decide_eq_true ⟨hb_lt hk (by omega) c, (hkd m hm).mpr hg⟩] at e
      cases e
  cases hg : grM X (nI k) 10
  · exact decide_eq_false (fun w => by rw [(h1 10).mpr (h2.mp w)] at hg; cases hg)
  · exact decide_eq_true (h2.mpr ((h1 10).mp hg))
theorem cs_eq2 (hK : KR LR X (X 134)) {Z : LX} (hZ : Mg n X Z) {k : Nat} (hk : k < 2 ^ ix (X 134 5)) : csC Z (nI k) = csM X (nI k) 10 := by
  obtain ⟨M, hM, e23, e5, eix, -⟩ := hK.meals
  obtain ⟨⟨-, -, -, -, e4, -, -, -⟩, -, -, ⟨P, hP, ep⟩, -⟩ := hK.1
  obtain ⟨z1, z2, z3, z4, z5⟩ := hZ
  rw [eix] at hk
  unfold csC csM
  rw [z2 23 (by omega) (by omega) (by omega), e23, ix_nI (by omega)]
  have hM10 : (10 : Nat) = M + (10 - M) := by omega
  rw [hM10, sum_ext (fun i h1 h2 => if_neg (fun w => by have := hb_lt hk (by omega) w; omega))]
  refine sum_cg (fun m hm => ?_)
  by_cases c : hb (nI k) m
  · rw [if_pos c, if_neg ((nb_hb (by omega)).mpr c), z4 m (by rw [e23, ix_nI (by omega)]; exact hm), cost_eq (hK.2.2.2.1 m (by omega)).2.2.2 hK.2.1 ⟨P, hP, e4.trans ep⟩ e4]
  · rw [if_neg c, if_pos ((nh_nb (by omega)).mp c)]
end BESTM
