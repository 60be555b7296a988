/-! THE CALLS, 24: best: the search for a menu, once, and both sides by it. -/
/-- tries left, whether they are spent, the best menu so far with its families and cost -/
abbrev BS : Type := Nat × Bool × Option (Int32 × Int32 × Int32)
def bBt : Option (Int32 × Int32 × Int32) → Int32 → Int32 → Bool
  | none, _, _ => true
  | some q, k, c => decide (q.2.1 < k ∨ (k = q.2.1 ∧ c < q.2.2))
def bUp (gr : Int32 → Bool) (kp cs : Int32 → Int32) (v : Int32) (s : BS) : BS := if (gr v && bBt s.2.2 (kp v) (cs v)) = true then (s.1, s.2.1, some (v, kp v, cs v)) else s
def bLoop (inner : Nat → Int32 → Int32 → BS → BS) (M : Nat) (ts : Nat → Nat) : Nat → Int32 → Int32 → BS → BS
  | 0, _, _, s => s
  | r + 1, b, t, s => if s.2.1 = true then s else if hb t (ts (M - (r + 1))) then bLoop inner M ts r b t s else if s.1 = 0 then bLoop inner M ts r b t (0, true, s.2.2) else bLoop inner M ts r b t (inner r (b ||| (1 <<< (nI (M - (r + 1)) &&& 31))) (t ||| (1 <<< (nI (ts (M - (r + 1))) &&& 31))) (s.1 - 1, false, s.2.2))
def bSr (gr : Int32 → Bool) (kp cs : Int32 → Int32) (M : Nat) (ts : Nat → Nat) : Nat → Nat → Int32 → Int32 → BS → BS
  | 0 => fun _ b _ s => bUp gr kp cs b s
  | o + 1 => bLoop (bSr gr kp cs M ts o) M ts
def bRes (s : BS) : Int32 := if s.2.1 = true then -1000000004 else match s.2.2 with
  | none => -1000000002
  | some q => q.1
theorem bLoop_s {inner : Nat → Int32 → Int32 → BS → BS} {M : Nat} {ts : Nat → Nat} (r : Nat) (b t : Int32) (s : BS) : bLoop inner M ts (r + 1) b t s = if s.2.1 = true then s else if hb t (ts (M - (r + 1))) then bLoop inner M ts r b t s else if s.1 = 0 then bLoop inner M ts r b t (0, true, s.2.2) else bLoop inner M ts r b t (inner r (b ||| (1 <<< (nI (M - (r + 1)) &&& 31))) (t ||| (1 <<< (nI (ts (M - (r + 1))) &&& 31))) (s.1 - 1, false, s.2.2)) := rfl
theorem bSr_s (gr : Int32 → Bool) (kp cs : Int32 → Int32) (M : Nat) (ts : Nat → Nat) (o : Nat) : bSr gr kp cs M ts (o + 1) = bLoop (bSr gr kp cs M ts o) M ts := rfl
theorem bSr_0 (gr : Int32 → Bool) (kp cs : Int32 → Int32) (M : Nat) (ts : Nat → Nat) (r : Nat) (b t : Int32) (s : BS) : bSr gr kp cs M ts 0 r b t s = bUp gr kp cs b s := rfl
theorem bLoop_0 (inner : Nat → Int32 → Int32 → BS → BS) (M : Nat) (ts : Nat → Nat) (b t : Int32) (s : BS) : bLoop inner M ts 0 b t s = s := rfl
/-- two searches whose tests agree on the menus there are -/
theorem bSr_cg {gr gr' : Int32 → Bool} {kp kp' cs cs' : Int32 → Int32} {M : Nat} {ts : Nat → Nat} (hM : M ≤ 10) (h : ∀ k, k < 2 ^ M → k ≠ 0 → gr (nI k) = gr' (nI k) ∧ kp (nI k) = kp' (nI k) ∧ cs (nI k) = cs' (nI k)) : ∀ (o r : Nat), r ≤ M → ∀ (k : Nat) (t : Int32) (s : BS), k < 2 ^ M → (o = 0 → k ≠ 0) → bSr gr kp cs M ts o r (nI k) t s = bSr gr' kp' cs' M ts o r (nI k) t s := by
  intro o
  induction o with
  | zero =>
    intro r hr k t s hk h0
    obtain ⟨h1, h2, h3⟩ := h k hk (h0 rfl)
    rw [bSr_0, bSr_0]
    unfold bUp
    rw [h1, h2, h3]
  | succ o ih =>
    intro r
    induction r with
    | zero => intro _ k t s _ _; rw [bSr_s, bSr_s, bLoop_0, bLoop_0]
    | succ r ih2 =>
      intro hr k t s hk h0
      rw [bSr_s, bSr_s, bLoop_s, bLoop_s]
      have e1 : ∀ s', bLoop (bSr gr kp cs M ts o) M ts r (nI k) t s' = bLoop (bSr gr' kp' cs' M ts o) M ts r (nI k) t s' := fun s' => by
        have w := ih2 (by omega) k t s' hk h0
        rw [bSr_s, bSr_s] at w
        exact w
      have em : nI k ||| (1 <<< (nI (M - (r + 1)) &&& 31)) = nI (k ||| 2 ^ (M - (r + 1))) := by rw [shl_nI (by omega), nx_or]
      have hlt : k ||| 2 ^ (M - (r + 1)) < 2 ^ M := Nat.or_lt_two_pow hk (Nat.pow_lt_pow_right (by omega) (by omega))
      have hne : k ||| 2 ^ (M - (r + 1)) ≠ 0 := Nat.ne_of_gt (Nat.lt_of_lt_of_le (Nat.pow_pos (by omega)) Nat.right_le_or)
      rw [em, ih r (by omega) _ _ _ hlt (fun _ => hne), e1, e1, e1]
def bBc (Z : LX) : Option (Int32 × Int32 × Int32) → Prop
  | none => Z 84 6 = -1
  | some q => Z 84 6 = q.2.1 ∧ Z 84 7 = q.2.2 ∧ Z 84 8 = q.1 ∧ 0 ≤ q.2.1
def Bc (n : Nat) (X : LX) (L : Nat) (Z : LX) (s : BS) : Prop := Sh n Z ∧ (∀ k, k ≠ 84 → Z k = X k) ∧ Z 84 3 = X 84 3 ∧ Z 84 4 = nI L ∧ s.1 ≤ L ∧ Z 84 5 = nI (if s.2.1 = true then L + 1 else L - s.1) ∧ bBc Z s.2.2
def grC (X : LX) (v : Int32) : Bool := decide (¬ v &&& X 84 3 = 0)
def csC (X : LX) (v : Int32) : Int32 := sumTo (fun m => if nb v m then 0 else X 86 m) (ix (X 23 0))
theorem sum_01 {c : Nat → Prop} [∀ m, Decidable (c m)] : ∀ {N : Nat}, ∃ k, k ≤ N ∧ sumTo (fun f => if c f then (0 : Int32) else 1) N = nI k
  | 0 => ⟨0, Nat.le_refl _, rfl⟩
  | N + 1 => by
    obtain ⟨k, hk, e⟩ := sum_01 (c := c) (N := N)
    show ∃ k, k ≤ N + 1 ∧ sumTo (fun f => if c f then (0 : Int32) else 1) N + (if c N then (0 : Int32) else 1) = nI k
    by_cases h : c N
    · rw [if_pos h, Int32.add_zero]; exact ⟨k, by omega, e⟩
    · rw [if_neg h, e, nI_1]; exact ⟨k + 1, by omega, rfl⟩
theorem and_bit {t : Int32} {q : Nat} (hq : q < 31) : t &&& (1 <<< (nI q &&& 31)) = 0 ↔ nb t q := by
  rw [nb_bt (by omega)]
  constructor
  · intro h
    have e : bt (t &&& (1 <<< (nI q &&& 31))) q = false := by rw [h, b_0]
    rw [b_and, b_shl q (by omega) 1 (by omega), Nat.sub_self, b_1 0 (by omega)] at e
    simpa using e
  · intro h
    apply b_ext
    intro i hi
    rw [b_0, b_and, b_shl q (by omega) 1 hi]
    by_cases z : i = q
    · subst z; rw [h]; rfl
    · by_cases w : q ≤ i
      · rw [b_1 _ (by omega), decide_eq_false (show ¬ i - q = 0 by omega), Bool.and_false, Bool.and_false]
      · rw [decide_eq_false w, Bool.false_and, Bool.and_false]
section BESTC
variable {g : GG} {n : Nat} {X : LX} {L M : Nat} {ts : Nat → Nat}
theorem Bc.upd {Z Z' : LX} {s s' : BS} (h : Bc n X L Z s) (hS : Sh n Z') (hC : ∀ k, k ≠ 84 → Z' k = Z k) (h34 : ∀ t, t = 3 ∨ t = 4 → Z' 84 t = Z 84 t) (hl : s'.1 ≤ L) (h5 : Z' 84 5 = nI (if s'.2.1 = true then L + 1 else L - s'.1)) (hb : bBc Z' s'.2.2) : Bc n X L Z' s' :=
  ⟨hS, fun k hk => by rw [hC k hk, h.2.1 k hk], by rw [h34 3 (by omega), h.2.2.1], by rw [h34 4 (by omega), h.2.2.2.1], hl, h5, hb⟩
theorem bBc.same {Z Z' : LX} {o : Option (Int32 × Int32 × Int32)} (h : bBc Z o) (he : ∀ t, t = 6 ∨ t = 7 ∨ t = 8 → Z' 84 t = Z 84 t) : bBc Z' o := by
  cases o with
  | none => show Z' 84 6 = -1; rw [he 6 (by omega)]; exact h
  | some q => exact ⟨by rw [he 6 (by omega)]; exact h.1, by rw [he 7 (by omega)]; exact h.2.1, by rw [he 8 (by omega)]; exact h.2.2.1, h.2.2.2⟩
theorem c_weigh {d : Nat} {v : Int32} {Z : LX} {s : BS} (hd : 2 ≤ d) (hn : 146 ≤ n) (hM : M ≤ 10) (e23 : X 23 0 = nI M) (hF : num X 37 0 12) (hZ : Bc n X L Z s) : Ex g mX6_weigh d n n [.ref 84, .int v] Z (fun w Z' => w = none ∧ Bc n X L Z' (bUp (grC X) (cKb X) (csC X) v s)) := by
  obtain ⟨z1, z2, z3, z4, z5, z6, z7⟩ := id hZ
  refine e_of vX6_weigh (Nat.le_of_ble_eq_true rfl) (cat_of rfl) ?_
  by_cases c : v &&& Z 84 3 = 0
  · refine bX6_weigh_0_0 hn z1 c ⟨rfl, ?_⟩
    unfold bUp grC
    rw [← z3, decide_eq_false (fun w => w c), Bool.false_and, if_neg (by decide)]
    exact hZ
  · have hF2 : num Z 37 0 12 := by rw [num_cg (z2 37 (by omega))]; exact hF
    refine bX6_weigh_0_1 hn z1 c (qX6_weigh_12 (d' := d - 1) (rest := []) hn (by omega) (by decide) (k_X6_keptBy (by omega) hn z1 hF2) (fun w W hv => ?_))
    obtain ⟨rfl, hW⟩ := hv
    rw [hW]
    have ek : cKb Z v = cKb X v := by unfold cKb; rw [z2 37 (by omega), z2 85 (by omega)]
    rw [ek]
    refine bX6_weigh_15_0 hn z1 ?_
    have e23Z : Z 23 0 = nI M := by rw [z2 23 (by omega), e23]
    have hcs : csC X v = sumTo (fun m => if nb v m then 0 else X 86 m) M := by unfold csC; rw [e23, ix_nI (by omega)]
    obtain ⟨kk, -, ekk⟩ := sum_01 (c := fun f => bc (X 85 f &&& v) < (if bc v < 2 then bc v else 2)) (N := ix (X 37 0))
    have hkb : (0 : Int32) ≤ cKb X v ∧ ∃ k, k ≤ 12 ∧ cKb X v = nI k := by
      obtain ⟨k, hk, e⟩ := sum_01 (c := fun f => bc (X 85 f &&& v) < (if bc v < 2 then bc v else 2)) (N := ix (X 37 0))
      have := (hF.eq (by omega)).2
      unfold cKb
      rw [e]
      exact ⟨nI_pos' (by omega), k, by omega, rfl⟩
    have loop : ∀ i, i ≤ M → Ev g mX6_weigh d n n (fun w Z' => w = none ∧ Bc n X L Z' (bUp (grC X) (cKb X) (csC X) v s)) n 21 [some (.ref 84), some (.int v), some (.int (cKb X v)), some (.int (sumTo (fun m => if nb v m then 0 else X 86 m) i)), some (.int (nI i))] [] Z := by
      refine down ?_ ?_
      · have c0 : Z 23 0 ≤ nI M := by rw [e23Z]; exact Int32.le_refl _
        rw [← hcs]
        have hg : grC X v = true := by unfold grC; rw [← z3]; exact decide_eq_true c
        have hyes : bBt s.2.2 (cKb X v) (csC X v) = true → Bc n X L (lx_up (lx_up (lx_up Z 84 6 (cKb X v)) 84 7 (csC X v)) 84 8 v) (bUp (grC X) (cKb X) (csC X) v s) := by
          intro hb
          unfold bUp
          rw [hg, hb, if_pos (show (true && true) = true from rfl)]
          refine hZ.upd (s' := (s.1, s.2.1, some (v, cKb X v, csC X v))) (((z1.upF (by decide +kernel) (by decide +kernel)).upF (by decide +kernel) (by decide +kernel)).upF (by decide +kernel) (by decide +kernel)) (fun k hk => by rw [up_ne hk, up_ne hk, up_ne hk]) (fun t ht => by rw [up_at (by omega), up_at (by omega), up_at (by omega)]) z5 (by rw [up_at (by omega), up_at (by omega), up_at (by omega)]; exact z6) ⟨by rw [up_at (by omega), up_at (by omega), up_it], by rw [up_at (by omega), up_it], up_it, hkb.1⟩
        have hno : bBt s.2.2 (cKb X v) (csC X v) = false → Bc n X L Z (bUp (grC X) (cKb X) (csC X) v s) := by
          intro hb
          unfold bUp
          rw [hg, hb, if_neg (show ¬ (true && false) = true by decide)]
          exact hZ
        cases hs : s.2.2 with
        | none =>
          rw [hs] at z7 hyes
          have h6 : Z 84 6 < cKb X v := by
            rw [show Z 84 6 = -1 from z7]
            obtain ⟨k, hk, e⟩ := hkb.2
            rw [e, Int32.lt_iff_toInt_lt, nI_toInt (by omega), show (-1 : Int32).toInt = -1 by decide]
            omega
          exact bX6_weigh_21_5 hn z1 c0 h6 ⟨rfl, hyes rfl⟩
        | some q =>
          rw [hs] at z7 hyes hno
          obtain ⟨q6, q7, q8, q9⟩ := z7
          by_cases h6 : Z 84 6 < cKb X v
          · exact bX6_weigh_21_5 hn z1 c0 h6 ⟨rfl, hyes (decide_eq_true (Or.inl (by rw [← q6]; exact h6)))⟩
          · by_cases h7 : cKb X v = Z 84 6
            · by_cases h8 : Z 84 7 ≤ csC X v
              · refine bX6_weigh_21_3 hn z1 c0 h6 h7 h8 ⟨rfl, hno (decide_eq_false (fun w => ?_))⟩
                rcases w with w | w
                · rw [← q6] at w; exact h6 w
                · rw [q7] at h8; exact Int32.not_lt.mpr h8 w.2
              · exact bX6_weigh_21_2 hn z1 c0 h6 h7 h8 ⟨rfl, hyes (decide_eq_true (Or.inr ⟨by rw [← q6]; exact h7, by rw [← q7]; exact Int32.not_le.mp h8⟩))⟩
            · refine bX6_weigh_21_4 hn z1 c0 h6 h7 ⟨rfl, hno (decide_eq_false (fun w => ?_))⟩
              rcases w with w | w
              · rw [← q6] at w; exact h6 w
              · rw [← q6] at w; exact h7 w.1
      · intro i hi k
        have c0 : ¬ Z 23 0 ≤ nI i := by rw [e23Z]; exact nI_ge hi (by omega)
        rw [show nI (i + 1) = nI i + 1 from (nI_1 i).symm] at k
        by_cases cb : nb v i
        · rw [show sumTo (fun m => if nb v m then 0 else X 86 m) (i + 1) = sumTo (fun m => if nb v m then 0 else X 86 m) i by simp only [sumTo, if_pos cb, Int32.add_zero]] at k
          exact bX6_weigh_21_1 (by omega) hn z1 c0 (fun w => w cb) k
        · rw [show sumTo (fun m => if nb v m then 0 else X 86 m) (i + 1) = sumTo (fun m => if nb v m then 0 else X 86 m) i + Z 86 i by rw [z2 86 (by omega)]; simp only [sumTo, if_neg cb]] at k
          exact bX6_weigh_21_0 (by omega) hn z1 c0 cb (by omega) k
    exact loop 0 (Nat.zero_le _)
theorem c_seekFrom (hn : 146 ≤ n) (hM : M ≤ 10) (hL : L ≤ 5000) (e23 : X 23 0 = nI M) (hF : num X 37 0 12) (hts : ∀ m, m < 10 → ts m ≤ 15 ∧ X 25 m = nI (ts m)) : ∀ (o r : Nat), o ≤ 4 → r ≤ M → ∀ (d : Nat) (b t : Int32) (s : BS) (Z : LX), o + 3 ≤ d → Bc n X L Z s → Ex g mX6_seekFrom d n n [.ref 84, .int (nI (M - r)), .int (nI o), .int b, .int t] Z (fun w Z' => w = none ∧ Bc n X L Z' (bSr (grC X) (cKb X) (csC X) M ts o r b t s)) := by
  intro o
  induction o with
  | zero =>
    intro r _ hr d b t s Z hd hZ
    refine e_of vX6_seekFrom (Nat.le_of_ble_eq_true rfl) (cat_of rfl) (bX6_seekFrom_0_0 hn hZ.1 (by decide) (qX6_seekFrom_6 (d' := d - 1) (rest := []) hn (by omega) (by decide) (c_weigh (by omega) hn hM e23 hF hZ) (fun w W hv => ?_)))
    obtain ⟨rfl, hW⟩ := hv
    exact bX6_seekFrom_9_0 hn hW.1 ⟨rfl, hW⟩
  | succ o ih =>
    intro r ho hr d b t s Z hd hZ
    refine e_of vX6_seekFrom (Nat.le_of_ble_eq_true rfl) (cat_of rfl) (bX6_seekFrom_0_1 hn hZ.1 (nI_lt (a := 0) (by omega) (by omega)) ?_)
    have loop : ∀ (r' : Nat), r' ≤ M → ∀ (s' : BS) (Z' : LX), Bc n X L Z' s' → bLoop (bSr (grC X) (cKb X) (csC X) M ts o) M ts r' b t s' = bSr (grC X) (cKb X) (csC X) M ts (o + 1) r b t s → Ev g mX6_seekFrom d n n (fun w Z' => w = none ∧ Bc n X L Z' (bSr (grC X) (cKb X) (csC X) M ts (o + 1) r b t s)) n 13 [some (.ref 84), some (.int (nI (M - r))), some (.int (nI (o + 1))), some (.int b), some (.int t), some (.int (nI (M - r'))), none] [] Z' := by
      intro r'
      induction r' with
      | zero =>
        intro _ s' Z' hZ' he
        refine bX6_seekFrom_13_4 hn hZ'.1 (by rw [hZ'.2.1 23 (by omega), e23, Nat.sub_zero]; exact Int32.le_refl _) ⟨rfl, ?_⟩
        rw [← he]
        exact hZ'
      | succ r' ih2 =>
        intro hr' s' Z' hZ' he
        obtain ⟨z1, z2, z3, z4, z5, z6, z7⟩ := id hZ'
        have c0 : ¬ Z' 23 0 ≤ nI (M - (r' + 1)) := by rw [z2 23 (by omega), e23]; exact nI_ge (by omega) (by omega)
        have en : nI (M - (r' + 1)) + 1 = nI (M - r') := by rw [nI_1, show M - (r' + 1) + 1 = M - r' by omega]
        obtain ⟨t1, t2⟩ := hts (M - (r' + 1)) (by omega)
        have e25 : Z' 25 (M - (r' + 1)) = nI (ts (M - (r' + 1))) := by rw [z2 25 (by omega), t2]
        rw [bLoop_s] at he
        by_cases hsp : s'.2.1 = true
        · rw [if_pos hsp] at he
          refine bX6_seekFrom_13_3 hn z1 c0 (by rw [z4, z6, if_pos hsp]; exact nI_lt (by omega) (by omega)) ⟨rfl, ?_⟩
          rw [← he]; exact hZ'
        · rw [if_neg hsp] at he
          rw [if_neg hsp] at z6
          have c1 : ¬ Z' 84 4 < Z' 84 5 := by rw [z4, z6]; exact nI_nlt (by omega) (by omega)
          by_cases ht : hb t (ts (M - (r' + 1)))
          · rw [if_pos ht] at he
            refine bX6_seekFrom_13_0 hn z1 c0 c1 (by omega) (by rw [e25]; exact fun w => (nb_hb (by omega)).mpr ht ((and_bit (by omega)).mp w)) ?_
            rw [en]
            exact ih2 (by omega) s' Z' hZ' he
          · rw [if_neg ht] at he
            have c2 : t &&& (1 <<< (Z' 25 (M - (r' + 1)) &&& 31)) = 0 := by rw [e25]; exact (and_bit (by omega)).mpr ((nh_nb (by omega)).mp ht)
            have hS' : Sh n (lx_up Z' 84 5 (Z' 84 5 + 1)) := z1.upF (by decide +kernel) (by decide +kernel)
            by_cases h0 : s'.1 = 0
            · rw [if_pos h0] at he
              refine bX6_seekFrom_13_2 hn z1 c0 c1 (by omega) c2 (by rw [z4, z6, h0, nI_1]; exact nI_lt (by omega) (by omega)) ?_
              rw [en]
              refine ih2 (by omega) (0, true, s'.2.2) _ (hZ'.upd hS' (fun k hk => up_ne hk) (fun q hq => up_at (by omega)) (Nat.zero_le _) ?_ (z7.same (fun q hq => up_at (by omega)))) he
              rw [up_it, z6, h0, nI_1, if_pos rfl, Nat.sub_zero]
            · rw [if_neg h0] at he
              refine bX6_seekFrom_13_1 hn z1 c0 c1 (by omega) c2 (by rw [z4, z6, nI_1]; exact nI_nlt (by omega) (by omega)) ?_
              have hB1 : Bc n X L (lx_up Z' 84 5 (Z' 84 5 + 1)) (s'.1 - 1, false, s'.2.2) := hZ'.upd hS' (fun k hk => up_ne hk) (fun q hq => up_at (by omega)) (by show s'.1 - 1 ≤ L; omega) (by rw [up_it, z6, nI_1, if_neg (fun w => by cases w)]; show nI (L - s'.1 + 1) = nI (L - (s'.1 - 1)); rw [show L - s'.1 + 1 = L - (s'.1 - 1) by omega]) (z7.same (fun q hq => up_at (by omega)))
              have hE := ih r' (by omega) (by omega) (d - 1) (b ||| (1 <<< (nI (M - (r' + 1)) &&& 31))) (t ||| (1 <<< (nI (ts (M - (r' + 1))) &&& 31))) (s'.1 - 1, false, s'.2.2) _ (by omega) hB1
              rw [← e25, ← en, show nI o = nI (o + 1) - 1 from (nI_pred o).symm] at hE
              refine qX6_seekFrom_107 (d' := d - 1) (rest := []) hn (by omega) (by decide) hE (fun w W hv => ?_)
              obtain ⟨rfl, hW⟩ := hv
              refine bX6_seekFrom_110_0 hn hW.1 ?_
              rw [en]
              rw [e25] at hW
              exact (ev_wk (by simp [lwk]) (ih2 (by omega) _ W hW he))
    exact loop r hr s Z hZ rfl
end BESTC
