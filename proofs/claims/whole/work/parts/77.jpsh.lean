/-! THE CALLS, 28: shifts. -/
theorem sum_b {F : Nat → Int32} : ∀ {N : Nat}, (∀ p, p < N → F p = 0 ∨ F p = 1) → ∃ k, k ≤ N ∧ sumTo F N = nI k
  | 0, _ => ⟨0, Nat.le_refl _, rfl⟩
  | N + 1, h => by
    obtain ⟨k, hk, e⟩ := sum_b (fun p hp => h p (Nat.lt_succ_of_lt hp))
    show ∃ k, k ≤ N + 1 ∧ sumTo F N + F N = nI k
    rcases h N (Nat.lt_succ_self N) with w | w
    · rw [w, Int32.add_zero]; exact ⟨k, by omega, e⟩
    · rw [w, e, nI_1]; exact ⟨k + 1, by omega, rfl⟩
/-- most picks of a row of shifts, as the model takes them -/
def mxT (pk : Nat → Nat → Nat) (F T : Nat) : Nat → Nat
  | 0 => 0
  | k + 1 => max (mxT pk F T k) (tot pk F T (k % 2) (k / 2))
theorem mxT_s (pk : Nat → Nat → Nat) (F T k : Nat) : mxT pk F T (k + 1) = max (mxT pk F T k) (tot pk F T (k % 2) (k / 2)) := rfl
theorem mxT_le {pk : Nat → Nat → Nat} {F T v : Nat} : ∀ {k : Nat}, mxT pk F T k ≤ v ↔ ∀ j, j < k → tot pk F T (j % 2) (j / 2) ≤ v
  | 0 => ⟨fun _ j hj => absurd hj (Nat.not_lt_zero _), fun _ => Nat.zero_le _⟩
  | k + 1 => by
    rw [mxT_s, Nat.max_le, mxT_le]
    constructor
    · rintro ⟨h1, h2⟩ j hj
      rcases Nat.lt_succ_iff_lt_or_eq.mp hj with q | q
      · exact h1 j q
      · subst q; exact h2
    · intro h
      exact ⟨fun j hj => h j (Nat.lt_succ_of_lt hj), h k (Nat.lt_succ_self k)⟩
theorem mxT_V {pk : Nat → Nat → Nat} {F T : Nat} (hT : T < 2 ^ F) : shV pk F 0 (fun _ _ => 0) T = mxT pk F T 8 := by
  have key : ∀ v, shV pk F 0 (fun _ _ => 0) T ≤ v ↔ mxT pk F T 8 ≤ v := fun v => by
    rw [shV_le hT (fun _ _ _ _ => Nat.le_refl _), mxT_le]
    constructor
    · rintro ⟨-, h⟩ j hj
      have w := h (j % 2) (by omega) (j / 2) (by omega)
      omega
    · intro h
      refine ⟨Nat.zero_le _, fun q hq s hs => ?_⟩
      have w := h (2 * s + q) (by omega)
      rw [show (2 * s + q) % 2 = q by omega, show (2 * s + q) / 2 = s by omega] at w
      omega
  exact Nat.le_antisymm ((key _).mpr (Nat.le_refl _)) ((key _).mp (Nat.le_refl _))
def mMs (X : LX) (v : Int32) : Nat → Int32
  | 0 => 0
  | k + 1 => if mMs X v k < mPk X (nI (k / 2)) (nI (k % 2)) v then mPk X (nI (k / 2)) (nI (k % 2)) v else mMs X v k
theorem mMs_s (X : LX) (v : Int32) (k : Nat) : mMs X v (k + 1) = if mMs X v k < mPk X (nI (k / 2)) (nI (k % 2)) v then mPk X (nI (k / 2)) (nI (k % 2)) v else mMs X v k := rfl
/-- the model's loop over rows of shifts -/
def lmx (f : Nat → Nat) (sub : Nat → Bool) : Nat → Nat × Nat
  | 0 => (f 0, 0)
  | j + 1 => if sub (j + 1) = true ∧ f (j + 1) < (lmx f sub j).1 then (f (j + 1), j + 1) else lmx f sub j
theorem lmx_s (f : Nat → Nat) (sub : Nat → Bool) (j : Nat) : lmx f sub (j + 1) = if sub (j + 1) = true ∧ f (j + 1) < (lmx f sub j).1 then (f (j + 1), j + 1) else lmx f sub j := rfl
theorem lmx_ok {f : Nat → Nat} {sub : Nat → Bool} (h0 : sub 0 = true) : ∀ {j : Nat}, ∃ S, S ≤ j ∧ sub S = true ∧ lmx f sub j = (f S, S) ∧ ∀ T, T ≤ j → sub T = true → f S ≤ f T ∧ (f T = f S → S ≤ T)
  | 0 => ⟨0, Nat.le_refl _, h0, rfl, fun T hT _ => by rw [show T = 0 by omega]; exact ⟨Nat.le_refl _, fun _ => Nat.le_refl _⟩⟩
  | j + 1 => by
    obtain ⟨S, hS, hs, e, h⟩ := lmx_ok (f := f) h0 (j := j)
    rw [lmx_s, e]
    by_cases c : sub (j + 1) = true ∧ f (j + 1) < f S
    · rw [if_pos c]
      refine ⟨j + 1, Nat.le_refl _, c.1, rfl, fun T hT ht => ?_⟩
      rcases Nat.lt_succ_iff_lt_or_eq.mp (Nat.lt_succ_of_le hT) with q | q
      · have := (h T (by omega) ht).1
        exact ⟨by omega, fun w => by omega⟩
      · subst q; exact ⟨Nat.le_refl _, fun _ => Nat.le_refl _⟩
    · rw [if_neg c]
      refine ⟨S, by omega, hs, rfl, fun T hT ht => ?_⟩
      rcases Nat.lt_succ_iff_lt_or_eq.mp (Nat.lt_succ_of_le hT) with q | q
      · exact h T (by omega) ht
      · subst q
        have : ¬ f (j + 1) < f S := fun w => c ⟨ht, w⟩
        exact ⟨by omega, fun _ => by omega⟩
section JPSH
variable {LR : LX → (Nat → Int32) → Prop} {g : GG} {d n : Nat} {X : LX} {post : Option Value → LX → Prop}
/-- as iv_now, the loads by themselves -/
theorem iv_now2 (hL : LRok LR) {X' : LX} (hI : Iv LR n X) (hS : Sh n X') (hK : KR LR X' (X' 134)) (hT : RT X') (h8 : X' 0 8 = X 0 8) (h2 : X' 133 2 = X 133 2) (hC : ∀ k, 146 ≤ k → X' k = X k) (hA : X' 135 = X 135) (hZ : LZ X') : Iv LR n X' := by
  refine ⟨hS, hK, hT, ?_, hZ⟩
  rw [h8, h2]
  rcases hI.2.2.2.1 with h | ⟨a, b, c, d⟩
  · exact Or.inl h
  · exact Or.inr ⟨a, b, c, d.same hL (fun k h1 _ => hC (k + 145) (by omega)) (fun j _ => by rw [hA])⟩
theorem k_X12_mostPicks {v : Int32} (hd : 2 ≤ d) (hn : 146 ≤ n) (hX : Sh n X) (hP : num X 134 4 14) (hF : num X 134 6 12) : Ex g mX12_mostPicks d n n [.ref 133, .int v] X (rt (mMs X v 8) X) := by
  refine e_of vX12_mostPicks (Nat.le_of_ble_eq_true rfl) (cat_of rfl) (bX12_mostPicks_0_0 hn hX ?_)
  have loop : ∀ i, i ≤ 8 → Ev g mX12_mostPicks d n n (rt (mMs X v 8) X) n 4 [some (.ref 133), some (.int v), some (.int (mMs X v i)), some (.int (nI i))] [] X := by
    refine down ?_ ?_
    · exact bX12_mostPicks_4_1 hn hX (show nI 8 ≤ nI 8 from nI_le (by omega) (by omega)) ⟨rfl, rfl⟩
    · intro i hi k
      rw [show nI (i + 1) = nI i + 1 from (nI_1 i).symm, mMs_s] at k
      have e1 : nI i / 2 = nI (i / 2) := pk_div (d := 2) (by omega) (by omega) (by omega)
      have e2 : nI i - nI i / 2 * 2 = nI (i % 2) := pk_rem (d := 2) (by omega) (by omega) (by omega)
      refine bX12_mostPicks_4_0 hn hX (show ¬ nI 8 ≤ nI i from nI_ge hi (by omega)) ?_
      rw [e2, e1]
      refine qX12_mostPicks_19 (d' := d - 1) (rest := [.int (mMs X v i)]) hn (by omega) (Nat.le_of_ble_eq_true rfl) (k_X12_picksOf (by omega) hn hX hP hF) (fun w W hv => ?_)
      obtain ⟨rfl, hW⟩ := hv
      rw [hW]
      exact bX12_mostPicks_22_0 (by omega) hn hX k
  exact loop 0 (Nat.zero_le _)
theorem c_X10_seek {F : Nat} {pk : Nat → Nat → Nat} (hn : 146 ≤ n) (hX : Sh n X) (hF : F ≤ 12) (eF : X 37 0 = nI F) (hk : okK X) (hs : ∀ p, p < 14 → ∃ s, s < 4 ∧ X 6 p = nI s) (hpk : ∀ f, f < F → ∀ s, s < 4 → pkd X f s (ix (X 2 0)) = nI (pk f s) ∧ pk f s ≤ 14) (hz : LZ X) : Ex g mX10_seek 100 n n [.ref 110] X (fun v W => v = none ∧ Sh n W ∧ (∀ k, k ≠ 110 → k < 112 ∨ (124 ≤ k ∧ k ≠ 125 ∧ k ≠ 126) → W k = X k) ∧ LZ W ∧ W 110 3 = nI (shS pk F 0 0 (fun _ _ => 0) (169, 0)).1 ∧ W 110 4 = nI (shS pk F 0 0 (fun _ _ => 0) (169, 0)).2) := by
  refine e_of vX10_seek (Nat.le_of_ble_eq_true rfl) (cat_of rfl) (bX10_seek_0_0 hn hX (qX10_seek_1 (d' := 99) (rest := []) hn (by omega) (by decide) (c_X10_gather (by omega) hn hX hk ⟨F, hF, eF⟩ hs) (fun v Z hv => ?_)))
  obtain ⟨rfl, z1, z2, z3⟩ := hv
  rw [eF, ix_nI (by omega)] at z2 z3
  obtain ⟨Y, hY⟩ : ∃ Y : LX, Y = lx_up (lx_up Z 110 3 169) 110 4 0 := ⟨_, rfl⟩
  have hSY : Sh n Y := by rw [hY]; exact (z1.upF (by decide +kernel) (by decide +kernel)).upF (by decide +kernel) (by decide +kernel)
  have y1 : ∀ k, k ≠ 110 → Y k = Z k := fun k hk => by rw [hY, up_ne hk, up_ne hk]
  refine bX10_seek_4_0 hn z1 ?_
  rw [← hY, z2 37 (by omega), eF]
  have hE := c_shs (g := g) (n := n) (X := Y) (pk := pk) (F := F) hn hF (fun f hf s hs4 => by rw [y1 (111 + 1 + f) (by omega), z3 f hf s hs4]; exact hpk f hf s hs4) F (Nat.le_refl _) 99 0 0 (fun _ _ => 0) (169, 0) Y (by omega) (by rw [Nat.mul_zero, Nat.zero_add]; exact Nat.pow_le_pow_right (by omega) hF) (by omega) (fun q hq s hs4 => by omega) (show 169 ≤ 2147483647 by omega) ⟨hSY, fun k _ _ _ => rfl, by rw [hY, up_at (by omega), up_it]; rfl, by rw [hY, up_it]; rfl, fun q hq s hs4 => by rw [y1 (124 + 1 + q) (by omega), z2 (124 + 1 + q) (by omega), hz q hq s hs4]; rfl⟩
  rw [Nat.mul_zero] at hE
  refine qX10_seek_31 (d' := 99) (rest := []) hn (by omega) (by decide) hE (fun v W hv => ?_)
  obtain ⟨rfl, w1, w2, w3, w4, w5⟩ := hv
  exact bX10_seek_34_0 hn w1 ⟨rfl, w1, fun k h1 h2 => by rw [w2 k h1 (by omega) (by omega), y1 k h1, z2 k (by omega)], fun q hq s hs4 => w5 q hq s hs4, w3, w4⟩
def fullM (X : LX) (i : Nat) : Int32 := orTo (fun f => if ¬ mBox X f = 0 then 1 <<< (nI f &&& 31) else 0) i
theorem fullM_s (X : LX) (i : Nat) : fullM X (i + 1) = fullM X i ||| (if ¬ mBox X i = 0 then 1 <<< (nI i &&& 31) else 0) := rfl
theorem full_lt {F : Nat} (hF : F ≤ 12) : ∃ u, u < 2 ^ F ∧ fullM X F = nI u ∧ ∀ f, f < F → (u.testBit f = true ↔ ¬ mBox X f = 0) := by
  have hb : ∀ i, i < 32 → bt (fullM X F) i = decide (i < F ∧ ¬ mBox X i = 0) := fun i hi => bt_or (c := fun f => ¬ mBox X f = 0) hi (by omega)
  refine ⟨(fullM X F).toBitVec.toNat, Nat.lt_pow_two_of_testBit _ (fun i hi => ?_), nI_self _, fun f hf => ?_⟩
  · show (fullM X F).toBitVec.getLsbD i = false
    rcases Nat.lt_or_ge i 32 with q | q
    · exact (hb i q).trans (decide_eq_false (fun w => by omega))
    · exact b_big q
  · show (fullM X F).toBitVec.getLsbD f = true ↔ _
    rw [show (fullM X F).toBitVec.getLsbD f = decide (f < F ∧ ¬ mBox X f = 0) from hb f (by omega), decide_eq_true_iff]
    exact ⟨fun w => w.2, fun w => ⟨hf, w⟩⟩
/-- the model's rows, one by one -/
theorem sh_loop {what u : Nat} {fN : Nat → Nat} {F : Nat} (hd : 3 ≤ d) (hn : 146 ≤ n) (hX : Sh n X) (hF : F ≤ 12) (hu : u < 2 ^ F) (hP : num X 134 4 14) (hF2 : num X 134 6 12) (hf : ∀ T, T ≤ u → mMs X (nI T) 8 = nI (fN T) ∧ fN T ≤ 168) (hp : post (some (.int (if nI what = 0 then nI (lmx fN (fun T => decide (nI T &&& (nI u ^^^ (-1)) = 0)) u).1 else nI (lmx fN (fun T => decide (nI T &&& (nI u ^^^ (-1)) = 0)) u).2))) X) : Ev g mX12_shifts d n n post n 67 [some (.ref 133), some (.int (nI what)), some (.int (nI u)), some (.int (nI (fN 0))), some (.int 0), some (.int 1), none] [] X := by
  have hu2 : u < 4096 := Nat.lt_of_lt_of_le hu (Nat.pow_le_pow_right (n := 2) (by omega) hF)
  have hle : ∀ j, j ≤ u → (lmx fN (fun T => decide (nI T &&& (nI u ^^^ (-1)) = 0)) j).1 ≤ 168 := by
    intro j
    induction j with
    | zero => intro _; exact (hf 0 (Nat.zero_le _)).2
    | succ j ih =>
      intro hj
      rw [lmx_s]
      by_cases c : decide (nI (j + 1) &&& (nI u ^^^ (-1)) = 0) = true ∧ fN (j + 1) < (lmx fN (fun T => decide (nI T &&& (nI u ^^^ (-1)) = 0)) j).1
      · rw [if_pos c]; exact (hf (j + 1) hj).2
      · rw [if_neg c]; exact ih (by omega)
  have loop : ∀ j, j ≤ u → Ev g mX12_shifts d n n post n 67 [some (.ref 133), some (.int (nI what)), some (.int (nI u)), some (.int (nI (lmx fN (fun T => decide (nI T &&& (nI u ^^^ (-1)) = 0)) j).1)), some (.int (nI (lmx fN (fun T => decide (nI T &&& (nI u ^^^ (-1)) = 0)) j).2)), some (.int (nI (j + 1))), none] [] X := by
    refine down ?_ ?_
    · by_cases w : nI what = 0
      · rw [if_pos w] at hp
        exact bX12_shifts_67_2 hn hX (nI_lt (by omega) (by omega)) w hp
      · rw [if_neg w] at hp
        exact bX12_shifts_67_3 hn hX (nI_lt (by omega) (by omega)) w hp
    · intro j hj k
      have c0 : ¬ nI u < nI (j + 1) := nI_nlt (by omega) (by omega)
      have en : nI (j + 1) + 1 = nI (j + 1 + 1) := nI_1 (j + 1)
      obtain ⟨f1, f2⟩ := hf (j + 1) (by omega)
      have hl := hle j (by omega)
      by_cases c : nI (j + 1) &&& (nI u ^^^ (-1)) = 0
      · refine bX12_shifts_67_0 hn hX c0 c (qX12_shifts_85 (d' := d - 1) (rest := []) hn (by omega) (by decide) (k_X12_mostPicks (by omega) hn hX hP hF2) (fun w W hv => ?_))
        obtain ⟨rfl, hW⟩ := hv
        rw [hW, f1]
        rw [lmx_s] at k
        by_cases q : fN (j + 1) < (lmx fN (fun T => decide (nI T &&& (nI u ^^^ (-1)) = 0)) j).1
        · rw [if_pos ⟨decide_eq_true c, q⟩] at k
          refine bX12_shifts_88_0 (by omega) hn hX (by rw [nI_leI (by omega) (by omega)]; omega) ?_
          rw [if_neg (nI_nlt (by omega) (by omega)), en]
          exact k
        · rw [if_neg (fun w => q w.2)] at k
          refine bX12_shifts_88_1 (by omega) hn hX (by rw [nI_leI (by omega) (by omega)]; omega) ?_
          rw [en]
          by_cases z : (lmx fN (fun T => decide (nI T &&& (nI u ^^^ (-1)) = 0)) j).1 < fN (j + 1)
          · rw [if_pos (nI_lt z (by omega))]; exact k
          · rw [if_neg (nI_nlt (by omega) (by omega)), show fN (j + 1) = (lmx fN (fun T => decide (nI T &&& (nI u ^^^ (-1)) = 0)) j).1 by omega]; exact k
      · rw [lmx_s, if_neg (fun w => by rw [decide_eq_false c] at w; cases w.1)] at k
        refine bX12_shifts_67_1 hn hX c0 c ?_
        rw [en]
        exact k
  exact loop 0 (Nat.zero_le _)
end JPSH
