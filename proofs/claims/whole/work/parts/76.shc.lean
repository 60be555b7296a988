/-! SHIFTS, 2: the class's search. -/
theorem shS_le {pk : Nat → Nat → Nat} {k L m : Nat} {ld : Nat → Nat → Nat} {b : Nat × Nat} : (shS pk k L m ld b).1 ≤ b.1 := by
  rcases shS_ok (pk := pk) (k := k) (L := L) (m := m) (ld := ld) (b := b) with ⟨e, _⟩ | ⟨T, _, e, h, _⟩
  · rw [e]; exact Nat.le_refl _
  · rw [e]; exact Nat.le_of_lt h
def Shr (n : Nat) (X Z : LX) (ld : Nat → Nat → Nat) (b : Nat × Nat) : Prop := Sh n Z ∧ (∀ k, k ≠ 110 → k ≠ 125 → k ≠ 126 → Z k = X k) ∧ Z 110 3 = nI b.1 ∧ Z 110 4 = nI b.2 ∧ ∀ q, q < 2 → ∀ s, s < 4 → Z (124 + 1 + q) s = nI (ld q s)
theorem max_nI {a b : Nat} (ha : a < 2 ^ 31) (hb : b < 2 ^ 31) : (if nI a < nI b then nI b else nI a) = nI (max a b) := by
  by_cases h : a < b
  · rw [if_pos ((nI_ltI ha hb).mpr h), Nat.max_eq_right (Nat.le_of_lt h)]
  · rw [if_neg (fun w => h ((nI_ltI ha hb).mp w)), Nat.max_eq_left (by omega)]
section SHC
variable {g : GG} {n : Nat} {X : LX} {pk : Nat → Nat → Nat} {F : Nat}
theorem one_shift {d k sh L m : Nat} {ld : Nat → Nat → Nat} {b : Nat × Nat} {post : Option Value → LX → Prop} (hn : 146 ≤ n) (hd : 1 ≤ d) (hk : k < 12) (hsh : sh < 2) (hm : m ≤ 168) (hpk : ∀ s, s < 4 → X (111 + 1 + k) s = nI (pk k s) ∧ pk k s ≤ 14) (hb : ∀ q, q < 2 → ∀ s, s < 4 → ld q s + 14 * (k + 1) ≤ 168) (hL : nI L ||| (nI sh <<< (nI k &&& 31)) = nI (L + sh * 2 ^ k))
    (ih : ∀ Z, Shr n X Z (ldU ld sh (pk k)) b → Ex g mX10_seekFrom (d - 1) n n [.ref 110, .int (nI k - 1), .int (nI (L + sh * 2 ^ k)), .int (nI (mxs m (ld sh) (pk k) 4))] Z (fun v Z' => v = none ∧ Shr n X Z' (ldU ld sh (pk k)) (shS pk k (L + sh * 2 ^ k) (mxs m (ld sh) (pk k) 4) (ldU ld sh (pk k)) b)))
    (kk : ∀ Z, Shr n X Z ld (shS pk k (L + sh * 2 ^ k) (mxs m (ld sh) (pk k) 4) (ldU ld sh (pk k)) b) → Ev g mX10_seekFrom d n n post n 27 [some (.ref 110), some (.int (nI k)), some (.int (nI L)), some (.int (nI m)), some (.int (nI (sh + 1))), none, none] [] Z) {Z : LX} (hZ : Shr n X Z ld b) : Ev g mX10_seekFrom d n n post n 27 [some (.ref 110), some (.int (nI k)), some (.int (nI L)), some (.int (nI m)), some (.int (nI sh)), none, none] [] Z := by
  have hmx : ∀ i, i ≤ 4 → mxs m (ld sh) (pk k) i ≤ 168 := fun i hi => mxs_le.mpr ⟨hm, fun s hs => by have := hb sh hsh s (by omega); have := (hpk s (by omega)).2; omega⟩
  have hly : (LY (124 + 1 + sh)).1 < 2 := by rw [lyr_124 sh hsh]; exact (by decide : 0 < 2)
  -- taking away again
  have sub : ∀ (b' : Nat × Nat) (v5 : Int32), (∀ Z, Shr n X Z ld b' → Ev g mX10_seekFrom d n n post n 27 [some (.ref 110), some (.int (nI k)), some (.int (nI L)), some (.int (nI m)), some (.int (nI (sh + 1))), none, none] [] Z) → ∀ i, i ≤ 4 → ∀ Z, Shr n X Z (fun q s => ld q s + if q = sh ∧ i ≤ s then pk k s else 0) b' → Ev g mX10_seekFrom d n n post n 108 [some (.ref 110), some (.int (nI k)), some (.int (nI L)), some (.int (nI m)), some (.int (nI sh)), some (.int v5), some (.int (nI i))] [] Z := by
    intro b' v5 kk'
    refine down ?_ ?_
    · intro Z hZ
      have h := kk' Z ⟨hZ.1, hZ.2.1, hZ.2.2.1, hZ.2.2.2.1, fun q hq s hs => by
        have w : Z (124 + 1 + q) s = nI (ld q s + if q = sh ∧ 4 ≤ s then pk k s else 0) := hZ.2.2.2.2 q hq s hs
        rw [w, if_neg (by omega), Nat.add_zero]⟩
      rw [show nI (sh + 1) = nI sh + 1 from (nI_1 sh).symm] at h
      exact bX10_seekFrom_108_1 hn hZ.1 (show nI 4 ≤ nI 4 from nI_le (by omega) (by omega)) h
    · intro i hi k2 Z hZ
      rw [show nI (i + 1) = nI i + 1 from (nI_1 i).symm] at k2
      obtain ⟨z1, z2, z3, z4, z5'⟩ := hZ
      have z5 : ∀ q, q < 2 → ∀ s, s < 4 → Z (124 + 1 + q) s = nI (ld q s + if q = sh ∧ i ≤ s then pk k s else 0) := z5'
      refine bX10_seekFrom_108_0 hn z1 (show ¬ nI 4 ≤ nI i from nI_ge hi (by omega)) hsh hi hk (k2 _ ⟨z1.upA hly, fun a h1 h2 h3 => by rw [up_ne (by omega), z2 a h1 h2 h3], by rw [up_ne (by omega), z3], by rw [up_ne (by omega), z4], fun q hq s hs => ?_⟩)
      show _ = nI (ld q s + if q = sh ∧ i + 1 ≤ s then pk k s else 0)
      by_cases e : q = sh
      · subst e
        by_cases e2 : s = i
        · subst e2
          rw [up_it, z5 q hq s hs, z2 (111 + 1 + k) (by omega) (by omega) (by omega), (hpk s hs).1, if_pos ⟨rfl, Nat.le_refl _⟩, if_neg (show ¬ (q = q ∧ s + 1 ≤ s) by omega), pk_sub (by omega), Nat.add_sub_cancel, Nat.add_zero]
        · rw [up_at e2, z5 q hq s hs]
          by_cases w : i ≤ s
          · rw [if_pos ⟨rfl, w⟩, if_pos ⟨rfl, by omega⟩]
          · rw [if_neg (by omega), if_neg (by omega)]
      · rw [up_ne (by omega), z5 q hq s hs, if_neg (fun w => e w.1), if_neg (fun w => e w.1)]
  have add : ∀ i, i ≤ 4 → ∀ Z, Shr n X Z (fun q s => ld q s + if q = sh ∧ s < i then pk k s else 0) b → Ev g mX10_seekFrom d n n post n 39 [some (.ref 110), some (.int (nI k)), some (.int (nI L)), some (.int (nI m)), some (.int (nI sh)), some (.int (nI (mxs m (ld sh) (pk k) i))), some (.int (nI i))] [] Z := by
    refine down ?_ ?_
    · intro Z hZ
      obtain ⟨z1, z2, z3, z4, z5'⟩ := hZ
      have z5 : ∀ q, q < 2 → ∀ s, s < 4 → Z (124 + 1 + q) s = nI (ld q s + if q = sh ∧ s < 4 then pk k s else 0) := z5'
      have hE := ih Z ⟨z1, z2, z3, z4, fun q hq s hs => by
        rw [z5 q hq s hs]
        unfold ldU
        by_cases e : q = sh
        · rw [if_pos ⟨e, hs⟩, if_pos e]
        · rw [if_neg (fun w => e w.1), if_neg e]⟩
      rw [← hL] at hE
      refine bX10_seekFrom_39_1 hn z1 (show nI 4 ≤ nI 4 from nI_le (by omega) (by omega)) (qX10_seekFrom_102 (d' := d - 1) (rest := []) hn (by omega) (by decide) hE (fun v W hv => ?_))
      obtain ⟨rfl, hW⟩ := hv
      refine bX10_seekFrom_105_0 hn hW.1 (sub _ _ kk 0 (Nat.zero_le _) W ⟨hW.1, hW.2.1, hW.2.2.1, hW.2.2.2.1, fun q hq s hs => ?_⟩)
      show _ = nI (ld q s + if q = sh ∧ 0 ≤ s then pk k s else 0)
      rw [hW.2.2.2.2 q hq s hs]
      unfold ldU
      by_cases e : q = sh
      · rw [if_pos e, if_pos ⟨e, Nat.zero_le _⟩]
      · rw [if_neg e, if_neg (fun w => e w.1)]
    · intro i hi k2 Z hZ
      rw [show nI (i + 1) = nI i + 1 from (nI_1 i).symm, mxs_s] at k2
      obtain ⟨z1, z2, z3, z4, z5'⟩ := hZ
      have z5 : ∀ q, q < 2 → ∀ s, s < 4 → Z (124 + 1 + q) s = nI (ld q s + if q = sh ∧ s < i then pk k s else 0) := z5'
      have hv : Z (124 + 1 + sh) i + Z (111 + 1 + k) i = nI (ld sh i + pk k i) := by
        rw [z5 sh hsh i hi, z2 (111 + 1 + k) (by omega) (by omega) (by omega), (hpk i hi).1, if_neg (by omega), Nat.add_zero, nI_add]
      have hw : lx_up Z (124 + 1 + sh) i (Z (124 + 1 + sh) i + Z (111 + 1 + k) i) (124 + 1 + sh) i = nI (ld sh i + pk k i) := by rw [up_it, hv]
      have hbi := hb sh hsh i hi
      have hpi := (hpk i hi).2
      have hmi := hmx i (by omega)
      refine bX10_seekFrom_39_0 (by omega) hn z1 (show ¬ nI 4 ≤ nI i from nI_ge hi (by omega)) hsh hi hk ?_
      rw [hw, max_nI (by omega) (by omega)]
      refine k2 _ ⟨z1.upA hly, fun a h1 h2 h3 => by rw [up_ne (by omega), z2 a h1 h2 h3], by rw [up_ne (by omega), z3], by rw [up_ne (by omega), z4], fun q hq s hs => ?_⟩
      show _ = nI (ld q s + if q = sh ∧ s < i + 1 then pk k s else 0)
      by_cases e : q = sh
      · subst e
        by_cases e2 : s = i
        · subst e2
          rw [hw, if_pos ⟨rfl, by omega⟩]
        · rw [up_at e2, z5 q hq s hs]
          by_cases w : s < i
          · rw [if_pos ⟨rfl, w⟩, if_pos ⟨rfl, by omega⟩]
          · rw [if_neg (by omega), if_neg (by omega)]
      · rw [up_ne (by omega), z5 q hq s hs, if_neg (fun w => e w.1), if_neg (fun w => e w.1)]
  refine bX10_seekFrom_27_0 hn hZ.1 (show ¬ nI 2 ≤ nI sh from nI_ge hsh (by omega)) (add 0 (Nat.zero_le _) Z ⟨hZ.1, hZ.2.1, hZ.2.2.1, hZ.2.2.2.1, fun q hq s hs => by
    show _ = nI (ld q s + if q = sh ∧ s < 0 then pk k s else 0)
    rw [hZ.2.2.2.2 q hq s hs, if_neg (by omega), Nat.add_zero]⟩)
theorem c_shs (hn : 146 ≤ n) (hF : F ≤ 12) (hpk : ∀ f, f < F → ∀ s, s < 4 → X (111 + 1 + f) s = nI (pk f s) ∧ pk f s ≤ 14) : ∀ k, k ≤ F → ∀ (d q m : Nat) (ld : Nat → Nat → Nat) (b : Nat × Nat) (Z : LX), k + 2 ≤ d → 2 ^ k * q + 2 ^ k ≤ 2 ^ 12 → m ≤ 168 → (∀ q, q < 2 → ∀ s, s < 4 → ld q s + 14 * k ≤ 168) → b.1 ≤ 2147483647 → Shr n X Z ld b → Ex g mX10_seekFrom d n n [.ref 110, .int (nI k - 1), .int (nI (2 ^ k * q)), .int (nI m)] Z (fun v Z' => v = none ∧ Shr n X Z' ld (shS pk k (2 ^ k * q) m ld b)) := by
  intro k
  induction k with
  | zero =>
    intro _ d q m ld b Z hd hq hm hl hb hZ
    refine e_of vX10_seekFrom (Nat.le_of_ble_eq_true rfl) (cat_of rfl) ?_
    rw [shS_0]
    by_cases h : b.1 ≤ m
    · rw [if_pos h]
      exact bX10_seekFrom_0_0 hn hZ.1 (by rw [hZ.2.2.1]; exact nI_nlt h (by omega)) ⟨rfl, hZ⟩
    · rw [if_neg h]
      refine bX10_seekFrom_0_1 hn hZ.1 (by rw [hZ.2.2.1]; exact nI_lt (by omega) (by omega)) (by decide) ⟨rfl, (hZ.1.upF (by decide +kernel) (by decide +kernel)).upF (by decide +kernel) (by decide +kernel), fun a h1 h2 h3 => by rw [up_ne h1, up_ne h1, hZ.2.1 a h1 h2 h3], by rw [up_at (by omega), up_it], up_it, fun q hq s hs => by rw [up_ne (by omega), up_ne (by omega), hZ.2.2.2.2 q hq s hs]⟩
  | succ k ih =>
    intro hk d q m ld b Z hd hq hm hl hb hZ
    have hp : 2 ^ (k + 1) = 2 ^ k + 2 ^ k := by rw [Nat.pow_succ]; omega
    have eL : 2 ^ (k + 1) * q = 2 ^ k * (2 * q) := by rw [Nat.pow_succ, Nat.mul_assoc]
    refine e_of vX10_seekFrom (Nat.le_of_ble_eq_true rfl) (cat_of rfl) ?_
    rw [shS_s]
    by_cases h : b.1 ≤ m
    · rw [if_pos h]
      exact bX10_seekFrom_0_0 hn hZ.1 (by rw [hZ.2.2.1]; exact nI_nlt h (by omega)) ⟨rfl, hZ⟩
    · rw [if_neg h]
      rw [nI_pred k]
      refine bX10_seekFrom_0_2 hn hZ.1 (by rw [hZ.2.2.1]; exact nI_lt (by omega) (by omega)) (nI_pos' (by omega)) ?_
      have hmx : ∀ sh, sh < 2 → mxs m (ld sh) (pk k) 4 ≤ 168 := fun sh hsh => mxs_le.mpr ⟨hm, fun s hs => by have := hl sh hsh s hs; have := (hpk k (by omega) s hs).2; omega⟩
      have hld : ∀ sh, sh < 2 → ∀ q, q < 2 → ∀ s, s < 4 → ldU ld sh (pk k) q s + 14 * k ≤ 168 := fun sh hsh q hq s hs => by
        unfold ldU
        have := hl q hq s hs
        have := (hpk k (by omega) s hs).2
        by_cases e : q = sh
        · rw [if_pos e]; omega
        · rw [if_neg e]; omega
      have h2q : 2 ^ k * (2 * q) + 2 ^ k + 2 ^ k ≤ 2 ^ 12 := by rw [← eL]; omega
      refine one_shift (sh := 0) hn (by omega) (by omega) (by omega) hm (fun s hs => hpk k (by omega) s hs) (fun q hq s hs => hl q hq s hs) ?_ (fun W hW => ?_) (fun W hW => ?_) hZ
      · have h0 := pk_shlN (n := 0) (nI k &&& 31) k (s_l k (by omega)) (by rw [Nat.zero_mul]; omega)
        rw [Nat.zero_mul] at h0
        rw [h0, show nI 0 = (0 : Int32) from rfl, Int32.or_zero, Nat.zero_mul]
        rfl
      · rw [Nat.zero_mul, Nat.add_zero, eL]
        exact ih (by omega) (d - 1) (2 * q) _ _ b W (by omega) (Nat.le_trans (Nat.le_add_right _ _) h2q) (hmx 0 (by omega)) (hld 0 (by omega)) hb hW
      · rw [Nat.zero_mul, Nat.add_zero] at hW
        have e1 : 2 ^ (k + 1) * q + 1 * 2 ^ k = 2 ^ k * (2 * q + 1) := by rw [eL, Nat.one_mul, Nat.mul_add, Nat.mul_one]
        refine one_shift (sh := 1) hn (by omega) (by omega) (by omega) hm (fun s hs => hpk k (by omega) s hs) (fun q hq s hs => hl q hq s hs) ?_ (fun V hV => ?_) (fun V hV => ?_) hW
        · rw [show nI 1 <<< (nI k &&& 31) = nI (2 ^ k) from shl_nI (by omega), nx_or, Nat.one_mul, ← Nat.two_pow_add_eq_or_of_lt (show 2 ^ k < 2 ^ (k + 1) from Nat.pow_lt_pow_right (by omega) (by omega))]
        · rw [e1]
          have w := ih (by omega) (d - 1) (2 * q + 1) _ _ _ V (by omega) (by rw [Nat.mul_add, Nat.mul_one]; exact h2q) (hmx 1 (by omega)) (hld 1 (by omega)) (Nat.le_trans shS_le hb) hV
          exact w
        · rw [Nat.one_mul] at hV
          exact bX10_seekFrom_27_1 hn hV.1 (show nI 2 ≤ nI (1 + 1) from nI_le (by omega) (by omega)) ⟨rfl, hV⟩
end SHC
