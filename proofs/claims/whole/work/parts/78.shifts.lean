/-! THE CALLS, 28: shifts, the end. -/
section SHIFTS
variable {LR : LX → (Nat → Int32) → Prop} {g : GG} {n : Nat} {X : LX}
theorem pkd_num (hP : num X 2 0 14) {f s : Nat} : pkd X f s (ix (X 2 0)) = nI (ix (pkd X f s (ix (X 2 0)))) ∧ ix (pkd X f s (ix (X 2 0))) ≤ 14 := by
  have h14 := (hP.eq (by omega)).2
  obtain ⟨k, hk, e⟩ := sum_b (F := fun p => if cNeed X f (cBox X f) p ≤ 0 then 0 else if X 6 p = nI s then 1 else 0) (N := ix (X 2 0)) (fun p _ => by
    by_cases c : cNeed X f (cBox X f) p ≤ 0
    · exact Or.inl (if_pos c)
    · by_cases c2 : X 6 p = nI s
      · exact Or.inr (by rw [if_neg c, if_pos c2])
      · exact Or.inl (by rw [if_neg c, if_neg c2]))
  have e2 : pkd X f s (ix (X 2 0)) = nI k := e
  rw [e2, ix_nI (by omega)]
  exact ⟨rfl, by omega⟩
theorem pkd_0 {f s i : Nat} (h : cBox X f = 0) : pkd X f s i = 0 := by
  unfold pkd
  refine sum_0 (fun p _ => ?_)
  rw [h]
  have e : cNeed X f 0 p = 0 := by
    unfold cNeed
    rw [sum_mul]
    refine sum_0 (fun m _ => ?_)
    have hz : nb 0 m := by
      show ((0 : Int32) >>> (nI m &&& 31)) &&& 1 = 0
      have : (0 : Int32) >>> (nI m &&& 31) = 0 := by
        apply Int32.toBitVec_inj.1
        rw [Int32.toBitVec_shiftRight]
        simp
      rw [this]
      decide
    rw [if_pos hz, Int32.zero_mul]
  rw [e, if_pos (by decide)]
theorem pks_tot {pk : Nat → Nat → Nat} {F : Nat} (hF : F ≤ 12) (eF : X 37 0 = nI F) {s sh T : Nat} (hsh : sh < 2) (hpk : ∀ f, f < F → pkd X f s (ix (X 2 0)) = nI (pk f s)) : pks X s (nI sh) (nI T) = nI (tot pk F T sh s) := by
  unfold pks tot
  rw [eF, ix_nI (by omega)]
  refine sum_nI (fun f hf => ?_)
  have hs : sel (nI T) (nI sh) f ↔ T.testBit f = decide (sh = 1) := by
    unfold sel
    rw [hb_bt (by omega), bt_nI (by omega)]
    rcases (show sh = 0 ∨ sh = 1 by omega) with e | e
    · subst e
      cases T.testBit f
      · exact ⟨fun _ => rfl, fun _ => ⟨fun w => (by cases w), fun w => absurd w (by decide)⟩⟩
      · exact ⟨fun w => absurd (w.mp rfl) (by decide), fun w => absurd w (by decide)⟩
    · subst e
      cases T.testBit f
      · exact ⟨fun w => absurd (w.mpr rfl) (by decide), fun w => absurd w (by decide)⟩
      · exact ⟨fun _ => rfl, fun _ => ⟨fun _ => rfl, fun _ => rfl⟩⟩
  by_cases c : T.testBit f = decide (sh = 1)
  · rw [if_pos c, if_pos (hs.mpr c), hpk f hf]
  · rw [if_neg c, if_neg (fun w => c (hs.mp w))]; rfl
theorem jp_shifts (hL : LRok LR) {a : Int32} (hn : 146 ≤ n) (hn2 : n ≤ 226) (hI : Iv LR n X) : JP g (Iv LR) mX11_shifts mX12_shifts [.int a] n X := by
  obtain ⟨hX, hK, hT, hB, hZ⟩ := id hI
  obtain ⟨⟨-, -, -, -, e4, -, e6, -⟩, -, -, ⟨P, hP, ep⟩, -, ⟨F, hF, ef⟩, -⟩ := hK.1
  by_cases h : 0 ≤ a ∧ a ≤ 1
  · obtain ⟨wh, hwh, rfl⟩ := i_num (N := 1) (by omega) h.1 h.2
    have eF : X 37 0 = nI F := e6.trans ef
    have hkK := okK_of hK
    have hP2 : num X 2 0 14 := ⟨P, hP, e4.trans ep⟩
    obtain ⟨pk, hpkd⟩ : ∃ pk : Nat → Nat → Nat, pk = fun f s => ix (pkd X f s (ix (X 2 0))) := ⟨_, rfl⟩
    have hpk : ∀ f s, pkd X f s (ix (X 2 0)) = nI (pk f s) ∧ pk f s ≤ 14 := fun f s => by rw [hpkd]; exact pkd_num hP2
    obtain ⟨u, hu, eu, hub⟩ := full_lt (X := X) hF
    have htot : ∀ T sh s, tot pk F T sh s ≤ 168 := fun T sh s => by
      have := nsum_le (a := fun f => if T.testBit f = decide (sh = 1) then pk f s else 0) (b := 14) (N := F) (fun f _ => by
        show (if T.testBit f = decide (sh = 1) then pk f s else 0) ≤ 14
        by_cases c : T.testBit f = decide (sh = 1)
        · rw [if_pos c]; exact (hpk f s).2
        · rw [if_neg c]; omega)
      have h2 : F * 14 ≤ 12 * 14 := Nat.mul_le_mul_right 14 hF
      unfold tot
      omega
    have hmx : ∀ T k, mxT pk F T k ≤ 168 := fun T k => mxT_le.mpr (fun j _ => htot _ _ _)
    -- rows that differ in empty boxes alone
    have hsame : ∀ T, mxT pk F (T &&& u) 8 = mxT pk F T 8 := by
      have ht : ∀ T sh s, tot pk F (T &&& u) sh s = tot pk F T sh s := fun T sh s => by
        unfold tot
        refine nsum_cg (fun f hf => ?_)
        rw [Nat.testBit_and]
        by_cases c : u.testBit f = true
        · rw [c, Bool.and_true]
        · have hbx : mBox X f = 0 := Classical.byContradiction (fun w => c ((hub f hf).mpr w))
          have hlt : nI f < X 134 6 := by rw [ef, nI_lt_iff (by omega) (by omega)]; exact hf
          have e0 : pk f s = 0 := by
            rw [hpkd]
            show ix (pkd X f s (ix (X 2 0))) = 0
            rw [pkd_0 (by rw [box_eq hK (by omega) hlt, hbx])]
            rfl
          rw [e0]
          rw [ite_self, ite_self]
      intro T
      refine Nat.le_antisymm (mxT_le.mpr (fun j hj => ?_)) (mxT_le.mpr (fun j hj => ?_))
      · rw [ht]; exact mxT_le.mp (Nat.le_refl _) j hj
      · rw [← ht T]; exact mxT_le.mp (Nat.le_refl _) j hj
    have hsubT : ∀ T, T < 2 ^ 31 → (decide (nI T &&& (nI u ^^^ (-1)) = 0) = true ↔ T &&& u = T) := fun T hT => by
      rw [decide_eq_true_iff]
      have hu31 : u < 2 ^ 31 := Nat.lt_of_lt_of_le hu (Nat.pow_le_pow_right (by omega) (by omega))
      constructor
      · intro w
        apply Nat.eq_of_testBit_eq
        intro i
        rw [Nat.testBit_and]
        rcases Nat.lt_or_ge i 32 with q | q
        · have e : bt (nI T &&& (nI u ^^^ (-1))) i = false := by rw [w, b_0]
          rw [b_and, b_xor, b_m1 i q, bt_nI q, bt_nI q] at e
          cases h1 : T.testBit i
          · rfl
          · rw [h1] at e
            cases h2 : u.testBit i
            · rw [h2] at e; cases e
            · rfl
        · rw [Nat.testBit_lt_two_pow (Nat.lt_of_lt_of_le hT (Nat.pow_le_pow_right (by omega) (by omega)))]; rfl
      · intro w
        apply b_ext
        intro i hi
        rw [b_0, b_and, b_xor, b_m1 i hi, bt_nI hi, bt_nI hi]
        have e : (T &&& u).testBit i = T.testBit i := by rw [w]
        rw [Nat.testBit_and] at e
        cases h1 : T.testBit i
        · rfl
        · rw [h1] at e
          rw [Bool.true_and] at e
          rw [e]; rfl
    have hu31 : u < 2 ^ 31 := Nat.lt_of_lt_of_le hu (Nat.pow_le_pow_right (by omega) (by omega))
    -- both find the same row
    have hres : shS pk F 0 0 (fun _ _ => 0) (169, 0) = lmx (fun T => mxT pk F T 8) (fun T => decide (nI T &&& (nI u ^^^ (-1)) = 0)) u := by
      obtain ⟨S, hS, hs, es, hmin⟩ := lmx_ok (f := fun T => mxT pk F T 8) (sub := fun T => decide (nI T &&& (nI u ^^^ (-1)) = 0)) ((hsubT 0 (by omega)).mpr (Nat.zero_and u)) (j := u)
      have hall : ∀ T, T < 2 ^ F → mxT pk F S 8 ≤ mxT pk F T 8 ∧ (mxT pk F T 8 = mxT pk F S 8 → S ≤ T) := fun T hT => by
        have hle : T &&& u ≤ u := Nat.and_le_right
        have hle2 : T &&& u ≤ T := Nat.and_le_left
        have hsu : decide (nI (T &&& u) &&& (nI u ^^^ (-1)) = 0) = true := (hsubT (T &&& u) (by omega)).mpr (by rw [Nat.and_assoc, Nat.and_self])
        obtain ⟨m1, m2⟩ := hmin (T &&& u) hle hsu
        have m1' : mxT pk F S 8 ≤ mxT pk F (T &&& u) 8 := m1
        have m2' : mxT pk F (T &&& u) 8 = mxT pk F S 8 → S ≤ T &&& u := m2
        rw [hsame T] at m1' m2'
        exact ⟨m1', fun w => Nat.le_trans (m2' w) hle2⟩
      rw [es]
      have hSF : S < 2 ^ F := by omega
      rcases shS_ok (pk := pk) (k := F) (L := 0) (m := 0) (ld := fun _ _ => 0) (b := (169, 0)) with ⟨e, w⟩ | ⟨T, hT, e, w, hTm⟩
      · have := w S hSF
        rw [mxT_V hSF] at this
        have h3 := hmx S 8
        have h4 : (169 : Nat) ≤ mxT pk F S 8 := this
        omega
      · rw [e, mxT_V hT, Nat.zero_add]
        have a1 := hTm S hSF
        rw [mxT_V hT, mxT_V hSF] at a1
        have a2 := hall T hT
        have eV : mxT pk F T 8 = mxT pk F S 8 := by omega
        have eT : T = S := Nat.le_antisymm (a1.2 eV.symm) (a2.2 eV)
        rw [eT]
    refine jp_rel (fun r W => r = (if nI wh = 0 then nI (shS pk F 0 0 (fun _ _ => 0) (169, 0)).1 else nI (shS pk F 0 0 (fun _ _ => 0) (169, 0)).2) ∧ Sh n W ∧ (∀ k, k ≠ 110 → k < 112 ∨ (124 ≤ k ∧ k ≠ 125 ∧ k ≠ 126) → W k = X k) ∧ LZ W) hn hn2 (e_of vX11_shifts (Nat.le_of_ble_eq_true rfl) (cat_of rfl) (bX11_shifts_0_0 (Nat.le_of_ble_eq_true rfl) hn hX h (qX11_shifts_16 (d' := 100) (rest := []) hn (by omega) (by decide) (c_X10_seek hn hX hF eF hkK hK.stn (fun f _ s _ => hpk f s) hZ) (fun v W hv => ?_)))) (fun r W hW => ?_)
    · obtain ⟨rfl, w1, w2, w3, w4, w5⟩ := hv
      by_cases c : nI wh = 0
      · exact bX11_shifts_19_0 hn w1 c ⟨_, rfl, by rw [if_pos c, w4], w1, w2, w3⟩
      · exact bX11_shifts_19_1 hn w1 c ⟨_, rfl, by rw [if_neg c, w5], w1, w2, w3⟩
    · obtain ⟨rfl, w1, w2, w3⟩ := hW
      have w134 : W 134 = X 134 := w2 134 (by omega) (by omega)
      have hIW : Iv LR n W := iv_now2 hL hI w1 (hK.same hL (fun k _ _ => w2 k (by omega) (by omega)) (fun j _ => by rw [w134])) (hT.fr ⟨by rw [w2 81 (by omega) (by omega)], by rw [w2 133 (by omega) (by omega)], by rw [w2 0 (by omega) (by omega)], by rw [w2 133 (by omega) (by omega)]⟩ (fun k _ => w2 k (by omega) (by omega))) (by rw [w2 0 (by omega) (by omega)]) (by rw [w2 133 (by omega) (by omega)]) (fun k _ => w2 k (by omega) (by omega)) (w2 135 (by omega) (by omega)) w3
      have hKW := hIW.2.1
      have hSV : Sh n (lx_row W 140 (mNd W)) := w1.row (by decide +kernel)
      have v134 : lx_row W 140 (mNd W) 134 = X 134 := by rw [lx_row_ne _ _ _ (by omega), w134]
      have nP : num (lx_row W 140 (mNd W)) 134 4 14 := ⟨P, hP, by rw [v134, ep]⟩
      have nF : num (lx_row W 140 (mNd W)) 134 6 12 := ⟨F, hF, by rw [v134, ef]⟩
      have s76 : same76 X W := fun k h1 h2 => w2 k (by omega) (by omega)
      have hpkW : ∀ f, f < F → ∀ s, pkd W f s (ix (W 2 0)) = nI (pk f s) := fun f hf s => by
        have e : pkd W f s (ix (W 2 0)) = pkd X f s (ix (X 2 0)) := by
          unfold pkd
          rw [w2 2 (by omega) (by omega), cBox_cg s76 hkK.2.1 (by omega)]
          refine sum_cg (fun p _ => ?_)
          rw [cNeed_cg s76 hkK.2.1, w2 6 (by omega) (by omega)]
        rw [e]; exact (hpk f s).1
      have hms : ∀ T k, k ≤ 8 → mMs (lx_row W 140 (mNd W)) (nI T) k = nI (mxT pk F T k) := by
        intro T k
        induction k with
        | zero => intro _; rfl
        | succ k ih =>
          intro hk
          have ek : mPk (lx_row W 140 (mNd W)) (nI (k / 2)) (nI (k % 2)) (nI T) = nI (tot pk F T (k % 2) (k / 2)) := by
            rw [← pks_eq hKW (s := k / 2) (by omega) (by rw [v134, w134]) (lx_row_self _ _ _)]
            exact pks_tot hF (by rw [w2 37 (by omega) (by omega), eF]) (by omega) (fun f hf => hpkW f hf (k / 2))
          rw [mMs_s, mxT_s, ih (by omega), ek]
          exact max_nI (by have := hmx T k; omega) (by have := htot T (k % 2) (k / 2); omega)
      have hmB : ∀ f, mBox W f = mBox X f := fun f => mBox_cg w134
      refine e_of vX12_shifts (Nat.le_of_ble_eq_true rfl) (cat_of rfl) (bX12_shifts_0_0 (Nat.le_of_ble_eq_true rfl) hn w1 h ?_)
      have loop : ∀ i, i ≤ F → Ev g mX12_shifts 200 n n (fun v X2 => v = some (.int (if nI wh = 0 then nI (shS pk F 0 0 (fun _ _ => 0) (169, 0)).1 else nI (shS pk F 0 0 (fun _ _ => 0) (169, 0)).2)) ∧ Iv LR n X2) n 16 [some (.ref 133), some (.int (nI wh)), some (.int (fullM X i)), some (.int (nI i)), none, none, none] [] W := by
        refine down ?_ ?_
        · refine bX12_shifts_16_2 hn w1 (by rw [w134, ef]; exact Int32.le_refl _) (qX12_shifts_52 (d' := 100) (rest := []) hn (by omega) (by decide) (c_X12_findNeeds (Nat.le_of_ble_eq_true rfl) hn w1 (okN_of hKW) ⟨F, hF, by rw [w134, ef]⟩) (fun v V hv => ?_))
          obtain ⟨rfl, hV⟩ := hv
          rw [hV]
          refine bX12_shifts_55_0 hn hSV (qX12_shifts_57 (d' := 100) (rest := []) hn (by omega) (by decide) (k_X12_mostPicks (by omega) hn hSV nP nF) (fun v V hv => ?_))
          obtain ⟨rfl, hV⟩ := hv
          rw [hV, show mMs (lx_row W 140 (mNd W)) 0 8 = nI (mxT pk F 0 8) from hms 0 8 (by omega), eu]
          refine bX12_shifts_60_0 hn hSV (sh_loop (F := F) (u := u) (fN := fun T => mxT pk F T 8) (by omega) hn hSV hF hu nP nF (fun T _ => ⟨hms T 8 (by omega), hmx T 8⟩) ⟨?_, iv_140 hL hIW⟩)
          rw [hres]
        · intro i hi k
          rw [show nI (i + 1) = nI i + 1 from (nI_1 i).symm, fullM_s] at k
          have c0 : ¬ W 134 6 ≤ nI i := by rw [w134, ef]; exact nI_ge hi (by omega)
          by_cases c : mBox X i = 0
          · rw [if_neg (show ¬ ¬ mBox X i = 0 from fun w => w c)] at k
            exact bX12_shifts_16_1 (Nat.le_of_ble_eq_true rfl) hn w1 c0 (by omega) (okN_of hKW) (by rw [hmB]; exact c) k
          · rw [if_pos (show ¬ mBox X i = 0 from c)] at k
            exact bX12_shifts_16_0 (Nat.le_of_ble_eq_true rfl) hn w1 c0 (by omega) (okN_of hKW) (by rw [hmB]; exact c) k
      exact loop 0 (Nat.zero_le _)
  · exact jp_of hn hn2 (e_of vX11_shifts (Nat.le_of_ble_eq_true rfl) (cat_of rfl) (bX11_shifts_0_1 (Nat.le_of_ble_eq_true rfl) hn hX h ⟨rfl, rfl⟩)) (e_of vX12_shifts (Nat.le_of_ble_eq_true rfl) (cat_of rfl) (bX12_shifts_0_1 (Nat.le_of_ble_eq_true rfl) hn hX h ⟨rfl, rfl⟩)) hI
end SHIFTS
