/-! THE CALLS, 21: feed. -/
/-- i bytes laid behind the first j -/
def fdr (r b : Nat → Int32) (j i : Nat) : Nat → Int32 := fun t => if j ≤ t ∧ t < j + i then b (t - j) else r t
def cby (v : Int32) (k : Nat) : Int32 := (v >>> (nI (24 - 8 * k) &&& 31)) &&& 255
def mby (a b c : Int32) (k : Nat) : Int32 := ((if k < 4 then a else if k < 8 then b else c) >>> ((24 - 8 * (nI k - nI k / 4 * 4)) &&& 31)) &&& 255
theorem fdr_s (r b : Nat → Int32) (j i : Nat) : upd (fdr r b j i) (j + i) (b i) = fdr r b j (i + 1) := by
  funext t
  unfold upd fdr
  by_cases h : t = j + i
  · subst h
    rw [if_pos rfl, if_pos (by omega), Nat.add_sub_cancel_left]
  · rw [if_neg h]
    by_cases q : j ≤ t ∧ t < j + i
    · rw [if_pos q, if_pos (by omega)]
    · rw [if_neg q, if_neg (by omega)]
theorem fdr_0 (r b : Nat → Int32) (j : Nat) : fdr r b j 0 = r := by funext t; unfold fdr; rw [if_neg (by omega)]
/-- row R with i bytes, and the count in cell K, slot S -/
def fdH (R K S : Nat) (X : LX) (b : Nat → Int32) (j i : Nat) : LX := lx_up (lx_row X R (fdr (X R) b j i)) K S (nI (j + i))
theorem fdH_0 {R K S : Nat} {X : LX} {b : Nat → Int32} {j : Nat} (e : X K S = nI j) : fdH R K S X b j 0 = X := by
  unfold fdH
  rw [fdr_0, lx_row_id, Nat.add_zero, ← e]
  funext a
  by_cases h : a = K
  · subst h
    unfold lx_up
    rw [if_pos rfl]
    funext t
    unfold upd
    by_cases q : t = S
    · rw [if_pos q, q]
    · rw [if_neg q]
  · rw [up_ne h]
theorem fdH_c {R K S : Nat} {X : LX} {b : Nat → Int32} {j i : Nat} : fdH R K S X b j i K S = nI (j + i) := up_it
theorem fdH_s1 {R K S : Nat} (hRK : R ≠ K) {X : LX} {b : Nat → Int32} {j i : Nat} : lx_up (lx_up (fdH R K S X b j i) K S (fdH R K S X b j i K S + 1)) R (j + i) (b i) = fdH R K S X b j (i + 1) := by
  rw [fdH_c, nI_1]
  unfold fdH
  rw [← fdr_s]
  funext a
  by_cases h : a = R
  · subst h
    unfold lx_up
    rw [if_pos rfl, if_neg hRK, if_neg hRK, if_neg hRK, lx_row_self, lx_row_self]
  · rw [up_ne h]
    by_cases q : a = K
    · subst q
      unfold lx_up
      rw [if_pos rfl, if_pos rfl, if_pos rfl, lx_row_ne _ _ _ h, lx_row_ne _ _ _ h]
      funext t
      unfold upd
      by_cases z : t = S
      · rw [if_pos z, if_pos z]; rfl
      · rw [if_neg z, if_neg z, if_neg z]
    · rw [up_ne q, up_ne q, up_ne q, lx_row_ne _ _ _ h, lx_row_ne _ _ _ h]
theorem fdH_s2 {R K S : Nat} (hRK : R ≠ K) {X : LX} {b : Nat → Int32} {j i : Nat} : lx_up (lx_up (fdH R K S X b j i) R (j + i) (b i)) K S (fdH R K S X b j i K S + 1) = fdH R K S X b j (i + 1) := by
  rw [← fdH_s1 hRK]
  funext a
  by_cases h : a = R
  · subst h
    unfold lx_up
    rw [if_pos rfl, if_neg hRK, if_neg hRK, if_pos rfl]
  · by_cases q : a = K
    · subst q
      unfold lx_up
      rw [if_pos rfl, if_neg h, if_neg h, if_pos rfl]
    · rw [up_ne q, up_ne h, up_ne h, up_ne q]
theorem sh_12 : ∀ k, k < 12 → (24 - 8 * (nI k - nI k / 4 * 4) : Int32) = nI (24 - 8 * (k % 4)) := by decide +kernel
theorem byte_lt (x : Int32) : 0 ≤ x &&& 255 ∧ x &&& 255 ≤ 255 := by
  obtain ⟨j, hj, e⟩ := pk_andE x (m := 255) 8 (by decide)
  rw [e]
  exact ⟨nI_pos' (by omega), nI_le (b := 255) (by omega) (by omega)⟩
section FEED
variable {LR : LX → (Nat → Int32) → Prop} {g : GG} {d n : Nat} {X : LX} {post : Option Value → LX → Prop}
theorem Sh.fdC {b : Nat → Int32} {j i : Nat} (hX : Sh n X) : Sh n (fdH 82 81 1 X b j i) := (hX.row (by decide +kernel)).upF (by decide +kernel) (by decide +kernel)
theorem Sh.fdM {b : Nat → Int32} {j i : Nat} (hX : Sh n X) : Sh n (fdH 136 133 4 X b j i) := (hX.row (by decide +kernel)).upF (by decide +kernel) (by decide +kernel)
theorem ab_step {v v2 v2' : Int32} {j i : Nat} (hn : 146 ≤ n) (hX : Sh n X) (hj : j + i < 120) (h2 : ¬ v2 < 0) (e2 : v2 + (-8) = v2') (e : (v >>> (v2 &&& 31)) &&& 255 = cby v i) (k : Ev g mX3_addBytes d n n post n 3 [some (.ref 81), some (.int v), some (.int v2')] [] (fdH 82 81 1 X (cby v) j (i + 1))) : Ev g mX3_addBytes d n n post n 3 [some (.ref 81), some (.int v), some (.int v2)] [] (fdH 82 81 1 X (cby v) j i) := by
  refine bX3_addBytes_3_0 hn hX.fdC h2 (by rw [fdH_c]; exact nI_ge (b := 120) hj (by omega)) fdH_c hj ?_
  rw [e, e2, fdH_s1 (by omega)]
  exact k
theorem c_X3_addBytes {v : Int32} {j : Nat} (hn : 146 ≤ n) (hX : Sh n X) (hj : j + 4 ≤ 120) (e : X 81 1 = nI j) : Ex g mX3_addBytes d n n [.ref 81, .int v] X (rv (fdH 82 81 1 X (cby v) j 4)) := by
  refine e_of vX3_addBytes (Nat.le_of_ble_eq_true rfl) (cat_of rfl) (bX3_addBytes_0_0 hn hX ?_)
  have h := ab_step (g := g) (d := d) (post := rv (fdH 82 81 1 X (cby v) j 4)) (v := v) (v2 := 24) (v2' := 16) (j := j) (i := 0) hn hX (by omega) (by decide) (by decide) rfl
    (ab_step (v2 := 16) (v2' := 8) hn hX (by omega) (by decide) (by decide) rfl
      (ab_step (v2 := 8) (v2' := 0) hn hX (by omega) (by decide) (by decide) rfl
        (ab_step (v2 := 0) (v2' := -8) hn hX (by omega) (by decide) (by decide) rfl
          (bX3_addBytes_3_2 hn hX.fdC (by decide) ⟨rfl, rfl⟩))))
  rw [fdH_0 e] at h
  exact h
theorem m_feed {a b c : Int32} {j : Nat} (hn : 146 ≤ n) (hX : Sh n X) (hj : j + 12 ≤ 120) (e : X 133 4 = nI j) : Ex g mX12_feed d n n [.ref 133, .int a, .int b, .int c] X (rt (nI (j + 12)) (fdH 136 133 4 X (mby a b c) j 12)) := by
  refine e_of vX12_feed (Nat.le_of_ble_eq_true rfl) (cat_of rfl) (bX12_feed_0_1 hn hX (by rw [e]; show nI j + nI 12 ≤ nI 120; rw [nI_add]; exact nI_le (by omega) (by omega)) ?_)
  have loop : ∀ i, i ≤ 12 → Ev g mX12_feed d n n (rt (nI (j + 12)) (fdH 136 133 4 X (mby a b c) j 12)) n 18 [some (.ref 133), some (.int a), some (.int b), some (.int c), some (.int (nI i)), none] [] (fdH 136 133 4 X (mby a b c) j i) := by
    refine down ?_ ?_
    · exact bX12_feed_18_3 hn hX.fdM (show nI 12 ≤ nI 12 from nI_le (by omega) (by omega)) ⟨by rw [fdH_c], rfl⟩
    · intro i hi k
      rw [show nI (i + 1) = nI i + 1 from (nI_1 i).symm, ← fdH_s2 (i := i) (by omega)] at k
      have c0 : ¬ (12 : Int32) ≤ nI i := show ¬ nI 12 ≤ nI i from nI_ge hi (by omega)
      by_cases q4 : i < 4
      · rw [show mby a b c i = (a >>> ((24 - 8 * (nI i - nI i / 4 * 4)) &&& 31)) &&& 255 by unfold mby; rw [if_pos q4]] at k
        exact bX12_feed_18_0 hn hX.fdM c0 (show ¬ nI 4 ≤ nI i from nI_ge q4 (by omega)) fdH_c (by omega) k
      · by_cases q8 : i < 8
        · rw [show mby a b c i = (b >>> ((24 - 8 * (nI i - nI i / 4 * 4)) &&& 31)) &&& 255 by unfold mby; rw [if_neg q4, if_pos q8]] at k
          exact bX12_feed_18_1 hn hX.fdM c0 (show nI 4 ≤ nI i from nI_le (by omega) (by omega)) (show ¬ nI 8 ≤ nI i from nI_ge q8 (by omega)) fdH_c (by omega) k
        · rw [show mby a b c i = (c >>> ((24 - 8 * (nI i - nI i / 4 * 4)) &&& 31)) &&& 255 by unfold mby; rw [if_neg q4, if_neg q8]] at k
          exact bX12_feed_18_2 hn hX.fdM c0 (show nI 4 ≤ nI i from nI_le (by omega) (by omega)) (show nI 8 ≤ nI i from nI_le (by omega) (by omega)) fdH_c (by omega) k
  have h := loop 0 (Nat.zero_le _)
  rw [fdH_0 e] at h
  exact h
theorem mby_eq {a b c : Int32} {k : Nat} (hk : k < 12) : mby a b c k = if k < 4 then cby a k else if k < 8 then cby b (k - 4) else cby c (k - 8) := by
  unfold mby cby
  rw [sh_12 k hk]
  by_cases q4 : k < 4
  · rw [if_pos q4, if_pos q4, show k % 4 = k by omega]
  · rw [if_neg q4, if_neg q4]
    by_cases q8 : k < 8
    · rw [if_pos q8, if_pos q8, show k % 4 = k - 4 by omega]
    · rw [if_neg q8, if_neg q8, show k % 4 = k - 8 by omega]
theorem jp_feed (hL : LRok LR) {a b c : Int32} (hn : 146 ≤ n) (hn2 : n ≤ 226) (hI : Iv LR n X) : JP g (Iv LR) mX11_feed mX12_feed [.int a, .int b, .int c] n X := by
  obtain ⟨hX, hK, hT, hB⟩ := id hI
  obtain ⟨⟨t1, ⟨j, hj, t2⟩, t3⟩, tw, ts⟩ := id hT
  have e81 := t1.trans t2
  have hs12 : X 81 1 + 12 = nI (j + 12) := by rw [e81]; show nI j + nI 12 = _; rw [nI_add]
  rcases Nat.lt_or_ge 108 j with q | q
  · refine jp_of hn hn2 (e_of vX11_feed (Nat.le_of_ble_eq_true rfl) (cat_of rfl) (bX11_feed_0_0 hn hX (by rw [hs12]; exact nI_ge (a := 120) (by omega) (by omega)) ⟨rfl, rfl⟩)) (e_of vX12_feed (Nat.le_of_ble_eq_true rfl) (cat_of rfl) (bX12_feed_0_0 hn hX (by rw [← t1, hs12]; exact nI_ge (a := 120) (by omega) (by omega)) ⟨rfl, rfl⟩)) hI
  · obtain ⟨X1, h1⟩ : ∃ Y : LX, Y = fdH 82 81 1 X (cby a) j 4 := ⟨_, rfl⟩
    obtain ⟨X2, h2⟩ : ∃ Y : LX, Y = fdH 82 81 1 X1 (cby b) (j + 4) 4 := ⟨_, rfl⟩
    obtain ⟨X3, h3⟩ : ∃ Y : LX, Y = fdH 82 81 1 X2 (cby c) (j + 8) 4 := ⟨_, rfl⟩
    have s1 : Sh n X1 := by rw [h1]; exact hX.fdC
    have s2 : Sh n X2 := by rw [h2]; exact s1.fdC
    have s3 : Sh n X3 := by rw [h3]; exact s2.fdC
    have c1 : X1 81 1 = nI (j + 4) := by rw [h1, fdH_c]
    have c2 : X2 81 1 = nI (j + 8) := by rw [h2, fdH_c]
    have c3 : X3 81 1 = nI (j + 12) := by rw [h3, fdH_c]
    have f3 : ∀ k, k ≠ 81 ∧ k ≠ 82 → X3 k = X k := fun k w => by
      rw [h3, fdH, up_ne w.1, lx_row_ne _ _ _ w.2, h2, fdH, up_ne w.1, lx_row_ne _ _ _ w.2, h1, fdH, up_ne w.1, lx_row_ne _ _ _ w.2]
    have r3 : ∀ t, X3 82 t = if j ≤ t ∧ t < j + 12 then mby a b c (t - j) else X 82 t := fun t => by
      rw [h3, fdH, up_ne (by omega), lx_row_self, h2, fdH, up_ne (by omega), lx_row_self, h1, fdH, up_ne (by omega), lx_row_self]
      unfold fdr
      by_cases z : j ≤ t ∧ t < j + 12
      · rw [if_pos z, mby_eq (by omega)]
        by_cases z4 : t < j + 4
        · rw [if_neg (by omega), if_neg (by omega), if_pos (by omega), if_pos (by omega)]
        · by_cases z8 : t < j + 8
          · rw [if_neg (by omega), if_pos (by omega), if_neg (by omega), if_pos (by omega), show t - (j + 4) = t - j - 4 by omega]
          · rw [if_pos (by omega), if_neg (by omega), if_neg (by omega), show t - (j + 8) = t - j - 8 by omega]
      · rw [if_neg (by omega), if_neg (by omega), if_neg (by omega), if_neg z]
    have e133 : X3 133 4 = nI j := by rw [f3 133 (by omega), t2]
    refine jp_of (r := nI (j + 12)) (X1 := X3) (X2 := fdH 136 133 4 X3 (mby a b c) j 12) hn hn2 (e_of vX11_feed (Nat.le_of_ble_eq_true rfl) (cat_of rfl) (bX11_feed_0_1 hn hX (by rw [hs12]; exact nI_le (b := 120) (by omega) (by omega)) (qX11_feed_23 (d' := 100) (rest := []) hn (by omega) (by decide) (c_X3_addBytes hn hX (by omega) e81) (fun v Z hv => ?_)))) (m_feed hn s3 (by omega) e133) ?_
    · obtain ⟨rfl, rfl⟩ := hv
      rw [← h1]
      refine bX11_feed_26_0 hn s1 (qX11_feed_31 (d' := 100) (rest := []) hn (by omega) (by decide) (c_X3_addBytes hn s1 (by omega) c1) (fun v Z hv => ?_))
      obtain ⟨rfl, rfl⟩ := hv
      rw [← h2]
      refine bX11_feed_34_0 hn s2 (qX11_feed_39 (d' := 100) (rest := []) hn (by omega) (by decide) (c_X3_addBytes hn s2 (by omega) c2) (fun v Z hv => ?_))
      obtain ⟨rfl, rfl⟩ := hv
      rw [← h3]
      exact bX11_feed_42_0 hn s3 ⟨by rw [c3], rfl⟩
    · obtain ⟨Y, hY⟩ : ∃ Y : LX, Y = fdH 136 133 4 X3 (mby a b c) j 12 := ⟨_, rfl⟩
      rw [← hY]
      have hSY : Sh n Y := by rw [hY]; exact s3.fdM
      have fC : ∀ k, k ≠ 81 ∧ k ≠ 82 ∧ k ≠ 133 ∧ k ≠ 136 → Y k = X k := fun k w => by rw [hY, fdH, up_ne w.2.2.1, lx_row_ne _ _ _ w.2.2.2, f3 k (by omega)]
      have y133 : ∀ t, t ≠ 4 → Y 133 t = X 133 t := fun t w => by rw [hY, fdH, up_at w, lx_row_ne _ _ _ (by omega), f3 133 (by omega)]
      have y4 : Y 133 4 = nI (j + 12) := by rw [hY, fdH_c]
      have y81 : Y 81 1 = nI (j + 12) := by rw [hY, fdH, up_ne (by omega), lx_row_ne _ _ _ (by omega), c3]
      have y82 : Y 82 = X3 82 := by rw [hY, fdH, up_ne (by omega), lx_row_ne _ _ _ (by omega)]
      have y136 : ∀ t, Y 136 t = if j ≤ t ∧ t < j + 12 then mby a b c (t - j) else X 136 t := fun t => by rw [hY, fdH, up_ne (by omega), lx_row_self, f3 136 (by omega)]; rfl
      refine iv_now hL hI hSY (hK.same hL (fun k _ _ => fC k (by omega)) (fun t _ => by rw [fC 134 (by omega)])) ⟨⟨by rw [y81, y4], ⟨j + 12, by omega, y4⟩, fun i hi => ?_⟩, ⟨?_, ?_, fun i hi => ?_⟩, fun s hs => ?_⟩ (by rw [fC 0 (by omega)]) (y133 2 (by omega)) (fun k _ => fC k (by omega)) (fC 135 (by omega))
      · rw [y82, r3, y136]
        by_cases z : j ≤ i ∧ i < j + 12
        · rw [if_pos z, if_pos z]
          refine ⟨rfl, ?_⟩
          unfold mby
          exact byte_lt _
        · rw [if_neg z, if_neg z]; exact t3 i hi
      · rw [fC 0 (by omega), y133 6 (by omega)]; exact tw.1
      · rw [y133 6 (by omega)]; exact tw.2.1
      · rw [fC 132 (by omega), fC 137 (by omega)]; exact tw.2.2 i hi
      · rw [fC 131 (by omega), fC 138 (by omega), fC (128 + 1 + s) (by omega), fC 139 (by omega)]; exact ts s hs
end FEED
