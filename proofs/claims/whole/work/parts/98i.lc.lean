/-! LAW, 10: the class's step. -/
section LC
variable {g : GG} {d n : Nat} {X Z : LX} {tb : Nat → Nat} {L : Nat}
theorem b_L {c : Nat} (hc : c ≤ 255) : ((97 : Int32) ≤ nI c ∧ nI c ≤ 122) ↔ isL c := by
  have h1 : ((97 : Int32) ≤ nI c) ↔ 97 ≤ c := nI_leI (a := 97) (by omega) (by omega)
  have h2 : (nI c ≤ 122) ↔ c ≤ 122 := nI_leI (b := 122) (by omega) (by omega)
  rw [h1, h2]
theorem b_D {c : Nat} (hc : c ≤ 255) : ((48 : Int32) ≤ nI c ∧ nI c ≤ 57) ↔ isD c := by
  have h1 : ((48 : Int32) ≤ nI c) ↔ 48 ≤ c := nI_leI (a := 48) (by omega) (by omega)
  have h2 : (nI c ≤ 57) ↔ c ≤ 57 := nI_leI (b := 57) (by omega) (by omega)
  rw [h1, h2]
theorem b_E {c e : Nat} (hc : c ≤ 255) (he : e ≤ 255) : (nI c = nI e) ↔ c = e := nI_eq (by omega) (by omega)
/-- behind a step: the three fields, all else as it was -/
def SR (n : Nat) (Z : LX) (a b c : Nat) (W : LX) : Prop := Sh n W ∧ (∀ k, k ≠ 81 → W k = Z k) ∧ (∀ j, j ≠ 8 → j ≠ 9 → j ≠ 10 → W 81 j = Z 81 j) ∧ W 81 8 = nI a ∧ W 81 9 = nI b ∧ W 81 10 = nI c
def stQ (n : Nat) (Z : LX) (a b c : Nat) : Option Value → LX → Prop := fun v W => v = none ∧ SR n Z a b c W
theorem SR.u10 {a b c e : Nat} {W : LX} {v : Int32} (h : SR n Z a b c W) (hv : v = nI e) : SR n Z a b e (lx_up W 81 10 v) := by
  obtain ⟨h1, h2, h3, h4, h5, h6⟩ := h
  exact ⟨h1.upF (by decide +kernel) (by decide +kernel), fun k hk => by rw [up_ne hk]; exact h2 k hk, fun j a b c => by rw [up_at c]; exact h3 j a b c, by rw [up_at (by omega)]; exact h4, by rw [up_at (by omega)]; exact h5, by rw [up_it]; exact hv⟩
theorem SR.u8 {a b c e : Nat} {W : LX} {v : Int32} (h : SR n Z a b c W) (hv : v = nI e) : SR n Z e b c (lx_up W 81 8 v) := by
  obtain ⟨h1, h2, h3, h4, h5, h6⟩ := h
  exact ⟨h1.upF (by decide +kernel) (by decide +kernel), fun k hk => by rw [up_ne hk]; exact h2 k hk, fun j a b c => by rw [up_at a]; exact h3 j a b c, by rw [up_it]; exact hv, by rw [up_at (by omega)]; exact h5, by rw [up_at (by omega)]; exact h6⟩
def WR (n : Nat) (Z : LX) (b : Nat) (W : LX) : Prop := Sh n W ∧ (∀ k, k ≠ 81 → W k = Z k) ∧ (∀ j, j ≠ 8 → j ≠ 9 → j ≠ 10 → W 81 j = Z 81 j) ∧ W 81 9 = nI b
theorem WR.u9 {b e : Nat} {W : LX} {v : Int32} (h : WR n Z b W) (hv : v = nI e) : WR n Z e (lx_up W 81 9 v) := by
  obtain ⟨h1, h2, h3, h4⟩ := h
  exact ⟨h1.upF (by decide +kernel) (by decide +kernel), fun k hk => by rw [up_ne hk]; exact h2 k hk, fun j a b c => by rw [up_at b]; exact h3 j a b c, by rw [up_it]; exact hv⟩
theorem WR.sr {b e : Nat} {W : LX} {v : Int32} (h : WR n Z b W) (hv : v = nI e) : SR n Z e b b (lx_up (lx_up W 81 10 (W 81 9)) 81 8 v) := by
  obtain ⟨h1, h2, h3, h4⟩ := h
  refine ⟨(h1.upF (by decide +kernel) (by decide +kernel)).upF (by decide +kernel) (by decide +kernel), fun k hk => by rw [up_ne hk, up_ne hk]; exact h2 k hk, fun j a b c => by rw [up_at a, up_at c]; exact h3 j a b c, by rw [up_it]; exact hv, by rw [up_at (by omega), up_at (by omega)]; exact h4, by rw [up_at (by omega), up_it]; exact h4⟩
theorem lwJ_le {s : Nat} : lwJ tb L s ≤ 4 := by
  by_cases c : s < L
  · exact (lwJ_ok c).2.1
  · rw [(lwJ_0 c).1]; omega
theorem c_step {k p : Nat} (hd : 1 ≤ d) (hn : 146 ≤ n) (hZ : Sh n Z) (hL : L ≤ 120) (hT : ∀ i, i < 120 → Z 82 i = nI (tb i) ∧ tb i ≤ 255) (z1 : Z 81 1 = nI L) (z8 : Z 81 8 = nI k) (hk : k ≤ 4) (z10 : Z 81 10 = nI p) (hp : p ≤ L) : Ex g mX3_step d n n [.ref 81] Z (stQ n Z (lwK tb L k p) (lwS tb L p) (lwP tb L (lwS tb L p))) := by
  obtain ⟨hs1, hs2⟩ := lwS_le (tb := tb) hp
  obtain ⟨s, es⟩ : ∃ s, lwS tb L p = s := ⟨_, rfl⟩
  have eK : lwK tb L k p = if (k = 1 ∨ k = 2) ∧ s = p ∧ (lwJ tb L s = 1 ∨ lwJ tb L s = 2) then 4 else lwJ tb L s := by unfold lwK; rw [es]
  rw [es] at hs1 hs2 ⊢
  have hJ := lwJ_le (tb := tb) (L := L) (s := s)
  have tail : ∀ (w : Int32) (W : LX), (w = 1 ∧ (k = 1 ∨ k = 2)) ∨ (w = 0 ∧ ¬ (k = 1 ∨ k = 2)) → SR n Z (lwJ tb L s) s (lwP tb L s) W → Ev g mX3_step d n n (stQ n Z (lwK tb L k p) s (lwP tb L s)) n 235 [some (.ref 81), some (.int w), some (.int (nI p))] [] W := by
    intro w W hw hW
    obtain ⟨hS, w2, w3, w8, w9, w10⟩ := id hW
    have i1 : (W 81 8 = 1) ↔ lwJ tb L s = 1 := by rw [w8]; exact nI_eq (b := 1) (by omega) (by omega)
    have i2 : (W 81 8 = 2) ↔ lwJ tb L s = 2 := by rw [w8]; exact nI_eq (b := 2) (by omega) (by omega)
    rcases hw with ⟨rfl, hk1⟩ | ⟨rfl, hk1⟩
    · by_cases c : s = p
      · have cp : W 81 9 = nI p := by rw [w9, c]
        by_cases j1 : lwJ tb L s = 1
        · rw [eK, if_pos ⟨hk1, c, Or.inl j1⟩]
          exact bX3_step_235_2 hn hS (by decide) cp (i1.mpr j1) ⟨rfl, hW.u8 rfl⟩
        · by_cases j2 : lwJ tb L s = 2
          · rw [eK, if_pos ⟨hk1, c, Or.inr j2⟩]
            exact bX3_step_235_0 hn hS (by decide) cp (fun z => j1 (i1.mp z)) (i2.mpr j2) ⟨rfl, hW.u8 rfl⟩
          · rw [eK, if_neg (fun z => by rcases z.2.2 with z | z; exact j1 z; exact j2 z)]
            exact bX3_step_235_1 hn hS (by decide) cp (fun z => j1 (i1.mp z)) (fun z => j2 (i2.mp z)) ⟨rfl, hW⟩
      · rw [eK, if_neg (fun z => c z.2.1)]
        exact bX3_step_235_3 hn hS (by decide) (fun z => c ((nI_eq (by omega) (by omega)).mp (w9.symm.trans z))) ⟨rfl, hW⟩
    · rw [eK, if_neg (fun z => hk1 z.1)]
      exact bX3_step_235_4 hn hS rfl ⟨rfl, hW⟩
  have lets : ∀ (w : Int32), (w = 1 ∧ (k = 1 ∨ k = 2)) ∨ (w = 0 ∧ ¬ (k = 1 ∨ k = 2)) → s < L → isL (tb s) → ∀ r i (W : LX), L - i = r → i ≤ L → rn (fun i => decide (isL (tb i))) L i = lwP tb L s → SR n Z 1 s i W → Ev g mX3_step d n n (stQ n Z (lwK tb L k p) s (lwP tb L s)) n 113 [some (.ref 81), some (.int w), some (.int (nI p))] [] W := by
    intro w hw hsL hc r
    have eJ : lwJ tb L s = 1 := by unfold lwJ; rw [if_pos hsL, if_pos hc]
    induction r with
    | zero =>
      intro i W hr hi hrn hW
      rw [rn_st (fun z => by omega)] at hrn
      refine bX3_step_113_2 hn hW.1 (by rw [hW.2.2.1 1 (by omega) (by omega) (by omega), z1, hW.2.2.2.2.2]; exact nI_le (by omega) (by omega)) (tail w W hw ?_)
      rw [eJ, ← hrn]
      exact hW
    | succ r ih =>
      intro i W hr hi hrn hW
      have c0 : ¬ W 81 1 ≤ W 81 10 := by rw [hW.2.2.1 1 (by omega) (by omega) (by omega), z1, hW.2.2.2.2.2]; exact nI_ge (by omega) (by omega)
      obtain ⟨t1, t2⟩ := hT i (by omega)
      have eb : W 82 i = nI (tb i) := by rw [hW.2.1 82 (by omega)]; exact t1
      by_cases c : isL (tb i)
      · rw [rn_go (by omega) (by simpa using c)] at hrn
        exact bX3_step_113_0 hd hn hW.1 c0 hW.2.2.2.2.2 (by omega) (by rw [eb]; exact (b_L t2).mpr c) (ih (i + 1) _ (by omega) (by omega) hrn (hW.u10 (by rw [hW.2.2.2.2.2, nI_1])))
      · rw [rn_st (fun z => c (by simpa using z.2))] at hrn
        refine bX3_step_113_1 hd hn hW.1 c0 hW.2.2.2.2.2 (by omega) (by rw [eb]; exact fun z => c ((b_L t2).mp z)) (tail w W hw ?_)
        rw [eJ, ← hrn]
        exact hW
  have digs : ∀ (w : Int32), (w = 1 ∧ (k = 1 ∨ k = 2)) ∨ (w = 0 ∧ ¬ (k = 1 ∨ k = 2)) → s < L → ¬ isL (tb s) → isD (tb s) → ∀ r i (W : LX), L - i = r → i ≤ L → rn (fun i => decide (isD (tb i))) L i = lwP tb L s → SR n Z 2 s i W → Ev g mX3_step d n n (stQ n Z (lwK tb L k p) s (lwP tb L s)) n 164 [some (.ref 81), some (.int w), some (.int (nI p))] [] W := by
    intro w hw hsL hc hc2 r
    have eJ : lwJ tb L s = if lwP tb L s - s ≤ 5 then 2 else 4 := by unfold lwJ; rw [if_pos hsL, if_neg hc, if_pos hc2]
    obtain ⟨q1, q2⟩ := lwP_le (tb := tb) hsL
    have last : ∀ (W : LX), SR n Z 2 s (lwP tb L s) W → Ev g mX3_step d n n (stQ n Z (lwK tb L k p) s (lwP tb L s)) n 199 [some (.ref 81), some (.int w), some (.int (nI p))] [] W := by
      intro W hW
      have e5 : (W 81 10 - W 81 9 ≤ 5) ↔ lwP tb L s - s ≤ 5 := by
        rw [hW.2.2.2.2.2, hW.2.2.2.2.1, pk_sub (by omega)]
        exact nI_leI (b := 5) (by omega) (by omega)
      by_cases c : lwP tb L s - s ≤ 5
      · rw [if_pos c] at eJ
        refine bX3_step_199_1 hn hW.1 (e5.mpr c) (tail w W hw ?_)
        rw [eJ]
        exact hW
      · rw [if_neg c] at eJ
        refine bX3_step_199_0 hn hW.1 (fun z => c (e5.mp z)) (tail w _ hw ?_)
        rw [eJ]
        exact hW.u8 rfl
    induction r with
    | zero =>
      intro i W hr hi hrn hW
      rw [rn_st (fun z => by omega)] at hrn
      refine bX3_step_164_2 hn hW.1 (by rw [hW.2.2.1 1 (by omega) (by omega) (by omega), z1, hW.2.2.2.2.2]; exact nI_le (by omega) (by omega)) (last W ?_)
      rw [← hrn]
      exact hW
    | succ r ih =>
      intro i W hr hi hrn hW
      have c0 : ¬ W 81 1 ≤ W 81 10 := by rw [hW.2.2.1 1 (by omega) (by omega) (by omega), z1, hW.2.2.2.2.2]; exact nI_ge (by omega) (by omega)
      obtain ⟨t1, t2⟩ := hT i (by omega)
      have eb : W 82 i = nI (tb i) := by rw [hW.2.1 82 (by omega)]; exact t1
      by_cases c : isD (tb i)
      · rw [rn_go (by omega) (by simpa using c)] at hrn
        exact bX3_step_164_0 hd hn hW.1 c0 hW.2.2.2.2.2 (by omega) (by rw [eb]; exact (b_D t2).mpr c) (ih (i + 1) _ (by omega) (by omega) hrn (hW.u10 (by rw [hW.2.2.2.2.2, nI_1])))
      · rw [rn_st (fun z => c (by simpa using z.2))] at hrn
        refine bX3_step_164_1 hd hn hW.1 c0 hW.2.2.2.2.2 (by omega) (by rw [eb]; exact fun z => c ((b_D t2).mp z)) (last W ?_)
        rw [← hrn]
        exact hW
  have mid : ∀ (w : Int32) (W : LX), (w = 1 ∧ (k = 1 ∨ k = 2)) ∨ (w = 0 ∧ ¬ (k = 1 ∨ k = 2)) → WR n Z s W → Ev g mX3_step d n n (stQ n Z (lwK tb L k p) s (lwP tb L s)) n 70 [some (.ref 81), some (.int w), some (.int (nI p))] [] W := by
    intro w W hw hW
    have w1 : W 81 1 = nI L := by rw [hW.2.2.1 1 (by omega) (by omega) (by omega)]; exact z1
    by_cases c : s < L
    · have c0 : W 81 9 < W 81 1 := by rw [w1, hW.2.2.2]; exact nI_lt c (by omega)
      obtain ⟨t1, t2⟩ := hT s (by omega)
      have eb : (lx_up W 81 10 (W 81 9)) 82 s = nI (tb s) := by rw [up_ne (by omega), hW.2.1 82 (by omega)]; exact t1
      by_cases cl : isL (tb s)
      · refine bX3_step_70_1 hd hn hW.1 c0 hW.2.2.2 (by omega) (by rw [eb]; exact (b_L t2).mpr cl) (lets w hw c cl _ s _ rfl (by omega) ?_ (hW.sr rfl))
        unfold lwP
        rw [if_pos c, if_pos cl]
      · by_cases cd : isD (tb s)
        · refine bX3_step_70_2 hd hn hW.1 c0 hW.2.2.2 (by omega) (by rw [eb]; exact fun z => cl ((b_L t2).mp z)) (by rw [eb]; exact (b_D t2).mpr cd) (digs w hw c cl cd _ s _ rfl (by omega) ?_ (hW.sr rfl))
          unfold lwP
          rw [if_pos c, if_neg cl, if_pos cd]
        · have eP : lwP tb L s = s + 1 := by unfold lwP; rw [if_pos c, if_neg cl, if_neg cd]
          have eJ : lwJ tb L s = 3 := by unfold lwJ; rw [if_pos c, if_neg cl, if_neg cd]
          refine bX3_step_70_3 hd hn hW.1 c0 hW.2.2.2 (by omega) (by rw [eb]; exact fun z => cl ((b_L t2).mp z)) (by rw [eb]; exact fun z => cd ((b_D t2).mp z)) (tail w _ hw ?_)
          rw [eJ, eP]
          exact (hW.sr rfl).u10 (by rw [hW.2.2.2, nI_1])
    · obtain ⟨a1, a2⟩ := lwJ_0 (tb := tb) c
      refine bX3_step_70_0 hn hW.1 (by rw [w1, hW.2.2.2, nI_ltI (by omega) (by omega)]; exact c) (tail w _ hw ?_)
      rw [a1, a2]
      exact hW.sr rfl
  have skip : ∀ (w : Int32), (w = 1 ∧ (k = 1 ∨ k = 2)) ∨ (w = 0 ∧ ¬ (k = 1 ∨ k = 2)) → ∀ r i (W : LX), L - i = r → i ≤ L → rn (fun i => decide (tb i = 32)) L i = s → WR n Z i W → Ev g mX3_step d n n (stQ n Z (lwK tb L k p) s (lwP tb L s)) n 32 [some (.ref 81), some (.int w), some (.int (nI p))] [] W := by
    intro w hw r
    induction r with
    | zero =>
      intro i W hr hi hrn hW
      rw [rn_st (fun z => by omega)] at hrn
      refine bX3_step_32_2 hn hW.1 (by rw [hW.2.2.1 1 (by omega) (by omega) (by omega), z1, hW.2.2.2]; exact nI_le (by omega) (by omega)) (mid w W hw ?_)
      rw [← hrn]
      exact hW
    | succ r ih =>
      intro i W hr hi hrn hW
      have c0 : ¬ W 81 1 ≤ W 81 9 := by rw [hW.2.2.1 1 (by omega) (by omega) (by omega), z1, hW.2.2.2]; exact nI_ge (by omega) (by omega)
      obtain ⟨t1, t2⟩ := hT i (by omega)
      have eb : W 82 i = nI (tb i) := by rw [hW.2.1 82 (by omega)]; exact t1
      have i32 : (W 82 i = 32) ↔ tb i = 32 := by rw [eb]; exact nI_eq (b := 32) (by omega) (by omega)
      by_cases c : tb i = 32
      · rw [rn_go (by omega) (by simpa using c)] at hrn
        exact bX3_step_32_0 hn hW.1 c0 hW.2.2.2 (by omega) (i32.mpr c) (ih (i + 1) _ (by omega) (by omega) hrn (hW.u9 (by rw [hW.2.2.2, nI_1])))
      · rw [rn_st (fun z => c (by simpa using z.2))] at hrn
        refine bX3_step_32_1 hn hW.1 c0 hW.2.2.2 (by omega) (fun z => c (i32.mp z)) (mid w W hw ?_)
        rw [← hrn]
        exact hW
  have hW0 : WR n Z p (lx_up Z 81 9 (Z 81 10)) := ⟨hZ.upF (by decide +kernel) (by decide +kernel), fun k hk => up_ne hk, fun j a b c => up_at b, by rw [up_it]; exact z10⟩
  have i1 : (Z 81 8 = 1) ↔ k = 1 := by rw [z8]; exact nI_eq (b := 1) (by omega) (by omega)
  have i2 : (Z 81 8 = 2) ↔ k = 2 := by rw [z8]; exact nI_eq (b := 2) (by omega) (by omega)
  refine e_of vX3_step (Nat.le_of_ble_eq_true rfl) (cat_of rfl) ?_
  by_cases c1 : k = 1
  · refine bX3_step_0_2 hn hZ (i1.mpr c1) ?_
    have := skip 1 (Or.inl ⟨rfl, Or.inl c1⟩) _ p _ rfl hp es hW0
    rw [← z10] at this
    exact this
  · by_cases c2 : k = 2
    · refine bX3_step_0_0 hn hZ (fun z => c1 (i1.mp z)) (i2.mpr c2) ?_
      have := skip 1 (Or.inl ⟨rfl, Or.inr c2⟩) _ p _ rfl hp es hW0
      rw [← z10] at this
      exact this
    · refine bX3_step_0_1 hn hZ (fun z => c1 (i1.mp z)) (fun z => c2 (i2.mp z)) ?_
      have := skip 0 (Or.inr ⟨rfl, fun z => by rcases z with z | z; exact c1 z; exact c2 z⟩) _ p _ rfl hp es hW0
      rw [← z10] at this
      exact this
end LC
