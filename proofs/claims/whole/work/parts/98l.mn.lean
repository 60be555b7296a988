/-! LAW, 13: the model's next. -/
section LMN
variable {g : GG} {d n : Nat} {X Z : LX} {tb : Nat → Nat} {L : Nat}
def MR (n : Nat) (Z : LX) (a b c : Nat) (W : LX) : Prop := Sh n W ∧ (∀ k, k ≠ 133 → W k = Z k) ∧ (∀ j, j ≠ 10 → j ≠ 11 → j ≠ 12 → W 133 j = Z 133 j) ∧ W 133 12 = nI a ∧ W 133 10 = nI b ∧ W 133 11 = nI c
def mnQ (n : Nat) (Z : LX) (a b c : Nat) : Option Value → LX → Prop := fun v W => v = none ∧ MR n Z a b c W
theorem MR.u11 {a b c e : Nat} {W : LX} {v : Int32} (h : MR n Z a b c W) (hv : v = nI e) : MR n Z a b e (lx_up W 133 11 v) := by
  obtain ⟨h1, h2, h3, h4, h5, h6⟩ := h
  exact ⟨h1.upF (by decide +kernel) (by decide +kernel), fun k hk => by rw [up_ne hk]; exact h2 k hk, fun j a b c => by rw [up_at b]; exact h3 j a b c, by rw [up_at (by omega)]; exact h4, by rw [up_at (by omega)]; exact h5, by rw [up_it]; exact hv⟩
theorem MR.u12 {a b c e : Nat} {W : LX} {v : Int32} (h : MR n Z a b c W) (hv : v = nI e) : MR n Z e b c (lx_up W 133 12 v) := by
  obtain ⟨h1, h2, h3, h4, h5, h6⟩ := h
  exact ⟨h1.upF (by decide +kernel) (by decide +kernel), fun k hk => by rw [up_ne hk]; exact h2 k hk, fun j a b c => by rw [up_at c]; exact h3 j a b c, by rw [up_it]; exact hv, by rw [up_at (by omega)]; exact h5, by rw [up_at (by omega)]; exact h6⟩
def NR (n : Nat) (Z : LX) (b : Nat) (W : LX) : Prop := Sh n W ∧ (∀ k, k ≠ 133 → W k = Z k) ∧ (∀ j, j ≠ 10 → j ≠ 11 → j ≠ 12 → W 133 j = Z 133 j) ∧ W 133 10 = nI b
theorem NR.u10 {b e : Nat} {W : LX} {v : Int32} (h : NR n Z b W) (hv : v = nI e) : NR n Z e (lx_up W 133 10 v) := by
  obtain ⟨h1, h2, h3, h4⟩ := h
  exact ⟨h1.upF (by decide +kernel) (by decide +kernel), fun k hk => by rw [up_ne hk]; exact h2 k hk, fun j a b c => by rw [up_at a]; exact h3 j a b c, by rw [up_it]; exact hv⟩
theorem NR.sr {b e : Nat} {W : LX} {v : Int32} (h : NR n Z b W) (hv : v = nI e) : MR n Z e b b (lx_up (lx_up W 133 11 (W 133 10)) 133 12 v) := by
  obtain ⟨h1, h2, h3, h4⟩ := h
  refine ⟨(h1.upF (by decide +kernel) (by decide +kernel)).upF (by decide +kernel) (by decide +kernel), fun k hk => by rw [up_ne hk, up_ne hk]; exact h2 k hk, fun j a b c => by rw [up_at c, up_at b]; exact h3 j a b c, by rw [up_it]; exact hv, by rw [up_at (by omega), up_at (by omega)]; exact h4, by rw [up_at (by omega), up_it]; exact h4⟩
theorem m_next {k p : Nat} (hd : 2 ≤ d) (hn : 146 ≤ n) (hZ : Sh n Z) (hL : L ≤ 120) (hT : ∀ i, i < 120 → Z 136 i = nI (tb i) ∧ tb i ≤ 255) (z4 : Z 133 4 = nI L) (z12 : Z 133 12 = nI k) (hk : k ≤ 4) (z11 : Z 133 11 = nI p) (hp : p ≤ L) : Ex g mX12_next d n n [.ref 133] Z (mnQ n Z (lwK tb L k p) (lwS tb L p) (lwP tb L (lwS tb L p))) := by
  obtain ⟨hs1, hs2⟩ := lwS_le (tb := tb) hp
  obtain ⟨s, es⟩ : ∃ s, lwS tb L p = s := ⟨_, rfl⟩
  have eK : lwK tb L k p = if (k = 1 ∨ k = 2) ∧ s = p ∧ (lwJ tb L s = 1 ∨ lwJ tb L s = 2) then 4 else lwJ tb L s := by unfold lwK; rw [es]
  rw [es] at hs1 hs2 ⊢
  have h4 : ∀ {W : LX}, (∀ j, j ≠ 10 → j ≠ 11 → j ≠ 12 → W 133 j = Z 133 j) → W 133 4 = nI L := fun w => by rw [w 4 (by omega) (by omega) (by omega)]; exact z4
  have h120 : nI L ≤ 120 := nI_le (b := 120) (by omega) (by omega)
  have eq9 : ∀ {W : LX} {a b c : Nat}, MR n Z a b c W → b ≤ L → ((W 133 10 = nI p) ↔ b = p) := fun w hb => by rw [w.2.2.2.2.1]; exact nI_eq (by omega) (by omega)
  have tail1 : ∀ (w : Int32) (W : LX), (w = 1 ∧ (k = 1 ∨ k = 2)) ∨ (w = 0 ∧ ¬ (k = 1 ∨ k = 2)) → lwJ tb L s = 1 → MR n Z 1 s (lwP tb L s) W → Ev g mX12_next d n n (mnQ n Z (lwK tb L k p) s (lwP tb L s)) n 194 [some (.ref 133), some (.int w), some (.int (nI p))] [] W := by
    intro w W hw eJ hW
    have n3 : ¬ W 133 12 = 3 := by rw [hW.2.2.2.1]; decide
    have n2 : ¬ W 133 12 = 2 := by rw [hW.2.2.2.1]; decide
    rcases hw with ⟨rfl, hk1⟩ | ⟨rfl, hk1⟩
    · by_cases c : s = p
      · rw [eK, if_pos ⟨hk1, c, Or.inl eJ⟩]
        exact bX12_next_194_3 hn hW.1 n3 (by decide) ((eq9 hW hs2).mpr c) ⟨rfl, hW.u12 rfl⟩
      · rw [eK, if_neg (fun z => c z.2.1), eJ]
        exact bX12_next_194_2 hn hW.1 n3 (by decide) (fun z => c ((eq9 hW hs2).mp z)) n2 ⟨rfl, hW⟩
    · rw [eK, if_neg (fun z => hk1 z.1), eJ]
      exact bX12_next_194_6 hn hW.1 n3 rfl n2 ⟨rfl, hW⟩
  have tail2 : ∀ (w : Int32) (W : LX), (w = 1 ∧ (k = 1 ∨ k = 2)) ∨ (w = 0 ∧ ¬ (k = 1 ∨ k = 2)) → s < L → (lwJ tb L s = if lwP tb L s - s ≤ 5 then 2 else 4) → MR n Z 2 s (lwP tb L s) W → Ev g mX12_next d n n (mnQ n Z (lwK tb L k p) s (lwP tb L s)) n 194 [some (.ref 133), some (.int w), some (.int (nI p))] [] W := by
    intro w W hw hsL eJ hW
    obtain ⟨q1, q2⟩ := lwP_le (tb := tb) hsL
    have n3 : ¬ W 133 12 = 3 := by rw [hW.2.2.2.1]; decide
    have y2 : W 133 12 = 2 := hW.2.2.2.1
    have e5 : (W 133 11 - W 133 10 ≤ 5) ↔ lwP tb L s - s ≤ 5 := by
      rw [hW.2.2.2.2.2, hW.2.2.2.2.1, pk_sub (by omega)]
      exact nI_leI (b := 5) (by omega) (by omega)
    by_cases c5 : lwP tb L s - s ≤ 5
    · rw [if_pos c5] at eJ
      rcases hw with ⟨rfl, hk1⟩ | ⟨rfl, hk1⟩
      · by_cases c : s = p
        · rw [eK, if_pos ⟨hk1, c, Or.inr eJ⟩]
          exact bX12_next_194_3 hn hW.1 n3 (by decide) ((eq9 hW hs2).mpr c) ⟨rfl, hW.u12 rfl⟩
        · rw [eK, if_neg (fun z => c z.2.1), eJ]
          exact bX12_next_194_1 hn hW.1 n3 (by decide) (fun z => c ((eq9 hW hs2).mp z)) y2 (e5.mpr c5) ⟨rfl, hW⟩
      · rw [eK, if_neg (fun z => hk1 z.1), eJ]
        exact bX12_next_194_5 hn hW.1 n3 rfl y2 (e5.mpr c5) ⟨rfl, hW⟩
    · rw [if_neg c5] at eJ
      rw [eK, if_neg (fun z => by omega), eJ]
      rcases hw with ⟨rfl, hk1⟩ | ⟨rfl, hk1⟩
      · by_cases c : s = p
        · exact bX12_next_194_3 hn hW.1 n3 (by decide) ((eq9 hW hs2).mpr c) ⟨rfl, hW.u12 rfl⟩
        · exact bX12_next_194_0 hn hW.1 n3 (by decide) (fun z => c ((eq9 hW hs2).mp z)) y2 (fun z => c5 (e5.mp z)) ⟨rfl, hW.u12 rfl⟩
      · exact bX12_next_194_4 hn hW.1 n3 rfl y2 (fun z => c5 (e5.mp z)) ⟨rfl, hW.u12 rfl⟩
  have bt : ∀ {W : LX} {a b c : Nat}, MR n Z a b c W → ∀ i, i < 120 → W 136 i = nI (tb i) := fun w i hi => by rw [w.2.1 136 (by omega)]; exact (hT i hi).1
  have lets : ∀ (w : Int32), (w = 1 ∧ (k = 1 ∨ k = 2)) ∨ (w = 0 ∧ ¬ (k = 1 ∨ k = 2)) → lwJ tb L s = 1 → ∀ r i (W : LX), L - i = r → i ≤ L → rn (fun i => decide (isL (tb i))) L i = lwP tb L s → MR n Z 1 s i W → Ev g mX12_next d n n (mnQ n Z (lwK tb L k p) s (lwP tb L s)) n 143 [some (.ref 133), some (.int w), some (.int (nI p))] [] W := by
    intro w hw eJ r
    induction r with
    | zero =>
      intro i W hr hi hrn hW
      rw [rn_st (fun z => by omega)] at hrn
      have n2 : ¬ W 133 12 = 2 := by rw [hW.2.2.2.1]; decide
      refine bX12_next_143_3 (by omega) hn hW.1 hW.2.2.2.1 hW.2.2.2.2.2 (by omega) (by rw [h4 hW.2.2.1]; exact h120) (fun z => by have z1 := z.1; rw [h4 hW.2.2.1, nI_ltI (by omega) (by omega)] at z1; omega) n2 (tail1 w W hw eJ ?_)
      rw [← hrn]
      exact hW
    | succ r ih =>
      intro i W hr hi hrn hW
      have n2 : ¬ W 133 12 = 2 := by rw [hW.2.2.2.1]; decide
      have t2 := (hT i (by omega)).2
      by_cases c : isL (tb i)
      · rw [rn_go (by omega) (by simpa using c)] at hrn
        exact bX12_next_143_0 (by omega) hn hW.1 hW.2.2.2.1 hW.2.2.2.2.2 (by omega) (by rw [h4 hW.2.2.1]; exact h120) ⟨by rw [h4 hW.2.2.1]; exact nI_lt (by omega) (by omega), by rw [bt hW i (by omega)]; exact (b_L t2).mpr c⟩ (ih (i + 1) _ (by omega) (by omega) hrn (hW.u11 (by rw [hW.2.2.2.2.2, nI_1])))
      · rw [rn_st (fun z => c (by simpa using z.2))] at hrn
        refine bX12_next_143_3 (by omega) hn hW.1 hW.2.2.2.1 hW.2.2.2.2.2 (by omega) (by rw [h4 hW.2.2.1]; exact h120) (fun z => c ((b_L t2).mp (by have := z.2; rw [bt hW i (by omega)] at this; exact this))) n2 (tail1 w W hw eJ ?_)
        rw [← hrn]
        exact hW
  have digs : ∀ (w : Int32), (w = 1 ∧ (k = 1 ∨ k = 2)) ∨ (w = 0 ∧ ¬ (k = 1 ∨ k = 2)) → s < L → (lwJ tb L s = if lwP tb L s - s ≤ 5 then 2 else 4) → ∀ r i (W : LX), L - i = r → i ≤ L → rn (fun i => decide (isD (tb i))) L i = lwP tb L s → MR n Z 2 s i W → Ev g mX12_next d n n (mnQ n Z (lwK tb L k p) s (lwP tb L s)) n 143 [some (.ref 133), some (.int w), some (.int (nI p))] [] W := by
    intro w hw hsL eJ r
    induction r with
    | zero =>
      intro i W hr hi hrn hW
      rw [rn_st (fun z => by omega)] at hrn
      have n1 : ¬ W 133 12 = 1 := by rw [hW.2.2.2.1]; decide
      refine bX12_next_143_5 (by omega) hn hW.1 n1 hW.2.2.2.1 hW.2.2.2.2.2 (by omega) (by rw [h4 hW.2.2.1]; exact h120) (fun z => by have z1 := z.1; rw [h4 hW.2.2.1, nI_ltI (by omega) (by omega)] at z1; omega) (tail2 w W hw hsL eJ ?_)
      rw [← hrn]
      exact hW
    | succ r ih =>
      intro i W hr hi hrn hW
      have n1 : ¬ W 133 12 = 1 := by rw [hW.2.2.2.1]; decide
      have t2 := (hT i (by omega)).2
      by_cases c : isD (tb i)
      · rw [rn_go (by omega) (by simpa using c)] at hrn
        exact bX12_next_143_4 (by omega) hn hW.1 n1 hW.2.2.2.1 hW.2.2.2.2.2 (by omega) (by rw [h4 hW.2.2.1]; exact h120) ⟨by rw [h4 hW.2.2.1]; exact nI_lt (by omega) (by omega), by rw [bt hW i (by omega)]; exact (b_D t2).mpr c⟩ (ih (i + 1) _ (by omega) (by omega) hrn (hW.u11 (by rw [hW.2.2.2.2.2, nI_1])))
      · rw [rn_st (fun z => c (by simpa using z.2))] at hrn
        refine bX12_next_143_5 (by omega) hn hW.1 n1 hW.2.2.2.1 hW.2.2.2.2.2 (by omega) (by rw [h4 hW.2.2.1]; exact h120) (fun z => c ((b_D t2).mp (by have := z.2; rw [bt hW i (by omega)] at this; exact this))) (tail2 w W hw hsL eJ ?_)
        rw [← hrn]
        exact hW
  have mid : ∀ (w : Int32) (W : LX), (w = 1 ∧ (k = 1 ∨ k = 2)) ∨ (w = 0 ∧ ¬ (k = 1 ∨ k = 2)) → NR n Z s W → Ev g mX12_next d n n (mnQ n Z (lwK tb L k p) s (lwP tb L s)) n 73 [some (.ref 133), some (.int w), some (.int (nI p))] [] W := by
    intro w W hw hW
    have w4 : W 133 4 = nI L := h4 hW.2.2.1
    have v4 : (lx_up W 133 11 (W 133 10)) 133 4 = nI L := by rw [up_at (by omega)]; exact w4
    have i4 : (W 133 10 = W 133 4) ↔ s = L := by rw [w4, hW.2.2.2]; exact nI_eq (by omega) (by omega)
    by_cases c : s < L
    · have c0 : ¬ W 133 10 = W 133 4 := fun z => by have := i4.mp z; omega
      obtain ⟨t1, t2⟩ := hT s (by omega)
      have eb : (lx_up W 133 11 (W 133 10)) 136 s = nI (tb s) := by rw [up_ne (by omega), hW.2.1 136 (by omega)]; exact t1
      have lt4 : nI s < (lx_up W 133 11 (W 133 10)) 133 4 := by rw [v4]; exact nI_lt c (by omega)
      by_cases cl : isL (tb s)
      · have eJ : lwJ tb L s = 1 := by unfold lwJ; rw [if_pos c, if_pos cl]
        have eP : lwP tb L s = rn (fun i => decide (isL (tb i))) L (s + 1) := by
          unfold lwP
          rw [if_pos c, if_pos cl, rn_go c (by simpa using cl)]
        refine bX12_next_73_1 (by omega) hn hW.1 c0 hW.2.2.2 (by omega) (by rw [v4]; exact h120) ⟨lt4, by rw [eb]; exact (b_L t2).mpr cl⟩ (bX12_next_133_0 hn (hW.sr (e := 1) rfl).1 (lets w hw eJ _ (s + 1) _ rfl (by omega) eP.symm ((hW.sr (e := 1) rfl).u11 ?_)))
        rw [(hW.sr (e := 1) rfl).2.2.2.2.2, nI_1]
      · have nl : ¬ (nI s < (lx_up W 133 11 (W 133 10)) 133 4 ∧ 97 ≤ (lx_up W 133 11 (W 133 10)) 136 s ∧ (lx_up W 133 11 (W 133 10)) 136 s ≤ 122) := fun z => cl ((b_L t2).mp (by have := z.2; rw [eb] at this; exact this))
        by_cases cd : isD (tb s)
        · have eJ : lwJ tb L s = if lwP tb L s - s ≤ 5 then 2 else 4 := by unfold lwJ; rw [if_pos c, if_neg cl, if_pos cd]
          have eP : lwP tb L s = rn (fun i => decide (isD (tb i))) L (s + 1) := by
            unfold lwP
            rw [if_pos c, if_neg cl, if_pos cd, rn_go c (by simpa using cd)]
          refine bX12_next_73_2 (by omega) hn hW.1 c0 hW.2.2.2 (by omega) (by rw [v4]; exact h120) nl ⟨lt4, by rw [eb]; exact (b_D t2).mpr cd⟩ (bX12_next_133_0 hn (hW.sr (e := 2) rfl).1 (digs w hw c eJ _ (s + 1) _ rfl (by omega) eP.symm ((hW.sr (e := 2) rfl).u11 ?_)))
          rw [(hW.sr (e := 2) rfl).2.2.2.2.2, nI_1]
        · have eP : lwP tb L s = s + 1 := by unfold lwP; rw [if_pos c, if_neg cl, if_neg cd]
          have eJ : lwJ tb L s = 3 := by unfold lwJ; rw [if_pos c, if_neg cl, if_neg cd]
          have hV : MR n Z 3 s (s + 1) (lx_up (lx_up (lx_up W 133 11 (W 133 10)) 133 12 3) 133 11 ((lx_up (lx_up W 133 11 (W 133 10)) 133 12 3) 133 11 + 1)) := (hW.sr (e := 3) (v := 3) rfl).u11 (by rw [(hW.sr (e := 3) (v := 3) rfl).2.2.2.2.2, nI_1])
          refine bX12_next_73_3 (by omega) hn hW.1 c0 hW.2.2.2 (by omega) (by rw [v4]; exact h120) nl (fun z => cd ((b_D t2).mp (by have := z.2; rw [eb] at this; exact this))) (bX12_next_133_0 hn (hW.sr (e := 3) rfl).1 (bX12_next_143_6 hn hV.1 (by rw [hV.2.2.2.1]; decide) (by rw [hV.2.2.2.1]; decide) (bX12_next_194_9 hn hV.1 hV.2.2.2.1 (by rw [hV.2.2.2.1]; decide) ⟨rfl, ?_⟩)))
          rw [eK, if_neg (fun z => by omega), eJ, eP]
          exact hV
    · obtain ⟨a1, a2⟩ := lwJ_0 (tb := tb) c
      refine bX12_next_73_0 hn hW.1 (i4.mpr (by omega)) ⟨rfl, ?_⟩
      rw [eK, if_neg (fun z => by omega), a1, a2]
      exact hW.sr rfl
  have skip : ∀ (w : Int32), (w = 1 ∧ (k = 1 ∨ k = 2)) ∨ (w = 0 ∧ ¬ (k = 1 ∨ k = 2)) → ∀ r i (W : LX), L - i = r → i ≤ L → rn (fun i => decide (tb i = 32)) L i = s → NR n Z i W → Ev g mX12_next d n n (mnQ n Z (lwK tb L k p) s (lwP tb L s)) n 35 [some (.ref 133), some (.int w), some (.int (nI p))] [] W := by
    intro w hw r
    induction r with
    | zero =>
      intro i W hr hi hrn hW
      rw [rn_st (fun z => by omega)] at hrn
      refine bX12_next_35_2 hn hW.1 (by rw [h4 hW.2.2.1, hW.2.2.2]; exact nI_le (by omega) (by omega)) (mid w W hw ?_)
      rw [← hrn]
      exact hW
    | succ r ih =>
      intro i W hr hi hrn hW
      have c0 : ¬ W 133 4 ≤ W 133 10 := by rw [h4 hW.2.2.1, hW.2.2.2]; exact nI_ge (by omega) (by omega)
      obtain ⟨t1, t2⟩ := hT i (by omega)
      have eb : W 136 i = nI (tb i) := by rw [hW.2.1 136 (by omega)]; exact t1
      have i32 : (W 136 i = 32) ↔ tb i = 32 := by rw [eb]; exact nI_eq (b := 32) (by omega) (by omega)
      by_cases c : tb i = 32
      · rw [rn_go (by omega) (by simpa using c)] at hrn
        exact bX12_next_35_0 hn hW.1 c0 hW.2.2.2 (by omega) (i32.mpr c) (ih (i + 1) _ (by omega) (by omega) hrn (hW.u10 (by rw [hW.2.2.2, nI_1])))
      · rw [rn_st (fun z => c (by simpa using z.2))] at hrn
        refine bX12_next_35_1 hn hW.1 c0 hW.2.2.2 (by omega) (fun z => c (i32.mp z)) (mid w W hw ?_)
        rw [← hrn]
        exact hW
  have hW0 : NR n Z p (lx_up Z 133 10 (Z 133 11)) := ⟨hZ.upF (by decide +kernel) (by decide +kernel), fun k hk => up_ne hk, fun j a b c => up_at a, by rw [up_it]; exact z11⟩
  have i1 : (Z 133 12 = 1) ↔ k = 1 := by rw [z12]; exact nI_eq (b := 1) (by omega) (by omega)
  have i2 : (Z 133 12 = 2) ↔ k = 2 := by rw [z12]; exact nI_eq (b := 2) (by omega) (by omega)
  refine e_of vX12_next (Nat.le_of_ble_eq_true rfl) (cat_of rfl) ?_
  by_cases c1 : k = 1
  · refine bX12_next_0_2 hn hZ (i1.mpr c1) ?_
    have := skip 1 (Or.inl ⟨rfl, Or.inl c1⟩) _ p _ rfl hp es hW0
    rw [← z11] at this
    exact this
  · by_cases c2 : k = 2
    · refine bX12_next_0_0 hn hZ (fun z => c1 (i1.mp z)) (i2.mpr c2) ?_
      have := skip 1 (Or.inl ⟨rfl, Or.inr c2⟩) _ p _ rfl hp es hW0
      rw [← z11] at this
      exact this
    · refine bX12_next_0_1 hn hZ (fun z => c1 (i1.mp z)) (fun z => c2 (i2.mp z)) ?_
      have := skip 0 (Or.inr ⟨rfl, fun z => by rcases z with z | z; exact c1 z; exact c2 z⟩) _ p _ rfl hp es hW0
      rw [← z11] at this
      exact this
end LMN
