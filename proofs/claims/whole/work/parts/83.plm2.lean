/-! PLAN, 4: the model's search. -/
section PLM2
variable {g : GG} {n F P : Nat} {X : LX} {st : Nat → Nat} {un : Nat → Nat → Nat} {N0 : Nat → Nat → Nat} {post : Option Value → LX → Prop}
theorem m_leaf {d a b f : Nat} {Z : LX} {N : Nat → Nat → Nat} {s : PS} {r : PRow} (hn : 146 ≤ n) (hF : F ≤ 12) (ha : a ≤ 1000000) (hb : b ≤ 12) (hZ : Pm n X F P Z N s) (hr : ∀ f, f < F → Z 143 f = Md (r f)) (hp : ∀ Y, Pm n X F P Y N (s.1, s.2.1, some (a, b, r)) → Y 143 = Z 143 → post none Y) : Ev g mX12_planFrom d n n post n 47 [some (.ref 133), some (.int (nI f)), some (.int (nI a)), some (.int (nI b)), none, none] [.int 1] Z := by
  obtain ⟨z1, z2, z3, z4, z5, z6, z7, z8⟩ := id hZ
  obtain ⟨Y, hY⟩ : ∃ Y : LX, Y = lx_up (lx_up Z 133 28 (nI a)) 133 29 (nI b) := ⟨_, rfl⟩
  have hSY : Sh n Y := by
    rw [hY]
    exact (z1.upF (by decide +kernel) (by decide +kernel)).upF (by decide +kernel) (by decide +kernel)
  have y133 : ∀ k, k ≠ 133 → Y k = Z k := fun k hk => by rw [hY, up_ne hk, up_ne hk]
  refine bX12_planFrom_47_0 hn z1 (by decide) ?_
  rw [← hY]
  have loop : ∀ i, i ≤ 12 → Ev g mX12_planFrom d n n post n 63 [some (.ref 133), some (.int (nI f)), some (.int (nI a)), some (.int (nI b)), some (.int (nI i)), none] [] (lx_row Y 144 (fun j => if j < i then Y 143 j else Y 144 j)) := by
    refine down ?_ ?_
    · refine bX12_planFrom_63_1 hn (hSY.row (by decide +kernel)) (show nI 12 ≤ nI 12 from Int32.le_refl _) (hp _ ?_ ?_)
      · have w : ∀ k, k ≠ 144 → lx_row Y 144 (fun j => if j < 12 then Y 143 j else Y 144 j) k = Y k := fun k hk => lx_row_ne _ _ _ hk
        refine ⟨hSY.row (by decide +kernel), fun k h1 h2 h3 h4 => by rw [w k h4, y133 k h1, z2 k h1 h2 h3 h4], fun j h1 h2 h3 h4 => ?_, fun f hf p hp => by rw [w 140 (by omega), y133 140 (by omega), z4 f hf p hp], z5, ?_, ?_, ?_, ?_, ha, hb, ?_⟩
        · rw [w 133 (by omega), hY, up_at h4, up_at h3, z3 j h1 h2 h3 h4]
        · rw [w 133 (by omega), hY]; simp (disch := omega) only [up_at]; exact z6
        · rw [w 133 (by omega), hY]; simp (disch := omega) only [up_at]; exact z7
        · rw [w 133 (by omega), hY]; simp (disch := omega) only [up_at, up_it]
        · rw [w 133 (by omega), hY]; simp (disch := omega) only [up_at, up_it]
        · intro f hf
          rw [lx_row_self]
          show (if f < 12 then Y 143 f else Y 144 f) = _
          rw [if_pos (by omega), y133 143 (by omega), hr f hf]
      · rw [lx_row_ne _ _ _ (by omega), y133 143 (by omega)]
    · intro i hi k
      refine bX12_planFrom_63_0 hn (hSY.row (by decide +kernel)) (show ¬ nI 12 ≤ nI i from nI_ge hi (by omega)) hi ?_
      rw [nI_1, lx_row_up, lx_row_ne _ _ _ (by omega)]
      have e : upd (fun j => if j < i then Y 143 j else Y 144 j) i (Y 143 i) = fun j => if j < i + 1 then Y 143 j else Y 144 j := by
        funext j
        by_cases c : j = i
        · rw [c, pk_us, if_pos (by omega)]
        · rw [pk_un c]
          by_cases c2 : j < i
          · rw [if_pos c2, if_pos (by omega)]
          · rw [if_neg c2, if_neg (by omega)]
      rw [e]
      exact k
  have h0 := loop 0 (Nat.zero_le _)
  have e0 : (fun j => if j < 0 then Y 143 j else Y 144 j) = Y 144 := by
    funext j
    rw [if_neg (Nat.not_lt_zero _)]
  rw [e0, lx_row_id] at h0
  exact h0
theorem m_plan (hn : 146 ≤ n) (hG : Gm X F P st un) (hN0b : Nb F P N0) : ∀ k, k ≤ F → ∀ (d : Nat) (N : Nat → Nat → Nat) (a b : Nat) (r : PRow) (s : PS) (Z : LX), 2 * k + 4 ≤ d → Nb F P N → (∀ f, F - k ≤ f → N f = N0 f) → a + 60000 * k ≤ 1000000 → b + k ≤ 12 → Pm n X F P Z N s → (∀ f, f < F - k → Z 143 f = Md (r f)) → (∀ f, F - k ≤ f → f < 12 → Z 143 f = -1) → Ex g mX12_planFrom d n n [.ref 133, .int (nI (F - k)), .int (nI a), .int (nI b)] Z (fun w Z' => w = none ∧ Pm n X F P Z' N (pS F (enC F P st) (prA (X 134) N0 P) (srA un N0) k N a b r s) ∧ ∀ f, f < 12 → Z' 143 f = Z 143 f) := by
  obtain ⟨⟨gF, gP⟩, g6, g4, g7, gs, gu⟩ := id hG
  intro k
  induction k with
  | zero =>
    intro _ d N a b r s Z hd hN hN0 ha hb hZ hr hr2
    rw [Nat.sub_zero] at hr ⊢
    refine e_of vX12_planFrom (Nat.le_of_ble_eq_true rfl) (cat_of rfl) (pm_in hn hG hZ (Nat.le_refl _) (by omega) (by omega) (fun hp => ?_) (fun hp _ => ?_) (fun _ h => absurd h (Nat.lt_irrefl _)))
    · rw [pS_0, if_pos hp]; exact ⟨rfl, hZ, fun _ _ => rfl⟩
    · refine qX12_planFrom_44 (d' := d - 1) (rest := []) hn (by omega) (by decide) (k_isEnough (by omega) hn hG hN hZ) (fun v W hv => ?_)
      obtain ⟨rfl, hW⟩ := hv
      rw [hW]
      rw [pS_0, if_neg (by rw [hp]; decide)]
      by_cases c : enC F P st N = true
      · rw [if_pos c, if_pos c]
        exact m_leaf hn gF (by omega) (by omega) hZ hr (fun Y hY h143 => ⟨rfl, hY, fun f _ => by rw [h143]⟩)
      · rw [if_neg c, if_neg c]
        exact bX12_planFrom_47_1 hn hZ.1 rfl ⟨rfl, hZ, fun _ _ => rfl⟩
  | succ k ih =>
    intro hk d N a b r s Z hd hN hN0 ha hb hZ hr hr2
    have hf : F - (k + 1) < F := by omega
    obtain ⟨f, ef⟩ : ∃ f, f = F - (k + 1) := ⟨_, rfl⟩
    have ef1 : F - k = f + 1 := by omega
    rw [pS_s]
    rw [← ef] at hr hr2 hf hN0 ⊢
    refine e_of vX12_planFrom (Nat.le_of_ble_eq_true rfl) (cat_of rfl) (pm_in hn hG hZ (by omega) (by omega) (by omega) (fun hp => ?_) (fun _ h => by omega) (fun hp _ => ?_))
    · rw [if_pos hp]; exact ⟨rfl, hZ, fun _ _ => rfl⟩
    rw [if_neg (by rw [hp]; decide)]
    have hE := ih (by omega) (d - 1) N a b (rwU r f none) s Z (by omega) hN (fun f' hf' => hN0 f' (by omega)) (by omega) (by omega) hZ (fun f' hf' => by
      unfold rwU
      by_cases c : f' = f
      · rw [if_pos c, c, hr2 f (Nat.le_refl _) (by omega)]; rfl
      · rw [if_neg c]; exact hr f' (by omega)) (fun f' h1 h2 => hr2 f' (by omega) h2)
    rw [ef1, ← nI_1] at hE
    refine qX12_planFrom_97 (d' := d - 1) (rest := []) hn (by omega) (by decide) hE (fun v W hv => ?_)
    obtain ⟨rfl, hW, w143⟩ := hv
    -- one swap
    have try1 : ∀ (e : Nat × Nat) (s' : PS) (W : LX), e.1 < P → e.2 < P → lgA (X 134) N0 f e.1 e.2 = true → s'.2.1 = false → Pm n X F P W N s' → (∀ f', f' < 12 → W 143 f' = Z 143 f') → Ex g mX12_trySwap (d - 1) n n [.ref 133, .int (nI f), .int (nI e.1), .int (nI e.2), .int (nI a), .int (nI b)] W (fun w Z' => w = none ∧ Pm n X F P Z' N (if s'.1 = 0 then (0, true, s'.2.2) else pS F (enC F P st) (prA (X 134) N0 P) (srA un N0) k (mv N f e) (a + srA un N0 f e) (b + 1) (rwU r f (some e)) (s'.1 - 1, false, s'.2.2)) ∧ ∀ f', f' < 12 → Z' 143 f' = Z 143 f') := by
      intro e s' W m1 m2 hlg hsp hW hr'
      obtain ⟨w1, w2, w3, w4, w5, w6, w7, w8⟩ := id hW
      obtain ⟨l1, l2, -⟩ := of_decide_eq_true hlg
      have eN : N f = N0 f := hN0 f (Nat.le_refl _)
      have m3 : e.1 ≠ e.2 := fun w => by rw [w, l2] at l1; omega
      have hc0 : N f e.2 = 0 := by rw [eN, l2]
      obtain ⟨u1, u2⟩ := gu e.1 (by omega) e.2 (by omega)
      have hNb := hN0b f hf e.1 m1
      have hprod : N0 f e.1 * un e.1 e.2 ≤ 60000 * 99 := Nat.mul_le_mul hNb u1
      have hsr : srA un N0 f e ≤ 60000 := by
        unfold srA
        omega
      refine e_of vX12_trySwap (Nat.le_of_ble_eq_true rfl) (cat_of rfl) ?_
      by_cases h0 : s'.1 = 0
      · rw [if_pos h0]
        refine bX12_trySwap_0_0 hn w1 (by rw [w6, h0]; rfl) ⟨rfl, ⟨w1.upF (by decide +kernel) (by decide +kernel), fun k h1 h2 h3 h4 => by rw [up_ne h1, w2 k h1 h2 h3 h4], fun j h1 h2 h3 h4 => by rw [up_at h2, w3 j h1 h2 h3 h4], fun f hf p hp => by rw [up_ne (by omega), w4 f hf p hp], Nat.zero_le _, by rw [up_at (by omega), w6, h0], by rw [up_it, if_pos rfl], w8.same (fun t ht => by rw [up_at (by omega)]) (up_ne (by omega))⟩, fun f' hf' => by rw [up_ne (by omega), hr' f' hf']⟩
      · rw [if_neg h0]
        refine bX12_trySwap_0_1 hn w1 (by rw [w6]; exact nI_ne0 (by omega) (by omega)) (by omega) (by omega) ?_
        have esr : W 140 (14 * f + e.1) * W 134 (122 + 14 * e.1 + e.2) / 100 = nI (srA un N0 f e) := by
          rw [w4 f hf _ m1, w2 134 (by omega) (by omega) (by omega) (by omega), u2, pk_mul, eN]
          show nI (N0 f e.1 * un e.1 e.2) / nI 100 = _
          rw [pk_div (by omega) (by omega) (by omega)]
          rfl
        rw [esr]
        obtain ⟨Y, hY⟩ : ∃ Y : LX, Y = lx_up W 133 21 (W 133 21 - 1) := ⟨_, rfl⟩
        have y133 : ∀ k, k ≠ 133 → Y k = W k := fun k hk => by rw [hY, up_ne hk]
        have hYS : Sh n Y := by rw [hY]; exact w1.upF (by decide +kernel) (by decide +kernel)
        have yj : ∀ j, j ≠ 21 → Y 133 j = W 133 j := fun j hj => by rw [hY, up_at hj]
        have y21 : Y 133 21 = nI (s'.1 - 1) := by
          rw [hY, up_it, w6]
          show nI s'.1 - nI 1 = _
          rw [pk_sub (by omega)]
        rw [← hY]
        refine qX12_trySwap_58 (d' := d - 2) (rest := []) hn (by omega) (by decide) (c_moves hn hYS (by omega) (by omega) (by omega)) (fun v V hv => ?_)
        obtain ⟨rfl, hV⟩ := hv
        have vk : ∀ k, k ≠ 140 → V k = Y k := fun k hk => by rw [hV, up_ne hk, up_ne hk]
        have hVS : Sh n V := by rw [hV]; exact (hYS.upA (by decide +kernel)).upA (by decide +kernel)
        have v140 : ∀ f', f' < F → ∀ p, p < P → V 140 (14 * f' + p) = nI (mv N f e f' p) := by
          rw [hV]
          exact moved gP hf m1 m2 m3 (fun f' hf' p hp => by rw [y133 140 (by omega), w4 f' hf' p hp])
        refine bX12_trySwap_61_0 hn hVS (by omega) ?_
        have e100 : (100 : Int32) * nI e.1 + nI e.2 = nI (100 * e.1 + e.2) := by
          show nI 100 * nI e.1 + nI e.2 = _
          rw [pk_mul, nI_add]
        rw [e100]
        obtain ⟨U, hU⟩ : ∃ U : LX, U = lx_up V 143 f (nI (100 * e.1 + e.2)) := ⟨_, rfl⟩
        rw [← hU]
        have uk : ∀ k, k ≠ 143 → U k = V k := fun k hk => by rw [hU, up_ne hk]
        have hPU : Pm n X F P U (mv N f e) (s'.1 - 1, false, s'.2.2) := ⟨by rw [hU]; exact hVS.upA (by decide +kernel), fun k h1 h2 h3 h4 => by rw [uk k h3, vk k h2, y133 k h1, w2 k h1 h2 h3 h4], fun j h1 h2 h3 h4 => by rw [uk 133 (by omega), vk 133 (by omega), yj j h1, w3 j h1 h2 h3 h4], fun f' hf' p hp => by rw [uk 140 (by omega), v140 f' hf' p hp], by show s'.1 - 1 ≤ 5000; omega, by rw [uk 133 (by omega), vk 133 (by omega), y21], by rw [uk 133 (by omega), vk 133 (by omega), yj 22 (by omega), w7, hsp], w8.same (fun t ht => by rw [uk 133 (by omega), vk 133 (by omega), yj t (by omega)]) (by rw [uk 144 (by omega), vk 144 (by omega), y133 144 (by omega)])⟩
        have u143 : ∀ f', f' < 12 → f' ≠ f → U 143 f' = Z 143 f' := fun f' h1 h2 => by rw [hU, up_at h2, vk 143 (by omega), y133 143 (by omega), hr' f' h1]
        have hE2 := ih (by omega) (d - 2) (mv N f e) (a + srA un N0 f e) (b + 1) (rwU r f (some e)) (s'.1 - 1, false, s'.2.2) U (by omega) (hN.mv hf m1) (fun f' hf' => by
          rw [← hN0 f' (by omega)]
          funext p
          rw [mv_at, if_neg (by omega)]) (by omega) (by omega) hPU (fun f' hf' => by
          unfold rwU
          by_cases c : f' = f
          · rw [if_pos c, c, hU, up_it]; rfl
          · rw [if_neg c, u143 f' (by omega) c]; exact hr f' (by omega)) (fun f' h1 h2 => by rw [u143 f' h2 (by omega)]; exact hr2 f' (by omega) h2)
        rw [ef1, ← nI_1, ← nI_add, ← nI_1] at hE2
        refine qX12_trySwap_86 (d' := d - 2) (rest := []) hn (by omega) (by decide) hE2 (fun v T hv => ?_)
        obtain ⟨rfl, hT, t143⟩ := hv
        obtain ⟨t1, t2, t3, t4, t5, t6, t7, t8⟩ := id hT
        refine bX12_trySwap_89_0 hn t1 (by omega) ?_
        obtain ⟨T2, hT2⟩ : ∃ T2 : LX, T2 = lx_up T 143 f (-1) := ⟨_, rfl⟩
        rw [← hT2]
        have tk : ∀ k, k ≠ 143 → T2 k = T k := fun k hk => by rw [hT2, up_ne hk]
        have hT2S : Sh n T2 := by rw [hT2]; exact t1.upA (by decide +kernel)
        refine qX12_trySwap_100 (d' := d - 2) (rest := []) hn (by omega) (by decide) (c_moves hn hT2S (by omega) (by omega) (by omega)) (fun v R hv => ?_)
        obtain ⟨rfl, hR⟩ := hv
        have rk : ∀ k, k ≠ 140 → R k = T2 k := fun k hk => by rw [hR, up_ne hk, up_ne hk]
        have hRS : Sh n R := by rw [hR]; exact (hT2S.upA (by decide +kernel)).upA (by decide +kernel)
        have r140 : ∀ f', f' < F → ∀ p, p < P → R 140 (14 * f' + p) = nI (N f' p) := by
          have := moved (F := F) (P := P) (Z := T2) (N := mv N f e) (f := f) (e := (e.2, e.1)) gP hf m2 m1 (Ne.symm m3) (fun f' hf' p hp => by rw [tk 140 (by omega), t4 f' hf' p hp])
          rw [mv_back hc0 m3] at this
          rw [hR]
          exact this
        refine bX12_trySwap_103_0 hn hRS ⟨rfl, ⟨hRS, fun k h1 h2 h3 h4 => by rw [rk k h2, tk k h3, t2 k h1 h2 h3 h4], fun j h1 h2 h3 h4 => by rw [rk 133 (by omega), tk 133 (by omega), t3 j h1 h2 h3 h4], r140, t5, by rw [rk 133 (by omega), tk 133 (by omega), t6], by rw [rk 133 (by omega), tk 133 (by omega), t7], t8.same (fun t ht => by rw [rk 133 (by omega), tk 133 (by omega)]) (by rw [rk 144 (by omega), tk 144 (by omega)])⟩, fun f' hf' => ?_⟩
        rw [rk 143 (by omega), hT2]
        by_cases c : f' = f
        · rw [c, up_it, hr2 f (Nat.le_refl _) (by omega)]
        · rw [up_at c, t143 f' hf', u143 f' hf' c]
    -- all swaps of the family
    have loopC : ∀ (x : Nat), x < P → ∀ (q : Nat), q ≤ P → ∀ (s' : PS) (W : LX) (post : Option Value → LX → Prop), Pm n X F P W N s' → (∀ f', f' < 12 → W 143 f' = Z 143 f') → (∀ V v5, Pm n X F P V N (pL (fun e s' => pS F (enC F P st) (prA (X 134) N0 P) (srA un N0) k (mv N f e) (a + srA un N0 f e) (b + 1) (rwU r f (some e)) s') (cl (lgA (X 134) N0 f x) x P q) s') → (∀ f', f' < 12 → V 143 f' = Z 143 f') → Ev g mX12_planFrom d n n post n 103 [some (.ref 133), some (.int (nI f)), some (.int (nI a)), some (.int (nI b)), some (.int (nI x + 1)), v5] [] V) → Ev g mX12_planFrom d n n post n 117 [some (.ref 133), some (.int (nI f)), some (.int (nI a)), some (.int (nI b)), some (.int (nI x)), some (.int (nI (P - q)))] [] W := by
      intro x hx q
      induction q with
      | zero =>
        intro _ s' W post hW hr' hk2
        refine bX12_planFrom_117_2 hn hW.1 (by rw [hW.2.1 134 (by omega) (by omega) (by omega) (by omega), g4, Nat.sub_zero]; exact Int32.le_refl _) ?_
        exact hk2 W _ hW hr'
      | succ q ihq =>
        intro hq s' W post hW hr' hk2
        obtain ⟨w1, w2, w3, w4, w5, w6, w7, w8⟩ := id hW
        have c0 : ¬ W 134 4 ≤ nI (P - (q + 1)) := by rw [w2 134 (by omega) (by omega) (by omega) (by omega), g4]; exact nI_ge (by omega) (by omega)
        have en : nI (P - (q + 1)) + 1 = nI (P - q) := by rw [nI_1, show P - (q + 1) + 1 = P - q by omega]
        by_cases hsp : s'.2.1 = true
        · rw [if_pos hsp] at w7
          refine bX12_planFrom_117_1 hn w1 c0 (by rw [w7]; decide) (hk2 W _ ?_ hr')
          rw [pL_sp hsp]
          exact hW
        · have hsf : s'.2.1 = false := Bool.eq_false_iff.mpr hsp
          rw [if_neg hsp] at w7
          refine bX12_planFrom_117_0 hn w1 c0 w7 (qX12_planFrom_141 (d' := d - 1) (rest := []) hn (by omega) (by decide) (k_maySwap (by omega) hn hG hW hf hx (by omega) ⟨hN f hf x hx, hN f hf _ (by omega)⟩) (fun v V hv => ?_))
          obtain ⟨rfl, hV⟩ := hv
          rw [hV]
          have elg : lgA (X 134) N f x (P - (q + 1)) = lgA (X 134) N0 f x (P - (q + 1)) := by
            unfold lgA
            rw [hN0 f (Nat.le_refl _)]
          rw [elg]
          rw [cl_s] at hk2
          by_cases cg : lgA (X 134) N0 f x (P - (q + 1)) = true
          · rw [if_pos cg] at hk2 ⊢
            refine bX12_planFrom_144_0 hn w1 (by decide) (qX12_planFrom_155 (d' := d - 1) (rest := []) hn (by omega) (by decide) (try1 (x, P - (q + 1)) s' W hx (by show P - (q + 1) < P; omega) cg hsf hW hr') (fun v T hv => ?_))
            obtain ⟨rfl, hT, t143⟩ := hv
            refine bX12_planFrom_158_0 hn hT.1 ?_
            rw [en]
            refine ihq (by omega) _ T post hT t143 (fun V v5 hV h143 => hk2 V v5 ?_ h143)
            rw [pL_s, if_neg hsp]
            by_cases h0 : s'.1 = 0
            · rw [if_pos h0] at hV ⊢
              rw [pL_sp rfl] at hV
              exact hV
            · rw [if_neg h0] at hV ⊢
              exact hV
          · rw [if_neg cg] at hk2 ⊢
            refine bX12_planFrom_144_1 hn w1 rfl ?_
            rw [en]
            exact ihq (by omega) s' W post hW hr' hk2
    have loopG : ∀ (q : Nat), q ≤ P → ∀ (s' : PS) (W : LX) (v5 : Option Value), Pm n X F P W N s' → (∀ f', f' < 12 → W 143 f' = Z 143 f') → Ev g mX12_planFrom d n n (fun w Z' => w = none ∧ Pm n X F P Z' N (pL (fun e s' => pS F (enC F P st) (prA (X 134) N0 P) (srA un N0) k (mv N f e) (a + srA un N0 f e) (b + 1) (rwU r f (some e)) s') (gl (lgA (X 134) N0 f) P q) s') ∧ ∀ f', f' < 12 → Z' 143 f' = Z 143 f') n 103 [some (.ref 133), some (.int (nI f)), some (.int (nI a)), some (.int (nI b)), some (.int (nI (P - q))), v5] [] W := by
      intro q
      induction q with
      | zero =>
        intro _ s' W v5 hW hr'
        refine ev_wk (L' := [some (.ref 133), some (.int (nI f)), some (.int (nI a)), some (.int (nI b)), some (.int (nI (P - 0))), none]) (by simp [lwk]) (bX12_planFrom_103_1 hn hW.1 (by rw [hW.2.1 134 (by omega) (by omega) (by omega) (by omega), g4, Nat.sub_zero]; exact Int32.le_refl _) ⟨rfl, hW, hr'⟩)
      | succ q ihq =>
        intro hq s' W v5 hW hr'
        have c0 : ¬ W 134 4 ≤ nI (P - (q + 1)) := by rw [hW.2.1 134 (by omega) (by omega) (by omega) (by omega), g4]; exact nI_ge (by omega) (by omega)
        refine ev_wk (L' := [some (.ref 133), some (.int (nI f)), some (.int (nI a)), some (.int (nI b)), some (.int (nI (P - (q + 1)))), none]) (by simp [lwk]) (bX12_planFrom_103_0 hn hW.1 c0 ?_)
        have hl := loopC (P - (q + 1)) (by omega) P (Nat.le_refl _) s' W (fun w Z' => w = none ∧ Pm n X F P Z' N (pL (fun e s' => pS F (enC F P st) (prA (X 134) N0 P) (srA un N0) k (mv N f e) (a + srA un N0 f e) (b + 1) (rwU r f (some e)) s') (gl (lgA (X 134) N0 f) P (q + 1)) s') ∧ ∀ f', f' < 12 → Z' 143 f' = Z 143 f') hW hr' (fun V v5 hV h143 => by
          rw [gl_s, pL_app, nI_1, show P - (q + 1) + 1 = P - q by omega]
          exact ihq (by omega) _ V v5 hV h143)
        rw [Nat.sub_self] at hl
        exact hl
    refine bX12_planFrom_100_0 hn hW.1 ?_
    have := loopG P (Nat.le_refl _) _ W none hW w143
    rw [Nat.sub_self] at this
    exact this
end PLM2
