/-! PLAN, 13: pack. -/
section PACK
variable {LR : LX → (Nat → Int32) → Prop} {g : GG} {d n F P L T : Nat} {X : LX} {st : Nat → Nat} {N0 : Nat → Nat → Nat}
theorem gt_keep {pt : Nat → Nat → Bool} {f : Nat} {row : Nat → Nat} {l : Nat} (hl : L ≤ l) : ∀ (r : Nat) (s : DS), (dPa pt L f row P r s).2.1 l = s.2.1 l
  | 0, _ => rfl
  | r + 1, s => by
    rw [dPa_s, gt_keep hl r]
    show gtN (pt (P - (r + 1))) s.1 (row (P - (r + 1))) L (1 <<< (nI f &&& 31)) s.2.1 l = s.2.1 l
    unfold gtN
    rw [if_neg (fun w => by have := w.1; omega)]
theorem gt_keepF {pt : Nat → Nat → Bool} {N : Nat → Nat → Nat} {l : Nat} (hl : L ≤ l) : ∀ (r : Nat) (s : DS), (dFa pt L N F P r s).2.1 l = s.2.1 l
  | 0, _ => rfl
  | r + 1, s => by rw [dFa_s, gt_keepF hl r, gt_keep hl]
/-- the model takes for all families by the plan -/
theorem m_pack1 {V : LX} {q : PRow} {s : DS} {v1 v2 : Int32} {post : Option Value → LX → Prop} (hd : 8 ≤ d) (hn : 146 ≤ n) (hV : Sh n V) (hF : F ≤ 12) (hP : P ≤ 14) (hL : L ≤ 40) (e6 : V 134 6 = nI F) (e4 : V 134 4 = nI P) (h140 : ∀ f, f < F → ∀ p, p < P → V 140 (14 * f + p) = nI (N0 f p)) (h144 : ∀ f, f < F → V 144 f = Md (q f)) (hq : ∀ f, f < F → ∀ e, q f = some e → e.1 < P ∧ e.2 < P ∧ e.1 ≠ e.2) (hb : ∀ f, f < F → ∀ p, p < P → mvO N0 f (q f) p < 2 ^ 29) (h70 : ∀ l, l < 40 → V 134 (628 + 5 * l + 0) = X 70 l) (hs : Lm V L s) (hs4 : s.2.2.2 = 0) (hk : ∀ Z, Sh n Z → (∀ k, k ≠ 134 → k ≠ 140 → Z k = V k) → Fa V Z → Lm Z L (dFa (ptC X) L (fun f => mvO N0 f (q f)) F P F s) → Ev g mX12_pack d n n post n 158 [some (.ref 133), some (.int v1), some (.int v2), some (.int (dFa (ptC X) L (fun f => mvO N0 f (q f)) F P F s).2.2.2), some (.int 0), none] [] Z) : Ev g mX12_pack d n n post n 44 [some (.ref 133), some (.int v1), some (.int v2), some (.int 0), some (.int 0), none] [] V := by
  have inner : ∀ (f : Nat), f < F → ∀ (sf : DS), (∀ Z v5, Sh n Z → (∀ k, k ≠ 134 → k ≠ 140 → Z k = V k) → Fa V Z → Lm Z L sf → (∀ f', f < f' → f' < F → ∀ p, p < P → Z 140 (14 * f' + p) = nI (N0 f' p)) → Ev g mX12_pack d n n post n 44 [some (.ref 133), some (.int v1), some (.int v2), some (.int sf.2.2.2), some (.int (nI f + 1)), v5] [] Z) → ∀ r, r ≤ P → ∀ (Z : LX) (s1 : DS), dPa (ptC X) L f (mvO N0 f (q f)) P r s1 = sf → Sh n Z → (∀ k, k ≠ 134 → k ≠ 140 → Z k = V k) → Fa V Z → Lm Z L s1 → (∀ p, p < P → Z 140 (14 * f + p) = nI (mvO N0 f (q f) p)) → (∀ f', f < f' → f' < F → ∀ p, p < P → Z 140 (14 * f' + p) = nI (N0 f' p)) → Ev g mX12_pack d n n post n 95 [some (.ref 133), some (.int v1), some (.int v2), some (.int s1.2.2.2), some (.int (nI f)), some (.int (nI (P - r)))] [] Z := by
    intro f hf sf hk2 r
    induction r with
    | zero =>
      intro _ Z s1 he hZ zk zA zL z1 z2
      have he' : s1 = sf := he
      subst he'
      refine bX12_pack_95_1 hn hZ (by rw [zA 4 (by omega), e4, Nat.sub_zero]; exact Int32.le_refl _) ?_
      exact hk2 Z _ hZ zk zA zL z2
    | succ r ih =>
      intro hr Z s1 he hZ zk zA zL z1 z2
      obtain ⟨p, ep⟩ : ∃ p, p = P - (r + 1) := ⟨_, rfl⟩
      have ep1 : P - r = p + 1 := by omega
      have hp : p < P := by omega
      rw [dPa_s] at he
      rw [← ep] at he ⊢
      rw [ep1] at ih
      refine bX12_pack_95_0 hn hZ (by rw [zA 4 (by omega), e4]; exact nI_ge hp (by omega)) (by omega) ?_
      rw [z1 p hp]
      refine qX12_pack_124 (d' := d - 1) (rest := []) hn (by omega) (by decide) (m_takes (X := X) (s := s1) (by omega) hn hZ hL (by omega) (hb f hf p hp) (fun l hl => by rw [zA _ (by omega), h70 l hl]) zL) (fun v W hv => ?_)
      obtain ⟨rfl, w1, wk, wA, wL⟩ := hv
      refine bX12_pack_127_0 hn w1 (by omega) ?_
      rw [wk 140 (by omega), z1 p hp, nI_1]
      exact ih (by omega) W (dst (ptC X) L f p (mvO N0 f (q f) p) s1) he w1 (fun k h1 h2 => by rw [wk k h1, zk k h1 h2]) (fun t ht => by rw [wA t ht, zA t ht]) wL (fun p' hp' => by rw [wk 140 (by omega), z1 p' hp']) (fun f' h1 h2 p' hp' => by rw [wk 140 (by omega), z2 f' h1 h2 p' hp'])
  have outer : ∀ r, r ≤ F → ∀ (Z : LX) (s1 : DS) (v5 : Option Value), dFa (ptC X) L (fun f => mvO N0 f (q f)) F P r s1 = dFa (ptC X) L (fun f => mvO N0 f (q f)) F P F s → Sh n Z → (∀ k, k ≠ 134 → k ≠ 140 → Z k = V k) → Fa V Z → Lm Z L s1 → (∀ f', F - r ≤ f' → f' < F → ∀ p, p < P → Z 140 (14 * f' + p) = nI (N0 f' p)) → Ev g mX12_pack d n n post n 44 [some (.ref 133), some (.int v1), some (.int v2), some (.int s1.2.2.2), some (.int (nI (F - r))), v5] [] Z := by
    intro r
    induction r with
    | zero =>
      intro _ Z s1 v5 he hZ zk zA zL z2
      have he' : s1 = dFa (ptC X) L (fun f => mvO N0 f (q f)) F P F s := he
      rw [he'] at zL ⊢
      exact ev_wk (L' := [some (.ref 133), some (.int v1), some (.int v2), some (.int (dFa (ptC X) L (fun f => mvO N0 f (q f)) F P F s).2.2.2), some (.int (nI (F - 0))), none]) (by simp [lwk]) (bX12_pack_44_2 hn hZ (by rw [zA 6 (by omega), e6, Nat.sub_zero]; exact Int32.le_refl _) (hk Z hZ zk zA zL))
    | succ r ih =>
      intro hr Z s1 v5 he hZ zk zA zL z2
      obtain ⟨f, ef⟩ : ∃ f, f = F - (r + 1) := ⟨_, rfl⟩
      have ef1 : F - r = f + 1 := by omega
      have hf : f < F := by omega
      rw [dFa_s] at he
      rw [← ef] at he z2 ⊢
      rw [ef1] at ih
      have c0 : ¬ Z 134 6 ≤ nI f := by rw [zA 6 (by omega), e6]; exact nI_ge hf (by omega)
      have e144 : Z 144 f = Md (q f) := by rw [zk 144 (by omega) (by omega), h144 f hf]
      refine ev_wk (L' := [some (.ref 133), some (.int v1), some (.int v2), some (.int s1.2.2.2), some (.int (nI f)), none]) (by simp [lwk]) ?_
      have go : ∀ (W : LX), Sh n W → (∀ k, k ≠ 134 → k ≠ 140 → W k = V k) → Fa V W → Lm W L s1 → (∀ p, p < P → W 140 (14 * f + p) = nI (mvO N0 f (q f) p)) → (∀ f', f < f' → f' < F → ∀ p, p < P → W 140 (14 * f' + p) = nI (N0 f' p)) → Ev g mX12_pack d n n post n 95 [some (.ref 133), some (.int v1), some (.int v2), some (.int s1.2.2.2), some (.int (nI f)), some (.int 0)] [] W := by
        intro W hW wk wA wL w1 w2
        have := inner f hf (dPa (ptC X) L f (mvO N0 f (q f)) P P s1) (fun Z' v5 hZ' zk' zA' zL' z2' => by
          rw [nI_1]
          exact ih (by omega) Z' _ v5 he hZ' zk' zA' zL' (fun f' h1 h2 => z2' f' (by omega) h2)) P (Nat.le_refl _) W s1 rfl hW wk wA wL w1 w2
        rw [Nat.sub_self] at this
        exact this
      cases hqf : q f with
      | none =>
        rw [hqf] at e144
        exact bX12_pack_44_1 hn hZ c0 (by omega) (by rw [e144]; decide) (go Z hZ zk zA zL (fun p hp => by rw [hqf]; exact z2 f (Nat.le_refl _) hf p hp) (fun f' h1 h2 => z2 f' (by omega) h2))
      | some e =>
        rw [hqf] at e144
        obtain ⟨b1, b2, b3⟩ := hq f hf e hqf
        have e144' : Z 144 f = nI (100 * e.1 + e.2) := e144
        have eg : Z 144 f / 100 = nI e.1 := by
          rw [e144']
          show nI (100 * e.1 + e.2) / nI 100 = _
          rw [pk_div (by omega) (by omega) (by omega), show (100 * e.1 + e.2) / 100 = e.1 by omega]
        have ec : Z 144 f - Z 144 f / 100 * 100 = nI e.2 := by
          rw [e144']
          show nI (100 * e.1 + e.2) - nI (100 * e.1 + e.2) / nI 100 * nI 100 = _
          rw [pk_rem (by omega) (by omega) (by omega), show (100 * e.1 + e.2) % 100 = e.2 by omega]
        refine bX12_pack_44_0 hn hZ c0 (by omega) (by rw [e144']; exact nI_pos (by omega)) ?_
        rw [ec, eg]
        refine qX12_pack_89 (d' := d - 1) (rest := []) hn (by omega) (by decide) (c_moves hn hZ (by omega) (by omega) (by omega)) (fun v W hv => ?_)
        obtain ⟨rfl, hW⟩ := hv
        have wS : Sh n W := by rw [hW]; exact (hZ.upA (by decide +kernel)).upA (by decide +kernel)
        have wk : ∀ k, k ≠ 140 → W k = Z k := fun k hk => by rw [hW, up_ne hk, up_ne hk]
        refine bX12_pack_92_0 hn wS (go W wS (fun k h1 h2 => by rw [wk k h2, zk k h1 h2]) (fun t ht => by rw [wk 134 (by omega), zA t ht]) ⟨by rw [wk 134 (by omega)]; exact zL.1, fun l hl => by rw [wk 134 (by omega)]; exact zL.2.1 l hl, fun p hp => by rw [wk 134 (by omega)]; exact zL.2.2 p hp⟩ (fun p hp => ?_) (fun f' h1 h2 p hp => ?_))
        · rw [hqf]
          show W 140 (14 * f + p) = nI (if f = f then (if p = e.2 then N0 f e.1 else if p = e.1 then 0 else N0 f p) else N0 f p)
          rw [if_pos rfl, hW]
          by_cases c1 : p = e.2
          · rw [if_pos c1, c1, up_at (by omega), up_it, z2 f (Nat.le_refl _) hf _ b1]
          · rw [if_neg c1]
            by_cases c2 : p = e.1
            · rw [if_pos c2, c2, up_it]; rfl
            · rw [if_neg c2, up_at (by omega), up_at (by omega), z2 f (Nat.le_refl _) hf p hp]
        · rw [hW, up_at (by omega), up_at (by omega), z2 f' (by omega) h2 p hp]
  have := outer F (Nat.le_refl _) V s none rfl hV (fun _ _ _ => rfl) (fun _ _ => rfl) hs (fun f' _ h2 p hp => h140 f' h2 p hp)
  rw [Nat.sub_self, hs4] at this
  exact this
end PACK
