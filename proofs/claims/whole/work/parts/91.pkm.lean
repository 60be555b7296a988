/-! PLAN, 12: pack: the model's takes; the relation behind a packing. -/
theorem ndk_cg {X X' : LX} (h : X' 134 = X 134) {f m : Nat} {r : Nat → Int32} : ∀ k, ndk X' f m r k = ndk X f m r k
  | 0 => rfl
  | k + 1 => by
    show upd (ndk X' f m r k) (14 * f + mQ X' m k) (ndk X' f m r k (14 * f + mQ X' m k) + X' 134 (318 + 13 * m + (8 + k)) * X' 134 (448 + 15 * f + 1)) = upd (ndk X f m r k) (14 * f + mQ X m k) (ndk X f m r k (14 * f + mQ X m k) + X 134 (318 + 13 * m + (8 + k)) * X 134 (448 + 15 * f + 1))
    rw [ndk_cg h k]
    simp only [mQ, h]
theorem ndm_cg {X X' : LX} (h : X' 134 = X 134) {f : Nat} {b : Int32} {r : Nat → Int32} : ∀ i, ndm X' f b r i = ndm X f b r i
  | 0 => rfl
  | i + 1 => by
    show (if hb b i then ndk X' f i (ndm X' f b r i) (mMany X' i) else ndm X' f b r i) = if hb b i then ndk X f i (ndm X f b r i) (mMany X i) else ndm X f b r i
    rw [ndm_cg h i, ndk_cg h]
    simp only [mMany, h]
theorem ndf_cg {X X' : LX} (h : X' 134 = X 134) {r : Nat → Int32} : ∀ i, ndf X' r i = ndf X r i
  | 0 => rfl
  | i + 1 => by
    show ndm X' i (mBox X' i) (ndf X' r i) 10 = ndm X i (mBox X i) (ndf X r i) 10
    rw [ndf_cg h i, ndm_cg h, mBox_cg h]
theorem mNd_cg {X X' : LX} (h : X' 134 = X 134) (h2 : X' 140 = X 140) : mNd X' = mNd X := by
  unfold mNd
  rw [ndf_cg h, h, h2]
def Fa (Z Z' : LX) : Prop := ∀ t, (t < 10 ∨ 122 ≤ t ∨ (t - 10) % 8 ≠ 6) ∧ (t < 628 ∨ 828 ≤ t ∨ ((t - 628) % 5 ≠ 3 ∧ (t - 628) % 5 ≠ 4)) → Z' 134 t = Z 134 t
def Lm (Z : LX) (L : Nat) (s : DS) : Prop := Z 134 7 = nI L ∧ (∀ l, l < 40 → s.1 l ≤ 99999 ∧ Z 134 (628 + 5 * l + 3) = nI (s.1 l) ∧ Z 134 (628 + 5 * l + 4) = s.2.1 l) ∧ ∀ p, p < 14 → Z 134 (10 + 8 * p + 6) = s.2.2.1 p
section PKM
variable {LR : LX → (Nat → Int32) → Prop} {g : GG} {d n F P L : Nat} {X : LX}
theorem m_takes {p o f : Nat} {Z : LX} {s : DS} (hd : 1 ≤ d) (hn : 146 ≤ n) (hZ : Sh n Z) (hL : L ≤ 40) (hp : p < 14) (ho : o < 2 ^ 29) (h70 : ∀ l, l < 40 → Z 134 (628 + 5 * l + 0) = X 70 l) (hs : Lm Z L s) : Ex g mX12_takes d n n [.ref 133, .int (nI f), .int (nI p), .int (nI o)] Z (fun v Z' => v = none ∧ Sh n Z' ∧ (∀ k, k ≠ 134 → Z' k = Z k) ∧ Fa Z Z' ∧ Lm Z' L (dst (ptC X) L f p o s)) := by
  obtain ⟨s7, s1, s2⟩ := id hs
  refine e_of vX12_takes (Nat.le_of_ble_eq_true rfl) (cat_of rfl) (bX12_takes_0_0 hn hZ ?_)
  have loop : ∀ r, r ≤ L → ∀ (W : LX) (v6 : Option Value), Sh n W → (∀ k, k ≠ 134 → W k = Z k) → (∀ t, t < 628 ∨ 828 ≤ t ∨ ((t - 628) % 5 ≠ 3 ∧ (t - 628) % 5 ≠ 4) → W 134 t = Z 134 t) → (∀ l, l < 40 → W 134 (628 + 5 * l + 3) = nI (lfN (ptC X p) s.1 o (L - r) l) ∧ W 134 (628 + 5 * l + 4) = gtN (ptC X p) s.1 o (L - r) (1 <<< (nI f &&& 31)) s.2.1 l) → Ev g mX12_takes d n n (fun v Z' => v = none ∧ Sh n Z' ∧ (∀ k, k ≠ 134 → Z' k = Z k) ∧ Fa Z Z' ∧ Lm Z' L (dst (ptC X) L f p o s)) n 6 [some (.ref 133), some (.int (nI f)), some (.int (nI p)), some (.int (nI o)), some (.int (nI (o - pS1 (ptC X p) s.1 (L - r)))), some (.int (nI (L - r))), v6] [] W := by
    intro r
    induction r with
    | zero =>
      intro _ W v6 hW wk wA w1
      rw [Nat.sub_zero] at w1 ⊢
      refine ev_wk (L' := [some (.ref 133), some (.int (nI f)), some (.int (nI p)), some (.int (nI o)), some (.int (nI (o - pS1 (ptC X p) s.1 L))), some (.int (nI L)), none]) (by simp [lwk]) (bX12_takes_6_3 hd hn hW (by rw [wA 7 (by omega), s7]; exact Int32.le_refl _) (by omega) ⟨rfl, hW.upA (by decide +kernel), fun k hk => by rw [up_ne hk, wk k hk], fun t ht => by rw [up_at (by omega), wA t ht.2], by rw [up_at (by omega), wA 7 (by omega), s7], fun l hl => ⟨Nat.le_trans lfN_le (s1 l hl).1, by rw [up_at (by omega), (w1 l hl).1]; rfl, by rw [up_at (by omega), (w1 l hl).2]; rfl⟩, fun p' hp' => ?_⟩)
      show _ = if p' = p then s.2.2.1 p + nI o else s.2.2.1 p'
      by_cases c : p' = p
      · rw [c, up_it, if_pos rfl, wA _ (by omega), s2 p hp]
      · rw [up_at (by omega), if_neg c, wA _ (by omega), s2 p' hp']
    | succ r ih =>
      intro hr W v6 hW wk wA w1
      obtain ⟨i, ei⟩ : ∃ i, i = L - (r + 1) := ⟨_, rfl⟩
      have ei1 : L - r = i + 1 := by omega
      have hi : i < L := by omega
      rw [← ei] at w1 ⊢
      rw [ei1] at ih
      refine ev_wk (L' := [some (.ref 133), some (.int (nI f)), some (.int (nI p)), some (.int (nI o)), some (.int (nI (o - pS1 (ptC X p) s.1 i))), some (.int (nI i)), none]) (by simp [lwk]) ?_
      have c0 : ¬ W 134 7 ≤ nI i := by rw [wA 7 (by omega), s7]; exact nI_ge hi (by omega)
      have hsi := pS1_s (ptC X p) s.1 i
      have hl99 := (s1 i (by omega)).1
      have e3 : W 134 (628 + 5 * i + 3) = nI (s.1 i) := by
        rw [(w1 i (by omega)).1]
        unfold lfN
        rw [if_neg (fun w => Nat.lt_irrefl _ w.1)]
      have e4 : W 134 (628 + 5 * i + 4) = s.2.1 i := by
        rw [(w1 i (by omega)).2]
        unfold gtN
        rw [if_neg (fun w => Nat.lt_irrefl _ w.1)]
      have e0 : W 134 (628 + 5 * i + 0) = X 70 i := by rw [wA _ (by omega), h70 i (by omega)]
      have next : ∀ (a b v4 : Int32) (v6 : Option Value), a = nI (lfN (ptC X p) s.1 o (i + 1) i) → b = gtN (ptC X p) s.1 o (i + 1) (1 <<< (nI f &&& 31)) s.2.1 i → v4 = nI (o - pS1 (ptC X p) s.1 (i + 1)) → Ev g mX12_takes d n n (fun v Z' => v = none ∧ Sh n Z' ∧ (∀ k, k ≠ 134 → Z' k = Z k) ∧ Fa Z Z' ∧ Lm Z' L (dst (ptC X) L f p o s)) n 6 [some (.ref 133), some (.int (nI f)), some (.int (nI p)), some (.int (nI o)), some (.int v4), some (.int (nI i + 1)), v6] [] (lx_up (lx_up W 134 (628 + 5 * i + 3) a) 134 (628 + 5 * i + 4) b) := by
        intro a b v4 v6 ha hb hv
        rw [hv, nI_1]
        refine ih (by omega) _ v6 ((hW.upA (by decide +kernel)).upA (by decide +kernel)) (fun k hk => by rw [up_ne hk, up_ne hk, wk k hk]) (fun t ht => by rw [up_at (by omega), up_at (by omega), wA t ht]) (fun l hl => ⟨?_, ?_⟩)
        · by_cases cl : l = i
          · rw [cl, up_at (by omega), up_it, ha]
          · rw [up_at (by omega), up_at (by omega), (w1 l hl).1]
            unfold lfN
            have hlt : l < i + 1 ↔ l < i := by omega
            simp only [hlt]
        · by_cases cl : l = i
          · rw [cl, up_it, hb]
          · rw [up_at (by omega), up_at (by omega), (w1 l hl).2]
            unfold gtN
            have hlt : l < i + 1 ↔ l < i := by omega
            simp only [hlt]
      by_cases c2 : ptC X p i = true
      · have k2 : W 134 (628 + 5 * i + 0) = nI p := by rw [e0]; exact of_decide_eq_true c2
        rw [if_pos c2] at hsi
        have emn : (if W 134 (628 + 5 * i + 3) < nI (o - pS1 (ptC X p) s.1 i) then W 134 (628 + 5 * i + 3) else nI (o - pS1 (ptC X p) s.1 i)) = nI (min (s.1 i) (o - pS1 (ptC X p) s.1 i)) := by
          rw [e3]; exact mn_nI (by omega) (by omega)
        have ev4 : nI (o - pS1 (ptC X p) s.1 i) - nI (min (s.1 i) (o - pS1 (ptC X p) s.1 i)) = nI (o - pS1 (ptC X p) s.1 (i + 1)) := by
          rw [pk_sub (Nat.min_le_right _ _)]
          congr 1
          omega
        have ea : nI (s.1 i) - nI (min (s.1 i) (o - pS1 (ptC X p) s.1 i)) = nI (lfN (ptC X p) s.1 o (i + 1) i) := by
          rw [pk_sub (Nat.min_le_left _ _)]
          unfold lfN
          rw [if_pos ⟨Nat.lt_succ_self _, c2⟩]
          congr 1
          omega
        by_cases hz : min (s.1 i) (o - pS1 (ptC X p) s.1 i) = 0
        · refine bX12_takes_6_1 hd hn hW c0 (by omega) k2 (by omega) (by omega) (by rw [emn, hz]; decide) ?_
          rw [up_at (show 628 + 5 * i + 4 ≠ 628 + 5 * i + 3 by omega), emn, e3, e4]
          refine next _ _ _ _ ea ?_ ev4
          unfold gtN
          rw [if_neg (fun w => by have h1 := w.2.2.1; have h2 := w.2.2.2; omega), Int32.or_zero]
        · refine bX12_takes_6_0 hd hn hW c0 (by omega) k2 (by omega) (by omega) (by rw [emn]; exact nI_nle (by omega) (by omega)) ?_
          rw [up_at (show 628 + 5 * i + 4 ≠ 628 + 5 * i + 3 by omega), emn, e3, e4]
          refine next _ _ _ _ ea ?_ ev4
          unfold gtN
          rw [if_pos ⟨Nat.lt_succ_self _, c2, by omega, by omega⟩]
      · have k2 : ¬ W 134 (628 + 5 * i + 0) = nI p := by rw [e0]; exact fun w => c2 (decide_eq_true w)
        rw [if_neg c2, Nat.add_zero] at hsi
        refine bX12_takes_6_2 hd hn hW c0 (by omega) k2 (by omega) (by omega) ?_
        rw [up_at (show 628 + 5 * i + 4 ≠ 628 + 5 * i + 3 by omega), e3, e4]
        refine next _ _ _ _ ?_ ?_ ?_
        · unfold lfN
          rw [if_neg (fun w => c2 w.2), Int32.sub_zero]
        · unfold gtN
          rw [if_neg (fun w => c2 w.2.1), Int32.or_zero]
        · rw [hsi, Int32.sub_zero]; rfl
  have := loop L (Nat.le_refl _) Z none hZ (fun _ _ => rfl) (fun _ _ => rfl) (fun l hl => by
    rw [Nat.sub_self]
    unfold lfN gtN
    rw [if_neg (fun w => Nat.not_lt_zero _ w.1), if_neg (fun w => Nat.not_lt_zero _ w.1)]
    exact (s1 l hl).2)
  rw [Nat.sub_self] at this
  exact this
/-- the kitchens alike behind draws and frozen boxes -/
theorem KR.pk (hL : LRok LR) (hK : KR LR X (X 134)) {Y : LX} (fC : ∀ k, k ≠ 134 → k ≠ 73 → k ≠ 74 → k ≠ 75 → k < 57 ∨ 68 < k → k ≠ 1 → k < 87 → Y k = X k) (f1 : ∀ j, j ≠ 8 → Y 1 j = X 1 j) (f18 : Y 1 8 = Y 134 3) (f3 : Y 134 3 = 0 ∨ Y 134 3 = 1) (fA : ∀ t, t ≠ 3 → (t < 10 ∨ 122 ≤ t ∨ (t - 10) % 8 ≠ 6) ∧ (t < 628 ∨ 2028 ≤ t ∨ (t < 828 ∧ (t - 628) % 5 ≠ 3 ∧ (t - 628) % 5 ≠ 4)) → Y 134 t = X 134 t) (h75 : ∀ p, p < 14 → Y 75 p = Y 134 (10 + 8 * p + 6)) (h7 : ∀ l, l < 40 → Y 73 l = Y 134 (628 + 5 * l + 3) ∧ Y 74 l = Y 134 (628 + 5 * l + 4) ∧ (∃ s, s ≤ 99999 ∧ Y 134 (628 + 5 * l + 3) = nI s) ∧ (¬ nI l < X 134 7 → Y 134 (628 + 5 * l + 4) = 0)) (h6 : ∀ f, f < 12 → ∀ w, w < 100 → Y (56 + 1 + f) w = Y 134 (828 + 12 * w + f) ∧ ∃ b, b < 2 ^ ix (X 134 5) ∧ Y 134 (828 + 12 * w + f) = nI b) : KR LR Y (Y 134) := by
  obtain ⟨⟨⟨r0, r1, r3, r8, r4, r5, r6, r7⟩, x0, -, x4, x5, x6, x7⟩, k2, k3, k4, k5, k6, k7, ⟨b1, b2, b3, b4, b5, b6, b7⟩, k8⟩ := hK
  have a0 := fA 0 (by omega) (by omega)
  have a1 := fA 1 (by omega) (by omega)
  have a4 := fA 4 (by omega) (by omega)
  have a5 := fA 5 (by omega) (by omega)
  have a6 := fA 6 (by omega) (by omega)
  have a7 := fA 7 (by omega) (by omega)
  have a8 := fA 8 (by omega) (by omega)
  have hle : ix (X 134 5) ≤ ix (Y 134 5) := by rw [a5]; exact Nat.le_refl _
  refine ⟨⟨⟨by rw [f1 5 (by omega), a0, r0], by rw [f1 7 (by omega), a1, r1], f18, by rw [f1 6 (by omega), a8, r8], by rw [fC 2 (by omega) (by omega) (by omega) (by omega) (by omega) (by omega) (by omega), a4, r4], by rw [fC 23 (by omega) (by omega) (by omega) (by omega) (by omega) (by omega) (by omega), a5, r5], by rw [fC 37 (by omega) (by omega) (by omega) (by omega) (by omega) (by omega) (by omega), a6, r6], by rw [fC 69 (by omega) (by omega) (by omega) (by omega) (by omega) (by omega) (by omega), a7, r7]⟩, by rw [a0]; exact x0, f3, by rw [a4]; exact x4, by rw [a5, a8]; exact x5, by rw [a6]; exact x6, by rw [a7]; exact x7⟩, fun i hi => ?_, k3.fr (fun k _ _ => fC k (by omega) (by omega) (by omega) (by omega) (by omega) (by omega) (by omega)) (fun t _ _ => fA t (by omega) (by omega)), k4.fr (fun k _ _ => fC k (by omega) (by omega) (by omega) (by omega) (by omega) (by omega) (by omega)) a4 (fun t _ _ => fA t (by omega) (by omega)), k5.fr (fun k _ _ => fC k (by omega) (by omega) (by omega) (by omega) (by omega) (by omega) (by omega)) a6 (fun t _ _ => fA t (by omega) (by omega)), fun f hf w hw => (h6 f hf w hw).1, fun l hl => ?_, ⟨fun p hp => by rw [fA (10 + 8 * p + 2) (by omega) (by omega), fA (10 + 8 * p + 0) (by omega) (by omega)]; exact b1 p hp, b2.fr (fun t _ _ => fA t (by omega) (by omega)), b3.fr (fun t _ _ => fA t (by omega) (by omega)), b4.fr hle (fun f _ t _ => fA _ (by omega) (by omega)), fun f hf w hw => by rw [a5]; exact (h6 f hf w hw).2, fun l hl => ?_, b7.fr a7 (fun p _ => fA _ (by omega) (by omega)) (fun l _ => ⟨fA _ (by omega) (by omega), fA _ (by omega) (by omega)⟩)⟩, hL _ _ _ _ (fun k _ _ => fC k (by omega) (by omega) (by omega) (by omega) (by omega) (by omega) (by omega)) (fA 2 (by omega) (by omega)) (fun t _ _ => fA t (by omega) (by omega)) k8⟩
  · obtain ⟨s1, s2, s3, s4, s5, -, s7⟩ := k2 i hi
    have c : ∀ k, 3 ≤ k → k ≤ 7 → Y k = X k := fun k _ _ => fC k (by omega) (by omega) (by omega) (by omega) (by omega) (by omega) (by omega)
    rw [c 3 (by omega) (by omega), c 4 (by omega) (by omega), c 5 (by omega) (by omega), c 6 (by omega) (by omega), c 7 (by omega) (by omega), fC 76 (by omega) (by omega) (by omega) (by omega) (by omega) (by omega) (by omega), fA (10 + 8 * i + 0) (by omega) (by omega), fA (10 + 8 * i + 1) (by omega) (by omega), fA (10 + 8 * i + 2) (by omega) (by omega), fA (10 + 8 * i + 3) (by omega) (by omega), fA (10 + 8 * i + 4) (by omega) (by omega), fA (10 + 8 * i + 7) (by omega) (by omega)]
    exact ⟨s1, s2, s3, s4, s5, h75 i hi, s7⟩
  · obtain ⟨s1, s2, s3, -, -⟩ := k7 l hl
    obtain ⟨q1, q2, -⟩ := h7 l hl
    rw [fC 70 (by omega) (by omega) (by omega) (by omega) (by omega) (by omega) (by omega), fC 71 (by omega) (by omega) (by omega) (by omega) (by omega) (by omega) (by omega), fC 72 (by omega) (by omega) (by omega) (by omega) (by omega) (by omega) (by omega), fA (628 + 5 * l + 0) (by omega) (by omega), fA (628 + 5 * l + 1) (by omega) (by omega), fA (628 + 5 * l + 2) (by omega) (by omega)]
    exact ⟨s1, s2, s3, q1, q2⟩
  · obtain ⟨s1, -, -⟩ := b6 l hl
    obtain ⟨-, -, q3, q4⟩ := h7 l hl
    rw [a7, fA (628 + 5 * l + 0) (by omega) (by omega)]
    exact ⟨s1, q3, q4⟩
end PKM
