/-! THE CALLS, 14: choose. -/
abbrev mCh (X : LX) (f : Nat) (v : Int32) : Prop := ¬ v < 0 ∧ v &&& (X 134 8 ^^^ (-1)) = 0 ∧ ¬ 2 < ones v ∧ ∀ m, m < 10 → hb v m → mMay X f m
/-- bits of a set that has M places -/
theorem sub_lt {v : Int32} {b M : Nat} (hM : M ≤ 12) (hb0 : b < 2 ^ M) (h0 : ¬ v < 0) (h : v &&& (nI b ^^^ (-1)) = 0) : ∃ k, k < 2 ^ M ∧ v = nI k := by
  obtain ⟨k, hk, rfl⟩ := nI_of h0
  refine ⟨k, Nat.lt_pow_two_of_testBit k (fun i hi => ?_), rfl⟩
  rcases Nat.lt_or_ge i 32 with q | q
  · have e : bt (nI k &&& (nI b ^^^ (-1))) i = false := by rw [h, b_0]
    rw [b_and, b_xor, b_m1 i q, bt_nI q, bt_nI q, Nat.testBit_lt_two_pow (Nat.lt_of_lt_of_le hb0 (Nat.pow_le_pow_right (by omega) hi))] at e
    simpa using e
  · exact Nat.testBit_lt_two_pow (Nat.lt_of_lt_of_le hk (Nat.pow_le_pow_right (by omega) (by omega)))
theorem ones_le : ∀ b, b < 1024 → (bc (nI b) ≤ 2 ↔ ¬ 2 < ones (nI b)) := by decide +kernel
section CHOOSE
variable {LR : LX → (Nat → Int32) → Prop} {g : GG} {d n : Nat} {X : LX} {post : Option Value → LX → Prop}
theorem ch_iff (hK : KR LR X (X 134)) {f : Nat} (hf : f < 12) (hlt : nI f < X 134 6) {v : Int32} : cCh X f v ↔ mCh X f v := by
  obtain ⟨M, hM, e23, e5, eix, b, hb0, eb1, eb2⟩ := hK.meals
  unfold cCh mCh
  rw [eb1, eb2, e23, ix_nI (by omega)]
  refine and_congr_right (fun h0 => and_congr_right (fun h1 => ?_))
  obtain ⟨k, hk, rfl⟩ := sub_lt (by omega) hb0 h0 h1
  rw [ones_le k (pow_10 hM hk)]
  refine and_congr_right (fun _ => ⟨fun h m hm w => ?_, fun h m hm w => ?_⟩)
  · exact (may_iff hK hlt hf hm).mp (h m (hb_lt hk (by omega) w) ((nb_hb (by omega)).mpr w))
  · exact (may_iff hK hlt hf (by omega)).mpr (h m (by omega) ((nb_hb (by omega)).mp w))
theorem ch_end0 {v1 v2 v4 : Int32} (hn : 146 ≤ n) (hX : Sh n X) (hp : post (some (.int (-1000000001))) X) : Ev g mX12_choose d n n post n 48 [some (.ref 133), some (.int v1), some (.int v2), some (.int 0), some (.int v4)] [] X := by
  by_cases h : 10 ≤ v4
  · exact bX12_choose_48_9 hn hX h rfl hp
  · exact bX12_choose_48_6 hn hX h rfl rfl hp
theorem ch_loop {f : Nat} {v2 : Int32} (hd : 3 ≤ d) (hn : 146 ≤ n) (hX : Sh n X) (hf : f < 12) (hk : ∀ m, m < 10 → okM X m) (h0 : ¬ v2 < 0) (h1 : (∀ m, m < 10 → hb v2 m → mMay X f m) → Ev g mX12_choose d n n post n 48 [some (.ref 133), some (.int (nI f)), some (.int v2), some (.int 1), some (.int (nI 10))] [] X) (h2 : ¬ (∀ m, m < 10 → hb v2 m → mMay X f m) → post (some (.int (-1000000001))) X) : Ev g mX12_choose d n n post n 48 [some (.ref 133), some (.int (nI f)), some (.int v2), some (.int 1), some (.int 0)] [] X := by
  have loop : ∀ i, i ≤ 10 → (∀ m, m < i → hb v2 m → mMay X f m) → Ev g mX12_choose d n n post n 48 [some (.ref 133), some (.int (nI f)), some (.int v2), some (.int 1), some (.int (nI i))] [] X := by
    refine down h1 ?_
    intro i hi k h
    have c0 : ¬ (10 : Int32) ≤ nI i := show ¬ nI 10 ≤ nI i from nI_ge hi (by omega)
    rw [show nI (i + 1) = nI i + 1 from (nI_1 i).symm] at k
    by_cases c : hb v2 i
    · by_cases cm : mMay X f i
      · exact bX12_choose_48_0 hd hn hX c0 (by decide) h0 c hf hi (hk i hi) cm (k (fun m hm w => by
          rcases Nat.lt_succ_iff_lt_or_eq.mp hm with q | q
          · exact h m q w
          · subst q; exact cm))
      · exact bX12_choose_48_1 hd hn hX c0 (by decide) h0 c hf hi (hk i hi) cm (ch_end0 hn hX (h2 (fun w => cm (w i hi c))))
    · exact bX12_choose_48_2 (by omega) hn hX c0 (by decide) h0 c (k (fun m hm w => by
        rcases Nat.lt_succ_iff_lt_or_eq.mp hm with q | q
        · exact h m q w
        · subst q; exact absurd w c))
  exact loop 0 (by omega) (fun m hm => absurd hm (Nat.not_lt_zero m))
theorem R5.ch {C : LX} {A : Nat → Int32} (h : R5 C A) {f : Nat} {v : Int32} (hf : nI f < A 6) (hf2 : f < 12) {C' : LX} {A' : Nat → Int32} (hC : ∀ k, 38 ≤ k → k ≤ 55 → k ≠ 42 → C' k = C k) (hCf : ∀ j, j ≠ f → C' 42 j = C 42 j) (hCv : C' 42 f = v) (h6 : A' 6 = A 6) (hA : ∀ j, 448 ≤ j → j < 628 → j ≠ 448 + 15 * f + 4 → A' j = A j) (hAv : A' (448 + 15 * f + 4) = v) : R5 C' A' := by
  intro q hq
  obtain ⟨s1, s2⟩ := h q hq
  rw [h6, hC 38 (by omega) (by omega) (by omega), hC 39 (by omega) (by omega) (by omega), hC 40 (by omega) (by omega) (by omega), hC 41 (by omega) (by omega) (by omega), hC (43 + 1 + q) (by omega) (by omega) (by omega), hA (448 + 15 * q + 0) (by omega) (by omega) (by omega), hA (448 + 15 * q + 1) (by omega) (by omega) (by omega), hA (448 + 15 * q + 2) (by omega) (by omega) (by omega), hA (448 + 15 * q + 3) (by omega) (by omega) (by omega)]
  by_cases e : q = f
  · subst e
    refine ⟨fun w => ?_, fun w => absurd hf w⟩
    obtain ⟨a, b, c, d, e, g⟩ := s1 w
    exact ⟨a, b, c, d, by rw [hCv, hAv], fun m hm => by rw [hA _ (by omega) (by omega) (by omega)]; exact g m hm⟩
  · rw [hCf q e, hA (448 + 15 * q + 4) (by omega) (by omega) (by omega)]
    refine ⟨fun w => ?_, s2⟩
    obtain ⟨a, b, c, d, e, g⟩ := s1 w
    exact ⟨a, b, c, d, e, fun m hm => by rw [hA _ (by omega) (by omega) (by omega)]; exact g m hm⟩
theorem iv_ch (hL : LRok LR) {f : Nat} {v : Int32} (hI : Iv LR n X) (hf : f < 12) (hlt : nI f < X 134 6) (hv : v = -1 ∨ ∃ b, b < 2 ^ ix (X 134 5) ∧ v = nI b) : Iv LR n (lx_up (lx_up X 42 f v) 134 (448 + 15 * f + 4) v) := by
  obtain ⟨hX, hK, hT, hB⟩ := id hI
  have hX1 : Sh n (lx_up X 42 f v) := hX.upA (by decide +kernel)
  have hX2 : Sh n (lx_up (lx_up X 42 f v) 134 (448 + 15 * f + 4) v) := hX1.upA (by decide +kernel)
  refine iv_now hL hI hX2 (hK.fr5 hL (fun k _ _ _ => by rw [up_ne (by omega), up_ne (by omega)]) (fun j _ _ => by rw [up_at (by omega), up_ne (by omega)]) (hK.2.2.2.2.1.ch (v := v) hlt hf (fun k _ _ hk => by rw [up_ne (by omega), up_ne hk]) (fun j hj => by rw [up_ne (by omega), up_at hj]) (by rw [up_ne (by omega), up_it]) (by rw [up_at (by omega), up_ne (by omega)]) (fun j _ _ hj => by rw [up_at hj, up_ne (by omega)]) up_it) ?_)
    (hT.fr ⟨by rw [up_ne (by omega), up_ne (by omega)], by rw [up_ne (by omega), up_ne (by omega)], by rw [up_ne (by omega), up_ne (by omega)], by rw [up_ne (by omega), up_ne (by omega)]⟩ (fun k _ => by rw [up_ne (by omega), up_ne (by omega)])) (by rw [up_ne (by omega), up_ne (by omega)]) (by rw [up_ne (by omega), up_ne (by omega)]) (fun k _ => by rw [up_ne (by omega), up_ne (by omega)]) (by rw [up_ne (by omega), up_ne (by omega)])
  intro q hq
  have e5 : lx_up (lx_up X 42 f v) 134 (448 + 15 * f + 4) v 134 5 = X 134 5 := by rw [up_at (by omega), up_ne (by omega)]
  have e1 : lx_up (lx_up X 42 f v) 134 (448 + 15 * f + 4) v 134 (448 + 15 * q + 1) = X 134 (448 + 15 * q + 1) := by rw [up_at (by omega), up_ne (by omega)]
  rw [e5, e1]
  refine ⟨(hK.2.2.2.2.2.2.2.1.2.2.2.1 q hq).1, ?_⟩
  by_cases z : q = f
  · subst z
    rw [up_it]
    exact hv
  · rw [up_at (by omega), up_ne (by omega)]
    exact (hK.2.2.2.2.2.2.2.1.2.2.2.1 q hq).2
theorem jp_choose (hL : LRok LR) {a b : Int32} (hn : 146 ≤ n) (hn2 : n ≤ 226) (hI : Iv LR n X) : JP g (Iv LR) mX11_choose mX12_choose [.int a, .int b] n X := by
  obtain ⟨hX, hK, hT, hB⟩ := id hI
  obtain ⟨⟨e0, -, e3, -, e4, -, e6, -⟩, -, h3, ⟨cp, hcp, ep⟩, -, ⟨cf, hcf, ef⟩, -⟩ := hK.1
  obtain ⟨M, hM, e23, e5, eix, mb, hmb, eb1, eb2⟩ := hK.meals
  have i1 := cnt_iff (x := X 37 0) (v := a) (c := cf) (by omega) (e6.trans ef)
  by_cases h : 0 ≤ a ∧ a < X 37 0
  · have hm1 := i1.mp h
    rw [e6] at hm1
    obtain ⟨f, hf, rfl⟩ := cnt_num (by omega) (e6.trans ef) h
    have hlt : nI f < X 134 6 := by rw [ef, nI_lt_iff (by omega) (by omega)]; exact hf
    have hw := ((hK.2.2.2.2.1 f (by omega)).1 hlt).2.2.2.2.1
    have hX1 : Sh n (lx_up X 42 f b) := hX.upA (by decide +kernel)
    by_cases s : b = -1
    · rcases h3 with h3 | h3
      · have c1 : X 1 8 = 0 := e3.trans h3
        have c2 : ¬ X 134 3 = 1 := by rw [h3]; decide
        refine jp_of hn hn2 (e_of vX11_choose (Nat.le_of_ble_eq_true rfl) (cat_of rfl) (bX11_choose_0_4 (Nat.le_of_ble_eq_true rfl) hn hX h s c1 (by omega) ⟨rfl, rfl⟩)) (e_of vX12_choose (Nat.le_of_ble_eq_true rfl) (cat_of rfl) (bX12_choose_0_4 (Nat.le_of_ble_eq_true rfl) hn hX1 (by rw [up_ne (by omega)]; exact hm1) s (bX12_choose_48_5 (Nat.le_of_ble_eq_true rfl) hn hX1 (by decide) (by decide) (by rw [s]; decide) (by decide) (by rw [up_ne (by omega)]; exact c2) (by omega) ⟨by rw [up_ne (by omega), hw], rfl⟩))) (iv_ch hL hI (by omega) hlt (Or.inl s))
      · have c1 : ¬ X 1 8 = 0 := by rw [e3, h3]; decide
        exact jp_of hn hn2 (e_of vX11_choose (Nat.le_of_ble_eq_true rfl) (cat_of rfl) (bX11_choose_0_3 (Nat.le_of_ble_eq_true rfl) hn hX h s c1 ⟨rfl, rfl⟩)) (e_of vX12_choose (Nat.le_of_ble_eq_true rfl) (cat_of rfl) (bX12_choose_0_4 (Nat.le_of_ble_eq_true rfl) hn hX hm1 s (bX12_choose_48_4 hn hX (by decide) (by decide) (by rw [s]; decide) (by decide) h3 ⟨rfl, rfl⟩))) hI
    · have hi := ch_iff hK (show f < 12 by omega) hlt (v := b)
      have hok : ∀ m, m < 10 → okM X m := fun m hm => ok_meal (hK.2.2.2.1 m hm).2.2.2
      by_cases q : cCh X f b
      · obtain ⟨q0, q1, q2, q3⟩ := hi.mp q
        rcases h3 with h3 | h3
        · have c1 : X 1 8 = 0 := e3.trans h3
          have c2 : ¬ X 134 3 = 1 := by rw [h3]; decide
          have x134 : lx_up X 42 f b 134 = X 134 := up_ne (by omega)
          refine jp_of hn hn2 (e_of vX11_choose (Nat.le_of_ble_eq_true rfl) (cat_of rfl) (bX11_choose_0_1 (Nat.le_of_ble_eq_true rfl) hn hX h s (by omega) ⟨cp, hcp, e4.trans ep⟩ ⟨M, hM, e23⟩ q c1 (by omega) ⟨rfl, rfl⟩)) (e_of vX12_choose (Nat.le_of_ble_eq_true rfl) (cat_of rfl) (bX12_choose_0_0 (Nat.le_of_ble_eq_true rfl) hn hX1 (by rw [x134]; exact hm1) s q0 (by rw [x134]; exact q1) q2 (ch_loop (Nat.le_of_ble_eq_true rfl) hn hX1 (by omega) (fun m hm => ?_) q0 (fun _ => bX12_choose_48_11 (Nat.le_of_ble_eq_true rfl) hn hX1 (show nI 10 ≤ nI 10 from nI_le (by omega) (by omega)) (by decide) (by rw [x134]; exact c2) (by omega) ⟨by rw [x134, hw], rfl⟩) (fun w => absurd ?_ w)))) (iv_ch hL hI (by omega) hlt (Or.inr ?_))
          · have := hok m hm
            unfold okM num mMany at this ⊢
            rw [x134]; exact this
          · intro m hm w
            have := q3 m hm w
            unfold mMay mAll mMany mQ at this ⊢
            rw [x134]; exact this
          · rw [eb2] at q1
            rw [eix]
            exact sub_lt (by omega) hmb q0 q1
        · have c1 : ¬ X 1 8 = 0 := by rw [e3, h3]; decide
          exact jp_of hn hn2 (e_of vX11_choose (Nat.le_of_ble_eq_true rfl) (cat_of rfl) (bX11_choose_0_0 (Nat.le_of_ble_eq_true rfl) hn hX h s (by omega) ⟨cp, hcp, e4.trans ep⟩ ⟨M, hM, e23⟩ q c1 ⟨rfl, rfl⟩)) (e_of vX12_choose (Nat.le_of_ble_eq_true rfl) (cat_of rfl) (bX12_choose_0_0 (Nat.le_of_ble_eq_true rfl) hn hX hm1 s q0 q1 q2 (ch_loop (Nat.le_of_ble_eq_true rfl) hn hX (by omega) hok q0 (fun _ => bX12_choose_48_10 hn hX (show nI 10 ≤ nI 10 from nI_le (by omega) (by omega)) (by decide) h3 ⟨rfl, rfl⟩) (fun w => absurd q3 w)))) hI
      · have qm : ¬ mCh X f b := fun w => q (hi.mpr w)
        refine jp_of hn hn2 (e_of vX11_choose (Nat.le_of_ble_eq_true rfl) (cat_of rfl) (bX11_choose_0_2 (Nat.le_of_ble_eq_true rfl) hn hX h s (by omega) ⟨cp, hcp, e4.trans ep⟩ ⟨M, hM, e23⟩ q ⟨rfl, rfl⟩)) (e_of vX12_choose (Nat.le_of_ble_eq_true rfl) (cat_of rfl) ?_) hI
        by_cases c2 : b < 0
        · exact bX12_choose_0_3 (Nat.le_of_ble_eq_true rfl) hn hX hm1 s c2 (ch_end0 hn hX ⟨rfl, rfl⟩)
        · by_cases c3 : b &&& (X 134 8 ^^^ (-1)) = 0
          · by_cases c4 : 2 < ones b
            · exact bX12_choose_0_1 (Nat.le_of_ble_eq_true rfl) hn hX hm1 s c2 c3 c4 (ch_end0 hn hX ⟨rfl, rfl⟩)
            · exact bX12_choose_0_0 (Nat.le_of_ble_eq_true rfl) hn hX hm1 s c2 c3 c4 (ch_loop (Nat.le_of_ble_eq_true rfl) hn hX (by omega) hok c2 (fun w => absurd ⟨c2, c3, c4, w⟩ qm) (fun _ => ⟨rfl, rfl⟩))
          · exact bX12_choose_0_2 (Nat.le_of_ble_eq_true rfl) hn hX hm1 s c2 c3 (ch_end0 hn hX ⟨rfl, rfl⟩)
  · have hm1 := fun w => h (i1.mpr w)
    rw [e6] at hm1
    exact jp_of hn hn2 (e_of vX11_choose (Nat.le_of_ble_eq_true rfl) (cat_of rfl) (bX11_choose_0_5 (Nat.le_of_ble_eq_true rfl) hn hX h ⟨rfl, rfl⟩)) (e_of vX12_choose (Nat.le_of_ble_eq_true rfl) (cat_of rfl) (bX12_choose_0_5 (Nat.le_of_ble_eq_true rfl) hn hX hm1 (ch_end0 hn hX ⟨rfl, rfl⟩))) hI
end CHOOSE
