/-! THE CALLS, 25: copy. -/
theorem hp_iff {P p c : Nat} (hP : P ≤ 16) (hp : p < 2 ^ 31) (hc : c < 2 ^ 31) : (0 ≤ nI p ∧ (0 : Int32) ≤ nI c ∧ nI p ≤ nI P ∧ nI c ≤ nI P - nI p) ↔ p + c ≤ P := by
  constructor
  · rintro ⟨-, -, h1, h2⟩
    rw [nI_leI hp (by omega)] at h1
    rw [pk_sub h1, nI_leI hc (by omega)] at h2
    omega
  · intro h
    refine ⟨nI_pos' hp, nI_pos' hc, (nI_leI hp (by omega)).mpr (by omega), ?_⟩
    rw [pk_sub (by omega), nI_leI hc (by omega)]
    omega
theorem lg_le {P p c : Nat} (hP : P ≤ 16) (hp : p < 2 ^ 31) (hc : c < 2 ^ 31) : lg_cmp ((nI p).toInt64 + (nI c).toInt64) (nI P).toInt64 ≤ 0 ↔ p + c ≤ P := by
  rw [lg_cmp_le, nI_l hp, nI_l hc, nI_l (by omega), lN_add, pk_lLE (by omega) (by omega)]
theorem lg_gt {P p c : Nat} (hP : P ≤ 16) (hp : p < 2 ^ 31) (hc : c < 2 ^ 31) : 0 < lg_cmp ((nI p).toInt64 + (nI c).toInt64) (nI P).toInt64 ↔ P < p + c := by
  rw [lg_cmp_gt, nI_l hp, nI_l hc, nI_l (by omega), lN_add, pk_lLT (by omega) (by omega)]
section COPY
variable {LR : LX → (Nat → Int32) → Prop} {g : GG} {d n : Nat} {X : LX} {post : Option Value → LX → Prop}
theorem m_copy {f p t a c : Nat} (hn : 146 ≤ n) (hX : Sh n X) (hf : f < 2) (ht : t < 2) (hp : p + c ≤ 16) (ha : a + c ≤ 16) (hpost : post (some (.int (nI c))) (lx_row (lx_row X 145 (fdr (X 145) (fun j => X 139 (16 * f + p + j)) 0 c)) 139 (fdr (X 139) (fun j => X 139 (16 * f + p + j)) (16 * t + a) c))) : Ev g mX12_copy d n n post n 98 [some (.ref 133), some (.int (nI f)), some (.int (nI p)), some (.int (nI t)), some (.int (nI a)), some (.int (nI c)), some (.int 0)] [] X := by
  obtain ⟨H1, hH1⟩ : ∃ H : LX, H = lx_row X 145 (fdr (X 145) (fun j => X 139 (16 * f + p + j)) 0 c) := ⟨_, rfl⟩
  have hS1 : Sh n H1 := by rw [hH1]; exact hX.row (by decide +kernel)
  have h139 : H1 139 = X 139 := by rw [hH1, lx_row_ne _ _ _ (by omega)]
  have loop2 : ∀ i, i ≤ c → Ev g mX12_copy d n n post n 135 [some (.ref 133), some (.int (nI f)), some (.int (nI p)), some (.int (nI t)), some (.int (nI a)), some (.int (nI c)), some (.int (nI i))] [] (lx_row H1 139 (fdr (X 139) (fun j => X 139 (16 * f + p + j)) (16 * t + a) i)) := by
    refine down ?_ ?_
    · exact bX12_copy_135_1 hn (hS1.row (by decide +kernel)) (Int32.le_refl _) (by rw [hH1]; exact hpost)
    · intro i hi k
      rw [show nI (i + 1) = nI i + 1 from (nI_1 i).symm, ← fdr_s, ← lx_row_up] at k
      refine bX12_copy_135_0 hn (hS1.row (by decide +kernel)) (nI_ge hi (by omega)) (by omega) (by omega) ?_
      have e : lx_row H1 139 (fdr (X 139) (fun j => X 139 (16 * f + p + j)) (16 * t + a) i) 145 i = X 139 (16 * f + p + i) := by
        rw [lx_row_ne _ _ _ (by omega), hH1, lx_row_self]
        unfold fdr
        rw [if_pos (by omega), Nat.sub_zero]
      rw [e]
      exact k
  have loop1 : ∀ i, i ≤ c → Ev g mX12_copy d n n post n 98 [some (.ref 133), some (.int (nI f)), some (.int (nI p)), some (.int (nI t)), some (.int (nI a)), some (.int (nI c)), some (.int (nI i))] [] (lx_row X 145 (fdr (X 145) (fun j => X 139 (16 * f + p + j)) 0 i)) := by
    refine down ?_ ?_
    · refine bX12_copy_98_1 hn (hX.row (by decide +kernel)) (Int32.le_refl _) ?_
      have h := loop2 0 (Nat.zero_le _)
      rw [fdr_0, ← h139, lx_row_id, hH1] at h
      exact h
    · intro i hi k
      rw [show nI (i + 1) = nI i + 1 from (nI_1 i).symm, ← fdr_s, ← lx_row_up, Nat.zero_add] at k
      refine bX12_copy_98_0 hn (hX.row (by decide +kernel)) (nI_ge hi (by omega)) (by omega) (by omega) ?_
      rw [lx_row_ne _ _ _ (show 139 ≠ 145 by omega)]
      exact k
  have h := loop1 0 (Nat.zero_le _)
  rw [fdr_0, lx_row_id] at h
  exact h
theorem short_fit {x : Int32} (h : x.toInt16.toInt32 = x) : fits .short (.int x) = true := by rw [← h]; exact pk_fs x
set_option maxHeartbeats 1000000 in
theorem jp_copy (hL : LRok LR) {v1 v2 v3 v4 v5 : Int32} (hn : 146 ≤ n) (hn2 : n ≤ 226) (hI : Iv LR n X) : JP g (Iv LR) mX11_copy mX12_copy [.int v1, .int v2, .int v3, .int v4, .int v5] n X := by
  obtain ⟨hX, hK, hT, hB⟩ := id hI
  have i1 : (0 ≤ v1 ∧ v1 < 2) ↔ (0 ≤ v1 ∧ v1 ≤ 1) := cnt_iff (x := 2) (c := 2) (by omega) rfl
  have i3 : (0 ≤ v3 ∧ v3 < 2) ↔ (0 ≤ v3 ∧ v3 ≤ 1) := cnt_iff (x := 2) (c := 2) (by omega) rfl
  by_cases h1 : 0 ≤ v1 ∧ v1 < 2
  · have m1 := i1.mp h1
    by_cases h3 : 0 ≤ v3 ∧ v3 < 2
    · have m3 := i3.mp h3
      obtain ⟨f, hf, rfl⟩ := cnt_num (x := 2) (c := 2) (by omega) rfl h1
      obtain ⟨u1, u2, u3⟩ := hT.2.2 f hf
      rcases u2 with u2 | ⟨P, hP, u2⟩
      · exact jp_of hn hn2 (e_of vX11_copy (Nat.le_of_ble_eq_true rfl) (cat_of rfl) (bX11_copy_0_0 (Nat.le_of_ble_eq_true rfl) hn hX h1 h3 hf (by rw [u1, u2]; decide) ⟨rfl, rfl⟩)) (e_of vX12_copy (Nat.le_of_ble_eq_true rfl) (cat_of rfl) (bX12_copy_0_7 (Nat.le_of_ble_eq_true rfl) hn hX m1 m3 hf (by rw [u2]; decide) ⟨rfl, rfl⟩)) hI
      · obtain ⟨t, ht, rfl⟩ := cnt_num (x := 2) (c := 2) (by omega) rfl h3
        obtain ⟨w1, w2, w3⟩ := hT.2.2 t ht
        have p1 : ¬ X 131 f < 0 := by rw [u1, u2]; exact nI_pos (by omega)
        have p1m : ¬ X 138 f < 0 := by rw [u2]; exact nI_pos (by omega)
        rcases w2 with w2 | ⟨R, hR, w2⟩
        · exact jp_of hn hn2 (e_of vX11_copy (Nat.le_of_ble_eq_true rfl) (cat_of rfl) (bX11_copy_0_1 (Nat.le_of_ble_eq_true rfl) hn hX h1 h3 hf p1 ht (by rw [w1, w2]; decide) ⟨rfl, rfl⟩)) (e_of vX12_copy (Nat.le_of_ble_eq_true rfl) (cat_of rfl) (bX12_copy_0_0 (Nat.le_of_ble_eq_true rfl) hn hX m1 m3 hf p1m ht (by rw [w2]; decide) ⟨rfl, rfl⟩)) hI
        · have p3 : ¬ X 131 t < 0 := by rw [w1, w2]; exact nI_pos (by omega)
          have p3m : 0 ≤ X 138 t := by rw [w2]; exact nI_pos' (by omega)
          -- the class says INDEX in one of two places
          have hbad : ∀ (_ : ¬ ((0 ≤ v2 ∧ (0 : Int32) ≤ v5 ∧ v2 ≤ X 131 f ∧ v5 ≤ X 131 f - v2) ∧ (0 ≤ v4 ∧ (0 : Int32) ≤ v5 ∧ v4 ≤ X 131 t ∧ v5 ≤ X 131 t - v4))), Ex g mX11_copy 200 n n [.ref 0, .int (nI f), .int v2, .int (nI t), .int v4, .int v5] X (rt (-1000000013) X) := fun w => by
            refine e_of vX11_copy (Nat.le_of_ble_eq_true rfl) (cat_of rfl) ?_
            by_cases c6 : 0 ≤ v2 ∧ (0 : Int32) ≤ v5 ∧ v2 ≤ X 131 f ∧ v5 ≤ X 131 f - v2
            · exact bX11_copy_0_3 (Nat.le_of_ble_eq_true rfl) hn hX h1 h3 hf p1 ht p3 c6 (fun c7 => w ⟨c6, c7⟩) ⟨rfl, rfl⟩
            · exact bX11_copy_0_4 (Nat.le_of_ble_eq_true rfl) hn hX h1 h3 hf p1 ht p3 c6 ⟨rfl, rfl⟩
          by_cases z5 : v5 < 0
          · exact jp_of hn hn2 (hbad (fun w => Int32.not_le.mpr z5 w.1.2.1)) (e_of vX12_copy (Nat.le_of_ble_eq_true rfl) (cat_of rfl) (bX12_copy_0_6 (Nat.le_of_ble_eq_true rfl) hn hX m1 m3 hf p1m ht p3m z5 ⟨rfl, rfl⟩)) hI
          · by_cases z2 : v2 < 0
            · exact jp_of hn hn2 (hbad (fun w => Int32.not_le.mpr z2 w.1.1)) (e_of vX12_copy (Nat.le_of_ble_eq_true rfl) (cat_of rfl) (bX12_copy_0_5 (Nat.le_of_ble_eq_true rfl) hn hX m1 m3 hf p1m ht p3m z5 z2 ⟨rfl, rfl⟩)) hI
            · by_cases z4 : v4 < 0
              · exact jp_of hn hn2 (hbad (fun w => Int32.not_le.mpr z4 w.2.1)) (e_of vX12_copy (Nat.le_of_ble_eq_true rfl) (cat_of rfl) (bX12_copy_0_4 (Nat.le_of_ble_eq_true rfl) hn hX m1 m3 hf p1m ht p3m z5 z2 z4 ⟨rfl, rfl⟩)) hI
              · obtain ⟨c, hc, rfl⟩ := nI_of z5
                obtain ⟨p, hp, rfl⟩ := nI_of z2
                obtain ⟨a, ha, rfl⟩ := nI_of z4
                have q1 : (0 ≤ nI p ∧ (0 : Int32) ≤ nI c ∧ nI p ≤ X 131 f ∧ nI c ≤ X 131 f - nI p) ↔ p + c ≤ P := by rw [u1, u2]; exact hp_iff hP hp hc
                have q2 : (0 ≤ nI a ∧ (0 : Int32) ≤ nI c ∧ nI a ≤ X 131 t ∧ nI c ≤ X 131 t - nI a) ↔ a + c ≤ R := by rw [w1, w2]; exact hp_iff hR ha hc
                by_cases y1 : p + c ≤ P
                · have g1 : ¬ 0 < lg_cmp ((nI p).toInt64 + (nI c).toInt64) (X 138 f).toInt64 := by rw [u2, lg_gt hP hp hc]; omega
                  by_cases y2 : a + c ≤ R
                  · obtain ⟨X1, hX1⟩ : ∃ Y : LX, Y = lx_row X (128 + 1 + t) (va_cpy (X (128 + 1 + f)) (X (128 + 1 + t)) p a c) := ⟨_, rfl⟩
                    have hS1 : Sh n X1 := by rw [hX1]; exact hX.row (by rw [lyr_128 t ht]; exact (by decide : 1 < 2))
                    have x1 : ∀ k, k ≠ 128 + 1 + t → X1 k = X k := fun k hk => by rw [hX1, lx_row_ne _ _ _ hk]
                    obtain ⟨Y, hY⟩ : ∃ Y : LX, Y = lx_row (lx_row X1 145 (fdr (X1 145) (fun j => X1 139 (16 * f + p + j)) 0 c)) 139 (fdr (X1 139) (fun j => X1 139 (16 * f + p + j)) (16 * t + a) c) := ⟨_, rfl⟩
                    have hSY : Sh n Y := by rw [hY]; exact (hS1.row (by decide +kernel)).row (by decide +kernel)
                    refine jp_of (X1 := X1) (X2 := Y) hn hn2 (e_of vX11_copy (Nat.le_of_ble_eq_true rfl) (cat_of rfl) (bX11_copy_0_2 (Nat.le_of_ble_eq_true rfl) hn hX h1 h3 hf p1 ht p3 (q1.mpr y1) (q2.mpr y2) hf ht (by omega) (by omega) (fun j hj => short_fit ?_) ⟨rfl, hX1.symm⟩)) (e_of vX12_copy (Nat.le_of_ble_eq_true rfl) (cat_of rfl) (bX12_copy_0_2 (Nat.le_of_ble_eq_true rfl) hn hS1 m1 m3 hf (by rw [x1 138 (by omega)]; exact p1m) ht (by rw [x1 138 (by omega)]; exact p3m) z5 z2 z4 (by rw [x1 138 (by omega)]; exact g1) (by rw [x1 138 (by omega), w2, lg_le hR ha hc]; exact y2) (m_copy hn hS1 hf ht (by omega) (by omega) ⟨rfl, hY.symm⟩))) ?_
                    · rw [(u3 (p + j) (by omega)).1]; exact (u3 (p + j) (by omega)).2
                    have fC : ∀ k, k ≠ 128 + 1 + t ∧ k ≠ 139 ∧ k ≠ 145 → Y k = X k := fun k w => by rw [hY, lx_row_ne _ _ _ w.2.1, lx_row_ne _ _ _ w.2.2, x1 k w.1]
                    have y139 : ∀ i, Y 139 i = fdr (X 139) (fun j => X 139 (16 * f + p + j)) (16 * t + a) c i := fun i => by rw [hY, lx_row_self, x1 139 (by omega)]
                    have yr : Y (128 + 1 + t) = va_cpy (X (128 + 1 + f)) (X (128 + 1 + t)) p a c := by rw [hY, lx_row_ne _ _ _ (by omega), lx_row_ne _ _ _ (by omega), hX1, lx_row_self]
                    refine iv_now hL hI hSY (hK.same hL (fun k _ _ => fC k (by omega)) (fun t _ => by rw [fC 134 (by omega)])) ⟨by rw [fC 81 (by omega), fC 133 (by omega), fC 82 (by omega), fC 136 (by omega)]; exact hT.1, by rw [fC 0 (by omega), fC 133 (by omega), fC 132 (by omega), fC 137 (by omega)]; exact hT.2.1, fun q hq => ?_⟩ (by rw [fC 0 (by omega)]) (by rw [fC 133 (by omega)]) (fun k _ => fC k (by omega)) (fC 135 (by omega))
                    obtain ⟨s1, s2, s3⟩ := hT.2.2 q hq
                    rw [fC 131 (by omega), fC 138 (by omega)]
                    refine ⟨s1, s2, fun i hi => ?_⟩
                    rw [y139]
                    by_cases e : q = t
                    · subst e
                      rw [yr]
                      by_cases z : a ≤ i ∧ i < a + c
                      · rw [pk_cpy_in z.1 z.2]
                        unfold fdr
                        rw [if_pos (by omega), show 16 * q + i - (16 * q + a) = i - a by omega]
                        simp only []
                        rw [show 16 * f + p + (i - a) = 16 * f + (p + (i - a)) by omega]
                        exact u3 (p + (i - a)) (by omega)
                      · rw [pk_cpy_out (by omega)]
                        unfold fdr
                        rw [if_neg (by omega)]
                        exact s3 i hi
                    · rw [fC (128 + 1 + q) (by omega)]
                      unfold fdr
                      rw [if_neg (by omega)]
                      exact s3 i hi
                  · exact jp_of hn hn2 (hbad (fun w => y2 (q2.mp w.2))) (e_of vX12_copy (Nat.le_of_ble_eq_true rfl) (cat_of rfl) (bX12_copy_0_1 (Nat.le_of_ble_eq_true rfl) hn hX m1 m3 hf p1m ht p3m z5 z2 z4 g1 (by rw [w2, lg_le hR ha hc]; exact y2) ⟨rfl, rfl⟩)) hI
                · exact jp_of hn hn2 (hbad (fun w => y1 (q1.mp w.1))) (e_of vX12_copy (Nat.le_of_ble_eq_true rfl) (cat_of rfl) (bX12_copy_0_3 (Nat.le_of_ble_eq_true rfl) hn hX m1 m3 hf p1m ht p3m z5 z2 z4 (by rw [u2, lg_gt hP hp hc]; omega) ⟨rfl, rfl⟩)) hI
    · exact jp_of hn hn2 (e_of vX11_copy (Nat.le_of_ble_eq_true rfl) (cat_of rfl) (bX11_copy_0_5 (Nat.le_of_ble_eq_true rfl) hn hX h1 h3 ⟨rfl, rfl⟩)) (e_of vX12_copy (Nat.le_of_ble_eq_true rfl) (cat_of rfl) (bX12_copy_0_8 (Nat.le_of_ble_eq_true rfl) hn hX m1 (fun w => h3 (i3.mpr w)) ⟨rfl, rfl⟩)) hI
  · exact jp_of hn hn2 (e_of vX11_copy (Nat.le_of_ble_eq_true rfl) (cat_of rfl) (bX11_copy_0_6 (Nat.le_of_ble_eq_true rfl) hn hX h1 ⟨rfl, rfl⟩)) (e_of vX12_copy (Nat.le_of_ble_eq_true rfl) (cat_of rfl) (bX12_copy_0_9 (Nat.le_of_ble_eq_true rfl) hn hX (fun w => h1 (i1.mpr w)) ⟨rfl, rfl⟩)) hI
end COPY
