/-! PLAN, 8: swap. -/
section SWAP
variable {LR : LX → (Nat → Int32) → Prop} {g : GG} {d n F P L : Nat} {X : LX} {st : Nat → Nat} {un N0 : Nat → Nat → Nat}
def goO : Option (Nat × Nat) → Int32
  | none => -1000000005
  | some e => nI e.1
def coO : Option (Nat × Nat) → Int32
  | none => -1000000005
  | some e => nI e.2
def isO : Option (Nat × Nat) → Int32
  | none => 0
  | some _ => 1
theorem k_isSwapped {f : Nat} {o : Option (Nat × Nat)} (hn : 146 ≤ n) (hX : Sh n X) (hf : f < 12) (h : Cd X N0 f (X 108 f) o) : Ex g mX8_isSwapped d n n [.ref 87, .int (nI f)] X (rt (isO o) X) := by
  refine e_of vX8_isSwapped (Nat.le_of_ble_eq_true rfl) (cat_of rfl) ?_
  cases o with
  | none => exact bX8_isSwapped_0_1 hn hX hf (by rw [show X 108 f = -1 from h]; decide) ⟨rfl, rfl⟩
  | some e =>
    obtain ⟨j, j1, j2, -⟩ := h
    exact bX8_isSwapped_0_0 hn hX hf (by rw [j2]; exact nI_pos (by omega)) ⟨rfl, rfl⟩
theorem k_goesOf {f : Nat} {o : Option (Nat × Nat)} (hn : 146 ≤ n) (hX : Sh n X) (hf : f < 12) (h : Cd X N0 f (X 108 f) o) : Ex g mX8_goesOf d n n [.ref 87, .int (nI f)] X (rt (goO o) X) := by
  refine e_of vX8_goesOf (Nat.le_of_ble_eq_true rfl) (cat_of rfl) ?_
  cases o with
  | none => exact bX8_goesOf_0_1 hn hX hf (by rw [show X 108 f = -1 from h]; decide) ⟨rfl, rfl⟩
  | some e =>
    obtain ⟨j, j1, j2, j3, -⟩ := h
    refine bX8_goesOf_0_0 (j1 := j) hn hX hf (by rw [j2]; exact nI_pos (by omega)) j2 j1 ?_
    rw [j3]
    exact ⟨rfl, rfl⟩
theorem k_comesOf {f : Nat} {o : Option (Nat × Nat)} (hn : 146 ≤ n) (hX : Sh n X) (hf : f < 12) (h : Cd X N0 f (X 108 f) o) : Ex g mX8_comesOf d n n [.ref 87, .int (nI f)] X (rt (coO o) X) := by
  refine e_of vX8_comesOf (Nat.le_of_ble_eq_true rfl) (cat_of rfl) ?_
  cases o with
  | none => exact bX8_comesOf_0_1 hn hX hf (by rw [show X 108 f = -1 from h]; decide) ⟨rfl, rfl⟩
  | some e =>
    obtain ⟨j, j1, j2, -, j4, -⟩ := h
    refine bX8_comesOf_0_0 (j1 := j) hn hX hf (by rw [j2]; exact nI_pos (by omega)) j2 j1 ?_
    rw [j4]
    exact ⟨rfl, rfl⟩
def swO : Option (Nat × Nat) → Int32
  | none => -1000000005
  | some e => nI (100 * e.1 + e.2)
theorem jp_swap (hLR : LRok LR) {a b : Int32} (hn : 146 ≤ n) (hn2 : n ≤ 226) (hI : Iv LR n X) : JP g (Iv LR) mX11_swap mX12_swap [.int a, .int b] n X := by
  obtain ⟨hX, hK, hT, hB⟩ := id hI
  obtain ⟨⟨-, -, -, -, -, -, e6, -⟩, -, -, -, -, ⟨F', hF', ef'⟩, -⟩ := hK.1
  have i1 := cnt_iff (x := X 37 0) (v := b) (c := F') (by omega) (e6.trans ef')
  rw [show X 37 0 - 1 = X 134 6 - 1 by rw [e6]] at i1
  by_cases h : 1 ≤ a ∧ a ≤ 5000
  · by_cases h2 : 0 ≤ b ∧ b < X 37 0
    · have hm := i1.mp h2
      obtain ⟨F, P, st, un, N0, hS⟩ := plan_set hK
      obtain ⟨L, hL, ea⟩ := i_num (N := 5000) (by omega) (Int32.le_trans (by decide) h.1) h.2
      have eF : X 37 0 = nI F := hS.1.2.1
      have hF : F ≤ 12 := hS.1.1.1
      obtain ⟨f, hfj, eb⟩ := nI_of (x := b) (Int32.not_lt.mpr h2.1)
      have hf : f < F := by
        have := h2.2
        rw [eb, eF, nI_ltI hfj (by omega)] at this
        exact this
      refine jp_rel (fun r W => Sh n W ∧ (∀ k, k ≤ 86 ∨ 109 ≤ k → W k = X k) ∧ ((pRs (sR (X 134) F P L st un N0) = 0 ∧ ∃ q, (sR (X 134) F P L st un N0).2.2 = some q ∧ (∀ e, q.2.2 f = some e → e.1 < 14 ∧ e.2 < 14) ∧ r = swO (q.2.2 f)) ∨ (¬ pRs (sR (X 134) F P L st un N0) = 0 ∧ r = pRs (sR (X 134) F P L st un N0)))) hn hn2 (e_of vX11_swap (Nat.le_of_ble_eq_true rfl) (cat_of rfl) (bX11_swap_0_0 (Nat.le_of_ble_eq_true rfl) hn hX h h2 (qX11_swap_33 (d' := 100) (rest := []) hn (by omega) (by decide) (by rw [ea]; exact c_X8_seek (by omega) hn hX hL hS) (fun v W hv => ?_)))) (fun r W hW => ?_)
      · obtain ⟨w1, wf, wN, rfl, wq⟩ := hv
        by_cases c : pRs (sR (X 134) F P L st un N0) = 0
        · obtain ⟨q, hq⟩ := pRs_0 c
          have hC := (wq q hq).2.2 f hf
          have hb14 : ∀ e, q.2.2 f = some e → e.1 < 14 ∧ e.2 < 14 := fun e he => by
            rw [he] at hC
            obtain ⟨j, -, -, -, -, -, j6, j7, -⟩ := hC
            exact ⟨j6, j7⟩
          refine bX11_swap_36_1 hn w1 c ?_
          rw [eb]
          refine qX11_swap_48 (d' := 100) (rest := []) hn (by omega) (by decide) (k_isSwapped hn w1 (by omega) hC) (fun v V hv => ?_)
          obtain ⟨rfl, hV⟩ := hv
          rw [hV]
          cases ho : q.2.2 f with
          | none =>
            exact bX11_swap_51_0 hn w1 rfl ⟨_, rfl, w1, wf, Or.inl ⟨c, q, hq, hb14, by rw [ho]; rfl⟩⟩
          | some e =>
            rw [ho] at hC
            refine bX11_swap_51_1 hn w1 (show ¬ (1 : Int32) = 0 by decide) (qX11_swap_65 (d' := 100) (rest := [.int 100]) hn (by omega) (by decide) (k_goesOf hn w1 (by omega) hC) (fun v V hv => ?_))
            obtain ⟨rfl, hV⟩ := hv
            rw [hV]
            refine bX11_swap_68_0 hn w1 (qX11_swap_74 (d' := 100) (rest := [.int (100 * nI e.1)]) hn (by omega) (Nat.le_of_ble_eq_true rfl) (k_comesOf hn w1 (by omega) hC) (fun v V hv => ?_))
            obtain ⟨rfl, hV⟩ := hv
            rw [hV]
            refine bX11_swap_77_0 hn w1 ⟨_, rfl, w1, wf, Or.inl ⟨c, q, hq, hb14, ?_⟩⟩
            rw [ho]
            show nI 100 * nI e.1 + nI e.2 = nI (100 * e.1 + e.2)
            rw [pk_mul, nI_add]
        · exact bX11_swap_36_0 hn w1 c ⟨_, rfl, w1, wf, Or.inr ⟨c, rfl⟩⟩
      · obtain ⟨w1, wf, wc⟩ := hW
        have hIW := iv_seek hLR hI w1 wf
        refine e_of vX12_swap (Nat.le_of_ble_eq_true rfl) (cat_of rfl) (bX12_swap_0_0 (Nat.le_of_ble_eq_true rfl) hn w1 h (by rw [wf 134 (by omega)]; exact hm) (qX12_swap_24 (d' := 100) (rest := []) hn (by omega) (by decide) (by rw [ea]; exact m_find2 (by omega) hn hL hS hIW wf) (fun v V hv => ?_)))
        obtain ⟨v1, vf, vj, vN, rfl, vq⟩ := hv
        have hIV := iv_plan hLR hIW v1 vf vj
        rcases wc with ⟨c, q, hq, hb14, rfl⟩ | ⟨c, rfl⟩
        · have e144 := (vq q hq).2 f hf
          rw [eb]
          cases ho : q.2.2 f with
          | none =>
            rw [ho] at e144
            exact bX12_swap_27_1 hn v1 c (by omega) (by rw [e144]; decide) ⟨rfl, hIV⟩
          | some e =>
            rw [ho] at e144
            obtain ⟨b1, b2⟩ := hb14 e ho
            refine bX12_swap_27_2 hn v1 c (by omega) (by rw [e144]; exact nI_pos' (by omega)) ⟨?_, hIV⟩
            rw [e144]
            rfl
        · exact bX12_swap_27_0 hn v1 c ⟨rfl, hIV⟩
    · exact jp_of hn hn2 (e_of vX11_swap (Nat.le_of_ble_eq_true rfl) (cat_of rfl) (bX11_swap_0_1 (Nat.le_of_ble_eq_true rfl) hn hX h h2 ⟨rfl, rfl⟩)) (e_of vX12_swap (Nat.le_of_ble_eq_true rfl) (cat_of rfl) (bX12_swap_0_1 (Nat.le_of_ble_eq_true rfl) hn hX h (fun w => h2 (i1.mpr w)) ⟨rfl, rfl⟩)) hI
  · exact jp_of hn hn2 (e_of vX11_swap (Nat.le_of_ble_eq_true rfl) (cat_of rfl) (bX11_swap_0_2 (Nat.le_of_ble_eq_true rfl) hn hX h ⟨rfl, rfl⟩)) (e_of vX12_swap (Nat.le_of_ble_eq_true rfl) (cat_of rfl) (bX12_swap_0_2 (Nat.le_of_ble_eq_true rfl) hn hX h ⟨rfl, rfl⟩)) hI
end SWAP
