/-! THE CALLS, 18: stock; what a call may leave behind in the searchers' own cells. -/
section STOCK
variable {LR : LX → (Nat → Int32) → Prop} {g : GG} {d n : Nat} {X : LX} {post : Option Value → LX → Prop}
/-- cells that no call reads before it has written them may change -/
theorem iv_scr (hL : LRok LR) (hI : Iv LR n X) {Y : LX} (hS : Sh n Y) (hC : ∀ k, (k ≤ 80 ∨ k = 82 ∨ (125 ≤ k ∧ k ≤ 132) ∨ (134 ≤ k ∧ k ≤ 139) ∨ 146 ≤ k) → Y k = X k) (h81 : Y 81 1 = X 81 1) (h133 : ∀ t, t = 2 ∨ t = 4 ∨ t = 6 → Y 133 t = X 133 t) : Iv LR n Y :=
  iv_now hL hI hS (hI.2.1.same hL (fun k _ _ => hC k (by omega)) (fun j _ => by rw [hC 134 (by omega)])) (hI.2.2.1.fr ⟨h81, h133 4 (by omega), by rw [hC 0 (by omega)], h133 6 (by omega)⟩ (fun k _ => hC k (by omega))) (by rw [hC 0 (by omega)]) (h133 2 (by omega)) (fun k _ => hC k (by omega)) (hC 135 (by omega))
theorem stock_eq (hK : KR LR X (X 134)) {p : Int32} : cLeft X p = mStock X p := by
  obtain ⟨⟨-, -, -, -, -, -, -, e7⟩, -, -, -, -, -, ⟨L, hL, eL⟩⟩ := hK.1
  unfold cLeft mStock
  rw [e7, eL, ix_nI (by omega)]
  refine sum_cg (fun l hl => ?_)
  obtain ⟨r0, -, -, r3, -⟩ := hK.2.2.2.2.2.2.1 l (by omega)
  rw [r0, r3]
theorem came_eq (hK : KR LR X (X 134)) {p : Nat} (hp : p < 14) : cCame X (nI p) = X 134 (10 + 8 * p + 5) := by
  obtain ⟨⟨-, -, -, -, -, -, -, e7⟩, -⟩ := hK.1
  obtain ⟨a, ha, ea, h⟩ := hK.2.2.2.2.2.2.2.1.2.2.2.2.2.2
  unfold cCame
  rw [h p hp, e7, ea, ix_nI (by omega)]
  refine sum_cg (fun l hl => ?_)
  obtain ⟨r0, r1, -⟩ := hK.2.2.2.2.2.2.1 l (by omega)
  rw [r0, r1]
theorem iv_140 (hL : LRok LR) (hI : Iv LR n X) {r : Nat → Int32} : Iv LR n (lx_row X 140 r) :=
  iv_scr hL hI (hI.1.row (by decide +kernel)) (fun k hk => lx_row_ne _ _ _ (by omega)) (by rw [lx_row_ne _ _ _ (by omega)]) (fun t _ => by rw [lx_row_ne _ _ _ (by omega)])
theorem jp_stock (hL : LRok LR) {a b : Int32} (hn : 146 ≤ n) (hn2 : n ≤ 226) (hI : Iv LR n X) : JP g (Iv LR) mX11_stock mX12_stock [.int a, .int b] n X := by
  obtain ⟨hX, hK, hT, hB⟩ := id hI
  obtain ⟨⟨-, -, -, -, e4, -, e6, e7⟩, -, -, ⟨cp, hcp, ep⟩, -, ⟨F, hF, ef⟩, ⟨L, hLn, eL⟩⟩ := hK.1
  have i1 := cnt_iff (x := X 2 0) (v := a) (c := cp) (by omega) (e4.trans ep)
  by_cases h : 0 ≤ a ∧ a < X 2 0
  · have hm1 := i1.mp h
    rw [e4] at hm1
    obtain ⟨p, hp, rfl⟩ := cnt_num (by omega) (e4.trans ep) h
    have n69 : num X 69 0 40 := ⟨L, hLn, e7.trans eL⟩
    by_cases q : b.toInt < 0 ∨ 4 < b.toInt
    · refine jp_of hn hn2 (e_of vX11_stock (Nat.le_of_ble_eq_true rfl) (cat_of rfl) (bX11_stock_0_0 (Nat.le_of_ble_eq_true rfl) hn hX h q ⟨rfl, rfl⟩)) (e_of vX12_stock (Nat.le_of_ble_eq_true rfl) (cat_of rfl) (bX12_stock_0_3 (Nat.le_of_ble_eq_true rfl) hn hX hm1 (fun w => ?_) ⟨rfl, rfl⟩)) hI
      rw [Int32.le_iff_toInt_le, Int32.le_iff_toInt_le, show (0 : Int32).toInt = 0 by decide, show (4 : Int32).toInt = 4 by decide] at w
      omega
    · obtain ⟨t, ht, rfl⟩ := i_cases 4 (by omega) q
      rcases (show t = 0 ∨ t = 1 ∨ t = 2 ∨ t = 3 ∨ t = 4 by omega) with e | e | e | e | e <;> subst e
      · exact jp_of hn hn2 (e_of vX11_stock (Nat.le_of_ble_eq_true rfl) (cat_of rfl) (bX11_stock_0_1 (Nat.le_of_ble_eq_true rfl) hn hX h rfl n69 ⟨rfl, rfl⟩)) (e_of vX12_stock (Nat.le_of_ble_eq_true rfl) (cat_of rfl) (bX12_stock_0_1 (Nat.le_of_ble_eq_true rfl) hn hX hm1 (by decide +kernel) (by decide +kernel) rfl ⟨L, hLn, eL⟩ ⟨by rw [stock_eq hK], rfl⟩)) hI
      · refine jp_of hn hn2 (e_of vX11_stock (Nat.le_of_ble_eq_true rfl) (cat_of rfl) (bX11_stock_0_2 (Nat.le_of_ble_eq_true rfl) hn hX h rfl (by omega) (okK_of hK) ⟨F, hF, e6.trans ef⟩ ⟨rfl, rfl⟩)) (e_of vX12_stock (Nat.le_of_ble_eq_true rfl) (cat_of rfl) (bX12_stock_0_0 (Nat.le_of_ble_eq_true rfl) hn hX hm1 (by decide +kernel) rfl (qX12_stock_26 (d' := 100) (rest := []) hn (by omega) (by decide) (c_X12_findNeeds (Nat.le_of_ble_eq_true rfl) hn hX (okN_of hK) ⟨F, hF, ef⟩) (fun v Z hv => ?_)))) (iv_140 hL hI (r := mNd X))
        obtain ⟨rfl, rfl⟩ := hv
        exact bX12_stock_29_0 (Nat.le_of_ble_eq_true rfl) hn (hX.row (by decide +kernel)) (by omega) ⟨F, hF, by rw [lx_row_ne _ _ _ (by omega)]; exact ef⟩ ⟨by rw [needall_eq hK (by omega)], rfl⟩
      · exact jp_of hn hn2 (e_of vX11_stock (Nat.le_of_ble_eq_true rfl) (cat_of rfl) (bX11_stock_0_3 (Nat.le_of_ble_eq_true rfl) hn hX h rfl n69 ⟨rfl, rfl⟩)) (e_of vX12_stock (Nat.le_of_ble_eq_true rfl) (cat_of rfl) (bX12_stock_0_2 (Nat.le_of_ble_eq_true rfl) hn hX hm1 (by decide +kernel) (by decide +kernel) (by decide +kernel) (show _ = nI 5 by decide +kernel) (by omega) ⟨by rw [came_eq hK (by omega)], rfl⟩)) hI
      · exact jp_of hn hn2 (e_of vX11_stock (Nat.le_of_ble_eq_true rfl) (cat_of rfl) (bX11_stock_0_4 (Nat.le_of_ble_eq_true rfl) hn hX h rfl (by omega) ⟨rfl, rfl⟩)) (e_of vX12_stock (Nat.le_of_ble_eq_true rfl) (cat_of rfl) (bX12_stock_0_2 (Nat.le_of_ble_eq_true rfl) hn hX hm1 (by decide +kernel) (by decide +kernel) (by decide +kernel) (show _ = nI 6 by decide +kernel) (by omega) ⟨by rw [(hK.2.1 p (by omega)).2.2.2.2.2.1], rfl⟩)) hI
      · exact jp_of hn hn2 (e_of vX11_stock (Nat.le_of_ble_eq_true rfl) (cat_of rfl) (bX11_stock_0_5 (Nat.le_of_ble_eq_true rfl) hn hX h rfl (by omega) ⟨rfl, rfl⟩)) (e_of vX12_stock (Nat.le_of_ble_eq_true rfl) (cat_of rfl) (bX12_stock_0_2 (Nat.le_of_ble_eq_true rfl) hn hX hm1 (by decide +kernel) (by decide +kernel) (by decide +kernel) (show _ = nI 7 by decide +kernel) (by omega) ⟨by rw [(hK.2.1 p (by omega)).2.2.2.2.2.2], rfl⟩)) hI
  · have hm1 := fun w => h (i1.mpr w)
    rw [e4] at hm1
    exact jp_of hn hn2 (e_of vX11_stock (Nat.le_of_ble_eq_true rfl) (cat_of rfl) (bX11_stock_0_6 (Nat.le_of_ble_eq_true rfl) hn hX h ⟨rfl, rfl⟩)) (e_of vX12_stock (Nat.le_of_ble_eq_true rfl) (cat_of rfl) (bX12_stock_0_4 (Nat.le_of_ble_eq_true rfl) hn hX hm1 ⟨rfl, rfl⟩)) hI
end STOCK
