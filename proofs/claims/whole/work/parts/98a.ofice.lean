/-! LAW, 4: the model's worked, of mark and of ice; its names of ice. -/
section OFICE
variable {g : GG} {d n : Nat} {X : LX}
def rwM (X : LX) (v : Int32) : Nat → Int32
  | 0 => 0
  | i + 1 => if hb v i ∧ X 134 (318 + 13 * i + 0) = 3 then 1 else rwM X v i
theorem rwM_s (X : LX) (v : Int32) (i : Nat) : rwM X v (i + 1) = if hb v i ∧ X 134 (318 + 13 * i + 0) = 3 then 1 else rwM X v i := rfl
def grI (X : LX) (f : Nat) (v : Int32) (i : Nat) : Int32 := sumTo (fun m => if hb v m then mGr X m * X 134 (448 + 15 * f + 1) else 0) i
theorem grI_s (X : LX) (f : Nat) (v : Int32) (i : Nat) : grI X f v (i + 1) = grI X f v i + (if hb v i then mGr X i * X 134 (448 + 15 * f + 1) else 0) := rfl
def nmI (X : LX) (f : Nat) : Nat → Int32
  | 0 => grI X f (mBox X f) 10
  | 1 => X 134 (448 + 15 * f + 3)
  | 2 => X 134 1
  | _ => rwM X (mBox X f) 10
theorem nmI_cg {X' : LX} (h : X' 134 = X 134) {f s : Nat} : nmI X' f s = nmI X f s := by
  have hg : ∀ m, mGr X' m = mGr X m := fun m => by unfold mGr mMany; rw [h]
  have hr : ∀ v i, rwM X' v i = rwM X v i := by
    intro v i
    induction i with
    | zero => rfl
    | succ i ih => rw [rwM_s, rwM_s, ih, h]
  match s with
  | 0 =>
    show grI X' f (mBox X' f) 10 = grI X f (mBox X f) 10
    rw [mBox_cg h]
    unfold grI
    exact sum_cg (fun m _ => by rw [hg m, h])
  | 1 => show X' 134 _ = X 134 _; rw [h]
  | 2 => show X' 134 _ = X 134 _; rw [h]
  | s + 3 => show rwM X' (mBox X' f) 10 = rwM X (mBox X f) 10; rw [mBox_cg h, hr]
theorem k_ofIce {s f : Nat} (hd : 5 ≤ d) (hn : 146 ≤ n) (hX : Sh n X) (hs : s < 4) (hf : f < 12) (hk : okN X) (hkm : ∀ m, m < 10 → okM X m) : Ex g mX12_ofIce d n n [.ref 133, .int (nI s), .int (nI f)] X (rt (nmI X f s) X) := by
  refine e_of vX12_ofIce (Nat.le_of_ble_eq_true rfl) (cat_of rfl) (bX12_ofIce_0_0 hd hn hX hf hk ?_)
  have loop : ∀ i, i ≤ 10 → Ev g mX12_ofIce d n n (rt (nmI X f s) X) n 15 [some (.ref 133), some (.int (nI s)), some (.int (nI f)), some (.int (mBox X f)), some (.int (grI X f (mBox X f) i)), some (.int (rwM X (mBox X f) i)), some (.int (nI i))] [] X := by
    refine down ?_ ?_
    · have c0 : (10 : Int32) ≤ nI 10 := Int32.le_refl _
      rcases (show s = 0 ∨ s = 1 ∨ s = 2 ∨ s = 3 by omega) with rfl | rfl | rfl | rfl
      · exact bX12_ofIce_15_6 hn hX c0 rfl ⟨rfl, rfl⟩
      · exact bX12_ofIce_15_7 (by omega) hn hX c0 (by decide) rfl (by omega) ⟨rfl, rfl⟩
      · exact bX12_ofIce_15_8 hn hX c0 (by decide) (by decide) rfl ⟨rfl, rfl⟩
      · exact bX12_ofIce_15_9 hn hX c0 (by decide) (by decide) (by decide) ⟨rfl, rfl⟩
    · intro i hi k
      have c0 : ¬ (10 : Int32) ≤ nI i := show ¬ nI 10 ≤ nI i from nI_ge hi (by omega)
      rw [show nI (i + 1) = nI i + 1 from (nI_1 i).symm, grI_s, rwM_s] at k
      by_cases c1 : hb (mBox X f) i
      · rw [if_pos c1] at k
        by_cases c2 : X 134 (318 + 13 * i + 0) = 3
        · rw [if_pos ⟨c1, c2⟩] at k
          exact bX12_ofIce_15_0 (by omega) hn hX c0 c1 hi (hkm i hi) (by omega) (by omega) c2 k
        · rw [if_neg (fun w => c2 w.2)] at k
          exact bX12_ofIce_15_1 (by omega) hn hX c0 c1 hi (hkm i hi) (by omega) (by omega) c2 k
      · rw [if_neg c1, if_neg (fun w => c1 w.1)] at k
        exact bX12_ofIce_15_5 (by omega) hn hX c0 c1 k
  exact loop 0 (Nat.zero_le _)
theorem c_worked1 {v2 : Int32} {nm : Nat → Int32} {T1 T2 : List (Nat × Nat)} (hd : 2 ≤ d) (hn : 146 ≤ n) (hX : Sh n X) (hz : T1.length + T2.length ≤ 118) (w1 : wf 5 T1 0) (w2 : wf 4 T2 0) (q1 : ∀ i t, T1[i]? = some t → X 134 (2028 + i) = mTk t) (q2 : X 134 (2028 + T1.length) = 300000) (q3 : ∀ i t, T2[i]? = some t → X 134 (2028 + (T1.length + 1 + i)) = mTk t) (q4 : X 134 (2028 + (T1.length + T2.length + 1)) = 300000) (hnm : NmM g n (d - 1) X 4 nm 1 v2) : Ex g mX12_worked d n n [.ref 133, .int 1, .int v2] X (fun v Z => v = some (.int (evT nm T2 [])) ∧ Sh n Z ∧ ∀ k, k ≠ 142 → Z k = X k) := by
  refine e_of vX12_worked (Nat.le_of_ble_eq_true rfl) (cat_of rfl) (bX12_worked_0_0 hn hX ?_)
  have skip : ∀ r, r ≤ T1.length → Ev g mX12_worked d n n (fun v Z => v = some (.int (evT nm T2 [])) ∧ Sh n Z ∧ ∀ k, k ≠ 142 → Z k = X k) n 7 [some (.ref 133), some (.int 1), some (.int v2), some (.int (nI (2028 + (T1.length - r)))), some (.int 1), none, none] [] X := by
    intro r
    induction r with
    | zero =>
      intro _
      rw [Nat.sub_zero]
      refine bX12_worked_7_0 hn hX (by decide) (by omega) q2 ?_
      refine bX12_worked_7_2 hn hX (by decide) ?_
      rw [nI_1]
      exact m_work (N := 4) (base := 2028 + T1.length + 1) hd hn hX (by omega) (by omega) (by omega) w2 (fun i t hi => by rw [← q3 i t hi]; congr 1; omega) (by rw [← q4]; congr 1; omega) hnm (fun Z hZ zk => ⟨rfl, hZ, zk⟩)
    | succ r ih =>
      intro hr
      have hlt : T1.length - (r + 1) < T1.length := by omega
      obtain ⟨t, ht⟩ : ∃ t, T1[T1.length - (r + 1)]? = some t := ⟨_, List.getElem?_eq_getElem hlt⟩
      refine bX12_worked_7_1 hn hX (by decide) (by omega) (by rw [q1 _ t ht]; exact mTk_ne (N := 5) (by omega) (wf_ok w1 t (List.mem_of_getElem? ht))) ?_
      rw [nI_1, show 2028 + (T1.length - (r + 1)) + 1 = 2028 + (T1.length - r) by omega, Int32.sub_zero]
      exact ih (by omega)
  have := skip T1.length (Nat.le_refl _)
  rw [Nat.sub_self] at this
  exact this
theorem c_worked0 {v2 : Int32} {nm : Nat → Int32} {T1 : List (Nat × Nat)} (hd : 2 ≤ d) (hn : 146 ≤ n) (hX : Sh n X) (hz : T1.length ≤ 118) (w1 : wf 5 T1 0) (q1 : ∀ i t, T1[i]? = some t → X 134 (2028 + i) = mTk t) (q2 : X 134 (2028 + T1.length) = 300000) (hnm : NmM g n (d - 1) X 5 nm 0 v2) : Ex g mX12_worked d n n [.ref 133, .int 0, .int v2] X (fun v Z => v = some (.int (evT nm T1 [])) ∧ Sh n Z ∧ ∀ k, k ≠ 142 → Z k = X k) := by
  refine e_of vX12_worked (Nat.le_of_ble_eq_true rfl) (cat_of rfl) (bX12_worked_0_0 hn hX (bX12_worked_7_2 hn hX (by decide) ?_))
  exact m_work (N := 5) (base := 2028) hd hn hX (by omega) (by omega) (by omega) w1 q1 q2 hnm (fun Z hZ zk => ⟨rfl, hZ, zk⟩)
end OFICE
