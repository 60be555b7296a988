/-! LAW, 2: the class's worth of a code. -/
theorem sg_f : ∀ k, k < 9 → ¬ 0 ≤ -sgn k ∧ (-1000) < -sgn k ∧ ¬ -sgn k = (-33) ∧ -(-sgn k) = sgn k := by decide
theorem nm_f : ∀ s, s < 5 → ¬ 0 ≤ (-1000) - nI s ∧ ¬ (-1000) < (-1000) - nI s ∧ (-1000) - nI s < 0 ∧ (-1000) - ((-1000) - nI s) = nI s := by decide
section WORTH
variable {g : GG} {d n N : Nat} {X : LX} {nm : Nat → Int32}
theorem k_nameOf {s : Nat} (hn : 146 ≤ n) (hX : Sh n X) (hs : s < 5) : Ex g mX2_nameOf d n n [.ref 77, .int (nI s)] X (rt (X 80 s) X) :=
  e_of vX2_nameOf (Nat.le_of_ble_eq_true rfl) (cat_of rfl) (bX2_nameOf_0_0 hn hX (nI_pos (by omega)) (show ¬ nI 5 ≤ nI s from nI_ge hs (by omega)) hs ⟨rfl, rfl⟩)
theorem Sk.push {Z : LX} {c : Nat} {st : List Int32} {x : Int32} (h : Sk Z c st) : Sk (lx_up Z c st.length x) c (x :: st) :=
  ⟨up_it, h.up (i := st.length) (fun j hj => up_at (by omega)) (Nat.le_refl _)⟩
theorem c_worth {fr to : Nat} {l : List (Nat × Nat)} (hd : 2 ≤ d) (hn : 146 ≤ n) (hX : Sh n X) (hN : N ≤ 5) (hto : fr + l.length = to) (h120 : to ≤ 120) (hw : wf N l 0) (hC : ∀ i t, l[i]? = some t → X 78 (fr + i) = cTk t) (hnm : ∀ s, s < N → X 80 s = nm s) : Ex g mX2_worth d n n [.ref 77, .int (nI fr), .int (nI to)] X (fun v Z => v = some (.int (evT nm l [])) ∧ Sh n Z ∧ ∀ k, k ≠ 79 → Z k = X k) := by
  refine e_of vX2_worth (Nat.le_of_ble_eq_true rfl) (cat_of rfl) (bX2_worth_0_0 hn hX ?_)
  have loop : ∀ (l' : List (Nat × Nat)) (i : Nat) (st : List Int32) (Z : LX) (v5 : Option Value), l.drop i = l' → i + l'.length = l.length → wf N l' st.length → st.length ≤ i → Sk Z 79 st → Sh n Z → (∀ k, k ≠ 79 → Z k = X k) → evT nm l' st = evT nm l [] → Ev g mX2_worth d n n (fun v Z => v = some (.int (evT nm l [])) ∧ Sh n Z ∧ ∀ k, k ≠ 79 → Z k = X k) n 5 [some (.ref 77), some (.int (nI fr)), some (.int (nI to)), some (.int (nI st.length)), some (.int (nI (fr + i))), v5] [] Z := by
    intro l'
    induction l' with
    | nil =>
      intro i st Z v5 hl hi hwf hst hS hZ zk he
      simp only [List.length_nil, Nat.add_zero] at hi
      have h1 : st.length = 1 := hwf
      refine ev_wk (L' := [some (.ref 77), some (.int (nI fr)), some (.int (nI to)), some (.int (nI st.length)), some (.int (nI (fr + i))), none]) (by simp [lwk]) (bX2_worth_5_11 hn hZ (by rw [hi, hto]; exact Int32.le_refl _) (by rw [h1]; decide) ⟨?_, hZ, zk⟩)
      match st, h1, hS, he with
      | [x], _, hS, he =>
        have h2 : Z 79 0 = x := hS.1
        have h3 : x = evT nm l [] := he
        rw [h2, h3]
    | cons t l' ih =>
      intro i st Z v5 hl hi hwf hst hS hZ zk he
      simp only [List.length_cons] at hi
      have hget : l[i]? = some t := by
        have := List.getElem?_drop (xs := l) (i := i) (j := 0)
        rw [hl] at this
        rw [show i + 0 = i from rfl] at this
        rw [← this]
        rfl
      have htl : l.drop (i + 1) = l' := by
        have := List.tail_drop (l := l) (i := i)
        rw [hl] at this
        exact this.symm
      have e78 : Z 78 (fr + i) = cTk t := by rw [zk 78 (by omega), hC i t hget]
      have c0 : ¬ nI to ≤ nI (fr + i) := nI_ge (by omega) (by omega)
      have c120 : ¬ nI 120 ≤ nI st.length := nI_ge (by omega) (by omega)
      rw [wf_s] at hwf
      obtain ⟨hok, hwf⟩ := hwf
      rw [evT_s] at he
      refine ev_wk (L' := [some (.ref 77), some (.int (nI fr)), some (.int (nI to)), some (.int (nI st.length)), some (.int (nI (fr + i))), none]) (by simp [lwk]) ?_
      have en : nI (fr + i) + 1 = nI (fr + (i + 1)) := by rw [nI_1]; rfl
      rcases hok with ⟨k1, k2⟩ | ⟨k1, k2⟩ | k1 | ⟨k1, k2⟩
      · rw [if_neg (by omega), if_neg (by omega)] at hwf
        have ec : cTk t = nI t.2 := by unfold cTk; rw [if_pos k1]
        have et : tok nm t st = nI t.2 :: st := by unfold tok; rw [if_pos k1]
        rw [ec] at e78
        rw [et] at he
        refine bX2_worth_5_8 hn hZ c0 (by omega) (by rw [e78]; exact nI_pos' (by omega)) c120 (by rw [e78]; exact nI_pos (by omega)) (by omega) ?_
        rw [e78, en, nI_1]
        exact ih (i + 1) (nI t.2 :: st) _ _ htl (by omega) hwf (by rw [List.length_cons]; omega) hS.push (hZ.upA (by decide +kernel)) (fun k hk => by rw [up_ne hk, zk k hk]) he
      · rw [if_neg (by omega), if_neg (by omega)] at hwf
        have ec : cTk t = (-1000) - nI t.2 := by unfold cTk; rw [if_neg (by omega), if_pos k1]
        have et : tok nm t st = nm t.2 :: st := by unfold tok; rw [if_neg (by omega), if_pos k1]
        rw [ec] at e78
        rw [et] at he
        obtain ⟨f1, f2, f3, f4⟩ := nm_f t.2 (by omega)
        refine bX2_worth_5_1 hn hZ c0 (by omega) (by rw [e78]; exact f1) (by rw [e78]; exact f2) c120 (by rw [e78]; exact f3) ?_
        rw [e78, f4]
        refine qX2_worth_67 (d' := d - 1) (rest := [.int (nI st.length), .ref 79]) hn (by omega) (Nat.le_of_ble_eq_true rfl) (k_nameOf hn hZ (by omega)) (fun v V hv => ?_)
        obtain ⟨rfl, hV⟩ := hv
        rw [hV, zk 80 (by omega), hnm t.2 k2]
        refine bX2_worth_70_0 hn hZ (by omega) ?_
        rw [en, nI_1]
        exact ih (i + 1) (nm t.2 :: st) _ _ htl (by omega) hwf (by rw [List.length_cons]; omega) hS.push (hZ.upA (by decide +kernel)) (fun k hk => by rw [up_ne hk, zk k hk]) he
      · rw [if_pos k1] at hwf
        obtain ⟨hh, hwf⟩ := hwf
        have ec : cTk t = -33 := by unfold cTk; rw [if_neg (by omega), if_neg (by omega), if_pos k1]
        rw [ec] at e78
        match st, hh, hwf, hst, hS, he, c120 with
        | a :: r, _, hwf, hst, hS, he, c120 =>
          have et : tok nm t (a :: r) = (if a = 0 then 1 else 0) :: r := by unfold tok; rw [if_neg (by omega), if_neg (by omega), if_pos k1]
          rw [et] at he
          rw [List.length_cons] at hst hwf c120 ⊢
          have h79 : Z 79 r.length = a := hS.1
          have hc4 : ¬ nI (r.length + 1) ≤ 0 := nI_nle (by omega) (by omega)
          by_cases ca : a = 0
          · rw [if_pos ca] at he
            refine bX2_worth_5_3 (j1 := r.length) (by omega) hn hZ c0 (by omega) (by rw [e78]; decide) (by rw [e78]; decide) e78 hc4 (nI_pred _) (by omega) (by rw [h79]; exact ca) ?_
            rw [en]
            exact ih (i + 1) (1 :: r) _ _ htl (by omega) hwf (by rw [List.length_cons]; omega) hS.2.push (hZ.upA (by decide +kernel)) (fun k hk => by rw [up_ne hk, zk k hk]) he
          · rw [if_neg ca] at he
            refine bX2_worth_5_4 (j1 := r.length) (by omega) hn hZ c0 (by omega) (by rw [e78]; decide) (by rw [e78]; decide) e78 hc4 (nI_pred _) (by omega) (by rw [h79]; exact ca) ?_
            rw [en]
            exact ih (i + 1) (0 :: r) _ _ htl (by omega) hwf (by rw [List.length_cons]; omega) hS.2.push (hZ.upA (by decide +kernel)) (fun k hk => by rw [up_ne hk, zk k hk]) he
      · rw [if_neg (by omega), if_pos k1] at hwf
        obtain ⟨hh, hwf⟩ := hwf
        have ec : cTk t = -sgn t.2 := by unfold cTk; rw [if_neg (by omega), if_neg (by omega), if_neg (by omega)]
        rw [ec] at e78
        obtain ⟨f1, f2, f3, f4⟩ := sg_f t.2 k2
        match st, hh, hwf, hst, hS, he, c120 with
        | b :: a :: r, _, hwf, hst, hS, he, c120 =>
          have et : tok nm t (b :: a :: r) = jn t.2 a b :: r := by unfold tok; rw [if_neg (by omega), if_neg (by omega), if_neg (by omega)]
          rw [et] at he
          simp only [List.length_cons] at hst hwf c120 ⊢
          have h2 : Z 79 (r.length + 1) = b := hS.1
          have h1 : Z 79 r.length = a := hS.2.1
          have e1 : nI (r.length + 1 + 1) + (-1) = nI (r.length + 1) := pk_m1 _
          have e2 : nI (r.length + 1 + 1) + (-1) - 1 = nI r.length := by rw [e1]; exact nI_pred _
          refine bX2_worth_5_6 (j1 := r.length) (j2 := r.length + 1) hn hZ c0 (by omega) (by rw [e78]; exact f1) (by rw [e78]; exact f2) (by rw [e78]; exact f3) (show ¬ nI (r.length + 1 + 1) ≤ nI 1 from nI_ge (by omega) (by omega)) e2 (by omega) e1 (by omega) ?_
          rw [e2, e1, e78, f4, h1, h2]
          refine qX2_worth_147 (d' := d - 1) (rest := [.int (nI r.length), .ref 79]) hn (by omega) (Nat.le_of_ble_eq_true rfl) (k_join (by omega) hn hZ k2) (fun v V hv => ?_)
          obtain ⟨rfl, hV⟩ := hv
          rw [hV]
          refine bX2_worth_150_0 hn hZ (by omega) ?_
          rw [en]
          exact ih (i + 1) (jn t.2 a b :: r) _ _ htl (by omega) (by rw [show r.length + 1 + 1 - 1 = r.length + 1 by omega] at hwf; exact hwf) (by rw [List.length_cons]; omega) hS.2.2.push (hZ.upA (by decide +kernel)) (fun k hk => by rw [up_ne hk, zk k hk]) he
  exact loop l 0 [] X none rfl (by omega) hw (Nat.le_refl _) trivial hX (fun _ _ => rfl) rfl
end WORTH
