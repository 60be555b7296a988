/-! LAW, 3: the model's worth of a code. -/
section WORKED
variable {g : GG} {d n N : Nat} {X : LX} {nm : Nat → Int32}
/-- how the model answers a name -/
def NmM (g : GG) (n d : Nat) (X : LX) (N : Nat) (nm : Nat → Int32) (wh v2 : Int32) : Prop := ∀ (Z : LX), Sh n Z → (∀ k, k ≠ 142 → Z k = X k) → ∀ s, s < N → (wh = 0 → Ex g mX12_ofMark d n n [.ref 133, .int (nI s), .int v2] Z (rt (nm s) Z)) ∧ (¬ wh = 0 → Ex g mX12_ofIce d n n [.ref 133, .int (nI s), .int v2] Z (rt (nm s) Z))
theorem m_work {wh v2 v4 : Int32} {base : Nat} {l : List (Nat × Nat)} {post : Option Value → LX → Prop} (hd : 2 ≤ d) (hn : 146 ≤ n) (hX : Sh n X) (hN : N ≤ 5) (hb : base + l.length < 2156) (hl120 : l.length ≤ 120) (hw : wf N l 0) (hC : ∀ i t, l[i]? = some t → X 134 (base + i) = mTk t) (hE : X 134 (base + l.length) = 300000) (hnm : NmM g n (d - 1) X N nm wh v2) (hp : ∀ Z, Sh n Z → (∀ k, k ≠ 142 → Z k = X k) → post (some (.int (evT nm l []))) Z) : Ev g mX12_worked d n n post n 42 [some (.ref 133), some (.int wh), some (.int v2), some (.int (nI base)), some (.int v4), some (.int 0), none] [] X := by
  have loop : ∀ (l' : List (Nat × Nat)) (i : Nat) (st : List Int32) (Z : LX) (v6 : Option Value), l.drop i = l' → i + l'.length = l.length → wf N l' st.length → st.length ≤ i → Sk Z 142 st → Sh n Z → (∀ k, k ≠ 142 → Z k = X k) → evT nm l' st = evT nm l [] → Ev g mX12_worked d n n post n 42 [some (.ref 133), some (.int wh), some (.int v2), some (.int (nI (base + i))), some (.int v4), some (.int (nI st.length)), v6] [] Z := by
    intro l'
    induction l' with
    | nil =>
      intro i st Z v6 hl hi hwf hst hS hZ zk he
      simp only [List.length_nil, Nat.add_zero] at hi
      have h1 : st.length = 1 := hwf
      refine ev_wk (L' := [some (.ref 133), some (.int wh), some (.int v2), some (.int (nI (base + i))), some (.int v4), some (.int (nI st.length)), none]) (by simp [lwk]) (bX12_worked_42_6 hn hZ (by omega) (by rw [zk 134 (by omega), hi, hE]) ?_)
      match st, h1, hS, he with
      | [x], _, hS, he =>
        have h2 : Z 142 0 = x := hS.1
        have h3 : x = evT nm l [] := he
        rw [h2, h3]
        exact hp Z hZ zk
    | cons t l' ih =>
      intro i st Z v6 hl hi hwf hst hS hZ zk he
      simp only [List.length_cons] at hi
      have hget : l[i]? = some t := by
        have := List.getElem?_drop (xs := l) (i := i) (j := 0)
        rw [hl] at this
        rw [show i + 0 = i from rfl] at this
        rw [← this]
        rfl
      have htl : l.drop (i + 1) = l' := by
        have := List.tail_drop (l := l) (i := i)
        rw [hl] at this
        exact this.symm
      have e134 : Z 134 (base + i) = mTk t := by rw [zk 134 (by omega), hC i t hget]
      rw [wf_s] at hwf
      obtain ⟨hok, hwf⟩ := hwf
      rw [evT_s] at he
      refine ev_wk (L' := [some (.ref 133), some (.int wh), some (.int v2), some (.int (nI (base + i))), some (.int v4), some (.int (nI st.length)), none]) (by simp [lwk]) ?_
      have en : nI (base + i) + 1 = nI (base + (i + 1)) := by rw [nI_1]; rfl
      rcases hok with ⟨k1, k2⟩ | ⟨k1, k2⟩ | k1 | ⟨k1, k2⟩
      · rw [if_neg (by omega), if_neg (by omega)] at hwf
        have ec : mTk t = nI t.2 := by unfold mTk; rw [if_pos k1]
        have et : tok nm t st = nI t.2 :: st := by unfold tok; rw [if_pos k1]
        rw [ec] at e134
        rw [et] at he
        refine bX12_worked_42_0 hn hZ (by omega) (by rw [e134]; exact fun w => by have := (nI_eq (b := 300000) (by omega) (by omega)).mp w; omega) (by rw [e134]; exact nI_ge (b := 200000) (by omega) (by omega)) (by rw [e134]; exact nI_ge (b := 100000) (by omega) (by omega)) (by omega) ?_
        rw [e134, en, nI_1]
        exact ih (i + 1) (nI t.2 :: st) _ _ htl (by omega) hwf (by rw [List.length_cons]; omega) hS.push (hZ.upA (by decide +kernel)) (fun k hk => by rw [up_ne hk, zk k hk]) he
      · rw [if_neg (by omega), if_neg (by omega)] at hwf
        have ec : mTk t = nI (100000 + t.2) := by unfold mTk; rw [if_neg (by omega), if_pos k1]
        have et : tok nm t st = nm t.2 :: st := by unfold tok; rw [if_neg (by omega), if_pos k1]
        rw [ec] at e134
        rw [et] at he
        have ea : nI (100000 + t.2) - 100000 = nI t.2 := by
          show nI (100000 + t.2) - nI 100000 = _
          rw [pk_sub (by omega), Nat.add_sub_cancel_left]
        have c0 : ¬ Z 134 (base + i) = 300000 := by rw [e134]; exact fun w => by have := (nI_eq (b := 300000) (by omega) (by omega)).mp w; omega
        have c1 : ¬ 200000 ≤ Z 134 (base + i) := by rw [e134]; exact nI_ge (b := 200000) (by omega) (by omega)
        have c2 : 100000 ≤ Z 134 (base + i) := by rw [e134]; exact nI_le (a := 100000) (by omega) (by omega)
        obtain ⟨q0, q1⟩ := hnm Z hZ zk t.2 k2
        by_cases cw : wh = 0
        · refine bX12_worked_42_1 hn hZ (by omega) c0 c1 c2 cw ?_
          rw [e134, ea, en]
          refine qX12_worked_100 (d' := d - 1) (rest := [.int (nI st.length), .ref 142]) hn (by omega) (Nat.le_of_ble_eq_true rfl) (q0 cw) (fun v V hv => ?_)
          obtain ⟨rfl, hV⟩ := hv
          rw [hV]
          refine bX12_worked_103_0 hn hZ (by omega) ?_
          rw [nI_1]
          exact ih (i + 1) (nm t.2 :: st) _ _ htl (by omega) hwf (by rw [List.length_cons]; omega) hS.push (hZ.upA (by decide +kernel)) (fun k hk => by rw [up_ne hk, zk k hk]) he
        · refine bX12_worked_42_2 hn hZ (by omega) c0 c1 c2 cw ?_
          rw [e134, ea, en]
          refine qX12_worked_113 (d' := d - 1) (rest := [.int (nI st.length), .ref 142]) hn (by omega) (Nat.le_of_ble_eq_true rfl) (q1 cw) (fun v V hv => ?_)
          obtain ⟨rfl, hV⟩ := hv
          rw [hV]
          refine bX12_worked_116_0 hn hZ (by omega) ?_
          rw [nI_1]
          exact ih (i + 1) (nm t.2 :: st) _ _ htl (by omega) hwf (by rw [List.length_cons]; omega) hS.push (hZ.upA (by decide +kernel)) (fun k hk => by rw [up_ne hk, zk k hk]) he
      · rw [if_pos k1] at hwf
        obtain ⟨hh, hwf⟩ := hwf
        have ec : mTk t = nI 200009 := by unfold mTk; rw [if_neg (by omega), if_neg (by omega), if_pos k1]
        rw [ec] at e134
        match st, hh, hwf, hst, hS, he with
        | a :: r, _, hwf, hst, hS, he =>
          have et : tok nm t (a :: r) = (if a = 0 then 1 else 0) :: r := by unfold tok; rw [if_neg (by omega), if_neg (by omega), if_pos k1]
          rw [et] at he
          rw [List.length_cons] at hst hwf ⊢
          have h79 : Z 142 r.length = a := hS.1
          have c0 : ¬ Z 134 (base + i) = 300000 := by rw [e134]; decide
          have c1 : 200000 ≤ Z 134 (base + i) := by rw [e134]; decide
          by_cases ca : a = 0
          · rw [if_pos ca] at he
            refine bX12_worked_42_3 (j1 := r.length) hn hZ (by omega) c0 c1 e134 (nI_pred _) (by omega) (by rw [h79]; exact ca) ?_
            rw [en]
            exact ih (i + 1) (1 :: r) _ _ htl (by omega) hwf (by rw [List.length_cons]; omega) hS.2.push (hZ.upA (by decide +kernel)) (fun k hk => by rw [up_ne hk, zk k hk]) he
          · rw [if_neg ca] at he
            refine bX12_worked_42_4 (j1 := r.length) hn hZ (by omega) c0 c1 e134 (nI_pred _) (by omega) (by rw [h79]; exact ca) ?_
            rw [en]
            exact ih (i + 1) (0 :: r) _ _ htl (by omega) hwf (by rw [List.length_cons]; omega) hS.2.push (hZ.upA (by decide +kernel)) (fun k hk => by rw [up_ne hk, zk k hk]) he
      · rw [if_neg (by omega), if_pos k1] at hwf
        obtain ⟨hh, hwf⟩ := hwf
        have ec : mTk t = nI (200000 + t.2) := by unfold mTk; rw [if_neg (by omega), if_neg (by omega), if_neg (by omega)]
        rw [ec] at e134
        have ea : nI (200000 + t.2) - 200000 = nI t.2 := by
          show nI (200000 + t.2) - nI 200000 = _
          rw [pk_sub (by omega), Nat.add_sub_cancel_left]
        have c0 : ¬ Z 134 (base + i) = 300000 := by rw [e134]; exact fun w => by have := (nI_eq (b := 300000) (by omega) (by omega)).mp w; omega
        have c1 : 200000 ≤ Z 134 (base + i) := by rw [e134]; exact nI_le (a := 200000) (by omega) (by omega)
        have c2 : ¬ Z 134 (base + i) = 200009 := by rw [e134]; exact fun w => by have := (nI_eq (b := 200009) (by omega) (by omega)).mp w; omega
        match st, hh, hwf, hst, hS, he with
        | b :: a :: r, _, hwf, hst, hS, he =>
          have et : tok nm t (b :: a :: r) = jn t.2 a b :: r := by unfold tok; rw [if_neg (by omega), if_neg (by omega), if_neg (by omega)]
          rw [et] at he
          simp only [List.length_cons] at hst hwf ⊢
          have h2 : Z 142 (r.length + 1) = b := hS.1
          have h1 : Z 142 r.length = a := hS.2.1
          have e1 : nI (r.length + 1 + 1) + (-1) = nI (r.length + 1) := pk_m1 _
          have e2 : nI (r.length + 1 + 1) + (-1) - 1 = nI r.length := by rw [e1]; exact nI_pred _
          refine bX12_worked_42_5 (j1 := r.length) (j2 := r.length + 1) hn hZ (by omega) c0 c1 c2 e2 (by omega) e1 (by omega) ?_
          rw [e2, e1, e134, ea, h1, h2, en]
          refine qX12_worked_191 (d' := d - 1) (rest := [.int (nI r.length), .ref 142]) hn (by omega) (Nat.le_of_ble_eq_true rfl) (k_done hn hZ k2) (fun v V hv => ?_)
          obtain ⟨rfl, hV⟩ := hv
          rw [hV]
          refine bX12_worked_194_0 hn hZ (by omega) ?_
          exact ih (i + 1) (jn t.2 a b :: r) _ _ htl (by omega) (by rw [show r.length + 1 + 1 - 1 = r.length + 1 by omega] at hwf; exact hwf) (by rw [List.length_cons]; omega) hS.2.2.push (hZ.upA (by decide +kernel)) (fun k hk => by rw [up_ne hk, zk k hk]) he
  exact loop l 0 [] X none rfl (by omega) hw (Nat.le_refl _) trivial hX (fun _ _ => rfl) rfl
/-- a token is never the end -/
theorem mTk_ne {N : Nat} {t : Nat × Nat} (hN : N ≤ 5) (h : okTk N t) : ¬ mTk t = 300000 := by
  have hx : ∀ v, v < 300000 → ¬ nI v = 300000 := fun v hv w => by
    have := (nI_eq (b := 300000) (by omega) (by omega)).mp w
    omega
  unfold mTk
  rcases h with ⟨k1, k2⟩ | ⟨k1, k2⟩ | k1 | ⟨k1, k2⟩
  · rw [if_pos k1]; exact hx _ (by omega)
  · rw [if_neg (by omega), if_pos k1]; exact hx _ (by omega)
  · rw [if_neg (by omega), if_neg (by omega), if_pos k1]; exact hx _ (by omega)
  · rw [if_neg (by omega), if_neg (by omega), if_neg (by omega)]; exact hx _ (by omega)
theorem wf_ok {N : Nat} : ∀ {l : List (Nat × Nat)} {h : Nat}, wf N l h → ∀ t, t ∈ l → okTk N t
  | [], _, _, t, ht => by cases ht
  | e :: l, h, hw, t, ht => by
    rw [wf_s] at hw
    obtain ⟨h1, h2⟩ := hw
    rcases List.mem_cons.mp ht with q | q
    · rw [q]; exact h1
    · by_cases c2 : e.1 = 2
      · rw [if_pos c2] at h2; exact wf_ok h2.2 t q
      · rw [if_neg c2] at h2
        by_cases c3 : e.1 = 3
        · rw [if_pos c3] at h2; exact wf_ok h2.2 t q
        · rw [if_neg c3] at h2; exact wf_ok h2 t q
end WORKED
