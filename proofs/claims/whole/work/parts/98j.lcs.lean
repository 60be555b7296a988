/-! LAW, 11: the class's reader against the state: its small methods. -/
def TP (X : LX) (tb : Nat → Nat) (L : Nat) : Prop := L ≤ 120 ∧ ∀ i, i < 120 → X 82 i = nI (tb i) ∧ X 136 i = nI (tb i) ∧ tb i ≤ 255
def oI : Option Nat → Int32
  | some j => nI j
  | none => -1
def CS (n : Nat) (X : LX) (L t : Nat) (sp : Int32) (pr : List (Nat × Nat)) (σ : RdS) (Z : LX) : Prop := Sh n Z ∧ (∀ k, k ≠ 81 → k ≠ 83 → Z k = X k) ∧ (Z 81 1 = nI L ∧ Z 81 4 = sp ∧ Z 81 7 = rE (1000 + t)) ∧ (Z 81 8 = nI σ.1 ∧ Z 81 9 = nI σ.2.1 ∧ Z 81 10 = nI σ.2.2.1) ∧ (σ.2.2.2.1 = false → Z 81 6 = -1 ∧ Z 81 3 = nI (pr.length + σ.2.2.2.2.1.length) ∧ Z 81 5 = nI σ.2.2.2.2.2 ∧ ∀ i t, (pr ++ σ.2.2.2.2.1)[i]? = some t → Z 83 i = cTk t) ∧ (σ.2.2.2.1 = true → Z 81 6 = nI σ.2.1 ∧ ∃ z, z ≤ 120 ∧ Z 81 3 = nI z)
def csQ (n : Nat) (X : LX) (L t : Nat) (sp : Int32) (pr : List (Nat × Nat)) (σ : RdS) : Option Value → LX → Prop := fun v Z => v = none ∧ CS n X L t sp pr σ Z
theorem ap_get {l : List (Nat × Nat)} {t t' : Nat × Nat} {i : Nat} (h : (l ++ [t])[i]? = some t') : (i < l.length ∧ l[i]? = some t') ∨ (i = l.length ∧ t' = t) := by
  rcases Nat.lt_or_ge i l.length with c | c
  · rw [List.getElem?_append_left c] at h
    exact Or.inl ⟨c, h⟩
  · rw [List.getElem?_append_right c] at h
    have hi := get_lt h
    rw [List.length_singleton] at hi
    have e : i = l.length := by omega
    subst e
    rw [Nat.sub_self] at h
    exact Or.inr ⟨rfl, (Option.some.inj h).symm⟩
theorem ch_nI : ∀ c, c < 256 → ((nI c).toUInt32 % 65536).toInt32 = nI c := by decide +kernel
section LCS
variable {g : GG} {d n : Nat} {X Z : LX} {tb : Nat → Nat} {L t : Nat} {sp : Int32} {pr : List (Nat × Nat)} {σ : RdS} {nm : Nat → Option Nat}
theorem OkS.k4 (h : OkS tb L σ) : σ.1 ≤ 4 := by
  rcases h.2.1 with w | w
  · omega
  · omega
theorem OkS.i (h : OkS tb L σ) (hk : ¬ σ.1 = 0) : σ.2.1 < L ∧ σ.2.1 < σ.2.2.1 ∧ σ.2.2.1 ≤ L := by
  rcases h.2.1 with w | w
  · omega
  · exact ⟨w.2.2.1, w.2.2.2.1, w.2.2.2.2⟩
theorem CS.b (h : CS n X L t sp pr σ Z) (hT : TP X tb L) : ∀ i, i < 120 → Z 82 i = nI (tb i) ∧ tb i ≤ 255 := fun i hi => by
  rw [h.2.1 82 (by omega) (by omega)]
  exact ⟨(hT.2 i hi).1, (hT.2 i hi).2.2⟩
theorem c_stepS (hd : 1 ≤ d) (hn : 146 ≤ n) (hT : TP X tb L) (hO : OkS tb L σ) (hf : σ.2.2.2.1 = false) (h : CS n X L t sp pr σ Z) : Ex g mX3_step d n n [.ref 81] Z (csQ n X L t sp pr (stp tb L σ)) := by
  refine Ex.mono (c_step hd hn h.1 hT.1 (h.b hT) h.2.2.1.1 h.2.2.2.1.1 hO.k4 h.2.2.2.1.2.2 hO.le) (fun v W hv => ⟨hv.1, ?_⟩)
  obtain ⟨h1, h2, ⟨h3, h4, h5⟩, -, h6, -⟩ := h
  obtain ⟨f1, f2, f3, f4⟩ := h6 hf
  obtain ⟨-, w1, w2, w3, w8, w9, w10⟩ := hv
  exact ⟨w1, fun k a b => (w2 k a).trans (h2 k a b), ⟨by rw [w3 1 (by omega) (by omega) (by omega)]; exact h3, by rw [w3 4 (by omega) (by omega) (by omega)]; exact h4, by rw [w3 7 (by omega) (by omega) (by omega)]; exact h5⟩, ⟨w8, w9, w10⟩, fun _ => ⟨by rw [w3 6 (by omega) (by omega) (by omega)]; exact f1, by rw [w3 3 (by omega) (by omega) (by omega)]; exact f2, by rw [w3 5 (by omega) (by omega) (by omega)]; exact f3, fun i t hi => by rw [w2 83 (by omega)]; exact f4 i t hi⟩, fun z => absurd (hf.symm.trans z) Bool.false_ne_true⟩
theorem c_fail (hn : 146 ≤ n) (hs : σ.2.1 ≤ 120) (hz : σ.2.2.2.1 = false → pr.length + σ.2.2.2.2.1.length ≤ 120) (h : CS n X L t sp pr σ Z) : Ex g mX3_fail d n n [.ref 81] Z (csQ n X L t sp pr (fl σ)) := by
  refine e_of vX3_fail (Nat.le_of_ble_eq_true rfl) (cat_of rfl) ?_
  obtain ⟨h1, h2, ⟨h3, h4, h5⟩, ⟨k1, k2, k3⟩, h6, h7⟩ := h
  by_cases f : σ.2.2.2.1 = true
  · obtain ⟨a1, a2⟩ := h7 f
    exact bX3_fail_0_1 hn h1 (by rw [a1]; exact nI_pos' (by omega)) ⟨rfl, h1, h2, ⟨h3, h4, h5⟩, ⟨k1, k2, k3⟩, fun z => absurd z.symm Bool.false_ne_true, fun _ => ⟨a1, a2⟩⟩
  · obtain ⟨a1, a2, -⟩ := h6 (bf f)
    exact bX3_fail_0_0 hn h1 (by rw [a1]; decide) ⟨rfl, h1.upF (by decide +kernel) (by decide +kernel), fun k a b => by rw [up_ne a]; exact h2 k a b, ⟨by rw [up_at (by omega)]; exact h3, by rw [up_at (by omega)]; exact h4, by rw [up_at (by omega)]; exact h5⟩, ⟨by rw [up_at (by omega)]; exact k1, by rw [up_at (by omega)]; exact k2, by rw [up_at (by omega)]; exact k3⟩, fun z => absurd z.symm Bool.false_ne_true, fun _ => ⟨by rw [up_it]; exact k2, _, hz (bf f), by rw [up_at (by omega)]; exact a2⟩⟩
theorem c_put {tk : Nat × Nat} (hn : 146 ≤ n) (hz : σ.2.2.2.1 = false → pr.length + σ.2.2.2.2.1.length < 120) (h : CS n X L t sp pr σ Z) : Ex g mX3_put d n n [.ref 81, .int (cTk tk)] Z (csQ n X L t sp pr (pt σ tk)) := by
  refine e_of vX3_put (Nat.le_of_ble_eq_true rfl) (cat_of rfl) ?_
  obtain ⟨h1, h2, ⟨h3, h4, h5⟩, ⟨k1, k2, k3⟩, h6, h7⟩ := h
  by_cases f : σ.2.2.2.1 = true
  · obtain ⟨a1, z, a2, a3⟩ := h7 f
    rw [pt_t f]
    by_cases c : z < 120
    · refine bX3_put_0_0 hn h1 (by rw [a3]; exact show ¬ nI 120 ≤ nI _ from nI_ge (by omega) (by omega)) a3 c ⟨rfl, (h1.upF (by decide +kernel) (by decide +kernel)).upA (by decide +kernel), fun k a b => by rw [up_ne b, up_ne a]; exact h2 k a b, ⟨by rw [up_ne (by omega), up_at (by omega)]; exact h3, by rw [up_ne (by omega), up_at (by omega)]; exact h4, by rw [up_ne (by omega), up_at (by omega)]; exact h5⟩, ⟨by rw [up_ne (by omega), up_at (by omega)]; exact k1, by rw [up_ne (by omega), up_at (by omega)]; exact k2, by rw [up_ne (by omega), up_at (by omega)]; exact k3⟩, fun w => absurd (f.symm.trans w).symm Bool.false_ne_true, fun _ => ⟨by rw [up_ne (by omega), up_at (by omega)]; exact a1, z + 1, by omega, by rw [up_ne (by omega), up_it, a3, nI_1]⟩⟩
    · exact bX3_put_0_1 hn h1 (by rw [a3]; exact nI_le (a := 120) (by omega) (by omega)) ⟨rfl, h1, h2, ⟨h3, h4, h5⟩, ⟨k1, k2, k3⟩, h6, fun _ => ⟨a1, z, a2, a3⟩⟩
  · have hf := bf f
    obtain ⟨a1, a2, a3, a4⟩ := h6 hf
    have hz := hz hf
    rw [pt_T hf]
    refine bX3_put_0_0 hn h1 (by rw [a2]; exact show ¬ nI 120 ≤ nI _ from nI_ge (by omega) (by omega)) a2 hz ⟨rfl, (h1.upF (by decide +kernel) (by decide +kernel)).upA (by decide +kernel), fun k a b => by rw [up_ne b, up_ne a]; exact h2 k a b, ⟨by rw [up_ne (by omega), up_at (by omega)]; exact h3, by rw [up_ne (by omega), up_at (by omega)]; exact h4, by rw [up_ne (by omega), up_at (by omega)]; exact h5⟩, ⟨by rw [up_ne (by omega), up_at (by omega)]; exact k1, by rw [up_ne (by omega), up_at (by omega)]; exact k2, by rw [up_ne (by omega), up_at (by omega)]; exact k3⟩, fun w => ⟨by rw [up_ne (by omega), up_at (by omega)]; exact a1, ?_, by rw [up_ne (by omega), up_at (by omega)]; exact a3, fun i t' hi => ?_⟩, fun w => absurd w f⟩
    · rw [up_ne (by omega), up_it, a2, nI_1]
      show _ = nI (pr.length + (σ.2.2.2.2.1 ++ [tk]).length)
      rw [List.length_append, List.length_singleton, Nat.add_assoc]
    · have hi : (pr ++ (σ.2.2.2.2.1 ++ [tk]))[i]? = some t' := hi
      rw [← List.append_assoc] at hi
      rcases ap_get hi with ⟨q1, q2⟩ | ⟨q1, q2⟩
      · rw [List.length_append] at q1
        rw [up_at (by omega), up_ne (by omega)]
        exact a4 i t' q2
      · rw [List.length_append] at q1
        rw [q1, up_it, q2]
theorem c_putValue {tk : Nat × Nat} (hd : 2 ≤ d) (hn : 146 ≤ n) (hT : TP X tb L) (hO : OkS tb L σ) (hf : σ.2.2.2.1 = false) (hz : pr.length + σ.2.2.2.2.1.length < 120) (h : CS n X L t sp pr σ Z) : Ex g mX3_putValue d n n [.ref 81, .int (cTk tk)] Z (csQ n X L t sp pr (stp tb L (pv σ tk))) := by
  refine e_of vX3_putValue (Nat.le_of_ble_eq_true rfl) (cat_of rfl) (bX3_putValue_0_0 hn h.1 (qX3_putValue_2 (d' := d - 1) (rest := []) hn (by omega) (by decide) (c_put hn (fun _ => hz) h) (fun v W hv => ?_)))
  obtain ⟨rfl, hW⟩ := hv
  rw [pt_T hf] at hW
  obtain ⟨h1, h2, ⟨h3, h4, h5⟩, ⟨k1, k2, k3⟩, h6, h7⟩ := hW
  obtain ⟨a1, a2, a3, a4⟩ := h6 hf
  refine bX3_putValue_5_0 hn h1 (qX3_putValue_16 (d' := d - 1) (rest := []) hn (by omega) (by decide) (c_stepS (X := X) (L := L) (t := t) (sp := sp) (pr := pr) (σ := pv σ tk) (by omega) hn hT hO hf ⟨h1.upF (by decide +kernel) (by decide +kernel), fun k a b => by rw [up_ne a]; exact h2 k a b, ⟨by rw [up_at (by omega)]; exact h3, by rw [up_at (by omega)]; exact h4, by rw [up_at (by omega)]; exact h5⟩, ⟨by rw [up_at (by omega)]; exact k1, by rw [up_at (by omega)]; exact k2, by rw [up_at (by omega)]; exact k3⟩, fun _ => ⟨by rw [up_at (by omega)]; exact a1, by rw [up_at (by omega)]; exact a2, ?_, fun i t' hi => by rw [up_ne (by omega)]; exact a4 i t' hi⟩, fun w => absurd (hf.symm.trans w) Bool.false_ne_true⟩) (fun v W hv => ?_))
  · rw [up_it, a3]
    exact nI_1 _
  · obtain ⟨rfl, hW⟩ := hv
    exact bX3_putValue_19_0 hn hW.1 ⟨rfl, hW⟩
theorem c_isSignOf {t' : Nat} (hd : 6 ≤ d) (hn : 146 ≤ n) (hT : TP X tb L) (hO : OkS tb L σ) (ht : t' < 14) (h : CS n X L t sp pr σ Z) : Ex g mX3_isSignOf d n n [.ref 81, .ref (1000 + t')] Z (rt (if (σ.2.2.2.1 = false ∧ σ.1 = 3) ∧ ¬ txO t' (tb σ.2.1) < 0 then 1 else 0) Z) := by
  refine e_of vX3_isSignOf (Nat.le_of_ble_eq_true rfl) (cat_of rfl) ?_
  have hL := hT.1
  obtain ⟨h1, h2, ⟨h3, h4, h5⟩, ⟨k1, k2, k3⟩, h6, h7⟩ := id h
  by_cases f : σ.2.2.2.1 = true
  · rw [if_neg (fun w => absurd (w.1.1.symm.trans f) Bool.false_ne_true)]
    have := hO.1
    exact bX3_isSignOf_0_2 hn h1 ht (by rw [(h7 f).1]; exact nI_pos' (by omega)) ⟨rfl, rfl⟩
  · have hf := bf f
    have c0 : ¬ 0 ≤ Z 81 6 := by rw [(h6 hf).1]; decide
    have i3 : (Z 81 8 = 3) ↔ σ.1 = 3 := by rw [k1]; exact nI_eq (b := 3) (by have := hO.k4; omega) (by omega)
    by_cases c : σ.1 = 3
    · obtain ⟨o1, o2, o3⟩ := hO.i (by omega)
      obtain ⟨b1, b2⟩ := h.b hT σ.2.1 (by omega)
      refine bX3_isSignOf_0_0 hn h1 ht c0 (i3.mpr c) k2 (by omega) ?_
      rw [b1, ch_nI _ (by omega)]
      refine qX3_isSignOf_26 (d' := d - 1) (rest := []) ht hn (by omega) (by decide) (k_indexOf (by omega) hn h1 ht b2) (fun v W hv => ?_)
      obtain ⟨rfl, rfl⟩ := hv
      by_cases e : txO t' (tb σ.2.1) < 0
      · rw [if_neg (fun w => w.2 e)]
        exact bX3_isSignOf_29_1 hn h1 ht e ⟨rfl, rfl⟩
      · rw [if_pos ⟨⟨hf, c⟩, e⟩]
        exact bX3_isSignOf_29_0 hn h1 ht e ⟨rfl, rfl⟩
    · rw [if_neg (fun w => c w.1.2)]
      exact bX3_isSignOf_0_1 hn h1 ht c0 (fun w => c (i3.mp w)) ⟨rfl, rfl⟩
theorem c_slot (hd : 6 ≤ d) (hn : 146 ≤ n) (hT : TP X tb L) (hO : OkS tb L σ) (ht : t < 14) (htx : ∀ c, c ≤ 255 → txO t c = oI (nm c)) (h : CS n X L t sp pr σ Z) : Ex g mX3_slotOfName d n n [.ref 81] Z (rt (oI (lwN tb nm σ)) Z) := by
  refine e_of vX3_slotOfName (Nat.le_of_ble_eq_true rfl) (cat_of rfl) ?_
  have hL := hT.1
  obtain ⟨h1, h2, ⟨h3, h4, h5⟩, ⟨k1, k2, k3⟩, -, -⟩ := id h
  have i1 : (Z 81 8 = 1) ↔ σ.1 = 1 := by rw [k1]; exact nI_eq (b := 1) (by have := hO.k4; omega) (by omega)
  unfold lwN
  by_cases c : σ.1 = 1
  · obtain ⟨o1, o2, o3⟩ := hO.i (by omega)
    have i2 : (Z 81 10 - Z 81 9 = 1) ↔ σ.2.2.1 - σ.2.1 = 1 := by
      rw [k3, k2, pk_sub (by omega)]
      exact nI_eq (b := 1) (by omega) (by omega)
    by_cases e : σ.2.2.1 - σ.2.1 = 1
    · obtain ⟨b1, b2⟩ := h.b hT σ.2.1 (by omega)
      rw [if_pos ⟨c, e⟩]
      refine bX3_slotOfName_0_0 hn h1 (i1.mpr c) (i2.mpr e) ht h5 k2 (by omega) ?_
      rw [b1, ch_nI _ (by omega)]
      refine qX3_slotOfName_35 (d' := d - 1) (rest := []) ht hn (by omega) (by decide) (k_indexOf (by omega) hn h1 ht b2) (fun v W hv => ?_)
      obtain ⟨rfl, rfl⟩ := hv
      rw [htx _ b2]
      exact bX3_slotOfName_38_0 hn h1 ⟨rfl, rfl⟩
    · rw [if_neg (fun w => e w.2)]
      exact bX3_slotOfName_0_1 hn h1 (i1.mpr c) (fun w => e (i2.mp w)) ⟨rfl, rfl⟩
  · rw [if_neg (fun w => c w.1)]
    exact bX3_slotOfName_0_2 hn h1 (fun w => c (i1.mp w)) ⟨rfl, rfl⟩
theorem dig_nI {a c : Nat} (h : 48 ≤ c) : nI a * 10 + nI c - 48 = nI (a * 10 + (c - 48)) := by
  have e : nI a * nI 10 + nI c - nI 48 = nI (a * 10 + (c - 48)) := by
    rw [pk_mul, nI_add, pk_sub (by omega)]
    congr 1
    omega
  exact e
theorem c_number (hn : 146 ≤ n) (hT : TP X tb L) (hO : OkS tb L σ) (hk : σ.1 = 2) (h : CS n X L t sp pr σ Z) : Ex g mX3_number d n n [.ref 81] Z (rt (nI (nmb tb σ.2.1 (σ.2.2.1 - σ.2.1))) Z) := by
  have hL := hT.1
  obtain ⟨o1, o2, o3⟩ := hO.i (by omega)
  obtain ⟨-, hD⟩ := hO.2.2 hk
  obtain ⟨h1, -, -, ⟨k1, k2, k3⟩, -, -⟩ := id h
  refine e_of vX3_number (Nat.le_of_ble_eq_true rfl) (cat_of rfl) (bX3_number_0_0 hn h1 ?_)
  have loop : ∀ i, i ≤ σ.2.2.1 - σ.2.1 → Ev g mX3_number d n n (rt (nI (nmb tb σ.2.1 (σ.2.2.1 - σ.2.1))) Z) n 7 [some (.ref 81), some (.int (nI (nmb tb σ.2.1 i))), some (.int (nI (σ.2.1 + i)))] [] Z := by
    refine down ?_ ?_
    · exact bX3_number_7_1 hn h1 (by rw [k3]; exact nI_le (by omega) (by omega)) ⟨rfl, rfl⟩
    · intro i hi k
      refine bX3_number_7_0 hn h1 (by rw [k3]; exact nI_ge (by omega) (by omega)) (by omega) ?_
      obtain ⟨b1, b2⟩ := h.b hT (σ.2.1 + i) (by omega)
      rw [b1, dig_nI (hD (σ.2.1 + i) (by omega) (by omega)).1, nI_1]
      exact k
  have := loop 0 (by omega)
  rw [Nat.add_zero, ← k2] at this
  exact this
theorem c_signsOf {lev : Nat} (hn : 146 ≤ n) (hZ : Sh n Z) (hl : lev < 5) : Ex g mX3_signsOf d n n [.int (nI lev)] Z (rr (1000 + (5 + lev)) Z) := by
  refine e_of vX3_signsOf (Nat.le_of_ble_eq_true rfl) (cat_of rfl) ?_
  rcases (show lev = 0 ∨ lev = 1 ∨ lev = 2 ∨ lev = 3 ∨ lev = 4 by omega) with rfl | rfl | rfl | rfl | rfl
  · exact bX3_signsOf_0_1 hn hZ rfl ⟨rfl, rfl⟩
  · exact bX3_signsOf_0_2 hn hZ rfl ⟨rfl, rfl⟩
  · exact bX3_signsOf_0_3 hn hZ rfl ⟨rfl, rfl⟩
  · exact bX3_signsOf_0_4 hn hZ rfl ⟨rfl, rfl⟩
  · exact bX3_signsOf_0_0 hn hZ (by decide +kernel) ⟨rfl, rfl⟩
end LCS
