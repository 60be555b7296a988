/-! LAW, 17: the whole tape, by numbers. -/
def nmA (c : Nat) : Option Nat := if c = 103 then some 0 else if c = 110 then some 1 else if c = 97 then some 2 else if c = 107 then some 3 else if c = 99 then some 4 else none
def nmB (c : Nat) : Option Nat := if c = 103 then some 0 else if c = 109 then some 1 else if c = 104 then some 2 else if c = 114 then some 3 else none
theorem nmA_tx : ∀ c, c < 256 → txO 0 c = oI (nmA c) := by decide +kernel
theorem nmB_tx : ∀ c, c < 256 → txO 10 c = oI (nmB c) := by decide +kernel
theorem if_some {P : Prop} [Decidable P] {a j : Nat} {o : Option Nat} (w : (if P then some a else o) = some j) : a = j ∨ o = some j := by
  by_cases c : P
  · rw [if_pos c] at w; exact Or.inl (Option.some.inj w)
  · rw [if_neg c] at w; exact Or.inr w
theorem nmA_lt : ∀ c j, nmA c = some j → j < 5 := fun c j h => by
  unfold nmA at h
  rcases if_some h with w | w
  · omega
  · rcases if_some w with w | w
    · omega
    · rcases if_some w with w | w
      · omega
      · rcases if_some w with w | w
        · omega
        · rcases if_some w with w | w
          · omega
          · cases w
theorem nmB_lt : ∀ c j, nmB c = some j → j < 4 := fun c j h => by
  unfold nmB at h
  rcases if_some h with w | w
  · omega
  · rcases if_some w with w | w
    · omega
    · rcases if_some w with w | w
      · omega
      · rcases if_some w with w | w
        · omega
        · cases w
def wA (i : Nat) : Nat := [109, 97, 114, 107].getD i 0
def wI (i : Nat) : Nat := [105, 99, 101].getD i 0
theorem wA_tx : ∀ i, i < 4 → txC 1 i = nI (wA i) ∧ wA i ≤ 255 := by decide +kernel
theorem wI_tx : ∀ i, i < 3 → txC 11 i = nI (wI i) ∧ wI i ≤ 255 := by decide +kernel
def rs (σ : RdS) : RdS := (σ.1, σ.2.1, σ.2.2.1, σ.2.2.2.1, [], σ.2.2.2.2.2)
def lz0 (tb : Nat → Nat) (L : Nat) : RdS := stp tb L (0, 0, 0, false, [], 0)
def lz1 (tb : Nat → Nat) (L : Nat) : RdS := wrd tb L 4 wA (lz0 tb L)
def lz2 (tb : Nat → Nat) (L : Nat) : RdS := pm tb L nmA 1000 false 0 0 0 (lz1 tb L)
def lz3 (tb : Nat → Nat) (L : Nat) : RdS := wrd tb L 3 wI (rs (lz2 tb L))
def lz4 (tb : Nat → Nat) (L : Nat) : RdS := pm tb L nmB 1000 false 0 0 0 (lz3 tb L)
section LZP
variable {tb : Nat → Nat} {L m : Nat} {w : Nat → Nat} {σ : RdS}
theorem lwK_30 : lwK tb L 3 0 = lwK tb L 0 0 := by
  unfold lwK
  rw [if_neg (fun z => by omega), if_neg (fun z => by omega)]
theorem wrd_ok (hO : OkS tb L σ) : OkS tb L (wrd tb L m w σ) ∧ σ.2.1 ≤ (wrd tb L m w σ).2.1 ∧ (wrd tb L m w σ).2.2.2.2.1 = σ.2.2.2.2.1 ∧ ((wrd tb L m w σ).2.2.2.1 = false → σ.2.2.2.1 = false ∧ σ.2.1 + m ≤ (wrd tb L m w σ).2.1) := by
  unfold wrd
  by_cases c : σ.2.2.2.1 = false ∧ wrdP tb m w σ
  · rw [if_pos c]
    obtain ⟨a1, a2⟩ := stp_ok (tb := tb) (L := L) (σ := σ) hO.le
    obtain ⟨o1, o2, o3⟩ := hO.i (by have := c.2.1; omega)
    have := c.2.2.1
    exact ⟨a1, by omega, rfl, fun _ => ⟨c.1, by omega⟩⟩
  · rw [if_neg c]
    exact ⟨hO.fl, Nat.le_refl _, rfl, fun z => absurd z.symm Bool.false_ne_true⟩
theorem lz_ok (hL : L ≤ 120) : OkS tb L (lz0 tb L) ∧ OkS tb L (lz1 tb L) ∧ OkS tb L (lz2 tb L) ∧ OkS tb L (lz3 tb L) ∧ OkS tb L (lz4 tb L) := by
  have o0 : OkS tb L (lz0 tb L) := (stp_ok (by show 0 ≤ L; omega)).1
  have o1 : OkS tb L (lz1 tb L) := (wrd_ok o0).1
  have o2 : OkS tb L (lz2 tb L) := (pm_ok nmA_lt 1000 false 0 0 0 (lz1 tb L) o1 (fun _ => ⟨by omega, by omega⟩) (fun z => absurd z Bool.false_ne_true)).1
  have o3 : OkS tb L (lz3 tb L) := (wrd_ok (σ := rs (lz2 tb L)) o2).1
  exact ⟨o0, o1, o2, o3, (pm_ok nmB_lt 1000 false 0 0 0 (lz3 tb L) o3 (fun _ => ⟨by omega, by omega⟩) (fun z => absurd z Bool.false_ne_true)).1⟩
theorem lz_12 (hL : L ≤ 120) : (lz0 tb L).2.2.2.2.1 = [] ∧ (lz1 tb L).2.2.2.2.1 = [] ∧ ((lz2 tb L).2.2.2.1 = false → (lz2 tb L).2.2.2.2.1.length + 4 ≤ (lz2 tb L).2.1 ∧ wf 5 (lz2 tb L).2.2.2.2.1 0) := by
  obtain ⟨o0, o1, -, -, -⟩ := lz_ok (tb := tb) hL
  obtain ⟨-, w2, w3, w4⟩ := wrd_ok (m := 4) (w := wA) o0
  have e1 : (lz1 tb L).2.2.2.2.1 = [] := w3
  refine ⟨rfl, e1, fun hf => ?_⟩
  obtain ⟨-, p2, p3⟩ := pm_ok nmA_lt 1000 false 0 0 0 (lz1 tb L) o1 (fun _ => ⟨by omega, by omega⟩) (fun z => absurd z Bool.false_ne_true)
  obtain ⟨f1, U, u1, u2, u3⟩ := p3 hf
  have h4 := (w4 f1).2
  rw [e1, List.nil_append] at u1
  have u1' : (lz2 tb L).2.2.2.2.1 = U := u1
  have u2' : U.length + (lz1 tb L).2.1 ≤ (lz2 tb L).2.1 := u2
  have h4' : (lz0 tb L).2.1 + 4 ≤ (lz1 tb L).2.1 := h4
  refine ⟨by rw [u1']; omega, ?_⟩
  have := u3 [] 0 rfl
  rw [List.append_nil] at this
  rw [u1']
  exact this
theorem lz_34 (hL : L ≤ 120) : (lz3 tb L).2.2.2.2.1 = [] ∧ ((lz3 tb L).2.2.2.1 = false → (lz2 tb L).2.2.2.1 = false ∧ (lz2 tb L).2.2.2.2.1.length + 7 ≤ (lz3 tb L).2.1) ∧ ((lz4 tb L).2.2.2.1 = false → (lz3 tb L).2.2.2.1 = false ∧ (lz2 tb L).2.2.2.2.1.length + (lz4 tb L).2.2.2.2.1.length + 7 ≤ 120 ∧ wf 4 (lz4 tb L).2.2.2.2.1 0) := by
  obtain ⟨-, -, o2, o3, o4⟩ := lz_ok (tb := tb) hL
  obtain ⟨-, -, h12⟩ := lz_12 (tb := tb) hL
  obtain ⟨-, w2, w3, w4⟩ := wrd_ok (m := 3) (w := wI) (σ := rs (lz2 tb L)) o2
  have e3 : (lz3 tb L).2.2.2.2.1 = [] := w3
  have hb : (lz3 tb L).2.2.2.1 = false → (lz2 tb L).2.2.2.1 = false ∧ (lz2 tb L).2.2.2.2.1.length + 7 ≤ (lz3 tb L).2.1 := fun hf => by
    obtain ⟨f2, h3⟩ := w4 hf
    have f2' : (lz2 tb L).2.2.2.1 = false := f2
    have h3' : (lz2 tb L).2.1 + 3 ≤ (lz3 tb L).2.1 := h3
    have := (h12 f2').1
    exact ⟨f2', by omega⟩
  refine ⟨e3, hb, fun hf => ?_⟩
  obtain ⟨-, p2, p3⟩ := pm_ok nmB_lt 1000 false 0 0 0 (lz3 tb L) o3 (fun _ => ⟨by omega, by omega⟩) (fun z => absurd z Bool.false_ne_true)
  obtain ⟨f3, U, u1, u2, u3⟩ := p3 hf
  rw [e3, List.nil_append] at u1
  have u1' : (lz4 tb L).2.2.2.2.1 = U := u1
  have u2' : U.length + (lz3 tb L).2.1 ≤ (lz4 tb L).2.1 := u2
  have h7 := (hb f3).2
  have h4 := o4.1
  refine ⟨f3, by rw [u1']; omega, ?_⟩
  have := u3 [] 0 rfl
  rw [List.append_nil] at this
  rw [u1']
  exact this
theorem hz_1 (hL : L ≤ 120) : HZ 0 0 (lz1 tb L) := fun _ => by
  rw [(lz_12 (tb := tb) hL).2.1]
  exact Nat.zero_le _
theorem hz_3 (hL : L ≤ 120) {e : Nat} (he : e ≤ 7) : HZ ((lz2 tb L).2.2.2.2.1.length + e) 0 (lz3 tb L) := fun hf => by
  have := ((lz_34 (tb := tb) hL).2.1 hf).2
  rw [(lz_34 (tb := tb) hL).1, List.length_nil]
  omega
end LZP
