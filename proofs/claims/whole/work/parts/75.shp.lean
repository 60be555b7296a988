/-! SHIFTS, 1: the search once, by numbers, and what it finds. -/
def nsum (a : Nat → Nat) : Nat → Nat
  | 0 => 0
  | N + 1 => nsum a N + a N
theorem sum_nI {F : Nat → Int32} {a : Nat → Nat} : ∀ {N : Nat}, (∀ f, f < N → F f = nI (a f)) → sumTo F N = nI (nsum a N)
  | 0, _ => rfl
  | N + 1, h => by
    show sumTo F N + F N = nI (nsum a N + a N)
    rw [sum_nI (fun f hf => h f (Nat.lt_succ_of_lt hf)), h N (Nat.lt_succ_self N), nI_add]
theorem nsum_le {a : Nat → Nat} {b : Nat} : ∀ {N : Nat}, (∀ f, f < N → a f ≤ b) → nsum a N ≤ N * b
  | 0, _ => Nat.zero_le _
  | N + 1, h => by
    show nsum a N + a N ≤ (N + 1) * b
    have h1 := nsum_le (fun f hf => h f (Nat.lt_succ_of_lt hf))
    have h2 := h N (Nat.lt_succ_self N)
    rw [Nat.succ_mul]
    omega
theorem nsum_cg {a b : Nat → Nat} : ∀ {N : Nat}, (∀ f, f < N → a f = b f) → nsum a N = nsum b N
  | 0, _ => rfl
  | N + 1, h => by
    show nsum a N + a N = nsum b N + b N
    rw [nsum_cg (fun f hf => h f (Nat.lt_succ_of_lt hf)), h N (Nat.lt_succ_self N)]
/-- the highest load when a family's picks come to a shift -/
def mxs (m : Nat) (l p : Nat → Nat) : Nat → Nat
  | 0 => m
  | i + 1 => max (mxs m l p i) (l i + p i)
theorem mxs_s (m : Nat) (l p : Nat → Nat) (i : Nat) : mxs m l p (i + 1) = max (mxs m l p i) (l i + p i) := rfl
theorem mxs_le {m : Nat} {l p : Nat → Nat} {v : Nat} : ∀ {i : Nat}, mxs m l p i ≤ v ↔ m ≤ v ∧ ∀ s, s < i → l s + p s ≤ v
  | 0 => ⟨fun h => ⟨h, fun s hs => absurd hs (Nat.not_lt_zero _)⟩, fun h => h.1⟩
  | i + 1 => by
    rw [mxs_s, Nat.max_le, mxs_le]
    constructor
    · rintro ⟨⟨h1, h2⟩, h3⟩
      refine ⟨h1, fun s hs => ?_⟩
      rcases Nat.lt_succ_iff_lt_or_eq.mp hs with q | q
      · exact h2 s q
      · subst q; exact h3
    · rintro ⟨h1, h2⟩
      exact ⟨⟨h1, fun s hs => h2 s (Nat.lt_succ_of_lt hs)⟩, h2 i (Nat.lt_succ_self i)⟩
def ldU (ld : Nat → Nat → Nat) (sh : Nat) (p : Nat → Nat) : Nat → Nat → Nat := fun q s => ld q s + if q = sh then p s else 0
def shS (pk : Nat → Nat → Nat) : Nat → Nat → Nat → (Nat → Nat → Nat) → Nat × Nat → Nat × Nat
  | 0, L, m, _, b => if b.1 ≤ m then b else (m, L)
  | k + 1, L, m, ld, b => if b.1 ≤ m then b else shS pk k (L + 2 ^ k) (mxs m (ld 1) (pk k) 4) (ldU ld 1 (pk k)) (shS pk k L (mxs m (ld 0) (pk k) 4) (ldU ld 0 (pk k)) b)
theorem shS_0 (pk : Nat → Nat → Nat) (L m : Nat) (ld : Nat → Nat → Nat) (b : Nat × Nat) : shS pk 0 L m ld b = if b.1 ≤ m then b else (m, L) := rfl
theorem shS_s (pk : Nat → Nat → Nat) (k L m : Nat) (ld : Nat → Nat → Nat) (b : Nat × Nat) : shS pk (k + 1) L m ld b = if b.1 ≤ m then b else shS pk k (L + 2 ^ k) (mxs m (ld 1) (pk k) 4) (ldU ld 1 (pk k)) (shS pk k L (mxs m (ld 0) (pk k) 4) (ldU ld 0 (pk k)) b) := rfl
/-- the most picks of one row of shifts T (bits of the first k families) -/
def shV (pk : Nat → Nat → Nat) : Nat → Nat → (Nat → Nat → Nat) → Nat → Nat
  | 0, m, _, _ => m
  | k + 1, m, ld, T => if T < 2 ^ k then shV pk k (mxs m (ld 0) (pk k) 4) (ldU ld 0 (pk k)) T else shV pk k (mxs m (ld 1) (pk k) 4) (ldU ld 1 (pk k)) (T - 2 ^ k)
theorem shV_s (pk : Nat → Nat → Nat) (k m : Nat) (ld : Nat → Nat → Nat) (T : Nat) : shV pk (k + 1) m ld T = if T < 2 ^ k then shV pk k (mxs m (ld 0) (pk k) 4) (ldU ld 0 (pk k)) T else shV pk k (mxs m (ld 1) (pk k) 4) (ldU ld 1 (pk k)) (T - 2 ^ k) := rfl
theorem shV_ge {pk : Nat → Nat → Nat} : ∀ {k m : Nat} {ld : Nat → Nat → Nat} {T : Nat}, m ≤ shV pk k m ld T
  | 0, m, _, _ => Nat.le_refl m
  | k + 1, m, ld, T => by
    rw [shV_s]
    by_cases h : T < 2 ^ k
    · rw [if_pos h]; exact Nat.le_trans (mxs_le.mp (Nat.le_refl _)).1 shV_ge
    · rw [if_neg h]; exact Nat.le_trans (mxs_le.mp (Nat.le_refl _)).1 shV_ge
/-- what the search gives: the best so far, or the least of the rows that are better, the first of several -/
def shP (V : Nat → Nat) (N L : Nat) (b r : Nat × Nat) : Prop := (r = b ∧ ∀ T, T < N → b.1 ≤ V T) ∨ ∃ T, T < N ∧ r = (V T, L + T) ∧ V T < b.1 ∧ ∀ T', T' < N → V T ≤ V T' ∧ (V T' = V T → T ≤ T')
theorem shS_ok {pk : Nat → Nat → Nat} : ∀ {k L m : Nat} {ld : Nat → Nat → Nat} {b : Nat × Nat}, shP (shV pk k m ld) (2 ^ k) L b (shS pk k L m ld b)
  | 0, L, m, ld, b => by
    rw [shS_0]
    by_cases h : b.1 ≤ m
    · rw [if_pos h]; exact Or.inl ⟨rfl, fun T _ => h⟩
    · rw [if_neg h]
      refine Or.inr ⟨0, by omega, rfl, by show m < b.1; omega, fun T' hT' => ⟨Nat.le_refl _, fun _ => Nat.zero_le _⟩⟩
  | k + 1, L, m, ld, b => by
    rw [shS_s]
    by_cases h : b.1 ≤ m
    · rw [if_pos h]; exact Or.inl ⟨rfl, fun T _ => Nat.le_trans h shV_ge⟩
    · rw [if_neg h]
      have h0 := shS_ok (pk := pk) (k := k) (L := L) (m := mxs m (ld 0) (pk k) 4) (ld := ldU ld 0 (pk k)) (b := b)
      generalize shS pk k L (mxs m (ld 0) (pk k) 4) (ldU ld 0 (pk k)) b = b0 at h0 ⊢
      have h1 := shS_ok (pk := pk) (k := k) (L := L + 2 ^ k) (m := mxs m (ld 1) (pk k) 4) (ld := ldU ld 1 (pk k)) (b := b0)
      generalize shS pk k (L + 2 ^ k) (mxs m (ld 1) (pk k) 4) (ldU ld 1 (pk k)) b0 = r at h1 ⊢
      have hp : 2 ^ (k + 1) = 2 ^ k + 2 ^ k := by rw [Nat.pow_succ]; omega
      have lo : ∀ T, T < 2 ^ k → shV pk (k + 1) m ld T = shV pk k (mxs m (ld 0) (pk k) 4) (ldU ld 0 (pk k)) T := fun T hT => by rw [shV_s, if_pos hT]
      have hi : ∀ T, T < 2 ^ k → shV pk (k + 1) m ld (2 ^ k + T) = shV pk k (mxs m (ld 1) (pk k) 4) (ldU ld 1 (pk k)) T := fun T hT => by rw [shV_s, if_neg (by omega), Nat.add_sub_cancel_left]
      have hcase : ∀ (Q : Nat → Prop), (∀ T, T < 2 ^ k → Q T) → (∀ T, T < 2 ^ k → Q (2 ^ k + T)) → ∀ T, T < 2 ^ (k + 1) → Q T := fun Q q0 q1 T hT => by
        rcases Nat.lt_or_ge T (2 ^ k) with z | z
        · exact q0 T z
        · have := q1 (T - 2 ^ k) (by omega)
          rw [show 2 ^ k + (T - 2 ^ k) = T by omega] at this
          exact this
      rcases h0 with ⟨e0, a0⟩ | ⟨T0, t0, e0, l0, m0⟩
      · subst e0
        rcases h1 with ⟨e1, a1⟩ | ⟨T1, t1, e1, l1, m1⟩
        · refine Or.inl ⟨e1, hcase _ (fun T hT => by rw [lo T hT]; exact a0 T hT) (fun T hT => by rw [hi T hT]; exact a1 T hT)⟩
        · refine Or.inr ⟨2 ^ k + T1, by omega, by rw [e1, hi T1 t1, Nat.add_assoc], by rw [hi T1 t1]; exact l1, hcase _ (fun T hT => ?_) (fun T hT => ?_)⟩
          · rw [lo T hT, hi T1 t1]
            have := a0 T hT
            exact ⟨by omega, fun w => by omega⟩
          · rw [hi T hT, hi T1 t1]
            exact ⟨(m1 T hT).1, fun w => by have := (m1 T hT).2 w; omega⟩
      · rcases h1 with ⟨e1, a1⟩ | ⟨T1, t1, e1, l1, m1⟩
        · subst e1
          rw [e0] at a1
          refine Or.inr ⟨T0, by omega, by rw [e0, lo T0 t0], by rw [lo T0 t0]; exact l0, hcase _ (fun T hT => ?_) (fun T hT => ?_)⟩
          · rw [lo T hT, lo T0 t0]; exact m0 T hT
          · rw [hi T hT, lo T0 t0]; exact ⟨a1 T hT, fun _ => by omega⟩
        · rw [e0] at l1
          refine Or.inr ⟨2 ^ k + T1, by omega, by rw [e1, hi T1 t1, Nat.add_assoc], by rw [hi T1 t1]; exact Nat.lt_trans l1 l0, hcase _ (fun T hT => ?_) (fun T hT => ?_)⟩
          · rw [lo T hT, hi T1 t1]
            have := (m0 T hT).1
            have h3 : shV pk k (mxs m (ld 1) (pk k) 4) (ldU ld 1 (pk k)) T1 < shV pk k (mxs m (ld 0) (pk k) 4) (ldU ld 0 (pk k)) T0 := l1
            exact ⟨by omega, fun w => by omega⟩
          · rw [hi T hT, hi T1 t1]
            exact ⟨(m1 T hT).1, fun w => by have := (m1 T hT).2 w; omega⟩
/-- picks of a station in a shift -/
def tot (pk : Nat → Nat → Nat) (k T sh s : Nat) : Nat := nsum (fun f => if T.testBit f = decide (sh = 1) then pk f s else 0) k
theorem shV_le {pk : Nat → Nat → Nat} {v : Nat} : ∀ {k m : Nat} {ld : Nat → Nat → Nat} {T : Nat}, T < 2 ^ k → (∀ q, q < 2 → ∀ s, s < 4 → ld q s ≤ m) → (shV pk k m ld T ≤ v ↔ m ≤ v ∧ ∀ q, q < 2 → ∀ s, s < 4 → ld q s + tot pk k T q s ≤ v)
  | 0, m, ld, T, _, hl => ⟨fun h => ⟨h, fun q hq s hs => Nat.le_trans (hl q hq s hs) h⟩, fun h => h.1⟩
  | k + 1, m, ld, T, hT, hl => by
    have hp : 2 ^ (k + 1) = 2 ^ k + 2 ^ k := by rw [Nat.pow_succ]; omega
    have tb : ∀ f, f < k → ∀ x, x < 2 ^ k → (2 ^ k + x).testBit f = x.testBit f := fun f hf x _ => Nat.testBit_two_pow_add_gt hf x
    have key : ∀ (sh : Nat) (T' : Nat), sh < 2 → T' < 2 ^ k → (∀ f, f < k → T.testBit f = T'.testBit f) → T.testBit k = decide (sh = 1) → (shV pk k (mxs m (ld sh) (pk k) 4) (ldU ld sh (pk k)) T' ≤ v ↔ m ≤ v ∧ ∀ q, q < 2 → ∀ s, s < 4 → ld q s + tot pk (k + 1) T q s ≤ v) := by
      intro sh T' hsh hT' hb hk
      have ht : ∀ q s, tot pk (k + 1) T q s = tot pk k T' q s + (if decide (sh = 1) = decide (q = 1) then pk k s else 0) := fun q s => by
        unfold tot
        show nsum (fun f => if T.testBit f = decide (q = 1) then pk f s else 0) k + (if T.testBit k = decide (q = 1) then pk k s else 0) = _
        rw [hk, nsum_cg (fun f hf => by rw [hb f hf])]
      have hd : ∀ q, q < 2 → (decide (sh = 1) = decide (q = 1) ↔ q = sh) := fun q hq => by
        rcases (show sh = 0 ∨ sh = 1 by omega) with e | e <;> rcases (show q = 0 ∨ q = 1 by omega) with e2 | e2 <;> subst e <;> subst e2 <;> decide
      rw [shV_le hT' (fun q hq s hs => ?_), mxs_le]
      · constructor
        · rintro ⟨⟨h1, h2⟩, h3⟩
          refine ⟨h1, fun q hq s hs => ?_⟩
          have w := h3 q hq s hs
          unfold ldU at w
          rw [ht q s]
          by_cases e : q = sh
          · rw [if_pos e] at w; rw [if_pos ((hd q hq).mpr e)]; omega
          · rw [if_neg e] at w; rw [if_neg (fun z => e ((hd q hq).mp z))]; omega
        · rintro ⟨h1, h2⟩
          refine ⟨⟨h1, fun s hs => ?_⟩, fun q hq s hs => ?_⟩
          · have w := h2 sh hsh s hs
            rw [ht sh s, if_pos rfl] at w
            omega
          · have w := h2 q hq s hs
            rw [ht q s] at w
            unfold ldU
            by_cases e : q = sh
            · rw [if_pos e]; rw [if_pos ((hd q hq).mpr e)] at w; omega
            · rw [if_neg e]; rw [if_neg (fun z => e ((hd q hq).mp z))] at w; omega
      · unfold ldU
        have h0 := (mxs_le.mp (Nat.le_refl (mxs m (ld sh) (pk k) 4)))
        by_cases e : q = sh
        · subst e
          rw [if_pos rfl]; exact h0.2 s hs
        · rw [if_neg e]; exact Nat.le_trans (hl q hq s hs) h0.1
    rw [shV_s]
    by_cases h : T < 2 ^ k
    · rw [if_pos h]
      exact key 0 T (by omega) h (fun f _ => rfl) (by rw [Nat.testBit_lt_two_pow h]; rfl)
    · rw [if_neg h]
      have e : T = 2 ^ k + (T - 2 ^ k) := by omega
      refine key 1 (T - 2 ^ k) (by omega) (by omega) (fun f hf => ?_) ?_
      · have w := tb f hf (T - 2 ^ k) (by omega)
        rw [← e] at w
        exact w
      · rw [e, Nat.testBit_two_pow_add_eq, Nat.testBit_lt_two_pow (by omega)]; rfl
