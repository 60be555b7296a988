/-! LAW, 9: the reading of a tape, by numbers. A state: (what is next: 0 end, 1 word, 2 number, 3 sign, 4 broken; its place; the place behind; fault; tokens; values). -/
abbrev RdS : Type := Nat × Nat × Nat × Bool × List (Nat × Nat) × Nat
def ru (P : Nat → Bool) : Nat → Nat → Nat
  | 0, i => i
  | n + 1, i => if P i = true then ru P n (i + 1) else i
def rn (P : Nat → Bool) (L i : Nat) : Nat := ru P (L - i) i
theorem rn_go {P : Nat → Bool} {L i : Nat} (h : i < L) (hP : P i = true) : rn P L i = rn P L (i + 1) := by
  unfold rn
  rw [show L - i = (L - (i + 1)) + 1 by omega]
  show (if P i = true then ru P (L - (i + 1)) (i + 1) else i) = _
  rw [if_pos hP]
theorem rn_st {P : Nat → Bool} {L i : Nat} (h : ¬ (i < L ∧ P i = true)) : rn P L i = i := by
  unfold rn
  by_cases c : i < L
  · rw [show L - i = (L - (i + 1)) + 1 by omega]
    show (if P i = true then ru P (L - (i + 1)) (i + 1) else i) = i
    rw [if_neg (fun w => h ⟨c, w⟩)]
  · rw [show L - i = 0 by omega]
    rfl
theorem rn_all {P : Nat → Bool} {L : Nat} : ∀ r i, L - i = r → i ≤ rn P L i ∧ (i ≤ L → rn P L i ≤ L) ∧ ∀ j, i ≤ j → j < rn P L i → P j = true := by
  intro r
  induction r with
  | zero =>
    intro i hi
    rw [rn_st (fun w => by omega)]
    exact ⟨Nat.le_refl _, fun h => h, fun j h1 h2 => by omega⟩
  | succ r ih =>
    intro i hi
    by_cases c : P i = true
    · rw [rn_go (by omega) c]
      obtain ⟨a, b, e⟩ := ih (i + 1) (by omega)
      refine ⟨by omega, fun _ => b (by omega), fun j h1 h2 => ?_⟩
      by_cases z : j = i
      · rw [z]; exact c
      · exact e j (by omega) h2
    · rw [rn_st (fun w => c w.2)]
      exact ⟨Nat.le_refl _, fun h => h, fun j h1 h2 => by omega⟩
theorem rn_gt {P : Nat → Bool} {L i : Nat} (h : i < L) (hP : P i = true) : i < rn P L i ∧ rn P L i ≤ L := by
  rw [rn_go h hP]
  obtain ⟨a, b, -⟩ := rn_all (P := P) (L := L) _ (i + 1) rfl
  exact ⟨by omega, b (by omega)⟩
abbrev isL (c : Nat) : Prop := 97 ≤ c ∧ c ≤ 122
abbrev isD (c : Nat) : Prop := 48 ≤ c ∧ c ≤ 57
section LW
variable {tb : Nat → Nat} {L : Nat} {nm : Nat → Option Nat}
def lwS (tb : Nat → Nat) (L p : Nat) : Nat := rn (fun i => decide (tb i = 32)) L p
def lwP (tb : Nat → Nat) (L s : Nat) : Nat := if s < L then (if isL (tb s) then rn (fun i => decide (isL (tb i))) L s else if isD (tb s) then rn (fun i => decide (isD (tb i))) L s else s + 1) else s
def lwJ (tb : Nat → Nat) (L s : Nat) : Nat := if s < L then (if isL (tb s) then 1 else if isD (tb s) then (if lwP tb L s - s ≤ 5 then 2 else 4) else 3) else 0
def lwK (tb : Nat → Nat) (L k p : Nat) : Nat := if (k = 1 ∨ k = 2) ∧ lwS tb L p = p ∧ (lwJ tb L (lwS tb L p) = 1 ∨ lwJ tb L (lwS tb L p) = 2) then 4 else lwJ tb L (lwS tb L p)
def stp (tb : Nat → Nat) (L : Nat) (σ : RdS) : RdS := (lwK tb L σ.1 σ.2.2.1, lwS tb L σ.2.2.1, lwP tb L (lwS tb L σ.2.2.1), σ.2.2.2)
def pv (σ : RdS) (t : Nat × Nat) : RdS := (σ.1, σ.2.1, σ.2.2.1, σ.2.2.2.1, σ.2.2.2.2.1 ++ [t], σ.2.2.2.2.2 + 1)
def fl (σ : RdS) : RdS := (σ.1, σ.2.1, σ.2.2.1, true, σ.2.2.2.2.1, σ.2.2.2.2.2)
def pt (σ : RdS) (t : Nat × Nat) : RdS := if σ.2.2.2.1 = true then σ else (σ.1, σ.2.1, σ.2.2.1, σ.2.2.2.1, σ.2.2.2.2.1 ++ [t], σ.2.2.2.2.2)
def nmb (tb : Nat → Nat) (s : Nat) : Nat → Nat
  | 0 => 0
  | n + 1 => nmb tb s n * 10 + (tb (s + n) - 48)
def sgOf : Nat → Nat → Option Nat
  | 0, c => if c = 124 then some 0 else none
  | 1, c => if c = 38 then some 1 else none
  | 2, c => if c = 60 then some 2 else if c = 61 then some 3 else if c = 62 then some 4 else none
  | 3, c => if c = 43 then some 5 else if c = 45 then some 6 else none
  | _, c => if c = 42 then some 7 else if c = 47 then some 8 else none
def hs (tb : Nat → Nat) (lev : Nat) (σ : RdS) : Option Nat := if σ.2.2.2.1 = false ∧ σ.1 = 3 then sgOf lev (tb σ.2.1) else none
def lwN (tb : Nat → Nat) (nm : Nat → Option Nat) (σ : RdS) : Option Nat := if σ.1 = 1 ∧ σ.2.2.1 - σ.2.1 = 1 then nm (tb σ.2.1) else none
def lwC (tb : Nat → Nat) (L : Nat) (τ : RdS) : RdS := if τ.2.2.2.1 = false ∧ τ.1 = 3 ∧ tb τ.2.1 = 41 then stp tb L τ else fl τ
/-- the reader: true: the rest of a level; false: a level (5: a part) -/
def pm (tb : Nat → Nat) (L : Nat) (nm : Nat → Option Nat) : Nat → Bool → Nat → Nat → Nat → RdS → RdS
  | 0, _, _, _, _, σ => σ
  | n + 1, true, lev, b, q, σ => (match hs tb lev σ with
    | none => σ
    | some j => if lev = 2 then pt (pm tb L nm n false (lev + 1) b q (stp tb L σ)) (3, j) else pm tb L nm n true lev b q (pt (pm tb L nm n false (lev + 1) b q (stp tb L σ)) (3, j)))
  | n + 1, false, lev, b, q, σ => if lev < 5 then pm tb L nm n true lev b q (pm tb L nm n false (lev + 1) b q σ) else
    if σ.2.2.2.1 = true then σ else
    if σ.1 = 2 then stp tb L (pv σ (0, nmb tb σ.2.1 (σ.2.2.1 - σ.2.1))) else
    (match lwN tb nm σ with
    | some j => stp tb L (pv σ (1, j))
    | none => if σ.1 = 3 ∧ tb σ.2.1 = 33 ∧ q < 8 then pt (pm tb L nm n false 5 b (q + 1) (stp tb L σ)) (2, 0) else
      if σ.1 = 3 ∧ tb σ.2.1 = 40 ∧ b < 8 then lwC tb L (pm tb L nm n false 0 (b + 1) q (stp tb L σ)) else fl σ)
theorem pm_n {n lev b q : Nat} {σ : RdS} (h : hs tb lev σ = none) : pm tb L nm (n + 1) true lev b q σ = σ := by
  show (match hs tb lev σ with
    | none => σ
    | some j => if lev = 2 then pt (pm tb L nm n false (lev + 1) b q (stp tb L σ)) (3, j) else pm tb L nm n true lev b q (pt (pm tb L nm n false (lev + 1) b q (stp tb L σ)) (3, j))) = σ
  rw [h]
theorem pm_2 {n b q j : Nat} {σ : RdS} (h : hs tb 2 σ = some j) : pm tb L nm (n + 1) true 2 b q σ = pt (pm tb L nm n false 3 b q (stp tb L σ)) (3, j) := by
  show (match hs tb 2 σ with
    | none => σ
    | some j => if 2 = 2 then pt (pm tb L nm n false (2 + 1) b q (stp tb L σ)) (3, j) else pm tb L nm n true 2 b q (pt (pm tb L nm n false (2 + 1) b q (stp tb L σ)) (3, j))) = _
  rw [h]
  exact if_pos rfl
theorem pm_s {n lev b q j : Nat} {σ : RdS} (h : hs tb lev σ = some j) (h2 : ¬ lev = 2) : pm tb L nm (n + 1) true lev b q σ = pm tb L nm n true lev b q (pt (pm tb L nm n false (lev + 1) b q (stp tb L σ)) (3, j)) := by
  show (match hs tb lev σ with
    | none => σ
    | some j => if lev = 2 then pt (pm tb L nm n false (lev + 1) b q (stp tb L σ)) (3, j) else pm tb L nm n true lev b q (pt (pm tb L nm n false (lev + 1) b q (stp tb L σ)) (3, j))) = _
  rw [h]
  exact if_neg h2
theorem pm_l {n lev b q : Nat} {σ : RdS} (h : lev < 5) : pm tb L nm (n + 1) false lev b q σ = pm tb L nm n true lev b q (pm tb L nm n false (lev + 1) b q σ) := if_pos h
theorem pm_f {n b q : Nat} {σ : RdS} (h : σ.2.2.2.1 = true) : pm tb L nm (n + 1) false 5 b q σ = σ := (if_neg (by omega)).trans (if_pos h)
theorem pm_v {n b q : Nat} {σ : RdS} (h : ¬ σ.2.2.2.1 = true) (h2 : σ.1 = 2) : pm tb L nm (n + 1) false 5 b q σ = stp tb L (pv σ (0, nmb tb σ.2.1 (σ.2.2.1 - σ.2.1))) := ((if_neg (by omega)).trans (if_neg h)).trans (if_pos h2)
theorem pm_p {n b q : Nat} {σ : RdS} (h : ¬ σ.2.2.2.1 = true) (h2 : ¬ σ.1 = 2) : pm tb L nm (n + 1) false 5 b q σ = (match lwN tb nm σ with
    | some j => stp tb L (pv σ (1, j))
    | none => if σ.1 = 3 ∧ tb σ.2.1 = 33 ∧ q < 8 then pt (pm tb L nm n false 5 b (q + 1) (stp tb L σ)) (2, 0) else
      if σ.1 = 3 ∧ tb σ.2.1 = 40 ∧ b < 8 then lwC tb L (pm tb L nm n false 0 (b + 1) q (stp tb L σ)) else fl σ) := ((if_neg (by omega)).trans (if_neg h)).trans (if_neg h2)
theorem pm_a {n b q j : Nat} {σ : RdS} (h : ¬ σ.2.2.2.1 = true) (h2 : ¬ σ.1 = 2) (h3 : lwN tb nm σ = some j) : pm tb L nm (n + 1) false 5 b q σ = stp tb L (pv σ (1, j)) := by rw [pm_p h h2, h3]
theorem pm_x {n b q : Nat} {σ : RdS} (h : ¬ σ.2.2.2.1 = true) (h2 : ¬ σ.1 = 2) (h3 : lwN tb nm σ = none) (h4 : σ.1 = 3 ∧ tb σ.2.1 = 33 ∧ q < 8) : pm tb L nm (n + 1) false 5 b q σ = pt (pm tb L nm n false 5 b (q + 1) (stp tb L σ)) (2, 0) := by
  rw [pm_p h h2, h3]
  exact if_pos h4
theorem pm_b {n b q : Nat} {σ : RdS} (h : ¬ σ.2.2.2.1 = true) (h2 : ¬ σ.1 = 2) (h3 : lwN tb nm σ = none) (h4 : ¬ (σ.1 = 3 ∧ tb σ.2.1 = 33 ∧ q < 8)) (h5 : σ.1 = 3 ∧ tb σ.2.1 = 40 ∧ b < 8) : pm tb L nm (n + 1) false 5 b q σ = lwC tb L (pm tb L nm n false 0 (b + 1) q (stp tb L σ)) := by
  rw [pm_p h h2, h3]
  exact (if_neg h4).trans (if_pos h5)
theorem pm_e {n b q : Nat} {σ : RdS} (h : ¬ σ.2.2.2.1 = true) (h2 : ¬ σ.1 = 2) (h3 : lwN tb nm σ = none) (h4 : ¬ (σ.1 = 3 ∧ tb σ.2.1 = 33 ∧ q < 8)) (h5 : ¬ (σ.1 = 3 ∧ tb σ.2.1 = 40 ∧ b < 8)) : pm tb L nm (n + 1) false 5 b q σ = fl σ := by
  rw [pm_p h h2, h3]
  exact (if_neg h4).trans (if_neg h5)
/-- what a state is like -/
def OkS (tb : Nat → Nat) (L : Nat) (σ : RdS) : Prop := σ.2.1 ≤ L ∧ ((σ.1 = 0 ∧ σ.2.1 = L ∧ σ.2.2.1 = L) ∨ (0 < σ.1 ∧ σ.1 ≤ 4 ∧ σ.2.1 < L ∧ σ.2.1 < σ.2.2.1 ∧ σ.2.2.1 ≤ L)) ∧ (σ.1 = 2 → σ.2.2.1 - σ.2.1 ≤ 5 ∧ ∀ j, σ.2.1 ≤ j → j < σ.2.2.1 → isD (tb j))
theorem lwS_le {p : Nat} (h : p ≤ L) : p ≤ lwS tb L p ∧ lwS tb L p ≤ L := ⟨(rn_all _ p rfl).1, (rn_all _ p rfl).2.1 h⟩
theorem lwP_le {s : Nat} (h : s < L) : s < lwP tb L s ∧ lwP tb L s ≤ L := by
  unfold lwP
  rw [if_pos h]
  by_cases c : isL (tb s)
  · rw [if_pos c]
    exact rn_gt h (by simpa using c)
  · rw [if_neg c]
    by_cases e : isD (tb s)
    · rw [if_pos e]
      exact rn_gt h (by simpa using e)
    · rw [if_neg e]
      omega
theorem lwJ_ok {s : Nat} (h : s < L) : 0 < lwJ tb L s ∧ lwJ tb L s ≤ 4 ∧ (lwJ tb L s = 2 → lwP tb L s - s ≤ 5 ∧ ∀ j, s ≤ j → j < lwP tb L s → isD (tb j)) := by
  unfold lwJ
  rw [if_pos h]
  by_cases c : isL (tb s)
  · rw [if_pos c]
    exact ⟨by omega, by omega, fun w => absurd w (by omega)⟩
  · rw [if_neg c]
    by_cases e : isD (tb s)
    · rw [if_pos e]
      by_cases z : lwP tb L s - s ≤ 5
      · rw [if_pos z]
        refine ⟨by omega, by omega, fun _ => ⟨z, fun j h1 h2 => ?_⟩⟩
        unfold lwP at h2
        rw [if_pos h, if_neg c, if_pos e] at h2
        have := (rn_all (P := fun i => decide (isD (tb i))) (L := L) _ s rfl).2.2 j h1 h2
        simpa using this
      · rw [if_neg z]
        exact ⟨by omega, by omega, fun w => absurd w (by omega)⟩
    · rw [if_neg e]
      exact ⟨by omega, by omega, fun w => absurd w (by omega)⟩
theorem lwJ_0 {s : Nat} (h : ¬ s < L) : lwJ tb L s = 0 ∧ lwP tb L s = s := by
  unfold lwJ lwP
  rw [if_neg h, if_neg h]
  exact ⟨rfl, rfl⟩
theorem stp_ok {σ : RdS} (h : σ.2.2.1 ≤ L) : OkS tb L (stp tb L σ) ∧ σ.2.2.1 ≤ (stp tb L σ).2.1 := by
  obtain ⟨h1, h2⟩ := lwS_le (tb := tb) h
  refine ⟨⟨h2, ?_, ?_⟩, h1⟩
  · show (lwK tb L σ.1 σ.2.2.1 = 0 ∧ lwS tb L σ.2.2.1 = L ∧ lwP tb L (lwS tb L σ.2.2.1) = L) ∨ (0 < lwK tb L σ.1 σ.2.2.1 ∧ lwK tb L σ.1 σ.2.2.1 ≤ 4 ∧ lwS tb L σ.2.2.1 < L ∧ lwS tb L σ.2.2.1 < lwP tb L (lwS tb L σ.2.2.1) ∧ lwP tb L (lwS tb L σ.2.2.1) ≤ L)
    unfold lwK
    by_cases c : lwS tb L σ.2.2.1 < L
    · obtain ⟨a1, a2⟩ := lwP_le (tb := tb) c
      obtain ⟨b1, b2, -⟩ := lwJ_ok (tb := tb) c
      right
      split
      · exact ⟨by omega, by omega, c, a1, a2⟩
      · exact ⟨b1, b2, c, a1, a2⟩
    · obtain ⟨a1, a2⟩ := lwJ_0 (tb := tb) c
      left
      rw [a1, a2, if_neg (fun w => by omega)]
      exact ⟨rfl, by omega, by omega⟩
  · show lwK tb L σ.1 σ.2.2.1 = 2 → lwP tb L (lwS tb L σ.2.2.1) - lwS tb L σ.2.2.1 ≤ 5 ∧ ∀ j, lwS tb L σ.2.2.1 ≤ j → j < lwP tb L (lwS tb L σ.2.2.1) → isD (tb j)
    unfold lwK
    by_cases c : lwS tb L σ.2.2.1 < L
    · obtain ⟨-, -, b3⟩ := lwJ_ok (tb := tb) c
      split
      · intro w; exact absurd w (by omega)
      · exact b3
    · rw [(lwJ_0 (tb := tb) c).1]
      split
      · intro w; exact absurd w (by omega)
      · intro w; exact absurd w (by omega)
theorem sgOf_lt {lev c j : Nat} (h : sgOf lev c = some j) : j < 9 := by
  have e : ∀ {P : Prop} [Decidable P] {a : Nat} {o : Option Nat}, (if P then some a else o) = some j → a = j ∨ o = some j := fun {P} _ {a o} w => by
    by_cases c : P
    · rw [if_pos c] at w; exact Or.inl (Option.some.inj w)
    · rw [if_neg c] at w; exact Or.inr w
  have z : ∀ {P : Prop}, (none : Option Nat) = some j → P := fun w => by cases w
  match lev with
  | 0 => rcases e h with w | w; omega; exact z w
  | 1 => rcases e h with w | w; omega; exact z w
  | 2 =>
    rcases e h with w | w
    · omega
    · rcases e w with w | w
      · omega
      · rcases e w with w | w
        · omega
        · exact z w
  | 3 =>
    rcases e h with w | w
    · omega
    · rcases e w with w | w
      · omega
      · exact z w
  | l + 4 =>
    rcases e h with w | w
    · omega
    · rcases e w with w | w
      · omega
      · exact z w
theorem hs_some {lev j : Nat} {σ : RdS} (h : hs tb lev σ = some j) : σ.2.2.2.1 = false ∧ σ.1 = 3 ∧ sgOf lev (tb σ.2.1) = some j := by
  unfold hs at h
  by_cases c : σ.2.2.2.1 = false ∧ σ.1 = 3
  · rw [if_pos c] at h; exact ⟨c.1, c.2, h⟩
  · rw [if_neg c] at h; cases h
theorem lwN_some {j : Nat} {σ : RdS} (h : lwN tb nm σ = some j) : σ.1 = 1 ∧ σ.2.2.1 - σ.2.1 = 1 ∧ nm (tb σ.2.1) = some j := by
  unfold lwN at h
  by_cases c : σ.1 = 1 ∧ σ.2.2.1 - σ.2.1 = 1
  · rw [if_pos c] at h; exact ⟨c.1, c.2, h⟩
  · rw [if_neg c] at h; cases h
theorem nmb_lt {s : Nat} : ∀ {n : Nat}, (∀ j, s ≤ j → j < s + n → isD (tb j)) → nmb tb s n < 10 ^ n
  | 0, _ => by show 0 < 1; omega
  | n + 1, h => by
    have h1 := nmb_lt (s := s) (n := n) (fun j a b => h j a (by omega))
    obtain ⟨h2, h3⟩ := h (s + n) (by omega) (by omega)
    show nmb tb s n * 10 + (tb (s + n) - 48) < 10 ^ (n + 1)
    rw [Nat.pow_succ]
    omega
theorem pt_f {τ : RdS} {t : Nat × Nat} : (pt τ t).2.2.2.1 = τ.2.2.2.1 ∧ (pt τ t).1 = τ.1 ∧ (pt τ t).2.1 = τ.2.1 ∧ (pt τ t).2.2.1 = τ.2.2.1 := by
  unfold pt
  split
  · exact ⟨rfl, rfl, rfl, rfl⟩
  · exact ⟨rfl, rfl, rfl, rfl⟩
theorem pt_T {τ : RdS} {t : Nat × Nat} (h : τ.2.2.2.1 = false) : pt τ t = (τ.1, τ.2.1, τ.2.2.1, τ.2.2.2.1, τ.2.2.2.2.1 ++ [t], τ.2.2.2.2.2) := if_neg (by rw [h]; exact Bool.false_ne_true)
theorem pt_t {τ : RdS} {t : Nat × Nat} (h : τ.2.2.2.1 = true) : pt τ t = τ := if_pos h
theorem OkS.pt {τ : RdS} {t : Nat × Nat} (h : OkS tb L τ) : OkS tb L (pt τ t) := by
  obtain ⟨-, a, b, c⟩ := pt_f (τ := τ) (t := t)
  unfold OkS
  rw [a, b, c]
  exact h
theorem OkS.fl {τ : RdS} (h : OkS tb L τ) : OkS tb L (fl τ) := h
theorem OkS.le {τ : RdS} (h : OkS tb L τ) : τ.2.2.1 ≤ L := by
  rcases h.2.1 with w | w
  · omega
  · omega
theorem bf {b : Bool} (h : ¬ b = true) : b = false := by cases b <;> simp_all
theorem wf_v {N : Nat} {t : Nat × Nat} {r : List (Nat × Nat)} {k : Nat} (h : okTk N t) (h1 : t.1 = 0 ∨ t.1 = 1) (w : wf N r (k + 1)) : wf N (t :: r) k := by
  rw [wf_s, if_neg (by omega), if_neg (by omega)]
  exact ⟨h, w⟩
theorem wf_x {N : Nat} {r : List (Nat × Nat)} {k : Nat} (w : wf N r (k + 1)) : wf N ((2, 0) :: r) (k + 1) := by
  rw [wf_s, if_pos rfl]
  exact ⟨Or.inr (Or.inr (Or.inl rfl)), by omega, w⟩
theorem wf_j {N j : Nat} {r : List (Nat × Nat)} {k : Nat} (hj : j < 9) (w : wf N r (k + 1)) : wf N ((3, j) :: r) (k + 2) := by
  rw [wf_s, if_neg (show ¬ (3 : Nat) = 2 by omega), if_pos rfl]
  exact ⟨Or.inr (Or.inr (Or.inr ⟨rfl, hj⟩)), by omega, w⟩
theorem pm_ok {N : Nat} (hnm : ∀ c j, nm c = some j → j < N) : ∀ n m lev b q (σ : RdS), OkS tb L σ → (m = false → lev ≤ 5 ∧ 8 * (L - σ.2.1) + 7 - lev ≤ n) → (m = true → lev < 5 ∧ 8 * (L - σ.2.1) + 1 ≤ n) → OkS tb L (pm tb L nm n m lev b q σ) ∧ σ.2.1 ≤ (pm tb L nm n m lev b q σ).2.1 ∧ ((pm tb L nm n m lev b q σ).2.2.2.1 = false → σ.2.2.2.1 = false ∧ ∃ U, (pm tb L nm n m lev b q σ).2.2.2.2.1 = σ.2.2.2.2.1 ++ U ∧ U.length + σ.2.1 ≤ (pm tb L nm n m lev b q σ).2.1 ∧ ∀ r k, wf N r (k + 1) → wf N (U ++ r) (if m = true then k + 1 else k)) := by
  intro n
  induction n with
  | zero =>
    intro m lev b q σ _ h1 h2
    cases m
    · have := h1 rfl; omega
    · have := h2 rfl; omega
  | succ n ih =>
    intro m lev b q σ hO h1 h2
    have hp := hO.le
    cases m
    · clear h2
      obtain ⟨hl, hf⟩ := h1 rfl
      rcases Nat.lt_or_ge lev 5 with c | c
      · rw [pm_l c]
        obtain ⟨a1, a2, a3⟩ := ih false (lev + 1) b q σ hO (fun _ => ⟨by omega, by omega⟩) (fun w => absurd w Bool.false_ne_true)
        obtain ⟨b1, b2, b3⟩ := ih true lev b q _ a1 (fun w => absurd w.symm Bool.false_ne_true) (fun _ => ⟨c, by omega⟩)
        refine ⟨b1, by omega, fun hz => ?_⟩
        obtain ⟨c1, U2, c2, c3, c4⟩ := b3 hz
        obtain ⟨d1, U1, d2, d3, d4⟩ := a3 c1
        refine ⟨d1, U1 ++ U2, by rw [c2, d2, List.append_assoc], by rw [List.length_append]; omega, fun r k w => ?_⟩
        rw [List.append_assoc]
        exact d4 _ k (c4 r k w)
      · have e5 : lev = 5 := by omega
        subst e5
        by_cases f : σ.2.2.2.1 = true
        · rw [pm_f f]
          exact ⟨hO, Nat.le_refl _, fun hz => absurd (f.symm.trans hz).symm Bool.false_ne_true⟩
        · by_cases k2 : σ.1 = 2
          · rw [pm_v f k2]
            obtain ⟨a1, a2⟩ := stp_ok (tb := tb) (L := L) (σ := pv σ (0, nmb tb σ.2.1 (σ.2.2.1 - σ.2.1))) hp
            have a2' : σ.2.2.1 ≤ (stp tb L (pv σ (0, nmb tb σ.2.1 (σ.2.2.1 - σ.2.1)))).2.1 := a2
            obtain ⟨g1, g2⟩ := hO.2.2 k2
            have hlt : σ.2.1 < σ.2.2.1 := by
              rcases hO.2.1 with w | w
              · omega
              · exact w.2.2.2.1
            refine ⟨a1, by omega, fun _ => ⟨bf f, [(0, nmb tb σ.2.1 (σ.2.2.1 - σ.2.1))], rfl, by rw [List.length_singleton]; omega, fun r k w => ?_⟩⟩
            have hv := nmb_lt (tb := tb) (s := σ.2.1) (n := σ.2.2.1 - σ.2.1) (fun j x y => g2 j x (by omega))
            have h10 : 10 ^ (σ.2.2.1 - σ.2.1) ≤ 10 ^ 5 := Nat.pow_le_pow_right (by omega) g1
            exact wf_v (Or.inl ⟨rfl, by omega⟩) (Or.inl rfl) w
          · cases hN : lwN tb nm σ with
            | some j =>
              rw [pm_a f k2 hN]
              obtain ⟨n1, n2, n3⟩ := lwN_some hN
              obtain ⟨a1, a2⟩ := stp_ok (tb := tb) (L := L) (σ := pv σ (1, j)) hp
              have a2' : σ.2.2.1 ≤ (stp tb L (pv σ (1, j))).2.1 := a2
              exact ⟨a1, by omega, fun _ => ⟨bf f, [(1, j)], rfl, by rw [List.length_singleton]; omega, fun r k w => wf_v (Or.inr (Or.inl ⟨rfl, hnm _ _ n3⟩)) (Or.inr rfl) w⟩⟩
            | none =>
              obtain ⟨a1, a2⟩ := stp_ok (tb := tb) (L := L) (σ := σ) hp
              have hlt : σ.1 = 3 → σ.2.1 < σ.2.2.1 ∧ σ.2.1 < L := fun w => by
                rcases hO.2.1 with z | z
                · omega
                · omega
              by_cases c4 : σ.1 = 3 ∧ tb σ.2.1 = 33 ∧ q < 8
              · rw [pm_x f k2 hN c4]
                have := hlt c4.1
                obtain ⟨b1, b2, b3⟩ := ih false 5 b (q + 1) (stp tb L σ) a1 (fun _ => ⟨by omega, by omega⟩) (fun w => absurd w Bool.false_ne_true)
                obtain ⟨p1, p2, p3, p4⟩ := pt_f (τ := pm tb L nm n false 5 b (q + 1) (stp tb L σ)) (t := (2, 0))
                refine ⟨b1.pt, by rw [p3]; omega, fun hz => ?_⟩
                rw [p1] at hz
                obtain ⟨d1, U1, d2, d3, d4⟩ := b3 hz
                refine ⟨bf f, U1 ++ [(2, 0)], ?_, ?_, fun r k w => ?_⟩
                · rw [pt_T hz]
                  show _ ++ _ = _
                  rw [d2, List.append_assoc]
                  rfl
                · rw [p3, List.length_append, List.length_singleton]; omega
                · rw [List.append_assoc]
                  exact d4 _ k (wf_x w)
              · by_cases c5 : σ.1 = 3 ∧ tb σ.2.1 = 40 ∧ b < 8
                · rw [pm_b f k2 hN c4 c5]
                  have := hlt c5.1
                  obtain ⟨b1, b2, b3⟩ := ih false 0 (b + 1) q (stp tb L σ) a1 (fun _ => ⟨by omega, by omega⟩) (fun w => absurd w Bool.false_ne_true)
                  unfold lwC
                  by_cases c6 : (pm tb L nm n false 0 (b + 1) q (stp tb L σ)).2.2.2.1 = false ∧ (pm tb L nm n false 0 (b + 1) q (stp tb L σ)).1 = 3 ∧ tb (pm tb L nm n false 0 (b + 1) q (stp tb L σ)).2.1 = 41
                  · rw [if_pos c6]
                    obtain ⟨e1, e2⟩ := stp_ok (tb := tb) (L := L) (σ := pm tb L nm n false 0 (b + 1) q (stp tb L σ)) b1.le
                    have hlt2 : (pm tb L nm n false 0 (b + 1) q (stp tb L σ)).2.1 < (pm tb L nm n false 0 (b + 1) q (stp tb L σ)).2.2.1 := by
                      rcases b1.2.1 with z | z
                      · omega
                      · exact z.2.2.2.1
                    obtain ⟨d1, U1, d2, d3, d4⟩ := b3 c6.1
                    exact ⟨e1, by omega, fun _ => ⟨bf f, U1, d2, by omega, d4⟩⟩
                  · rw [if_neg c6]
                    exact ⟨b1.fl, Nat.le_trans (Nat.le_trans (by omega) a2) b2, fun hz => absurd hz.symm Bool.false_ne_true⟩
                · rw [pm_e f k2 hN c4 c5]
                  exact ⟨hO.fl, Nat.le_refl _, fun hz => absurd hz.symm Bool.false_ne_true⟩
    · clear h1
      obtain ⟨hl, hf⟩ := h2 rfl
      cases hh : hs tb lev σ with
      | none =>
        rw [pm_n hh]
        exact ⟨hO, Nat.le_refl _, fun hz => ⟨hz, [], (List.append_nil _).symm, by rw [List.length_nil]; omega, fun r k w => w⟩⟩
      | some j =>
        obtain ⟨f1, k3, sg⟩ := hs_some hh
        have hj := sgOf_lt sg
        have hlt : σ.2.1 < σ.2.2.1 ∧ σ.2.1 < L := by
          rcases hO.2.1 with z | z
          · omega
          · omega
        obtain ⟨a1, a2⟩ := stp_ok (tb := tb) (L := L) (σ := σ) hp
        obtain ⟨b1, b2, b3⟩ := ih false (lev + 1) b q (stp tb L σ) a1 (fun _ => ⟨by omega, by omega⟩) (fun w => absurd w Bool.false_ne_true)
        obtain ⟨p1, p2, p3, p4⟩ := pt_f (τ := pm tb L nm n false (lev + 1) b q (stp tb L σ)) (t := (3, j))
        by_cases e2 : lev = 2
        · subst e2
          rw [pm_2 hh]
          refine ⟨b1.pt, by rw [p3]; omega, fun hz => ?_⟩
          rw [p1] at hz
          obtain ⟨d1, U1, d2, d3, d4⟩ := b3 hz
          refine ⟨f1, U1 ++ [(3, j)], ?_, ?_, fun r k w => ?_⟩
          · rw [pt_T hz]
            show _ ++ _ = _
            rw [d2, List.append_assoc]
            rfl
          · rw [p3, List.length_append, List.length_singleton]; omega
          · rw [List.append_assoc]
            exact d4 _ (k + 1) (wf_j hj w)
        · rw [pm_s hh e2]
          obtain ⟨r1, r2, r3⟩ := ih true lev b q (pt (pm tb L nm n false (lev + 1) b q (stp tb L σ)) (3, j)) b1.pt (fun w => absurd w.symm Bool.false_ne_true) (fun _ => ⟨hl, by rw [p3]; omega⟩)
          rw [p3] at r2
          refine ⟨r1, by omega, fun hz => ?_⟩
          obtain ⟨s1, U2, s2, s3, s4⟩ := r3 hz
          rw [p1] at s1
          rw [p3] at s3
          obtain ⟨d1, U1, d2, d3, d4⟩ := b3 s1
          refine ⟨f1, U1 ++ ((3, j) :: U2), ?_, ?_, fun r k w => ?_⟩
          · rw [s2, pt_T s1]
            show _ ++ _ ++ _ = _
            rw [d2, List.append_assoc, List.append_assoc]
            rfl
          · rw [List.length_append, List.length_cons]; omega
          · rw [List.append_assoc]
            exact d4 _ (k + 1) (wf_j hj (s4 r k w))
end LW
