/-! WHAT HOLDS AT THE LAW'S ENTRY (EnU), out of the Statement's words. -/
theorem ao_spec {args : Array Value} {s : State} {t : FieldType} (h : (Cond.arrayOver (.array t)).before args s = true) : ∃ (comp cA : ClassId), s.vm.findClass (FieldType.array t).toString = some comp ∧ kO s cA comp (.array t) ∧ s.vm.findClass ("[" ++ (FieldType.array t).toString) = some cA := by
  simp only [Cond.before, Cond.holds, Cond.value, beq_iff_eq] at h
  rcases hq : s.vm.findClass (FieldType.array t).toString with - | comp
  · rw [hq] at h; simp at h
  · rw [hq] at h
    simp only [Option.bind_some, Option.bind_eq_some_iff, Option.map_eq_some_iff] at h
    obtain ⟨cA, hi, k, hk, hz⟩ := h
    have hp := (Array.findIdx?_eq_some_iff_getElem.mp hi).2.1
    rw [(Array.getElem?_eq_some_iff.mp hk).2] at hp
    cases e : k.kind with
    | array q ty =>
      rw [e] at hp hz
      simp at hp hz
      exact ⟨comp, cA, rfl, ⟨k, hk, by rw [e, hp, hz.1]⟩, hz.2⟩
    | _ => rw [e] at hz; simp at hz
def tmL (i : Nat) : Term := [Term.string "DinnerBoxes$LawReader" 37, .string "DinnerBoxes$LawReader" 46, .string "DinnerBoxes$LawReader" 126, .string "DinnerBoxes$LawReader" 128, .string "DinnerBoxes$LawReader" 130, .string "DinnerBoxes$LawReader" 85, .string "DinnerBoxes$LawReader" 87, .string "DinnerBoxes$LawReader" 89, .string "DinnerBoxes$LawReader" 91, .string "DinnerBoxes$LawReader" 93, .string "DinnerBoxes$LawReader" 59, .string "DinnerBoxes$LawReader" 61, .string "DinnerBoxesModel" 31, .string "DinnerBoxesModel" 163].getD i (.arg 0)
theorem vw_at : ∀ c, c < 13 → vwCl[c]? = some (cN c, cT c, cNf c) := by
  intro c hc
  rcases (show c = 0 ∨ c = 1 ∨ c = 2 ∨ c = 3 ∨ c = 4 ∨ c = 5 ∨ c = 6 ∨ c = 7 ∨ c = 8 ∨ c = 9 ∨ c = 10 ∨ c = 11 ∨ c = 12 by omega) with e | e | e | e | e | e | e | e | e | e | e | e | e <;> subst e <;> rfl
theorem en_13 {s : State} {args : Array Value} (hG : ∀ w ∈ GT, w.before args s = true) (c : Nat) : ∃ q : ClassId × (Nat → Nat), c < 13 → u_Kn s (cN c) (cT c) (cNf c) q.1 q.2 := by
  by_cases hc : c < 13
  · rcases (show c = 0 ∨ c = 1 ∨ c = 2 ∨ c = 3 ∨ c = 4 ∨ c = 5 ∨ c = 6 ∨ c = 7 ∨ c = 8 ∨ c = 9 ∨ c = 10 ∨ c = 11 ∨ c = 12 by omega) with e | e | e | e | e | e | e | e | e | e | e | e | e <;> subst e
    · obtain ⟨a, b, h⟩ := u_known hG inX0 (hG _ wi_0); exact ⟨(a, b), fun _ => h⟩
    · obtain ⟨a, b, h⟩ := u_known hG inX1 (hG _ wi_1); exact ⟨(a, b), fun _ => h⟩
    · obtain ⟨a, b, h⟩ := u_known hG inX2 (hG _ wi_2); exact ⟨(a, b), fun _ => h⟩
    · obtain ⟨a, b, h⟩ := u_known hG inX3 (hG _ wi_3); exact ⟨(a, b), fun _ => h⟩
    · obtain ⟨a, b, h⟩ := u_known hG inX4 (hG _ wi_4); exact ⟨(a, b), fun _ => h⟩
    · obtain ⟨a, b, h⟩ := u_known hG inX5 (hG _ wi_5); exact ⟨(a, b), fun _ => h⟩
    · obtain ⟨a, b, h⟩ := u_known hG inX6 (hG _ wi_6); exact ⟨(a, b), fun _ => h⟩
    · obtain ⟨a, b, h⟩ := u_known hG inX7 (hG _ wi_7); exact ⟨(a, b), fun _ => h⟩
    · obtain ⟨a, b, h⟩ := u_known hG inX8 (hG _ wi_8); exact ⟨(a, b), fun _ => h⟩
    · obtain ⟨a, b, h⟩ := u_known hG inX9 (hG _ wi_9); exact ⟨(a, b), fun _ => h⟩
    · obtain ⟨a, b, h⟩ := u_known hG inX10 (hG _ wi_10); exact ⟨(a, b), fun _ => h⟩
    · obtain ⟨a, b, h⟩ := u_known hG inX11 (hG _ wi_11); exact ⟨(a, b), fun _ => h⟩
    · obtain ⟨a, b, h⟩ := u_known hG inX12 (hG _ wi_12); exact ⟨(a, b), fun _ => h⟩
  · exact ⟨(0, fun _ => 0), fun h => absurd h hc⟩
theorem n_in : ∀ e ∈ nTl, lw_tbl[e.2.2.2]? = some (nW e) := by decide +kernel
theorem s_in : ∀ e ∈ sTl, lw_tbl[e.2.2.2]? = some (sW e) := by decide +kernel
def nL : List Cond := flatC (Jvm.Cond.and given_1 narrow_1)
theorem q_len : ∀ i, i < 14 → tLn.getD i 0 < 2 ^ 31 := by decide +kernel
theorem q_ex : ∀ i, i < 14 → Cond.exactly (tmL i) "java/lang/String" ∈ nL := by decide +kernel
theorem q_co : ∀ i, i < 14 → Cond.eq (.field (tmL i) "java/lang/String" "coder" "B") (.int 0) ∈ nL := by decide +kernel
theorem q_ar : ∀ i, i < 14 → Cond.arrayOf (.field (tmL i) "java/lang/String" "value" "[B") .byte ∈ nL := by decide +kernel
theorem q_le : ∀ i, i < 14 → Cond.eq (.length (.field (tmL i) "java/lang/String" "value" "[B")) (.int (Int32.ofNat (tLn.getD i 0))) ∈ nL := by decide +kernel
theorem q_el : ∀ i, i < 14 → ∀ j, j < tLn.getD i 0 → Cond.eq (.elem (.field (tmL i) "java/lang/String" "value" "[B") (.int (Int32.ofNat j))) (.int ((tBy.getD i []).getD j 0)) ∈ nL := by decide +kernel
def nePl : List (List Nat) := [[0, 26, 32, 39, 47, 56, 66, 79, 92, 106, 123, 140, 155, 225], [26, 0, 33, 40, 48, 57, 67, 80, 93, 107, 124, 141, 156, 226], [32, 33, 0, 41, 49, 58, 68, 81, 94, 108, 125, 142, 157, 227], [39, 40, 41, 0, 50, 59, 69, 82, 95, 109, 126, 143, 158, 228], [47, 48, 49, 50, 0, 60, 70, 83, 96, 110, 127, 144, 159, 229], [56, 57, 58, 59, 60, 0, 71, 84, 97, 111, 128, 145, 160, 230], [66, 67, 68, 69, 70, 71, 0, 85, 98, 112, 129, 146, 161, 231], [79, 80, 81, 82, 83, 84, 85, 0, 99, 113, 130, 147, 162, 232], [92, 93, 94, 95, 96, 97, 98, 99, 0, 114, 131, 148, 163, 233], [106, 107, 108, 109, 110, 111, 112, 113, 114, 0, 132, 149, 164, 234], [123, 124, 125, 126, 127, 128, 129, 130, 131, 132, 0, 150, 165, 235], [140, 141, 142, 143, 144, 145, 146, 147, 148, 149, 150, 0, 166, 236], [155, 156, 157, 158, 159, 160, 161, 162, 163, 164, 165, 166, 0, 237], [225, 226, 227, 228, 229, 230, 231, 232, 233, 234, 235, 236, 237, 0]]
theorem q_ne0 : ∀ j, j < 14 → 0 ≠ j → nL[(nePl.getD 0 []).getD j 0]? = some (Cond.not (Cond.eq (tmL 0) (tmL j))) ∨ nL[(nePl.getD 0 []).getD j 0]? = some (Cond.not (Cond.eq (tmL j) (tmL 0))) := by decide +kernel
theorem q_ne1 : ∀ j, j < 14 → 1 ≠ j → nL[(nePl.getD 1 []).getD j 0]? = some (Cond.not (Cond.eq (tmL 1) (tmL j))) ∨ nL[(nePl.getD 1 []).getD j 0]? = some (Cond.not (Cond.eq (tmL j) (tmL 1))) := by decide +kernel
theorem q_ne2 : ∀ j, j < 14 → 2 ≠ j → nL[(nePl.getD 2 []).getD j 0]? = some (Cond.not (Cond.eq (tmL 2) (tmL j))) ∨ nL[(nePl.getD 2 []).getD j 0]? = some (Cond.not (Cond.eq (tmL j) (tmL 2))) := by decide +kernel
theorem q_ne3 : ∀ j, j < 14 → 3 ≠ j → nL[(nePl.getD 3 []).getD j 0]? = some (Cond.not (Cond.eq (tmL 3) (tmL j))) ∨ nL[(nePl.getD 3 []).getD j 0]? = some (Cond.not (Cond.eq (tmL j) (tmL 3))) := by decide +kernel
theorem q_ne4 : ∀ j, j < 14 → 4 ≠ j → nL[(nePl.getD 4 []).getD j 0]? = some (Cond.not (Cond.eq (tmL 4) (tmL j))) ∨ nL[(nePl.getD 4 []).getD j 0]? = some (Cond.not (Cond.eq (tmL j) (tmL 4))) := by decide +kernel
theorem q_ne5 : ∀ j, j < 14 → 5 ≠ j → nL[(nePl.getD 5 []).getD j 0]? = some (Cond.not (Cond.eq (tmL 5) (tmL j))) ∨ nL[(nePl.getD 5 []).getD j 0]? = some (Cond.not (Cond.eq (tmL j) (tmL 5))) := by decide +kernel
theorem q_ne6 : ∀ j, j < 14 → 6 ≠ j → nL[(nePl.getD 6 []).getD j 0]? = some (Cond.not (Cond.eq (tmL 6) (tmL j))) ∨ nL[(nePl.getD 6 []).getD j 0]? = some (Cond.not (Cond.eq (tmL j) (tmL 6))) := by decide +kernel
theorem q_ne7 : ∀ j, j < 14 → 7 ≠ j → nL[(nePl.getD 7 []).getD j 0]? = some (Cond.not (Cond.eq (tmL 7) (tmL j))) ∨ nL[(nePl.getD 7 []).getD j 0]? = some (Cond.not (Cond.eq (tmL j) (tmL 7))) := by decide +kernel
theorem q_ne8 : ∀ j, j < 14 → 8 ≠ j → nL[(nePl.getD 8 []).getD j 0]? = some (Cond.not (Cond.eq (tmL 8) (tmL j))) ∨ nL[(nePl.getD 8 []).getD j 0]? = some (Cond.not (Cond.eq (tmL j) (tmL 8))) := by decide +kernel
theorem q_ne9 : ∀ j, j < 14 → 9 ≠ j → nL[(nePl.getD 9 []).getD j 0]? = some (Cond.not (Cond.eq (tmL 9) (tmL j))) ∨ nL[(nePl.getD 9 []).getD j 0]? = some (Cond.not (Cond.eq (tmL j) (tmL 9))) := by decide +kernel
theorem q_ne10 : ∀ j, j < 14 → 10 ≠ j → nL[(nePl.getD 10 []).getD j 0]? = some (Cond.not (Cond.eq (tmL 10) (tmL j))) ∨ nL[(nePl.getD 10 []).getD j 0]? = some (Cond.not (Cond.eq (tmL j) (tmL 10))) := by decide +kernel
theorem q_ne11 : ∀ j, j < 14 → 11 ≠ j → nL[(nePl.getD 11 []).getD j 0]? = some (Cond.not (Cond.eq (tmL 11) (tmL j))) ∨ nL[(nePl.getD 11 []).getD j 0]? = some (Cond.not (Cond.eq (tmL j) (tmL 11))) := by decide +kernel
theorem q_ne12 : ∀ j, j < 14 → 12 ≠ j → nL[(nePl.getD 12 []).getD j 0]? = some (Cond.not (Cond.eq (tmL 12) (tmL j))) ∨ nL[(nePl.getD 12 []).getD j 0]? = some (Cond.not (Cond.eq (tmL j) (tmL 12))) := by decide +kernel
theorem q_ne13 : ∀ j, j < 14 → 13 ≠ j → nL[(nePl.getD 13 []).getD j 0]? = some (Cond.not (Cond.eq (tmL 13) (tmL j))) ∨ nL[(nePl.getD 13 []).getD j 0]? = some (Cond.not (Cond.eq (tmL j) (tmL 13))) := by decide +kernel
theorem q_ne (i : Nat) (hi : i < 14) (j : Nat) (hj : j < 14) (h : i ≠ j) : Cond.not (Cond.eq (tmL i) (tmL j)) ∈ nL ∨ Cond.not (Cond.eq (tmL j) (tmL i)) ∈ nL := by
  have key : nL[(nePl.getD i []).getD j 0]? = some (Cond.not (Cond.eq (tmL i) (tmL j))) ∨ nL[(nePl.getD i []).getD j 0]? = some (Cond.not (Cond.eq (tmL j) (tmL i))) := by
    rcases (show i = 0 ∨ i = 1 ∨ i = 2 ∨ i = 3 ∨ i = 4 ∨ i = 5 ∨ i = 6 ∨ i = 7 ∨ i = 8 ∨ i = 9 ∨ i = 10 ∨ i = 11 ∨ i = 12 ∨ i = 13 by omega) with e | e | e | e | e | e | e | e | e | e | e | e | e | e <;> subst e
    · exact q_ne0 j hj h
    · exact q_ne1 j hj h
    · exact q_ne2 j hj h
    · exact q_ne3 j hj h
    · exact q_ne4 j hj h
    · exact q_ne5 j hj h
    · exact q_ne6 j hj h
    · exact q_ne7 j hj h
    · exact q_ne8 j hj h
    · exact q_ne9 j hj h
    · exact q_ne10 j hj h
    · exact q_ne11 j hj h
    · exact q_ne12 j hj h
    · exact q_ne13 j hj h
  exact key.imp (fun q => List.mem_of_getElem? q) (fun q => List.mem_of_getElem? q)
theorem q_sm : ∀ e ∈ sTl, e.2.2.1 < 14 ∧ (Term.string (cN e.1) e.2.1 = tmL e.2.2.1 ∨ Cond.eq (tmL e.2.2.1) (.string (cN e.1) e.2.1) ∈ nL) := by decide +kernel
theorem en_start (l : Launch) {b : Nat} {s : State} (hts : ∀ w ∈ lw_tbl, w.before #[Value.ref b] s = true) (hgv : (Jvm.Cond.and given_1 narrow_1).before #[Value.ref b] s = true) : ∃ g : GG, gL g = l ∧ gB g = s.heap.size ∧ gS g 2000 = b ∧ EnU g s s.heap := by
  have hG : ∀ w ∈ GT, w.before #[Value.ref b] s = true := fun w hw => hts w (List.mem_filter.mp hw).1
  have hN : ∀ w ∈ nL, w.before #[Value.ref b] s = true := flat_of_before _ hgv
  have hp : ∀ (i : Nat) (w : Cond), lw_tbl[i]? = some w → w.before #[Value.ref b] s = true := fun i w h => hts w (List.mem_of_getElem? h)
  obtain ⟨dd, hdd⟩ := Classical.axiomOfChoice (en_13 hG)
  obtain ⟨c0, k0, z0, f0, g0, i0⟩ := Cond.arrayClass_spec (hG _ ac_i)
  obtain ⟨c1, k1, z1, f1, g1, i1⟩ := Cond.arrayClass_spec (hp 546 (.arrayClass .short) (by decide +kernel))
  obtain ⟨p2, c2, f2, g2, i2⟩ := ao_spec (hp 115 (.arrayOver (.array .int)) (by decide +kernel))
  obtain ⟨p3, c3, f3, g3, i3⟩ := ao_spec (hp 535 (.arrayOver (.array .short)) (by decide +kernel))
  cases (show s.vm.findClass "[I" = some c0 from f0).symm.trans f2
  cases (show s.vm.findClass "[S" = some c1 from f1).symm.trans f3
  have hA : ∀ a : Nat, a < s.heap.size → ¬ (fun q => s.heap.size ≤ q) a := fun a ha => Nat.not_le.mpr ha
  obtain ⟨adK, adV, hS, hev⟩ := vk_Sof (tm := tmL) (len := tLn) (byt := tBy) (A := fun q => s.heap.size ≤ q) q_len (fun i hi => hN _ (q_ex i hi)) (fun i hi => hN _ (q_co i hi)) (fun i hi => hN _ (q_ar i hi)) (fun i hi => hN _ (q_le i hi)) (fun i hi j hj => hN _ (q_el i hi j hj))
    (fun i j hi hj h => (q_ne i hi j hj h).imp (fun q => hN _ q) (fun q => hN _ q)) hA
  have hZ1 := va_Zof (A := fun q => s.heap.size ≤ q) (hp 795 (.laysStatic "java/lang/String" "COMPACT_STRINGS" "Z") (by decide +kernel)) (hp 88 (.initialized "java/lang/String") (by decide +kernel)) (va_eqi (hN (.eq (.static "java/lang/String" "COMPACT_STRINGS" "Z") (.int 1)) (by decide +kernel))) hA
  have hZ2 := va_Zqof (A := fun q => s.heap.size ≤ q) (hp 811 (.laysStatic "jdk/internal/util/Preconditions" "SIOOBE_FORMATTER" "Ljava/util/function/BiFunction;") (by decide +kernel)) (hp 90 (.initialized "jdk/internal/util/Preconditions") (by decide +kernel)) (hN (.isRef (.static "jdk/internal/util/Preconditions" "SIOOBE_FORMATTER" "Ljava/util/function/BiFunction;")) (by decide +kernel)) hA
  obtain ⟨z, hz, hz2⟩ : ∃ z : Value, va_Z "jdk/internal/util/Preconditions" "SIOOBE_FORMATTER" "Ljava/util/function/BiFunction;" z (fun q => s.heap.size ≤ q) s s.heap ∧ (z = .null ∨ ∃ t, z = .ref t) := by
    rcases hZ2 with h | ⟨t, h⟩
    · exact ⟨_, h, Or.inl rfl⟩
    · exact ⟨_, h, Or.inr ⟨t, rfl⟩⟩
  let fS : Nat → Nat := fun i => if i < 1000 then adK i else if i < 2000 then adV (i - 1000) else b
  have eK : ∀ i, i < 14 → fS i = adK i := fun i hi => by show (if i < 1000 then _ else _) = _; rw [if_pos (by omega)]
  have eV : ∀ i, i < 14 → fS (1000 + i) = adV i := fun i hi => by show (if 1000 + i < 1000 then _ else if 1000 + i < 2000 then _ else _) = _; rw [if_neg (by omega), if_pos (by omega), show 1000 + i - 1000 = i by omega]
  refine ⟨(l, ((fun c => (dd c).1), fun c => (dd c).2), s.heap.size, (fun k => [c0, c1, c2, c3].getD k 0), fS, z), rfl, rfl, ?_, ?_, ?_, ?_, ?_, hZ1, hz, hz2, Nat.le_refl _, g2, g3⟩
  · show (if 2000 < 1000 then adK 2000 else if 2000 < 2000 then adV (2000 - 1000) else b) = b
    rw [if_neg (by omega), if_neg (by omega)]
  · refine ⟨fun c q hq => ?_, fun k q hq => ?_⟩
    · have hc : c < 13 := (List.getElem?_eq_some_iff.mp hq).1
      rw [vw_at c hc] at hq
      cases hq
      exact hdd c hc
    · have hk : k < 4 := (List.getElem?_eq_some_iff.mp hq).1
      obtain ⟨k2, a2, b2⟩ := g2
      obtain ⟨k3, a3, b3⟩ := g3
      rcases (show k = 0 ∨ k = 1 ∨ k = 2 ∨ k = 3 by omega) with e | e | e | e <;> subst e <;> cases hq
      · exact ⟨fun n z => ⟨fun k h => (by cases h), k0, g0, z0, i0⟩, f0⟩
      · exact ⟨fun n z => ⟨fun k h => (by cases h), k1, g1, z1, i1⟩, f1⟩
      · exact ⟨fun n z => ⟨fun k h => (by cases h), k2, a2, _, b2⟩, i2⟩
      · exact ⟨fun n z => ⟨fun k h => (by cases h), k3, a3, _, b3⟩, i3⟩
  · intro e he
    exact va_Nw.of (A := #[Value.ref b]) rfl (hp _ _ (n_in e he))
  · intro e he
    obtain ⟨hl, hq⟩ := q_sm e he
    have h1 : (Term.string (cN e.1) e.2.1).eval #[Value.ref b] s none [] s = some (.ref (adK e.2.2.1)) := by
      rcases hq with h | h
      · rw [h]; exact hev _ hl
      · exact va_eqR (hN _ h) (hev _ hl)
    rw [← eK _ hl] at h1
    exact vk_R.of (A := #[Value.ref b]) (hp _ _ (s_in e he)) h1
  · refine ⟨fun i hi => ?_, fun i j hi hj h => ?_⟩
    · have h := hS.1 i hi
      show va_O _ (fS i) _ _ _ ∧ va_OF _ _ _ _ (fS i) _ _ _ ∧ va_OF _ _ _ (.ref (fS (1000 + i))) (fS i) _ _ _ ∧ va_T _ (fS (1000 + i)) _ _ _ _ _
      rw [eK i hi, eV i hi]
      exact h
    · have h2 : fS i = fS j := h
      rw [eK i hi, eK j hj] at h2
      exact hS.2 i j hi hj h2
