/-! WHAT HOLDS AT THE LAW'S ENTRY (EnU), out of the Statement's words. -/
theorem ao_spec {args : Array Value} {s : State} {t : FieldType} (h : (Cond.arrayOver (.array t)).before args s = true) : ∃ (comp cA : ClassId), s.vm.findClass (FieldType.array t).toString = some comp ∧ kO s cA comp (.array t) ∧ s.vm.findClass ("[" ++ (FieldType.array t).toString) = some cA := by
  simp only [Cond.before, Cond.holds, Cond.value, beq_iff_eq] at h
  rcases hq : s.vm.findClass (FieldType.array t).toString with - | comp
  · rw [hq] at h; simp at h
  · rw [hq] at h
    simp only [Option.bind_some, Option.bind_eq_some_iff, Option.map_eq_some_iff] at h
    obtain ⟨cA, hi, k, hk, hz⟩ := h
    have hp := (Array.findIdx?_eq_some_iff_getElem.mp hi).2.1
    rw [(Array.getElem?_eq_some_iff.mp hk).2] at hp
    cases e : k.kind with
    | array q ty =>
      rw [e] at hp hz
      simp at hp hz
      exact ⟨comp, cA, rfl, ⟨k, hk, by rw [e, hp, hz.1]⟩, hz.2⟩
    | _ => rw [e] at hz; simp at hz
def tmL (i : Nat) : Term := [Term.string "DinnerBoxes$LawReader" 37, .string "DinnerBoxes$LawReader" 46, .string "DinnerBoxes$LawReader" 126, .string "DinnerBoxes$LawReader" 128, .string "DinnerBoxes$LawReader" 130, .string "DinnerBoxes$LawReader" 85, .string "DinnerBoxes$LawReader" 87, .string "DinnerBoxes$LawReader" 89, .string "DinnerBoxes$LawReader" 91, .string "DinnerBoxes$LawReader" 93, .string "DinnerBoxes$LawReader" 59, .string "DinnerBoxes$LawReader" 61, .string "DinnerBoxesModel" 31, .string "DinnerBoxesModel" 163].getD i (.arg 0)
theorem vw_at : ∀ c, c < 13 → vwCl[c]? = some (cN c, cT c, cNf c) := by
  intro c hc
  rcases (show c = 0 ∨ c = 1 ∨ c = 2 ∨ c = 3 ∨ c = 4 ∨ c = 5 ∨ c = 6 ∨ c = 7 ∨ c = 8 ∨ c = 9 ∨ c = 10 ∨ c = 11 ∨ c = 12 by omega) with e | e | e | e | e | e | e | e | e | e | e | e | e <;> subst e <;> rfl
theorem en_13 {s : State} {args : Array Value} (hG : ∀ w ∈ GT, w.before args s = true) (c : Nat) : ∃ q : ClassId × (Nat → Nat), c < 13 → u_Kn s (cN c) (cT c) (cNf c) q.1 q.2 := by
  by_cases hc : c < 13
  · rcases (show c = 0 ∨ c = 1 ∨ c = 2 ∨ c = 3 ∨ c = 4 ∨ c = 5 ∨ c = 6 ∨ c = 7 ∨ c = 8 ∨ c = 9 ∨ c = 10 ∨ c = 11 ∨ c = 12 by omega) with e | e | e | e | e | e | e | e | e | e | e | e | e <;> subst e
    · obtain ⟨a, b, h⟩ := u_known hG inX0 (hG _ wi_0); exact ⟨(a, b), fun _ => h⟩
    · obtain ⟨a, b, h⟩ := u_known hG inX1 (hG _ wi_1); exact ⟨(a, b), fun _ => h⟩
    · obtain ⟨a, b, h⟩ := u_known hG inX2 (hG _ wi_2); exact ⟨(a, b), fun _ => h⟩
    · obtain ⟨a, b, h⟩ := u_known hG inX3 (hG _ wi_3); exact ⟨(a, b), fun _ => h⟩
    · obtain ⟨a, b, h⟩ := u_known hG inX4 (hG _ wi_4); exact ⟨(a, b), fun _ => h⟩
    · obtain ⟨a, b, h⟩ := u_known hG inX5 (hG _ wi_5); exact ⟨(a, b), fun _ => h⟩
    · obtain ⟨a, b, h⟩ := u_known hG inX6 (hG _ wi_6); exact ⟨(a, b), fun _ => h⟩
    · obtain ⟨a, b, h⟩ := u_known hG inX7 (hG _ wi_7); exact ⟨(a, b), fun _ => h⟩
    · obtain ⟨a, b, h⟩ := u_known hG inX8 (hG _ wi_8); exact ⟨(a, b), fun _ => h⟩
    · obtain ⟨a, b, h⟩ := u_known hG inX9 (hG _ wi_9); exact ⟨(a, b), fun _ => h⟩
    · obtain ⟨a, b, h⟩ := u_known hG inX10 (hG _ wi_10); exact ⟨(a, b), fun _ => h⟩
    · obtain ⟨a, b, h⟩ := u_known hG inX11 (hG _ wi_11); exact ⟨(a, b), fun _ => h⟩
    · obtain ⟨a, b, h⟩ := u_known hG inX12 (hG _ wi_12); exact ⟨(a, b), fun _ => h⟩
  · exact ⟨(0, fun _ => 0), fun h => absurd h hc⟩
theorem n_in : ∀ e ∈ nTl, lw_tbl[e.2.2.2]? = some (nW e) := by decide +kernel
theorem s_in : ∀ e ∈ sTl, lw_tbl[e.2.2.2]? = some (sW e) := by decide +kernel
