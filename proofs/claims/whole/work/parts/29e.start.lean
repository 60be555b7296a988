/-! THE START: the claim's walk out of an invariant that holds behind the constructors and that every one of the 38 calls keeps. -/
theorem start_if {Iv : Nat → LX → Prop} (hI : Iv 146 XI) (hJ : ∀ (g : GG) (xs : Nat → Int32), JAll g Iv xs) {p : Program} {e : Env} {s : State} {m : MethodId} {below : List Frame} {meth : Method} {c : Code} {b Ln : Nat} {xs : Nat → Int32} (l : Launch) (hbd : Ln ≤ 3072) (A : lw_At p s m meth c b Ln xs) :
    W p l e room_1 s m #[Value.ref b] below meth c s.heap [] 0 0 (lw_Z below #[Value.ref b] s) (entryFrame m ([Value.ref b] : List Value).toArray 4) := by
  obtain ⟨h1, h2, h3, h4, h5, h6, h7, h8, h9, h10⟩ := A
  obtain ⟨g, gl, gb, gs, hE⟩ := en_start l h6 h10
  subst gl
  have K := law_head (law_loop (g := g) (xs := xs) (Ln := Ln) hbd (hJ g xs) Ln 0 146 XI (by omega) (by omega) (by omega) (by omega) hI)
  have hpv : pV g (.ref 3000) = .ref b := by rw [pA_s, gs]
  have hl := lv_entry [Value.ref b] (n := 4) (by rw [lg_sl_1 _ (fun v hv => by rw [List.mem_singleton.mp hv]; rfl)]; exact Nat.le_of_ble_eq_true rfl)
  rw [lg_entry_eq]
  refine K p e s m #[Value.ref b] below meth c ⟨h1, h2, h4, h3, h9, h5, fun w hw => h6 w (List.mem_filter.mp hw).1, hE, fun h => absurd h (by decide)⟩ ⟨by rw [gs]; exact h7, by rw [gs, gb]; exact h8, gb⟩ (Nat.le_refl _) s.heap [] _ ⟨by rw [gb]; rfl, fun k q hq => by rw [wl_none (by omega)] at hq; cases hq⟩ va_S.rf ⟨hl.1, hl.2.1, fun i v hi => ?_⟩
  have hi0 : i = 0 := by
    rcases (show i = 0 ∨ i = 1 ∨ i = 2 ∨ i = 3 ∨ 4 ≤ i by omega) with e | e | e | e | e
    · exact e
    · subst e; cases hi
    · subst e; cases hi
    · subst e; cases hi
    · rw [List.getElem?_eq_none (by show 4 ≤ i; exact e)] at hi; cases hi
  subst hi0
  cases hi
  rw [hpv]
  refine ⟨rfl, ?_⟩
  have h4 := lv_args_1 [Value.ref b] 0 (fun v hv => by rw [List.mem_singleton.mp hv]; rfl) 0 _ rfl
  exact hl.2.2 _ h4
