/-! NEEDS of today are alike on both sides. -/
theorem sum_mul {F : Nat → Int32} {c : Int32} : ∀ {N : Nat}, sumTo F N * c = sumTo (fun i => F i * c) N
  | 0 => by show (0 : Int32) * c = 0; exact Int32.zero_mul
  | N + 1 => by
    show (sumTo F N + F N) * c = sumTo (fun i => F i * c) N + F N * c
    rw [Int32.add_mul, sum_mul]
theorem sum_ext {F : Nat → Int32} {M : Nat} : ∀ {j : Nat}, (∀ i, M ≤ i → i < M + j → F i = 0) → sumTo F (M + j) = sumTo F M
  | 0, _ => rfl
  | j + 1, h => by
    show sumTo F (M + j) + F (M + j) = sumTo F M
    rw [h (M + j) (by omega) (by omega), Int32.add_zero, sum_ext (fun i h1 h2 => h i h1 (by omega))]
theorem sum_one {F : Nat → Int32} {p N : Nat} (hp : p < N) (h : ∀ i, i < N → i ≠ p → F i = 0) : sumTo F N = F p := by
  rw [sum_out hp, sum_0 (fun i hi => by
    by_cases e : i = p
    · rw [if_pos e]
    · rw [if_neg e]; exact h i hi e), Int32.zero_add]
section NEQ
variable {LR : LX → (Nat → Int32) → Prop} {X : LX}
theorem ndk_out {f m : Nat} {r : Nat → Int32} : ∀ {k : Nat}, (∀ t, t < k → mQ X m t < 14) → ∀ {j : Nat}, j < 14 * f ∨ 14 * f + 14 ≤ j → ndk X f m r k j = r j
  | 0, _, _, _ => rfl
  | k + 1, hq, j, hj => by
    unfold ndk
    have := hq k (Nat.lt_succ_self k)
    rw [pk_un (by omega)]
    exact ndk_out (fun t ht => hq t (Nat.lt_succ_of_lt ht)) hj
theorem ndk_val {f m p : Nat} {r : Nat → Int32} : ∀ {k : Nat}, ndk X f m r k (14 * f + p) = r (14 * f + p) + sumTo (fun t => if mQ X m t = p then X 134 (318 + 13 * m + (8 + t)) * X 134 (448 + 15 * f + 1) else 0) k
  | 0 => by show r _ = r _ + 0; rw [Int32.add_zero]
  | k + 1 => by
    unfold ndk
    show _ = r (14 * f + p) + (sumTo (fun t => if mQ X m t = p then X 134 (318 + 13 * m + (8 + t)) * X 134 (448 + 15 * f + 1) else 0) k + if mQ X m k = p then X 134 (318 + 13 * m + (8 + k)) * X 134 (448 + 15 * f + 1) else 0)
    rw [← Int32.add_assoc, ← ndk_val]
    by_cases e : mQ X m k = p
    · rw [if_pos e, e, pk_us]
    · rw [if_neg e, pk_un (by omega), Int32.add_zero]
theorem ndm_out {f : Nat} {box : Int32} {r : Nat → Int32} (hk : ∀ m, m < 10 → okM X m) : ∀ {i : Nat}, i ≤ 10 → ∀ {j : Nat}, j < 14 * f ∨ 14 * f + 14 ≤ j → ndm X f box r i j = r j
  | 0, _, _, _ => rfl
  | i + 1, hi, j, hj => by
    unfold ndm
    by_cases c : hb box i
    · rw [if_pos c, ndk_out (fun t ht => ((hk i (by omega)).q t ht).2) hj]
      exact ndm_out hk (by omega) hj
    · rw [if_neg c]
      exact ndm_out hk (by omega) hj
theorem ndm_val {f p : Nat} {box : Int32} {r : Nat → Int32} : ∀ {i : Nat}, ndm X f box r i (14 * f + p) = r (14 * f + p) + sumTo (fun m => if hb box m then sumTo (fun t => if mQ X m t = p then X 134 (318 + 13 * m + (8 + t)) * X 134 (448 + 15 * f + 1) else 0) (mMany X m) else 0) i
  | 0 => by show r _ = r _ + 0; rw [Int32.add_zero]
  | i + 1 => by
    unfold ndm
    show _ = r (14 * f + p) + (sumTo (fun m => if hb box m then sumTo (fun t => if mQ X m t = p then X 134 (318 + 13 * m + (8 + t)) * X 134 (448 + 15 * f + 1) else 0) (mMany X m) else 0) i + if hb box i then sumTo (fun t => if mQ X i t = p then X 134 (318 + 13 * i + (8 + t)) * X 134 (448 + 15 * f + 1) else 0) (mMany X i) else 0)
    rw [← Int32.add_assoc, ← ndm_val]
    by_cases c : hb box i
    · rw [if_pos c, if_pos c, ndk_val]
    · rw [if_neg c, if_neg c, Int32.add_zero]
theorem ndf_out (hk : ∀ m, m < 10 → okM X m) {r : Nat → Int32} : ∀ {i : Nat} {j : Nat}, 14 * i ≤ j → ndf X r i j = r j
  | 0, _, _ => rfl
  | i + 1, j, hj => by
    unfold ndf
    rw [ndm_out hk (by omega) (Or.inr (by omega))]
    exact ndf_out hk (by omega)
theorem ndf_val (hk : ∀ m, m < 10 → okM X m) {r : Nat → Int32} {f p : Nat} (hp : p < 14) : ∀ {i : Nat}, f < i → ndf X r i (14 * f + p) = r (14 * f + p) + sumTo (fun m => if hb (mBox X f) m then sumTo (fun t => if mQ X m t = p then X 134 (318 + 13 * m + (8 + t)) * X 134 (448 + 15 * f + 1) else 0) (mMany X m) else 0) 10
  | 0, h => absurd h (Nat.not_lt_zero _)
  | i + 1, h => by
    unfold ndf
    by_cases e : f = i
    · subst e
      rw [ndm_val, ndf_out hk (by omega)]
    · rw [ndm_out hk (by omega) (Or.inl (by omega))]
      exact ndf_val hk hp (by omega)
/-- a part's grams in a meal, times portions -/
theorem meal_p {m : Nat} (h : mealR X (X 134) m) {p : Nat} (hp : p < 14) (c : Int32) : sumTo (fun t => if mQ X m t = p then X 134 (318 + 13 * m + (8 + t)) * c else 0) (mMany X m) = X (26 + 1 + m) p * c := by
  obtain ⟨k, q, hk, e, h1, hi, h3⟩ := h
  have eq : ∀ t, t < k → mQ X m t = q t := fun t ht => by unfold mQ; rw [(h1 t ht).1, ix_nI (by have := (h1 t ht).2.1; omega)]
  unfold mMany
  rw [e, ix_nI (by omega)]
  rw [← sum_list (N := 14) (F := fun i => if i = p then X (26 + 1 + m) i * c else 0) (q := q) (fun t ht => (h1 t ht).2.1) hi (fun t ht => by
    show (if q t = p then _ else _) = (if mQ X m t = p then _ else _)
    rw [eq t ht]
    by_cases z : q t = p
    · rw [if_pos z, if_pos z, (h1 t ht).2.2.2.2.2]
    · rw [if_neg z, if_neg z]) (fun i hi2 hn => by
    show (if i = p then _ else _) = _
    by_cases z : i = p
    · rw [if_pos z, h3 i hi2 hn, Int32.zero_mul]
    · rw [if_neg z])]
  rw [sum_one hp (fun i _ z => if_neg z), if_pos rfl]
theorem need_eq (hK : KR LR X (X 134)) {f p : Nat} (hf : f < 12) (hlt : nI f < X 134 6) (hp : p < 14) : mNd X (14 * f + p) = cNeed X f (cBox X f) p := by
  obtain ⟨⟨-, -, -, -, -, -, e6, -⟩, -, -, -, -, ⟨F, hF, ef⟩, -⟩ := hK.1
  obtain ⟨M, hM, e23, e5, eix, -⟩ := hK.meals
  have hok : ∀ m, m < 10 → okM X m := fun m hm => ok_meal (hK.2.2.2.1 m hm).2.2.2
  have hfF : f < F := by rw [ef, nI_lt_iff (by omega) (by omega)] at hlt; exact hlt
  obtain ⟨b, hb0, eb⟩ := box_lt hK hf hlt
  rw [eix] at hb0
  have c1 := ((hK.2.2.2.2.1 f hf).1 hlt).2.1
  unfold mNd cNeed
  rw [ef, ix_nI (by omega), ndf_val hok hp hfF, box_eq hK hf hlt, e23, ix_nI (by omega), sum_mul]
  have z0 : fillTo (X 140) 0 168 (14 * f + p) = 0 := by unfold fillTo; rw [if_pos (by omega)]
  rw [z0, Int32.zero_add]
  have hM10 : (10 : Nat) = M + (10 - M) := by omega
  rw [hM10, sum_ext (fun i h1 h2 => by
    rw [if_neg (fun w => ?_)]
    rw [eb] at w
    have := hb_lt hb0 (by omega) w
    omega)]
  refine sum_cg (fun m hm => ?_)
  rw [meal_p (hK.2.2.2.1 m (by omega)).2.2.2 hp, c1]
  by_cases w : hb (mBox X f) m
  · rw [if_pos w, if_neg ((nb_hb (by omega)).mpr w)]
  · rw [if_neg w, if_pos ((nh_nb (by omega)).mp w), Int32.zero_mul]
theorem needall_eq (hK : KR LR X (X 134)) {p : Nat} (hp : p < 14) : cNeedAll X p = mNeedAll (lx_row X 140 (mNd X)) p := by
  obtain ⟨⟨-, -, -, -, -, -, e6, -⟩, -, -, -, -, ⟨F, hF, ef⟩, -⟩ := hK.1
  unfold cNeedAll mNeedAll
  rw [lx_row_self, lx_row_ne _ _ _ (show 134 ≠ 140 by omega), e6, ef, ix_nI (by omega)]
  exact sum_cg (fun f hf => (need_eq hK (by omega) (by rw [ef, nI_lt_iff (by omega) (by omega)]; exact hf) hp).symm)
end NEQ
