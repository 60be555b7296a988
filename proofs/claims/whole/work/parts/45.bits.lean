/-! BITS of an int (the family bt of the kit's laws/BITS.to-paste, as it stands there), and the class's and the model's tests of a bit. -/
def bt (x : Int32) (i : Nat) : Bool := x.toBitVec.getLsbD i
theorem b_ext {x y : Int32} (h : ∀ i, i < 32 → bt x i = bt y i) : x = y := Int32.toBitVec_inj.mp (BitVec.eq_of_getLsbD_eq (fun i hi => h i hi))
theorem b_or (x y : Int32) (i : Nat) : bt (x ||| y) i = (bt x i || bt y i) := by unfold bt; rw [Int32.toBitVec_or, BitVec.getLsbD_or]
theorem b_and (x y : Int32) (i : Nat) : bt (x &&& y) i = (bt x i && bt y i) := by unfold bt; rw [Int32.toBitVec_and, BitVec.getLsbD_and]
theorem b_xor (x y : Int32) (i : Nat) : bt (x ^^^ y) i = (bt x i ^^ bt y i) := by unfold bt; rw [Int32.toBitVec_xor, BitVec.getLsbD_xor]
theorem b_big {x : Int32} {i : Nat} (h : 32 ≤ i) : bt x i = false := BitVec.getLsbD_of_ge _ _ h
theorem b_m1 : ∀ i, i < 32 → bt (-1) i = true := by decide +kernel
theorem b_0 (i : Nat) : bt 0 i = false := BitVec.getLsbD_zero
theorem s_l : ∀ n, n < 32 → ((nI n &&& 31).toBitVec.smod 32).toNat = n := by decide +kernel
theorem s_u : ∀ n, n < 32 → (((nI n).toUInt32 &&& Int32.toUInt32 31).toBitVec % 32).toNat = n := by decide +kernel
theorem b_shl (n : Nat) (hn : n < 32) (x : Int32) {i : Nat} (hi : i < 32) : bt (x <<< (nI n &&& 31)) i = (decide (n ≤ i) && bt x (i - n)) := by
  unfold bt
  rw [Int32.toBitVec_shiftLeft]
  show (x.toBitVec <<< ((nI n &&& 31).toBitVec.smod 32).toNat).getLsbD i = _
  rw [s_l n hn, BitVec.getLsbD_shiftLeft]
  rcases Nat.lt_or_ge i n with h | h
  · simp [h, Nat.not_le.mpr h]
  · simp [hi, h, Nat.not_lt.mpr h]
theorem b_ushr (n : Nat) (hn : n < 32) (x : Int32) (i : Nat) : bt ((x.toUInt32 >>> ((nI n).toUInt32 &&& Int32.toUInt32 31)).toInt32) i = bt x (n + i) := by
  show (x.toUInt32 >>> ((nI n).toUInt32 &&& Int32.toUInt32 31)).toBitVec.getLsbD i = x.toUInt32.toBitVec.getLsbD (n + i)
  rw [UInt32.toBitVec_shiftRight]
  show (x.toUInt32.toBitVec >>> (((nI n).toUInt32 &&& Int32.toUInt32 31).toBitVec % 32).toNat).getLsbD i = _
  rw [s_u n hn, BitVec.getLsbD_ushiftRight]
theorem b_sshr (n : Nat) (hn : n < 32) (x : Int32) {i : Nat} (hi : i < 32) : bt (x >>> (nI n &&& 31)) i = if n + i < 32 then bt x (n + i) else bt x 31 := by
  unfold bt
  rw [Int32.toBitVec_shiftRight]
  show (x.toBitVec.sshiftRight ((nI n &&& 31).toBitVec.smod 32).toNat).getLsbD i = _
  rw [s_l n hn, BitVec.getLsbD_sshiftRight, BitVec.msb_eq_getLsbD_last]
  simp [hi]
theorem b_1 : ∀ i, i < 32 → bt 1 i = decide (i = 0) := by decide +kernel
theorem and_1 (x : Int32) : x &&& 1 = if bt x 0 = true then 1 else 0 := by
  apply b_ext
  intro i hi
  rw [b_and, b_1 i hi]
  by_cases h : i = 0
  · subst h
    cases hx : bt x 0
    · simp [b_0]
    · simp [b_1 0 (by omega)]
  · cases hx : bt x 0
    · simp [b_0, h]
    · simp [b_1 i hi, h]
theorem sh_1 {v : Int32} {m : Nat} (hm : m < 32) : (v >>> (nI m &&& 31)) &&& 1 = if bt v m = true then 1 else 0 := by
  have e := b_sshr m hm v (i := 0) (by omega)
  rw [if_pos (by omega), Nat.add_zero] at e
  rw [and_1, e]
theorem hb_bt {v : Int32} {m : Nat} (hm : m < 32) : hb v m ↔ bt v m = true := by
  unfold hb
  rw [sh_1 hm]
  cases bt v m <;> simp
theorem nb_bt {v : Int32} {m : Nat} (hm : m < 32) : nb v m ↔ bt v m = false := by
  unfold nb
  rw [sh_1 hm]
  cases bt v m <;> simp
theorem nb_hb {v : Int32} {m : Nat} (hm : m < 32) : ¬ nb v m ↔ hb v m := by
  rw [nb_bt hm, hb_bt hm]
  cases bt v m <;> simp
theorem nh_nb {v : Int32} {m : Nat} (hm : m < 32) : ¬ hb v m ↔ nb v m := by
  rw [nb_bt hm, hb_bt hm]
  cases bt v m <;> simp
theorem nb_less {v w : Int32} {m : Nat} (hm : m < 32) : ¬ nb (v &&& (w ^^^ (-1))) m ↔ hb v m ∧ ¬ hb w m := by
  rw [nb_bt hm, hb_bt hm, hb_bt hm, b_and, b_xor, b_m1 m hm]
  cases bt v m <;> cases bt w m <;> simp
theorem bt_nI {b m : Nat} (hm : m < 32) : bt (nI b) m = b.testBit m := by
  show (BitVec.ofNat 32 b).getLsbD m = _
  rw [BitVec.getLsbD_ofNat]
  simp [hm]
theorem hb_lt {b M m : Nat} (hb0 : b < 2 ^ M) (hm : m < 32) (h : hb (nI b) m) : m < M := by
  rw [hb_bt hm, bt_nI hm] at h
  rcases Nat.lt_or_ge m M with q | q
  · exact q
  · rw [Nat.testBit_lt_two_pow (Nat.lt_of_lt_of_le hb0 (Nat.pow_le_pow_right (by omega) q))] at h
    cases h
theorem nx_or (a b : Nat) : nI a ||| nI b = nI (a ||| b) := by
  apply Int32.toBitVec_inj.1
  show BitVec.ofNat 32 a ||| BitVec.ofNat 32 b = BitVec.ofNat 32 (a ||| b)
  apply BitVec.eq_of_getLsbD_eq
  intro i hi
  simp [hi]
theorem shr_nI {k M : Nat} (hk : k < 2 ^ 31) (hM : M < 32) : nI k >>> (nI M &&& 31) = nI (k / 2 ^ M) := pk_shrN hk _ M (s_l M hM)
theorem shl_nI {M : Nat} (hM : M < 31) : (1 : Int32) <<< (nI M &&& 31) = nI (2 ^ M) := by
  have h := pk_shlN (n := 1) (nI M &&& 31) M (s_l M (by omega)) (by rw [Nat.one_mul]; exact Nat.pow_lt_pow_right (by omega) (by omega))
  rw [Nat.one_mul] at h
  exact h
/-- bits of no more than M places: the class's and the model's tests -/
theorem bits_iff {v : Int32} {M : Nat} (hM : M ≤ 12) : (0 ≤ v ∧ v >>> (nI M &&& 31) = 0) ↔ (0 ≤ v ∧ v < 1 <<< (nI M &&& 31)) := by
  have hp : 2 ^ M ≤ 2 ^ 12 := Nat.pow_le_pow_right (by omega) hM
  have hp0 : 0 < 2 ^ M := Nat.pow_pos (by omega)
  by_cases h : v < 0
  · have h0 : ¬ 0 ≤ v := Int32.not_le.mpr h
    exact ⟨fun w => absurd w.1 h0, fun w => absurd w.1 h0⟩
  · obtain ⟨k, hk, rfl⟩ := nI_of h
    rw [shr_nI hk (by omega), shl_nI (by omega), ← nI_0, nI_eq (Nat.lt_of_le_of_lt (Nat.div_le_self _ _) hk) (by omega), nI_ltI hk (by omega)]
    refine and_congr_right (fun _ => ?_)
    rw [Nat.div_eq_zero_iff]
    omega
theorem bits_num {v : Int32} {M : Nat} (hM : M ≤ 12) (h : 0 ≤ v ∧ v >>> (nI M &&& 31) = 0) : ∃ b, b < 2 ^ M ∧ v = nI b := by
  have hp : 2 ^ M ≤ 2 ^ 12 := Nat.pow_le_pow_right (by omega) hM
  have h2 := (bits_iff hM).mp h
  obtain ⟨k, hk, rfl⟩ := nI_of (Int32.not_lt.mpr h.1)
  rw [shl_nI (by omega), nI_ltI hk (by omega)] at h2
  exact ⟨k, h2.2, rfl⟩
