/-! CALLS IN A METHOD THAT MAKES NO CELL: the callee's answer and heap as terms (rt, rv). -/
def rt (e : Int32) (H : LX) : Option Value → LX → Prop := fun v X => v = some (.int e) ∧ X = H
def rv (H : LX) : Option Value → LX → Prop := fun v X => v = none ∧ X = H
def rr (r : Nat) (H : LX) : Option Value → LX → Prop := fun v X => v = some (.ref r) ∧ X = H
section CALLS0
variable {g : GG} {M Mc : Mt} {d d' n pc r i : Nat} {post : Option Value → LX → Prop} {L : List (Option Value)} {st as rest : List Value} {X H1 : LX} {e : Int32}
theorem e_Vi (hd : decode (mC M) pc = .ok (.invokevirtual i, 3)) (hM : vM Mc) (hw1 : Cond.methodLink (mY M).cls i (mY Mc) ∈ GT) (hw2 : Cond.instanceMethod (mY Mc) ∈ GT) (hw3 : Cond.selects (mY Mc).cls (mY Mc) (mY Mc) ∈ GT)
    (hnp : (parseMethodDescriptor (mY Mc).desc).map (fun d => d.parameters.length) = some as.length) (hrc : rcv g n X r (mY Mc).cls) (hL : mL Mc ≤ 45) (hst : st = as.reverse ++ .ref r :: rest) (hs8 : (rest.map fun v => v.category).sum ≤ 8) (hdd : d' + 1 ≤ d)
    (hEx : Ex g Mc d' n n (.ref r :: as) X (rt e H1)) (k : Ev g M d n n post n (pc + 3) L (.int e :: rest) H1) : Ev g M d n n post n pc L st X :=
  ev_callV hd hM hw1 hw2 hw3 hnp hrc hdd (by show 64 * (d' + 1) ≤ 64 * d; omega) hL hst hs8 (Nat.le_refl n) (Nat.le_refl _) (Nat.le_refl _) hEx (fun v X1 h => by obtain ⟨rfl, rfl⟩ := h; exact k)
theorem e_Vv (hd : decode (mC M) pc = .ok (.invokevirtual i, 3)) (hM : vM Mc) (hw1 : Cond.methodLink (mY M).cls i (mY Mc) ∈ GT) (hw2 : Cond.instanceMethod (mY Mc) ∈ GT) (hw3 : Cond.selects (mY Mc).cls (mY Mc) (mY Mc) ∈ GT)
    (hnp : (parseMethodDescriptor (mY Mc).desc).map (fun d => d.parameters.length) = some as.length) (hrc : rcv g n X r (mY Mc).cls) (hL : mL Mc ≤ 45) (hst : st = as.reverse ++ .ref r :: rest) (hs8 : (rest.map fun v => v.category).sum ≤ 8) (hdd : d' + 1 ≤ d)
    (hEx : Ex g Mc d' n n (.ref r :: as) X (rv H1)) (k : Ev g M d n n post n (pc + 3) L rest H1) : Ev g M d n n post n pc L st X :=
  ev_callV hd hM hw1 hw2 hw3 hnp hrc hdd (by show 64 * (d' + 1) ≤ 64 * d; omega) hL hst hs8 (Nat.le_refl n) (Nat.le_refl _) (Nat.le_refl _) hEx (fun v X1 h => by obtain ⟨rfl, rfl⟩ := h; exact k)
theorem e_Vr {q : Nat} (hd : decode (mC M) pc = .ok (.invokevirtual i, 3)) (hM : vM Mc) (hw1 : Cond.methodLink (mY M).cls i (mY Mc) ∈ GT) (hw2 : Cond.instanceMethod (mY Mc) ∈ GT) (hw3 : Cond.selects (mY Mc).cls (mY Mc) (mY Mc) ∈ GT)
    (hnp : (parseMethodDescriptor (mY Mc).desc).map (fun d => d.parameters.length) = some as.length) (hrc : rcv g n X r (mY Mc).cls) (hL : mL Mc ≤ 45) (hst : st = as.reverse ++ .ref r :: rest) (hs8 : (rest.map fun v => v.category).sum ≤ 8) (hdd : d' + 1 ≤ d)
    (hEx : Ex g Mc d' n n (.ref r :: as) X (rr q H1)) (k : Ev g M d n n post n (pc + 3) L (.ref q :: rest) H1) : Ev g M d n n post n pc L st X :=
  ev_callV hd hM hw1 hw2 hw3 hnp hrc hdd (by show 64 * (d' + 1) ≤ 64 * d; omega) hL hst hs8 (Nat.le_refl n) (Nat.le_refl _) (Nat.le_refl _) hEx (fun v X1 h => by obtain ⟨rfl, rfl⟩ := h; exact k)
theorem e_Si (hd : decode (mC M) pc = .ok (.invokestatic i, 3)) (hM : vM Mc) (hw1 : Cond.methodLink (mY M).cls i (mY Mc) ∈ GT) (hw2 : Cond.static (mY Mc) ∈ GT)
    (hnp : (parseMethodDescriptor (mY Mc).desc).map (fun d => d.parameters.length) = some as.length) (hL : mL Mc ≤ 45) (hst : st = as.reverse ++ rest) (hs8 : (rest.map fun v => v.category).sum ≤ 8) (hdd : d' + 1 ≤ d)
    (hEx : Ex g Mc d' n n as X (rt e H1)) (k : Ev g M d n n post n (pc + 3) L (.int e :: rest) H1) : Ev g M d n n post n pc L st X :=
  ev_callS hd hM hw1 hw2 hnp hdd (by show 64 * (d' + 1) ≤ 64 * d; omega) hL hst hs8 (Nat.le_refl n) (Nat.le_refl _) (Nat.le_refl _) hEx (fun v X1 h => by obtain ⟨rfl, rfl⟩ := h; exact k)
theorem e_Sv (hd : decode (mC M) pc = .ok (.invokestatic i, 3)) (hM : vM Mc) (hw1 : Cond.methodLink (mY M).cls i (mY Mc) ∈ GT) (hw2 : Cond.static (mY Mc) ∈ GT)
    (hnp : (parseMethodDescriptor (mY Mc).desc).map (fun d => d.parameters.length) = some as.length) (hL : mL Mc ≤ 45) (hst : st = as.reverse ++ rest) (hs8 : (rest.map fun v => v.category).sum ≤ 8) (hdd : d' + 1 ≤ d)
    (hEx : Ex g Mc d' n n as X (rv H1)) (k : Ev g M d n n post n (pc + 3) L rest H1) : Ev g M d n n post n pc L st X :=
  ev_callS hd hM hw1 hw2 hnp hdd (by show 64 * (d' + 1) ≤ 64 * d; omega) hL hst hs8 (Nat.le_refl n) (Nat.le_refl _) (Nat.le_refl _) hEx (fun v X1 h => by obtain ⟨rfl, rfl⟩ := h; exact k)
theorem e_Sr {q : Nat} (hd : decode (mC M) pc = .ok (.invokestatic i, 3)) (hM : vM Mc) (hw1 : Cond.methodLink (mY M).cls i (mY Mc) ∈ GT) (hw2 : Cond.static (mY Mc) ∈ GT)
    (hnp : (parseMethodDescriptor (mY Mc).desc).map (fun d => d.parameters.length) = some as.length) (hL : mL Mc ≤ 45) (hst : st = as.reverse ++ rest) (hs8 : (rest.map fun v => v.category).sum ≤ 8) (hdd : d' + 1 ≤ d)
    (hEx : Ex g Mc d' n n as X (rr q H1)) (k : Ev g M d n n post n (pc + 3) L (.ref q :: rest) H1) : Ev g M d n n post n pc L st X :=
  ev_callS hd hM hw1 hw2 hnp hdd (by show 64 * (d' + 1) ≤ 64 * d; omega) hL hst hs8 (Nat.le_refl n) (Nat.le_refl _) (Nat.le_refl _) hEx (fun v X1 h => by obtain ⟨rfl, rfl⟩ := h; exact k)
theorem e_SNi {w : nE} (hd : decode (mC M) pc = .ok (.invokestatic i, 3)) (hM : vM Mc) (hw1 : w ∈ nTl) (hw1a : w.1 = (mY M).cls) (hw1b : w.2.1 = i) (hw1c : w.2.2.1 = mY Mc) (hw2 : Cond.static (mY Mc) ∈ GT)
    (hnp : (parseMethodDescriptor (mY Mc).desc).map (fun d => d.parameters.length) = some as.length) (hL : mL Mc ≤ 45) (hst : st = as.reverse ++ rest) (hs8 : (rest.map fun v => v.category).sum ≤ 8) (hdd : d' + 1 ≤ d)
    (hEx : Ex g Mc d' n n as X (rt e H1)) (k : Ev g M d n n post n (pc + 3) L (.int e :: rest) H1) : Ev g M d n n post n pc L st X :=
  ev_callSN hd hM hw1 hw1a hw1b hw1c hw2 hnp hdd (by show 64 * (d' + 1) ≤ 64 * d; omega) hL hst hs8 (Nat.le_refl n) (Nat.le_refl _) (Nat.le_refl _) hEx (fun v X1 h => by obtain ⟨rfl, rfl⟩ := h; exact k)
theorem e_SNv {w : nE} (hd : decode (mC M) pc = .ok (.invokestatic i, 3)) (hM : vM Mc) (hw1 : w ∈ nTl) (hw1a : w.1 = (mY M).cls) (hw1b : w.2.1 = i) (hw1c : w.2.2.1 = mY Mc) (hw2 : Cond.static (mY Mc) ∈ GT)
    (hnp : (parseMethodDescriptor (mY Mc).desc).map (fun d => d.parameters.length) = some as.length) (hL : mL Mc ≤ 45) (hst : st = as.reverse ++ rest) (hs8 : (rest.map fun v => v.category).sum ≤ 8) (hdd : d' + 1 ≤ d)
    (hEx : Ex g Mc d' n n as X (rv H1)) (k : Ev g M d n n post n (pc + 3) L rest H1) : Ev g M d n n post n pc L st X :=
  ev_callSN hd hM hw1 hw1a hw1b hw1c hw2 hnp hdd (by show 64 * (d' + 1) ≤ 64 * d; omega) hL hst hs8 (Nat.le_refl n) (Nat.le_refl _) (Nat.le_refl _) hEx (fun v X1 h => by obtain ⟨rfl, rfl⟩ := h; exact k)
theorem e_max {x y : Int32} (hd : decode (mC M) pc = .ok (.invokestatic i, 3)) (hw1 : Cond.methodLink (mY M).cls i Lib.Math.max.name ∈ GT) (hw2 : Cond.static Lib.Math.max.name ∈ GT) (hw3 : Cond.initialized "java/lang/Math" ∈ GT) (hw4 : Cond.code Lib.Math.max.name Lib.Math.max.code 2 (some .int) ∈ GT) (hs8 : (rest.map fun v => v.category).sum ≤ 8) (hdd : 1 ≤ d)
    (k : Ev g M d n n post n (pc + 3) L (.int (if x < y then y else x) :: rest) X) : Ev g M d n n post n pc L (.int y :: .int x :: rest) X := by
  intro p e s m args below meth c C hPs hn H locs ls hW hS hl
  refine va_mmax C.1 C.2.1 (C.2.2.1.trans hl.1.symm) C.2.2.2.2.2.1 (C.2.2.2.2.2.2.1 _ hw1) (C.2.2.2.2.2.2.1 _ hw2) (C.2.2.2.2.2.2.1 _ hw3) (C.2.2.2.2.2.2.1 _ hw4) hdd ?_ (Nat.le_refl _) (Nat.le_refl _) hd (k p e s m args below meth c C hPs hn H locs ls hW hS hl)
  have := pV_sum C.2.2.2.2.2.2.2.1 rest
  show ((rest.map (pV g)).map fun v => v.category).sum + 13 ≤ 64 * d
  omega
theorem e_min {x y : Int32} (hd : decode (mC M) pc = .ok (.invokestatic i, 3)) (hw1 : Cond.methodLink (mY M).cls i Lib.Math.min.name ∈ GT) (hw2 : Cond.static Lib.Math.min.name ∈ GT) (hw3 : Cond.initialized "java/lang/Math" ∈ GT) (hw4 : Cond.code Lib.Math.min.name Lib.Math.min.code 2 (some .int) ∈ GT) (hs8 : (rest.map fun v => v.category).sum ≤ 8) (hdd : 1 ≤ d)
    (k : Ev g M d n n post n (pc + 3) L (.int (if y < x then y else x) :: rest) X) : Ev g M d n n post n pc L (.int y :: .int x :: rest) X := by
  intro p e s m args below meth c C hPs hn H locs ls hW hS hl
  refine va_mmin C.1 C.2.1 (C.2.2.1.trans hl.1.symm) C.2.2.2.2.2.1 (C.2.2.2.2.2.2.1 _ hw1) (C.2.2.2.2.2.2.1 _ hw2) (C.2.2.2.2.2.2.1 _ hw3) (C.2.2.2.2.2.2.1 _ hw4) hdd ?_ (Nat.le_refl _) (Nat.le_refl _) hd (k p e s m args below meth c C hPs hn H locs ls hW hS hl)
  have := pV_sum C.2.2.2.2.2.2.2.1 rest
  show ((rest.map (pV g)).map fun v => v.category).sum + 13 ≤ 64 * d
  omega
/-- a contract of a method that makes no cell -/
theorem e_of {av : List Value} (hv : vM M) (hL : av.length ≤ mL M) (hc : ∀ v ∈ av, v.category = 1) (k : Ev g M d n n post n 0 (av.map some ++ List.replicate (mL M - av.length) none) [] X) : Ex g M d n n av X post := ex_of hv hL hc k
end CALLS0
theorem mx_st : Cond.static Lib.Math.max.name ∈ GT := gt_at 746 (by decide +kernel) rfl
theorem mx_in : Cond.initialized "java/lang/Math" ∈ GT := gt_at 86 (by decide +kernel) rfl
theorem mx_co : Cond.code Lib.Math.max.name Lib.Math.max.code 2 (some .int) ∈ GT := gt_at 747 (by decide +kernel) rfl
theorem mn_st : Cond.static Lib.Math.min.name ∈ GT := gt_at 698 (by decide +kernel) rfl
theorem mn_co : Cond.code Lib.Math.min.name Lib.Math.min.code 2 (some .int) ∈ GT := gt_at 699 (by decide +kernel) rfl
theorem npJ6_bitCount_0f7a4 : (parseMethodDescriptor (mY mJ6_bitCount_0f7a4).desc).map (fun d => d.parameters.length) = some 1 := by decide +kernel
theorem npJ9_max_7cf53 : (parseMethodDescriptor (mY mJ9_max_7cf53).desc).map (fun d => d.parameters.length) = some 2 := by decide +kernel
theorem npJ9_min_7cf53 : (parseMethodDescriptor (mY mJ9_min_7cf53).desc).map (fun d => d.parameters.length) = some 2 := by decide +kernel
theorem npJ7_fill_53178 : (parseMethodDescriptor (mY mJ7_fill_53178).desc).map (fun d => d.parameters.length) = some 2 := by decide +kernel
theorem npJ7_fill_fb410 : (parseMethodDescriptor (mY mJ7_fill_fb410).desc).map (fun d => d.parameters.length) = some 2 := by decide +kernel
theorem npJ0_length_8abf5 : (parseMethodDescriptor (mY mJ0_length_8abf5).desc).map (fun d => d.parameters.length) = some 0 := by decide +kernel
theorem npJ0_charAt_5068e : (parseMethodDescriptor (mY mJ0_charAt_5068e).desc).map (fun d => d.parameters.length) = some 1 := by decide +kernel
theorem npJ0_indexOf_0f7a4 : (parseMethodDescriptor (mY mJ0_indexOf_0f7a4).desc).map (fun d => d.parameters.length) = some 1 := by decide +kernel
theorem npJ0_indexOf_7cf53 : (parseMethodDescriptor (mY mJ0_indexOf_7cf53).desc).map (fun d => d.parameters.length) = some 2 := by decide +kernel
theorem npJ0_coder_7d493 : (parseMethodDescriptor (mY mJ0_coder_7d493).desc).map (fun d => d.parameters.length) = some 0 := by decide +kernel
theorem npJ0_isLatin1_aae02 : (parseMethodDescriptor (mY mJ0_isLatin1_aae02).desc).map (fun d => d.parameters.length) = some 0 := by decide +kernel
theorem npJ0_checkIndex_df160 : (parseMethodDescriptor (mY mJ0_checkIndex_df160).desc).map (fun d => d.parameters.length) = some 2 := by decide +kernel
theorem npJ3_checkIndex_8e157 : (parseMethodDescriptor (mY mJ3_checkIndex_8e157).desc).map (fun d => d.parameters.length) = some 3 := by decide +kernel
theorem npJ1_charAt_3b067 : (parseMethodDescriptor (mY mJ1_charAt_3b067).desc).map (fun d => d.parameters.length) = some 2 := by decide +kernel
theorem npJ1_canEncode_9a6ad : (parseMethodDescriptor (mY mJ1_canEncode_9a6ad).desc).map (fun d => d.parameters.length) = some 1 := by decide +kernel
theorem npJ1_indexOf_4cfef : (parseMethodDescriptor (mY mJ1_indexOf_4cfef).desc).map (fun d => d.parameters.length) = some 4 := by decide +kernel
theorem npJ1_indexOfChar_4cfef : (parseMethodDescriptor (mY mJ1_indexOfChar_4cfef).desc).map (fun d => d.parameters.length) = some 4 := by decide +kernel
theorem npX11_part : (parseMethodDescriptor (mY mX11_part).desc).map (fun d => d.parameters.length) = some 3 := by decide +kernel
theorem npX11_unlike : (parseMethodDescriptor (mY mX11_unlike).desc).map (fun d => d.parameters.length) = some 3 := by decide +kernel
theorem npX11_meal : (parseMethodDescriptor (mY mX11_meal).desc).map (fun d => d.parameters.length) = some 2 := by decide +kernel
theorem npX11_isOf : (parseMethodDescriptor (mY mX11_isOf).desc).map (fun d => d.parameters.length) = some 2 := by decide +kernel
theorem npX11_with : (parseMethodDescriptor (mY mX11_with).desc).map (fun d => d.parameters.length) = some 3 := by decide +kernel
theorem npX11_about : (parseMethodDescriptor (mY mX11_about).desc).map (fun d => d.parameters.length) = some 2 := by decide +kernel
theorem npX11_family : (parseMethodDescriptor (mY mX11_family).desc).map (fun d => d.parameters.length) = some 2 := by decide +kernel
theorem npX11_likes : (parseMethodDescriptor (mY mX11_likes).desc).map (fun d => d.parameters.length) = some 3 := by decide +kernel
theorem npX11_lay : (parseMethodDescriptor (mY mX11_lay).desc).map (fun d => d.parameters.length) = some 2 := by decide +kernel
theorem npX11_may : (parseMethodDescriptor (mY mX11_may).desc).map (fun d => d.parameters.length) = some 2 := by decide +kernel
theorem npX11_choose : (parseMethodDescriptor (mY mX11_choose).desc).map (fun d => d.parameters.length) = some 2 := by decide +kernel
theorem npX11_box : (parseMethodDescriptor (mY mX11_box).desc).map (fun d => d.parameters.length) = some 2 := by decide +kernel
theorem npX11_ice : (parseMethodDescriptor (mY mX11_ice).desc).map (fun d => d.parameters.length) = some 1 := by decide +kernel
theorem npX11_feed : (parseMethodDescriptor (mY mX11_feed).desc).map (fun d => d.parameters.length) = some 3 := by decide +kernel
theorem npX11_trim : (parseMethodDescriptor (mY mX11_trim).desc).map (fun d => d.parameters.length) = some 1 := by decide +kernel
theorem npX11_law : (parseMethodDescriptor (mY mX11_law).desc).map (fun d => d.parameters.length) = some 0 := by decide +kernel
theorem npX11_heat : (parseMethodDescriptor (mY mX11_heat).desc).map (fun d => d.parameters.length) = some 1 := by decide +kernel
theorem npX11_menu : (parseMethodDescriptor (mY mX11_menu).desc).map (fun d => d.parameters.length) = some 1 := by decide +kernel
theorem npX11_best : (parseMethodDescriptor (mY mX11_best).desc).map (fun d => d.parameters.length) = some 2 := by decide +kernel
theorem npX11_kept : (parseMethodDescriptor (mY mX11_kept).desc).map (fun d => d.parameters.length) = some 1 := by decide +kernel
theorem npX11_lot : (parseMethodDescriptor (mY mX11_lot).desc).map (fun d => d.parameters.length) = some 2 := by decide +kernel
theorem npX11_told : (parseMethodDescriptor (mY mX11_told).desc).map (fun d => d.parameters.length) = some 2 := by decide +kernel
theorem npX11_stock : (parseMethodDescriptor (mY mX11_stock).desc).map (fun d => d.parameters.length) = some 2 := by decide +kernel
theorem npX11_plan : (parseMethodDescriptor (mY mX11_plan).desc).map (fun d => d.parameters.length) = some 1 := by decide +kernel
theorem npX11_swap : (parseMethodDescriptor (mY mX11_swap).desc).map (fun d => d.parameters.length) = some 2 := by decide +kernel
theorem npX11_pack : (parseMethodDescriptor (mY mX11_pack).desc).map (fun d => d.parameters.length) = some 1 := by decide +kernel
theorem npX11_recall : (parseMethodDescriptor (mY mX11_recall).desc).map (fun d => d.parameters.length) = some 1 := by decide +kernel
theorem npX11_end : (parseMethodDescriptor (mY mX11_end).desc).map (fun d => d.parameters.length) = some 0 := by decide +kernel
theorem npX11_shifts : (parseMethodDescriptor (mY mX11_shifts).desc).map (fun d => d.parameters.length) = some 1 := by decide +kernel
theorem npX11_picks : (parseMethodDescriptor (mY mX11_picks).desc).map (fun d => d.parameters.length) = some 3 := by decide +kernel
theorem npX11_tell : (parseMethodDescriptor (mY mX11_tell).desc).map (fun d => d.parameters.length) = some 1 := by decide +kernel
theorem npX11_check : (parseMethodDescriptor (mY mX11_check).desc).map (fun d => d.parameters.length) = some 0 := by decide +kernel
theorem npX11_back : (parseMethodDescriptor (mY mX11_back).desc).map (fun d => d.parameters.length) = some 0 := by decide +kernel
theorem npX11_sheet : (parseMethodDescriptor (mY mX11_sheet).desc).map (fun d => d.parameters.length) = some 2 := by decide +kernel
theorem npX11_mark : (parseMethodDescriptor (mY mX11_mark).desc).map (fun d => d.parameters.length) = some 3 := by decide +kernel
theorem npX11_copy : (parseMethodDescriptor (mY mX11_copy).desc).map (fun d => d.parameters.length) = some 5 := by decide +kernel
theorem npX11_count : (parseMethodDescriptor (mY mX11_count).desc).map (fun d => d.parameters.length) = some 1 := by decide +kernel
theorem npX11_isIn : (parseMethodDescriptor (mY mX11_isIn).desc).map (fun d => d.parameters.length) = some 3 := by decide +kernel
theorem npX11_isLikes : (parseMethodDescriptor (mY mX11_isLikes).desc).map (fun d => d.parameters.length) = some 1 := by decide +kernel
theorem npX11_hasBit : (parseMethodDescriptor (mY mX11_hasBit).desc).map (fun d => d.parameters.length) = some 2 := by decide +kernel
theorem npX11_isBitsBelow : (parseMethodDescriptor (mY mX11_isBitsBelow).desc).map (fun d => d.parameters.length) = some 2 := by decide +kernel
theorem npX11_truth : (parseMethodDescriptor (mY mX11_truth).desc).map (fun d => d.parameters.length) = some 1 := by decide +kernel
theorem npX11_copyRow : (parseMethodDescriptor (mY mX11_copyRow).desc).map (fun d => d.parameters.length) = some 2 := by decide +kernel
theorem npX11_copyRows : (parseMethodDescriptor (mY mX11_copyRows).desc).map (fun d => d.parameters.length) = some 2 := by decide +kernel
theorem npX0_has : (parseMethodDescriptor (mY mX0_has).desc).map (fun d => d.parameters.length) = some 1 := by decide +kernel
theorem npX0_takeFrom : (parseMethodDescriptor (mY mX0_takeFrom).desc).map (fun d => d.parameters.length) = some 1 := by decide +kernel
theorem npX2_takeCode : (parseMethodDescriptor (mY mX2_takeCode).desc).map (fun d => d.parameters.length) = some 3 := by decide +kernel
theorem npX2_takeFrom : (parseMethodDescriptor (mY mX2_takeFrom).desc).map (fun d => d.parameters.length) = some 1 := by decide +kernel
theorem npX2_worthOfMark : (parseMethodDescriptor (mY mX2_worthOfMark).desc).map (fun d => d.parameters.length) = some 0 := by decide +kernel
theorem npX2_worthOfIce : (parseMethodDescriptor (mY mX2_worthOfIce).desc).map (fun d => d.parameters.length) = some 0 := by decide +kernel
theorem npX2_worth : (parseMethodDescriptor (mY mX2_worth).desc).map (fun d => d.parameters.length) = some 2 := by decide +kernel
theorem npX2_nameOf : (parseMethodDescriptor (mY mX2_nameOf).desc).map (fun d => d.parameters.length) = some 1 := by decide +kernel
theorem npX2_join : (parseMethodDescriptor (mY mX2_join).desc).map (fun d => d.parameters.length) = some 3 := by decide +kernel
theorem npX4_has : (parseMethodDescriptor (mY mX4_has).desc).map (fun d => d.parameters.length) = some 1 := by decide +kernel
theorem npX4_leftOf : (parseMethodDescriptor (mY mX4_leftOf).desc).map (fun d => d.parameters.length) = some 1 := by decide +kernel
theorem npX4_cameOf : (parseMethodDescriptor (mY mX4_cameOf).desc).map (fun d => d.parameters.length) = some 1 := by decide +kernel
theorem npX4_throwLeft : (parseMethodDescriptor (mY mX4_throwLeft).desc).map (fun d => d.parameters.length) = some 1 := by decide +kernel
theorem npX4_draw : (parseMethodDescriptor (mY mX4_draw).desc).map (fun d => d.parameters.length) = some 3 := by decide +kernel
theorem npX4_takeFrom : (parseMethodDescriptor (mY mX4_takeFrom).desc).map (fun d => d.parameters.length) = some 1 := by decide +kernel
theorem npX5_has : (parseMethodDescriptor (mY mX5_has).desc).map (fun d => d.parameters.length) = some 1 := by decide +kernel
theorem npX5_isKind : (parseMethodDescriptor (mY mX5_isKind).desc).map (fun d => d.parameters.length) = some 2 := by decide +kernel
theorem npX5_partsIn : (parseMethodDescriptor (mY mX5_partsIn).desc).map (fun d => d.parameters.length) = some 1 := by decide +kernel
theorem npX5_gramsOf : (parseMethodDescriptor (mY mX5_gramsOf).desc).map (fun d => d.parameters.length) = some 1 := by decide +kernel
theorem npX5_takeFrom : (parseMethodDescriptor (mY mX5_takeFrom).desc).map (fun d => d.parameters.length) = some 1 := by decide +kernel
theorem npX7_has : (parseMethodDescriptor (mY mX7_has).desc).map (fun d => d.parameters.length) = some 1 := by decide +kernel
theorem npX7_takeFrom : (parseMethodDescriptor (mY mX7_takeFrom).desc).map (fun d => d.parameters.length) = some 1 := by decide +kernel
theorem npX9_isNumber : (parseMethodDescriptor (mY mX9_isNumber).desc).map (fun d => d.parameters.length) = some 1 := by decide +kernel
theorem npX9_isMissing : (parseMethodDescriptor (mY mX9_isMissing).desc).map (fun d => d.parameters.length) = some 1 := by decide +kernel
theorem npX9_hasPlaces : (parseMethodDescriptor (mY mX9_hasPlaces).desc).map (fun d => d.parameters.length) = some 3 := by decide +kernel
theorem npX1_takeFrom : (parseMethodDescriptor (mY mX1_takeFrom).desc).map (fun d => d.parameters.length) = some 1 := by decide +kernel
theorem npX1_allergensOf : (parseMethodDescriptor (mY mX1_allergensOf).desc).map (fun d => d.parameters.length) = some 1 := by decide +kernel
theorem npX1_costOf : (parseMethodDescriptor (mY mX1_costOf).desc).map (fun d => d.parameters.length) = some 1 := by decide +kernel
theorem npX1_isMarked : (parseMethodDescriptor (mY mX1_isMarked).desc).map (fun d => d.parameters.length) = some 1 := by decide +kernel
theorem npX1_mayEat : (parseMethodDescriptor (mY mX1_mayEat).desc).map (fun d => d.parameters.length) = some 2 := by decide +kernel
theorem npX1_mayChoose : (parseMethodDescriptor (mY mX1_mayChoose).desc).map (fun d => d.parameters.length) = some 2 := by decide +kernel
theorem npX1_boxToday : (parseMethodDescriptor (mY mX1_boxToday).desc).map (fun d => d.parameters.length) = some 1 := by decide +kernel
theorem npX1_guess : (parseMethodDescriptor (mY mX1_guess).desc).map (fun d => d.parameters.length) = some 2 := by decide +kernel
theorem npX1_iceOf : (parseMethodDescriptor (mY mX1_iceOf).desc).map (fun d => d.parameters.length) = some 1 := by decide +kernel
theorem npX1_needOf : (parseMethodDescriptor (mY mX1_needOf).desc).map (fun d => d.parameters.length) = some 3 := by decide +kernel
theorem npX1_needOfAll : (parseMethodDescriptor (mY mX1_needOfAll).desc).map (fun d => d.parameters.length) = some 1 := by decide +kernel
theorem npX1_freezeBoxes : (parseMethodDescriptor (mY mX1_freezeBoxes).desc).map (fun d => d.parameters.length) = some 0 := by decide +kernel
theorem npX1_endWeek : (parseMethodDescriptor (mY mX1_endWeek).desc).map (fun d => d.parameters.length) = some 0 := by decide +kernel
theorem npX3_addBytes : (parseMethodDescriptor (mY mX3_addBytes).desc).map (fun d => d.parameters.length) = some 1 := by decide +kernel
theorem npX3_readTape : (parseMethodDescriptor (mY mX3_readTape).desc).map (fun d => d.parameters.length) = some 0 := by decide +kernel
theorem npX3_fail : (parseMethodDescriptor (mY mX3_fail).desc).map (fun d => d.parameters.length) = some 0 := by decide +kernel
theorem npX3_step : (parseMethodDescriptor (mY mX3_step).desc).map (fun d => d.parameters.length) = some 0 := by decide +kernel
theorem npX3_isLetter : (parseMethodDescriptor (mY mX3_isLetter).desc).map (fun d => d.parameters.length) = some 1 := by decide +kernel
theorem npX3_isDigit : (parseMethodDescriptor (mY mX3_isDigit).desc).map (fun d => d.parameters.length) = some 1 := by decide +kernel
theorem npX3_readWord : (parseMethodDescriptor (mY mX3_readWord).desc).map (fun d => d.parameters.length) = some 1 := by decide +kernel
theorem npX3_signsOf : (parseMethodDescriptor (mY mX3_signsOf).desc).map (fun d => d.parameters.length) = some 1 := by decide +kernel
theorem npX3_isSignOf : (parseMethodDescriptor (mY mX3_isSignOf).desc).map (fun d => d.parameters.length) = some 1 := by decide +kernel
theorem npX3_readLevel : (parseMethodDescriptor (mY mX3_readLevel).desc).map (fun d => d.parameters.length) = some 3 := by decide +kernel
theorem npX3_readPart : (parseMethodDescriptor (mY mX3_readPart).desc).map (fun d => d.parameters.length) = some 2 := by decide +kernel
theorem npX3_slotOfName : (parseMethodDescriptor (mY mX3_slotOfName).desc).map (fun d => d.parameters.length) = some 0 := by decide +kernel
theorem npX3_number : (parseMethodDescriptor (mY mX3_number).desc).map (fun d => d.parameters.length) = some 0 := by decide +kernel
theorem npX3_putValue : (parseMethodDescriptor (mY mX3_putValue).desc).map (fun d => d.parameters.length) = some 1 := by decide +kernel
theorem npX3_put : (parseMethodDescriptor (mY mX3_put).desc).map (fun d => d.parameters.length) = some 1 := by decide +kernel
theorem npX6_gather : (parseMethodDescriptor (mY mX6_gather).desc).map (fun d => d.parameters.length) = some 0 := by decide +kernel
theorem npX6_keptBy : (parseMethodDescriptor (mY mX6_keptBy).desc).map (fun d => d.parameters.length) = some 1 := by decide +kernel
theorem npX6_seek : (parseMethodDescriptor (mY mX6_seek).desc).map (fun d => d.parameters.length) = some 2 := by decide +kernel
theorem npX6_seekFrom : (parseMethodDescriptor (mY mX6_seekFrom).desc).map (fun d => d.parameters.length) = some 4 := by decide +kernel
theorem npX6_weigh : (parseMethodDescriptor (mY mX6_weigh).desc).map (fun d => d.parameters.length) = some 1 := by decide +kernel
theorem npX8_seek : (parseMethodDescriptor (mY mX8_seek).desc).map (fun d => d.parameters.length) = some 1 := by decide +kernel
theorem npX8_gatherNeeds : (parseMethodDescriptor (mY mX8_gatherNeeds).desc).map (fun d => d.parameters.length) = some 0 := by decide +kernel
theorem npX8_gatherSwaps : (parseMethodDescriptor (mY mX8_gatherSwaps).desc).map (fun d => d.parameters.length) = some 0 := by decide +kernel
theorem npX8_gatherSwapsOf : (parseMethodDescriptor (mY mX8_gatherSwapsOf).desc).map (fun d => d.parameters.length) = some 2 := by decide +kernel
theorem npX8_seekFrom : (parseMethodDescriptor (mY mX8_seekFrom).desc).map (fun d => d.parameters.length) = some 3 := by decide +kernel
theorem npX8_move : (parseMethodDescriptor (mY mX8_move).desc).map (fun d => d.parameters.length) = some 3 := by decide +kernel
theorem npX8_change : (parseMethodDescriptor (mY mX8_change).desc).map (fun d => d.parameters.length) = some 2 := by decide +kernel
theorem npX8_takeRow : (parseMethodDescriptor (mY mX8_takeRow).desc).map (fun d => d.parameters.length) = some 2 := by decide +kernel
theorem npX8_isSwapped : (parseMethodDescriptor (mY mX8_isSwapped).desc).map (fun d => d.parameters.length) = some 1 := by decide +kernel
theorem npX8_goesOf : (parseMethodDescriptor (mY mX8_goesOf).desc).map (fun d => d.parameters.length) = some 1 := by decide +kernel
theorem npX8_comesOf : (parseMethodDescriptor (mY mX8_comesOf).desc).map (fun d => d.parameters.length) = some 1 := by decide +kernel
theorem npX8_listRows : (parseMethodDescriptor (mY mX8_listRows).desc).map (fun d => d.parameters.length) = some 0 := by decide +kernel
theorem npX8_packAll : (parseMethodDescriptor (mY mX8_packAll).desc).map (fun d => d.parameters.length) = some 0 := by decide +kernel
theorem npX8_plannedNeed : (parseMethodDescriptor (mY mX8_plannedNeed).desc).map (fun d => d.parameters.length) = some 2 := by decide +kernel
theorem npX10_gather : (parseMethodDescriptor (mY mX10_gather).desc).map (fun d => d.parameters.length) = some 0 := by decide +kernel
theorem npX10_picksOf : (parseMethodDescriptor (mY mX10_picksOf).desc).map (fun d => d.parameters.length) = some 3 := by decide +kernel
theorem npX10_seek : (parseMethodDescriptor (mY mX10_seek).desc).map (fun d => d.parameters.length) = some 0 := by decide +kernel
theorem npX10_seekFrom : (parseMethodDescriptor (mY mX10_seekFrom).desc).map (fun d => d.parameters.length) = some 3 := by decide +kernel
theorem npX12_within : (parseMethodDescriptor (mY mX12_within).desc).map (fun d => d.parameters.length) = some 3 := by decide +kernel
theorem npX12_isPart : (parseMethodDescriptor (mY mX12_isPart).desc).map (fun d => d.parameters.length) = some 1 := by decide +kernel
theorem npX12_isMeal : (parseMethodDescriptor (mY mX12_isMeal).desc).map (fun d => d.parameters.length) = some 1 := by decide +kernel
theorem npX12_isFamily : (parseMethodDescriptor (mY mX12_isFamily).desc).map (fun d => d.parameters.length) = some 1 := by decide +kernel
theorem npX12_ofPart : (parseMethodDescriptor (mY mX12_ofPart).desc).map (fun d => d.parameters.length) = some 2 := by decide +kernel
theorem npX12_ofMeal : (parseMethodDescriptor (mY mX12_ofMeal).desc).map (fun d => d.parameters.length) = some 2 := by decide +kernel
theorem npX12_ofFamily : (parseMethodDescriptor (mY mX12_ofFamily).desc).map (fun d => d.parameters.length) = some 2 := by decide +kernel
theorem npX12_ofLot : (parseMethodDescriptor (mY mX12_ofLot).desc).map (fun d => d.parameters.length) = some 2 := by decide +kernel
theorem npX12_ones : (parseMethodDescriptor (mY mX12_ones).desc).map (fun d => d.parameters.length) = some 1 := by decide +kernel
theorem npX12_has : (parseMethodDescriptor (mY mX12_has).desc).map (fun d => d.parameters.length) = some 2 := by decide +kernel
theorem npX12_part : (parseMethodDescriptor (mY mX12_part).desc).map (fun d => d.parameters.length) = some 3 := by decide +kernel
theorem npX12_unlike : (parseMethodDescriptor (mY mX12_unlike).desc).map (fun d => d.parameters.length) = some 3 := by decide +kernel
theorem npX12_meal : (parseMethodDescriptor (mY mX12_meal).desc).map (fun d => d.parameters.length) = some 2 := by decide +kernel
theorem npX12_isGreen : (parseMethodDescriptor (mY mX12_isGreen).desc).map (fun d => d.parameters.length) = some 1 := by decide +kernel
theorem npX12_isOf : (parseMethodDescriptor (mY mX12_isOf).desc).map (fun d => d.parameters.length) = some 2 := by decide +kernel
theorem npX12_with : (parseMethodDescriptor (mY mX12_with).desc).map (fun d => d.parameters.length) = some 3 := by decide +kernel
theorem npX12_allergens : (parseMethodDescriptor (mY mX12_allergens).desc).map (fun d => d.parameters.length) = some 1 := by decide +kernel
theorem npX12_cost : (parseMethodDescriptor (mY mX12_cost).desc).map (fun d => d.parameters.length) = some 1 := by decide +kernel
theorem npX12_grams : (parseMethodDescriptor (mY mX12_grams).desc).map (fun d => d.parameters.length) = some 1 := by decide +kernel
theorem npX12_about : (parseMethodDescriptor (mY mX12_about).desc).map (fun d => d.parameters.length) = some 2 := by decide +kernel
theorem npX12_family : (parseMethodDescriptor (mY mX12_family).desc).map (fun d => d.parameters.length) = some 2 := by decide +kernel
theorem npX12_likes : (parseMethodDescriptor (mY mX12_likes).desc).map (fun d => d.parameters.length) = some 3 := by decide +kernel
theorem npX12_lay : (parseMethodDescriptor (mY mX12_lay).desc).map (fun d => d.parameters.length) = some 2 := by decide +kernel
theorem npX12_mayEat : (parseMethodDescriptor (mY mX12_mayEat).desc).map (fun d => d.parameters.length) = some 2 := by decide +kernel
theorem npX12_may : (parseMethodDescriptor (mY mX12_may).desc).map (fun d => d.parameters.length) = some 2 := by decide +kernel
theorem npX12_choose : (parseMethodDescriptor (mY mX12_choose).desc).map (fun d => d.parameters.length) = some 2 := by decide +kernel
theorem npX12_guess : (parseMethodDescriptor (mY mX12_guess).desc).map (fun d => d.parameters.length) = some 2 := by decide +kernel
theorem npX12_boxToday : (parseMethodDescriptor (mY mX12_boxToday).desc).map (fun d => d.parameters.length) = some 1 := by decide +kernel
theorem npX12_box : (parseMethodDescriptor (mY mX12_box).desc).map (fun d => d.parameters.length) = some 2 := by decide +kernel
theorem npX12_findNeeds : (parseMethodDescriptor (mY mX12_findNeeds).desc).map (fun d => d.parameters.length) = some 0 := by decide +kernel
theorem npX12_ice : (parseMethodDescriptor (mY mX12_ice).desc).map (fun d => d.parameters.length) = some 1 := by decide +kernel
theorem npX12_feed : (parseMethodDescriptor (mY mX12_feed).desc).map (fun d => d.parameters.length) = some 3 := by decide +kernel
theorem npX12_trim : (parseMethodDescriptor (mY mX12_trim).desc).map (fun d => d.parameters.length) = some 1 := by decide +kernel
theorem npX12_isLetter : (parseMethodDescriptor (mY mX12_isLetter).desc).map (fun d => d.parameters.length) = some 1 := by decide +kernel
theorem npX12_isDigit : (parseMethodDescriptor (mY mX12_isDigit).desc).map (fun d => d.parameters.length) = some 1 := by decide +kernel
theorem npX12_next : (parseMethodDescriptor (mY mX12_next).desc).map (fun d => d.parameters.length) = some 0 := by decide +kernel
theorem npX12_isSign : (parseMethodDescriptor (mY mX12_isSign).desc).map (fun d => d.parameters.length) = some 1 := by decide +kernel
theorem npX12_need : (parseMethodDescriptor (mY mX12_need).desc).map (fun d => d.parameters.length) = some 1 := by decide +kernel
theorem npX12_word : (parseMethodDescriptor (mY mX12_word).desc).map (fun d => d.parameters.length) = some 1 := by decide +kernel
theorem npX12_put : (parseMethodDescriptor (mY mX12_put).desc).map (fun d => d.parameters.length) = some 1 := by decide +kernel
theorem npX12_signHere : (parseMethodDescriptor (mY mX12_signHere).desc).map (fun d => d.parameters.length) = some 2 := by decide +kernel
theorem npX12_part_ : (parseMethodDescriptor (mY mX12_part_).desc).map (fun d => d.parameters.length) = some 0 := by decide +kernel
theorem npX12_term : (parseMethodDescriptor (mY mX12_term).desc).map (fun d => d.parameters.length) = some 0 := by decide +kernel
theorem npX12_sum : (parseMethodDescriptor (mY mX12_sum).desc).map (fun d => d.parameters.length) = some 0 := by decide +kernel
theorem npX12_test : (parseMethodDescriptor (mY mX12_test).desc).map (fun d => d.parameters.length) = some 0 := by decide +kernel
theorem npX12_both : (parseMethodDescriptor (mY mX12_both).desc).map (fun d => d.parameters.length) = some 0 := by decide +kernel
theorem npX12_either : (parseMethodDescriptor (mY mX12_either).desc).map (fun d => d.parameters.length) = some 0 := by decide +kernel
theorem npX12_law : (parseMethodDescriptor (mY mX12_law).desc).map (fun d => d.parameters.length) = some 0 := by decide +kernel
theorem npX12_ofMark : (parseMethodDescriptor (mY mX12_ofMark).desc).map (fun d => d.parameters.length) = some 2 := by decide +kernel
theorem npX12_ofIce : (parseMethodDescriptor (mY mX12_ofIce).desc).map (fun d => d.parameters.length) = some 2 := by decide +kernel
theorem npX12_done : (parseMethodDescriptor (mY mX12_done).desc).map (fun d => d.parameters.length) = some 3 := by decide +kernel
theorem npX12_worked : (parseMethodDescriptor (mY mX12_worked).desc).map (fun d => d.parameters.length) = some 2 := by decide +kernel
theorem npX12_heat : (parseMethodDescriptor (mY mX12_heat).desc).map (fun d => d.parameters.length) = some 1 := by decide +kernel
theorem npX12_areMeals : (parseMethodDescriptor (mY mX12_areMeals).desc).map (fun d => d.parameters.length) = some 1 := by decide +kernel
theorem npX12_menu : (parseMethodDescriptor (mY mX12_menu).desc).map (fun d => d.parameters.length) = some 1 := by decide +kernel
theorem npX12_keptBy : (parseMethodDescriptor (mY mX12_keptBy).desc).map (fun d => d.parameters.length) = some 1 := by decide +kernel
theorem npX12_kept : (parseMethodDescriptor (mY mX12_kept).desc).map (fun d => d.parameters.length) = some 1 := by decide +kernel
theorem npX12_takeMenu : (parseMethodDescriptor (mY mX12_takeMenu).desc).map (fun d => d.parameters.length) = some 1 := by decide +kernel
theorem npX12_menuFrom : (parseMethodDescriptor (mY mX12_menuFrom).desc).map (fun d => d.parameters.length) = some 4 := by decide +kernel
theorem npX12_best : (parseMethodDescriptor (mY mX12_best).desc).map (fun d => d.parameters.length) = some 2 := by decide +kernel
theorem npX12_lot : (parseMethodDescriptor (mY mX12_lot).desc).map (fun d => d.parameters.length) = some 2 := by decide +kernel
theorem npX12_told : (parseMethodDescriptor (mY mX12_told).desc).map (fun d => d.parameters.length) = some 2 := by decide +kernel
theorem npX12_stockOf : (parseMethodDescriptor (mY mX12_stockOf).desc).map (fun d => d.parameters.length) = some 1 := by decide +kernel
theorem npX12_needOf : (parseMethodDescriptor (mY mX12_needOf).desc).map (fun d => d.parameters.length) = some 1 := by decide +kernel
theorem npX12_stock : (parseMethodDescriptor (mY mX12_stock).desc).map (fun d => d.parameters.length) = some 2 := by decide +kernel
theorem npX12_moves : (parseMethodDescriptor (mY mX12_moves).desc).map (fun d => d.parameters.length) = some 3 := by decide +kernel
theorem npX12_maySwap : (parseMethodDescriptor (mY mX12_maySwap).desc).map (fun d => d.parameters.length) = some 3 := by decide +kernel
theorem npX12_isEnough : (parseMethodDescriptor (mY mX12_isEnough).desc).map (fun d => d.parameters.length) = some 0 := by decide +kernel
theorem npX12_planFrom : (parseMethodDescriptor (mY mX12_planFrom).desc).map (fun d => d.parameters.length) = some 3 := by decide +kernel
theorem npX12_trySwap : (parseMethodDescriptor (mY mX12_trySwap).desc).map (fun d => d.parameters.length) = some 5 := by decide +kernel
theorem npX12_findPlan : (parseMethodDescriptor (mY mX12_findPlan).desc).map (fun d => d.parameters.length) = some 1 := by decide +kernel
theorem npX12_plan : (parseMethodDescriptor (mY mX12_plan).desc).map (fun d => d.parameters.length) = some 1 := by decide +kernel
theorem npX12_swap : (parseMethodDescriptor (mY mX12_swap).desc).map (fun d => d.parameters.length) = some 2 := by decide +kernel
theorem npX12_takes : (parseMethodDescriptor (mY mX12_takes).desc).map (fun d => d.parameters.length) = some 3 := by decide +kernel
theorem npX12_pack : (parseMethodDescriptor (mY mX12_pack).desc).map (fun d => d.parameters.length) = some 1 := by decide +kernel
theorem npX12_throwLeft : (parseMethodDescriptor (mY mX12_throwLeft).desc).map (fun d => d.parameters.length) = some 1 := by decide +kernel
theorem npX12_recall : (parseMethodDescriptor (mY mX12_recall).desc).map (fun d => d.parameters.length) = some 1 := by decide +kernel
theorem npX12_end : (parseMethodDescriptor (mY mX12_end).desc).map (fun d => d.parameters.length) = some 0 := by decide +kernel
theorem npX12_picksOf : (parseMethodDescriptor (mY mX12_picksOf).desc).map (fun d => d.parameters.length) = some 3 := by decide +kernel
theorem npX12_mostPicks : (parseMethodDescriptor (mY mX12_mostPicks).desc).map (fun d => d.parameters.length) = some 1 := by decide +kernel
theorem npX12_shifts : (parseMethodDescriptor (mY mX12_shifts).desc).map (fun d => d.parameters.length) = some 1 := by decide +kernel
theorem npX12_picks : (parseMethodDescriptor (mY mX12_picks).desc).map (fun d => d.parameters.length) = some 3 := by decide +kernel
theorem npX12_tell : (parseMethodDescriptor (mY mX12_tell).desc).map (fun d => d.parameters.length) = some 1 := by decide +kernel
theorem npX12_check : (parseMethodDescriptor (mY mX12_check).desc).map (fun d => d.parameters.length) = some 0 := by decide +kernel
theorem npX12_keep : (parseMethodDescriptor (mY mX12_keep).desc).map (fun d => d.parameters.length) = some 0 := by decide +kernel
theorem npX12_back : (parseMethodDescriptor (mY mX12_back).desc).map (fun d => d.parameters.length) = some 0 := by decide +kernel
theorem npX12_sheet : (parseMethodDescriptor (mY mX12_sheet).desc).map (fun d => d.parameters.length) = some 2 := by decide +kernel
theorem npX12_mark : (parseMethodDescriptor (mY mX12_mark).desc).map (fun d => d.parameters.length) = some 3 := by decide +kernel
theorem npX12_copy : (parseMethodDescriptor (mY mX12_copy).desc).map (fun d => d.parameters.length) = some 5 := by decide +kernel
theorem npX12_count : (parseMethodDescriptor (mY mX12_count).desc).map (fun d => d.parameters.length) = some 1 := by decide +kernel
theorem rc_0 {g : GG} {n : Nat} {X : LX} (hn : 0 < n) : rcv g n X 0 RX11 := rcv_o hn lo_0 (by decide) rfl
theorem rc_1 {g : GG} {n : Nat} {X : LX} (hn : 1 < n) : rcv g n X 1 RX1 := rcv_o hn lo_1 (by decide) rfl
theorem rc_2 {g : GG} {n : Nat} {X : LX} (hn : 2 < n) : rcv g n X 2 RX7 := rcv_o hn lo_2 (by decide) rfl
theorem rc_23 {g : GG} {n : Nat} {X : LX} (hn : 23 < n) : rcv g n X 23 RX5 := rcv_o hn lo_23 (by decide) rfl
theorem rc_37 {g : GG} {n : Nat} {X : LX} (hn : 37 < n) : rcv g n X 37 RX0 := rcv_o hn lo_37 (by decide) rfl
theorem rc_69 {g : GG} {n : Nat} {X : LX} (hn : 69 < n) : rcv g n X 69 RX4 := rcv_o hn lo_69 (by decide) rfl
theorem rc_77 {g : GG} {n : Nat} {X : LX} (hn : 77 < n) : rcv g n X 77 RX2 := rcv_o hn lo_77 (by decide) rfl
theorem rc_81 {g : GG} {n : Nat} {X : LX} (hn : 81 < n) : rcv g n X 81 RX3 := rcv_o hn lo_81 (by decide) rfl
theorem rc_84 {g : GG} {n : Nat} {X : LX} (hn : 84 < n) : rcv g n X 84 RX6 := rcv_o hn lo_84 (by decide) rfl
theorem rc_87 {g : GG} {n : Nat} {X : LX} (hn : 87 < n) : rcv g n X 87 RX8 := rcv_o hn lo_87 (by decide) rfl
theorem rc_110 {g : GG} {n : Nat} {X : LX} (hn : 110 < n) : rcv g n X 110 RX10 := rcv_o hn lo_110 (by decide) rfl
theorem rc_127 {g : GG} {n : Nat} {X : LX} (hn : 127 < n) : rcv g n X 127 RX9 := rcv_o hn lo_127 (by decide) rfl
theorem rc_133 {g : GG} {n : Nat} {X : LX} (hn : 133 < n) : rcv g n X 133 RX12 := rcv_o hn lo_133 (by decide) rfl
theorem rc_146 {g : GG} {n : Nat} {X : LX} (hn : 146 < n) : rcv g n X 146 RX1 := rcv_o hn lo_146 (by decide) rfl
theorem rc_147 {g : GG} {n : Nat} {X : LX} (hn : 147 < n) : rcv g n X 147 RX7 := rcv_o hn lo_147 (by decide) rfl
theorem rc_168 {g : GG} {n : Nat} {X : LX} (hn : 168 < n) : rcv g n X 168 RX5 := rcv_o hn lo_168 (by decide) rfl
theorem rc_182 {g : GG} {n : Nat} {X : LX} (hn : 182 < n) : rcv g n X 182 RX0 := rcv_o hn lo_182 (by decide) rfl
theorem rc_214 {g : GG} {n : Nat} {X : LX} (hn : 214 < n) : rcv g n X 214 RX4 := rcv_o hn lo_214 (by decide) rfl
theorem rc_222 {g : GG} {n : Nat} {X : LX} (hn : 222 < n) : rcv g n X 222 RX2 := rcv_o hn lo_222 (by decide) rfl
theorem mm_1_163 : Cond.methodLink RX1 163 Lib.Math.min.name ∈ GT := gt_at 744 (by decide +kernel) rfl
theorem mm_1_168 : Cond.methodLink RX1 168 Lib.Math.max.name ∈ GT := gt_at 745 (by decide +kernel) rfl
theorem mm_2_25 : Cond.methodLink RX2 25 Lib.Math.min.name ∈ GT := gt_at 944 (by decide +kernel) rfl
theorem mm_4_37 : Cond.methodLink RX4 37 Lib.Math.min.name ∈ GT := gt_at 1112 (by decide +kernel) rfl
theorem mm_6_64 : Cond.methodLink RX6 64 Lib.Math.min.name ∈ GT := gt_at 987 (by decide +kernel) rfl
theorem mm_10_77 : Cond.methodLink RX10 77 Lib.Math.max.name ∈ GT := gt_at 1150 (by decide +kernel) rfl
theorem mm_11_180 : Cond.methodLink RX11 180 Lib.Math.min.name ∈ GT := gt_at 697 (by decide +kernel) rfl
theorem mm_12_81 : Cond.methodLink RX12 81 Lib.Math.max.name ∈ GT := gt_at 1390 (by decide +kernel) rfl
theorem mm_12_118 : Cond.methodLink RX12 118 Lib.Math.min.name ∈ GT := gt_at 1477 (by decide +kernel) rfl
/-- locals that are forgotten -/
def lwk : List (Option Value) → List (Option Value) → Prop
  | [], _ => True
  | none :: a, _ :: b => lwk a b
  | some v :: a, w :: b => w = some v ∧ lwk a b
  | _ :: _, [] => False
theorem lwk_at : ∀ (a b : List (Option Value)), lwk a b → ∀ (i : Nat) (v : Value), a[i]? = some (some v) → b[i]? = some (some v)
  | [], b, _, i, v, h => by simp at h
  | none :: a, w :: b, hl, i, v, h => by
    cases i with
    | zero => simp at h
    | succ i => rw [List.getElem?_cons_succ] at h ⊢; exact lwk_at a b hl i v h
  | some u :: a, w :: b, hl, i, v, h => by
    cases i with
    | zero => rw [List.getElem?_cons_zero] at h ⊢; rw [hl.1]; exact h
    | succ i => rw [List.getElem?_cons_succ] at h ⊢; exact lwk_at a b hl.2 i v h
  | x :: a, [], hl, i, v, h => by cases x <;> exact hl.elim
theorem ev_wk {g : GG} {M : Mt} {R : Room} {Qf : State → Array Value → List Frame → State → Prop} {Ps : State → Prop} {n0 n pc : Nat} {L L' : List (Option Value)} {st : List Value} {X : LX} (h : lwk L' L) (k : EvQ g M R Qf Ps n0 n pc L' st X) : EvQ g M R Qf Ps n0 n pc L st X :=
  fun p e s m args below meth c C hPs hn H locs ls hW hS hl => k p e s m args below meth c C hPs hn H locs ls hW hS ⟨hl.1, hl.2.1, fun i v hi => hl.2.2 i v (lwk_at L' L h i v hi)⟩
