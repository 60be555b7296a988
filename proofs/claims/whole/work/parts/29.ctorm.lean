theorem sw_12_31 : sTl.getD 12 (0, 0, 0, 0) ∈ sTl := List.mem_of_getElem? (i := 12) rfl
def pf (f : Nat → Int32) (i : Nat) : Nat → Int32 := fun j => if 122 ≤ j ∧ j < 122 + i then 50 else f j
theorem pf_0 (f : Nat → Int32) : pf f 0 = f := by funext j; unfold pf; rw [if_neg (by omega)]
theorem pf_s (f : Nat → Int32) (i : Nat) : upd (pf f i) (122 + i) 50 = pf f (i + 1) := by
  funext j
  unfold upd pf
  by_cases h : j = 122 + i
  · rw [if_pos h, if_pos (by omega)]
  · rw [if_neg h]
    by_cases q : 122 ≤ j ∧ j < 122 + i
    · rw [if_pos q, if_pos (by omega)]
    · rw [if_neg q, if_neg (by omega)]
theorem l_X12 {g : GG} {H : LX} {f : Nat → Int32} {post : Option Value → LX → Prop} (h9 : H 133 0 = rE 134) (hf : H 134 = f) (k : Ev g mX12_init 1 134 146 post 146 144 [some (.ref 133), some (.int 196)] [] (lx_row H 134 (pf f 196))) : Ev g mX12_init 1 134 146 post 146 120 [some (.ref 133), some (.int 0)] [] H := by
  subst hf
  have loop : ∀ i, i ≤ 196 → Ev g mX12_init 1 134 146 post 146 120 [some (.ref 133), some (.int (nI i))] [] (lx_row H 134 (pf (H 134) i)) := by
    refine down ?_ ?_
    · refine ev_iload_n dX12_init_120 rfl ?_
      refine ev_sipush (v := 196) dX12_init_121 (by decide +kernel) ?_
      exact ev_icmpT (tgt := 144) dX12_init_124 (by decide) (show (196 : Int32) ≤ nI 196 by decide +kernel) k
    · intro i hi kk
      refine ev_iload_n dX12_init_120 rfl ?_
      refine ev_sipush (v := 196) dX12_init_121 (by decide +kernel) ?_
      refine ev_icmpF (tgt := 144) dX12_init_124 (by decide) (show ¬ nI 196 ≤ nI i from nI_ge hi (by omega)) ?_
      refine ev_aload_n dX12_init_127 rfl ?_
      refine ev_getS (q := 134) dX12_init_128 fo_12_9 (by decide) (by decide +kernel) (by decide) (by rw [lx_row_ne _ _ _ (by decide)]; exact h9) (by decide) ?_
      refine ev_bipush (v := 122) dX12_init_131 (by decide +kernel) ?_
      refine ev_iload_n dX12_init_133 rfl ?_
      refine ev_iadd dX12_init_134 ?_
      refine ev_bipush (v := 50) dX12_init_135 (by decide +kernel) ?_
      refine ev_iast (len := 2156) (j := 122 + i) dX12_init_137 (by decide) (by decide +kernel) (show nI 122 + nI i = nI (122 + i) from nI_add 122 i) (by omega) ?_
      refine ev_iinc (v := nI (i + 1)) dX12_init_138 rfl (by rw [show Int32.ofInt 1 = nI 1 from rfl, nI_add]) (by decide) ?_
      refine ev_goto (tgt := 120) dX12_init_141 (by decide) ?_
      rw [lx_row_up, pf_s]
      exact kk
  have h := loop 0 (by omega)
  rw [pf_0, lx_row_id] at h
  exact h
def y_X12_init_133 (X : LX) : LX := (lx_up (lx_up (lx_row (lx_up (lx_up (lx_row (lx_up (lx_row (lx_up (lx_row (lx_up (lx_row (lx_up (lx_row (lx_up (lx_up (lx_row (lx_up (lx_row (lx_up (lx_row (lx_up (lx_row (lx_up (lx_row (lx_up (lx_row (lx_up (lx_row X 134 (fun _ => 0)) 133 0 (rE 134)) 135 (fun _ => 0)) 133 1 (rE 135)) 136 (fun _ => 0)) 133 3 (rE 136)) 137 (fun _ => 0)) 133 5 (rE 137)) 138 (fun _ => 0)) 133 7 (rE 138)) 139 (fun _ => 0)) 133 8 (rE 139)) 140 (fun _ => 0)) 133 9 (rE 140)) 133 16 (rE 1012)) 141 (fun _ => 0)) 133 17 (rE 141)) 142 (fun _ => 0)) 133 20 (rE 142)) 143 (fun _ => 0)) 133 26 (rE 143)) 144 (fun _ => 0)) 133 27 (rE 144)) 145 (fun _ => 0)) 133 30 (rE 145)) 134 1 20) 134 (pf (upd (fun _ => 0) 1 20) 196)) 138 0 (-1)) 138 1 (-1))
set_option maxHeartbeats 4000000 in
theorem c_X12_init_133 {g : GG} {X : LX} : Ex g mX12_init 1 134 146 [.ref 133] X (rv (y_X12_init_133 X)) := by
  refine ex_of vX12_init (Nat.le_of_ble_eq_true rfl) (cat_of rfl) ?_
  refine ev_aload_n dX12_init_0 rfl ?_
  refine ev_objInit dX12_init_1 (gt_at 1246 (by decide +kernel) rfl) oi_1 oi_2 (by decide +kernel) (by decide +kernel) (by decide) ?_
  refine ev_aload_n dX12_init_4 rfl ?_
  refine ev_sipush (v := 2156) dX12_init_5 (by decide +kernel) ?_
  refine ev_newi (N := 2156) dX12_init_8 (by decide +kernel) (by decide) (by decide +kernel) (by decide) ac_i (by decide +kernel) (by decide +kernel) ?_
  refine ev_putR dX12_init_10 fo_12_9 (by decide) (by decide +kernel) (by decide) (Or.inr ⟨_, rfl⟩) (by first | exact Or.inl rfl | exact Or.inr ⟨rfl, rfl⟩) (by decide) ?_
  refine ev_aload_n dX12_init_13 rfl ?_
  refine ev_sipush (v := 2156) dX12_init_14 (by decide +kernel) ?_
  refine ev_newi (N := 2156) dX12_init_17 (by decide +kernel) (by decide) (by decide +kernel) (by decide) ac_i (by decide +kernel) (by decide +kernel) ?_
  refine ev_putR dX12_init_19 fo_12_13 (by decide) (by decide +kernel) (by decide) (Or.inr ⟨_, rfl⟩) (by first | exact Or.inl rfl | exact Or.inr ⟨rfl, rfl⟩) (by decide) ?_
  refine ev_aload_n dX12_init_22 rfl ?_
  refine ev_bipush (v := 120) dX12_init_23 (by decide +kernel) ?_
  refine ev_newi (N := 120) dX12_init_25 (by decide +kernel) (by decide) (by decide +kernel) (by decide) ac_i (by decide +kernel) (by decide +kernel) ?_
  refine ev_putR dX12_init_27 fo_12_16 (by decide) (by decide +kernel) (by decide) (Or.inr ⟨_, rfl⟩) (by first | exact Or.inl rfl | exact Or.inr ⟨rfl, rfl⟩) (by decide) ?_
  refine ev_aload_n dX12_init_30 rfl ?_
  refine ev_bipush (v := 36) dX12_init_31 (by decide +kernel) ?_
  refine ev_newi (N := 36) dX12_init_33 (by decide +kernel) (by decide) (by decide +kernel) (by decide) ac_i (by decide +kernel) (by decide +kernel) ?_
  refine ev_putR dX12_init_35 fo_12_19 (by decide) (by decide +kernel) (by decide) (Or.inr ⟨_, rfl⟩) (by first | exact Or.inl rfl | exact Or.inr ⟨rfl, rfl⟩) (by decide) ?_
  refine ev_aload_n dX12_init_38 rfl ?_
  refine ev_iconst (v := 2) dX12_init_39 (by decide +kernel) ?_
  refine ev_newi (N := 2) dX12_init_40 (by decide +kernel) (by decide) (by decide +kernel) (by decide) ac_i (by decide +kernel) (by decide +kernel) ?_
  refine ev_putR dX12_init_42 fo_12_22 (by decide) (by decide +kernel) (by decide) (Or.inr ⟨_, rfl⟩) (by first | exact Or.inl rfl | exact Or.inr ⟨rfl, rfl⟩) (by decide) ?_
  refine ev_aload_n dX12_init_45 rfl ?_
  refine ev_bipush (v := 32) dX12_init_46 (by decide +kernel) ?_
  refine ev_newi (N := 32) dX12_init_48 (by decide +kernel) (by decide) (by decide +kernel) (by decide) ac_i (by decide +kernel) (by decide +kernel) ?_
  refine ev_putR dX12_init_50 fo_12_25 (by decide) (by decide +kernel) (by decide) (Or.inr ⟨_, rfl⟩) (by first | exact Or.inl rfl | exact Or.inr ⟨rfl, rfl⟩) (by decide) ?_
  refine ev_aload_n dX12_init_53 rfl ?_
  refine ev_sipush (v := 168) dX12_init_54 (by decide +kernel) ?_
  refine ev_newi (N := 168) dX12_init_57 (by decide +kernel) (by decide) (by decide +kernel) (by decide) ac_i (by decide +kernel) (by decide +kernel) ?_
  refine ev_putR dX12_init_59 fo_12_28 (by decide) (by decide +kernel) (by decide) (Or.inr ⟨_, rfl⟩) (by first | exact Or.inl rfl | exact Or.inr ⟨rfl, rfl⟩) (by decide) ?_
  refine ev_aload_n dX12_init_62 rfl ?_
  refine ev_ldcS (t := 12) dX12_init_63 sw_12_31 rfl rfl rfl ?_
  refine ev_putR dX12_init_65 fo_12_33 (by decide) (by decide +kernel) (by decide) (Or.inl ⟨_, rfl⟩) (by first | exact Or.inl rfl | exact Or.inr ⟨rfl, rfl⟩) (by decide) ?_
  refine ev_aload_n dX12_init_68 rfl ?_
  refine ev_sipush (v := 128) dX12_init_69 (by decide +kernel) ?_
  refine ev_newi (N := 128) dX12_init_72 (by decide +kernel) (by decide) (by decide +kernel) (by decide) ac_i (by decide +kernel) (by decide +kernel) ?_
  refine ev_putR dX12_init_74 fo_12_37 (by decide) (by decide +kernel) (by decide) (Or.inr ⟨_, rfl⟩) (by first | exact Or.inl rfl | exact Or.inr ⟨rfl, rfl⟩) (by decide) ?_
  refine ev_aload_n dX12_init_77 rfl ?_
  refine ev_sipush (v := 128) dX12_init_78 (by decide +kernel) ?_
  refine ev_newi (N := 128) dX12_init_81 (by decide +kernel) (by decide) (by decide +kernel) (by decide) ac_i (by decide +kernel) (by decide +kernel) ?_
  refine ev_putR dX12_init_83 fo_12_40 (by decide) (by decide +kernel) (by decide) (Or.inr ⟨_, rfl⟩) (by first | exact Or.inl rfl | exact Or.inr ⟨rfl, rfl⟩) (by decide) ?_
  refine ev_aload_n dX12_init_86 rfl ?_
  refine ev_bipush (v := 12) dX12_init_87 (by decide +kernel) ?_
  refine ev_newi (N := 12) dX12_init_89 (by decide +kernel) (by decide) (by decide +kernel) (by decide) ac_i (by decide +kernel) (by decide +kernel) ?_
  refine ev_putR dX12_init_91 fo_12_43 (by decide) (by decide +kernel) (by decide) (Or.inr ⟨_, rfl⟩) (by first | exact Or.inl rfl | exact Or.inr ⟨rfl, rfl⟩) (by decide) ?_
  refine ev_aload_n dX12_init_94 rfl ?_
  refine ev_bipush (v := 12) dX12_init_95 (by decide +kernel) ?_
  refine ev_newi (N := 12) dX12_init_97 (by decide +kernel) (by decide) (by decide +kernel) (by decide) ac_i (by decide +kernel) (by decide +kernel) ?_
  refine ev_putR dX12_init_99 fo_12_46 (by decide) (by decide +kernel) (by decide) (Or.inr ⟨_, rfl⟩) (by first | exact Or.inl rfl | exact Or.inr ⟨rfl, rfl⟩) (by decide) ?_
  refine ev_aload_n dX12_init_102 rfl ?_
  refine ev_bipush (v := 16) dX12_init_103 (by decide +kernel) ?_
  refine ev_newi (N := 16) dX12_init_105 (by decide +kernel) (by decide) (by decide +kernel) (by decide) ac_i (by decide +kernel) (by decide +kernel) ?_
  refine ev_putR dX12_init_107 fo_12_49 (by decide) (by decide +kernel) (by decide) (Or.inr ⟨_, rfl⟩) (by first | exact Or.inl rfl | exact Or.inr ⟨rfl, rfl⟩) (by decide) ?_
  refine ev_aload_n dX12_init_110 rfl ?_
  refine ev_getS (q := 134) dX12_init_111 fo_12_9 (by decide) (by decide +kernel) (by decide) (by rfl) (by decide) ?_
  refine ev_iconst (v := 1) dX12_init_114 (by decide +kernel) ?_
  refine ev_bipush (v := 20) dX12_init_115 (by decide +kernel) ?_
  refine ev_iast (len := 2156) (j := 1) dX12_init_117 (by decide) (by decide +kernel) (by decide +kernel) (by decide) ?_
  refine ev_iconst (v := 0) dX12_init_118 (by decide +kernel) ?_
  refine ev_istore_n dX12_init_119 (by decide) ?_
  refine l_X12 (f := upd (fun _ => 0) 1 20) (by rfl) (by rfl) ?_
  refine ev_aload_n dX12_init_144 rfl ?_
  refine ev_getS (q := 138) dX12_init_145 fo_12_22 (by decide) (by decide +kernel) (by decide) (by rfl) (by decide) ?_
  refine ev_iconst (v := 0) dX12_init_148 (by decide +kernel) ?_
  refine ev_iconst (v := (-1)) dX12_init_149 (by decide +kernel) ?_
  refine ev_iast (len := 2) (j := 0) dX12_init_150 (by decide) (by decide +kernel) (by decide +kernel) (by decide) ?_
  refine ev_aload_n dX12_init_151 rfl ?_
  refine ev_getS (q := 138) dX12_init_152 fo_12_22 (by decide) (by decide +kernel) (by decide) (by rfl) (by decide) ?_
  refine ev_iconst (v := 1) dX12_init_155 (by decide +kernel) ?_
  refine ev_iconst (v := (-1)) dX12_init_156 (by decide +kernel) ?_
  refine ev_iast (len := 2) (j := 1) dX12_init_157 (by decide) (by decide +kernel) (by decide +kernel) (by decide) ?_
  exact ev_ret dX12_init_158 rfl ⟨rfl, rfl⟩
