theorem bX12_within_0_0 {g : GG} {d n0 nf : Nat} {post : Option Value → LX → Prop} {n : Nat} {X : LX} (hn : 146 ≤ nf) (hX : Sh nf X) {v0 : Int32} {v1 : Int32} {v2 : Int32} (c0 : ¬ v0 < v1) (c1 : ¬ v2 < v0) (hp : post (some (.int 1)) X) : Ev g mX12_within d n0 nf post nf 0 [some (.int v0), some (.int v1), some (.int v2)] [] X := by
  refine ev_iload_n dX12_within_0 rfl ?_
  refine ev_iload_n dX12_within_1 rfl ?_
  refine ev_icmpF (tgt := 14) dX12_within_2 (by decide) c0 ?_
  refine ev_iload_n dX12_within_5 rfl ?_
  refine ev_iload_n dX12_within_6 rfl ?_
  refine ev_icmpF (tgt := 14) dX12_within_7 (by decide) c1 ?_
  refine ev_iconst (v := 1) dX12_within_10 ki_1 ?_
  refine ev_goto (tgt := 15) dX12_within_11 (by decide) ?_
  exact ev_iret dX12_within_15 rfl (by decide) hp
theorem bX12_within_0_1 {g : GG} {d n0 nf : Nat} {post : Option Value → LX → Prop} {n : Nat} {X : LX} (hn : 146 ≤ nf) (hX : Sh nf X) {v0 : Int32} {v1 : Int32} {v2 : Int32} (c0 : ¬ v0 < v1) (c1 : v2 < v0) (hp : post (some (.int 0)) X) : Ev g mX12_within d n0 nf post nf 0 [some (.int v0), some (.int v1), some (.int v2)] [] X := by
  refine ev_iload_n dX12_within_0 rfl ?_
  refine ev_iload_n dX12_within_1 rfl ?_
  refine ev_icmpF (tgt := 14) dX12_within_2 (by decide) c0 ?_
  refine ev_iload_n dX12_within_5 rfl ?_
  refine ev_iload_n dX12_within_6 rfl ?_
  refine ev_icmpT (tgt := 14) dX12_within_7 (by decide) c1 ?_
  refine ev_iconst (v := 0) dX12_within_14 ki_0 ?_
  exact ev_iret dX12_within_15 rfl (by decide) hp
theorem bX12_within_0_2 {g : GG} {d n0 nf : Nat} {post : Option Value → LX → Prop} {n : Nat} {X : LX} (hn : 146 ≤ nf) (hX : Sh nf X) {v0 : Int32} {v1 : Int32} {v2 : Int32} (c0 : v0 < v1) (hp : post (some (.int 0)) X) : Ev g mX12_within d n0 nf post nf 0 [some (.int v0), some (.int v1), some (.int v2)] [] X := by
  refine ev_iload_n dX12_within_0 rfl ?_
  refine ev_iload_n dX12_within_1 rfl ?_
  refine ev_icmpT (tgt := 14) dX12_within_2 (by decide) c0 ?_
  refine ev_iconst (v := 0) dX12_within_14 ki_0 ?_
  exact ev_iret dX12_within_15 rfl (by decide) hp
theorem bX12_isPart_0_0 {g : GG} {d n0 nf : Nat} {post : Option Value → LX → Prop} {n : Nat} {X : LX} (hn : 146 ≤ n) (hX : Sh n X) {v1 : Int32} (k : Ev g mX12_isPart d n0 nf post n 10 [some (.ref 133), some (.int v1)] [.int ((X 134 4) - 1), .int 0, .int v1] X) : Ev g mX12_isPart d n0 nf post n 0 [some (.ref 133), some (.int v1)] [] X := by
  refine ev_iload_n dX12_isPart_0 rfl ?_
  refine ev_iconst (v := 0) dX12_isPart_1 ki_0 ?_
  refine ev_aload_n dX12_isPart_2 rfl ?_
  refine ev_getS (q := 134) dX12_isPart_3 fo_12_9 (by omega) lo_133 rfl (sh_133_0 hX (by omega)) (by decide) ?_
  refine ev_iconst (v := 4) dX12_isPart_6 ki_4 ?_
  refine ev_iald dX12_isPart_7 (by omega) ly_134 nIl_4 (by decide) ?_
  refine ev_iconst (v := 1) dX12_isPart_8 ki_1 ?_
  refine ev_isub dX12_isPart_9 ?_
  exact k
theorem bX12_isPart_13_0 {g : GG} {d n0 nf : Nat} {post : Option Value → LX → Prop} {n : Nat} {X : LX} (hn : 146 ≤ nf) (hX : Sh nf X) {v1 : Int32} {s0 : Int32} (hz : s0 = 0 ∨ s0 = 1) (hp : post (some (.int s0)) X) : Ev g mX12_isPart d n0 nf post nf 13 [some (.ref 133), some (.int v1)] [.int s0] X := by
  exact ev_iret dX12_isPart_13 rfl (nz_bool hz) hp
theorem bX12_isMeal_0_0 {g : GG} {d n0 nf : Nat} {post : Option Value → LX → Prop} {n : Nat} {X : LX} (hn : 146 ≤ n) (hX : Sh n X) {v1 : Int32} (k : Ev g mX12_isMeal d n0 nf post n 10 [some (.ref 133), some (.int v1)] [.int ((X 134 5) - 1), .int 0, .int v1] X) : Ev g mX12_isMeal d n0 nf post n 0 [some (.ref 133), some (.int v1)] [] X := by
  refine ev_iload_n dX12_isMeal_0 rfl ?_
  refine ev_iconst (v := 0) dX12_isMeal_1 ki_0 ?_
  refine ev_aload_n dX12_isMeal_2 rfl ?_
  refine ev_getS (q := 134) dX12_isMeal_3 fo_12_9 (by omega) lo_133 rfl (sh_133_0 hX (by omega)) (by decide) ?_
  refine ev_iconst (v := 5) dX12_isMeal_6 ki_5 ?_
  refine ev_iald dX12_isMeal_7 (by omega) ly_134 nIl_5 (by decide) ?_
  refine ev_iconst (v := 1) dX12_isMeal_8 ki_1 ?_
  refine ev_isub dX12_isMeal_9 ?_
  exact k
theorem bX12_isMeal_13_0 {g : GG} {d n0 nf : Nat} {post : Option Value → LX → Prop} {n : Nat} {X : LX} (hn : 146 ≤ nf) (hX : Sh nf X) {v1 : Int32} {s0 : Int32} (hz : s0 = 0 ∨ s0 = 1) (hp : post (some (.int s0)) X) : Ev g mX12_isMeal d n0 nf post nf 13 [some (.ref 133), some (.int v1)] [.int s0] X := by
  exact ev_iret dX12_isMeal_13 rfl (nz_bool hz) hp
theorem bX12_isFamily_0_0 {g : GG} {d n0 nf : Nat} {post : Option Value → LX → Prop} {n : Nat} {X : LX} (hn : 146 ≤ n) (hX : Sh n X) {v1 : Int32} (k : Ev g mX12_isFamily d n0 nf post n 11 [some (.ref 133), some (.int v1)] [.int ((X 134 6) - 1), .int 0, .int v1] X) : Ev g mX12_isFamily d n0 nf post n 0 [some (.ref 133), some (.int v1)] [] X := by
  refine ev_iload_n dX12_isFamily_0 rfl ?_
  refine ev_iconst (v := 0) dX12_isFamily_1 ki_0 ?_
  refine ev_aload_n dX12_isFamily_2 rfl ?_
  refine ev_getS (q := 134) dX12_isFamily_3 fo_12_9 (by omega) lo_133 rfl (sh_133_0 hX (by omega)) (by decide) ?_
  refine ev_bipush (v := 6) dX12_isFamily_6 kb_6 ?_
  refine ev_iald dX12_isFamily_8 (by omega) ly_134 nIl_6 (by decide) ?_
  refine ev_iconst (v := 1) dX12_isFamily_9 ki_1 ?_
  refine ev_isub dX12_isFamily_10 ?_
  exact k
theorem bX12_isFamily_14_0 {g : GG} {d n0 nf : Nat} {post : Option Value → LX → Prop} {n : Nat} {X : LX} (hn : 146 ≤ nf) (hX : Sh nf X) {v1 : Int32} {s0 : Int32} (hz : s0 = 0 ∨ s0 = 1) (hp : post (some (.int s0)) X) : Ev g mX12_isFamily d n0 nf post nf 14 [some (.ref 133), some (.int v1)] [.int s0] X := by
  exact ev_iret dX12_isFamily_14 rfl (nz_bool hz) hp
theorem bX12_ofPart_0_0 {g : GG} {d n0 nf : Nat} {post : Option Value → LX → Prop} {n : Nat} {X : LX} (hn : 146 ≤ nf) (hX : Sh nf X) {v0 : Int32} {v1 : Int32} (hp : post (some (.int ((10 + (8 * v0)) + v1))) X) : Ev g mX12_ofPart d n0 nf post nf 0 [some (.int v0), some (.int v1)] [] X := by
  refine ev_bipush (v := 10) dX12_ofPart_0 kb_10 ?_
  refine ev_bipush (v := 8) dX12_ofPart_2 kb_8 ?_
  refine ev_iload_n dX12_ofPart_4 rfl ?_
  refine ev_imul dX12_ofPart_5 ?_
  refine ev_iadd dX12_ofPart_6 ?_
  refine ev_iload_n dX12_ofPart_7 rfl ?_
  refine ev_iadd dX12_ofPart_8 ?_
  exact ev_iret dX12_ofPart_9 rfl rfl hp
theorem bX12_ofMeal_0_0 {g : GG} {d n0 nf : Nat} {post : Option Value → LX → Prop} {n : Nat} {X : LX} (hn : 146 ≤ nf) (hX : Sh nf X) {v0 : Int32} {v1 : Int32} (hp : post (some (.int ((318 + (13 * v0)) + v1))) X) : Ev g mX12_ofMeal d n0 nf post nf 0 [some (.int v0), some (.int v1)] [] X := by
  refine ev_sipush (v := 318) dX12_ofMeal_0 ks_318 ?_
  refine ev_bipush (v := 13) dX12_ofMeal_3 kb_13 ?_
  refine ev_iload_n dX12_ofMeal_5 rfl ?_
  refine ev_imul dX12_ofMeal_6 ?_
  refine ev_iadd dX12_ofMeal_7 ?_
  refine ev_iload_n dX12_ofMeal_8 rfl ?_
  refine ev_iadd dX12_ofMeal_9 ?_
  exact ev_iret dX12_ofMeal_10 rfl rfl hp
theorem bX12_ofFamily_0_0 {g : GG} {d n0 nf : Nat} {post : Option Value → LX → Prop} {n : Nat} {X : LX} (hn : 146 ≤ nf) (hX : Sh nf X) {v0 : Int32} {v1 : Int32} (hp : post (some (.int ((448 + (15 * v0)) + v1))) X) : Ev g mX12_ofFamily d n0 nf post nf 0 [some (.int v0), some (.int v1)] [] X := by
  refine ev_sipush (v := 448) dX12_ofFamily_0 ks_448 ?_
  refine ev_bipush (v := 15) dX12_ofFamily_3 kb_15 ?_
  refine ev_iload_n dX12_ofFamily_5 rfl ?_
  refine ev_imul dX12_ofFamily_6 ?_
  refine ev_iadd dX12_ofFamily_7 ?_
  refine ev_iload_n dX12_ofFamily_8 rfl ?_
  refine ev_iadd dX12_ofFamily_9 ?_
  exact ev_iret dX12_ofFamily_10 rfl rfl hp
theorem bX12_ofLot_0_0 {g : GG} {d n0 nf : Nat} {post : Option Value → LX → Prop} {n : Nat} {X : LX} (hn : 146 ≤ nf) (hX : Sh nf X) {v0 : Int32} {v1 : Int32} (hp : post (some (.int ((628 + (5 * v0)) + v1))) X) : Ev g mX12_ofLot d n0 nf post nf 0 [some (.int v0), some (.int v1)] [] X := by
  refine ev_sipush (v := 628) dX12_ofLot_0 ks_628 ?_
  refine ev_iconst (v := 5) dX12_ofLot_3 ki_5 ?_
  refine ev_iload_n dX12_ofLot_4 rfl ?_
  refine ev_imul dX12_ofLot_5 ?_
  refine ev_iadd dX12_ofLot_6 ?_
  refine ev_iload_n dX12_ofLot_7 rfl ?_
  refine ev_iadd dX12_ofLot_8 ?_
  exact ev_iret dX12_ofLot_9 rfl rfl hp
theorem bX12_ones_0_0 {g : GG} {d n0 nf : Nat} {post : Option Value → LX → Prop} {n : Nat} {X : LX} (hn : 146 ≤ n) (hX : Sh n X) {v0 : Int32} (k : Ev g mX12_ones d n0 nf post n 4 [some (.int v0), some (.int 0), some (.int 0)] [] X) : Ev g mX12_ones d n0 nf post n 0 [some (.int v0), none, none] [] X := by
  refine ev_iconst (v := 0) dX12_ones_0 ki_0 ?_
  refine ev_istore_n dX12_ones_1 (by decide) ?_
  refine ev_iconst (v := 0) dX12_ones_2 ki_0 ?_
  refine ev_istore_n dX12_ones_3 (by decide) ?_
  exact k
theorem bX12_ones_4_0 {g : GG} {d n0 nf : Nat} {post : Option Value → LX → Prop} {n : Nat} {X : LX} (hn : 146 ≤ n) (hX : Sh n X) {v0 : Int32} {v1 : Int32} {v2 : Int32} (c0 : ¬ 16 ≤ v2) (k : Ev g mX12_ones d n0 nf post n 4 [some (.int v0), some (.int (v1 + ((v0 >>> (v2 &&& 31)) &&& 1))), some (.int (v2 + 1))] [] X) : Ev g mX12_ones d n0 nf post n 4 [some (.int v0), some (.int v1), some (.int v2)] [] X := by
  refine ev_iload_n dX12_ones_4 rfl ?_
  refine ev_bipush (v := 16) dX12_ones_5 kb_16 ?_
  refine ev_icmpF (tgt := 24) dX12_ones_7 (by decide) c0 ?_
  refine ev_iload_n dX12_ones_10 rfl ?_
  refine ev_iload_n dX12_ones_11 rfl ?_
  refine ev_iload_n dX12_ones_12 rfl ?_
  refine ev_ishr dX12_ones_13 ?_
  refine ev_iconst (v := 1) dX12_ones_14 ki_1 ?_
  refine ev_iand dX12_ones_15 ?_
  refine ev_iadd dX12_ones_16 ?_
  refine ev_istore_n dX12_ones_17 (by decide) ?_
  refine ev_iinc (v := v2 + 1) dX12_ones_18 rfl (by rw [show Int32.ofInt 1 = 1 from ki_1]) (by decide) ?_
  refine ev_goto (tgt := 4) dX12_ones_21 (by decide) ?_
  exact k
theorem bX12_ones_4_1 {g : GG} {d n0 nf : Nat} {post : Option Value → LX → Prop} {n : Nat} {X : LX} (hn : 146 ≤ nf) (hX : Sh nf X) {v0 : Int32} {v1 : Int32} {v2 : Int32} (c0 : 16 ≤ v2) (hp : post (some (.int v1)) X) : Ev g mX12_ones d n0 nf post nf 4 [some (.int v0), some (.int v1), some (.int v2)] [] X := by
  refine ev_iload_n dX12_ones_4 rfl ?_
  refine ev_bipush (v := 16) dX12_ones_5 kb_16 ?_
  refine ev_icmpT (tgt := 24) dX12_ones_7 (by decide) c0 ?_
  refine ev_iload_n dX12_ones_24 rfl ?_
  exact ev_iret dX12_ones_25 rfl rfl hp
theorem bX12_has_0_0 {g : GG} {d n0 nf : Nat} {post : Option Value → LX → Prop} {n : Nat} {X : LX} (hn : 146 ≤ nf) (hX : Sh nf X) {v0 : Int32} {v1 : Int32} (c0 : (v0 >>> (v1 &&& 31)) &&& 1 = 1) (hp : post (some (.int 1)) X) : Ev g mX12_has d n0 nf post nf 0 [some (.int v0), some (.int v1)] [] X := by
  refine ev_iload_n dX12_has_0 rfl ?_
  refine ev_iload_n dX12_has_1 rfl ?_
  refine ev_ishr dX12_has_2 ?_
  refine ev_iconst (v := 1) dX12_has_3 ki_1 ?_
  refine ev_iand dX12_has_4 ?_
  refine ev_iconst (v := 1) dX12_has_5 ki_1 ?_
  refine ev_icmpF (tgt := 13) dX12_has_6 (by decide) c0 ?_
  refine ev_iconst (v := 1) dX12_has_9 ki_1 ?_
  refine ev_goto (tgt := 14) dX12_has_10 (by decide) ?_
  exact ev_iret dX12_has_14 rfl (by decide) hp
theorem bX12_has_0_1 {g : GG} {d n0 nf : Nat} {post : Option Value → LX → Prop} {n : Nat} {X : LX} (hn : 146 ≤ nf) (hX : Sh nf X) {v0 : Int32} {v1 : Int32} (c0 : ¬ (v0 >>> (v1 &&& 31)) &&& 1 = 1) (hp : post (some (.int 0)) X) : Ev g mX12_has d n0 nf post nf 0 [some (.int v0), some (.int v1)] [] X := by
  refine ev_iload_n dX12_has_0 rfl ?_
  refine ev_iload_n dX12_has_1 rfl ?_
  refine ev_ishr dX12_has_2 ?_
  refine ev_iconst (v := 1) dX12_has_3 ki_1 ?_
  refine ev_iand dX12_has_4 ?_
  refine ev_iconst (v := 1) dX12_has_5 ki_1 ?_
  refine ev_icmpT (tgt := 13) dX12_has_6 (by decide) c0 ?_
  refine ev_iconst (v := 0) dX12_has_13 ki_0 ?_
  exact ev_iret dX12_has_14 rfl (by decide) hp
theorem bX12_part_0_0 {g : GG} {d n0 nf : Nat} {post : Option Value → LX → Prop} {n : Nat} {X : LX} (hn : 146 ≤ n) (hX : Sh n X) {v1 : Int32} {v2 : Int32} {v3 : Int32} (k : Ev g mX12_part d n0 nf post n 5 [some (.ref 133), some (.int v1), some (.int v2), some (.int v3), none, none] [.int 99999, .int 100, .int v2] X) : Ev g mX12_part d n0 nf post n 0 [some (.ref 133), some (.int v1), some (.int v2), some (.int v3), none, none] [] X := by
  refine ev_iload_n dX12_part_0 rfl ?_
  refine ev_bipush (v := 100) dX12_part_1 kb_100 ?_
  refine ev_ldc (v := 99999) dX12_part_3 kw_12_56 ?_
  exact k
theorem bX12_part_8_0 {g : GG} {d n0 nf : Nat} {post : Option Value → LX → Prop} {n : Nat} {X : LX} (hn : 146 ≤ n) (hX : Sh n X) {v1 : Int32} {v2 : Int32} {v3 : Int32} {s0 : Int32} (c0 : ¬ s0 = 0) (c1 : ¬ 5 < v2 - v2 / 10 * 10) (c2 : ¬ 4 ≤ (v2 / 10) - (v2 / 10) / 10 * 10) (k : Ev g mX12_part d n0 nf post n 42 [some (.ref 133), some (.int v1), some (.int v2), some (.int v3), some (.int 1), none] [.int 255, .int 0, .int v1] X) : Ev g mX12_part d n0 nf post n 8 [some (.ref 133), some (.int v1), some (.int v2), some (.int v3), none, none] [.int s0] X := by
  refine ev_ifF (tgt := 34) dX12_part_8 (by decide) c0 ?_
  refine ev_iload_n dX12_part_11 rfl ?_
  refine ev_bipush (v := 10) dX12_part_12 kb_10 ?_
  refine ev_irem dX12_part_14 (by decide) ?_
  refine ev_iconst (v := 5) dX12_part_15 ki_5 ?_
  refine ev_icmpF (tgt := 34) dX12_part_16 (by decide) c1 ?_
  refine ev_iload_n dX12_part_19 rfl ?_
  refine ev_bipush (v := 10) dX12_part_20 kb_10 ?_
  refine ev_idiv dX12_part_22 (by decide) ?_
  refine ev_bipush (v := 10) dX12_part_23 kb_10 ?_
  refine ev_irem dX12_part_25 (by decide) ?_
  refine ev_iconst (v := 4) dX12_part_26 ki_4 ?_
  refine ev_icmpF (tgt := 34) dX12_part_27 (by decide) c2 ?_
  refine ev_iconst (v := 1) dX12_part_30 ki_1 ?_
  refine ev_goto (tgt := 35) dX12_part_31 (by decide) ?_
  refine ev_istore dX12_part_35 (by decide) ?_
  refine ev_iload_n dX12_part_37 rfl ?_
  refine ev_iconst (v := 0) dX12_part_38 ki_0 ?_
  refine ev_sipush (v := 255) dX12_part_39 ks_255 ?_
  exact k
theorem bX12_part_8_1 {g : GG} {d n0 nf : Nat} {post : Option Value → LX → Prop} {n : Nat} {X : LX} (hn : 146 ≤ n) (hX : Sh n X) {v1 : Int32} {v2 : Int32} {v3 : Int32} {s0 : Int32} (c0 : ¬ s0 = 0) (c1 : ¬ 5 < v2 - v2 / 10 * 10) (c2 : 4 ≤ (v2 / 10) - (v2 / 10) / 10 * 10) (k : Ev g mX12_part d n0 nf post n 42 [some (.ref 133), some (.int v1), some (.int v2), some (.int v3), some (.int 0), none] [.int 255, .int 0, .int v1] X) : Ev g mX12_part d n0 nf post n 8 [some (.ref 133), some (.int v1), some (.int v2), some (.int v3), none, none] [.int s0] X := by
  refine ev_ifF (tgt := 34) dX12_part_8 (by decide) c0 ?_
  refine ev_iload_n dX12_part_11 rfl ?_
  refine ev_bipush (v := 10) dX12_part_12 kb_10 ?_
  refine ev_irem dX12_part_14 (by decide) ?_
  refine ev_iconst (v := 5) dX12_part_15 ki_5 ?_
  refine ev_icmpF (tgt := 34) dX12_part_16 (by decide) c1 ?_
  refine ev_iload_n dX12_part_19 rfl ?_
  refine ev_bipush (v := 10) dX12_part_20 kb_10 ?_
  refine ev_idiv dX12_part_22 (by decide) ?_
  refine ev_bipush (v := 10) dX12_part_23 kb_10 ?_
  refine ev_irem dX12_part_25 (by decide) ?_
  refine ev_iconst (v := 4) dX12_part_26 ki_4 ?_
  refine ev_icmpT (tgt := 34) dX12_part_27 (by decide) c2 ?_
  refine ev_iconst (v := 0) dX12_part_34 ki_0 ?_
  refine ev_istore dX12_part_35 (by decide) ?_
  refine ev_iload_n dX12_part_37 rfl ?_
  refine ev_iconst (v := 0) dX12_part_38 ki_0 ?_
  refine ev_sipush (v := 255) dX12_part_39 ks_255 ?_
  exact k
theorem bX12_part_8_2 {g : GG} {d n0 nf : Nat} {post : Option Value → LX → Prop} {n : Nat} {X : LX} (hn : 146 ≤ n) (hX : Sh n X) {v1 : Int32} {v2 : Int32} {v3 : Int32} {s0 : Int32} (c0 : ¬ s0 = 0) (c1 : 5 < v2 - v2 / 10 * 10) (k : Ev g mX12_part d n0 nf post n 42 [some (.ref 133), some (.int v1), some (.int v2), some (.int v3), some (.int 0), none] [.int 255, .int 0, .int v1] X) : Ev g mX12_part d n0 nf post n 8 [some (.ref 133), some (.int v1), some (.int v2), some (.int v3), none, none] [.int s0] X := by
  refine ev_ifF (tgt := 34) dX12_part_8 (by decide) c0 ?_
  refine ev_iload_n dX12_part_11 rfl ?_
  refine ev_bipush (v := 10) dX12_part_12 kb_10 ?_
  refine ev_irem dX12_part_14 (by decide) ?_
  refine ev_iconst (v := 5) dX12_part_15 ki_5 ?_
  refine ev_icmpT (tgt := 34) dX12_part_16 (by decide) c1 ?_
  refine ev_iconst (v := 0) dX12_part_34 ki_0 ?_
  refine ev_istore dX12_part_35 (by decide) ?_
  refine ev_iload_n dX12_part_37 rfl ?_
  refine ev_iconst (v := 0) dX12_part_38 ki_0 ?_
  refine ev_sipush (v := 255) dX12_part_39 ks_255 ?_
  exact k
theorem bX12_part_8_3 {g : GG} {d n0 nf : Nat} {post : Option Value → LX → Prop} {n : Nat} {X : LX} (hn : 146 ≤ n) (hX : Sh n X) {v1 : Int32} {v2 : Int32} {v3 : Int32} {s0 : Int32} (c0 : s0 = 0) (k : Ev g mX12_part d n0 nf post n 42 [some (.ref 133), some (.int v1), some (.int v2), some (.int v3), some (.int 0), none] [.int 255, .int 0, .int v1] X) : Ev g mX12_part d n0 nf post n 8 [some (.ref 133), some (.int v1), some (.int v2), some (.int v3), none, none] [.int s0] X := by
  refine ev_ifT (tgt := 34) dX12_part_8 (by decide) c0 ?_
  refine ev_iconst (v := 0) dX12_part_34 ki_0 ?_
  refine ev_istore dX12_part_35 (by decide) ?_
  refine ev_iload_n dX12_part_37 rfl ?_
  refine ev_iconst (v := 0) dX12_part_38 ki_0 ?_
  refine ev_sipush (v := 255) dX12_part_39 ks_255 ?_
  exact k
theorem bX12_part_45_0 {g : GG} {d n0 nf : Nat} {post : Option Value → LX → Prop} {n : Nat} {X : LX} (hn : 146 ≤ n) (hX : Sh n X) {v1 : Int32} {v2 : Int32} {v3 : Int32} {v4 : Int32} {s0 : Int32} (c0 : ¬ s0 = 0) (c1 : ¬ v4 = 0) (k : Ev g mX12_part d n0 nf post n 57 [some (.ref 133), some (.int v1), some (.int v2), some (.int v3), some (.int v4), none] [.int 20, .int 1, .int v3] X) : Ev g mX12_part d n0 nf post n 45 [some (.ref 133), some (.int v1), some (.int v2), some (.int v3), some (.int v4), none] [.int s0] X := by
  refine ev_ifF (tgt := 63) dX12_part_45 (by decide) c0 ?_
  refine ev_iload dX12_part_48 rfl ?_
  refine ev_ifF (tgt := 63) dX12_part_50 (by decide) c1 ?_
  refine ev_iload_n dX12_part_53 rfl ?_
  refine ev_iconst (v := 1) dX12_part_54 ki_1 ?_
  refine ev_bipush (v := 20) dX12_part_55 kb_20 ?_
  exact k
theorem bX12_part_45_1 {g : GG} {d n0 nf : Nat} {post : Option Value → LX → Prop} {n : Nat} {X : LX} (hn : 146 ≤ nf) (hX : Sh nf X) {v1 : Int32} {v2 : Int32} {v3 : Int32} {v4 : Int32} {s0 : Int32} (c0 : ¬ s0 = 0) (c1 : v4 = 0) (hp : post (some (.int (-1000000001))) X) : Ev g mX12_part d n0 nf post nf 45 [some (.ref 133), some (.int v1), some (.int v2), some (.int v3), some (.int v4), none] [.int s0] X := by
  refine ev_ifF (tgt := 63) dX12_part_45 (by decide) c0 ?_
  refine ev_iload dX12_part_48 rfl ?_
  refine ev_ifT (tgt := 63) dX12_part_50 (by decide) c1 ?_
  refine ev_ldc (v := (-1000000001)) dX12_part_63 kw_12_57 ?_
  exact ev_iret dX12_part_65 rfl rfl hp
theorem bX12_part_45_2 {g : GG} {d n0 nf : Nat} {post : Option Value → LX → Prop} {n : Nat} {X : LX} (hn : 146 ≤ nf) (hX : Sh nf X) {v1 : Int32} {v2 : Int32} {v3 : Int32} {v4 : Int32} {s0 : Int32} (c0 : s0 = 0) (hp : post (some (.int (-1000000001))) X) : Ev g mX12_part d n0 nf post nf 45 [some (.ref 133), some (.int v1), some (.int v2), some (.int v3), some (.int v4), none] [.int s0] X := by
  refine ev_ifT (tgt := 63) dX12_part_45 (by decide) c0 ?_
  refine ev_ldc (v := (-1000000001)) dX12_part_63 kw_12_57 ?_
  exact ev_iret dX12_part_65 rfl rfl hp
theorem bX12_part_60_0 {g : GG} {d n0 nf : Nat} {post : Option Value → LX → Prop} {n : Nat} {X : LX} (hn : 146 ≤ nf) (hX : Sh nf X) {v1 : Int32} {v2 : Int32} {v3 : Int32} {v4 : Int32} {s0 : Int32} (c0 : s0 = 0) (hp : post (some (.int (-1000000001))) X) : Ev g mX12_part d n0 nf post nf 60 [some (.ref 133), some (.int v1), some (.int v2), some (.int v3), some (.int v4), none] [.int s0] X := by
  refine ev_ifF (tgt := 66) dX12_part_60 (by decide) c0 ?_
  refine ev_ldc (v := (-1000000001)) dX12_part_63 kw_12_57 ?_
  exact ev_iret dX12_part_65 rfl rfl hp
theorem bX12_part_60_1 {g : GG} {d n0 nf : Nat} {post : Option Value → LX → Prop} {n : Nat} {X : LX} (hn : 146 ≤ nf) (hX : Sh nf X) {v1 : Int32} {v2 : Int32} {v3 : Int32} {v4 : Int32} {s0 : Int32} (c0 : ¬ s0 = 0) (c1 : X 134 4 = 14) (hp : post (some (.int (-1000000003))) X) : Ev g mX12_part d n0 nf post nf 60 [some (.ref 133), some (.int v1), some (.int v2), some (.int v3), some (.int v4), none] [.int s0] X := by
  refine ev_ifT (tgt := 66) dX12_part_60 (by decide) c0 ?_
  refine ev_aload_n dX12_part_66 rfl ?_
  refine ev_getS (q := 134) dX12_part_67 fo_12_9 (by omega) lo_133 rfl (sh_133_0 hX (by omega)) (by decide) ?_
  refine ev_iconst (v := 4) dX12_part_70 ki_4 ?_
  refine ev_iald dX12_part_71 (by omega) ly_134 nIl_4 (by decide) ?_
  refine ev_istore dX12_part_72 (by decide) ?_
  refine ev_iload dX12_part_74 rfl ?_
  refine ev_bipush (v := 14) dX12_part_76 kb_14 ?_
  refine ev_icmpF (tgt := 84) dX12_part_78 (by decide) c1 ?_
  refine ev_ldc (v := (-1000000003)) dX12_part_81 kw_12_58 ?_
  exact ev_iret dX12_part_83 rfl rfl hp
theorem bX12_part_60_2 {g : GG} {d n0 nf : Nat} {post : Option Value → LX → Prop} {n : Nat} {X : LX} (hn : 146 ≤ n) (hX : Sh n X) {v1 : Int32} {v2 : Int32} {v3 : Int32} {v4 : Int32} {s0 : Int32} (c0 : ¬ s0 = 0) (c1 : ¬ X 134 4 = 14) (k : Ev g mX12_part d n0 nf post n 91 [some (.ref 133), some (.int v1), some (.int v2), some (.int v3), some (.int v4), some (.int (X 134 4))] [.int 0, .int (X 134 4), .ref 134] X) : Ev g mX12_part d n0 nf post n 60 [some (.ref 133), some (.int v1), some (.int v2), some (.int v3), some (.int v4), none] [.int s0] X := by
  refine ev_ifT (tgt := 66) dX12_part_60 (by decide) c0 ?_
  refine ev_aload_n dX12_part_66 rfl ?_
  refine ev_getS (q := 134) dX12_part_67 fo_12_9 (by omega) lo_133 rfl (sh_133_0 hX (by omega)) (by decide) ?_
  refine ev_iconst (v := 4) dX12_part_70 ki_4 ?_
  refine ev_iald dX12_part_71 (by omega) ly_134 nIl_4 (by decide) ?_
  refine ev_istore dX12_part_72 (by decide) ?_
  refine ev_iload dX12_part_74 rfl ?_
  refine ev_bipush (v := 14) dX12_part_76 kb_14 ?_
  refine ev_icmpT (tgt := 84) dX12_part_78 (by decide) c1 ?_
  refine ev_aload_n dX12_part_84 rfl ?_
  refine ev_getS (q := 134) dX12_part_85 fo_12_9 (by omega) lo_133 rfl (sh_133_0 hX (by omega)) (by decide) ?_
  refine ev_iload dX12_part_88 rfl ?_
  refine ev_iconst (v := 0) dX12_part_90 ki_0 ?_
  exact k
theorem bX12_part_94_0 {g : GG} {d n0 nf : Nat} {post : Option Value → LX → Prop} {n : Nat} {X : LX} (hn : 146 ≤ n) (hX : Sh n X) {v1 : Int32} {v2 : Int32} {v3 : Int32} {v4 : Int32} {v5 : Int32} {s1 : Nat} (b0 : s1 < 2156) (k : Ev g mX12_part d n0 nf post n 103 [some (.ref 133), some (.int v1), some (.int v2), some (.int v3), some (.int v4), some (.int v5)] [.int 1, .int v5, .ref 134] (lx_up X 134 s1 v1)) : Ev g mX12_part d n0 nf post n 94 [some (.ref 133), some (.int v1), some (.int v2), some (.int v3), some (.int v4), some (.int v5)] [.int (nI s1), .ref 134] X := by
  refine ev_iload_n dX12_part_94 rfl ?_
  refine ev_iast dX12_part_95 (by omega) ly_134 rfl b0 ?_
  have hX1 : Sh _ (lx_up X 134 s1 v1) := Sh.upA hX (by rw [ly_134]; exact (by decide : 0 < 2))
  refine ev_aload_n dX12_part_96 rfl ?_
  refine ev_getS (q := 134) dX12_part_97 fo_12_9 (by omega) lo_133 rfl (sh_133_0 hX1 (by omega)) (by decide) ?_
  refine ev_iload dX12_part_100 rfl ?_
  refine ev_iconst (v := 1) dX12_part_102 ki_1 ?_
  exact k
theorem bX12_part_106_0 {g : GG} {d n0 nf : Nat} {post : Option Value → LX → Prop} {n : Nat} {X : LX} (hn : 146 ≤ n) (hX : Sh n X) {v1 : Int32} {v2 : Int32} {v3 : Int32} {v4 : Int32} {v5 : Int32} {s1 : Nat} (b0 : s1 < 2156) (k : Ev g mX12_part d n0 nf post n 118 [some (.ref 133), some (.int v1), some (.int v2), some (.int v3), some (.int v4), some (.int v5)] [.int 2, .int v5, .ref 134] (lx_up X 134 s1 (v2 / 100))) : Ev g mX12_part d n0 nf post n 106 [some (.ref 133), some (.int v1), some (.int v2), some (.int v3), some (.int v4), some (.int v5)] [.int (nI s1), .ref 134] X := by
  refine ev_iload_n dX12_part_106 rfl ?_
  refine ev_bipush (v := 100) dX12_part_107 kb_100 ?_
  refine ev_idiv dX12_part_109 (by decide) ?_
  refine ev_iast dX12_part_110 (by omega) ly_134 rfl b0 ?_
  have hX1 : Sh _ (lx_up X 134 s1 (v2 / 100)) := Sh.upA hX (by rw [ly_134]; exact (by decide : 0 < 2))
  refine ev_aload_n dX12_part_111 rfl ?_
  refine ev_getS (q := 134) dX12_part_112 fo_12_9 (by omega) lo_133 rfl (sh_133_0 hX1 (by omega)) (by decide) ?_
  refine ev_iload dX12_part_115 rfl ?_
  refine ev_iconst (v := 2) dX12_part_117 ki_2 ?_
  exact k
theorem bX12_part_121_0 {g : GG} {d n0 nf : Nat} {post : Option Value → LX → Prop} {n : Nat} {X : LX} (hn : 146 ≤ n) (hX : Sh n X) {v1 : Int32} {v2 : Int32} {v3 : Int32} {v4 : Int32} {v5 : Int32} {s1 : Nat} (b0 : s1 < 2156) (k : Ev g mX12_part d n0 nf post n 136 [some (.ref 133), some (.int v1), some (.int v2), some (.int v3), some (.int v4), some (.int v5)] [.int 3, .int v5, .ref 134] (lx_up X 134 s1 ((v2 / 10) - (v2 / 10) / 10 * 10))) : Ev g mX12_part d n0 nf post n 121 [some (.ref 133), some (.int v1), some (.int v2), some (.int v3), some (.int v4), some (.int v5)] [.int (nI s1), .ref 134] X := by
  refine ev_iload_n dX12_part_121 rfl ?_
  refine ev_bipush (v := 10) dX12_part_122 kb_10 ?_
  refine ev_idiv dX12_part_124 (by decide) ?_
  refine ev_bipush (v := 10) dX12_part_125 kb_10 ?_
  refine ev_irem dX12_part_127 (by decide) ?_
  refine ev_iast dX12_part_128 (by omega) ly_134 rfl b0 ?_
  have hX1 : Sh _ (lx_up X 134 s1 ((v2 / 10) - (v2 / 10) / 10 * 10)) := Sh.upA hX (by rw [ly_134]; exact (by decide : 0 < 2))
  refine ev_aload_n dX12_part_129 rfl ?_
  refine ev_getS (q := 134) dX12_part_130 fo_12_9 (by omega) lo_133 rfl (sh_133_0 hX1 (by omega)) (by decide) ?_
  refine ev_iload dX12_part_133 rfl ?_
  refine ev_iconst (v := 3) dX12_part_135 ki_3 ?_
  exact k
theorem bX12_part_139_0 {g : GG} {d n0 nf : Nat} {post : Option Value → LX → Prop} {n : Nat} {X : LX} (hn : 146 ≤ n) (hX : Sh n X) {v1 : Int32} {v2 : Int32} {v3 : Int32} {v4 : Int32} {v5 : Int32} {s1 : Nat} (b0 : s1 < 2156) (k : Ev g mX12_part d n0 nf post n 151 [some (.ref 133), some (.int v1), some (.int v2), some (.int v3), some (.int v4), some (.int v5)] [.int 4, .int v5, .ref 134] (lx_up X 134 s1 (v2 - v2 / 10 * 10))) : Ev g mX12_part d n0 nf post n 139 [some (.ref 133), some (.int v1), some (.int v2), some (.int v3), some (.int v4), some (.int v5)] [.int (nI s1), .ref 134] X := by
  refine ev_iload_n dX12_part_139 rfl ?_
  refine ev_bipush (v := 10) dX12_part_140 kb_10 ?_
  refine ev_irem dX12_part_142 (by decide) ?_
  refine ev_iast dX12_part_143 (by omega) ly_134 rfl b0 ?_
  have hX1 : Sh _ (lx_up X 134 s1 (v2 - v2 / 10 * 10)) := Sh.upA hX (by rw [ly_134]; exact (by decide : 0 < 2))
  refine ev_aload_n dX12_part_144 rfl ?_
  refine ev_getS (q := 134) dX12_part_145 fo_12_9 (by omega) lo_133 rfl (sh_133_0 hX1 (by omega)) (by decide) ?_
  refine ev_iload dX12_part_148 rfl ?_
  refine ev_iconst (v := 4) dX12_part_150 ki_4 ?_
  exact k
theorem bX12_part_154_0 {g : GG} {d n0 nf : Nat} {post : Option Value → LX → Prop} {n : Nat} {X : LX} (hn : 146 ≤ nf) (hX : Sh nf X) {v1 : Int32} {v2 : Int32} {v3 : Int32} {v4 : Int32} {v5 : Int32} {s1 : Nat} (b0 : s1 < 2156) (hp : post (some (.int v5)) (lx_up (lx_up X 134 s1 v3) 134 4 (((lx_up X 134 s1 v3) 134 4) + 1))) : Ev g mX12_part d n0 nf post nf 154 [some (.ref 133), some (.int v1), some (.int v2), some (.int v3), some (.int v4), some (.int v5)] [.int (nI s1), .ref 134] X := by
  refine ev_iload_n dX12_part_154 rfl ?_
  refine ev_iast dX12_part_155 (by omega) ly_134 rfl b0 ?_
  have hX1 : Sh _ (lx_up X 134 s1 v3) := Sh.upA hX (by rw [ly_134]; exact (by decide : 0 < 2))
  refine ev_aload_n dX12_part_156 rfl ?_
  refine ev_getS (q := 134) dX12_part_157 fo_12_9 (by omega) lo_133 rfl (sh_133_0 hX1 (by omega)) (by decide) ?_
  refine ev_iconst (v := 4) dX12_part_160 ki_4 ?_
  refine ev_dup2 dX12_part_161 rfl rfl ?_
  refine ev_iald dX12_part_162 (by omega) ly_134 nIl_4 (by decide) ?_
  refine ev_iconst (v := 1) dX12_part_163 ki_1 ?_
  refine ev_iadd dX12_part_164 ?_
  refine ev_iast dX12_part_165 (by omega) ly_134 nIl_4 (by decide) ?_
  have hX2 : Sh _ (lx_up (lx_up X 134 s1 v3) 134 4 (((lx_up X 134 s1 v3) 134 4) + 1)) := Sh.upA hX1 (by rw [ly_134]; exact (by decide : 0 < 2))
  refine ev_iload dX12_part_166 rfl ?_
  exact ev_iret dX12_part_168 rfl rfl hp
theorem bX12_unlike_0_0 {g : GG} {d n0 nf : Nat} {post : Option Value → LX → Prop} {n : Nat} {X : LX} (hn : 146 ≤ n) (hX : Sh n X) {v1 : Int32} {v2 : Int32} {v3 : Int32} (k : Ev g mX12_unlike d n0 nf post n 2 [some (.ref 133), some (.int v1), some (.int v2), some (.int v3), none] [.int v1, .ref 133] X) : Ev g mX12_unlike d n0 nf post n 0 [some (.ref 133), some (.int v1), some (.int v2), some (.int v3), none] [] X := by
  refine ev_aload_n dX12_unlike_0 rfl ?_
  refine ev_iload_n dX12_unlike_1 rfl ?_
  exact k
theorem bX12_unlike_5_0 {g : GG} {d n0 nf : Nat} {post : Option Value → LX → Prop} {n : Nat} {X : LX} (hn : 146 ≤ n) (hX : Sh n X) {v1 : Int32} {v2 : Int32} {v3 : Int32} {s0 : Int32} (c0 : ¬ s0 = 0) (k : Ev g mX12_unlike d n0 nf post n 10 [some (.ref 133), some (.int v1), some (.int v2), some (.int v3), none] [.int v2, .ref 133] X) : Ev g mX12_unlike d n0 nf post n 5 [some (.ref 133), some (.int v1), some (.int v2), some (.int v3), none] [.int s0] X := by
  refine ev_ifF (tgt := 31) dX12_unlike_5 (by decide) c0 ?_
  refine ev_aload_n dX12_unlike_8 rfl ?_
  refine ev_iload_n dX12_unlike_9 rfl ?_
  exact k
theorem bX12_unlike_5_1 {g : GG} {d n0 nf : Nat} {post : Option Value → LX → Prop} {n : Nat} {X : LX} (hn : 146 ≤ nf) (hX : Sh nf X) {v1 : Int32} {v2 : Int32} {v3 : Int32} {s0 : Int32} (c0 : s0 = 0) (hp : post (some (.int (-1000000001))) X) : Ev g mX12_unlike d n0 nf post nf 5 [some (.ref 133), some (.int v1), some (.int v2), some (.int v3), none] [.int s0] X := by
  refine ev_ifT (tgt := 31) dX12_unlike_5 (by decide) c0 ?_
  refine ev_ldc (v := (-1000000001)) dX12_unlike_31 kw_12_57 ?_
  exact ev_iret dX12_unlike_33 rfl rfl hp
theorem bX12_unlike_13_0 {g : GG} {d n0 nf : Nat} {post : Option Value → LX → Prop} {n : Nat} {X : LX} (hn : 146 ≤ n) (hX : Sh n X) {v1 : Int32} {v2 : Int32} {v3 : Int32} {s0 : Int32} (c0 : ¬ s0 = 0) (c1 : ¬ v1 = v2) (k : Ev g mX12_unlike d n0 nf post n 25 [some (.ref 133), some (.int v1), some (.int v2), some (.int v3), none] [.int 99, .int 1, .int v3] X) : Ev g mX12_unlike d n0 nf post n 13 [some (.ref 133), some (.int v1), some (.int v2), some (.int v3), none] [.int s0] X := by
  refine ev_ifF (tgt := 31) dX12_unlike_13 (by decide) c0 ?_
  refine ev_iload_n dX12_unlike_16 rfl ?_
  refine ev_iload_n dX12_unlike_17 rfl ?_
  refine ev_icmpF (tgt := 31) dX12_unlike_18 (by decide) c1 ?_
  refine ev_iload_n dX12_unlike_21 rfl ?_
  refine ev_iconst (v := 1) dX12_unlike_22 ki_1 ?_
  refine ev_bipush (v := 99) dX12_unlike_23 kb_99 ?_
  exact k
theorem bX12_unlike_13_1 {g : GG} {d n0 nf : Nat} {post : Option Value → LX → Prop} {n : Nat} {X : LX} (hn : 146 ≤ nf) (hX : Sh nf X) {v1 : Int32} {v2 : Int32} {v3 : Int32} {s0 : Int32} (c0 : ¬ s0 = 0) (c1 : v1 = v2) (hp : post (some (.int (-1000000001))) X) : Ev g mX12_unlike d n0 nf post nf 13 [some (.ref 133), some (.int v1), some (.int v2), some (.int v3), none] [.int s0] X := by
  refine ev_ifF (tgt := 31) dX12_unlike_13 (by decide) c0 ?_
  refine ev_iload_n dX12_unlike_16 rfl ?_
  refine ev_iload_n dX12_unlike_17 rfl ?_
  refine ev_icmpT (tgt := 31) dX12_unlike_18 (by decide) c1 ?_
  refine ev_ldc (v := (-1000000001)) dX12_unlike_31 kw_12_57 ?_
  exact ev_iret dX12_unlike_33 rfl rfl hp
theorem bX12_unlike_13_2 {g : GG} {d n0 nf : Nat} {post : Option Value → LX → Prop} {n : Nat} {X : LX} (hn : 146 ≤ nf) (hX : Sh nf X) {v1 : Int32} {v2 : Int32} {v3 : Int32} {s0 : Int32} (c0 : s0 = 0) (hp : post (some (.int (-1000000001))) X) : Ev g mX12_unlike d n0 nf post nf 13 [some (.ref 133), some (.int v1), some (.int v2), some (.int v3), none] [.int s0] X := by
  refine ev_ifT (tgt := 31) dX12_unlike_13 (by decide) c0 ?_
  refine ev_ldc (v := (-1000000001)) dX12_unlike_31 kw_12_57 ?_
  exact ev_iret dX12_unlike_33 rfl rfl hp
theorem bX12_unlike_28_0 {g : GG} {d n0 nf : Nat} {post : Option Value → LX → Prop} {n : Nat} {X : LX} (hn : 146 ≤ nf) (hX : Sh nf X) {v1 : Int32} {v2 : Int32} {v3 : Int32} {s0 : Int32} (c0 : s0 = 0) (hp : post (some (.int (-1000000001))) X) : Ev g mX12_unlike d n0 nf post nf 28 [some (.ref 133), some (.int v1), some (.int v2), some (.int v3), none] [.int s0] X := by
  refine ev_ifF (tgt := 34) dX12_unlike_28 (by decide) c0 ?_
  refine ev_ldc (v := (-1000000001)) dX12_unlike_31 kw_12_57 ?_
  exact ev_iret dX12_unlike_33 rfl rfl hp
theorem bX12_unlike_28_1 {g : GG} {d n0 nf : Nat} {post : Option Value → LX → Prop} {n : Nat} {X : LX} (hn : 146 ≤ nf) (hX : Sh nf X) {v1 : Int32} {v2 : Int32} {v3 : Int32} {s0 : Int32} {j1 : Nat} {j2 : Nat} {j3 : Nat} (c0 : ¬ s0 = 0) (hj1 : (122 + (14 * v1)) + v2 = nI j1) (b0 : j1 < 2156) (hj2 : (122 + (14 * v1)) + v2 = nI j2) (b1 : j2 < 2156) (hj3 : (122 + (14 * v2)) + v1 = nI j3) (b2 : j3 < 2156) (hp : post (some (.int (X 134 j1))) (lx_up (lx_up X 134 j2 v3) 134 j3 v3)) : Ev g mX12_unlike d n0 nf post nf 28 [some (.ref 133), some (.int v1), some (.int v2), some (.int v3), none] [.int s0] X := by
  refine ev_ifT (tgt := 34) dX12_unlike_28 (by decide) c0 ?_
  refine ev_aload_n dX12_unlike_34 rfl ?_
  refine ev_getS (q := 134) dX12_unlike_35 fo_12_9 (by omega) lo_133 rfl (sh_133_0 hX (by omega)) (by decide) ?_
  refine ev_bipush (v := 122) dX12_unlike_38 kb_122 ?_
  refine ev_bipush (v := 14) dX12_unlike_40 kb_14 ?_
  refine ev_iload_n dX12_unlike_42 rfl ?_
  refine ev_imul dX12_unlike_43 ?_
  refine ev_iadd dX12_unlike_44 ?_
  refine ev_iload_n dX12_unlike_45 rfl ?_
  refine ev_iadd dX12_unlike_46 ?_
  refine ev_iald dX12_unlike_47 (by omega) ly_134 hj1 b0 ?_
  refine ev_istore dX12_unlike_48 (by decide) ?_
  refine ev_aload_n dX12_unlike_50 rfl ?_
  refine ev_getS (q := 134) dX12_unlike_51 fo_12_9 (by omega) lo_133 rfl (sh_133_0 hX (by omega)) (by decide) ?_
  refine ev_bipush (v := 122) dX12_unlike_54 kb_122 ?_
  refine ev_bipush (v := 14) dX12_unlike_56 kb_14 ?_
  refine ev_iload_n dX12_unlike_58 rfl ?_
  refine ev_imul dX12_unlike_59 ?_
  refine ev_iadd dX12_unlike_60 ?_
  refine ev_iload_n dX12_unlike_61 rfl ?_
  refine ev_iadd dX12_unlike_62 ?_
  refine ev_iload_n dX12_unlike_63 rfl ?_
  refine ev_iast dX12_unlike_64 (by omega) ly_134 hj2 b1 ?_
  have hX1 : Sh _ (lx_up X 134 j2 v3) := Sh.upA hX (by rw [ly_134]; exact (by decide : 0 < 2))
  refine ev_aload_n dX12_unlike_65 rfl ?_
  refine ev_getS (q := 134) dX12_unlike_66 fo_12_9 (by omega) lo_133 rfl (sh_133_0 hX1 (by omega)) (by decide) ?_
  refine ev_bipush (v := 122) dX12_unlike_69 kb_122 ?_
  refine ev_bipush (v := 14) dX12_unlike_71 kb_14 ?_
  refine ev_iload_n dX12_unlike_73 rfl ?_
  refine ev_imul dX12_unlike_74 ?_
  refine ev_iadd dX12_unlike_75 ?_
  refine ev_iload_n dX12_unlike_76 rfl ?_
  refine ev_iadd dX12_unlike_77 ?_
  refine ev_iload_n dX12_unlike_78 rfl ?_
  refine ev_iast dX12_unlike_79 (by omega) ly_134 hj3 b2 ?_
  have hX2 : Sh _ (lx_up (lx_up X 134 j2 v3) 134 j3 v3) := Sh.upA hX1 (by rw [ly_134]; exact (by decide : 0 < 2))
  refine ev_iload dX12_unlike_80 rfl ?_
  exact ev_iret dX12_unlike_82 rfl rfl hp
theorem bX12_meal_0_0 {g : GG} {d n0 nf : Nat} {post : Option Value → LX → Prop} {n : Nat} {X : LX} (hn : 146 ≤ n) (hX : Sh n X) {v1 : Int32} {v2 : Int32} (k : Ev g mX12_meal d n0 nf post n 3 [some (.ref 133), some (.int v1), some (.int v2), none] [.int 3, .int 0, .int v1] X) : Ev g mX12_meal d n0 nf post n 0 [some (.ref 133), some (.int v1), some (.int v2), none] [] X := by
  refine ev_iload_n dX12_meal_0 rfl ?_
  refine ev_iconst (v := 0) dX12_meal_1 ki_0 ?_
  refine ev_iconst (v := 3) dX12_meal_2 ki_3 ?_
  exact k
theorem bX12_meal_6_0 {g : GG} {d n0 nf : Nat} {post : Option Value → LX → Prop} {n : Nat} {X : LX} (hn : 146 ≤ n) (hX : Sh n X) {v1 : Int32} {v2 : Int32} {s0 : Int32} (c0 : ¬ s0 = 0) (k : Ev g mX12_meal d n0 nf post n 13 [some (.ref 133), some (.int v1), some (.int v2), none] [.int 15, .int 0, .int v2] X) : Ev g mX12_meal d n0 nf post n 6 [some (.ref 133), some (.int v1), some (.int v2), none] [.int s0] X := by
  refine ev_ifF (tgt := 19) dX12_meal_6 (by decide) c0 ?_
  refine ev_iload_n dX12_meal_9 rfl ?_
  refine ev_iconst (v := 0) dX12_meal_10 ki_0 ?_
  refine ev_bipush (v := 15) dX12_meal_11 kb_15 ?_
  exact k
theorem bX12_meal_6_1 {g : GG} {d n0 nf : Nat} {post : Option Value → LX → Prop} {n : Nat} {X : LX} (hn : 146 ≤ nf) (hX : Sh nf X) {v1 : Int32} {v2 : Int32} {s0 : Int32} (c0 : s0 = 0) (hp : post (some (.int (-1000000001))) X) : Ev g mX12_meal d n0 nf post nf 6 [some (.ref 133), some (.int v1), some (.int v2), none] [.int s0] X := by
  refine ev_ifT (tgt := 19) dX12_meal_6 (by decide) c0 ?_
  refine ev_ldc (v := (-1000000001)) dX12_meal_19 kw_12_57 ?_
  exact ev_iret dX12_meal_21 rfl rfl hp
theorem bX12_meal_16_0 {g : GG} {d n0 nf : Nat} {post : Option Value → LX → Prop} {n : Nat} {X : LX} (hn : 146 ≤ nf) (hX : Sh nf X) {v1 : Int32} {v2 : Int32} {s0 : Int32} (c0 : s0 = 0) (hp : post (some (.int (-1000000001))) X) : Ev g mX12_meal d n0 nf post nf 16 [some (.ref 133), some (.int v1), some (.int v2), none] [.int s0] X := by
  refine ev_ifF (tgt := 22) dX12_meal_16 (by decide) c0 ?_
  refine ev_ldc (v := (-1000000001)) dX12_meal_19 kw_12_57 ?_
  exact ev_iret dX12_meal_21 rfl rfl hp
theorem bX12_meal_16_1 {g : GG} {d n0 nf : Nat} {post : Option Value → LX → Prop} {n : Nat} {X : LX} (hn : 146 ≤ nf) (hX : Sh nf X) {v1 : Int32} {v2 : Int32} {s0 : Int32} (c0 : ¬ s0 = 0) (c1 : X 134 5 = 10) (hp : post (some (.int (-1000000003))) X) : Ev g mX12_meal d n0 nf post nf 16 [some (.ref 133), some (.int v1), some (.int v2), none] [.int s0] X := by
  refine ev_ifT (tgt := 22) dX12_meal_16 (by decide) c0 ?_
  refine ev_aload_n dX12_meal_22 rfl ?_
  refine ev_getS (q := 134) dX12_meal_23 fo_12_9 (by omega) lo_133 rfl (sh_133_0 hX (by omega)) (by decide) ?_
  refine ev_iconst (v := 5) dX12_meal_26 ki_5 ?_
  refine ev_iald dX12_meal_27 (by omega) ly_134 nIl_5 (by decide) ?_
  refine ev_istore_n dX12_meal_28 (by decide) ?_
  refine ev_iload_n dX12_meal_29 rfl ?_
  refine ev_bipush (v := 10) dX12_meal_30 kb_10 ?_
  refine ev_icmpF (tgt := 38) dX12_meal_32 (by decide) c1 ?_
  refine ev_ldc (v := (-1000000003)) dX12_meal_35 kw_12_58 ?_
  exact ev_iret dX12_meal_37 rfl rfl hp
theorem bX12_meal_16_2 {g : GG} {d n0 nf : Nat} {post : Option Value → LX → Prop} {n : Nat} {X : LX} (hn : 146 ≤ n) (hX : Sh n X) {v1 : Int32} {v2 : Int32} {s0 : Int32} (c0 : ¬ s0 = 0) (c1 : ¬ X 134 5 = 10) (k : Ev g mX12_meal d n0 nf post n 44 [some (.ref 133), some (.int v1), some (.int v2), some (.int (X 134 5))] [.int 0, .int (X 134 5), .ref 134] X) : Ev g mX12_meal d n0 nf post n 16 [some (.ref 133), some (.int v1), some (.int v2), none] [.int s0] X := by
  refine ev_ifT (tgt := 22) dX12_meal_16 (by decide) c0 ?_
  refine ev_aload_n dX12_meal_22 rfl ?_
  refine ev_getS (q := 134) dX12_meal_23 fo_12_9 (by omega) lo_133 rfl (sh_133_0 hX (by omega)) (by decide) ?_
  refine ev_iconst (v := 5) dX12_meal_26 ki_5 ?_
  refine ev_iald dX12_meal_27 (by omega) ly_134 nIl_5 (by decide) ?_
  refine ev_istore_n dX12_meal_28 (by decide) ?_
  refine ev_iload_n dX12_meal_29 rfl ?_
  refine ev_bipush (v := 10) dX12_meal_30 kb_10 ?_
  refine ev_icmpT (tgt := 38) dX12_meal_32 (by decide) c1 ?_
  refine ev_aload_n dX12_meal_38 rfl ?_
  refine ev_getS (q := 134) dX12_meal_39 fo_12_9 (by omega) lo_133 rfl (sh_133_0 hX (by omega)) (by decide) ?_
  refine ev_iload_n dX12_meal_42 rfl ?_
  refine ev_iconst (v := 0) dX12_meal_43 ki_0 ?_
  exact k
theorem bX12_meal_47_0 {g : GG} {d n0 nf : Nat} {post : Option Value → LX → Prop} {n : Nat} {X : LX} (hn : 146 ≤ n) (hX : Sh n X) {v1 : Int32} {v2 : Int32} {v3 : Int32} {s1 : Nat} (b0 : s1 < 2156) (k : Ev g mX12_meal d n0 nf post n 55 [some (.ref 133), some (.int v1), some (.int v2), some (.int v3)] [.int 1, .int v3, .ref 134] (lx_up X 134 s1 v1)) : Ev g mX12_meal d n0 nf post n 47 [some (.ref 133), some (.int v1), some (.int v2), some (.int v3)] [.int (nI s1), .ref 134] X := by
  refine ev_iload_n dX12_meal_47 rfl ?_
  refine ev_iast dX12_meal_48 (by omega) ly_134 rfl b0 ?_
  have hX1 : Sh _ (lx_up X 134 s1 v1) := Sh.upA hX (by rw [ly_134]; exact (by decide : 0 < 2))
  refine ev_aload_n dX12_meal_49 rfl ?_
  refine ev_getS (q := 134) dX12_meal_50 fo_12_9 (by omega) lo_133 rfl (sh_133_0 hX1 (by omega)) (by decide) ?_
  refine ev_iload_n dX12_meal_53 rfl ?_
  refine ev_iconst (v := 1) dX12_meal_54 ki_1 ?_
  exact k
theorem bX12_meal_58_0 {g : GG} {d n0 nf : Nat} {post : Option Value → LX → Prop} {n : Nat} {X : LX} (hn : 146 ≤ nf) (hX : Sh nf X) {v1 : Int32} {v2 : Int32} {v3 : Int32} {s1 : Nat} (b0 : s1 < 2156) (hp : post (some (.int v3)) (lx_up (lx_up X 134 s1 v2) 134 5 (((lx_up X 134 s1 v2) 134 5) + 1))) : Ev g mX12_meal d n0 nf post nf 58 [some (.ref 133), some (.int v1), some (.int v2), some (.int v3)] [.int (nI s1), .ref 134] X := by
  refine ev_iload_n dX12_meal_58 rfl ?_
  refine ev_iast dX12_meal_59 (by omega) ly_134 rfl b0 ?_
  have hX1 : Sh _ (lx_up X 134 s1 v2) := Sh.upA hX (by rw [ly_134]; exact (by decide : 0 < 2))
  refine ev_aload_n dX12_meal_60 rfl ?_
  refine ev_getS (q := 134) dX12_meal_61 fo_12_9 (by omega) lo_133 rfl (sh_133_0 hX1 (by omega)) (by decide) ?_
  refine ev_iconst (v := 5) dX12_meal_64 ki_5 ?_
  refine ev_dup2 dX12_meal_65 rfl rfl ?_
  refine ev_iald dX12_meal_66 (by omega) ly_134 nIl_5 (by decide) ?_
  refine ev_iconst (v := 1) dX12_meal_67 ki_1 ?_
  refine ev_iadd dX12_meal_68 ?_
  refine ev_iast dX12_meal_69 (by omega) ly_134 nIl_5 (by decide) ?_
  have hX2 : Sh _ (lx_up (lx_up X 134 s1 v2) 134 5 (((lx_up X 134 s1 v2) 134 5) + 1)) := Sh.upA hX1 (by rw [ly_134]; exact (by decide : 0 < 2))
  refine ev_iload_n dX12_meal_70 rfl ?_
  exact ev_iret dX12_meal_71 rfl rfl hp
theorem bX12_isGreen_0_0 {g : GG} {d n0 nf : Nat} {post : Option Value → LX → Prop} {n : Nat} {X : LX} (hn : 146 ≤ n) (hX : Sh n X) {v1 : Int32} (k : Ev g mX12_isGreen d n0 nf post n 6 [some (.ref 133), some (.int v1)] [.int 0, .int v1, .ref 134] X) : Ev g mX12_isGreen d n0 nf post n 0 [some (.ref 133), some (.int v1)] [] X := by
  refine ev_aload_n dX12_isGreen_0 rfl ?_
  refine ev_getS (q := 134) dX12_isGreen_1 fo_12_9 (by omega) lo_133 rfl (sh_133_0 hX (by omega)) (by decide) ?_
  refine ev_iload_n dX12_isGreen_4 rfl ?_
  refine ev_iconst (v := 0) dX12_isGreen_5 ki_0 ?_
  exact k
theorem bX12_isGreen_9_0 {g : GG} {d n0 nf : Nat} {post : Option Value → LX → Prop} {n : Nat} {X : LX} (hn : 146 ≤ nf) (hX : Sh nf X) {v1 : Int32} {s1 : Nat} (b0 : s1 < 2156) (c0 : ¬ X 134 s1 < 2) (hp : post (some (.int 1)) X) : Ev g mX12_isGreen d n0 nf post nf 9 [some (.ref 133), some (.int v1)] [.int (nI s1), .ref 134] X := by
  refine ev_iald dX12_isGreen_9 (by omega) ly_134 rfl b0 ?_
  refine ev_iconst (v := 2) dX12_isGreen_10 ki_2 ?_
  refine ev_icmpF (tgt := 18) dX12_isGreen_11 (by decide) c0 ?_
  refine ev_iconst (v := 1) dX12_isGreen_14 ki_1 ?_
  refine ev_goto (tgt := 19) dX12_isGreen_15 (by decide) ?_
  exact ev_iret dX12_isGreen_19 rfl (by decide) hp
theorem bX12_isGreen_9_1 {g : GG} {d n0 nf : Nat} {post : Option Value → LX → Prop} {n : Nat} {X : LX} (hn : 146 ≤ nf) (hX : Sh nf X) {v1 : Int32} {s1 : Nat} (b0 : s1 < 2156) (c0 : X 134 s1 < 2) (hp : post (some (.int 0)) X) : Ev g mX12_isGreen d n0 nf post nf 9 [some (.ref 133), some (.int v1)] [.int (nI s1), .ref 134] X := by
  refine ev_iald dX12_isGreen_9 (by omega) ly_134 rfl b0 ?_
  refine ev_iconst (v := 2) dX12_isGreen_10 ki_2 ?_
  refine ev_icmpT (tgt := 18) dX12_isGreen_11 (by decide) c0 ?_
  refine ev_iconst (v := 0) dX12_isGreen_18 ki_0 ?_
  exact ev_iret dX12_isGreen_19 rfl (by decide) hp
theorem bX12_isOf_0_0 {g : GG} {d n0 nf : Nat} {post : Option Value → LX → Prop} {n : Nat} {X : LX} (hn : 146 ≤ n) (hX : Sh n X) {v1 : Int32} {v2 : Int32} (k : Ev g mX12_isOf d n0 nf post n 2 [some (.ref 133), some (.int v1), some (.int v2)] [.int v1, .ref 133] X) : Ev g mX12_isOf d n0 nf post n 0 [some (.ref 133), some (.int v1), some (.int v2)] [] X := by
  refine ev_aload_n dX12_isOf_0 rfl ?_
  refine ev_iload_n dX12_isOf_1 rfl ?_
  exact k
theorem bX12_isOf_5_0 {g : GG} {d n0 nf : Nat} {post : Option Value → LX → Prop} {n : Nat} {X : LX} (hn : 146 ≤ n) (hX : Sh n X) {v1 : Int32} {v2 : Int32} {s0 : Int32} (c0 : ¬ s0 = 0) (k : Ev g mX12_isOf d n0 nf post n 11 [some (.ref 133), some (.int v1), some (.int v2)] [.int 3, .int 0, .int v2] X) : Ev g mX12_isOf d n0 nf post n 5 [some (.ref 133), some (.int v1), some (.int v2)] [.int s0] X := by
  refine ev_ifF (tgt := 17) dX12_isOf_5 (by decide) c0 ?_
  refine ev_iload_n dX12_isOf_8 rfl ?_
  refine ev_iconst (v := 0) dX12_isOf_9 ki_0 ?_
  refine ev_iconst (v := 3) dX12_isOf_10 ki_3 ?_
  exact k
theorem bX12_isOf_5_1 {g : GG} {d n0 nf : Nat} {post : Option Value → LX → Prop} {n : Nat} {X : LX} (hn : 146 ≤ nf) (hX : Sh nf X) {v1 : Int32} {v2 : Int32} {s0 : Int32} (c0 : s0 = 0) (hp : post (some (.int (-1000000001))) X) : Ev g mX12_isOf d n0 nf post nf 5 [some (.ref 133), some (.int v1), some (.int v2)] [.int s0] X := by
  refine ev_ifT (tgt := 17) dX12_isOf_5 (by decide) c0 ?_
  refine ev_ldc (v := (-1000000001)) dX12_isOf_17 kw_12_57 ?_
  exact ev_iret dX12_isOf_19 rfl rfl hp
theorem bX12_isOf_14_0 {g : GG} {d n0 nf : Nat} {post : Option Value → LX → Prop} {n : Nat} {X : LX} (hn : 146 ≤ nf) (hX : Sh nf X) {v1 : Int32} {v2 : Int32} {s0 : Int32} (c0 : s0 = 0) (hp : post (some (.int (-1000000001))) X) : Ev g mX12_isOf d n0 nf post nf 14 [some (.ref 133), some (.int v1), some (.int v2)] [.int s0] X := by
  refine ev_ifF (tgt := 20) dX12_isOf_14 (by decide) c0 ?_
  refine ev_ldc (v := (-1000000001)) dX12_isOf_17 kw_12_57 ?_
  exact ev_iret dX12_isOf_19 rfl rfl hp
theorem bX12_isOf_14_1 {g : GG} {d n0 nf : Nat} {post : Option Value → LX → Prop} {n : Nat} {X : LX} (hn : 146 ≤ n) (hX : Sh n X) {v1 : Int32} {v2 : Int32} {s0 : Int32} (c0 : ¬ s0 = 0) (c1 : ¬ v2 = 0) (k : Ev g mX12_isOf d n0 nf post n 30 [some (.ref 133), some (.int v1), some (.int v2)] [.int 0, .int v1, .ref 134] X) : Ev g mX12_isOf d n0 nf post n 14 [some (.ref 133), some (.int v1), some (.int v2)] [.int s0] X := by
  refine ev_ifT (tgt := 20) dX12_isOf_14 (by decide) c0 ?_
  refine ev_iload_n dX12_isOf_20 rfl ?_
  refine ev_ifF (tgt := 51) dX12_isOf_21 (by decide) c1 ?_
  refine ev_aload_n dX12_isOf_24 rfl ?_
  refine ev_getS (q := 134) dX12_isOf_25 fo_12_9 (by omega) lo_133 rfl (sh_133_0 hX (by omega)) (by decide) ?_
  refine ev_iload_n dX12_isOf_28 rfl ?_
  refine ev_iconst (v := 0) dX12_isOf_29 ki_0 ?_
  exact k
theorem bX12_isOf_14_2 {g : GG} {d n0 nf : Nat} {post : Option Value → LX → Prop} {n : Nat} {X : LX} (hn : 146 ≤ nf) (hX : Sh nf X) {v1 : Int32} {v2 : Int32} {s0 : Int32} (c0 : ¬ s0 = 0) (c1 : v2 = 0) (hp : post (some (.int 1)) X) : Ev g mX12_isOf d n0 nf post nf 14 [some (.ref 133), some (.int v1), some (.int v2)] [.int s0] X := by
  refine ev_ifT (tgt := 20) dX12_isOf_14 (by decide) c0 ?_
  refine ev_iload_n dX12_isOf_20 rfl ?_
  refine ev_ifT (tgt := 51) dX12_isOf_21 (by decide) c1 ?_
  refine ev_iconst (v := 1) dX12_isOf_51 ki_1 ?_
  refine ev_goto (tgt := 56) dX12_isOf_52 (by decide) ?_
  exact ev_iret dX12_isOf_56 rfl rfl hp
theorem bX12_isOf_33_0 {g : GG} {d n0 nf : Nat} {post : Option Value → LX → Prop} {n : Nat} {X : LX} (hn : 146 ≤ n) (hX : Sh n X) {v1 : Int32} {v2 : Int32} {s1 : Nat} (b0 : s1 < 2156) (c0 : ¬ X 134 s1 = v2) (c1 : v2 = 2) (k : Ev g mX12_isOf d n0 nf post n 45 [some (.ref 133), some (.int v1), some (.int v2)] [.int v1, .ref 133] X) : Ev g mX12_isOf d n0 nf post n 33 [some (.ref 133), some (.int v1), some (.int v2)] [.int (nI s1), .ref 134] X := by
  refine ev_iald dX12_isOf_33 (by omega) ly_134 rfl b0 ?_
  refine ev_iload_n dX12_isOf_34 rfl ?_
  refine ev_icmpF (tgt := 51) dX12_isOf_35 (by decide) c0 ?_
  refine ev_iload_n dX12_isOf_38 rfl ?_
  refine ev_iconst (v := 2) dX12_isOf_39 ki_2 ?_
  refine ev_icmpF (tgt := 55) dX12_isOf_40 (by decide) c1 ?_
  refine ev_aload_n dX12_isOf_43 rfl ?_
  refine ev_iload_n dX12_isOf_44 rfl ?_
  exact k
theorem bX12_isOf_33_1 {g : GG} {d n0 nf : Nat} {post : Option Value → LX → Prop} {n : Nat} {X : LX} (hn : 146 ≤ nf) (hX : Sh nf X) {v1 : Int32} {v2 : Int32} {s1 : Nat} (b0 : s1 < 2156) (c0 : ¬ X 134 s1 = v2) (c1 : ¬ v2 = 2) (hp : post (some (.int 0)) X) : Ev g mX12_isOf d n0 nf post nf 33 [some (.ref 133), some (.int v1), some (.int v2)] [.int (nI s1), .ref 134] X := by
  refine ev_iald dX12_isOf_33 (by omega) ly_134 rfl b0 ?_
  refine ev_iload_n dX12_isOf_34 rfl ?_
  refine ev_icmpF (tgt := 51) dX12_isOf_35 (by decide) c0 ?_
  refine ev_iload_n dX12_isOf_38 rfl ?_
  refine ev_iconst (v := 2) dX12_isOf_39 ki_2 ?_
  refine ev_icmpT (tgt := 55) dX12_isOf_40 (by decide) c1 ?_
  refine ev_iconst (v := 0) dX12_isOf_55 ki_0 ?_
  exact ev_iret dX12_isOf_56 rfl rfl hp
theorem bX12_isOf_33_2 {g : GG} {d n0 nf : Nat} {post : Option Value → LX → Prop} {n : Nat} {X : LX} (hn : 146 ≤ nf) (hX : Sh nf X) {v1 : Int32} {v2 : Int32} {s1 : Nat} (b0 : s1 < 2156) (c0 : X 134 s1 = v2) (hp : post (some (.int 1)) X) : Ev g mX12_isOf d n0 nf post nf 33 [some (.ref 133), some (.int v1), some (.int v2)] [.int (nI s1), .ref 134] X := by
  refine ev_iald dX12_isOf_33 (by omega) ly_134 rfl b0 ?_
  refine ev_iload_n dX12_isOf_34 rfl ?_
  refine ev_icmpT (tgt := 51) dX12_isOf_35 (by decide) c0 ?_
  refine ev_iconst (v := 1) dX12_isOf_51 ki_1 ?_
  refine ev_goto (tgt := 56) dX12_isOf_52 (by decide) ?_
  exact ev_iret dX12_isOf_56 rfl rfl hp
theorem bX12_isOf_48_0 {g : GG} {d n0 nf : Nat} {post : Option Value → LX → Prop} {n : Nat} {X : LX} (hn : 146 ≤ nf) (hX : Sh nf X) {v1 : Int32} {v2 : Int32} {s0 : Int32} (c0 : ¬ s0 = 0) (hp : post (some (.int 1)) X) : Ev g mX12_isOf d n0 nf post nf 48 [some (.ref 133), some (.int v1), some (.int v2)] [.int s0] X := by
  refine ev_ifF (tgt := 55) dX12_isOf_48 (by decide) c0 ?_
  refine ev_iconst (v := 1) dX12_isOf_51 ki_1 ?_
  refine ev_goto (tgt := 56) dX12_isOf_52 (by decide) ?_
  exact ev_iret dX12_isOf_56 rfl rfl hp
theorem bX12_isOf_48_1 {g : GG} {d n0 nf : Nat} {post : Option Value → LX → Prop} {n : Nat} {X : LX} (hn : 146 ≤ nf) (hX : Sh nf X) {v1 : Int32} {v2 : Int32} {s0 : Int32} (c0 : s0 = 0) (hp : post (some (.int 0)) X) : Ev g mX12_isOf d n0 nf post nf 48 [some (.ref 133), some (.int v1), some (.int v2)] [.int s0] X := by
  refine ev_ifT (tgt := 55) dX12_isOf_48 (by decide) c0 ?_
  refine ev_iconst (v := 0) dX12_isOf_55 ki_0 ?_
  exact ev_iret dX12_isOf_56 rfl rfl hp
theorem bX12_with_0_0 {g : GG} {d n0 nf : Nat} {post : Option Value → LX → Prop} {n : Nat} {X : LX} (hn : 146 ≤ n) (hX : Sh n X) {v1 : Int32} {v2 : Int32} {v3 : Int32} (k : Ev g mX12_with d n0 nf post n 2 [some (.ref 133), some (.int v1), some (.int v2), some (.int v3), none, none] [.int v1, .ref 133] X) : Ev g mX12_with d n0 nf post n 0 [some (.ref 133), some (.int v1), some (.int v2), some (.int v3), none, none] [] X := by
  refine ev_aload_n dX12_with_0 rfl ?_
  refine ev_iload_n dX12_with_1 rfl ?_
  exact k
theorem bX12_with_5_0 {g : GG} {d n0 nf : Nat} {post : Option Value → LX → Prop} {n : Nat} {X : LX} (hn : 146 ≤ n) (hX : Sh n X) {v1 : Int32} {v2 : Int32} {v3 : Int32} {s0 : Int32} (c0 : ¬ s0 = 0) (k : Ev g mX12_with d n0 nf post n 10 [some (.ref 133), some (.int v1), some (.int v2), some (.int v3), none, none] [.int v2, .ref 133] X) : Ev g mX12_with d n0 nf post n 5 [some (.ref 133), some (.int v1), some (.int v2), some (.int v3), none, none] [.int s0] X := by
  refine ev_ifF (tgt := 27) dX12_with_5 (by decide) c0 ?_
  refine ev_aload_n dX12_with_8 rfl ?_
  refine ev_iload_n dX12_with_9 rfl ?_
  exact k
theorem bX12_with_5_1 {g : GG} {d n0 nf : Nat} {post : Option Value → LX → Prop} {n : Nat} {X : LX} (hn : 146 ≤ nf) (hX : Sh nf X) {v1 : Int32} {v2 : Int32} {v3 : Int32} {s0 : Int32} (c0 : s0 = 0) (hp : post (some (.int (-1000000001))) X) : Ev g mX12_with d n0 nf post nf 5 [some (.ref 133), some (.int v1), some (.int v2), some (.int v3), none, none] [.int s0] X := by
  refine ev_ifT (tgt := 27) dX12_with_5 (by decide) c0 ?_
  refine ev_ldc (v := (-1000000001)) dX12_with_27 kw_12_57 ?_
  exact ev_iret dX12_with_29 rfl rfl hp
theorem bX12_with_13_0 {g : GG} {d n0 nf : Nat} {post : Option Value → LX → Prop} {n : Nat} {X : LX} (hn : 146 ≤ n) (hX : Sh n X) {v1 : Int32} {v2 : Int32} {v3 : Int32} {s0 : Int32} (c0 : ¬ s0 = 0) (k : Ev g mX12_with d n0 nf post n 21 [some (.ref 133), some (.int v1), some (.int v2), some (.int v3), none, none] [.int 999, .int 1, .int v3] X) : Ev g mX12_with d n0 nf post n 13 [some (.ref 133), some (.int v1), some (.int v2), some (.int v3), none, none] [.int s0] X := by
  refine ev_ifF (tgt := 27) dX12_with_13 (by decide) c0 ?_
  refine ev_iload_n dX12_with_16 rfl ?_
  refine ev_iconst (v := 1) dX12_with_17 ki_1 ?_
  refine ev_sipush (v := 999) dX12_with_18 ks_999 ?_
  exact k
theorem bX12_with_13_1 {g : GG} {d n0 nf : Nat} {post : Option Value → LX → Prop} {n : Nat} {X : LX} (hn : 146 ≤ nf) (hX : Sh nf X) {v1 : Int32} {v2 : Int32} {v3 : Int32} {s0 : Int32} (c0 : s0 = 0) (hp : post (some (.int (-1000000001))) X) : Ev g mX12_with d n0 nf post nf 13 [some (.ref 133), some (.int v1), some (.int v2), some (.int v3), none, none] [.int s0] X := by
  refine ev_ifT (tgt := 27) dX12_with_13 (by decide) c0 ?_
  refine ev_ldc (v := (-1000000001)) dX12_with_27 kw_12_57 ?_
  exact ev_iret dX12_with_29 rfl rfl hp
theorem bX12_with_24_0 {g : GG} {d n0 nf : Nat} {post : Option Value → LX → Prop} {n : Nat} {X : LX} (hn : 146 ≤ nf) (hX : Sh nf X) {v1 : Int32} {v2 : Int32} {v3 : Int32} {s0 : Int32} (c0 : s0 = 0) (hp : post (some (.int (-1000000001))) X) : Ev g mX12_with d n0 nf post nf 24 [some (.ref 133), some (.int v1), some (.int v2), some (.int v3), none, none] [.int s0] X := by
  refine ev_ifF (tgt := 30) dX12_with_24 (by decide) c0 ?_
  refine ev_ldc (v := (-1000000001)) dX12_with_27 kw_12_57 ?_
  exact ev_iret dX12_with_29 rfl rfl hp
theorem bX12_with_24_1 {g : GG} {d n0 nf : Nat} {post : Option Value → LX → Prop} {n : Nat} {X : LX} (hn : 146 ≤ n) (hX : Sh n X) {v1 : Int32} {v2 : Int32} {v3 : Int32} {s0 : Int32} (c0 : ¬ s0 = 0) (k : Ev g mX12_with d n0 nf post n 38 [some (.ref 133), some (.int v1), some (.int v2), some (.int v3), none, none] [.int v1, .int (X 134 8)] X) : Ev g mX12_with d n0 nf post n 24 [some (.ref 133), some (.int v1), some (.int v2), some (.int v3), none, none] [.int s0] X := by
  refine ev_ifT (tgt := 30) dX12_with_24 (by decide) c0 ?_
  refine ev_aload_n dX12_with_30 rfl ?_
  refine ev_getS (q := 134) dX12_with_31 fo_12_9 (by omega) lo_133 rfl (sh_133_0 hX (by omega)) (by decide) ?_
  refine ev_bipush (v := 8) dX12_with_34 kb_8 ?_
  refine ev_iald dX12_with_36 (by omega) ly_134 nIl_8 (by decide) ?_
  refine ev_iload_n dX12_with_37 rfl ?_
  exact k
theorem bX12_with_41_0 {g : GG} {d n0 nf : Nat} {post : Option Value → LX → Prop} {n : Nat} {X : LX} (hn : 146 ≤ nf) (hX : Sh nf X) {v1 : Int32} {v2 : Int32} {v3 : Int32} {s0 : Int32} (c0 : ¬ s0 = 0) (hp : post (some (.int (-1000000002))) X) : Ev g mX12_with d n0 nf post nf 41 [some (.ref 133), some (.int v1), some (.int v2), some (.int v3), none, none] [.int s0] X := by
  refine ev_ifF (tgt := 47) dX12_with_41 (by decide) c0 ?_
  refine ev_ldc (v := (-1000000002)) dX12_with_44 kw_12_80 ?_
  exact ev_iret dX12_with_46 rfl rfl hp
theorem bX12_with_41_1 {g : GG} {d n0 nf : Nat} {post : Option Value → LX → Prop} {n : Nat} {X : LX} (hn : 146 ≤ n) (hX : Sh n X) {v1 : Int32} {v2 : Int32} {v3 : Int32} {s0 : Int32} (c0 : s0 = 0) (k : Ev g mX12_with d n0 nf post n 53 [some (.ref 133), some (.int v1), some (.int v2), some (.int v3), none, none] [.int 2, .int v1, .ref 134] X) : Ev g mX12_with d n0 nf post n 41 [some (.ref 133), some (.int v1), some (.int v2), some (.int v3), none, none] [.int s0] X := by
  refine ev_ifT (tgt := 47) dX12_with_41 (by decide) c0 ?_
  refine ev_aload_n dX12_with_47 rfl ?_
  refine ev_getS (q := 134) dX12_with_48 fo_12_9 (by omega) lo_133 rfl (sh_133_0 hX (by omega)) (by decide) ?_
  refine ev_iload_n dX12_with_51 rfl ?_
  refine ev_iconst (v := 2) dX12_with_52 ki_2 ?_
  exact k
theorem bX12_with_56_0 {g : GG} {d n0 nf : Nat} {post : Option Value → LX → Prop} {n : Nat} {X : LX} (hn : 146 ≤ n) (hX : Sh n X) {v1 : Int32} {v2 : Int32} {v3 : Int32} {s1 : Nat} (b0 : s1 < 2156) (k : Ev g mX12_with d n0 nf post n 62 [some (.ref 133), some (.int v1), some (.int v2), some (.int v3), some (.int (X 134 s1)), some (.int 0)] [] X) : Ev g mX12_with d n0 nf post n 56 [some (.ref 133), some (.int v1), some (.int v2), some (.int v3), none, none] [.int (nI s1), .ref 134] X := by
  refine ev_iald dX12_with_56 (by omega) ly_134 rfl b0 ?_
  refine ev_istore dX12_with_57 (by decide) ?_
  refine ev_iconst (v := 0) dX12_with_59 ki_0 ?_
  refine ev_istore dX12_with_60 (by decide) ?_
  exact k
theorem bX12_with_62_0 {g : GG} {d n0 nf : Nat} {post : Option Value → LX → Prop} {n : Nat} {X : LX} (hn : 146 ≤ n) (hX : Sh n X) {v1 : Int32} {v2 : Int32} {v3 : Int32} {v4 : Int32} {v5 : Int32} (c0 : ¬ v4 ≤ v5) (k : Ev g mX12_with d n0 nf post n 78 [some (.ref 133), some (.int v1), some (.int v2), some (.int v3), some (.int v4), some (.int v5)] [.int (3 + v5), .int v1, .ref 134] X) : Ev g mX12_with d n0 nf post n 62 [some (.ref 133), some (.int v1), some (.int v2), some (.int v3), some (.int v4), some (.int v5)] [] X := by
  refine ev_iload dX12_with_62 rfl ?_
  refine ev_iload dX12_with_64 rfl ?_
  refine ev_icmpF (tgt := 92) dX12_with_66 (by decide) c0 ?_
  refine ev_aload_n dX12_with_69 rfl ?_
  refine ev_getS (q := 134) dX12_with_70 fo_12_9 (by omega) lo_133 rfl (sh_133_0 hX (by omega)) (by decide) ?_
  refine ev_iload_n dX12_with_73 rfl ?_
  refine ev_iconst (v := 3) dX12_with_74 ki_3 ?_
  refine ev_iload dX12_with_75 rfl ?_
  refine ev_iadd dX12_with_77 ?_
  exact k
theorem bX12_with_62_1 {g : GG} {d n0 nf : Nat} {post : Option Value → LX → Prop} {n : Nat} {X : LX} (hn : 146 ≤ nf) (hX : Sh nf X) {v1 : Int32} {v2 : Int32} {v3 : Int32} {v4 : Int32} {v5 : Int32} (c0 : v4 ≤ v5) (c1 : v5 = 5) (hp : post (some (.int (-1000000003))) X) : Ev g mX12_with d n0 nf post nf 62 [some (.ref 133), some (.int v1), some (.int v2), some (.int v3), some (.int v4), some (.int v5)] [] X := by
  refine ev_iload dX12_with_62 rfl ?_
  refine ev_iload dX12_with_64 rfl ?_
  refine ev_icmpT (tgt := 92) dX12_with_66 (by decide) c0 ?_
  refine ev_iload dX12_with_92 rfl ?_
  refine ev_iconst (v := 5) dX12_with_94 ki_5 ?_
  refine ev_icmpF (tgt := 101) dX12_with_95 (by decide) c1 ?_
  refine ev_ldc (v := (-1000000003)) dX12_with_98 kw_12_58 ?_
  exact ev_iret dX12_with_100 rfl rfl hp
theorem bX12_with_62_2 {g : GG} {d n0 nf : Nat} {post : Option Value → LX → Prop} {n : Nat} {X : LX} (hn : 146 ≤ n) (hX : Sh n X) {v1 : Int32} {v2 : Int32} {v3 : Int32} {v4 : Int32} {v5 : Int32} (c0 : v4 ≤ v5) (c1 : ¬ v5 = 5) (k : Ev g mX12_with d n0 nf post n 110 [some (.ref 133), some (.int v1), some (.int v2), some (.int v3), some (.int v4), some (.int v5)] [.int (3 + v5), .int v1, .ref 134] X) : Ev g mX12_with d n0 nf post n 62 [some (.ref 133), some (.int v1), some (.int v2), some (.int v3), some (.int v4), some (.int v5)] [] X := by
  refine ev_iload dX12_with_62 rfl ?_
  refine ev_iload dX12_with_64 rfl ?_
  refine ev_icmpT (tgt := 92) dX12_with_66 (by decide) c0 ?_
  refine ev_iload dX12_with_92 rfl ?_
  refine ev_iconst (v := 5) dX12_with_94 ki_5 ?_
  refine ev_icmpT (tgt := 101) dX12_with_95 (by decide) c1 ?_
  refine ev_aload_n dX12_with_101 rfl ?_
  refine ev_getS (q := 134) dX12_with_102 fo_12_9 (by omega) lo_133 rfl (sh_133_0 hX (by omega)) (by decide) ?_
  refine ev_iload_n dX12_with_105 rfl ?_
  refine ev_iconst (v := 3) dX12_with_106 ki_3 ?_
  refine ev_iload dX12_with_107 rfl ?_
  refine ev_iadd dX12_with_109 ?_
  exact k
theorem bX12_with_81_0 {g : GG} {d n0 nf : Nat} {post : Option Value → LX → Prop} {n : Nat} {X : LX} (hn : 146 ≤ n) (hX : Sh n X) {v1 : Int32} {v2 : Int32} {v3 : Int32} {v4 : Int32} {v5 : Int32} {s1 : Nat} (b0 : s1 < 2156) (c0 : ¬ X 134 s1 = v2) (k : Ev g mX12_with d n0 nf post n 62 [some (.ref 133), some (.int v1), some (.int v2), some (.int v3), some (.int v4), some (.int (v5 + 1))] [] X) : Ev g mX12_with d n0 nf post n 81 [some (.ref 133), some (.int v1), some (.int v2), some (.int v3), some (.int v4), some (.int v5)] [.int (nI s1), .ref 134] X := by
  refine ev_iald dX12_with_81 (by omega) ly_134 rfl b0 ?_
  refine ev_iload_n dX12_with_82 rfl ?_
  refine ev_icmpF (tgt := 92) dX12_with_83 (by decide) c0 ?_
  refine ev_iinc (v := v5 + 1) dX12_with_86 rfl (by rw [show Int32.ofInt 1 = 1 from ki_1]) (by decide) ?_
  refine ev_goto (tgt := 62) dX12_with_89 (by decide) ?_
  exact k
theorem bX12_with_81_1 {g : GG} {d n0 nf : Nat} {post : Option Value → LX → Prop} {n : Nat} {X : LX} (hn : 146 ≤ nf) (hX : Sh nf X) {v1 : Int32} {v2 : Int32} {v3 : Int32} {v4 : Int32} {v5 : Int32} {s1 : Nat} (b0 : s1 < 2156) (c0 : X 134 s1 = v2) (c1 : v5 = 5) (hp : post (some (.int (-1000000003))) X) : Ev g mX12_with d n0 nf post nf 81 [some (.ref 133), some (.int v1), some (.int v2), some (.int v3), some (.int v4), some (.int v5)] [.int (nI s1), .ref 134] X := by
  refine ev_iald dX12_with_81 (by omega) ly_134 rfl b0 ?_
  refine ev_iload_n dX12_with_82 rfl ?_
  refine ev_icmpT (tgt := 92) dX12_with_83 (by decide) c0 ?_
  refine ev_iload dX12_with_92 rfl ?_
  refine ev_iconst (v := 5) dX12_with_94 ki_5 ?_
  refine ev_icmpF (tgt := 101) dX12_with_95 (by decide) c1 ?_
  refine ev_ldc (v := (-1000000003)) dX12_with_98 kw_12_58 ?_
  exact ev_iret dX12_with_100 rfl rfl hp
theorem bX12_with_81_2 {g : GG} {d n0 nf : Nat} {post : Option Value → LX → Prop} {n : Nat} {X : LX} (hn : 146 ≤ n) (hX : Sh n X) {v1 : Int32} {v2 : Int32} {v3 : Int32} {v4 : Int32} {v5 : Int32} {s1 : Nat} (b0 : s1 < 2156) (c0 : X 134 s1 = v2) (c1 : ¬ v5 = 5) (k : Ev g mX12_with d n0 nf post n 110 [some (.ref 133), some (.int v1), some (.int v2), some (.int v3), some (.int v4), some (.int v5)] [.int (3 + v5), .int v1, .ref 134] X) : Ev g mX12_with d n0 nf post n 81 [some (.ref 133), some (.int v1), some (.int v2), some (.int v3), some (.int v4), some (.int v5)] [.int (nI s1), .ref 134] X := by
  refine ev_iald dX12_with_81 (by omega) ly_134 rfl b0 ?_
  refine ev_iload_n dX12_with_82 rfl ?_
  refine ev_icmpT (tgt := 92) dX12_with_83 (by decide) c0 ?_
  refine ev_iload dX12_with_92 rfl ?_
  refine ev_iconst (v := 5) dX12_with_94 ki_5 ?_
  refine ev_icmpT (tgt := 101) dX12_with_95 (by decide) c1 ?_
  refine ev_aload_n dX12_with_101 rfl ?_
  refine ev_getS (q := 134) dX12_with_102 fo_12_9 (by omega) lo_133 rfl (sh_133_0 hX (by omega)) (by decide) ?_
  refine ev_iload_n dX12_with_105 rfl ?_
  refine ev_iconst (v := 3) dX12_with_106 ki_3 ?_
  refine ev_iload dX12_with_107 rfl ?_
  refine ev_iadd dX12_with_109 ?_
  exact k
theorem bX12_with_113_0 {g : GG} {d n0 nf : Nat} {post : Option Value → LX → Prop} {n : Nat} {X : LX} (hn : 146 ≤ n) (hX : Sh n X) {v1 : Int32} {v2 : Int32} {v3 : Int32} {v4 : Int32} {v5 : Int32} {s1 : Nat} (b0 : s1 < 2156) (k : Ev g mX12_with d n0 nf post n 125 [some (.ref 133), some (.int v1), some (.int v2), some (.int v3), some (.int v4), some (.int v5)] [.int (8 + v5), .int v1, .ref 134] (lx_up X 134 s1 v2)) : Ev g mX12_with d n0 nf post n 113 [some (.ref 133), some (.int v1), some (.int v2), some (.int v3), some (.int v4), some (.int v5)] [.int (nI s1), .ref 134] X := by
  refine ev_iload_n dX12_with_113 rfl ?_
  refine ev_iast dX12_with_114 (by omega) ly_134 rfl b0 ?_
  have hX1 : Sh _ (lx_up X 134 s1 v2) := Sh.upA hX (by rw [ly_134]; exact (by decide : 0 < 2))
  refine ev_aload_n dX12_with_115 rfl ?_
  refine ev_getS (q := 134) dX12_with_116 fo_12_9 (by omega) lo_133 rfl (sh_133_0 hX1 (by omega)) (by decide) ?_
  refine ev_iload_n dX12_with_119 rfl ?_
  refine ev_bipush (v := 8) dX12_with_120 kb_8 ?_
  refine ev_iload dX12_with_122 rfl ?_
  refine ev_iadd dX12_with_124 ?_
  exact k
theorem bX12_with_128_0 {g : GG} {d n0 nf : Nat} {post : Option Value → LX → Prop} {n : Nat} {X : LX} (hn : 146 ≤ n) (hX : Sh n X) {v1 : Int32} {v2 : Int32} {v3 : Int32} {v4 : Int32} {v5 : Int32} {s1 : Nat} (b0 : s1 < 2156) (k : Ev g mX12_with d n0 nf post n 136 [some (.ref 133), some (.int v1), some (.int v2), some (.int v3), some (.int v4), some (.int v5)] [.int 2, .int v1, .ref 134] (lx_up X 134 s1 v3)) : Ev g mX12_with d n0 nf post n 128 [some (.ref 133), some (.int v1), some (.int v2), some (.int v3), some (.int v4), some (.int v5)] [.int (nI s1), .ref 134] X := by
  refine ev_iload_n dX12_with_128 rfl ?_
  refine ev_iast dX12_with_129 (by omega) ly_134 rfl b0 ?_
  have hX1 : Sh _ (lx_up X 134 s1 v3) := Sh.upA hX (by rw [ly_134]; exact (by decide : 0 < 2))
  refine ev_aload_n dX12_with_130 rfl ?_
  refine ev_getS (q := 134) dX12_with_131 fo_12_9 (by omega) lo_133 rfl (sh_133_0 hX1 (by omega)) (by decide) ?_
  refine ev_iload_n dX12_with_134 rfl ?_
  refine ev_iconst (v := 2) dX12_with_135 ki_2 ?_
  exact k
theorem bX12_with_139_0 {g : GG} {d n0 nf : Nat} {post : Option Value → LX → Prop} {n : Nat} {X : LX} (hn : 146 ≤ n) (hX : Sh n X) {v1 : Int32} {v2 : Int32} {v3 : Int32} {v4 : Int32} {v5 : Int32} {s1 : Int32} (k : Ev g mX12_with d n0 nf post n 145 [some (.ref 133), some (.int v1), some (.int v2), some (.int v3), some (.int v4), some (.int v5)] [.int (v5 + 1), .int v4, .int s1, .ref 134] X) : Ev g mX12_with d n0 nf post n 139 [some (.ref 133), some (.int v1), some (.int v2), some (.int v3), some (.int v4), some (.int v5)] [.int s1, .ref 134] X := by
  refine ev_iload dX12_with_139 rfl ?_
  refine ev_iload dX12_with_141 rfl ?_
  refine ev_iconst (v := 1) dX12_with_143 ki_1 ?_
  refine ev_iadd dX12_with_144 ?_
  exact k
theorem bX12_with_148_0 {g : GG} {d n0 nf : Nat} {post : Option Value → LX → Prop} {n : Nat} {X : LX} (hn : 146 ≤ n) (hX : Sh n X) {v1 : Int32} {v2 : Int32} {v3 : Int32} {v4 : Int32} {v5 : Int32} {s1 : Nat} {s2 : Int32} (b0 : s1 < 2156) (k : Ev g mX12_with d n0 nf post n 155 [some (.ref 133), some (.int v1), some (.int v2), some (.int v3), some (.int v4), some (.int v5)] [.int 2, .int v1, .ref 134] (lx_up X 134 s1 s2)) : Ev g mX12_with d n0 nf post n 148 [some (.ref 133), some (.int v1), some (.int v2), some (.int v3), some (.int v4), some (.int v5)] [.int s2, .int (nI s1), .ref 134] X := by
  refine ev_iast dX12_with_148 (by omega) ly_134 rfl b0 ?_
  have hX1 : Sh _ (lx_up X 134 s1 s2) := Sh.upA hX (by rw [ly_134]; exact (by decide : 0 < 2))
  refine ev_aload_n dX12_with_149 rfl ?_
  refine ev_getS (q := 134) dX12_with_150 fo_12_9 (by omega) lo_133 rfl (sh_133_0 hX1 (by omega)) (by decide) ?_
  refine ev_iload_n dX12_with_153 rfl ?_
  refine ev_iconst (v := 2) dX12_with_154 ki_2 ?_
  exact k
theorem bX12_with_158_0 {g : GG} {d n0 nf : Nat} {post : Option Value → LX → Prop} {n : Nat} {X : LX} (hn : 146 ≤ nf) (hX : Sh nf X) {v1 : Int32} {v2 : Int32} {v3 : Int32} {v4 : Int32} {v5 : Int32} {s1 : Nat} (b0 : s1 < 2156) (hp : post (some (.int (X 134 s1))) X) : Ev g mX12_with d n0 nf post nf 158 [some (.ref 133), some (.int v1), some (.int v2), some (.int v3), some (.int v4), some (.int v5)] [.int (nI s1), .ref 134] X := by
  refine ev_iald dX12_with_158 (by omega) ly_134 rfl b0 ?_
  exact ev_iret dX12_with_159 rfl rfl hp
theorem bX12_allergens_0_0 {g : GG} {d n0 nf : Nat} {post : Option Value → LX → Prop} {n : Nat} {X : LX} (hn : 146 ≤ n) (hX : Sh n X) {v1 : Int32} (k : Ev g mX12_allergens d n0 nf post n 4 [some (.ref 133), some (.int v1), some (.int 0), some (.int 0)] [] X) : Ev g mX12_allergens d n0 nf post n 0 [some (.ref 133), some (.int v1), none, none] [] X := by
  refine ev_iconst (v := 0) dX12_allergens_0 ki_0 ?_
  refine ev_istore_n dX12_allergens_1 (by decide) ?_
  refine ev_iconst (v := 0) dX12_allergens_2 ki_0 ?_
  refine ev_istore_n dX12_allergens_3 (by decide) ?_
  exact k
theorem bX12_allergens_4_0 {g : GG} {d n0 nf : Nat} {post : Option Value → LX → Prop} {n : Nat} {X : LX} (hn : 146 ≤ n) (hX : Sh n X) {v1 : Int32} {v2 : Int32} {v3 : Int32} (k : Ev g mX12_allergens d n0 nf post n 11 [some (.ref 133), some (.int v1), some (.int v2), some (.int v3)] [.int 2, .int v1, .ref 134, .int v3] X) : Ev g mX12_allergens d n0 nf post n 4 [some (.ref 133), some (.int v1), some (.int v2), some (.int v3)] [] X := by
  refine ev_iload_n dX12_allergens_4 rfl ?_
  refine ev_aload_n dX12_allergens_5 rfl ?_
  refine ev_getS (q := 134) dX12_allergens_6 fo_12_9 (by omega) lo_133 rfl (sh_133_0 hX (by omega)) (by decide) ?_
  refine ev_iload_n dX12_allergens_9 rfl ?_
  refine ev_iconst (v := 2) dX12_allergens_10 ki_2 ?_
  exact k
theorem bX12_allergens_14_0 {g : GG} {d n0 nf : Nat} {post : Option Value → LX → Prop} {n : Nat} {X : LX} (hn : 146 ≤ n) (hX : Sh n X) {v1 : Int32} {v2 : Int32} {v3 : Int32} {s0 : Int32} {s2 : Nat} (b0 : s2 < 2156) (c0 : ¬ X 134 s2 ≤ s0) (k : Ev g mX12_allergens d n0 nf post n 31 [some (.ref 133), some (.int v1), some (.int v2), some (.int v3)] [.int (3 + v3), .int v1, .ref 134, .ref 134, .int v2] X) : Ev g mX12_allergens d n0 nf post n 14 [some (.ref 133), some (.int v1), some (.int v2), some (.int v3)] [.int (nI s2), .ref 134, .int s0] X := by
  refine ev_iald dX12_allergens_14 (by omega) ly_134 rfl b0 ?_
  refine ev_icmpF (tgt := 48) dX12_allergens_15 (by decide) c0 ?_
  refine ev_iload_n dX12_allergens_18 rfl ?_
  refine ev_aload_n dX12_allergens_19 rfl ?_
  refine ev_getS (q := 134) dX12_allergens_20 fo_12_9 (by omega) lo_133 rfl (sh_133_0 hX (by omega)) (by decide) ?_
  refine ev_aload_n dX12_allergens_23 rfl ?_
  refine ev_getS (q := 134) dX12_allergens_24 fo_12_9 (by omega) lo_133 rfl (sh_133_0 hX (by omega)) (by decide) ?_
  refine ev_iload_n dX12_allergens_27 rfl ?_
  refine ev_iconst (v := 3) dX12_allergens_28 ki_3 ?_
  refine ev_iload_n dX12_allergens_29 rfl ?_
  refine ev_iadd dX12_allergens_30 ?_
  exact k
theorem bX12_allergens_14_1 {g : GG} {d n0 nf : Nat} {post : Option Value → LX → Prop} {n : Nat} {X : LX} (hn : 146 ≤ nf) (hX : Sh nf X) {v1 : Int32} {v2 : Int32} {v3 : Int32} {s0 : Int32} {s2 : Nat} (b0 : s2 < 2156) (c0 : X 134 s2 ≤ s0) (hp : post (some (.int v2)) X) : Ev g mX12_allergens d n0 nf post nf 14 [some (.ref 133), some (.int v1), some (.int v2), some (.int v3)] [.int (nI s2), .ref 134, .int s0] X := by
  refine ev_iald dX12_allergens_14 (by omega) ly_134 rfl b0 ?_
  refine ev_icmpT (tgt := 48) dX12_allergens_15 (by decide) c0 ?_
  refine ev_iload_n dX12_allergens_48 rfl ?_
  exact ev_iret dX12_allergens_49 rfl rfl hp
theorem bX12_allergens_34_0 {g : GG} {d n0 nf : Nat} {post : Option Value → LX → Prop} {n : Nat} {X : LX} (hn : 146 ≤ n) (hX : Sh n X) {v1 : Int32} {v2 : Int32} {v3 : Int32} {s0 : Int32} {s3 : Nat} (b0 : s3 < 2156) (k : Ev g mX12_allergens d n0 nf post n 36 [some (.ref 133), some (.int v1), some (.int v2), some (.int v3)] [.int 0, .int (X 134 s3), .ref 134, .int s0] X) : Ev g mX12_allergens d n0 nf post n 34 [some (.ref 133), some (.int v1), some (.int v2), some (.int v3)] [.int (nI s3), .ref 134, .ref 134, .int s0] X := by
  refine ev_iald dX12_allergens_34 (by omega) ly_134 rfl b0 ?_
  refine ev_iconst (v := 0) dX12_allergens_35 ki_0 ?_
  exact k
theorem bX12_allergens_39_0 {g : GG} {d n0 nf : Nat} {post : Option Value → LX → Prop} {n : Nat} {X : LX} (hn : 146 ≤ n) (hX : Sh n X) {v1 : Int32} {v2 : Int32} {v3 : Int32} {s0 : Int32} {s2 : Nat} (b0 : s2 < 2156) (k : Ev g mX12_allergens d n0 nf post n 4 [some (.ref 133), some (.int v1), some (.int (s0 ||| (X 134 s2))), some (.int (v3 + 1))] [] X) : Ev g mX12_allergens d n0 nf post n 39 [some (.ref 133), some (.int v1), some (.int v2), some (.int v3)] [.int (nI s2), .ref 134, .int s0] X := by
  refine ev_iald dX12_allergens_39 (by omega) ly_134 rfl b0 ?_
  refine ev_ior dX12_allergens_40 ?_
  refine ev_istore_n dX12_allergens_41 (by decide) ?_
  refine ev_iinc (v := v3 + 1) dX12_allergens_42 rfl (by rw [show Int32.ofInt 1 = 1 from ki_1]) (by decide) ?_
  refine ev_goto (tgt := 4) dX12_allergens_45 (by decide) ?_
  exact k
theorem bX12_cost_0_0 {g : GG} {d n0 nf : Nat} {post : Option Value → LX → Prop} {n : Nat} {X : LX} (hn : 146 ≤ n) (hX : Sh n X) {v1 : Int32} (k : Ev g mX12_cost d n0 nf post n 4 [some (.ref 133), some (.int v1), some (.int 0), some (.int 0)] [] X) : Ev g mX12_cost d n0 nf post n 0 [some (.ref 133), some (.int v1), none, none] [] X := by
  refine ev_iconst (v := 0) dX12_cost_0 ki_0 ?_
  refine ev_istore_n dX12_cost_1 (by decide) ?_
  refine ev_iconst (v := 0) dX12_cost_2 ki_0 ?_
  refine ev_istore_n dX12_cost_3 (by decide) ?_
  exact k
theorem bX12_cost_4_0 {g : GG} {d n0 nf : Nat} {post : Option Value → LX → Prop} {n : Nat} {X : LX} (hn : 146 ≤ n) (hX : Sh n X) {v1 : Int32} {v2 : Int32} {v3 : Int32} (k : Ev g mX12_cost d n0 nf post n 11 [some (.ref 133), some (.int v1), some (.int v2), some (.int v3)] [.int 2, .int v1, .ref 134, .int v3] X) : Ev g mX12_cost d n0 nf post n 4 [some (.ref 133), some (.int v1), some (.int v2), some (.int v3)] [] X := by
  refine ev_iload_n dX12_cost_4 rfl ?_
  refine ev_aload_n dX12_cost_5 rfl ?_
  refine ev_getS (q := 134) dX12_cost_6 fo_12_9 (by omega) lo_133 rfl (sh_133_0 hX (by omega)) (by decide) ?_
  refine ev_iload_n dX12_cost_9 rfl ?_
  refine ev_iconst (v := 2) dX12_cost_10 ki_2 ?_
  exact k
theorem bX12_cost_14_0 {g : GG} {d n0 nf : Nat} {post : Option Value → LX → Prop} {n : Nat} {X : LX} (hn : 146 ≤ n) (hX : Sh n X) {v1 : Int32} {v2 : Int32} {v3 : Int32} {s0 : Int32} {s2 : Nat} (b0 : s2 < 2156) (c0 : ¬ X 134 s2 ≤ s0) (k : Ev g mX12_cost d n0 nf post n 28 [some (.ref 133), some (.int v1), some (.int v2), some (.int v3)] [.int (8 + v3), .int v1, .ref 134, .int v2] X) : Ev g mX12_cost d n0 nf post n 14 [some (.ref 133), some (.int v1), some (.int v2), some (.int v3)] [.int (nI s2), .ref 134, .int s0] X := by
  refine ev_iald dX12_cost_14 (by omega) ly_134 rfl b0 ?_
  refine ev_icmpF (tgt := 65) dX12_cost_15 (by decide) c0 ?_
  refine ev_iload_n dX12_cost_18 rfl ?_
  refine ev_aload_n dX12_cost_19 rfl ?_
  refine ev_getS (q := 134) dX12_cost_20 fo_12_9 (by omega) lo_133 rfl (sh_133_0 hX (by omega)) (by decide) ?_
  refine ev_iload_n dX12_cost_23 rfl ?_
  refine ev_bipush (v := 8) dX12_cost_24 kb_8 ?_
  refine ev_iload_n dX12_cost_26 rfl ?_
  refine ev_iadd dX12_cost_27 ?_
  exact k
theorem bX12_cost_14_1 {g : GG} {d n0 nf : Nat} {post : Option Value → LX → Prop} {n : Nat} {X : LX} (hn : 146 ≤ nf) (hX : Sh nf X) {v1 : Int32} {v2 : Int32} {v3 : Int32} {s0 : Int32} {s2 : Nat} (b0 : s2 < 2156) (c0 : X 134 s2 ≤ s0) (hp : post (some (.int v2)) X) : Ev g mX12_cost d n0 nf post nf 14 [some (.ref 133), some (.int v1), some (.int v2), some (.int v3)] [.int (nI s2), .ref 134, .int s0] X := by
  refine ev_iald dX12_cost_14 (by omega) ly_134 rfl b0 ?_
  refine ev_icmpT (tgt := 65) dX12_cost_15 (by decide) c0 ?_
  refine ev_iload_n dX12_cost_65 rfl ?_
  exact ev_iret dX12_cost_66 rfl rfl hp
theorem bX12_cost_31_0 {g : GG} {d n0 nf : Nat} {post : Option Value → LX → Prop} {n : Nat} {X : LX} (hn : 146 ≤ n) (hX : Sh n X) {v1 : Int32} {v2 : Int32} {v3 : Int32} {s0 : Int32} {s2 : Nat} (b0 : s2 < 2156) (k : Ev g mX12_cost d n0 nf post n 44 [some (.ref 133), some (.int v1), some (.int v2), some (.int v3)] [.int (3 + v3), .int v1, .ref 134, .ref 134, .int (X 134 s2), .int s0] X) : Ev g mX12_cost d n0 nf post n 31 [some (.ref 133), some (.int v1), some (.int v2), some (.int v3)] [.int (nI s2), .ref 134, .int s0] X := by
  refine ev_iald dX12_cost_31 (by omega) ly_134 rfl b0 ?_
  refine ev_aload_n dX12_cost_32 rfl ?_
  refine ev_getS (q := 134) dX12_cost_33 fo_12_9 (by omega) lo_133 rfl (sh_133_0 hX (by omega)) (by decide) ?_
  refine ev_aload_n dX12_cost_36 rfl ?_
  refine ev_getS (q := 134) dX12_cost_37 fo_12_9 (by omega) lo_133 rfl (sh_133_0 hX (by omega)) (by decide) ?_
  refine ev_iload_n dX12_cost_40 rfl ?_
  refine ev_iconst (v := 3) dX12_cost_41 ki_3 ?_
  refine ev_iload_n dX12_cost_42 rfl ?_
  refine ev_iadd dX12_cost_43 ?_
  exact k
theorem bX12_cost_47_0 {g : GG} {d n0 nf : Nat} {post : Option Value → LX → Prop} {n : Nat} {X : LX} (hn : 146 ≤ n) (hX : Sh n X) {v1 : Int32} {v2 : Int32} {v3 : Int32} {s0 : Int32} {s1 : Int32} {s4 : Nat} (b0 : s4 < 2156) (k : Ev g mX12_cost d n0 nf post n 49 [some (.ref 133), some (.int v1), some (.int v2), some (.int v3)] [.int 1, .int (X 134 s4), .ref 134, .int s1, .int s0] X) : Ev g mX12_cost d n0 nf post n 47 [some (.ref 133), some (.int v1), some (.int v2), some (.int v3)] [.int (nI s4), .ref 134, .ref 134, .int s1, .int s0] X := by
  refine ev_iald dX12_cost_47 (by omega) ly_134 rfl b0 ?_
  refine ev_iconst (v := 1) dX12_cost_48 ki_1 ?_
  exact k
theorem bX12_cost_52_0 {g : GG} {d n0 nf : Nat} {post : Option Value → LX → Prop} {n : Nat} {X : LX} (hn : 146 ≤ n) (hX : Sh n X) {v1 : Int32} {v2 : Int32} {v3 : Int32} {s0 : Int32} {s1 : Int32} {s3 : Nat} (b0 : s3 < 2156) (k : Ev g mX12_cost d n0 nf post n 4 [some (.ref 133), some (.int v1), some (.int (s0 + ((s1 * (X 134 s3)) / 100))), some (.int (v3 + 1))] [] X) : Ev g mX12_cost d n0 nf post n 52 [some (.ref 133), some (.int v1), some (.int v2), some (.int v3)] [.int (nI s3), .ref 134, .int s1, .int s0] X := by
  refine ev_iald dX12_cost_52 (by omega) ly_134 rfl b0 ?_
  refine ev_imul dX12_cost_53 ?_
  refine ev_bipush (v := 100) dX12_cost_54 kb_100 ?_
  refine ev_idiv dX12_cost_56 (by decide) ?_
  refine ev_iadd dX12_cost_57 ?_
  refine ev_istore_n dX12_cost_58 (by decide) ?_
  refine ev_iinc (v := v3 + 1) dX12_cost_59 rfl (by rw [show Int32.ofInt 1 = 1 from ki_1]) (by decide) ?_
  refine ev_goto (tgt := 4) dX12_cost_62 (by decide) ?_
  exact k
theorem bX12_grams_0_0 {g : GG} {d n0 nf : Nat} {post : Option Value → LX → Prop} {n : Nat} {X : LX} (hn : 146 ≤ n) (hX : Sh n X) {v1 : Int32} (k : Ev g mX12_grams d n0 nf post n 4 [some (.ref 133), some (.int v1), some (.int 0), some (.int 0)] [] X) : Ev g mX12_grams d n0 nf post n 0 [some (.ref 133), some (.int v1), none, none] [] X := by
  refine ev_iconst (v := 0) dX12_grams_0 ki_0 ?_
  refine ev_istore_n dX12_grams_1 (by decide) ?_
  refine ev_iconst (v := 0) dX12_grams_2 ki_0 ?_
  refine ev_istore_n dX12_grams_3 (by decide) ?_
  exact k
theorem bX12_grams_4_0 {g : GG} {d n0 nf : Nat} {post : Option Value → LX → Prop} {n : Nat} {X : LX} (hn : 146 ≤ n) (hX : Sh n X) {v1 : Int32} {v2 : Int32} {v3 : Int32} (k : Ev g mX12_grams d n0 nf post n 11 [some (.ref 133), some (.int v1), some (.int v2), some (.int v3)] [.int 2, .int v1, .ref 134, .int v3] X) : Ev g mX12_grams d n0 nf post n 4 [some (.ref 133), some (.int v1), some (.int v2), some (.int v3)] [] X := by
  refine ev_iload_n dX12_grams_4 rfl ?_
  refine ev_aload_n dX12_grams_5 rfl ?_
  refine ev_getS (q := 134) dX12_grams_6 fo_12_9 (by omega) lo_133 rfl (sh_133_0 hX (by omega)) (by decide) ?_
  refine ev_iload_n dX12_grams_9 rfl ?_
  refine ev_iconst (v := 2) dX12_grams_10 ki_2 ?_
  exact k
theorem bX12_grams_14_0 {g : GG} {d n0 nf : Nat} {post : Option Value → LX → Prop} {n : Nat} {X : LX} (hn : 146 ≤ n) (hX : Sh n X) {v1 : Int32} {v2 : Int32} {v3 : Int32} {s0 : Int32} {s2 : Nat} (b0 : s2 < 2156) (c0 : ¬ X 134 s2 ≤ s0) (k : Ev g mX12_grams d n0 nf post n 28 [some (.ref 133), some (.int v1), some (.int v2), some (.int v3)] [.int (8 + v3), .int v1, .ref 134, .int v2] X) : Ev g mX12_grams d n0 nf post n 14 [some (.ref 133), some (.int v1), some (.int v2), some (.int v3)] [.int (nI s2), .ref 134, .int s0] X := by
  refine ev_iald dX12_grams_14 (by omega) ly_134 rfl b0 ?_
  refine ev_icmpF (tgt := 40) dX12_grams_15 (by decide) c0 ?_
  refine ev_iload_n dX12_grams_18 rfl ?_
  refine ev_aload_n dX12_grams_19 rfl ?_
  refine ev_getS (q := 134) dX12_grams_20 fo_12_9 (by omega) lo_133 rfl (sh_133_0 hX (by omega)) (by decide) ?_
  refine ev_iload_n dX12_grams_23 rfl ?_
  refine ev_bipush (v := 8) dX12_grams_24 kb_8 ?_
  refine ev_iload_n dX12_grams_26 rfl ?_
  refine ev_iadd dX12_grams_27 ?_
  exact k
theorem bX12_grams_14_1 {g : GG} {d n0 nf : Nat} {post : Option Value → LX → Prop} {n : Nat} {X : LX} (hn : 146 ≤ nf) (hX : Sh nf X) {v1 : Int32} {v2 : Int32} {v3 : Int32} {s0 : Int32} {s2 : Nat} (b0 : s2 < 2156) (c0 : X 134 s2 ≤ s0) (hp : post (some (.int v2)) X) : Ev g mX12_grams d n0 nf post nf 14 [some (.ref 133), some (.int v1), some (.int v2), some (.int v3)] [.int (nI s2), .ref 134, .int s0] X := by
  refine ev_iald dX12_grams_14 (by omega) ly_134 rfl b0 ?_
  refine ev_icmpT (tgt := 40) dX12_grams_15 (by decide) c0 ?_
  refine ev_iload_n dX12_grams_40 rfl ?_
  exact ev_iret dX12_grams_41 rfl rfl hp
theorem bX12_grams_31_0 {g : GG} {d n0 nf : Nat} {post : Option Value → LX → Prop} {n : Nat} {X : LX} (hn : 146 ≤ n) (hX : Sh n X) {v1 : Int32} {v2 : Int32} {v3 : Int32} {s0 : Int32} {s2 : Nat} (b0 : s2 < 2156) (k : Ev g mX12_grams d n0 nf post n 4 [some (.ref 133), some (.int v1), some (.int (s0 + (X 134 s2))), some (.int (v3 + 1))] [] X) : Ev g mX12_grams d n0 nf post n 31 [some (.ref 133), some (.int v1), some (.int v2), some (.int v3)] [.int (nI s2), .ref 134, .int s0] X := by
  refine ev_iald dX12_grams_31 (by omega) ly_134 rfl b0 ?_
  refine ev_iadd dX12_grams_32 ?_
  refine ev_istore_n dX12_grams_33 (by decide) ?_
  refine ev_iinc (v := v3 + 1) dX12_grams_34 rfl (by rw [show Int32.ofInt 1 = 1 from ki_1]) (by decide) ?_
  refine ev_goto (tgt := 4) dX12_grams_37 (by decide) ?_
  exact k
theorem bX12_about_0_0 {g : GG} {d n0 nf : Nat} {post : Option Value → LX → Prop} {n : Nat} {X : LX} (hn : 146 ≤ n) (hX : Sh n X) {v1 : Int32} {v2 : Int32} (k : Ev g mX12_about d n0 nf post n 2 [some (.ref 133), some (.int v1), some (.int v2)] [.int v1, .ref 133] X) : Ev g mX12_about d n0 nf post n 0 [some (.ref 133), some (.int v1), some (.int v2)] [] X := by
  refine ev_aload_n dX12_about_0 rfl ?_
  refine ev_iload_n dX12_about_1 rfl ?_
  exact k
theorem bX12_about_5_0 {g : GG} {d n0 nf : Nat} {post : Option Value → LX → Prop} {n : Nat} {X : LX} (hn : 146 ≤ n) (hX : Sh n X) {v1 : Int32} {v2 : Int32} {s0 : Int32} (c0 : ¬ s0 = 0) (k : Ev g mX12_about d n0 nf post n 12 [some (.ref 133), some (.int v1), some (.int v2)] [.int 6, .int 0, .int v2] X) : Ev g mX12_about d n0 nf post n 5 [some (.ref 133), some (.int v1), some (.int v2)] [.int s0] X := by
  refine ev_ifF (tgt := 18) dX12_about_5 (by decide) c0 ?_
  refine ev_iload_n dX12_about_8 rfl ?_
  refine ev_iconst (v := 0) dX12_about_9 ki_0 ?_
  refine ev_bipush (v := 6) dX12_about_10 kb_6 ?_
  exact k
theorem bX12_about_5_1 {g : GG} {d n0 nf : Nat} {post : Option Value → LX → Prop} {n : Nat} {X : LX} (hn : 146 ≤ nf) (hX : Sh nf X) {v1 : Int32} {v2 : Int32} {s0 : Int32} (c0 : s0 = 0) (hp : post (some (.int (-1000000001))) X) : Ev g mX12_about d n0 nf post nf 5 [some (.ref 133), some (.int v1), some (.int v2)] [.int s0] X := by
  refine ev_ifT (tgt := 18) dX12_about_5 (by decide) c0 ?_
  refine ev_ldc (v := (-1000000001)) dX12_about_18 kw_12_57 ?_
  exact ev_iret dX12_about_20 rfl rfl hp
theorem bX12_about_15_0 {g : GG} {d n0 nf : Nat} {post : Option Value → LX → Prop} {n : Nat} {X : LX} (hn : 146 ≤ nf) (hX : Sh nf X) {v1 : Int32} {v2 : Int32} {s0 : Int32} (c0 : s0 = 0) (hp : post (some (.int (-1000000001))) X) : Ev g mX12_about d n0 nf post nf 15 [some (.ref 133), some (.int v1), some (.int v2)] [.int s0] X := by
  refine ev_ifF (tgt := 21) dX12_about_15 (by decide) c0 ?_
  refine ev_ldc (v := (-1000000001)) dX12_about_18 kw_12_57 ?_
  exact ev_iret dX12_about_20 rfl rfl hp
theorem bX12_about_15_1 {g : GG} {d n0 nf : Nat} {post : Option Value → LX → Prop} {n : Nat} {X : LX} (hn : 146 ≤ n) (hX : Sh n X) {v1 : Int32} {v2 : Int32} {s0 : Int32} (c0 : ¬ s0 = 0) (c1 : v2.toInt < 0 ∨ 5 < v2.toInt) (c2 : X 134 2 = 1) (k : Ev g mX12_about d n0 nf post n 124 [some (.ref 133), some (.int v1), some (.int v2)] [.int v1, .int 0, .ref 133] X) : Ev g mX12_about d n0 nf post n 15 [some (.ref 133), some (.int v1), some (.int v2)] [.int s0] X := by
  refine ev_ifT (tgt := 21) dX12_about_15 (by decide) c0 ?_
  refine ev_iload_n dX12_about_21 rfl ?_
  refine ev_tabO (tgt := 111) dX12_about_22 c1 (by decide) ?_
  refine ev_aload_n dX12_about_111 rfl ?_
  refine ev_getS (q := 134) dX12_about_112 fo_12_9 (by omega) lo_133 rfl (sh_133_0 hX (by omega)) (by decide) ?_
  refine ev_iconst (v := 2) dX12_about_115 ki_2 ?_
  refine ev_iald dX12_about_116 (by omega) ly_134 nIl_2 (by decide) ?_
  refine ev_iconst (v := 1) dX12_about_117 ki_1 ?_
  refine ev_icmpF (tgt := 134) dX12_about_118 (by decide) c2 ?_
  refine ev_aload_n dX12_about_121 rfl ?_
  refine ev_iconst (v := 0) dX12_about_122 ki_0 ?_
  refine ev_iload_n dX12_about_123 rfl ?_
  exact k
theorem bX12_about_15_2 {g : GG} {d n0 nf : Nat} {post : Option Value → LX → Prop} {n : Nat} {X : LX} (hn : 146 ≤ nf) (hX : Sh nf X) {v1 : Int32} {v2 : Int32} {s0 : Int32} (c0 : ¬ s0 = 0) (c1 : v2.toInt < 0 ∨ 5 < v2.toInt) (c2 : ¬ X 134 2 = 1) (hp : post (some (.int 0)) X) : Ev g mX12_about d n0 nf post nf 15 [some (.ref 133), some (.int v1), some (.int v2)] [.int s0] X := by
  refine ev_ifT (tgt := 21) dX12_about_15 (by decide) c0 ?_
  refine ev_iload_n dX12_about_21 rfl ?_
  refine ev_tabO (tgt := 111) dX12_about_22 c1 (by decide) ?_
  refine ev_aload_n dX12_about_111 rfl ?_
  refine ev_getS (q := 134) dX12_about_112 fo_12_9 (by omega) lo_133 rfl (sh_133_0 hX (by omega)) (by decide) ?_
  refine ev_iconst (v := 2) dX12_about_115 ki_2 ?_
  refine ev_iald dX12_about_116 (by omega) ly_134 nIl_2 (by decide) ?_
  refine ev_iconst (v := 1) dX12_about_117 ki_1 ?_
  refine ev_icmpT (tgt := 134) dX12_about_118 (by decide) c2 ?_
  refine ev_iconst (v := 0) dX12_about_134 ki_0 ?_
  exact ev_iret dX12_about_135 rfl rfl hp
theorem bX12_about_15_3 {g : GG} {d n0 nf : Nat} {post : Option Value → LX → Prop} {n : Nat} {X : LX} (hn : 146 ≤ n) (hX : Sh n X) {v1 : Int32} {v2 : Int32} {s0 : Int32} (c0 : ¬ s0 = 0) (c1 : v2 = 0) (k : Ev g mX12_about d n0 nf post n 66 [some (.ref 133), some (.int v1), some (.int v2)] [.int 0, .int v1, .ref 134] X) : Ev g mX12_about d n0 nf post n 15 [some (.ref 133), some (.int v1), some (.int v2)] [.int s0] X := by
  refine ev_ifT (tgt := 21) dX12_about_15 (by decide) c0 ?_
  refine ev_iload_n dX12_about_21 rfl ?_
  refine ev_tabI (tgt := 60) (off := 38) dX12_about_22 (by rw [c1]; decide) (by rw [c1]; decide) (by rw [c1]; rfl) (by decide) ?_
  refine ev_aload_n dX12_about_60 rfl ?_
  refine ev_getS (q := 134) dX12_about_61 fo_12_9 (by omega) lo_133 rfl (sh_133_0 hX (by omega)) (by decide) ?_
  refine ev_iload_n dX12_about_64 rfl ?_
  refine ev_iconst (v := 0) dX12_about_65 ki_0 ?_
  exact k
theorem bX12_about_15_4 {g : GG} {d n0 nf : Nat} {post : Option Value → LX → Prop} {n : Nat} {X : LX} (hn : 146 ≤ n) (hX : Sh n X) {v1 : Int32} {v2 : Int32} {s0 : Int32} (c0 : ¬ s0 = 0) (c1 : v2 = 1) (k : Ev g mX12_about d n0 nf post n 77 [some (.ref 133), some (.int v1), some (.int v2)] [.int 1, .int v1, .ref 134] X) : Ev g mX12_about d n0 nf post n 15 [some (.ref 133), some (.int v1), some (.int v2)] [.int s0] X := by
  refine ev_ifT (tgt := 21) dX12_about_15 (by decide) c0 ?_
  refine ev_iload_n dX12_about_21 rfl ?_
  refine ev_tabI (tgt := 71) (off := 49) dX12_about_22 (by rw [c1]; decide) (by rw [c1]; decide) (by rw [c1]; rfl) (by decide) ?_
  refine ev_aload_n dX12_about_71 rfl ?_
  refine ev_getS (q := 134) dX12_about_72 fo_12_9 (by omega) lo_133 rfl (sh_133_0 hX (by omega)) (by decide) ?_
  refine ev_iload_n dX12_about_75 rfl ?_
  refine ev_iconst (v := 1) dX12_about_76 ki_1 ?_
  exact k
theorem bX12_about_15_5 {g : GG} {d n0 nf : Nat} {post : Option Value → LX → Prop} {n : Nat} {X : LX} (hn : 146 ≤ n) (hX : Sh n X) {v1 : Int32} {v2 : Int32} {s0 : Int32} (c0 : ¬ s0 = 0) (c1 : v2 = 2) (k : Ev g mX12_about d n0 nf post n 84 [some (.ref 133), some (.int v1), some (.int v2)] [.int v1, .ref 133] X) : Ev g mX12_about d n0 nf post n 15 [some (.ref 133), some (.int v1), some (.int v2)] [.int s0] X := by
  refine ev_ifT (tgt := 21) dX12_about_15 (by decide) c0 ?_
  refine ev_iload_n dX12_about_21 rfl ?_
  refine ev_tabI (tgt := 82) (off := 60) dX12_about_22 (by rw [c1]; decide) (by rw [c1]; decide) (by rw [c1]; rfl) (by decide) ?_
  refine ev_aload_n dX12_about_82 rfl ?_
  refine ev_iload_n dX12_about_83 rfl ?_
  exact k
theorem bX12_about_15_6 {g : GG} {d n0 nf : Nat} {post : Option Value → LX → Prop} {n : Nat} {X : LX} (hn : 146 ≤ n) (hX : Sh n X) {v1 : Int32} {v2 : Int32} {s0 : Int32} (c0 : ¬ s0 = 0) (c1 : v2 = 3) (k : Ev g mX12_about d n0 nf post n 90 [some (.ref 133), some (.int v1), some (.int v2)] [.int v1, .ref 133] X) : Ev g mX12_about d n0 nf post n 15 [some (.ref 133), some (.int v1), some (.int v2)] [.int s0] X := by
  refine ev_ifT (tgt := 21) dX12_about_15 (by decide) c0 ?_
  refine ev_iload_n dX12_about_21 rfl ?_
  refine ev_tabI (tgt := 88) (off := 66) dX12_about_22 (by rw [c1]; decide) (by rw [c1]; decide) (by rw [c1]; rfl) (by decide) ?_
  refine ev_aload_n dX12_about_88 rfl ?_
  refine ev_iload_n dX12_about_89 rfl ?_
  exact k
theorem bX12_about_15_7 {g : GG} {d n0 nf : Nat} {post : Option Value → LX → Prop} {n : Nat} {X : LX} (hn : 146 ≤ n) (hX : Sh n X) {v1 : Int32} {v2 : Int32} {s0 : Int32} (c0 : ¬ s0 = 0) (c1 : v2 = 4) (k : Ev g mX12_about d n0 nf post n 100 [some (.ref 133), some (.int v1), some (.int v2)] [.int 2, .int v1, .ref 134] X) : Ev g mX12_about d n0 nf post n 15 [some (.ref 133), some (.int v1), some (.int v2)] [.int s0] X := by
  refine ev_ifT (tgt := 21) dX12_about_15 (by decide) c0 ?_
  refine ev_iload_n dX12_about_21 rfl ?_
  refine ev_tabI (tgt := 94) (off := 72) dX12_about_22 (by rw [c1]; decide) (by rw [c1]; decide) (by rw [c1]; rfl) (by decide) ?_
  refine ev_aload_n dX12_about_94 rfl ?_
  refine ev_getS (q := 134) dX12_about_95 fo_12_9 (by omega) lo_133 rfl (sh_133_0 hX (by omega)) (by decide) ?_
  refine ev_iload_n dX12_about_98 rfl ?_
  refine ev_iconst (v := 2) dX12_about_99 ki_2 ?_
  exact k
theorem bX12_about_15_8 {g : GG} {d n0 nf : Nat} {post : Option Value → LX → Prop} {n : Nat} {X : LX} (hn : 146 ≤ n) (hX : Sh n X) {v1 : Int32} {v2 : Int32} {s0 : Int32} (c0 : ¬ s0 = 0) (c1 : v2 = 5) (k : Ev g mX12_about d n0 nf post n 107 [some (.ref 133), some (.int v1), some (.int v2)] [.int v1, .ref 133] X) : Ev g mX12_about d n0 nf post n 15 [some (.ref 133), some (.int v1), some (.int v2)] [.int s0] X := by
  refine ev_ifT (tgt := 21) dX12_about_15 (by decide) c0 ?_
  refine ev_iload_n dX12_about_21 rfl ?_
  refine ev_tabI (tgt := 105) (off := 83) dX12_about_22 (by rw [c1]; decide) (by rw [c1]; decide) (by rw [c1]; rfl) (by decide) ?_
  refine ev_aload_n dX12_about_105 rfl ?_
  refine ev_iload_n dX12_about_106 rfl ?_
  exact k
theorem bX12_about_69_0 {g : GG} {d n0 nf : Nat} {post : Option Value → LX → Prop} {n : Nat} {X : LX} (hn : 146 ≤ nf) (hX : Sh nf X) {v1 : Int32} {v2 : Int32} {s1 : Nat} (b0 : s1 < 2156) (hp : post (some (.int (X 134 s1))) X) : Ev g mX12_about d n0 nf post nf 69 [some (.ref 133), some (.int v1), some (.int v2)] [.int (nI s1), .ref 134] X := by
  refine ev_iald dX12_about_69 (by omega) ly_134 rfl b0 ?_
  exact ev_iret dX12_about_70 rfl rfl hp
theorem bX12_about_80_0 {g : GG} {d n0 nf : Nat} {post : Option Value → LX → Prop} {n : Nat} {X : LX} (hn : 146 ≤ nf) (hX : Sh nf X) {v1 : Int32} {v2 : Int32} {s1 : Nat} (b0 : s1 < 2156) (hp : post (some (.int (X 134 s1))) X) : Ev g mX12_about d n0 nf post nf 80 [some (.ref 133), some (.int v1), some (.int v2)] [.int (nI s1), .ref 134] X := by
  refine ev_iald dX12_about_80 (by omega) ly_134 rfl b0 ?_
  exact ev_iret dX12_about_81 rfl rfl hp
theorem bX12_about_87_0 {g : GG} {d n0 nf : Nat} {post : Option Value → LX → Prop} {n : Nat} {X : LX} (hn : 146 ≤ nf) (hX : Sh nf X) {v1 : Int32} {v2 : Int32} {s0 : Int32} (hp : post (some (.int s0)) X) : Ev g mX12_about d n0 nf post nf 87 [some (.ref 133), some (.int v1), some (.int v2)] [.int s0] X := by
  exact ev_iret dX12_about_87 rfl rfl hp
theorem bX12_about_93_0 {g : GG} {d n0 nf : Nat} {post : Option Value → LX → Prop} {n : Nat} {X : LX} (hn : 146 ≤ nf) (hX : Sh nf X) {v1 : Int32} {v2 : Int32} {s0 : Int32} (hp : post (some (.int s0)) X) : Ev g mX12_about d n0 nf post nf 93 [some (.ref 133), some (.int v1), some (.int v2)] [.int s0] X := by
  exact ev_iret dX12_about_93 rfl rfl hp
theorem bX12_about_103_0 {g : GG} {d n0 nf : Nat} {post : Option Value → LX → Prop} {n : Nat} {X : LX} (hn : 146 ≤ nf) (hX : Sh nf X) {v1 : Int32} {v2 : Int32} {s1 : Nat} (b0 : s1 < 2156) (hp : post (some (.int (X 134 s1))) X) : Ev g mX12_about d n0 nf post nf 103 [some (.ref 133), some (.int v1), some (.int v2)] [.int (nI s1), .ref 134] X := by
  refine ev_iald dX12_about_103 (by omega) ly_134 rfl b0 ?_
  exact ev_iret dX12_about_104 rfl rfl hp
theorem bX12_about_110_0 {g : GG} {d n0 nf : Nat} {post : Option Value → LX → Prop} {n : Nat} {X : LX} (hn : 146 ≤ nf) (hX : Sh nf X) {v1 : Int32} {v2 : Int32} {s0 : Int32} (hp : post (some (.int s0)) X) : Ev g mX12_about d n0 nf post nf 110 [some (.ref 133), some (.int v1), some (.int v2)] [.int s0] X := by
  exact ev_iret dX12_about_110 rfl rfl hp
theorem bX12_about_127_0 {g : GG} {d n0 nf : Nat} {post : Option Value → LX → Prop} {n : Nat} {X : LX} (hn : 146 ≤ nf) (hX : Sh nf X) {v1 : Int32} {v2 : Int32} {s0 : Int32} (c0 : ¬ s0 = 0) (hp : post (some (.int 1)) X) : Ev g mX12_about d n0 nf post nf 127 [some (.ref 133), some (.int v1), some (.int v2)] [.int s0] X := by
  refine ev_ifF (tgt := 134) dX12_about_127 (by decide) c0 ?_
  refine ev_iconst (v := 1) dX12_about_130 ki_1 ?_
  refine ev_goto (tgt := 135) dX12_about_131 (by decide) ?_
  exact ev_iret dX12_about_135 rfl rfl hp
theorem bX12_about_127_1 {g : GG} {d n0 nf : Nat} {post : Option Value → LX → Prop} {n : Nat} {X : LX} (hn : 146 ≤ nf) (hX : Sh nf X) {v1 : Int32} {v2 : Int32} {s0 : Int32} (c0 : s0 = 0) (hp : post (some (.int 0)) X) : Ev g mX12_about d n0 nf post nf 127 [some (.ref 133), some (.int v1), some (.int v2)] [.int s0] X := by
  refine ev_ifT (tgt := 134) dX12_about_127 (by decide) c0 ?_
  refine ev_iconst (v := 0) dX12_about_134 ki_0 ?_
  exact ev_iret dX12_about_135 rfl rfl hp
theorem bX12_family_0_0 {g : GG} {d n0 nf : Nat} {post : Option Value → LX → Prop} {n : Nat} {X : LX} (hn : 146 ≤ n) (hX : Sh n X) {v1 : Int32} {v2 : Int32} (k : Ev g mX12_family d n0 nf post n 5 [some (.ref 133), some (.int v1), some (.int v2), none, none] [.int 255, .int 0, .int v1] X) : Ev g mX12_family d n0 nf post n 0 [some (.ref 133), some (.int v1), some (.int v2), none, none] [] X := by
  refine ev_iload_n dX12_family_0 rfl ?_
  refine ev_iconst (v := 0) dX12_family_1 ki_0 ?_
  refine ev_sipush (v := 255) dX12_family_2 ks_255 ?_
  exact k
theorem bX12_family_8_0 {g : GG} {d n0 nf : Nat} {post : Option Value → LX → Prop} {n : Nat} {X : LX} (hn : 146 ≤ n) (hX : Sh n X) {v1 : Int32} {v2 : Int32} {s0 : Int32} (c0 : ¬ s0 = 0) (k : Ev g mX12_family d n0 nf post n 16 [some (.ref 133), some (.int v1), some (.int v2), none, none] [.int 19999, .int 0, .int v2] X) : Ev g mX12_family d n0 nf post n 8 [some (.ref 133), some (.int v1), some (.int v2), none, none] [.int s0] X := by
  refine ev_ifF (tgt := 35) dX12_family_8 (by decide) c0 ?_
  refine ev_iload_n dX12_family_11 rfl ?_
  refine ev_iconst (v := 0) dX12_family_12 ki_0 ?_
  refine ev_sipush (v := 19999) dX12_family_13 ks_19999 ?_
  exact k
theorem bX12_family_8_1 {g : GG} {d n0 nf : Nat} {post : Option Value → LX → Prop} {n : Nat} {X : LX} (hn : 146 ≤ nf) (hX : Sh nf X) {v1 : Int32} {v2 : Int32} {s0 : Int32} (c0 : s0 = 0) (hp : post (some (.int (-1000000001))) X) : Ev g mX12_family d n0 nf post nf 8 [some (.ref 133), some (.int v1), some (.int v2), none, none] [.int s0] X := by
  refine ev_ifT (tgt := 35) dX12_family_8 (by decide) c0 ?_
  refine ev_ldc (v := (-1000000001)) dX12_family_35 kw_12_57 ?_
  exact ev_iret dX12_family_37 rfl rfl hp
theorem bX12_family_19_0 {g : GG} {d n0 nf : Nat} {post : Option Value → LX → Prop} {n : Nat} {X : LX} (hn : 146 ≤ n) (hX : Sh n X) {v1 : Int32} {v2 : Int32} {s0 : Int32} (c0 : ¬ s0 = 0) (k : Ev g mX12_family d n0 nf post n 29 [some (.ref 133), some (.int v1), some (.int v2), none, none] [.int 6, .int 1, .int (v2 - v2 / 10 * 10)] X) : Ev g mX12_family d n0 nf post n 19 [some (.ref 133), some (.int v1), some (.int v2), none, none] [.int s0] X := by
  refine ev_ifF (tgt := 35) dX12_family_19 (by decide) c0 ?_
  refine ev_iload_n dX12_family_22 rfl ?_
  refine ev_bipush (v := 10) dX12_family_23 kb_10 ?_
  refine ev_irem dX12_family_25 (by decide) ?_
  refine ev_iconst (v := 1) dX12_family_26 ki_1 ?_
  refine ev_bipush (v := 6) dX12_family_27 kb_6 ?_
  exact k
theorem bX12_family_19_1 {g : GG} {d n0 nf : Nat} {post : Option Value → LX → Prop} {n : Nat} {X : LX} (hn : 146 ≤ nf) (hX : Sh nf X) {v1 : Int32} {v2 : Int32} {s0 : Int32} (c0 : s0 = 0) (hp : post (some (.int (-1000000001))) X) : Ev g mX12_family d n0 nf post nf 19 [some (.ref 133), some (.int v1), some (.int v2), none, none] [.int s0] X := by
  refine ev_ifT (tgt := 35) dX12_family_19 (by decide) c0 ?_
  refine ev_ldc (v := (-1000000001)) dX12_family_35 kw_12_57 ?_
  exact ev_iret dX12_family_37 rfl rfl hp
theorem bX12_family_32_0 {g : GG} {d n0 nf : Nat} {post : Option Value → LX → Prop} {n : Nat} {X : LX} (hn : 146 ≤ nf) (hX : Sh nf X) {v1 : Int32} {v2 : Int32} {s0 : Int32} (c0 : s0 = 0) (hp : post (some (.int (-1000000001))) X) : Ev g mX12_family d n0 nf post nf 32 [some (.ref 133), some (.int v1), some (.int v2), none, none] [.int s0] X := by
  refine ev_ifF (tgt := 38) dX12_family_32 (by decide) c0 ?_
  refine ev_ldc (v := (-1000000001)) dX12_family_35 kw_12_57 ?_
  exact ev_iret dX12_family_37 rfl rfl hp
theorem bX12_family_32_1 {g : GG} {d n0 nf : Nat} {post : Option Value → LX → Prop} {n : Nat} {X : LX} (hn : 146 ≤ nf) (hX : Sh nf X) {v1 : Int32} {v2 : Int32} {s0 : Int32} (c0 : ¬ s0 = 0) (c1 : X 134 6 = 12) (hp : post (some (.int (-1000000003))) X) : Ev g mX12_family d n0 nf post nf 32 [some (.ref 133), some (.int v1), some (.int v2), none, none] [.int s0] X := by
  refine ev_ifT (tgt := 38) dX12_family_32 (by decide) c0 ?_
  refine ev_aload_n dX12_family_38 rfl ?_
  refine ev_getS (q := 134) dX12_family_39 fo_12_9 (by omega) lo_133 rfl (sh_133_0 hX (by omega)) (by decide) ?_
  refine ev_bipush (v := 6) dX12_family_42 kb_6 ?_
  refine ev_iald dX12_family_44 (by omega) ly_134 nIl_6 (by decide) ?_
  refine ev_istore_n dX12_family_45 (by decide) ?_
  refine ev_iload_n dX12_family_46 rfl ?_
  refine ev_bipush (v := 12) dX12_family_47 kb_12 ?_
  refine ev_icmpF (tgt := 55) dX12_family_49 (by decide) c1 ?_
  refine ev_ldc (v := (-1000000003)) dX12_family_52 kw_12_58 ?_
  exact ev_iret dX12_family_54 rfl rfl hp
theorem bX12_family_32_2 {g : GG} {d n0 nf : Nat} {post : Option Value → LX → Prop} {n : Nat} {X : LX} (hn : 146 ≤ n) (hX : Sh n X) {v1 : Int32} {v2 : Int32} {s0 : Int32} (c0 : ¬ s0 = 0) (c1 : ¬ X 134 6 = 12) (k : Ev g mX12_family d n0 nf post n 61 [some (.ref 133), some (.int v1), some (.int v2), some (.int (X 134 6)), none] [.int 0, .int (X 134 6), .ref 134] X) : Ev g mX12_family d n0 nf post n 32 [some (.ref 133), some (.int v1), some (.int v2), none, none] [.int s0] X := by
  refine ev_ifT (tgt := 38) dX12_family_32 (by decide) c0 ?_
  refine ev_aload_n dX12_family_38 rfl ?_
  refine ev_getS (q := 134) dX12_family_39 fo_12_9 (by omega) lo_133 rfl (sh_133_0 hX (by omega)) (by decide) ?_
  refine ev_bipush (v := 6) dX12_family_42 kb_6 ?_
  refine ev_iald dX12_family_44 (by omega) ly_134 nIl_6 (by decide) ?_
  refine ev_istore_n dX12_family_45 (by decide) ?_
  refine ev_iload_n dX12_family_46 rfl ?_
  refine ev_bipush (v := 12) dX12_family_47 kb_12 ?_
  refine ev_icmpT (tgt := 55) dX12_family_49 (by decide) c1 ?_
  refine ev_aload_n dX12_family_55 rfl ?_
  refine ev_getS (q := 134) dX12_family_56 fo_12_9 (by omega) lo_133 rfl (sh_133_0 hX (by omega)) (by decide) ?_
  refine ev_iload_n dX12_family_59 rfl ?_
  refine ev_iconst (v := 0) dX12_family_60 ki_0 ?_
  exact k
theorem bX12_family_64_0 {g : GG} {d n0 nf : Nat} {post : Option Value → LX → Prop} {n : Nat} {X : LX} (hn : 146 ≤ n) (hX : Sh n X) {v1 : Int32} {v2 : Int32} {v3 : Int32} {s1 : Nat} (b0 : s1 < 2156) (k : Ev g mX12_family d n0 nf post n 72 [some (.ref 133), some (.int v1), some (.int v2), some (.int v3), none] [.int 1, .int v3, .ref 134] (lx_up X 134 s1 v1)) : Ev g mX12_family d n0 nf post n 64 [some (.ref 133), some (.int v1), some (.int v2), some (.int v3), none] [.int (nI s1), .ref 134] X := by
  refine ev_iload_n dX12_family_64 rfl ?_
  refine ev_iast dX12_family_65 (by omega) ly_134 rfl b0 ?_
  have hX1 : Sh _ (lx_up X 134 s1 v1) := Sh.upA hX (by rw [ly_134]; exact (by decide : 0 < 2))
  refine ev_aload_n dX12_family_66 rfl ?_
  refine ev_getS (q := 134) dX12_family_67 fo_12_9 (by omega) lo_133 rfl (sh_133_0 hX1 (by omega)) (by decide) ?_
  refine ev_iload_n dX12_family_70 rfl ?_
  refine ev_iconst (v := 1) dX12_family_71 ki_1 ?_
  exact k
theorem bX12_family_75_0 {g : GG} {d n0 nf : Nat} {post : Option Value → LX → Prop} {n : Nat} {X : LX} (hn : 146 ≤ n) (hX : Sh n X) {v1 : Int32} {v2 : Int32} {v3 : Int32} {s1 : Nat} (b0 : s1 < 2156) (k : Ev g mX12_family d n0 nf post n 86 [some (.ref 133), some (.int v1), some (.int v2), some (.int v3), none] [.int 2, .int v3, .ref 134] (lx_up X 134 s1 (v2 - v2 / 10 * 10))) : Ev g mX12_family d n0 nf post n 75 [some (.ref 133), some (.int v1), some (.int v2), some (.int v3), none] [.int (nI s1), .ref 134] X := by
  refine ev_iload_n dX12_family_75 rfl ?_
  refine ev_bipush (v := 10) dX12_family_76 kb_10 ?_
  refine ev_irem dX12_family_78 (by decide) ?_
  refine ev_iast dX12_family_79 (by omega) ly_134 rfl b0 ?_
  have hX1 : Sh _ (lx_up X 134 s1 (v2 - v2 / 10 * 10)) := Sh.upA hX (by rw [ly_134]; exact (by decide : 0 < 2))
  refine ev_aload_n dX12_family_80 rfl ?_
  refine ev_getS (q := 134) dX12_family_81 fo_12_9 (by omega) lo_133 rfl (sh_133_0 hX1 (by omega)) (by decide) ?_
  refine ev_iload_n dX12_family_84 rfl ?_
  refine ev_iconst (v := 2) dX12_family_85 ki_2 ?_
  exact k
theorem bX12_family_89_0 {g : GG} {d n0 nf : Nat} {post : Option Value → LX → Prop} {n : Nat} {X : LX} (hn : 146 ≤ n) (hX : Sh n X) {v1 : Int32} {v2 : Int32} {v3 : Int32} {s1 : Nat} (b0 : s1 < 2156) (k : Ev g mX12_family d n0 nf post n 101 [some (.ref 133), some (.int v1), some (.int v2), some (.int v3), none] [.int 3, .int v3, .ref 134] (lx_up X 134 s1 (v2 / 10000))) : Ev g mX12_family d n0 nf post n 89 [some (.ref 133), some (.int v1), some (.int v2), some (.int v3), none] [.int (nI s1), .ref 134] X := by
  refine ev_iload_n dX12_family_89 rfl ?_
  refine ev_sipush (v := 10000) dX12_family_90 ks_10000 ?_
  refine ev_idiv dX12_family_93 (by decide) ?_
  refine ev_iast dX12_family_94 (by omega) ly_134 rfl b0 ?_
  have hX1 : Sh _ (lx_up X 134 s1 (v2 / 10000)) := Sh.upA hX (by rw [ly_134]; exact (by decide : 0 < 2))
  refine ev_aload_n dX12_family_95 rfl ?_
  refine ev_getS (q := 134) dX12_family_96 fo_12_9 (by omega) lo_133 rfl (sh_133_0 hX1 (by omega)) (by decide) ?_
  refine ev_iload_n dX12_family_99 rfl ?_
  refine ev_iconst (v := 3) dX12_family_100 ki_3 ?_
  exact k
theorem bX12_family_104_0 {g : GG} {d n0 nf : Nat} {post : Option Value → LX → Prop} {n : Nat} {X : LX} (hn : 146 ≤ n) (hX : Sh n X) {v1 : Int32} {v2 : Int32} {v3 : Int32} {s1 : Nat} (b0 : s1 < 2156) (k : Ev g mX12_family d n0 nf post n 119 [some (.ref 133), some (.int v1), some (.int v2), some (.int v3), none] [.int 4, .int v3, .ref 134] (lx_up X 134 s1 ((v2 / 10) - (v2 / 10) / 1000 * 1000))) : Ev g mX12_family d n0 nf post n 104 [some (.ref 133), some (.int v1), some (.int v2), some (.int v3), none] [.int (nI s1), .ref 134] X := by
  refine ev_iload_n dX12_family_104 rfl ?_
  refine ev_bipush (v := 10) dX12_family_105 kb_10 ?_
  refine ev_idiv dX12_family_107 (by decide) ?_
  refine ev_sipush (v := 1000) dX12_family_108 ks_1000 ?_
  refine ev_irem dX12_family_111 (by decide) ?_
  refine ev_iast dX12_family_112 (by omega) ly_134 rfl b0 ?_
  have hX1 : Sh _ (lx_up X 134 s1 ((v2 / 10) - (v2 / 10) / 1000 * 1000)) := Sh.upA hX (by rw [ly_134]; exact (by decide : 0 < 2))
  refine ev_aload_n dX12_family_113 rfl ?_
  refine ev_getS (q := 134) dX12_family_114 fo_12_9 (by omega) lo_133 rfl (sh_133_0 hX1 (by omega)) (by decide) ?_
  refine ev_iload_n dX12_family_117 rfl ?_
  refine ev_iconst (v := 4) dX12_family_118 ki_4 ?_
  exact k
theorem bX12_family_122_0 {g : GG} {d n0 nf : Nat} {post : Option Value → LX → Prop} {n : Nat} {X : LX} (hn : 146 ≤ n) (hX : Sh n X) {v1 : Int32} {v2 : Int32} {v3 : Int32} {s1 : Nat} (b0 : s1 < 2156) (k : Ev g mX12_family d n0 nf post n 127 [some (.ref 133), some (.int v1), some (.int v2), some (.int v3), some (.int 0)] [] (lx_up X 134 s1 0)) : Ev g mX12_family d n0 nf post n 122 [some (.ref 133), some (.int v1), some (.int v2), some (.int v3), none] [.int (nI s1), .ref 134] X := by
  refine ev_iconst (v := 0) dX12_family_122 ki_0 ?_
  refine ev_iast dX12_family_123 (by omega) ly_134 rfl b0 ?_
  have hX1 : Sh _ (lx_up X 134 s1 0) := Sh.upA hX (by rw [ly_134]; exact (by decide : 0 < 2))
  refine ev_iconst (v := 0) dX12_family_124 ki_0 ?_
  refine ev_istore dX12_family_125 (by decide) ?_
  exact k
theorem bX12_family_127_0 {g : GG} {d n0 nf : Nat} {post : Option Value → LX → Prop} {n : Nat} {X : LX} (hn : 146 ≤ n) (hX : Sh n X) {v1 : Int32} {v2 : Int32} {v3 : Int32} {v4 : Int32} (c0 : ¬ 10 ≤ v4) (k : Ev g mX12_family d n0 nf post n 143 [some (.ref 133), some (.int v1), some (.int v2), some (.int v3), some (.int v4)] [.int (5 + v4), .int v3, .ref 134] X) : Ev g mX12_family d n0 nf post n 127 [some (.ref 133), some (.int v1), some (.int v2), some (.int v3), some (.int v4)] [] X := by
  refine ev_iload dX12_family_127 rfl ?_
  refine ev_bipush (v := 10) dX12_family_129 kb_10 ?_
  refine ev_icmpF (tgt := 154) dX12_family_131 (by decide) c0 ?_
  refine ev_aload_n dX12_family_134 rfl ?_
  refine ev_getS (q := 134) dX12_family_135 fo_12_9 (by omega) lo_133 rfl (sh_133_0 hX (by omega)) (by decide) ?_
  refine ev_iload_n dX12_family_138 rfl ?_
  refine ev_iconst (v := 5) dX12_family_139 ki_5 ?_
  refine ev_iload dX12_family_140 rfl ?_
  refine ev_iadd dX12_family_142 ?_
  exact k
theorem bX12_family_127_1 {g : GG} {d n0 nf : Nat} {post : Option Value → LX → Prop} {n : Nat} {X : LX} (hn : 146 ≤ nf) (hX : Sh nf X) {v1 : Int32} {v2 : Int32} {v3 : Int32} {v4 : Int32} (c0 : 10 ≤ v4) (hp : post (some (.int v3)) (lx_up X 134 6 ((X 134 6) + 1))) : Ev g mX12_family d n0 nf post nf 127 [some (.ref 133), some (.int v1), some (.int v2), some (.int v3), some (.int v4)] [] X := by
  refine ev_iload dX12_family_127 rfl ?_
  refine ev_bipush (v := 10) dX12_family_129 kb_10 ?_
  refine ev_icmpT (tgt := 154) dX12_family_131 (by decide) c0 ?_
  refine ev_aload_n dX12_family_154 rfl ?_
  refine ev_getS (q := 134) dX12_family_155 fo_12_9 (by omega) lo_133 rfl (sh_133_0 hX (by omega)) (by decide) ?_
  refine ev_bipush (v := 6) dX12_family_158 kb_6 ?_
  refine ev_dup2 dX12_family_160 rfl rfl ?_
  refine ev_iald dX12_family_161 (by omega) ly_134 nIl_6 (by decide) ?_
  refine ev_iconst (v := 1) dX12_family_162 ki_1 ?_
  refine ev_iadd dX12_family_163 ?_
  refine ev_iast dX12_family_164 (by omega) ly_134 nIl_6 (by decide) ?_
  have hX1 : Sh _ (lx_up X 134 6 ((X 134 6) + 1)) := Sh.upA hX (by rw [ly_134]; exact (by decide : 0 < 2))
  refine ev_iload_n dX12_family_165 rfl ?_
  exact ev_iret dX12_family_166 rfl rfl hp
theorem bX12_family_146_0 {g : GG} {d n0 nf : Nat} {post : Option Value → LX → Prop} {n : Nat} {X : LX} (hn : 146 ≤ n) (hX : Sh n X) {v1 : Int32} {v2 : Int32} {v3 : Int32} {v4 : Int32} {s1 : Nat} (b0 : s1 < 2156) (k : Ev g mX12_family d n0 nf post n 127 [some (.ref 133), some (.int v1), some (.int v2), some (.int v3), some (.int (v4 + 1))] [] (lx_up X 134 s1 5)) : Ev g mX12_family d n0 nf post n 146 [some (.ref 133), some (.int v1), some (.int v2), some (.int v3), some (.int v4)] [.int (nI s1), .ref 134] X := by
  refine ev_iconst (v := 5) dX12_family_146 ki_5 ?_
  refine ev_iast dX12_family_147 (by omega) ly_134 rfl b0 ?_
  have hX1 : Sh _ (lx_up X 134 s1 5) := Sh.upA hX (by rw [ly_134]; exact (by decide : 0 < 2))
  refine ev_iinc (v := v4 + 1) dX12_family_148 rfl (by rw [show Int32.ofInt 1 = 1 from ki_1]) (by decide) ?_
  refine ev_goto (tgt := 127) dX12_family_151 (by decide) ?_
  exact k
theorem bX12_likes_0_0 {g : GG} {d n0 nf : Nat} {post : Option Value → LX → Prop} {n : Nat} {X : LX} (hn : 146 ≤ n) (hX : Sh n X) {v1 : Int32} {v2 : Int32} {v3 : Int32} (k : Ev g mX12_likes d n0 nf post n 2 [some (.ref 133), some (.int v1), some (.int v2), some (.int v3), none] [.int v1, .ref 133] X) : Ev g mX12_likes d n0 nf post n 0 [some (.ref 133), some (.int v1), some (.int v2), some (.int v3), none] [] X := by
  refine ev_aload_n dX12_likes_0 rfl ?_
  refine ev_iload_n dX12_likes_1 rfl ?_
  exact k
theorem bX12_likes_5_0 {g : GG} {d n0 nf : Nat} {post : Option Value → LX → Prop} {n : Nat} {X : LX} (hn : 146 ≤ n) (hX : Sh n X) {v1 : Int32} {v2 : Int32} {v3 : Int32} {s0 : Int32} (c0 : ¬ s0 = 0) (k : Ev g mX12_likes d n0 nf post n 10 [some (.ref 133), some (.int v1), some (.int v2), some (.int v3), none] [.int v2, .ref 133] X) : Ev g mX12_likes d n0 nf post n 5 [some (.ref 133), some (.int v1), some (.int v2), some (.int v3), none] [.int s0] X := by
  refine ev_ifF (tgt := 26) dX12_likes_5 (by decide) c0 ?_
  refine ev_aload_n dX12_likes_8 rfl ?_
  refine ev_iload_n dX12_likes_9 rfl ?_
  exact k
theorem bX12_likes_5_1 {g : GG} {d n0 nf : Nat} {post : Option Value → LX → Prop} {n : Nat} {X : LX} (hn : 146 ≤ nf) (hX : Sh nf X) {v1 : Int32} {v2 : Int32} {v3 : Int32} {s0 : Int32} (c0 : s0 = 0) (hp : post (some (.int (-1000000001))) X) : Ev g mX12_likes d n0 nf post nf 5 [some (.ref 133), some (.int v1), some (.int v2), some (.int v3), none] [.int s0] X := by
  refine ev_ifT (tgt := 26) dX12_likes_5 (by decide) c0 ?_
  refine ev_ldc (v := (-1000000001)) dX12_likes_26 kw_12_57 ?_
  exact ev_iret dX12_likes_28 rfl rfl hp
theorem bX12_likes_13_0 {g : GG} {d n0 nf : Nat} {post : Option Value → LX → Prop} {n : Nat} {X : LX} (hn : 146 ≤ n) (hX : Sh n X) {v1 : Int32} {v2 : Int32} {v3 : Int32} {s0 : Int32} (c0 : ¬ s0 = 0) (k : Ev g mX12_likes d n0 nf post n 20 [some (.ref 133), some (.int v1), some (.int v2), some (.int v3), none] [.int 9, .int 0, .int v3] X) : Ev g mX12_likes d n0 nf post n 13 [some (.ref 133), some (.int v1), some (.int v2), some (.int v3), none] [.int s0] X := by
  refine ev_ifF (tgt := 26) dX12_likes_13 (by decide) c0 ?_
  refine ev_iload_n dX12_likes_16 rfl ?_
  refine ev_iconst (v := 0) dX12_likes_17 ki_0 ?_
  refine ev_bipush (v := 9) dX12_likes_18 kb_9 ?_
  exact k
theorem bX12_likes_13_1 {g : GG} {d n0 nf : Nat} {post : Option Value → LX → Prop} {n : Nat} {X : LX} (hn : 146 ≤ nf) (hX : Sh nf X) {v1 : Int32} {v2 : Int32} {v3 : Int32} {s0 : Int32} (c0 : s0 = 0) (hp : post (some (.int (-1000000001))) X) : Ev g mX12_likes d n0 nf post nf 13 [some (.ref 133), some (.int v1), some (.int v2), some (.int v3), none] [.int s0] X := by
  refine ev_ifT (tgt := 26) dX12_likes_13 (by decide) c0 ?_
  refine ev_ldc (v := (-1000000001)) dX12_likes_26 kw_12_57 ?_
  exact ev_iret dX12_likes_28 rfl rfl hp
theorem bX12_likes_23_0 {g : GG} {d n0 nf : Nat} {post : Option Value → LX → Prop} {n : Nat} {X : LX} (hn : 146 ≤ nf) (hX : Sh nf X) {v1 : Int32} {v2 : Int32} {v3 : Int32} {s0 : Int32} (c0 : s0 = 0) (hp : post (some (.int (-1000000001))) X) : Ev g mX12_likes d n0 nf post nf 23 [some (.ref 133), some (.int v1), some (.int v2), some (.int v3), none] [.int s0] X := by
  refine ev_ifF (tgt := 29) dX12_likes_23 (by decide) c0 ?_
  refine ev_ldc (v := (-1000000001)) dX12_likes_26 kw_12_57 ?_
  exact ev_iret dX12_likes_28 rfl rfl hp
theorem bX12_likes_23_1 {g : GG} {d n0 nf : Nat} {post : Option Value → LX → Prop} {n : Nat} {X : LX} (hn : 146 ≤ n) (hX : Sh n X) {v1 : Int32} {v2 : Int32} {v3 : Int32} {s0 : Int32} (c0 : ¬ s0 = 0) (k : Ev g mX12_likes d n0 nf post n 37 [some (.ref 133), some (.int v1), some (.int v2), some (.int v3), none] [.int (5 + v2), .int v1, .ref 134] X) : Ev g mX12_likes d n0 nf post n 23 [some (.ref 133), some (.int v1), some (.int v2), some (.int v3), none] [.int s0] X := by
  refine ev_ifT (tgt := 29) dX12_likes_23 (by decide) c0 ?_
  refine ev_aload_n dX12_likes_29 rfl ?_
  refine ev_getS (q := 134) dX12_likes_30 fo_12_9 (by omega) lo_133 rfl (sh_133_0 hX (by omega)) (by decide) ?_
  refine ev_iload_n dX12_likes_33 rfl ?_
  refine ev_iconst (v := 5) dX12_likes_34 ki_5 ?_
  refine ev_iload_n dX12_likes_35 rfl ?_
  refine ev_iadd dX12_likes_36 ?_
  exact k
theorem bX12_likes_40_0 {g : GG} {d n0 nf : Nat} {post : Option Value → LX → Prop} {n : Nat} {X : LX} (hn : 146 ≤ n) (hX : Sh n X) {v1 : Int32} {v2 : Int32} {v3 : Int32} {s1 : Nat} (b0 : s1 < 2156) (k : Ev g mX12_likes d n0 nf post n 51 [some (.ref 133), some (.int v1), some (.int v2), some (.int v3), some (.int (X 134 s1))] [.int (5 + v2), .int v1, .ref 134] X) : Ev g mX12_likes d n0 nf post n 40 [some (.ref 133), some (.int v1), some (.int v2), some (.int v3), none] [.int (nI s1), .ref 134] X := by
  refine ev_iald dX12_likes_40 (by omega) ly_134 rfl b0 ?_
  refine ev_istore dX12_likes_41 (by decide) ?_
  refine ev_aload_n dX12_likes_43 rfl ?_
  refine ev_getS (q := 134) dX12_likes_44 fo_12_9 (by omega) lo_133 rfl (sh_133_0 hX (by omega)) (by decide) ?_
  refine ev_iload_n dX12_likes_47 rfl ?_
  refine ev_iconst (v := 5) dX12_likes_48 ki_5 ?_
  refine ev_iload_n dX12_likes_49 rfl ?_
  refine ev_iadd dX12_likes_50 ?_
  exact k
theorem bX12_likes_54_0 {g : GG} {d n0 nf : Nat} {post : Option Value → LX → Prop} {n : Nat} {X : LX} (hn : 146 ≤ nf) (hX : Sh nf X) {v1 : Int32} {v2 : Int32} {v3 : Int32} {v4 : Int32} {s1 : Nat} (b0 : s1 < 2156) (hp : post (some (.int v4)) (lx_up X 134 s1 v3)) : Ev g mX12_likes d n0 nf post nf 54 [some (.ref 133), some (.int v1), some (.int v2), some (.int v3), some (.int v4)] [.int (nI s1), .ref 134] X := by
  refine ev_iload_n dX12_likes_54 rfl ?_
  refine ev_iast dX12_likes_55 (by omega) ly_134 rfl b0 ?_
  have hX1 : Sh _ (lx_up X 134 s1 v3) := Sh.upA hX (by rw [ly_134]; exact (by decide : 0 < 2))
  refine ev_iload dX12_likes_56 rfl ?_
  exact ev_iret dX12_likes_58 rfl rfl hp
theorem bX12_lay_0_0 {g : GG} {d n0 nf : Nat} {post : Option Value → LX → Prop} {n : Nat} {X : LX} (hn : 146 ≤ n) (hX : Sh n X) {v1 : Int32} {v2 : Int32} (k : Ev g mX12_lay d n0 nf post n 2 [some (.ref 133), some (.int v1), some (.int v2), none, none, none] [.int v1, .ref 133] X) : Ev g mX12_lay d n0 nf post n 0 [some (.ref 133), some (.int v1), some (.int v2), none, none, none] [] X := by
  refine ev_aload_n dX12_lay_0 rfl ?_
  refine ev_iload_n dX12_lay_1 rfl ?_
  exact k
theorem bX12_lay_5_0 {g : GG} {d n0 nf : Nat} {post : Option Value → LX → Prop} {n : Nat} {X : LX} (hn : 146 ≤ n) (hX : Sh n X) {v1 : Int32} {v2 : Int32} {s0 : Int32} (c0 : ¬ s0 = 0) (k : Ev g mX12_lay d n0 nf post n 11 [some (.ref 133), some (.int v1), some (.int v2), none, none, none] [.int 1, .int 0, .int v2] X) : Ev g mX12_lay d n0 nf post n 5 [some (.ref 133), some (.int v1), some (.int v2), none, none, none] [.int s0] X := by
  refine ev_ifF (tgt := 17) dX12_lay_5 (by decide) c0 ?_
  refine ev_iload_n dX12_lay_8 rfl ?_
  refine ev_iconst (v := 0) dX12_lay_9 ki_0 ?_
  refine ev_iconst (v := 1) dX12_lay_10 ki_1 ?_
  exact k
theorem bX12_lay_5_1 {g : GG} {d n0 nf : Nat} {post : Option Value → LX → Prop} {n : Nat} {X : LX} (hn : 146 ≤ nf) (hX : Sh nf X) {v1 : Int32} {v2 : Int32} {s0 : Int32} (c0 : s0 = 0) (hp : post (some (.int (-1000000001))) X) : Ev g mX12_lay d n0 nf post nf 5 [some (.ref 133), some (.int v1), some (.int v2), none, none, none] [.int s0] X := by
  refine ev_ifT (tgt := 17) dX12_lay_5 (by decide) c0 ?_
  refine ev_ldc (v := (-1000000001)) dX12_lay_17 kw_12_57 ?_
  exact ev_iret dX12_lay_19 rfl rfl hp
theorem bX12_lay_14_0 {g : GG} {d n0 nf : Nat} {post : Option Value → LX → Prop} {n : Nat} {X : LX} (hn : 146 ≤ nf) (hX : Sh nf X) {v1 : Int32} {v2 : Nat} {s0 : Int32} (c0 : s0 = 0) (hp : post (some (.int (-1000000001))) X) : Ev g mX12_lay d n0 nf post nf 14 [some (.ref 133), some (.int v1), some (.int (nI v2)), none, none, none] [.int s0] X := by
  refine ev_ifF (tgt := 20) dX12_lay_14 (by decide) c0 ?_
  refine ev_ldc (v := (-1000000001)) dX12_lay_17 kw_12_57 ?_
  exact ev_iret dX12_lay_19 rfl rfl hp
theorem bX12_lay_14_1 {g : GG} {d n0 nf : Nat} {post : Option Value → LX → Prop} {n : Nat} {X : LX} (hn : 146 ≤ nf) (hX : Sh nf X) {v1 : Int32} {v2 : Nat} {s0 : Int32} (c0 : ¬ s0 = 0) (b0 : v2 < 2) (c1 : ¬ 0 ≤ X 138 v2) (hp : post (some (.int (-1000000011))) X) : Ev g mX12_lay d n0 nf post nf 14 [some (.ref 133), some (.int v1), some (.int (nI v2)), none, none, none] [.int s0] X := by
  refine ev_ifT (tgt := 20) dX12_lay_14 (by decide) c0 ?_
  refine ev_aload_n dX12_lay_20 rfl ?_
  refine ev_getS (q := 138) dX12_lay_21 fo_12_22 (by omega) lo_133 rfl (sh_133_7 hX (by omega)) (by decide) ?_
  refine ev_iload_n dX12_lay_24 rfl ?_
  refine ev_iald dX12_lay_25 (by omega) ly_138 rfl b0 ?_
  refine ev_ifF (tgt := 32) dX12_lay_26 (by decide) c1 ?_
  refine ev_ldc (v := (-1000000011)) dX12_lay_29 kw_12_105 ?_
  exact ev_iret dX12_lay_31 rfl rfl hp
theorem bX12_lay_14_2 {g : GG} {d n0 nf : Nat} {post : Option Value → LX → Prop} {n : Nat} {X : LX} (hn : 146 ≤ n) (hX : Sh n X) {v1 : Int32} {v2 : Nat} {s0 : Int32} (c0 : ¬ s0 = 0) (b0 : v2 < 2) (c1 : 0 ≤ X 138 v2) (k : Ev g mX12_lay d n0 nf post n 37 [some (.ref 133), some (.int v1), some (.int (nI v2)), some (.int 0), some (.int 0), none] [] X) : Ev g mX12_lay d n0 nf post n 14 [some (.ref 133), some (.int v1), some (.int (nI v2)), none, none, none] [.int s0] X := by
  refine ev_ifT (tgt := 20) dX12_lay_14 (by decide) c0 ?_
  refine ev_aload_n dX12_lay_20 rfl ?_
  refine ev_getS (q := 138) dX12_lay_21 fo_12_22 (by omega) lo_133 rfl (sh_133_7 hX (by omega)) (by decide) ?_
  refine ev_iload_n dX12_lay_24 rfl ?_
  refine ev_iald dX12_lay_25 (by omega) ly_138 rfl b0 ?_
  refine ev_ifT (tgt := 32) dX12_lay_26 (by decide) c1 ?_
  refine ev_iconst (v := 0) dX12_lay_32 ki_0 ?_
  refine ev_istore_n dX12_lay_33 (by decide) ?_
  refine ev_iconst (v := 0) dX12_lay_34 ki_0 ?_
  refine ev_istore dX12_lay_35 (by decide) ?_
  exact k
theorem bX12_lay_37_0 {g : GG} {d n0 nf : Nat} {post : Option Value → LX → Prop} {n : Nat} {X : LX} (hn : 146 ≤ n) (hX : Sh n X) {v1 : Int32} {v2 : Nat} {v3 : Int32} {v4 : Int32} {j1 : Nat} (c0 : ¬ X 134 5 ≤ v4) (b0 : v2 < 2) (c1 : ¬ X 138 v2 ≤ v4) (hj1 : (16 * (nI v2)) + v4 = nI j1) (b1 : j1 < 32) (k : Ev g mX12_lay d n0 nf post n 78 [some (.ref 133), some (.int v1), some (.int (nI v2)), some (.int v3), some (.int v4), some (.int (X 139 j1))] [.int 9, .int 0, .int (X 139 j1)] X) : Ev g mX12_lay d n0 nf post n 37 [some (.ref 133), some (.int v1), some (.int (nI v2)), some (.int v3), some (.int v4), none] [] X := by
  refine ev_iload dX12_lay_37 rfl ?_
  refine ev_aload_n dX12_lay_39 rfl ?_
  refine ev_getS (q := 134) dX12_lay_40 fo_12_9 (by omega) lo_133 rfl (sh_133_0 hX (by omega)) (by decide) ?_
  refine ev_iconst (v := 5) dX12_lay_43 ki_5 ?_
  refine ev_iald dX12_lay_44 (by omega) ly_134 nIl_5 (by decide) ?_
  refine ev_icmpF (tgt := 108) dX12_lay_45 (by decide) c0 ?_
  refine ev_iload dX12_lay_48 rfl ?_
  refine ev_aload_n dX12_lay_50 rfl ?_
  refine ev_getS (q := 138) dX12_lay_51 fo_12_22 (by omega) lo_133 rfl (sh_133_7 hX (by omega)) (by decide) ?_
  refine ev_iload_n dX12_lay_54 rfl ?_
  refine ev_iald dX12_lay_55 (by omega) ly_138 rfl b0 ?_
  refine ev_icmpF (tgt := 108) dX12_lay_56 (by decide) c1 ?_
  refine ev_aload_n dX12_lay_59 rfl ?_
  refine ev_getS (q := 139) dX12_lay_60 fo_12_25 (by omega) lo_133 rfl (sh_133_8 hX (by omega)) (by decide) ?_
  refine ev_bipush (v := 16) dX12_lay_63 kb_16 ?_
  refine ev_iload_n dX12_lay_65 rfl ?_
  refine ev_imul dX12_lay_66 ?_
  refine ev_iload dX12_lay_67 rfl ?_
  refine ev_iadd dX12_lay_69 ?_
  refine ev_iald dX12_lay_70 (by omega) ly_139 hj1 b1 ?_
  refine ev_istore dX12_lay_71 (by decide) ?_
  refine ev_iload dX12_lay_73 rfl ?_
  refine ev_iconst (v := 0) dX12_lay_75 ki_0 ?_
  refine ev_bipush (v := 9) dX12_lay_76 kb_9 ?_
  exact k
theorem bX12_lay_37_1 {g : GG} {d n0 nf : Nat} {post : Option Value → LX → Prop} {n : Nat} {X : LX} (hn : 146 ≤ nf) (hX : Sh nf X) {v1 : Int32} {v2 : Nat} {v3 : Int32} {v4 : Int32} (c0 : ¬ X 134 5 ≤ v4) (b0 : v2 < 2) (c1 : X 138 v2 ≤ v4) (hp : post (some (.int v3)) X) : Ev g mX12_lay d n0 nf post nf 37 [some (.ref 133), some (.int v1), some (.int (nI v2)), some (.int v3), some (.int v4), none] [] X := by
  refine ev_iload dX12_lay_37 rfl ?_
  refine ev_aload_n dX12_lay_39 rfl ?_
  refine ev_getS (q := 134) dX12_lay_40 fo_12_9 (by omega) lo_133 rfl (sh_133_0 hX (by omega)) (by decide) ?_
  refine ev_iconst (v := 5) dX12_lay_43 ki_5 ?_
  refine ev_iald dX12_lay_44 (by omega) ly_134 nIl_5 (by decide) ?_
  refine ev_icmpF (tgt := 108) dX12_lay_45 (by decide) c0 ?_
  refine ev_iload dX12_lay_48 rfl ?_
  refine ev_aload_n dX12_lay_50 rfl ?_
  refine ev_getS (q := 138) dX12_lay_51 fo_12_22 (by omega) lo_133 rfl (sh_133_7 hX (by omega)) (by decide) ?_
  refine ev_iload_n dX12_lay_54 rfl ?_
  refine ev_iald dX12_lay_55 (by omega) ly_138 rfl b0 ?_
  refine ev_icmpT (tgt := 108) dX12_lay_56 (by decide) c1 ?_
  refine ev_iload_n dX12_lay_108 rfl ?_
  exact ev_iret dX12_lay_109 rfl rfl hp
theorem bX12_lay_37_2 {g : GG} {d n0 nf : Nat} {post : Option Value → LX → Prop} {n : Nat} {X : LX} (hn : 146 ≤ nf) (hX : Sh nf X) {v1 : Int32} {v2 : Nat} {v3 : Int32} {v4 : Int32} (c0 : X 134 5 ≤ v4) (hp : post (some (.int v3)) X) : Ev g mX12_lay d n0 nf post nf 37 [some (.ref 133), some (.int v1), some (.int (nI v2)), some (.int v3), some (.int v4), none] [] X := by
  refine ev_iload dX12_lay_37 rfl ?_
  refine ev_aload_n dX12_lay_39 rfl ?_
  refine ev_getS (q := 134) dX12_lay_40 fo_12_9 (by omega) lo_133 rfl (sh_133_0 hX (by omega)) (by decide) ?_
  refine ev_iconst (v := 5) dX12_lay_43 ki_5 ?_
  refine ev_iald dX12_lay_44 (by omega) ly_134 nIl_5 (by decide) ?_
  refine ev_icmpT (tgt := 108) dX12_lay_45 (by decide) c0 ?_
  refine ev_iload_n dX12_lay_108 rfl ?_
  exact ev_iret dX12_lay_109 rfl rfl hp
theorem bX12_lay_81_0 {g : GG} {d n0 nf : Nat} {post : Option Value → LX → Prop} {n : Nat} {X : LX} (hn : 146 ≤ n) (hX : Sh n X) {v1 : Int32} {v2 : Int32} {v3 : Int32} {v4 : Int32} {v5 : Int32} {s0 : Int32} (c0 : ¬ s0 = 0) (k : Ev g mX12_lay d n0 nf post n 93 [some (.ref 133), some (.int v1), some (.int v2), some (.int v3), some (.int v4), some (.int v5)] [.int (5 + v4), .int v1, .ref 134] X) : Ev g mX12_lay d n0 nf post n 81 [some (.ref 133), some (.int v1), some (.int v2), some (.int v3), some (.int v4), some (.int v5)] [.int s0] X := by
  refine ev_ifF (tgt := 102) dX12_lay_81 (by decide) c0 ?_
  refine ev_aload_n dX12_lay_84 rfl ?_
  refine ev_getS (q := 134) dX12_lay_85 fo_12_9 (by omega) lo_133 rfl (sh_133_0 hX (by omega)) (by decide) ?_
  refine ev_iload_n dX12_lay_88 rfl ?_
  refine ev_iconst (v := 5) dX12_lay_89 ki_5 ?_
  refine ev_iload dX12_lay_90 rfl ?_
  refine ev_iadd dX12_lay_92 ?_
  exact k
theorem bX12_lay_81_1 {g : GG} {d n0 nf : Nat} {post : Option Value → LX → Prop} {n : Nat} {X : LX} (hn : 146 ≤ n) (hX : Sh n X) {v1 : Int32} {v2 : Int32} {v3 : Int32} {v4 : Int32} {v5 : Int32} {s0 : Int32} (c0 : s0 = 0) (k : Ev g mX12_lay d n0 nf post n 37 [some (.ref 133), some (.int v1), some (.int v2), some (.int v3), some (.int (v4 + 1)), some (.int v5)] [] X) : Ev g mX12_lay d n0 nf post n 81 [some (.ref 133), some (.int v1), some (.int v2), some (.int v3), some (.int v4), some (.int v5)] [.int s0] X := by
  refine ev_ifT (tgt := 102) dX12_lay_81 (by decide) c0 ?_
  refine ev_iinc (v := v4 + 1) dX12_lay_102 rfl (by rw [show Int32.ofInt 1 = 1 from ki_1]) (by decide) ?_
  refine ev_goto (tgt := 37) dX12_lay_105 (by decide) ?_
  exact k
theorem bX12_lay_96_0 {g : GG} {d n0 nf : Nat} {post : Option Value → LX → Prop} {n : Nat} {X : LX} (hn : 146 ≤ n) (hX : Sh n X) {v1 : Int32} {v2 : Int32} {v3 : Int32} {v4 : Int32} {v5 : Int32} {s1 : Nat} (b0 : s1 < 2156) (k : Ev g mX12_lay d n0 nf post n 37 [some (.ref 133), some (.int v1), some (.int v2), some (.int (v3 + 1)), some (.int (v4 + 1)), some (.int v5)] [] (lx_up X 134 s1 v5)) : Ev g mX12_lay d n0 nf post n 96 [some (.ref 133), some (.int v1), some (.int v2), some (.int v3), some (.int v4), some (.int v5)] [.int (nI s1), .ref 134] X := by
  refine ev_iload dX12_lay_96 rfl ?_
  refine ev_iast dX12_lay_98 (by omega) ly_134 rfl b0 ?_
  have hX1 : Sh _ (lx_up X 134 s1 v5) := Sh.upA hX (by rw [ly_134]; exact (by decide : 0 < 2))
  refine ev_iinc (v := v3 + 1) dX12_lay_99 rfl (by rw [show Int32.ofInt 1 = 1 from ki_1]) (by decide) ?_
  refine ev_iinc (v := v4 + 1) dX12_lay_102 rfl (by rw [show Int32.ofInt 1 = 1 from ki_1]) (by decide) ?_
  refine ev_goto (tgt := 37) dX12_lay_105 (by decide) ?_
  exact k
theorem bX12_mayEat_0_0 {g : GG} {d n0 nf : Nat} {post : Option Value → LX → Prop} {n : Nat} {X : LX} (hn : 146 ≤ n) (hX : Sh n X) {v1 : Int32} {v2 : Int32} (k : Ev g mX12_mayEat d n0 nf post n 2 [some (.ref 133), some (.int v1), some (.int v2)] [.int v2, .ref 133] X) : Ev g mX12_mayEat d n0 nf post n 0 [some (.ref 133), some (.int v1), some (.int v2)] [] X := by
  refine ev_aload_n dX12_mayEat_0 rfl ?_
  refine ev_iload_n dX12_mayEat_1 rfl ?_
  exact k
theorem bX12_mayEat_5_0 {g : GG} {d n0 nf : Nat} {post : Option Value → LX → Prop} {n : Nat} {X : LX} (hn : 146 ≤ n) (hX : Sh n X) {v1 : Int32} {v2 : Int32} {s0 : Int32} (k : Ev g mX12_mayEat d n0 nf post n 11 [some (.ref 133), some (.int v1), some (.int v2)] [.int 0, .int v1, .ref 134, .int s0] X) : Ev g mX12_mayEat d n0 nf post n 5 [some (.ref 133), some (.int v1), some (.int v2)] [.int s0] X := by
  refine ev_aload_n dX12_mayEat_5 rfl ?_
  refine ev_getS (q := 134) dX12_mayEat_6 fo_12_9 (by omega) lo_133 rfl (sh_133_0 hX (by omega)) (by decide) ?_
  refine ev_iload_n dX12_mayEat_9 rfl ?_
  refine ev_iconst (v := 0) dX12_mayEat_10 ki_0 ?_
  exact k
theorem bX12_mayEat_14_0 {g : GG} {d n0 nf : Nat} {post : Option Value → LX → Prop} {n : Nat} {X : LX} (hn : 146 ≤ n) (hX : Sh n X) {v1 : Int32} {v2 : Int32} {s0 : Int32} {s2 : Nat} (b0 : s2 < 2156) (c0 : s0 &&& (X 134 s2) = 0) (k : Ev g mX12_mayEat d n0 nf post n 25 [some (.ref 133), some (.int v1), some (.int v2)] [.int 2, .int v1, .ref 134] X) : Ev g mX12_mayEat d n0 nf post n 14 [some (.ref 133), some (.int v1), some (.int v2)] [.int (nI s2), .ref 134, .int s0] X := by
  refine ev_iald dX12_mayEat_14 (by omega) ly_134 rfl b0 ?_
  refine ev_iand dX12_mayEat_15 ?_
  refine ev_ifF (tgt := 44) dX12_mayEat_16 (by decide) c0 ?_
  refine ev_aload_n dX12_mayEat_19 rfl ?_
  refine ev_getS (q := 134) dX12_mayEat_20 fo_12_9 (by omega) lo_133 rfl (sh_133_0 hX (by omega)) (by decide) ?_
  refine ev_iload_n dX12_mayEat_23 rfl ?_
  refine ev_iconst (v := 2) dX12_mayEat_24 ki_2 ?_
  exact k
theorem bX12_mayEat_14_1 {g : GG} {d n0 nf : Nat} {post : Option Value → LX → Prop} {n : Nat} {X : LX} (hn : 146 ≤ nf) (hX : Sh nf X) {v1 : Int32} {v2 : Int32} {s0 : Int32} {s2 : Nat} (b0 : s2 < 2156) (c0 : ¬ s0 &&& (X 134 s2) = 0) (hp : post (some (.int 0)) X) : Ev g mX12_mayEat d n0 nf post nf 14 [some (.ref 133), some (.int v1), some (.int v2)] [.int (nI s2), .ref 134, .int s0] X := by
  refine ev_iald dX12_mayEat_14 (by omega) ly_134 rfl b0 ?_
  refine ev_iand dX12_mayEat_15 ?_
  refine ev_ifT (tgt := 44) dX12_mayEat_16 (by decide) c0 ?_
  refine ev_iconst (v := 0) dX12_mayEat_44 ki_0 ?_
  exact ev_iret dX12_mayEat_45 rfl (by decide) hp
theorem bX12_mayEat_28_0 {g : GG} {d n0 nf : Nat} {post : Option Value → LX → Prop} {n : Nat} {X : LX} (hn : 146 ≤ n) (hX : Sh n X) {v1 : Int32} {v2 : Int32} {s1 : Nat} (b0 : s1 < 2156) (c0 : ¬ X 134 s1 = 0) (k : Ev g mX12_mayEat d n0 nf post n 34 [some (.ref 133), some (.int v1), some (.int v2)] [.int v2, .ref 133] X) : Ev g mX12_mayEat d n0 nf post n 28 [some (.ref 133), some (.int v1), some (.int v2)] [.int (nI s1), .ref 134] X := by
  refine ev_iald dX12_mayEat_28 (by omega) ly_134 rfl b0 ?_
  refine ev_ifF (tgt := 40) dX12_mayEat_29 (by decide) c0 ?_
  refine ev_aload_n dX12_mayEat_32 rfl ?_
  refine ev_iload_n dX12_mayEat_33 rfl ?_
  exact k
theorem bX12_mayEat_28_1 {g : GG} {d n0 nf : Nat} {post : Option Value → LX → Prop} {n : Nat} {X : LX} (hn : 146 ≤ nf) (hX : Sh nf X) {v1 : Int32} {v2 : Int32} {s1 : Nat} (b0 : s1 < 2156) (c0 : X 134 s1 = 0) (hp : post (some (.int 1)) X) : Ev g mX12_mayEat d n0 nf post nf 28 [some (.ref 133), some (.int v1), some (.int v2)] [.int (nI s1), .ref 134] X := by
  refine ev_iald dX12_mayEat_28 (by omega) ly_134 rfl b0 ?_
  refine ev_ifT (tgt := 40) dX12_mayEat_29 (by decide) c0 ?_
  refine ev_iconst (v := 1) dX12_mayEat_40 ki_1 ?_
  refine ev_goto (tgt := 45) dX12_mayEat_41 (by decide) ?_
  exact ev_iret dX12_mayEat_45 rfl (by decide) hp
theorem bX12_mayEat_37_0 {g : GG} {d n0 nf : Nat} {post : Option Value → LX → Prop} {n : Nat} {X : LX} (hn : 146 ≤ nf) (hX : Sh nf X) {v1 : Int32} {v2 : Int32} {s0 : Int32} (c0 : ¬ s0 = 0) (hp : post (some (.int 1)) X) : Ev g mX12_mayEat d n0 nf post nf 37 [some (.ref 133), some (.int v1), some (.int v2)] [.int s0] X := by
  refine ev_ifF (tgt := 44) dX12_mayEat_37 (by decide) c0 ?_
  refine ev_iconst (v := 1) dX12_mayEat_40 ki_1 ?_
  refine ev_goto (tgt := 45) dX12_mayEat_41 (by decide) ?_
  exact ev_iret dX12_mayEat_45 rfl (by decide) hp
theorem bX12_mayEat_37_1 {g : GG} {d n0 nf : Nat} {post : Option Value → LX → Prop} {n : Nat} {X : LX} (hn : 146 ≤ nf) (hX : Sh nf X) {v1 : Int32} {v2 : Int32} {s0 : Int32} (c0 : s0 = 0) (hp : post (some (.int 0)) X) : Ev g mX12_mayEat d n0 nf post nf 37 [some (.ref 133), some (.int v1), some (.int v2)] [.int s0] X := by
  refine ev_ifT (tgt := 44) dX12_mayEat_37 (by decide) c0 ?_
  refine ev_iconst (v := 0) dX12_mayEat_44 ki_0 ?_
  exact ev_iret dX12_mayEat_45 rfl (by decide) hp
theorem bX12_may_0_0 {g : GG} {d n0 nf : Nat} {post : Option Value → LX → Prop} {n : Nat} {X : LX} (hn : 146 ≤ n) (hX : Sh n X) {v1 : Int32} {v2 : Int32} (k : Ev g mX12_may d n0 nf post n 2 [some (.ref 133), some (.int v1), some (.int v2)] [.int v1, .ref 133] X) : Ev g mX12_may d n0 nf post n 0 [some (.ref 133), some (.int v1), some (.int v2)] [] X := by
  refine ev_aload_n dX12_may_0 rfl ?_
  refine ev_iload_n dX12_may_1 rfl ?_
  exact k
theorem bX12_may_5_0 {g : GG} {d n0 nf : Nat} {post : Option Value → LX → Prop} {n : Nat} {X : LX} (hn : 146 ≤ n) (hX : Sh n X) {v1 : Int32} {v2 : Int32} {s0 : Int32} (c0 : ¬ s0 = 0) (k : Ev g mX12_may d n0 nf post n 10 [some (.ref 133), some (.int v1), some (.int v2)] [.int v2, .ref 133] X) : Ev g mX12_may d n0 nf post n 5 [some (.ref 133), some (.int v1), some (.int v2)] [.int s0] X := by
  refine ev_ifF (tgt := 16) dX12_may_5 (by decide) c0 ?_
  refine ev_aload_n dX12_may_8 rfl ?_
  refine ev_iload_n dX12_may_9 rfl ?_
  exact k
theorem bX12_may_5_1 {g : GG} {d n0 nf : Nat} {post : Option Value → LX → Prop} {n : Nat} {X : LX} (hn : 146 ≤ nf) (hX : Sh nf X) {v1 : Int32} {v2 : Int32} {s0 : Int32} (c0 : s0 = 0) (hp : post (some (.int (-1000000001))) X) : Ev g mX12_may d n0 nf post nf 5 [some (.ref 133), some (.int v1), some (.int v2)] [.int s0] X := by
  refine ev_ifT (tgt := 16) dX12_may_5 (by decide) c0 ?_
  refine ev_ldc (v := (-1000000001)) dX12_may_16 kw_12_57 ?_
  refine ev_goto (tgt := 35) dX12_may_18 (by decide) ?_
  exact ev_iret dX12_may_35 rfl rfl hp
theorem bX12_may_13_0 {g : GG} {d n0 nf : Nat} {post : Option Value → LX → Prop} {n : Nat} {X : LX} (hn : 146 ≤ nf) (hX : Sh nf X) {v1 : Int32} {v2 : Int32} {s0 : Int32} (c0 : s0 = 0) (hp : post (some (.int (-1000000001))) X) : Ev g mX12_may d n0 nf post nf 13 [some (.ref 133), some (.int v1), some (.int v2)] [.int s0] X := by
  refine ev_ifF (tgt := 21) dX12_may_13 (by decide) c0 ?_
  refine ev_ldc (v := (-1000000001)) dX12_may_16 kw_12_57 ?_
  refine ev_goto (tgt := 35) dX12_may_18 (by decide) ?_
  exact ev_iret dX12_may_35 rfl rfl hp
theorem bX12_may_13_1 {g : GG} {d n0 nf : Nat} {post : Option Value → LX → Prop} {n : Nat} {X : LX} (hn : 146 ≤ n) (hX : Sh n X) {v1 : Int32} {v2 : Int32} {s0 : Int32} (c0 : ¬ s0 = 0) (k : Ev g mX12_may d n0 nf post n 24 [some (.ref 133), some (.int v1), some (.int v2)] [.int v2, .int v1, .ref 133] X) : Ev g mX12_may d n0 nf post n 13 [some (.ref 133), some (.int v1), some (.int v2)] [.int s0] X := by
  refine ev_ifT (tgt := 21) dX12_may_13 (by decide) c0 ?_
  refine ev_aload_n dX12_may_21 rfl ?_
  refine ev_iload_n dX12_may_22 rfl ?_
  refine ev_iload_n dX12_may_23 rfl ?_
  exact k
theorem bX12_may_27_0 {g : GG} {d n0 nf : Nat} {post : Option Value → LX → Prop} {n : Nat} {X : LX} (hn : 146 ≤ nf) (hX : Sh nf X) {v1 : Int32} {v2 : Int32} {s0 : Int32} (c0 : ¬ s0 = 0) (hp : post (some (.int 1)) X) : Ev g mX12_may d n0 nf post nf 27 [some (.ref 133), some (.int v1), some (.int v2)] [.int s0] X := by
  refine ev_ifF (tgt := 34) dX12_may_27 (by decide) c0 ?_
  refine ev_iconst (v := 1) dX12_may_30 ki_1 ?_
  refine ev_goto (tgt := 35) dX12_may_31 (by decide) ?_
  exact ev_iret dX12_may_35 rfl rfl hp
theorem bX12_may_27_1 {g : GG} {d n0 nf : Nat} {post : Option Value → LX → Prop} {n : Nat} {X : LX} (hn : 146 ≤ nf) (hX : Sh nf X) {v1 : Int32} {v2 : Int32} {s0 : Int32} (c0 : s0 = 0) (hp : post (some (.int 0)) X) : Ev g mX12_may d n0 nf post nf 27 [some (.ref 133), some (.int v1), some (.int v2)] [.int s0] X := by
  refine ev_ifT (tgt := 34) dX12_may_27 (by decide) c0 ?_
  refine ev_iconst (v := 0) dX12_may_34 ki_0 ?_
  exact ev_iret dX12_may_35 rfl rfl hp
theorem bX12_choose_0_0 {g : GG} {d n0 nf : Nat} {post : Option Value → LX → Prop} {n : Nat} {X : LX} (hn : 146 ≤ n) (hX : Sh n X) {v1 : Int32} {v2 : Int32} (k : Ev g mX12_choose d n0 nf post n 2 [some (.ref 133), some (.int v1), some (.int v2), none, none] [.int v1, .ref 133] X) : Ev g mX12_choose d n0 nf post n 0 [some (.ref 133), some (.int v1), some (.int v2), none, none] [] X := by
  refine ev_aload_n dX12_choose_0 rfl ?_
  refine ev_iload_n dX12_choose_1 rfl ?_
  exact k
theorem bX12_choose_5_0 {g : GG} {d n0 nf : Nat} {post : Option Value → LX → Prop} {n : Nat} {X : LX} (hn : 146 ≤ n) (hX : Sh n X) {v1 : Int32} {v2 : Int32} {s0 : Int32} (c0 : ¬ s0 = 0) (c1 : ¬ v2 = (-1)) (c2 : ¬ v2 < 0) (c3 : v2 &&& ((X 134 8) ^^^ (-1)) = 0) (k : Ev g mX12_choose d n0 nf post n 32 [some (.ref 133), some (.int v1), some (.int v2), none, none] [.int v2] X) : Ev g mX12_choose d n0 nf post n 5 [some (.ref 133), some (.int v1), some (.int v2), none, none] [.int s0] X := by
  refine ev_ifF (tgt := 43) dX12_choose_5 (by decide) c0 ?_
  refine ev_iload_n dX12_choose_8 rfl ?_
  refine ev_iconst (v := (-1)) dX12_choose_9 ki_m1 ?_
  refine ev_icmpF (tgt := 39) dX12_choose_10 (by decide) c1 ?_
  refine ev_iload_n dX12_choose_13 rfl ?_
  refine ev_ifF (tgt := 43) dX12_choose_14 (by decide) c2 ?_
  refine ev_iload_n dX12_choose_17 rfl ?_
  refine ev_aload_n dX12_choose_18 rfl ?_
  refine ev_getS (q := 134) dX12_choose_19 fo_12_9 (by omega) lo_133 rfl (sh_133_0 hX (by omega)) (by decide) ?_
  refine ev_bipush (v := 8) dX12_choose_22 kb_8 ?_
  refine ev_iald dX12_choose_24 (by omega) ly_134 nIl_8 (by decide) ?_
  refine ev_iconst (v := (-1)) dX12_choose_25 ki_m1 ?_
  refine ev_ixor dX12_choose_26 ?_
  refine ev_iand dX12_choose_27 ?_
  refine ev_ifF (tgt := 43) dX12_choose_28 (by decide) c3 ?_
  refine ev_iload_n dX12_choose_31 rfl ?_
  exact k
theorem bX12_choose_5_1 {g : GG} {d n0 nf : Nat} {post : Option Value → LX → Prop} {n : Nat} {X : LX} (hn : 146 ≤ n) (hX : Sh n X) {v1 : Int32} {v2 : Int32} {s0 : Int32} (c0 : ¬ s0 = 0) (c1 : ¬ v2 = (-1)) (c2 : ¬ v2 < 0) (c3 : ¬ v2 &&& ((X 134 8) ^^^ (-1)) = 0) (k : Ev g mX12_choose d n0 nf post n 48 [some (.ref 133), some (.int v1), some (.int v2), some (.int 0), some (.int 0)] [] X) : Ev g mX12_choose d n0 nf post n 5 [some (.ref 133), some (.int v1), some (.int v2), none, none] [.int s0] X := by
  refine ev_ifF (tgt := 43) dX12_choose_5 (by decide) c0 ?_
  refine ev_iload_n dX12_choose_8 rfl ?_
  refine ev_iconst (v := (-1)) dX12_choose_9 ki_m1 ?_
  refine ev_icmpF (tgt := 39) dX12_choose_10 (by decide) c1 ?_
  refine ev_iload_n dX12_choose_13 rfl ?_
  refine ev_ifF (tgt := 43) dX12_choose_14 (by decide) c2 ?_
  refine ev_iload_n dX12_choose_17 rfl ?_
  refine ev_aload_n dX12_choose_18 rfl ?_
  refine ev_getS (q := 134) dX12_choose_19 fo_12_9 (by omega) lo_133 rfl (sh_133_0 hX (by omega)) (by decide) ?_
  refine ev_bipush (v := 8) dX12_choose_22 kb_8 ?_
  refine ev_iald dX12_choose_24 (by omega) ly_134 nIl_8 (by decide) ?_
  refine ev_iconst (v := (-1)) dX12_choose_25 ki_m1 ?_
  refine ev_ixor dX12_choose_26 ?_
  refine ev_iand dX12_choose_27 ?_
  refine ev_ifT (tgt := 43) dX12_choose_28 (by decide) c3 ?_
  refine ev_iconst (v := 0) dX12_choose_43 ki_0 ?_
  refine ev_istore_n dX12_choose_44 (by decide) ?_
  refine ev_iconst (v := 0) dX12_choose_45 ki_0 ?_
  refine ev_istore dX12_choose_46 (by decide) ?_
  exact k
theorem bX12_choose_5_2 {g : GG} {d n0 nf : Nat} {post : Option Value → LX → Prop} {n : Nat} {X : LX} (hn : 146 ≤ n) (hX : Sh n X) {v1 : Int32} {v2 : Int32} {s0 : Int32} (c0 : ¬ s0 = 0) (c1 : ¬ v2 = (-1)) (c2 : v2 < 0) (k : Ev g mX12_choose d n0 nf post n 48 [some (.ref 133), some (.int v1), some (.int v2), some (.int 0), some (.int 0)] [] X) : Ev g mX12_choose d n0 nf post n 5 [some (.ref 133), some (.int v1), some (.int v2), none, none] [.int s0] X := by
  refine ev_ifF (tgt := 43) dX12_choose_5 (by decide) c0 ?_
  refine ev_iload_n dX12_choose_8 rfl ?_
  refine ev_iconst (v := (-1)) dX12_choose_9 ki_m1 ?_
  refine ev_icmpF (tgt := 39) dX12_choose_10 (by decide) c1 ?_
  refine ev_iload_n dX12_choose_13 rfl ?_
  refine ev_ifT (tgt := 43) dX12_choose_14 (by decide) c2 ?_
  refine ev_iconst (v := 0) dX12_choose_43 ki_0 ?_
  refine ev_istore_n dX12_choose_44 (by decide) ?_
  refine ev_iconst (v := 0) dX12_choose_45 ki_0 ?_
  refine ev_istore dX12_choose_46 (by decide) ?_
  exact k
theorem bX12_choose_5_3 {g : GG} {d n0 nf : Nat} {post : Option Value → LX → Prop} {n : Nat} {X : LX} (hn : 146 ≤ n) (hX : Sh n X) {v1 : Int32} {v2 : Int32} {s0 : Int32} (c0 : ¬ s0 = 0) (c1 : v2 = (-1)) (k : Ev g mX12_choose d n0 nf post n 48 [some (.ref 133), some (.int v1), some (.int v2), some (.int 1), some (.int 0)] [] X) : Ev g mX12_choose d n0 nf post n 5 [some (.ref 133), some (.int v1), some (.int v2), none, none] [.int s0] X := by
  refine ev_ifF (tgt := 43) dX12_choose_5 (by decide) c0 ?_
  refine ev_iload_n dX12_choose_8 rfl ?_
  refine ev_iconst (v := (-1)) dX12_choose_9 ki_m1 ?_
  refine ev_icmpT (tgt := 39) dX12_choose_10 (by decide) c1 ?_
  refine ev_iconst (v := 1) dX12_choose_39 ki_1 ?_
  refine ev_goto (tgt := 44) dX12_choose_40 (by decide) ?_
  refine ev_istore_n dX12_choose_44 (by decide) ?_
  refine ev_iconst (v := 0) dX12_choose_45 ki_0 ?_
  refine ev_istore dX12_choose_46 (by decide) ?_
  exact k
theorem bX12_choose_5_4 {g : GG} {d n0 nf : Nat} {post : Option Value → LX → Prop} {n : Nat} {X : LX} (hn : 146 ≤ n) (hX : Sh n X) {v1 : Int32} {v2 : Int32} {s0 : Int32} (c0 : s0 = 0) (k : Ev g mX12_choose d n0 nf post n 48 [some (.ref 133), some (.int v1), some (.int v2), some (.int 0), some (.int 0)] [] X) : Ev g mX12_choose d n0 nf post n 5 [some (.ref 133), some (.int v1), some (.int v2), none, none] [.int s0] X := by
  refine ev_ifT (tgt := 43) dX12_choose_5 (by decide) c0 ?_
  refine ev_iconst (v := 0) dX12_choose_43 ki_0 ?_
  refine ev_istore_n dX12_choose_44 (by decide) ?_
  refine ev_iconst (v := 0) dX12_choose_45 ki_0 ?_
  refine ev_istore dX12_choose_46 (by decide) ?_
  exact k
theorem bX12_choose_35_0 {g : GG} {d n0 nf : Nat} {post : Option Value → LX → Prop} {n : Nat} {X : LX} (hn : 146 ≤ n) (hX : Sh n X) {v1 : Int32} {v2 : Int32} {s0 : Int32} (c0 : ¬ 2 < s0) (k : Ev g mX12_choose d n0 nf post n 48 [some (.ref 133), some (.int v1), some (.int v2), some (.int 1), some (.int 0)] [] X) : Ev g mX12_choose d n0 nf post n 35 [some (.ref 133), some (.int v1), some (.int v2), none, none] [.int s0] X := by
  refine ev_iconst (v := 2) dX12_choose_35 ki_2 ?_
  refine ev_icmpF (tgt := 43) dX12_choose_36 (by decide) c0 ?_
  refine ev_iconst (v := 1) dX12_choose_39 ki_1 ?_
  refine ev_goto (tgt := 44) dX12_choose_40 (by decide) ?_
  refine ev_istore_n dX12_choose_44 (by decide) ?_
  refine ev_iconst (v := 0) dX12_choose_45 ki_0 ?_
  refine ev_istore dX12_choose_46 (by decide) ?_
  exact k
theorem bX12_choose_35_1 {g : GG} {d n0 nf : Nat} {post : Option Value → LX → Prop} {n : Nat} {X : LX} (hn : 146 ≤ n) (hX : Sh n X) {v1 : Int32} {v2 : Int32} {s0 : Int32} (c0 : 2 < s0) (k : Ev g mX12_choose d n0 nf post n 48 [some (.ref 133), some (.int v1), some (.int v2), some (.int 0), some (.int 0)] [] X) : Ev g mX12_choose d n0 nf post n 35 [some (.ref 133), some (.int v1), some (.int v2), none, none] [.int s0] X := by
  refine ev_iconst (v := 2) dX12_choose_35 ki_2 ?_
  refine ev_icmpT (tgt := 43) dX12_choose_36 (by decide) c0 ?_
  refine ev_iconst (v := 0) dX12_choose_43 ki_0 ?_
  refine ev_istore_n dX12_choose_44 (by decide) ?_
  refine ev_iconst (v := 0) dX12_choose_45 ki_0 ?_
  refine ev_istore dX12_choose_46 (by decide) ?_
  exact k
theorem bX12_choose_48_0 {g : GG} {d n0 nf : Nat} {post : Option Value → LX → Prop} {n : Nat} {X : LX} (hn : 146 ≤ n) (hX : Sh n X) {v1 : Int32} {v2 : Int32} {v3 : Int32} {v4 : Int32} (c0 : ¬ 10 ≤ v4) (c1 : ¬ v3 = 0) (c2 : ¬ v2 < 0) (k : Ev g mX12_choose d n0 nf post n 66 [some (.ref 133), some (.int v1), some (.int v2), some (.int v3), some (.int v4)] [.int v4, .int v2] X) : Ev g mX12_choose d n0 nf post n 48 [some (.ref 133), some (.int v1), some (.int v2), some (.int v3), some (.int v4)] [] X := by
  refine ev_iload dX12_choose_48 rfl ?_
  refine ev_bipush (v := 10) dX12_choose_50 kb_10 ?_
  refine ev_icmpF (tgt := 94) dX12_choose_52 (by decide) c0 ?_
  refine ev_iload_n dX12_choose_55 rfl ?_
  refine ev_ifF (tgt := 94) dX12_choose_56 (by decide) c1 ?_
  refine ev_iload_n dX12_choose_59 rfl ?_
  refine ev_ifF (tgt := 94) dX12_choose_60 (by decide) c2 ?_
  refine ev_iload_n dX12_choose_63 rfl ?_
  refine ev_iload dX12_choose_64 rfl ?_
  exact k
theorem bX12_choose_48_1 {g : GG} {d n0 nf : Nat} {post : Option Value → LX → Prop} {n : Nat} {X : LX} (hn : 146 ≤ nf) (hX : Sh nf X) {v1 : Int32} {v2 : Int32} {v3 : Int32} {v4 : Int32} (c0 : ¬ 10 ≤ v4) (c1 : ¬ v3 = 0) (c2 : v2 < 0) (c3 : v3 = 0) (hp : post (some (.int (-1000000001))) X) : Ev g mX12_choose d n0 nf post nf 48 [some (.ref 133), some (.int v1), some (.int v2), some (.int v3), some (.int v4)] [] X := by
  refine ev_iload dX12_choose_48 rfl ?_
  refine ev_bipush (v := 10) dX12_choose_50 kb_10 ?_
  refine ev_icmpF (tgt := 94) dX12_choose_52 (by decide) c0 ?_
  refine ev_iload_n dX12_choose_55 rfl ?_
  refine ev_ifF (tgt := 94) dX12_choose_56 (by decide) c1 ?_
  refine ev_iload_n dX12_choose_59 rfl ?_
  refine ev_ifT (tgt := 94) dX12_choose_60 (by decide) c2 ?_
  refine ev_iload_n dX12_choose_94 rfl ?_
  refine ev_ifF (tgt := 101) dX12_choose_95 (by decide) c3 ?_
  refine ev_ldc (v := (-1000000001)) dX12_choose_98 kw_12_57 ?_
  exact ev_iret dX12_choose_100 rfl rfl hp
theorem bX12_choose_48_2 {g : GG} {d n0 nf : Nat} {post : Option Value → LX → Prop} {n : Nat} {X : LX} (hn : 146 ≤ nf) (hX : Sh nf X) {v1 : Int32} {v2 : Int32} {v3 : Int32} {v4 : Int32} (c0 : ¬ 10 ≤ v4) (c1 : ¬ v3 = 0) (c2 : v2 < 0) (c3 : ¬ v3 = 0) (c4 : X 134 3 = 1) (hp : post (some (.int (-1000000002))) X) : Ev g mX12_choose d n0 nf post nf 48 [some (.ref 133), some (.int v1), some (.int v2), some (.int v3), some (.int v4)] [] X := by
  refine ev_iload dX12_choose_48 rfl ?_
  refine ev_bipush (v := 10) dX12_choose_50 kb_10 ?_
  refine ev_icmpF (tgt := 94) dX12_choose_52 (by decide) c0 ?_
  refine ev_iload_n dX12_choose_55 rfl ?_
  refine ev_ifF (tgt := 94) dX12_choose_56 (by decide) c1 ?_
  refine ev_iload_n dX12_choose_59 rfl ?_
  refine ev_ifT (tgt := 94) dX12_choose_60 (by decide) c2 ?_
  refine ev_iload_n dX12_choose_94 rfl ?_
  refine ev_ifT (tgt := 101) dX12_choose_95 (by decide) c3 ?_
  refine ev_aload_n dX12_choose_101 rfl ?_
  refine ev_getS (q := 134) dX12_choose_102 fo_12_9 (by omega) lo_133 rfl (sh_133_0 hX (by omega)) (by decide) ?_
  refine ev_iconst (v := 3) dX12_choose_105 ki_3 ?_
  refine ev_iald dX12_choose_106 (by omega) ly_134 nIl_3 (by decide) ?_
  refine ev_iconst (v := 1) dX12_choose_107 ki_1 ?_
  refine ev_icmpF (tgt := 114) dX12_choose_108 (by decide) c4 ?_
  refine ev_ldc (v := (-1000000002)) dX12_choose_111 kw_12_80 ?_
  exact ev_iret dX12_choose_113 rfl rfl hp
theorem bX12_choose_48_3 {g : GG} {d n0 nf : Nat} {post : Option Value → LX → Prop} {n : Nat} {X : LX} (hn : 146 ≤ n) (hX : Sh n X) {v1 : Int32} {v2 : Int32} {v3 : Int32} {v4 : Int32} (c0 : ¬ 10 ≤ v4) (c1 : ¬ v3 = 0) (c2 : v2 < 0) (c3 : ¬ v3 = 0) (c4 : ¬ X 134 3 = 1) (k : Ev g mX12_choose d n0 nf post n 120 [some (.ref 133), some (.int v1), some (.int v2), some (.int v3), some (.int v4)] [.int 4, .int v1, .ref 134] X) : Ev g mX12_choose d n0 nf post n 48 [some (.ref 133), some (.int v1), some (.int v2), some (.int v3), some (.int v4)] [] X := by
  refine ev_iload dX12_choose_48 rfl ?_
  refine ev_bipush (v := 10) dX12_choose_50 kb_10 ?_
  refine ev_icmpF (tgt := 94) dX12_choose_52 (by decide) c0 ?_
  refine ev_iload_n dX12_choose_55 rfl ?_
  refine ev_ifF (tgt := 94) dX12_choose_56 (by decide) c1 ?_
  refine ev_iload_n dX12_choose_59 rfl ?_
  refine ev_ifT (tgt := 94) dX12_choose_60 (by decide) c2 ?_
  refine ev_iload_n dX12_choose_94 rfl ?_
  refine ev_ifT (tgt := 101) dX12_choose_95 (by decide) c3 ?_
  refine ev_aload_n dX12_choose_101 rfl ?_
  refine ev_getS (q := 134) dX12_choose_102 fo_12_9 (by omega) lo_133 rfl (sh_133_0 hX (by omega)) (by decide) ?_
  refine ev_iconst (v := 3) dX12_choose_105 ki_3 ?_
  refine ev_iald dX12_choose_106 (by omega) ly_134 nIl_3 (by decide) ?_
  refine ev_iconst (v := 1) dX12_choose_107 ki_1 ?_
  refine ev_icmpT (tgt := 114) dX12_choose_108 (by decide) c4 ?_
  refine ev_aload_n dX12_choose_114 rfl ?_
  refine ev_getS (q := 134) dX12_choose_115 fo_12_9 (by omega) lo_133 rfl (sh_133_0 hX (by omega)) (by decide) ?_
  refine ev_iload_n dX12_choose_118 rfl ?_
  refine ev_iconst (v := 4) dX12_choose_119 ki_4 ?_
  exact k
theorem bX12_choose_48_4 {g : GG} {d n0 nf : Nat} {post : Option Value → LX → Prop} {n : Nat} {X : LX} (hn : 146 ≤ nf) (hX : Sh nf X) {v1 : Int32} {v2 : Int32} {v3 : Int32} {v4 : Int32} (c0 : ¬ 10 ≤ v4) (c1 : v3 = 0) (c2 : v3 = 0) (hp : post (some (.int (-1000000001))) X) : Ev g mX12_choose d n0 nf post nf 48 [some (.ref 133), some (.int v1), some (.int v2), some (.int v3), some (.int v4)] [] X := by
  refine ev_iload dX12_choose_48 rfl ?_
  refine ev_bipush (v := 10) dX12_choose_50 kb_10 ?_
  refine ev_icmpF (tgt := 94) dX12_choose_52 (by decide) c0 ?_
  refine ev_iload_n dX12_choose_55 rfl ?_
  refine ev_ifT (tgt := 94) dX12_choose_56 (by decide) c1 ?_
  refine ev_iload_n dX12_choose_94 rfl ?_
  refine ev_ifF (tgt := 101) dX12_choose_95 (by decide) c2 ?_
  refine ev_ldc (v := (-1000000001)) dX12_choose_98 kw_12_57 ?_
  exact ev_iret dX12_choose_100 rfl rfl hp
theorem bX12_choose_48_5 {g : GG} {d n0 nf : Nat} {post : Option Value → LX → Prop} {n : Nat} {X : LX} (hn : 146 ≤ nf) (hX : Sh nf X) {v1 : Int32} {v2 : Int32} {v3 : Int32} {v4 : Int32} (c0 : ¬ 10 ≤ v4) (c1 : v3 = 0) (c2 : ¬ v3 = 0) (c3 : X 134 3 = 1) (hp : post (some (.int (-1000000002))) X) : Ev g mX12_choose d n0 nf post nf 48 [some (.ref 133), some (.int v1), some (.int v2), some (.int v3), some (.int v4)] [] X := by
  refine ev_iload dX12_choose_48 rfl ?_
  refine ev_bipush (v := 10) dX12_choose_50 kb_10 ?_
  refine ev_icmpF (tgt := 94) dX12_choose_52 (by decide) c0 ?_
  refine ev_iload_n dX12_choose_55 rfl ?_
  refine ev_ifT (tgt := 94) dX12_choose_56 (by decide) c1 ?_
  refine ev_iload_n dX12_choose_94 rfl ?_
  refine ev_ifT (tgt := 101) dX12_choose_95 (by decide) c2 ?_
  refine ev_aload_n dX12_choose_101 rfl ?_
  refine ev_getS (q := 134) dX12_choose_102 fo_12_9 (by omega) lo_133 rfl (sh_133_0 hX (by omega)) (by decide) ?_
  refine ev_iconst (v := 3) dX12_choose_105 ki_3 ?_
  refine ev_iald dX12_choose_106 (by omega) ly_134 nIl_3 (by decide) ?_
  refine ev_iconst (v := 1) dX12_choose_107 ki_1 ?_
  refine ev_icmpF (tgt := 114) dX12_choose_108 (by decide) c3 ?_
  refine ev_ldc (v := (-1000000002)) dX12_choose_111 kw_12_80 ?_
  exact ev_iret dX12_choose_113 rfl rfl hp
theorem bX12_choose_48_6 {g : GG} {d n0 nf : Nat} {post : Option Value → LX → Prop} {n : Nat} {X : LX} (hn : 146 ≤ n) (hX : Sh n X) {v1 : Int32} {v2 : Int32} {v3 : Int32} {v4 : Int32} (c0 : ¬ 10 ≤ v4) (c1 : v3 = 0) (c2 : ¬ v3 = 0) (c3 : ¬ X 134 3 = 1) (k : Ev g mX12_choose d n0 nf post n 120 [some (.ref 133), some (.int v1), some (.int v2), some (.int v3), some (.int v4)] [.int 4, .int v1, .ref 134] X) : Ev g mX12_choose d n0 nf post n 48 [some (.ref 133), some (.int v1), some (.int v2), some (.int v3), some (.int v4)] [] X := by
  refine ev_iload dX12_choose_48 rfl ?_
  refine ev_bipush (v := 10) dX12_choose_50 kb_10 ?_
  refine ev_icmpF (tgt := 94) dX12_choose_52 (by decide) c0 ?_
  refine ev_iload_n dX12_choose_55 rfl ?_
  refine ev_ifT (tgt := 94) dX12_choose_56 (by decide) c1 ?_
  refine ev_iload_n dX12_choose_94 rfl ?_
  refine ev_ifT (tgt := 101) dX12_choose_95 (by decide) c2 ?_
  refine ev_aload_n dX12_choose_101 rfl ?_
  refine ev_getS (q := 134) dX12_choose_102 fo_12_9 (by omega) lo_133 rfl (sh_133_0 hX (by omega)) (by decide) ?_
  refine ev_iconst (v := 3) dX12_choose_105 ki_3 ?_
  refine ev_iald dX12_choose_106 (by omega) ly_134 nIl_3 (by decide) ?_
  refine ev_iconst (v := 1) dX12_choose_107 ki_1 ?_
  refine ev_icmpT (tgt := 114) dX12_choose_108 (by decide) c3 ?_
  refine ev_aload_n dX12_choose_114 rfl ?_
  refine ev_getS (q := 134) dX12_choose_115 fo_12_9 (by omega) lo_133 rfl (sh_133_0 hX (by omega)) (by decide) ?_
  refine ev_iload_n dX12_choose_118 rfl ?_
  refine ev_iconst (v := 4) dX12_choose_119 ki_4 ?_
  exact k
theorem bX12_choose_48_7 {g : GG} {d n0 nf : Nat} {post : Option Value → LX → Prop} {n : Nat} {X : LX} (hn : 146 ≤ nf) (hX : Sh nf X) {v1 : Int32} {v2 : Int32} {v3 : Int32} {v4 : Int32} (c0 : 10 ≤ v4) (c1 : v3 = 0) (hp : post (some (.int (-1000000001))) X) : Ev g mX12_choose d n0 nf post nf 48 [some (.ref 133), some (.int v1), some (.int v2), some (.int v3), some (.int v4)] [] X := by
  refine ev_iload dX12_choose_48 rfl ?_
  refine ev_bipush (v := 10) dX12_choose_50 kb_10 ?_
  refine ev_icmpT (tgt := 94) dX12_choose_52 (by decide) c0 ?_
  refine ev_iload_n dX12_choose_94 rfl ?_
  refine ev_ifF (tgt := 101) dX12_choose_95 (by decide) c1 ?_
  refine ev_ldc (v := (-1000000001)) dX12_choose_98 kw_12_57 ?_
  exact ev_iret dX12_choose_100 rfl rfl hp
theorem bX12_choose_48_8 {g : GG} {d n0 nf : Nat} {post : Option Value → LX → Prop} {n : Nat} {X : LX} (hn : 146 ≤ nf) (hX : Sh nf X) {v1 : Int32} {v2 : Int32} {v3 : Int32} {v4 : Int32} (c0 : 10 ≤ v4) (c1 : ¬ v3 = 0) (c2 : X 134 3 = 1) (hp : post (some (.int (-1000000002))) X) : Ev g mX12_choose d n0 nf post nf 48 [some (.ref 133), some (.int v1), some (.int v2), some (.int v3), some (.int v4)] [] X := by
  refine ev_iload dX12_choose_48 rfl ?_
  refine ev_bipush (v := 10) dX12_choose_50 kb_10 ?_
  refine ev_icmpT (tgt := 94) dX12_choose_52 (by decide) c0 ?_
  refine ev_iload_n dX12_choose_94 rfl ?_
  refine ev_ifT (tgt := 101) dX12_choose_95 (by decide) c1 ?_
  refine ev_aload_n dX12_choose_101 rfl ?_
  refine ev_getS (q := 134) dX12_choose_102 fo_12_9 (by omega) lo_133 rfl (sh_133_0 hX (by omega)) (by decide) ?_
  refine ev_iconst (v := 3) dX12_choose_105 ki_3 ?_
  refine ev_iald dX12_choose_106 (by omega) ly_134 nIl_3 (by decide) ?_
  refine ev_iconst (v := 1) dX12_choose_107 ki_1 ?_
  refine ev_icmpF (tgt := 114) dX12_choose_108 (by decide) c2 ?_
  refine ev_ldc (v := (-1000000002)) dX12_choose_111 kw_12_80 ?_
  exact ev_iret dX12_choose_113 rfl rfl hp
theorem bX12_choose_48_9 {g : GG} {d n0 nf : Nat} {post : Option Value → LX → Prop} {n : Nat} {X : LX} (hn : 146 ≤ n) (hX : Sh n X) {v1 : Int32} {v2 : Int32} {v3 : Int32} {v4 : Int32} (c0 : 10 ≤ v4) (c1 : ¬ v3 = 0) (c2 : ¬ X 134 3 = 1) (k : Ev g mX12_choose d n0 nf post n 120 [some (.ref 133), some (.int v1), some (.int v2), some (.int v3), some (.int v4)] [.int 4, .int v1, .ref 134] X) : Ev g mX12_choose d n0 nf post n 48 [some (.ref 133), some (.int v1), some (.int v2), some (.int v3), some (.int v4)] [] X := by
  refine ev_iload dX12_choose_48 rfl ?_
  refine ev_bipush (v := 10) dX12_choose_50 kb_10 ?_
  refine ev_icmpT (tgt := 94) dX12_choose_52 (by decide) c0 ?_
  refine ev_iload_n dX12_choose_94 rfl ?_
  refine ev_ifT (tgt := 101) dX12_choose_95 (by decide) c1 ?_
  refine ev_aload_n dX12_choose_101 rfl ?_
  refine ev_getS (q := 134) dX12_choose_102 fo_12_9 (by omega) lo_133 rfl (sh_133_0 hX (by omega)) (by decide) ?_
  refine ev_iconst (v := 3) dX12_choose_105 ki_3 ?_
  refine ev_iald dX12_choose_106 (by omega) ly_134 nIl_3 (by decide) ?_
  refine ev_iconst (v := 1) dX12_choose_107 ki_1 ?_
  refine ev_icmpT (tgt := 114) dX12_choose_108 (by decide) c2 ?_
  refine ev_aload_n dX12_choose_114 rfl ?_
  refine ev_getS (q := 134) dX12_choose_115 fo_12_9 (by omega) lo_133 rfl (sh_133_0 hX (by omega)) (by decide) ?_
  refine ev_iload_n dX12_choose_118 rfl ?_
  refine ev_iconst (v := 4) dX12_choose_119 ki_4 ?_
  exact k
theorem bX12_choose_69_0 {g : GG} {d n0 nf : Nat} {post : Option Value → LX → Prop} {n : Nat} {X : LX} (hn : 146 ≤ n) (hX : Sh n X) {v1 : Int32} {v2 : Int32} {v3 : Int32} {v4 : Int32} {s0 : Int32} (c0 : ¬ s0 = 0) (k : Ev g mX12_choose d n0 nf post n 76 [some (.ref 133), some (.int v1), some (.int v2), some (.int v3), some (.int v4)] [.int v4, .int v1, .ref 133] X) : Ev g mX12_choose d n0 nf post n 69 [some (.ref 133), some (.int v1), some (.int v2), some (.int v3), some (.int v4)] [.int s0] X := by
  refine ev_ifF (tgt := 82) dX12_choose_69 (by decide) c0 ?_
  refine ev_aload_n dX12_choose_72 rfl ?_
  refine ev_iload_n dX12_choose_73 rfl ?_
  refine ev_iload dX12_choose_74 rfl ?_
  exact k
theorem bX12_choose_69_1 {g : GG} {d n0 nf : Nat} {post : Option Value → LX → Prop} {n : Nat} {X : LX} (hn : 146 ≤ n) (hX : Sh n X) {v1 : Int32} {v2 : Int32} {v3 : Int32} {v4 : Int32} {s0 : Int32} (c0 : s0 = 0) (k : Ev g mX12_choose d n0 nf post n 48 [some (.ref 133), some (.int v1), some (.int v2), some (.int 1), some (.int (v4 + 1))] [] X) : Ev g mX12_choose d n0 nf post n 69 [some (.ref 133), some (.int v1), some (.int v2), some (.int v3), some (.int v4)] [.int s0] X := by
  refine ev_ifT (tgt := 82) dX12_choose_69 (by decide) c0 ?_
  refine ev_iconst (v := 1) dX12_choose_82 ki_1 ?_
  refine ev_goto (tgt := 87) dX12_choose_83 (by decide) ?_
  refine ev_istore_n dX12_choose_87 (by decide) ?_
  refine ev_iinc (v := v4 + 1) dX12_choose_88 rfl (by rw [show Int32.ofInt 1 = 1 from ki_1]) (by decide) ?_
  refine ev_goto (tgt := 48) dX12_choose_91 (by decide) ?_
  exact k
theorem bX12_choose_79_0 {g : GG} {d n0 nf : Nat} {post : Option Value → LX → Prop} {n : Nat} {X : LX} (hn : 146 ≤ n) (hX : Sh n X) {v1 : Int32} {v2 : Int32} {v3 : Int32} {v4 : Int32} {s0 : Int32} (c0 : ¬ s0 = 0) (k : Ev g mX12_choose d n0 nf post n 48 [some (.ref 133), some (.int v1), some (.int v2), some (.int 1), some (.int (v4 + 1))] [] X) : Ev g mX12_choose d n0 nf post n 79 [some (.ref 133), some (.int v1), some (.int v2), some (.int v3), some (.int v4)] [.int s0] X := by
  refine ev_ifF (tgt := 86) dX12_choose_79 (by decide) c0 ?_
  refine ev_iconst (v := 1) dX12_choose_82 ki_1 ?_
  refine ev_goto (tgt := 87) dX12_choose_83 (by decide) ?_
  refine ev_istore_n dX12_choose_87 (by decide) ?_
  refine ev_iinc (v := v4 + 1) dX12_choose_88 rfl (by rw [show Int32.ofInt 1 = 1 from ki_1]) (by decide) ?_
  refine ev_goto (tgt := 48) dX12_choose_91 (by decide) ?_
  exact k
theorem bX12_choose_79_1 {g : GG} {d n0 nf : Nat} {post : Option Value → LX → Prop} {n : Nat} {X : LX} (hn : 146 ≤ n) (hX : Sh n X) {v1 : Int32} {v2 : Int32} {v3 : Int32} {v4 : Int32} {s0 : Int32} (c0 : s0 = 0) (k : Ev g mX12_choose d n0 nf post n 48 [some (.ref 133), some (.int v1), some (.int v2), some (.int 0), some (.int (v4 + 1))] [] X) : Ev g mX12_choose d n0 nf post n 79 [some (.ref 133), some (.int v1), some (.int v2), some (.int v3), some (.int v4)] [.int s0] X := by
  refine ev_ifT (tgt := 86) dX12_choose_79 (by decide) c0 ?_
  refine ev_iconst (v := 0) dX12_choose_86 ki_0 ?_
  refine ev_istore_n dX12_choose_87 (by decide) ?_
  refine ev_iinc (v := v4 + 1) dX12_choose_88 rfl (by rw [show Int32.ofInt 1 = 1 from ki_1]) (by decide) ?_
  refine ev_goto (tgt := 48) dX12_choose_91 (by decide) ?_
  exact k
theorem bX12_choose_123_0 {g : GG} {d n0 nf : Nat} {post : Option Value → LX → Prop} {n : Nat} {X : LX} (hn : 146 ≤ n) (hX : Sh n X) {v1 : Int32} {v2 : Int32} {v3 : Int32} {v4 : Int32} {s1 : Nat} (b0 : s1 < 2156) (k : Ev g mX12_choose d n0 nf post n 132 [some (.ref 133), some (.int v1), some (.int v2), some (.int v3), some (.int (X 134 s1))] [.int 4, .int v1, .ref 134] X) : Ev g mX12_choose d n0 nf post n 123 [some (.ref 133), some (.int v1), some (.int v2), some (.int v3), some (.int v4)] [.int (nI s1), .ref 134] X := by
  refine ev_iald dX12_choose_123 (by omega) ly_134 rfl b0 ?_
  refine ev_istore dX12_choose_124 (by decide) ?_
  refine ev_aload_n dX12_choose_126 rfl ?_
  refine ev_getS (q := 134) dX12_choose_127 fo_12_9 (by omega) lo_133 rfl (sh_133_0 hX (by omega)) (by decide) ?_
  refine ev_iload_n dX12_choose_130 rfl ?_
  refine ev_iconst (v := 4) dX12_choose_131 ki_4 ?_
  exact k
theorem bX12_choose_135_0 {g : GG} {d n0 nf : Nat} {post : Option Value → LX → Prop} {n : Nat} {X : LX} (hn : 146 ≤ nf) (hX : Sh nf X) {v1 : Int32} {v2 : Int32} {v3 : Int32} {v4 : Int32} {s1 : Nat} (b0 : s1 < 2156) (hp : post (some (.int v4)) (lx_up X 134 s1 v2)) : Ev g mX12_choose d n0 nf post nf 135 [some (.ref 133), some (.int v1), some (.int v2), some (.int v3), some (.int v4)] [.int (nI s1), .ref 134] X := by
  refine ev_iload_n dX12_choose_135 rfl ?_
  refine ev_iast dX12_choose_136 (by omega) ly_134 rfl b0 ?_
  have hX1 : Sh _ (lx_up X 134 s1 v2) := Sh.upA hX (by rw [ly_134]; exact (by decide : 0 < 2))
  refine ev_iload dX12_choose_137 rfl ?_
  exact ev_iret dX12_choose_139 rfl rfl hp
theorem bX12_guess_0_0 {g : GG} {d n0 nf : Nat} {post : Option Value → LX → Prop} {n : Nat} {X : LX} (hn : 146 ≤ n) (hX : Sh n X) {v1 : Int32} {v2 : Int32} (c0 : X 134 0 = 0) (k : Ev g mX12_guess d n0 nf post n 45 [some (.ref 133), some (.int v1), some (.int v2), some (.int 0), some (.int (-1)), some (.int (-1)), some (.int 0), none] [] X) : Ev g mX12_guess d n0 nf post n 0 [some (.ref 133), some (.int v1), some (.int v2), none, none, none, none, none] [] X := by
  refine ev_aload_n dX12_guess_0 rfl ?_
  refine ev_getS (q := 134) dX12_guess_1 fo_12_9 (by omega) lo_133 rfl (sh_133_0 hX (by omega)) (by decide) ?_
  refine ev_iconst (v := 0) dX12_guess_4 ki_0 ?_
  refine ev_iald dX12_guess_5 (by omega) ly_134 nIl_0 (by decide) ?_
  refine ev_ifF (tgt := 13) dX12_guess_6 (by decide) c0 ?_
  refine ev_iconst (v := 0) dX12_guess_9 ki_0 ?_
  refine ev_goto (tgt := 35) dX12_guess_10 (by decide) ?_
  refine ev_istore_n dX12_guess_35 (by decide) ?_
  refine ev_iconst (v := (-1)) dX12_guess_36 ki_m1 ?_
  refine ev_istore dX12_guess_37 (by decide) ?_
  refine ev_iconst (v := (-1)) dX12_guess_39 ki_m1 ?_
  refine ev_istore dX12_guess_40 (by decide) ?_
  refine ev_iconst (v := 0) dX12_guess_42 ki_0 ?_
  refine ev_istore dX12_guess_43 (by decide) ?_
  exact k
theorem bX12_guess_0_1 {g : GG} {d n0 nf : Nat} {post : Option Value → LX → Prop} {n : Nat} {X : LX} (hn : 146 ≤ n) (hX : Sh n X) {v1 : Int32} {v2 : Int32} {j1 : Nat} (c0 : ¬ X 134 0 = 0) (hj1 : (828 + (12 * ((X 134 0) - 1))) + v1 = nI j1) (b0 : j1 < 2156) (k : Ev g mX12_guess d n0 nf post n 45 [some (.ref 133), some (.int v1), some (.int v2), some (.int (X 134 j1)), some (.int (-1)), some (.int (-1)), some (.int 0), none] [] X) : Ev g mX12_guess d n0 nf post n 0 [some (.ref 133), some (.int v1), some (.int v2), none, none, none, none, none] [] X := by
  refine ev_aload_n dX12_guess_0 rfl ?_
  refine ev_getS (q := 134) dX12_guess_1 fo_12_9 (by omega) lo_133 rfl (sh_133_0 hX (by omega)) (by decide) ?_
  refine ev_iconst (v := 0) dX12_guess_4 ki_0 ?_
  refine ev_iald dX12_guess_5 (by omega) ly_134 nIl_0 (by decide) ?_
  refine ev_ifT (tgt := 13) dX12_guess_6 (by decide) c0 ?_
  refine ev_aload_n dX12_guess_13 rfl ?_
  refine ev_getS (q := 134) dX12_guess_14 fo_12_9 (by omega) lo_133 rfl (sh_133_0 hX (by omega)) (by decide) ?_
  refine ev_sipush (v := 828) dX12_guess_17 ks_828 ?_
  refine ev_bipush (v := 12) dX12_guess_20 kb_12 ?_
  refine ev_aload_n dX12_guess_22 rfl ?_
  refine ev_getS (q := 134) dX12_guess_23 fo_12_9 (by omega) lo_133 rfl (sh_133_0 hX (by omega)) (by decide) ?_
  refine ev_iconst (v := 0) dX12_guess_26 ki_0 ?_
  refine ev_iald dX12_guess_27 (by omega) ly_134 nIl_0 (by decide) ?_
  refine ev_iconst (v := 1) dX12_guess_28 ki_1 ?_
  refine ev_isub dX12_guess_29 ?_
  refine ev_imul dX12_guess_30 ?_
  refine ev_iadd dX12_guess_31 ?_
  refine ev_iload_n dX12_guess_32 rfl ?_
  refine ev_iadd dX12_guess_33 ?_
  refine ev_iald dX12_guess_34 (by omega) ly_134 hj1 b0 ?_
  refine ev_istore_n dX12_guess_35 (by decide) ?_
  refine ev_iconst (v := (-1)) dX12_guess_36 ki_m1 ?_
  refine ev_istore dX12_guess_37 (by decide) ?_
  refine ev_iconst (v := (-1)) dX12_guess_39 ki_m1 ?_
  refine ev_istore dX12_guess_40 (by decide) ?_
  refine ev_iconst (v := 0) dX12_guess_42 ki_0 ?_
  refine ev_istore dX12_guess_43 (by decide) ?_
  exact k
theorem bX12_guess_45_0 {g : GG} {d n0 nf : Nat} {post : Option Value → LX → Prop} {n : Nat} {X : LX} (hn : 146 ≤ n) (hX : Sh n X) {v1 : Int32} {v2 : Int32} {v3 : Int32} {v4 : Int32} {v5 : Int32} {v6 : Int32} (c0 : ¬ 10 ≤ v6) (k : Ev g mX12_guess d n0 nf post n 61 [some (.ref 133), some (.int v1), some (.int v2), some (.int v3), some (.int v4), some (.int v5), some (.int v6), none] [.int v6, .int (X 134 8)] X) : Ev g mX12_guess d n0 nf post n 45 [some (.ref 133), some (.int v1), some (.int v2), some (.int v3), some (.int v4), some (.int v5), some (.int v6), none] [] X := by
  refine ev_iload dX12_guess_45 rfl ?_
  refine ev_bipush (v := 10) dX12_guess_47 kb_10 ?_
  refine ev_icmpF (tgt := 138) dX12_guess_49 (by decide) c0 ?_
  refine ev_aload_n dX12_guess_52 rfl ?_
  refine ev_getS (q := 134) dX12_guess_53 fo_12_9 (by omega) lo_133 rfl (sh_133_0 hX (by omega)) (by decide) ?_
  refine ev_bipush (v := 8) dX12_guess_56 kb_8 ?_
  refine ev_iald dX12_guess_58 (by omega) ly_134 nIl_8 (by decide) ?_
  refine ev_iload dX12_guess_59 rfl ?_
  exact k
theorem bX12_guess_45_1 {g : GG} {d n0 nf : Nat} {post : Option Value → LX → Prop} {n : Nat} {X : LX} (hn : 146 ≤ nf) (hX : Sh nf X) {v1 : Int32} {v2 : Int32} {v3 : Int32} {v4 : Int32} {v5 : Int32} {v6 : Int32} (c0 : 10 ≤ v6) (hp : post (some (.int v4)) X) : Ev g mX12_guess d n0 nf post nf 45 [some (.ref 133), some (.int v1), some (.int v2), some (.int v3), some (.int v4), some (.int v5), some (.int v6), none] [] X := by
  refine ev_iload dX12_guess_45 rfl ?_
  refine ev_bipush (v := 10) dX12_guess_47 kb_10 ?_
  refine ev_icmpT (tgt := 138) dX12_guess_49 (by decide) c0 ?_
  refine ev_iload dX12_guess_138 rfl ?_
  exact ev_iret dX12_guess_140 rfl rfl hp
theorem bX12_guess_64_0 {g : GG} {d n0 nf : Nat} {post : Option Value → LX → Prop} {n : Nat} {X : LX} (hn : 146 ≤ n) (hX : Sh n X) {v1 : Int32} {v2 : Int32} {v3 : Int32} {v4 : Int32} {v5 : Int32} {v6 : Int32} {s0 : Int32} (c0 : ¬ s0 = 0) (k : Ev g mX12_guess d n0 nf post n 70 [some (.ref 133), some (.int v1), some (.int v2), some (.int v3), some (.int v4), some (.int v5), some (.int v6), none] [.int v6, .int v2] X) : Ev g mX12_guess d n0 nf post n 64 [some (.ref 133), some (.int v1), some (.int v2), some (.int v3), some (.int v4), some (.int v5), some (.int v6), none] [.int s0] X := by
  refine ev_ifF (tgt := 132) dX12_guess_64 (by decide) c0 ?_
  refine ev_iload_n dX12_guess_67 rfl ?_
  refine ev_iload dX12_guess_68 rfl ?_
  exact k
theorem bX12_guess_64_1 {g : GG} {d n0 nf : Nat} {post : Option Value → LX → Prop} {n : Nat} {X : LX} (hn : 146 ≤ n) (hX : Sh n X) {v1 : Int32} {v2 : Int32} {v3 : Int32} {v4 : Int32} {v5 : Int32} {v6 : Int32} {s0 : Int32} (c0 : s0 = 0) (k : Ev g mX12_guess d n0 nf post n 45 [some (.ref 133), some (.int v1), some (.int v2), some (.int v3), some (.int v4), some (.int v5), some (.int (v6 + 1)), none] [] X) : Ev g mX12_guess d n0 nf post n 64 [some (.ref 133), some (.int v1), some (.int v2), some (.int v3), some (.int v4), some (.int v5), some (.int v6), none] [.int s0] X := by
  refine ev_ifT (tgt := 132) dX12_guess_64 (by decide) c0 ?_
  refine ev_iinc (v := v6 + 1) dX12_guess_132 rfl (by rw [show Int32.ofInt 1 = 1 from ki_1]) (by decide) ?_
  refine ev_goto (tgt := 45) dX12_guess_135 (by decide) ?_
  exact k
theorem bX12_guess_73_0 {g : GG} {d n0 nf : Nat} {post : Option Value → LX → Prop} {n : Nat} {X : LX} (hn : 146 ≤ n) (hX : Sh n X) {v1 : Int32} {v2 : Int32} {v3 : Int32} {v4 : Int32} {v5 : Int32} {v6 : Int32} {s0 : Int32} (c0 : s0 = 0) (k : Ev g mX12_guess d n0 nf post n 80 [some (.ref 133), some (.int v1), some (.int v2), some (.int v3), some (.int v4), some (.int v5), some (.int v6), none] [.int v6, .int v1, .ref 133] X) : Ev g mX12_guess d n0 nf post n 73 [some (.ref 133), some (.int v1), some (.int v2), some (.int v3), some (.int v4), some (.int v5), some (.int v6), none] [.int s0] X := by
  refine ev_ifF (tgt := 132) dX12_guess_73 (by decide) c0 ?_
  refine ev_aload_n dX12_guess_76 rfl ?_
  refine ev_iload_n dX12_guess_77 rfl ?_
  refine ev_iload dX12_guess_78 rfl ?_
  exact k
theorem bX12_guess_73_1 {g : GG} {d n0 nf : Nat} {post : Option Value → LX → Prop} {n : Nat} {X : LX} (hn : 146 ≤ n) (hX : Sh n X) {v1 : Int32} {v2 : Int32} {v3 : Int32} {v4 : Int32} {v5 : Int32} {v6 : Int32} {s0 : Int32} (c0 : ¬ s0 = 0) (k : Ev g mX12_guess d n0 nf post n 45 [some (.ref 133), some (.int v1), some (.int v2), some (.int v3), some (.int v4), some (.int v5), some (.int (v6 + 1)), none] [] X) : Ev g mX12_guess d n0 nf post n 73 [some (.ref 133), some (.int v1), some (.int v2), some (.int v3), some (.int v4), some (.int v5), some (.int v6), none] [.int s0] X := by
  refine ev_ifT (tgt := 132) dX12_guess_73 (by decide) c0 ?_
  refine ev_iinc (v := v6 + 1) dX12_guess_132 rfl (by rw [show Int32.ofInt 1 = 1 from ki_1]) (by decide) ?_
  refine ev_goto (tgt := 45) dX12_guess_135 (by decide) ?_
  exact k
theorem bX12_guess_83_0 {g : GG} {d n0 nf : Nat} {post : Option Value → LX → Prop} {n : Nat} {X : LX} (hn : 146 ≤ n) (hX : Sh n X) {v1 : Int32} {v2 : Int32} {v3 : Int32} {v4 : Int32} {v5 : Int32} {v6 : Int32} {s0 : Int32} (c0 : ¬ s0 = 0) (k : Ev g mX12_guess d n0 nf post n 95 [some (.ref 133), some (.int v1), some (.int v2), some (.int v3), some (.int v4), some (.int v5), some (.int v6), none] [.int (5 + v6), .int v1, .ref 134] X) : Ev g mX12_guess d n0 nf post n 83 [some (.ref 133), some (.int v1), some (.int v2), some (.int v3), some (.int v4), some (.int v5), some (.int v6), none] [.int s0] X := by
  refine ev_ifF (tgt := 132) dX12_guess_83 (by decide) c0 ?_
  refine ev_aload_n dX12_guess_86 rfl ?_
  refine ev_getS (q := 134) dX12_guess_87 fo_12_9 (by omega) lo_133 rfl (sh_133_0 hX (by omega)) (by decide) ?_
  refine ev_iload_n dX12_guess_90 rfl ?_
  refine ev_iconst (v := 5) dX12_guess_91 ki_5 ?_
  refine ev_iload dX12_guess_92 rfl ?_
  refine ev_iadd dX12_guess_94 ?_
  exact k
theorem bX12_guess_83_1 {g : GG} {d n0 nf : Nat} {post : Option Value → LX → Prop} {n : Nat} {X : LX} (hn : 146 ≤ n) (hX : Sh n X) {v1 : Int32} {v2 : Int32} {v3 : Int32} {v4 : Int32} {v5 : Int32} {v6 : Int32} {s0 : Int32} (c0 : s0 = 0) (k : Ev g mX12_guess d n0 nf post n 45 [some (.ref 133), some (.int v1), some (.int v2), some (.int v3), some (.int v4), some (.int v5), some (.int (v6 + 1)), none] [] X) : Ev g mX12_guess d n0 nf post n 83 [some (.ref 133), some (.int v1), some (.int v2), some (.int v3), some (.int v4), some (.int v5), some (.int v6), none] [.int s0] X := by
  refine ev_ifT (tgt := 132) dX12_guess_83 (by decide) c0 ?_
  refine ev_iinc (v := v6 + 1) dX12_guess_132 rfl (by rw [show Int32.ofInt 1 = 1 from ki_1]) (by decide) ?_
  refine ev_goto (tgt := 45) dX12_guess_135 (by decide) ?_
  exact k
theorem bX12_guess_98_0 {g : GG} {d n0 nf : Nat} {post : Option Value → LX → Prop} {n : Nat} {X : LX} (hn : 146 ≤ n) (hX : Sh n X) {v1 : Int32} {v2 : Int32} {v3 : Int32} {v4 : Int32} {v5 : Int32} {v6 : Int32} {s1 : Nat} (b0 : s1 < 2156) (k : Ev g mX12_guess d n0 nf post n 102 [some (.ref 133), some (.int v1), some (.int v2), some (.int v3), some (.int v4), some (.int v5), some (.int v6), none] [.int v6, .int v3, .int (X 134 s1)] X) : Ev g mX12_guess d n0 nf post n 98 [some (.ref 133), some (.int v1), some (.int v2), some (.int v3), some (.int v4), some (.int v5), some (.int v6), none] [.int (nI s1), .ref 134] X := by
  refine ev_iald dX12_guess_98 (by omega) ly_134 rfl b0 ?_
  refine ev_iload_n dX12_guess_99 rfl ?_
  refine ev_iload dX12_guess_100 rfl ?_
  exact k
theorem bX12_guess_105_0 {g : GG} {d n0 nf : Nat} {post : Option Value → LX → Prop} {n : Nat} {X : LX} (hn : 146 ≤ n) (hX : Sh n X) {v1 : Int32} {v2 : Int32} {v3 : Int32} {v4 : Int32} {v5 : Int32} {v6 : Int32} {s0 : Int32} {s1 : Int32} (c0 : ¬ s1 = 0) (c1 : ¬ s0 + 0 ≤ v5) (k : Ev g mX12_guess d n0 nf post n 45 [some (.ref 133), some (.int v1), some (.int v2), some (.int v3), some (.int v6), some (.int (s0 + 0)), some (.int (v6 + 1)), some (.int (s0 + 0))] [] X) : Ev g mX12_guess d n0 nf post n 105 [some (.ref 133), some (.int v1), some (.int v2), some (.int v3), some (.int v4), some (.int v5), some (.int v6), none] [.int s1, .int s0] X := by
  refine ev_ifF (tgt := 112) dX12_guess_105 (by decide) c0 ?_
  refine ev_iconst (v := 0) dX12_guess_108 ki_0 ?_
  refine ev_goto (tgt := 114) dX12_guess_109 (by decide) ?_
  refine ev_iadd dX12_guess_114 ?_
  refine ev_istore dX12_guess_115 (by decide) ?_
  refine ev_iload dX12_guess_117 rfl ?_
  refine ev_iload dX12_guess_119 rfl ?_
  refine ev_icmpF (tgt := 132) dX12_guess_121 (by decide) c1 ?_
  refine ev_iload dX12_guess_124 rfl ?_
  refine ev_istore dX12_guess_126 (by decide) ?_
  refine ev_iload dX12_guess_128 rfl ?_
  refine ev_istore dX12_guess_130 (by decide) ?_
  refine ev_iinc (v := v6 + 1) dX12_guess_132 rfl (by rw [show Int32.ofInt 1 = 1 from ki_1]) (by decide) ?_
  refine ev_goto (tgt := 45) dX12_guess_135 (by decide) ?_
  exact k
theorem bX12_guess_105_1 {g : GG} {d n0 nf : Nat} {post : Option Value → LX → Prop} {n : Nat} {X : LX} (hn : 146 ≤ n) (hX : Sh n X) {v1 : Int32} {v2 : Int32} {v3 : Int32} {v4 : Int32} {v5 : Int32} {v6 : Int32} {s0 : Int32} {s1 : Int32} (c0 : ¬ s1 = 0) (c1 : s0 + 0 ≤ v5) (k : Ev g mX12_guess d n0 nf post n 45 [some (.ref 133), some (.int v1), some (.int v2), some (.int v3), some (.int v4), some (.int v5), some (.int (v6 + 1)), some (.int (s0 + 0))] [] X) : Ev g mX12_guess d n0 nf post n 105 [some (.ref 133), some (.int v1), some (.int v2), some (.int v3), some (.int v4), some (.int v5), some (.int v6), none] [.int s1, .int s0] X := by
  refine ev_ifF (tgt := 112) dX12_guess_105 (by decide) c0 ?_
  refine ev_iconst (v := 0) dX12_guess_108 ki_0 ?_
  refine ev_goto (tgt := 114) dX12_guess_109 (by decide) ?_
  refine ev_iadd dX12_guess_114 ?_
  refine ev_istore dX12_guess_115 (by decide) ?_
  refine ev_iload dX12_guess_117 rfl ?_
  refine ev_iload dX12_guess_119 rfl ?_
  refine ev_icmpT (tgt := 132) dX12_guess_121 (by decide) c1 ?_
  refine ev_iinc (v := v6 + 1) dX12_guess_132 rfl (by rw [show Int32.ofInt 1 = 1 from ki_1]) (by decide) ?_
  refine ev_goto (tgt := 45) dX12_guess_135 (by decide) ?_
  exact k
theorem bX12_guess_105_2 {g : GG} {d n0 nf : Nat} {post : Option Value → LX → Prop} {n : Nat} {X : LX} (hn : 146 ≤ n) (hX : Sh n X) {v1 : Int32} {v2 : Int32} {v3 : Int32} {v4 : Int32} {v5 : Int32} {v6 : Int32} {s0 : Int32} {s1 : Int32} (c0 : s1 = 0) (c1 : ¬ s0 + 10 ≤ v5) (k : Ev g mX12_guess d n0 nf post n 45 [some (.ref 133), some (.int v1), some (.int v2), some (.int v3), some (.int v6), some (.int (s0 + 10)), some (.int (v6 + 1)), some (.int (s0 + 10))] [] X) : Ev g mX12_guess d n0 nf post n 105 [some (.ref 133), some (.int v1), some (.int v2), some (.int v3), some (.int v4), some (.int v5), some (.int v6), none] [.int s1, .int s0] X := by
  refine ev_ifT (tgt := 112) dX12_guess_105 (by decide) c0 ?_
  refine ev_bipush (v := 10) dX12_guess_112 kb_10 ?_
  refine ev_iadd dX12_guess_114 ?_
  refine ev_istore dX12_guess_115 (by decide) ?_
  refine ev_iload dX12_guess_117 rfl ?_
  refine ev_iload dX12_guess_119 rfl ?_
  refine ev_icmpF (tgt := 132) dX12_guess_121 (by decide) c1 ?_
  refine ev_iload dX12_guess_124 rfl ?_
  refine ev_istore dX12_guess_126 (by decide) ?_
  refine ev_iload dX12_guess_128 rfl ?_
  refine ev_istore dX12_guess_130 (by decide) ?_
  refine ev_iinc (v := v6 + 1) dX12_guess_132 rfl (by rw [show Int32.ofInt 1 = 1 from ki_1]) (by decide) ?_
  refine ev_goto (tgt := 45) dX12_guess_135 (by decide) ?_
  exact k
theorem bX12_guess_105_3 {g : GG} {d n0 nf : Nat} {post : Option Value → LX → Prop} {n : Nat} {X : LX} (hn : 146 ≤ n) (hX : Sh n X) {v1 : Int32} {v2 : Int32} {v3 : Int32} {v4 : Int32} {v5 : Int32} {v6 : Int32} {s0 : Int32} {s1 : Int32} (c0 : s1 = 0) (c1 : s0 + 10 ≤ v5) (k : Ev g mX12_guess d n0 nf post n 45 [some (.ref 133), some (.int v1), some (.int v2), some (.int v3), some (.int v4), some (.int v5), some (.int (v6 + 1)), some (.int (s0 + 10))] [] X) : Ev g mX12_guess d n0 nf post n 105 [some (.ref 133), some (.int v1), some (.int v2), some (.int v3), some (.int v4), some (.int v5), some (.int v6), none] [.int s1, .int s0] X := by
  refine ev_ifT (tgt := 112) dX12_guess_105 (by decide) c0 ?_
  refine ev_bipush (v := 10) dX12_guess_112 kb_10 ?_
  refine ev_iadd dX12_guess_114 ?_
  refine ev_istore dX12_guess_115 (by decide) ?_
  refine ev_iload dX12_guess_117 rfl ?_
  refine ev_iload dX12_guess_119 rfl ?_
  refine ev_icmpT (tgt := 132) dX12_guess_121 (by decide) c1 ?_
  refine ev_iinc (v := v6 + 1) dX12_guess_132 rfl (by rw [show Int32.ofInt 1 = 1 from ki_1]) (by decide) ?_
  refine ev_goto (tgt := 45) dX12_guess_135 (by decide) ?_
  exact k
theorem bX12_boxToday_0_0 {g : GG} {d n0 nf : Nat} {post : Option Value → LX → Prop} {n : Nat} {X : LX} (hn : 146 ≤ nf) (hX : Sh nf X) {v1 : Int32} {j1 : Nat} (c0 : X 134 3 = 1) (hj1 : (828 + (12 * (X 134 0))) + v1 = nI j1) (b0 : j1 < 2156) (hp : post (some (.int (X 134 j1))) X) : Ev g mX12_boxToday d n0 nf post nf 0 [some (.ref 133), some (.int v1), none, none, none] [] X := by
  refine ev_aload_n dX12_boxToday_0 rfl ?_
  refine ev_getS (q := 134) dX12_boxToday_1 fo_12_9 (by omega) lo_133 rfl (sh_133_0 hX (by omega)) (by decide) ?_
  refine ev_iconst (v := 3) dX12_boxToday_4 ki_3 ?_
  refine ev_iald dX12_boxToday_5 (by omega) ly_134 nIl_3 (by decide) ?_
  refine ev_iconst (v := 1) dX12_boxToday_6 ki_1 ?_
  refine ev_icmpF (tgt := 31) dX12_boxToday_7 (by decide) c0 ?_
  refine ev_aload_n dX12_boxToday_10 rfl ?_
  refine ev_getS (q := 134) dX12_boxToday_11 fo_12_9 (by omega) lo_133 rfl (sh_133_0 hX (by omega)) (by decide) ?_
  refine ev_sipush (v := 828) dX12_boxToday_14 ks_828 ?_
  refine ev_bipush (v := 12) dX12_boxToday_17 kb_12 ?_
  refine ev_aload_n dX12_boxToday_19 rfl ?_
  refine ev_getS (q := 134) dX12_boxToday_20 fo_12_9 (by omega) lo_133 rfl (sh_133_0 hX (by omega)) (by decide) ?_
  refine ev_iconst (v := 0) dX12_boxToday_23 ki_0 ?_
  refine ev_iald dX12_boxToday_24 (by omega) ly_134 nIl_0 (by decide) ?_
  refine ev_imul dX12_boxToday_25 ?_
  refine ev_iadd dX12_boxToday_26 ?_
  refine ev_iload_n dX12_boxToday_27 rfl ?_
  refine ev_iadd dX12_boxToday_28 ?_
  refine ev_iald dX12_boxToday_29 (by omega) ly_134 hj1 b0 ?_
  exact ev_iret dX12_boxToday_30 rfl rfl hp
theorem bX12_boxToday_0_1 {g : GG} {d n0 nf : Nat} {post : Option Value → LX → Prop} {n : Nat} {X : LX} (hn : 146 ≤ n) (hX : Sh n X) {v1 : Int32} (c0 : ¬ X 134 3 = 1) (k : Ev g mX12_boxToday d n0 nf post n 37 [some (.ref 133), some (.int v1), none, none, none] [.int 4, .int v1, .ref 134] X) : Ev g mX12_boxToday d n0 nf post n 0 [some (.ref 133), some (.int v1), none, none, none] [] X := by
  refine ev_aload_n dX12_boxToday_0 rfl ?_
  refine ev_getS (q := 134) dX12_boxToday_1 fo_12_9 (by omega) lo_133 rfl (sh_133_0 hX (by omega)) (by decide) ?_
  refine ev_iconst (v := 3) dX12_boxToday_4 ki_3 ?_
  refine ev_iald dX12_boxToday_5 (by omega) ly_134 nIl_3 (by decide) ?_
  refine ev_iconst (v := 1) dX12_boxToday_6 ki_1 ?_
  refine ev_icmpT (tgt := 31) dX12_boxToday_7 (by decide) c0 ?_
  refine ev_aload_n dX12_boxToday_31 rfl ?_
  refine ev_getS (q := 134) dX12_boxToday_32 fo_12_9 (by omega) lo_133 rfl (sh_133_0 hX (by omega)) (by decide) ?_
  refine ev_iload_n dX12_boxToday_35 rfl ?_
  refine ev_iconst (v := 4) dX12_boxToday_36 ki_4 ?_
  exact k
theorem bX12_boxToday_40_0 {g : GG} {d n0 nf : Nat} {post : Option Value → LX → Prop} {n : Nat} {X : LX} (hn : 146 ≤ nf) (hX : Sh nf X) {v1 : Int32} {s1 : Nat} (b0 : s1 < 2156) (c0 : X 134 s1 = (-1)) (hp : post (some (.int 0)) X) : Ev g mX12_boxToday d n0 nf post nf 40 [some (.ref 133), some (.int v1), none, none, none] [.int (nI s1), .ref 134] X := by
  refine ev_iald dX12_boxToday_40 (by omega) ly_134 rfl b0 ?_
  refine ev_istore_n dX12_boxToday_41 (by decide) ?_
  refine ev_iload_n dX12_boxToday_42 rfl ?_
  refine ev_iconst (v := (-1)) dX12_boxToday_43 ki_m1 ?_
  refine ev_icmpF (tgt := 49) dX12_boxToday_44 (by decide) c0 ?_
  refine ev_iconst (v := 0) dX12_boxToday_47 ki_0 ?_
  exact ev_iret dX12_boxToday_48 rfl rfl hp
theorem bX12_boxToday_40_1 {g : GG} {d n0 nf : Nat} {post : Option Value → LX → Prop} {n : Nat} {X : LX} (hn : 146 ≤ n) (hX : Sh n X) {v1 : Int32} {s1 : Nat} (b0 : s1 < 2156) (c0 : ¬ X 134 s1 = (-1)) (k : Ev g mX12_boxToday d n0 nf post n 50 [some (.ref 133), some (.int v1), some (.int (X 134 s1)), none, none] [.int (X 134 s1)] X) : Ev g mX12_boxToday d n0 nf post n 40 [some (.ref 133), some (.int v1), none, none, none] [.int (nI s1), .ref 134] X := by
  refine ev_iald dX12_boxToday_40 (by omega) ly_134 rfl b0 ?_
  refine ev_istore_n dX12_boxToday_41 (by decide) ?_
  refine ev_iload_n dX12_boxToday_42 rfl ?_
  refine ev_iconst (v := (-1)) dX12_boxToday_43 ki_m1 ?_
  refine ev_icmpT (tgt := 49) dX12_boxToday_44 (by decide) c0 ?_
  refine ev_iload_n dX12_boxToday_49 rfl ?_
  exact k
theorem bX12_boxToday_53_0 {g : GG} {d n0 nf : Nat} {post : Option Value → LX → Prop} {n : Nat} {X : LX} (hn : 146 ≤ n) (hX : Sh n X) {v1 : Int32} {v2 : Int32} {s0 : Int32} (k : Ev g mX12_boxToday d n0 nf post n 54 [some (.ref 133), some (.int v1), some (.int v2), some (.int s0), none] [] X) : Ev g mX12_boxToday d n0 nf post n 53 [some (.ref 133), some (.int v1), some (.int v2), none, none] [.int s0] X := by
  refine ev_istore_n dX12_boxToday_53 (by decide) ?_
  exact k
theorem bX12_boxToday_54_0 {g : GG} {d n0 nf : Nat} {post : Option Value → LX → Prop} {n : Nat} {X : LX} (hn : 146 ≤ n) (hX : Sh n X) {v1 : Int32} {v2 : Int32} {v3 : Int32} (c0 : ¬ 2 ≤ v3) (k : Ev g mX12_boxToday d n0 nf post n 62 [some (.ref 133), some (.int v1), some (.int v2), some (.int v3), none] [.int v2, .int v1, .ref 133] X) : Ev g mX12_boxToday d n0 nf post n 54 [some (.ref 133), some (.int v1), some (.int v2), some (.int v3), none] [] X := by
  refine ev_iload_n dX12_boxToday_54 rfl ?_
  refine ev_iconst (v := 2) dX12_boxToday_55 ki_2 ?_
  refine ev_icmpF (tgt := 89) dX12_boxToday_56 (by decide) c0 ?_
  refine ev_aload_n dX12_boxToday_59 rfl ?_
  refine ev_iload_n dX12_boxToday_60 rfl ?_
  refine ev_iload_n dX12_boxToday_61 rfl ?_
  exact k
theorem bX12_boxToday_54_1 {g : GG} {d n0 nf : Nat} {post : Option Value → LX → Prop} {n : Nat} {X : LX} (hn : 146 ≤ nf) (hX : Sh nf X) {v1 : Int32} {v2 : Int32} {v3 : Int32} (c0 : 2 ≤ v3) (hp : post (some (.int v2)) X) : Ev g mX12_boxToday d n0 nf post nf 54 [some (.ref 133), some (.int v1), some (.int v2), some (.int v3), none] [] X := by
  refine ev_iload_n dX12_boxToday_54 rfl ?_
  refine ev_iconst (v := 2) dX12_boxToday_55 ki_2 ?_
  refine ev_icmpT (tgt := 89) dX12_boxToday_56 (by decide) c0 ?_
  refine ev_iload_n dX12_boxToday_89 rfl ?_
  exact ev_iret dX12_boxToday_90 rfl rfl hp
theorem bX12_boxToday_65_0 {g : GG} {d n0 nf : Nat} {post : Option Value → LX → Prop} {n : Nat} {X : LX} (hn : 146 ≤ n) (hX : Sh n X) {v1 : Int32} {v2 : Int32} {v3 : Int32} {s0 : Int32} (c0 : ¬ 0 ≤ s0) (k : Ev g mX12_boxToday d n0 nf post n 54 [some (.ref 133), some (.int v1), some (.int (v2 ||| 0)), some (.int (v3 + 1)), some (.int s0)] [] X) : Ev g mX12_boxToday d n0 nf post n 65 [some (.ref 133), some (.int v1), some (.int v2), some (.int v3), none] [.int s0] X := by
  refine ev_istore dX12_boxToday_65 (by decide) ?_
  refine ev_iload_n dX12_boxToday_67 rfl ?_
  refine ev_iload dX12_boxToday_68 rfl ?_
  refine ev_ifF (tgt := 77) dX12_boxToday_70 (by decide) c0 ?_
  refine ev_iconst (v := 0) dX12_boxToday_73 ki_0 ?_
  refine ev_goto (tgt := 81) dX12_boxToday_74 (by decide) ?_
  refine ev_ior dX12_boxToday_81 ?_
  refine ev_istore_n dX12_boxToday_82 (by decide) ?_
  refine ev_iinc (v := v3 + 1) dX12_boxToday_83 rfl (by rw [show Int32.ofInt 1 = 1 from ki_1]) (by decide) ?_
  refine ev_goto (tgt := 54) dX12_boxToday_86 (by decide) ?_
  exact k
theorem bX12_boxToday_65_1 {g : GG} {d n0 nf : Nat} {post : Option Value → LX → Prop} {n : Nat} {X : LX} (hn : 146 ≤ n) (hX : Sh n X) {v1 : Int32} {v2 : Int32} {v3 : Int32} {s0 : Int32} (c0 : 0 ≤ s0) (k : Ev g mX12_boxToday d n0 nf post n 54 [some (.ref 133), some (.int v1), some (.int (v2 ||| (1 <<< (s0 &&& 31)))), some (.int (v3 + 1)), some (.int s0)] [] X) : Ev g mX12_boxToday d n0 nf post n 65 [some (.ref 133), some (.int v1), some (.int v2), some (.int v3), none] [.int s0] X := by
  refine ev_istore dX12_boxToday_65 (by decide) ?_
  refine ev_iload_n dX12_boxToday_67 rfl ?_
  refine ev_iload dX12_boxToday_68 rfl ?_
  refine ev_ifT (tgt := 77) dX12_boxToday_70 (by decide) c0 ?_
  refine ev_iconst (v := 1) dX12_boxToday_77 ki_1 ?_
  refine ev_iload dX12_boxToday_78 rfl ?_
  refine ev_ishl dX12_boxToday_80 ?_
  refine ev_ior dX12_boxToday_81 ?_
  refine ev_istore_n dX12_boxToday_82 (by decide) ?_
  refine ev_iinc (v := v3 + 1) dX12_boxToday_83 rfl (by rw [show Int32.ofInt 1 = 1 from ki_1]) (by decide) ?_
  refine ev_goto (tgt := 54) dX12_boxToday_86 (by decide) ?_
  exact k
theorem bX12_box_0_0 {g : GG} {d n0 nf : Nat} {post : Option Value → LX → Prop} {n : Nat} {X : LX} (hn : 146 ≤ n) (hX : Sh n X) {v1 : Int32} {v2 : Int32} (k : Ev g mX12_box d n0 nf post n 2 [some (.ref 133), some (.int v1), some (.int v2)] [.int v1, .ref 133] X) : Ev g mX12_box d n0 nf post n 0 [some (.ref 133), some (.int v1), some (.int v2)] [] X := by
  refine ev_aload_n dX12_box_0 rfl ?_
  refine ev_iload_n dX12_box_1 rfl ?_
  exact k
theorem bX12_box_5_0 {g : GG} {d n0 nf : Nat} {post : Option Value → LX → Prop} {n : Nat} {X : LX} (hn : 146 ≤ n) (hX : Sh n X) {v1 : Int32} {v2 : Int32} {s0 : Int32} (c0 : ¬ s0 = 0) (k : Ev g mX12_box d n0 nf post n 16 [some (.ref 133), some (.int v1), some (.int v2)] [.int (X 134 0), .int 0, .int v2] X) : Ev g mX12_box d n0 nf post n 5 [some (.ref 133), some (.int v1), some (.int v2)] [.int s0] X := by
  refine ev_ifF (tgt := 22) dX12_box_5 (by decide) c0 ?_
  refine ev_iload_n dX12_box_8 rfl ?_
  refine ev_iconst (v := 0) dX12_box_9 ki_0 ?_
  refine ev_aload_n dX12_box_10 rfl ?_
  refine ev_getS (q := 134) dX12_box_11 fo_12_9 (by omega) lo_133 rfl (sh_133_0 hX (by omega)) (by decide) ?_
  refine ev_iconst (v := 0) dX12_box_14 ki_0 ?_
  refine ev_iald dX12_box_15 (by omega) ly_134 nIl_0 (by decide) ?_
  exact k
theorem bX12_box_5_1 {g : GG} {d n0 nf : Nat} {post : Option Value → LX → Prop} {n : Nat} {X : LX} (hn : 146 ≤ nf) (hX : Sh nf X) {v1 : Int32} {v2 : Int32} {s0 : Int32} (c0 : s0 = 0) (hp : post (some (.int (-1000000001))) X) : Ev g mX12_box d n0 nf post nf 5 [some (.ref 133), some (.int v1), some (.int v2)] [.int s0] X := by
  refine ev_ifT (tgt := 22) dX12_box_5 (by decide) c0 ?_
  refine ev_ldc (v := (-1000000001)) dX12_box_22 kw_12_57 ?_
  exact ev_iret dX12_box_24 rfl rfl hp
theorem bX12_box_19_0 {g : GG} {d n0 nf : Nat} {post : Option Value → LX → Prop} {n : Nat} {X : LX} (hn : 146 ≤ nf) (hX : Sh nf X) {v1 : Int32} {v2 : Int32} {s0 : Int32} (c0 : s0 = 0) (hp : post (some (.int (-1000000001))) X) : Ev g mX12_box d n0 nf post nf 19 [some (.ref 133), some (.int v1), some (.int v2)] [.int s0] X := by
  refine ev_ifF (tgt := 25) dX12_box_19 (by decide) c0 ?_
  refine ev_ldc (v := (-1000000001)) dX12_box_22 kw_12_57 ?_
  exact ev_iret dX12_box_24 rfl rfl hp
theorem bX12_box_19_1 {g : GG} {d n0 nf : Nat} {post : Option Value → LX → Prop} {n : Nat} {X : LX} (hn : 146 ≤ n) (hX : Sh n X) {v1 : Int32} {v2 : Int32} {s0 : Int32} (c0 : ¬ s0 = 0) (c1 : v2 = X 134 0) (k : Ev g mX12_box d n0 nf post n 37 [some (.ref 133), some (.int v1), some (.int v2)] [.int v1, .ref 133] X) : Ev g mX12_box d n0 nf post n 19 [some (.ref 133), some (.int v1), some (.int v2)] [.int s0] X := by
  refine ev_ifT (tgt := 25) dX12_box_19 (by decide) c0 ?_
  refine ev_iload_n dX12_box_25 rfl ?_
  refine ev_aload_n dX12_box_26 rfl ?_
  refine ev_getS (q := 134) dX12_box_27 fo_12_9 (by omega) lo_133 rfl (sh_133_0 hX (by omega)) (by decide) ?_
  refine ev_iconst (v := 0) dX12_box_30 ki_0 ?_
  refine ev_iald dX12_box_31 (by omega) ly_134 nIl_0 (by decide) ?_
  refine ev_icmpF (tgt := 43) dX12_box_32 (by decide) c1 ?_
  refine ev_aload_n dX12_box_35 rfl ?_
  refine ev_iload_n dX12_box_36 rfl ?_
  exact k
theorem bX12_box_19_2 {g : GG} {d n0 nf : Nat} {post : Option Value → LX → Prop} {n : Nat} {X : LX} (hn : 146 ≤ nf) (hX : Sh nf X) {v1 : Int32} {v2 : Int32} {s0 : Int32} {j1 : Nat} (c0 : ¬ s0 = 0) (c1 : ¬ v2 = X 134 0) (hj1 : (828 + (12 * v2)) + v1 = nI j1) (b0 : j1 < 2156) (hp : post (some (.int (X 134 j1))) X) : Ev g mX12_box d n0 nf post nf 19 [some (.ref 133), some (.int v1), some (.int v2)] [.int s0] X := by
  refine ev_ifT (tgt := 25) dX12_box_19 (by decide) c0 ?_
  refine ev_iload_n dX12_box_25 rfl ?_
  refine ev_aload_n dX12_box_26 rfl ?_
  refine ev_getS (q := 134) dX12_box_27 fo_12_9 (by omega) lo_133 rfl (sh_133_0 hX (by omega)) (by decide) ?_
  refine ev_iconst (v := 0) dX12_box_30 ki_0 ?_
  refine ev_iald dX12_box_31 (by omega) ly_134 nIl_0 (by decide) ?_
  refine ev_icmpT (tgt := 43) dX12_box_32 (by decide) c1 ?_
  refine ev_aload_n dX12_box_43 rfl ?_
  refine ev_getS (q := 134) dX12_box_44 fo_12_9 (by omega) lo_133 rfl (sh_133_0 hX (by omega)) (by decide) ?_
  refine ev_sipush (v := 828) dX12_box_47 ks_828 ?_
  refine ev_bipush (v := 12) dX12_box_50 kb_12 ?_
  refine ev_iload_n dX12_box_52 rfl ?_
  refine ev_imul dX12_box_53 ?_
  refine ev_iadd dX12_box_54 ?_
  refine ev_iload_n dX12_box_55 rfl ?_
  refine ev_iadd dX12_box_56 ?_
  refine ev_iald dX12_box_57 (by omega) ly_134 hj1 b0 ?_
  exact ev_iret dX12_box_58 rfl rfl hp
theorem bX12_box_40_0 {g : GG} {d n0 nf : Nat} {post : Option Value → LX → Prop} {n : Nat} {X : LX} (hn : 146 ≤ nf) (hX : Sh nf X) {v1 : Int32} {v2 : Int32} {s0 : Int32} (hp : post (some (.int s0)) X) : Ev g mX12_box d n0 nf post nf 40 [some (.ref 133), some (.int v1), some (.int v2)] [.int s0] X := by
  refine ev_goto (tgt := 58) dX12_box_40 (by decide) ?_
  exact ev_iret dX12_box_58 rfl rfl hp
theorem bX12_findNeeds_0_0 {g : GG} {d n0 nf : Nat} {post : Option Value → LX → Prop} {n : Nat} {X : LX} (hn : 146 ≤ n) (hX : Sh n X)  (k : Ev g mX12_findNeeds d n0 nf post n 2 [some (.ref 133), some (.int 0), none, none, none] [] X) : Ev g mX12_findNeeds d n0 nf post n 0 [some (.ref 133), none, none, none, none] [] X := by
  refine ev_iconst (v := 0) dX12_findNeeds_0 ki_0 ?_
  refine ev_istore_n dX12_findNeeds_1 (by decide) ?_
  exact k
theorem bX12_findNeeds_2_0 {g : GG} {d n0 nf : Nat} {post : Option Value → LX → Prop} {n : Nat} {X : LX} (hn : 146 ≤ n) (hX : Sh n X) {v1 : Nat} (c0 : ¬ 168 ≤ nI v1) (b0 : v1 < 168) (k : Ev g mX12_findNeeds d n0 nf post n 2 [some (.ref 133), some (.int ((nI v1) + 1)), none, none, none] [] (lx_up X 140 v1 0)) : Ev g mX12_findNeeds d n0 nf post n 2 [some (.ref 133), some (.int (nI v1)), none, none, none] [] X := by
  refine ev_iload_n dX12_findNeeds_2 rfl ?_
  refine ev_sipush (v := 168) dX12_findNeeds_3 ks_168 ?_
  refine ev_icmpF (tgt := 22) dX12_findNeeds_6 (by decide) c0 ?_
  refine ev_aload_n dX12_findNeeds_9 rfl ?_
  refine ev_getS (q := 140) dX12_findNeeds_10 fo_12_28 (by omega) lo_133 rfl (sh_133_9 hX (by omega)) (by decide) ?_
  refine ev_iload_n dX12_findNeeds_13 rfl ?_
  refine ev_iconst (v := 0) dX12_findNeeds_14 ki_0 ?_
  refine ev_iast dX12_findNeeds_15 (by omega) ly_140 rfl b0 ?_
  have hX1 : Sh _ (lx_up X 140 v1 0) := Sh.upA hX (by rw [ly_140]; exact (by decide : 0 < 2))
  refine ev_iinc (v := (nI v1) + 1) dX12_findNeeds_16 rfl (by rw [show Int32.ofInt 1 = 1 from ki_1]) (by decide) ?_
  refine ev_goto (tgt := 2) dX12_findNeeds_19 (by decide) ?_
  exact k
theorem bX12_findNeeds_2_1 {g : GG} {d n0 nf : Nat} {post : Option Value → LX → Prop} {n : Nat} {X : LX} (hn : 146 ≤ n) (hX : Sh n X) {v1 : Nat} (c0 : 168 ≤ nI v1) (k : Ev g mX12_findNeeds d n0 nf post n 24 [some (.ref 133), some (.int 0), none, none, none] [] X) : Ev g mX12_findNeeds d n0 nf post n 2 [some (.ref 133), some (.int (nI v1)), none, none, none] [] X := by
  refine ev_iload_n dX12_findNeeds_2 rfl ?_
  refine ev_sipush (v := 168) dX12_findNeeds_3 ks_168 ?_
  refine ev_icmpT (tgt := 22) dX12_findNeeds_6 (by decide) c0 ?_
  refine ev_iconst (v := 0) dX12_findNeeds_22 ki_0 ?_
  refine ev_istore_n dX12_findNeeds_23 (by decide) ?_
  exact k
theorem bX12_findNeeds_24_0 {g : GG} {d n0 nf : Nat} {post : Option Value → LX → Prop} {n : Nat} {X : LX} (hn : 146 ≤ n) (hX : Sh n X) {v1 : Int32} (c0 : ¬ X 134 6 ≤ v1) (k : Ev g mX12_findNeeds d n0 nf post n 37 [some (.ref 133), some (.int v1), none, none, none] [.int v1, .ref 133] X) : Ev g mX12_findNeeds d n0 nf post n 24 [some (.ref 133), some (.int v1), none, none, none] [] X := by
  refine ev_iload_n dX12_findNeeds_24 rfl ?_
  refine ev_aload_n dX12_findNeeds_25 rfl ?_
  refine ev_getS (q := 134) dX12_findNeeds_26 fo_12_9 (by omega) lo_133 rfl (sh_133_0 hX (by omega)) (by decide) ?_
  refine ev_bipush (v := 6) dX12_findNeeds_29 kb_6 ?_
  refine ev_iald dX12_findNeeds_31 (by omega) ly_134 nIl_6 (by decide) ?_
  refine ev_icmpF (tgt := 144) dX12_findNeeds_32 (by decide) c0 ?_
  refine ev_aload_n dX12_findNeeds_35 rfl ?_
  refine ev_iload_n dX12_findNeeds_36 rfl ?_
  exact k
theorem bX12_findNeeds_24_1 {g : GG} {d n0 nf : Nat} {post : Option Value → LX → Prop} {n : Nat} {X : LX} (hn : 146 ≤ nf) (hX : Sh nf X) {v1 : Int32} (c0 : X 134 6 ≤ v1) (hp : post none X) : Ev g mX12_findNeeds d n0 nf post nf 24 [some (.ref 133), some (.int v1), none, none, none] [] X := by
  refine ev_iload_n dX12_findNeeds_24 rfl ?_
  refine ev_aload_n dX12_findNeeds_25 rfl ?_
  refine ev_getS (q := 134) dX12_findNeeds_26 fo_12_9 (by omega) lo_133 rfl (sh_133_0 hX (by omega)) (by decide) ?_
  refine ev_bipush (v := 6) dX12_findNeeds_29 kb_6 ?_
  refine ev_iald dX12_findNeeds_31 (by omega) ly_134 nIl_6 (by decide) ?_
  refine ev_icmpT (tgt := 144) dX12_findNeeds_32 (by decide) c0 ?_
  exact ev_ret dX12_findNeeds_144 rfl hp
theorem bX12_findNeeds_40_0 {g : GG} {d n0 nf : Nat} {post : Option Value → LX → Prop} {n : Nat} {X : LX} (hn : 146 ≤ n) (hX : Sh n X) {v1 : Int32} {s0 : Int32} (k : Ev g mX12_findNeeds d n0 nf post n 43 [some (.ref 133), some (.int v1), some (.int s0), some (.int 0), none] [] X) : Ev g mX12_findNeeds d n0 nf post n 40 [some (.ref 133), some (.int v1), none, none, none] [.int s0] X := by
  refine ev_istore_n dX12_findNeeds_40 (by decide) ?_
  refine ev_iconst (v := 0) dX12_findNeeds_41 ki_0 ?_
  refine ev_istore_n dX12_findNeeds_42 (by decide) ?_
  exact k
theorem bX12_findNeeds_43_0 {g : GG} {d n0 nf : Nat} {post : Option Value → LX → Prop} {n : Nat} {X : LX} (hn : 146 ≤ n) (hX : Sh n X) {v1 : Int32} {v2 : Int32} {v3 : Int32} (c0 : ¬ 10 ≤ v3) (k : Ev g mX12_findNeeds d n0 nf post n 52 [some (.ref 133), some (.int v1), some (.int v2), some (.int v3), some (.int 0)] [] X) : Ev g mX12_findNeeds d n0 nf post n 43 [some (.ref 133), some (.int v1), some (.int v2), some (.int v3), none] [] X := by
  refine ev_iload_n dX12_findNeeds_43 rfl ?_
  refine ev_bipush (v := 10) dX12_findNeeds_44 kb_10 ?_
  refine ev_icmpF (tgt := 138) dX12_findNeeds_46 (by decide) c0 ?_
  refine ev_iconst (v := 0) dX12_findNeeds_49 ki_0 ?_
  refine ev_istore dX12_findNeeds_50 (by decide) ?_
  exact k
theorem bX12_findNeeds_43_1 {g : GG} {d n0 nf : Nat} {post : Option Value → LX → Prop} {n : Nat} {X : LX} (hn : 146 ≤ n) (hX : Sh n X) {v1 : Int32} {v2 : Int32} {v3 : Int32} (c0 : 10 ≤ v3) (k : Ev g mX12_findNeeds d n0 nf post n 24 [some (.ref 133), some (.int (v1 + 1)), some (.int v2), some (.int v3), none] [] X) : Ev g mX12_findNeeds d n0 nf post n 43 [some (.ref 133), some (.int v1), some (.int v2), some (.int v3), none] [] X := by
  refine ev_iload_n dX12_findNeeds_43 rfl ?_
  refine ev_bipush (v := 10) dX12_findNeeds_44 kb_10 ?_
  refine ev_icmpT (tgt := 138) dX12_findNeeds_46 (by decide) c0 ?_
  refine ev_iinc (v := v1 + 1) dX12_findNeeds_138 rfl (by rw [show Int32.ofInt 1 = 1 from ki_1]) (by decide) ?_
  refine ev_goto (tgt := 24) dX12_findNeeds_141 (by decide) ?_
  exact k
theorem bX12_findNeeds_52_0 {g : GG} {d n0 nf : Nat} {post : Option Value → LX → Prop} {n : Nat} {X : LX} (hn : 146 ≤ n) (hX : Sh n X) {v1 : Int32} {v2 : Int32} {v3 : Int32} {v4 : Int32} (k : Ev g mX12_findNeeds d n0 nf post n 60 [some (.ref 133), some (.int v1), some (.int v2), some (.int v3), some (.int v4)] [.int 2, .int v3, .ref 134, .int v4] X) : Ev g mX12_findNeeds d n0 nf post n 52 [some (.ref 133), some (.int v1), some (.int v2), some (.int v3), some (.int v4)] [] X := by
  refine ev_iload dX12_findNeeds_52 rfl ?_
  refine ev_aload_n dX12_findNeeds_54 rfl ?_
  refine ev_getS (q := 134) dX12_findNeeds_55 fo_12_9 (by omega) lo_133 rfl (sh_133_0 hX (by omega)) (by decide) ?_
  refine ev_iload_n dX12_findNeeds_58 rfl ?_
  refine ev_iconst (v := 2) dX12_findNeeds_59 ki_2 ?_
  exact k
theorem bX12_findNeeds_63_0 {g : GG} {d n0 nf : Nat} {post : Option Value → LX → Prop} {n : Nat} {X : LX} (hn : 146 ≤ n) (hX : Sh n X) {v1 : Int32} {v2 : Int32} {v3 : Int32} {v4 : Int32} {s0 : Int32} {s2 : Nat} (b0 : s2 < 2156) (c0 : ¬ X 134 s2 ≤ s0) (k : Ev g mX12_findNeeds d n0 nf post n 69 [some (.ref 133), some (.int v1), some (.int v2), some (.int v3), some (.int v4)] [.int v3, .int v2] X) : Ev g mX12_findNeeds d n0 nf post n 63 [some (.ref 133), some (.int v1), some (.int v2), some (.int v3), some (.int v4)] [.int (nI s2), .ref 134, .int s0] X := by
  refine ev_iald dX12_findNeeds_63 (by omega) ly_134 rfl b0 ?_
  refine ev_icmpF (tgt := 132) dX12_findNeeds_64 (by decide) c0 ?_
  refine ev_iload_n dX12_findNeeds_67 rfl ?_
  refine ev_iload_n dX12_findNeeds_68 rfl ?_
  exact k
theorem bX12_findNeeds_63_1 {g : GG} {d n0 nf : Nat} {post : Option Value → LX → Prop} {n : Nat} {X : LX} (hn : 146 ≤ n) (hX : Sh n X) {v1 : Int32} {v2 : Int32} {v3 : Int32} {v4 : Int32} {s0 : Int32} {s2 : Nat} (b0 : s2 < 2156) (c0 : X 134 s2 ≤ s0) (k : Ev g mX12_findNeeds d n0 nf post n 43 [some (.ref 133), some (.int v1), some (.int v2), some (.int (v3 + 1)), some (.int v4)] [] X) : Ev g mX12_findNeeds d n0 nf post n 63 [some (.ref 133), some (.int v1), some (.int v2), some (.int v3), some (.int v4)] [.int (nI s2), .ref 134, .int s0] X := by
  refine ev_iald dX12_findNeeds_63 (by omega) ly_134 rfl b0 ?_
  refine ev_icmpT (tgt := 132) dX12_findNeeds_64 (by decide) c0 ?_
  refine ev_iinc (v := v3 + 1) dX12_findNeeds_132 rfl (by rw [show Int32.ofInt 1 = 1 from ki_1]) (by decide) ?_
  refine ev_goto (tgt := 43) dX12_findNeeds_135 (by decide) ?_
  exact k
theorem bX12_findNeeds_72_0 {g : GG} {d n0 nf : Nat} {post : Option Value → LX → Prop} {n : Nat} {X : LX} (hn : 146 ≤ n) (hX : Sh n X) {v1 : Int32} {v2 : Int32} {v3 : Int32} {v4 : Int32} {s0 : Int32} (c0 : ¬ s0 = 0) (k : Ev g mX12_findNeeds d n0 nf post n 92 [some (.ref 133), some (.int v1), some (.int v2), some (.int v3), some (.int v4)] [.int (3 + v4), .int v3, .ref 134, .int (14 * v1), .ref 140] X) : Ev g mX12_findNeeds d n0 nf post n 72 [some (.ref 133), some (.int v1), some (.int v2), some (.int v3), some (.int v4)] [.int s0] X := by
  refine ev_ifF (tgt := 132) dX12_findNeeds_72 (by decide) c0 ?_
  refine ev_aload_n dX12_findNeeds_75 rfl ?_
  refine ev_getS (q := 140) dX12_findNeeds_76 fo_12_28 (by omega) lo_133 rfl (sh_133_9 hX (by omega)) (by decide) ?_
  refine ev_bipush (v := 14) dX12_findNeeds_79 kb_14 ?_
  refine ev_iload_n dX12_findNeeds_81 rfl ?_
  refine ev_imul dX12_findNeeds_82 ?_
  refine ev_aload_n dX12_findNeeds_83 rfl ?_
  refine ev_getS (q := 134) dX12_findNeeds_84 fo_12_9 (by omega) lo_133 rfl (sh_133_0 hX (by omega)) (by decide) ?_
  refine ev_iload_n dX12_findNeeds_87 rfl ?_
  refine ev_iconst (v := 3) dX12_findNeeds_88 ki_3 ?_
  refine ev_iload dX12_findNeeds_89 rfl ?_
  refine ev_iadd dX12_findNeeds_91 ?_
  exact k
theorem bX12_findNeeds_72_1 {g : GG} {d n0 nf : Nat} {post : Option Value → LX → Prop} {n : Nat} {X : LX} (hn : 146 ≤ n) (hX : Sh n X) {v1 : Int32} {v2 : Int32} {v3 : Int32} {v4 : Int32} {s0 : Int32} (c0 : s0 = 0) (k : Ev g mX12_findNeeds d n0 nf post n 43 [some (.ref 133), some (.int v1), some (.int v2), some (.int (v3 + 1)), some (.int v4)] [] X) : Ev g mX12_findNeeds d n0 nf post n 72 [some (.ref 133), some (.int v1), some (.int v2), some (.int v3), some (.int v4)] [.int s0] X := by
  refine ev_ifT (tgt := 132) dX12_findNeeds_72 (by decide) c0 ?_
  refine ev_iinc (v := v3 + 1) dX12_findNeeds_132 rfl (by rw [show Int32.ofInt 1 = 1 from ki_1]) (by decide) ?_
  refine ev_goto (tgt := 43) dX12_findNeeds_135 (by decide) ?_
  exact k
theorem bX12_findNeeds_95_0 {g : GG} {d n0 nf : Nat} {post : Option Value → LX → Prop} {n : Nat} {X : LX} (hn : 146 ≤ n) (hX : Sh n X) {v1 : Int32} {v2 : Int32} {v3 : Int32} {v4 : Int32} {s1 : Int32} {s3 : Nat} {j1 : Nat} (b0 : s3 < 2156) (hj1 : s1 + (X 134 s3) = nI j1) (b1 : j1 < 168) (k : Ev g mX12_findNeeds d n0 nf post n 109 [some (.ref 133), some (.int v1), some (.int v2), some (.int v3), some (.int v4)] [.int (8 + v4), .int v3, .ref 134, .int (X 140 j1), .int (s1 + (X 134 s3)), .ref 140] X) : Ev g mX12_findNeeds d n0 nf post n 95 [some (.ref 133), some (.int v1), some (.int v2), some (.int v3), some (.int v4)] [.int (nI s3), .ref 134, .int s1, .ref 140] X := by
  refine ev_iald dX12_findNeeds_95 (by omega) ly_134 rfl b0 ?_
  refine ev_iadd dX12_findNeeds_96 ?_
  refine ev_dup2 dX12_findNeeds_97 rfl rfl ?_
  refine ev_iald dX12_findNeeds_98 (by omega) ly_140 hj1 b1 ?_
  refine ev_aload_n dX12_findNeeds_99 rfl ?_
  refine ev_getS (q := 134) dX12_findNeeds_100 fo_12_9 (by omega) lo_133 rfl (sh_133_0 hX (by omega)) (by decide) ?_
  refine ev_iload_n dX12_findNeeds_103 rfl ?_
  refine ev_bipush (v := 8) dX12_findNeeds_104 kb_8 ?_
  refine ev_iload dX12_findNeeds_106 rfl ?_
  refine ev_iadd dX12_findNeeds_108 ?_
  exact k
theorem bX12_findNeeds_112_0 {g : GG} {d n0 nf : Nat} {post : Option Value → LX → Prop} {n : Nat} {X : LX} (hn : 146 ≤ n) (hX : Sh n X) {v1 : Int32} {v2 : Int32} {v3 : Int32} {v4 : Int32} {s1 : Int32} {s2 : Int32} {s4 : Nat} (b0 : s4 < 2156) (k : Ev g mX12_findNeeds d n0 nf post n 119 [some (.ref 133), some (.int v1), some (.int v2), some (.int v3), some (.int v4)] [.int 1, .int v1, .ref 134, .int (X 134 s4), .int s2, .int s1, .ref 140] X) : Ev g mX12_findNeeds d n0 nf post n 112 [some (.ref 133), some (.int v1), some (.int v2), some (.int v3), some (.int v4)] [.int (nI s4), .ref 134, .int s2, .int s1, .ref 140] X := by
  refine ev_iald dX12_findNeeds_112 (by omega) ly_134 rfl b0 ?_
  refine ev_aload_n dX12_findNeeds_113 rfl ?_
  refine ev_getS (q := 134) dX12_findNeeds_114 fo_12_9 (by omega) lo_133 rfl (sh_133_0 hX (by omega)) (by decide) ?_
  refine ev_iload_n dX12_findNeeds_117 rfl ?_
  refine ev_iconst (v := 1) dX12_findNeeds_118 ki_1 ?_
  exact k
theorem bX12_findNeeds_122_0 {g : GG} {d n0 nf : Nat} {post : Option Value → LX → Prop} {n : Nat} {X : LX} (hn : 146 ≤ n) (hX : Sh n X) {v1 : Int32} {v2 : Int32} {v3 : Int32} {v4 : Int32} {s1 : Nat} {s2 : Int32} {s3 : Int32} {s5 : Nat} (b0 : s5 < 2156) (b1 : s1 < 168) (k : Ev g mX12_findNeeds d n0 nf post n 52 [some (.ref 133), some (.int v1), some (.int v2), some (.int v3), some (.int (v4 + 1))] [] (lx_up X 140 s1 (s2 + (s3 * (X 134 s5))))) : Ev g mX12_findNeeds d n0 nf post n 122 [some (.ref 133), some (.int v1), some (.int v2), some (.int v3), some (.int v4)] [.int (nI s5), .ref 134, .int s3, .int s2, .int (nI s1), .ref 140] X := by
  refine ev_iald dX12_findNeeds_122 (by omega) ly_134 rfl b0 ?_
  refine ev_imul dX12_findNeeds_123 ?_
  refine ev_iadd dX12_findNeeds_124 ?_
  refine ev_iast dX12_findNeeds_125 (by omega) ly_140 rfl b1 ?_
  have hX1 : Sh _ (lx_up X 140 s1 (s2 + (s3 * (X 134 s5)))) := Sh.upA hX (by rw [ly_140]; exact (by decide : 0 < 2))
  refine ev_iinc (v := v4 + 1) dX12_findNeeds_126 rfl (by rw [show Int32.ofInt 1 = 1 from ki_1]) (by decide) ?_
  refine ev_goto (tgt := 52) dX12_findNeeds_129 (by decide) ?_
  exact k
theorem bX12_ice_0_0 {g : GG} {d n0 nf : Nat} {post : Option Value → LX → Prop} {n : Nat} {X : LX} (hn : 146 ≤ n) (hX : Sh n X) {v1 : Int32} (k : Ev g mX12_ice d n0 nf post n 2 [some (.ref 133), some (.int v1)] [.int v1, .ref 133] X) : Ev g mX12_ice d n0 nf post n 0 [some (.ref 133), some (.int v1)] [] X := by
  refine ev_aload_n dX12_ice_0 rfl ?_
  refine ev_iload_n dX12_ice_1 rfl ?_
  exact k
theorem bX12_ice_5_0 {g : GG} {d n0 nf : Nat} {post : Option Value → LX → Prop} {n : Nat} {X : LX} (hn : 146 ≤ nf) (hX : Sh nf X) {v1 : Int32} {s0 : Int32} (c0 : s0 = 0) (hp : post (some (.int (-1000000001))) X) : Ev g mX12_ice d n0 nf post nf 5 [some (.ref 133), some (.int v1)] [.int s0] X := by
  refine ev_ifF (tgt := 11) dX12_ice_5 (by decide) c0 ?_
  refine ev_ldc (v := (-1000000001)) dX12_ice_8 kw_12_57 ?_
  exact ev_iret dX12_ice_10 rfl rfl hp
theorem bX12_ice_5_1 {g : GG} {d n0 nf : Nat} {post : Option Value → LX → Prop} {n : Nat} {X : LX} (hn : 146 ≤ n) (hX : Sh n X) {v1 : Int32} {s0 : Int32} (c0 : ¬ s0 = 0) (c1 : ¬ X 134 2 = 0) (k : Ev g mX12_ice d n0 nf post n 22 [some (.ref 133), some (.int v1)] [.int v1, .ref 133] X) : Ev g mX12_ice d n0 nf post n 5 [some (.ref 133), some (.int v1)] [.int s0] X := by
  refine ev_ifT (tgt := 11) dX12_ice_5 (by decide) c0 ?_
  refine ev_aload_n dX12_ice_11 rfl ?_
  refine ev_getS (q := 134) dX12_ice_12 fo_12_9 (by omega) lo_133 rfl (sh_133_0 hX (by omega)) (by decide) ?_
  refine ev_iconst (v := 2) dX12_ice_15 ki_2 ?_
  refine ev_iald dX12_ice_16 (by omega) ly_134 nIl_2 (by decide) ?_
  refine ev_ifF (tgt := 28) dX12_ice_17 (by decide) c1 ?_
  refine ev_aload_n dX12_ice_20 rfl ?_
  refine ev_iload_n dX12_ice_21 rfl ?_
  exact k
theorem bX12_ice_5_2 {g : GG} {d n0 nf : Nat} {post : Option Value → LX → Prop} {n : Nat} {X : LX} (hn : 146 ≤ nf) (hX : Sh nf X) {v1 : Int32} {s0 : Int32} (c0 : ¬ s0 = 0) (c1 : X 134 2 = 0) (hp : post (some (.int 0)) X) : Ev g mX12_ice d n0 nf post nf 5 [some (.ref 133), some (.int v1)] [.int s0] X := by
  refine ev_ifT (tgt := 11) dX12_ice_5 (by decide) c0 ?_
  refine ev_aload_n dX12_ice_11 rfl ?_
  refine ev_getS (q := 134) dX12_ice_12 fo_12_9 (by omega) lo_133 rfl (sh_133_0 hX (by omega)) (by decide) ?_
  refine ev_iconst (v := 2) dX12_ice_15 ki_2 ?_
  refine ev_iald dX12_ice_16 (by omega) ly_134 nIl_2 (by decide) ?_
  refine ev_ifT (tgt := 28) dX12_ice_17 (by decide) c1 ?_
  refine ev_iconst (v := 0) dX12_ice_28 ki_0 ?_
  exact ev_iret dX12_ice_29 rfl rfl hp
theorem bX12_ice_25_0 {g : GG} {d n0 nf : Nat} {post : Option Value → LX → Prop} {n : Nat} {X : LX} (hn : 146 ≤ nf) (hX : Sh nf X) {v1 : Int32} {s0 : Int32} (c0 : s0 = 0) (hp : post (some (.int 0)) X) : Ev g mX12_ice d n0 nf post nf 25 [some (.ref 133), some (.int v1)] [.int s0] X := by
  refine ev_ifF (tgt := 30) dX12_ice_25 (by decide) c0 ?_
  refine ev_iconst (v := 0) dX12_ice_28 ki_0 ?_
  exact ev_iret dX12_ice_29 rfl rfl hp
theorem bX12_ice_25_1 {g : GG} {d n0 nf : Nat} {post : Option Value → LX → Prop} {n : Nat} {X : LX} (hn : 146 ≤ n) (hX : Sh n X) {v1 : Int32} {s0 : Int32} (c0 : ¬ s0 = 0) (k : Ev g mX12_ice d n0 nf post n 37 [some (.ref 133), some (.int v1)] [.int v1, .int 1, .ref 133, .int 9999, .int 0] X) : Ev g mX12_ice d n0 nf post n 25 [some (.ref 133), some (.int v1)] [.int s0] X := by
  refine ev_ifT (tgt := 30) dX12_ice_25 (by decide) c0 ?_
  refine ev_iconst (v := 0) dX12_ice_30 ki_0 ?_
  refine ev_sipush (v := 9999) dX12_ice_31 ks_9999 ?_
  refine ev_aload_n dX12_ice_34 rfl ?_
  refine ev_iconst (v := 1) dX12_ice_35 ki_1 ?_
  refine ev_iload_n dX12_ice_36 rfl ?_
  exact k
theorem bX12_ice_40_0 {g : GG} {d n0 nf : Nat} {post : Option Value → LX → Prop} {n : Nat} {X : LX} (hn : 146 ≤ n) (hX : Sh n X) {v1 : Int32} {s0 : Int32} {s1 : Int32} {s2 : Int32} (k : Ev g mX12_ice d n0 nf post n 40 [some (.ref 133), some (.int v1)] [.int s2, .int s1, .int s0] X) : Ev g mX12_ice d n0 nf post n 40 [some (.ref 133), some (.int v1)] [.int s2, .int s1, .int s0] X := by
  exact k
theorem bX12_ice_43_0 {g : GG} {d n0 nf : Nat} {post : Option Value → LX → Prop} {n : Nat} {X : LX} (hn : 146 ≤ n) (hX : Sh n X) {v1 : Int32} {s0 : Int32} {s1 : Int32} (k : Ev g mX12_ice d n0 nf post n 43 [some (.ref 133), some (.int v1)] [.int s1, .int s0] X) : Ev g mX12_ice d n0 nf post n 43 [some (.ref 133), some (.int v1)] [.int s1, .int s0] X := by
  exact k
theorem bX12_ice_46_0 {g : GG} {d n0 nf : Nat} {post : Option Value → LX → Prop} {n : Nat} {X : LX} (hn : 146 ≤ nf) (hX : Sh nf X) {v1 : Int32} {s0 : Int32} (hp : post (some (.int s0)) X) : Ev g mX12_ice d n0 nf post nf 46 [some (.ref 133), some (.int v1)] [.int s0] X := by
  exact ev_iret dX12_ice_46 rfl rfl hp
theorem bX12_feed_0_0 {g : GG} {d n0 nf : Nat} {post : Option Value → LX → Prop} {n : Nat} {X : LX} (hn : 146 ≤ nf) (hX : Sh nf X) {v1 : Int32} {v2 : Int32} {v3 : Int32} (c0 : ¬ (X 133 4) + 12 ≤ 120) (hp : post (some (.int (-1000000003))) X) : Ev g mX12_feed d n0 nf post nf 0 [some (.ref 133), some (.int v1), some (.int v2), some (.int v3), none, none] [] X := by
  refine ev_aload_n dX12_feed_0 rfl ?_
  refine ev_getI dX12_feed_1 fo_12_121 (by omega) lo_133 rfl ?_
  refine ev_bipush (v := 12) dX12_feed_4 kb_12 ?_
  refine ev_iadd dX12_feed_6 ?_
  refine ev_bipush (v := 120) dX12_feed_7 kb_120 ?_
  refine ev_icmpF (tgt := 15) dX12_feed_9 (by decide) c0 ?_
  refine ev_ldc (v := (-1000000003)) dX12_feed_12 kw_12_58 ?_
  exact ev_iret dX12_feed_14 rfl rfl hp
theorem bX12_feed_0_1 {g : GG} {d n0 nf : Nat} {post : Option Value → LX → Prop} {n : Nat} {X : LX} (hn : 146 ≤ n) (hX : Sh n X) {v1 : Int32} {v2 : Int32} {v3 : Int32} (c0 : (X 133 4) + 12 ≤ 120) (k : Ev g mX12_feed d n0 nf post n 18 [some (.ref 133), some (.int v1), some (.int v2), some (.int v3), some (.int 0), none] [] X) : Ev g mX12_feed d n0 nf post n 0 [some (.ref 133), some (.int v1), some (.int v2), some (.int v3), none, none] [] X := by
  refine ev_aload_n dX12_feed_0 rfl ?_
  refine ev_getI dX12_feed_1 fo_12_121 (by omega) lo_133 rfl ?_
  refine ev_bipush (v := 12) dX12_feed_4 kb_12 ?_
  refine ev_iadd dX12_feed_6 ?_
  refine ev_bipush (v := 120) dX12_feed_7 kb_120 ?_
  refine ev_icmpT (tgt := 15) dX12_feed_9 (by decide) c0 ?_
  refine ev_iconst (v := 0) dX12_feed_15 ki_0 ?_
  refine ev_istore dX12_feed_16 (by decide) ?_
  exact k
theorem bX12_feed_18_0 {g : GG} {d n0 nf : Nat} {post : Option Value → LX → Prop} {n : Nat} {X : LX} (hn : 146 ≤ n) (hX : Sh n X) {v1 : Int32} {v2 : Int32} {v3 : Int32} {v4 : Int32} {j1 : Nat} (c0 : ¬ 12 ≤ v4) (c1 : ¬ 4 ≤ v4) (hj1 : X 133 4 = nI j1) (b0 : j1 < 120) (k : Ev g mX12_feed d n0 nf post n 18 [some (.ref 133), some (.int v1), some (.int v2), some (.int v3), some (.int (v4 + 1)), some (.int v1)] [] (lx_up (lx_up X 136 j1 ((v1 >>> ((24 - (8 * (v4 - v4 / 4 * 4))) &&& 31)) &&& 255)) 133 4 ((X 133 4) + 1))) : Ev g mX12_feed d n0 nf post n 18 [some (.ref 133), some (.int v1), some (.int v2), some (.int v3), some (.int v4), none] [] X := by
  refine ev_iload dX12_feed_18 rfl ?_
  refine ev_bipush (v := 12) dX12_feed_20 kb_12 ?_
  refine ev_icmpF (tgt := 91) dX12_feed_22 (by decide) c0 ?_
  refine ev_iload dX12_feed_25 rfl ?_
  refine ev_iconst (v := 4) dX12_feed_27 ki_4 ?_
  refine ev_icmpF (tgt := 35) dX12_feed_28 (by decide) c1 ?_
  refine ev_iload_n dX12_feed_31 rfl ?_
  refine ev_goto (tgt := 47) dX12_feed_32 (by decide) ?_
  refine ev_istore dX12_feed_47 (by decide) ?_
  refine ev_aload_n dX12_feed_49 rfl ?_
  refine ev_getS (q := 136) dX12_feed_50 fo_12_16 (by omega) lo_133 rfl (sh_133_3 hX (by omega)) (by decide) ?_
  refine ev_aload_n dX12_feed_53 rfl ?_
  refine ev_getI dX12_feed_54 fo_12_121 (by omega) lo_133 rfl ?_
  refine ev_iload dX12_feed_57 rfl ?_
  refine ev_bipush (v := 24) dX12_feed_59 kb_24 ?_
  refine ev_bipush (v := 8) dX12_feed_61 kb_8 ?_
  refine ev_iload dX12_feed_63 rfl ?_
  refine ev_iconst (v := 4) dX12_feed_65 ki_4 ?_
  refine ev_irem dX12_feed_66 (by decide) ?_
  refine ev_imul dX12_feed_67 ?_
  refine ev_isub dX12_feed_68 ?_
  refine ev_ishr dX12_feed_69 ?_
  refine ev_sipush (v := 255) dX12_feed_70 ks_255 ?_
  refine ev_iand dX12_feed_73 ?_
  refine ev_iast dX12_feed_74 (by omega) ly_136 hj1 b0 ?_
  have hX1 : Sh _ (lx_up X 136 j1 ((v1 >>> ((24 - (8 * (v4 - v4 / 4 * 4))) &&& 31)) &&& 255)) := Sh.upA hX (by rw [ly_136]; exact (by decide : 0 < 2))
  refine ev_aload_n dX12_feed_75 rfl ?_
  refine ev_dup dX12_feed_76 rfl ?_
  refine ev_getI dX12_feed_77 fo_12_121 (by omega) lo_133 rfl ?_
  refine ev_iconst (v := 1) dX12_feed_80 ki_1 ?_
  refine ev_iadd dX12_feed_81 ?_
  refine ev_putI dX12_feed_82 fo_12_121 (by omega) lo_133 rfl rfl rfl ?_
  have hX2 : Sh _ (lx_up (lx_up X 136 j1 ((v1 >>> ((24 - (8 * (v4 - v4 / 4 * 4))) &&& 31)) &&& 255)) 133 4 ((X 133 4) + 1)) := Sh.upF hX1 (by rw [lo_133]; decide) (by decide)
  refine ev_iinc (v := v4 + 1) dX12_feed_85 rfl (by rw [show Int32.ofInt 1 = 1 from ki_1]) (by decide) ?_
  refine ev_goto (tgt := 18) dX12_feed_88 (by decide) ?_
  exact k
theorem bX12_feed_18_1 {g : GG} {d n0 nf : Nat} {post : Option Value → LX → Prop} {n : Nat} {X : LX} (hn : 146 ≤ n) (hX : Sh n X) {v1 : Int32} {v2 : Int32} {v3 : Int32} {v4 : Int32} {j1 : Nat} (c0 : ¬ 12 ≤ v4) (c1 : 4 ≤ v4) (c2 : ¬ 8 ≤ v4) (hj1 : X 133 4 = nI j1) (b0 : j1 < 120) (k : Ev g mX12_feed d n0 nf post n 18 [some (.ref 133), some (.int v1), some (.int v2), some (.int v3), some (.int (v4 + 1)), some (.int v2)] [] (lx_up (lx_up X 136 j1 ((v2 >>> ((24 - (8 * (v4 - v4 / 4 * 4))) &&& 31)) &&& 255)) 133 4 ((X 133 4) + 1))) : Ev g mX12_feed d n0 nf post n 18 [some (.ref 133), some (.int v1), some (.int v2), some (.int v3), some (.int v4), none] [] X := by
  refine ev_iload dX12_feed_18 rfl ?_
  refine ev_bipush (v := 12) dX12_feed_20 kb_12 ?_
  refine ev_icmpF (tgt := 91) dX12_feed_22 (by decide) c0 ?_
  refine ev_iload dX12_feed_25 rfl ?_
  refine ev_iconst (v := 4) dX12_feed_27 ki_4 ?_
  refine ev_icmpT (tgt := 35) dX12_feed_28 (by decide) c1 ?_
  refine ev_iload dX12_feed_35 rfl ?_
  refine ev_bipush (v := 8) dX12_feed_37 kb_8 ?_
  refine ev_icmpF (tgt := 46) dX12_feed_39 (by decide) c2 ?_
  refine ev_iload_n dX12_feed_42 rfl ?_
  refine ev_goto (tgt := 47) dX12_feed_43 (by decide) ?_
  refine ev_istore dX12_feed_47 (by decide) ?_
  refine ev_aload_n dX12_feed_49 rfl ?_
  refine ev_getS (q := 136) dX12_feed_50 fo_12_16 (by omega) lo_133 rfl (sh_133_3 hX (by omega)) (by decide) ?_
  refine ev_aload_n dX12_feed_53 rfl ?_
  refine ev_getI dX12_feed_54 fo_12_121 (by omega) lo_133 rfl ?_
  refine ev_iload dX12_feed_57 rfl ?_
  refine ev_bipush (v := 24) dX12_feed_59 kb_24 ?_
  refine ev_bipush (v := 8) dX12_feed_61 kb_8 ?_
  refine ev_iload dX12_feed_63 rfl ?_
  refine ev_iconst (v := 4) dX12_feed_65 ki_4 ?_
  refine ev_irem dX12_feed_66 (by decide) ?_
  refine ev_imul dX12_feed_67 ?_
  refine ev_isub dX12_feed_68 ?_
  refine ev_ishr dX12_feed_69 ?_
  refine ev_sipush (v := 255) dX12_feed_70 ks_255 ?_
  refine ev_iand dX12_feed_73 ?_
  refine ev_iast dX12_feed_74 (by omega) ly_136 hj1 b0 ?_
  have hX1 : Sh _ (lx_up X 136 j1 ((v2 >>> ((24 - (8 * (v4 - v4 / 4 * 4))) &&& 31)) &&& 255)) := Sh.upA hX (by rw [ly_136]; exact (by decide : 0 < 2))
  refine ev_aload_n dX12_feed_75 rfl ?_
  refine ev_dup dX12_feed_76 rfl ?_
  refine ev_getI dX12_feed_77 fo_12_121 (by omega) lo_133 rfl ?_
  refine ev_iconst (v := 1) dX12_feed_80 ki_1 ?_
  refine ev_iadd dX12_feed_81 ?_
  refine ev_putI dX12_feed_82 fo_12_121 (by omega) lo_133 rfl rfl rfl ?_
  have hX2 : Sh _ (lx_up (lx_up X 136 j1 ((v2 >>> ((24 - (8 * (v4 - v4 / 4 * 4))) &&& 31)) &&& 255)) 133 4 ((X 133 4) + 1)) := Sh.upF hX1 (by rw [lo_133]; decide) (by decide)
  refine ev_iinc (v := v4 + 1) dX12_feed_85 rfl (by rw [show Int32.ofInt 1 = 1 from ki_1]) (by decide) ?_
  refine ev_goto (tgt := 18) dX12_feed_88 (by decide) ?_
  exact k
theorem bX12_feed_18_2 {g : GG} {d n0 nf : Nat} {post : Option Value → LX → Prop} {n : Nat} {X : LX} (hn : 146 ≤ n) (hX : Sh n X) {v1 : Int32} {v2 : Int32} {v3 : Int32} {v4 : Int32} {j1 : Nat} (c0 : ¬ 12 ≤ v4) (c1 : 4 ≤ v4) (c2 : 8 ≤ v4) (hj1 : X 133 4 = nI j1) (b0 : j1 < 120) (k : Ev g mX12_feed d n0 nf post n 18 [some (.ref 133), some (.int v1), some (.int v2), some (.int v3), some (.int (v4 + 1)), some (.int v3)] [] (lx_up (lx_up X 136 j1 ((v3 >>> ((24 - (8 * (v4 - v4 / 4 * 4))) &&& 31)) &&& 255)) 133 4 ((X 133 4) + 1))) : Ev g mX12_feed d n0 nf post n 18 [some (.ref 133), some (.int v1), some (.int v2), some (.int v3), some (.int v4), none] [] X := by
  refine ev_iload dX12_feed_18 rfl ?_
  refine ev_bipush (v := 12) dX12_feed_20 kb_12 ?_
  refine ev_icmpF (tgt := 91) dX12_feed_22 (by decide) c0 ?_
  refine ev_iload dX12_feed_25 rfl ?_
  refine ev_iconst (v := 4) dX12_feed_27 ki_4 ?_
  refine ev_icmpT (tgt := 35) dX12_feed_28 (by decide) c1 ?_
  refine ev_iload dX12_feed_35 rfl ?_
  refine ev_bipush (v := 8) dX12_feed_37 kb_8 ?_
  refine ev_icmpT (tgt := 46) dX12_feed_39 (by decide) c2 ?_
  refine ev_iload_n dX12_feed_46 rfl ?_
  refine ev_istore dX12_feed_47 (by decide) ?_
  refine ev_aload_n dX12_feed_49 rfl ?_
  refine ev_getS (q := 136) dX12_feed_50 fo_12_16 (by omega) lo_133 rfl (sh_133_3 hX (by omega)) (by decide) ?_
  refine ev_aload_n dX12_feed_53 rfl ?_
  refine ev_getI dX12_feed_54 fo_12_121 (by omega) lo_133 rfl ?_
  refine ev_iload dX12_feed_57 rfl ?_
  refine ev_bipush (v := 24) dX12_feed_59 kb_24 ?_
  refine ev_bipush (v := 8) dX12_feed_61 kb_8 ?_
  refine ev_iload dX12_feed_63 rfl ?_
  refine ev_iconst (v := 4) dX12_feed_65 ki_4 ?_
  refine ev_irem dX12_feed_66 (by decide) ?_
  refine ev_imul dX12_feed_67 ?_
  refine ev_isub dX12_feed_68 ?_
  refine ev_ishr dX12_feed_69 ?_
  refine ev_sipush (v := 255) dX12_feed_70 ks_255 ?_
  refine ev_iand dX12_feed_73 ?_
  refine ev_iast dX12_feed_74 (by omega) ly_136 hj1 b0 ?_
  have hX1 : Sh _ (lx_up X 136 j1 ((v3 >>> ((24 - (8 * (v4 - v4 / 4 * 4))) &&& 31)) &&& 255)) := Sh.upA hX (by rw [ly_136]; exact (by decide : 0 < 2))
  refine ev_aload_n dX12_feed_75 rfl ?_
  refine ev_dup dX12_feed_76 rfl ?_
  refine ev_getI dX12_feed_77 fo_12_121 (by omega) lo_133 rfl ?_
  refine ev_iconst (v := 1) dX12_feed_80 ki_1 ?_
  refine ev_iadd dX12_feed_81 ?_
  refine ev_putI dX12_feed_82 fo_12_121 (by omega) lo_133 rfl rfl rfl ?_
  have hX2 : Sh _ (lx_up (lx_up X 136 j1 ((v3 >>> ((24 - (8 * (v4 - v4 / 4 * 4))) &&& 31)) &&& 255)) 133 4 ((X 133 4) + 1)) := Sh.upF hX1 (by rw [lo_133]; decide) (by decide)
  refine ev_iinc (v := v4 + 1) dX12_feed_85 rfl (by rw [show Int32.ofInt 1 = 1 from ki_1]) (by decide) ?_
  refine ev_goto (tgt := 18) dX12_feed_88 (by decide) ?_
  exact k
theorem bX12_feed_18_3 {g : GG} {d n0 nf : Nat} {post : Option Value → LX → Prop} {n : Nat} {X : LX} (hn : 146 ≤ nf) (hX : Sh nf X) {v1 : Int32} {v2 : Int32} {v3 : Int32} {v4 : Int32} (c0 : 12 ≤ v4) (hp : post (some (.int (X 133 4))) X) : Ev g mX12_feed d n0 nf post nf 18 [some (.ref 133), some (.int v1), some (.int v2), some (.int v3), some (.int v4), none] [] X := by
  refine ev_iload dX12_feed_18 rfl ?_
  refine ev_bipush (v := 12) dX12_feed_20 kb_12 ?_
  refine ev_icmpT (tgt := 91) dX12_feed_22 (by decide) c0 ?_
  refine ev_aload_n dX12_feed_91 rfl ?_
  refine ev_getI dX12_feed_92 fo_12_121 (by omega) lo_133 rfl ?_
  exact ev_iret dX12_feed_95 rfl rfl hp
