theorem bJ6_bitCount_0f7a4_0_0 {g : GG} {d n0 nf : Nat} {post : Option Value → LX → Prop} {n : Nat} {X : LX} (hn : 146 ≤ nf) (hX : Sh nf X) {v0 : Int32} (hp : post (some (.int ((((((((v0 - (((v0.toUInt32 >>> ((1 : Int32).toUInt32 &&& Int32.toUInt32 31)).toInt32) &&& 1431655765)) &&& 858993459) + ((((v0 - (((v0.toUInt32 >>> ((1 : Int32).toUInt32 &&& Int32.toUInt32 31)).toInt32) &&& 1431655765)).toUInt32 >>> ((2 : Int32).toUInt32 &&& Int32.toUInt32 31)).toInt32) &&& 858993459)) + (((((v0 - (((v0.toUInt32 >>> ((1 : Int32).toUInt32 &&& Int32.toUInt32 31)).toInt32) &&& 1431655765)) &&& 858993459) + ((((v0 - (((v0.toUInt32 >>> ((1 : Int32).toUInt32 &&& Int32.toUInt32 31)).toInt32) &&& 1431655765)).toUInt32 >>> ((2 : Int32).toUInt32 &&& Int32.toUInt32 31)).toInt32) &&& 858993459)).toUInt32 >>> ((4 : Int32).toUInt32 &&& Int32.toUInt32 31)).toInt32)) &&& 252645135) + (((((((v0 - (((v0.toUInt32 >>> ((1 : Int32).toUInt32 &&& Int32.toUInt32 31)).toInt32) &&& 1431655765)) &&& 858993459) + ((((v0 - (((v0.toUInt32 >>> ((1 : Int32).toUInt32 &&& Int32.toUInt32 31)).toInt32) &&& 1431655765)).toUInt32 >>> ((2 : Int32).toUInt32 &&& Int32.toUInt32 31)).toInt32) &&& 858993459)) + (((((v0 - (((v0.toUInt32 >>> ((1 : Int32).toUInt32 &&& Int32.toUInt32 31)).toInt32) &&& 1431655765)) &&& 858993459) + ((((v0 - (((v0.toUInt32 >>> ((1 : Int32).toUInt32 &&& Int32.toUInt32 31)).toInt32) &&& 1431655765)).toUInt32 >>> ((2 : Int32).toUInt32 &&& Int32.toUInt32 31)).toInt32) &&& 858993459)).toUInt32 >>> ((4 : Int32).toUInt32 &&& Int32.toUInt32 31)).toInt32)) &&& 252645135).toUInt32 >>> ((8 : Int32).toUInt32 &&& Int32.toUInt32 31)).toInt32)) + ((((((((v0 - (((v0.toUInt32 >>> ((1 : Int32).toUInt32 &&& Int32.toUInt32 31)).toInt32) &&& 1431655765)) &&& 858993459) + ((((v0 - (((v0.toUInt32 >>> ((1 : Int32).toUInt32 &&& Int32.toUInt32 31)).toInt32) &&& 1431655765)).toUInt32 >>> ((2 : Int32).toUInt32 &&& Int32.toUInt32 31)).toInt32) &&& 858993459)) + (((((v0 - (((v0.toUInt32 >>> ((1 : Int32).toUInt32 &&& Int32.toUInt32 31)).toInt32) &&& 1431655765)) &&& 858993459) + ((((v0 - (((v0.toUInt32 >>> ((1 : Int32).toUInt32 &&& Int32.toUInt32 31)).toInt32) &&& 1431655765)).toUInt32 >>> ((2 : Int32).toUInt32 &&& Int32.toUInt32 31)).toInt32) &&& 858993459)).toUInt32 >>> ((4 : Int32).toUInt32 &&& Int32.toUInt32 31)).toInt32)) &&& 252645135) + (((((((v0 - (((v0.toUInt32 >>> ((1 : Int32).toUInt32 &&& Int32.toUInt32 31)).toInt32) &&& 1431655765)) &&& 858993459) + ((((v0 - (((v0.toUInt32 >>> ((1 : Int32).toUInt32 &&& Int32.toUInt32 31)).toInt32) &&& 1431655765)).toUInt32 >>> ((2 : Int32).toUInt32 &&& Int32.toUInt32 31)).toInt32) &&& 858993459)) + (((((v0 - (((v0.toUInt32 >>> ((1 : Int32).toUInt32 &&& Int32.toUInt32 31)).toInt32) &&& 1431655765)) &&& 858993459) + ((((v0 - (((v0.toUInt32 >>> ((1 : Int32).toUInt32 &&& Int32.toUInt32 31)).toInt32) &&& 1431655765)).toUInt32 >>> ((2 : Int32).toUInt32 &&& Int32.toUInt32 31)).toInt32) &&& 858993459)).toUInt32 >>> ((4 : Int32).toUInt32 &&& Int32.toUInt32 31)).toInt32)) &&& 252645135).toUInt32 >>> ((8 : Int32).toUInt32 &&& Int32.toUInt32 31)).toInt32)).toUInt32 >>> ((16 : Int32).toUInt32 &&& Int32.toUInt32 31)).toInt32)) &&& 63))) X) : Ev g mJ6_bitCount_0f7a4 d n0 nf post nf 0 [some (.int v0)] [] X := by
  refine ev_iload_n dJ6_bitCount_0f7a4_0 rfl ?_
  refine ev_iload_n dJ6_bitCount_0f7a4_1 rfl ?_
  refine ev_iconst (v := 1) dJ6_bitCount_0f7a4_2 ki_1 ?_
  refine ev_iushr dJ6_bitCount_0f7a4_3 ?_
  refine ev_ldcw (v := 1431655765) dJ6_bitCount_0f7a4_4 kw_17_265 ?_
  refine ev_iand dJ6_bitCount_0f7a4_7 ?_
  refine ev_isub dJ6_bitCount_0f7a4_8 ?_
  refine ev_istore_n dJ6_bitCount_0f7a4_9 (by decide) ?_
  refine ev_iload_n dJ6_bitCount_0f7a4_10 rfl ?_
  refine ev_ldcw (v := 858993459) dJ6_bitCount_0f7a4_11 kw_17_266 ?_
  refine ev_iand dJ6_bitCount_0f7a4_14 ?_
  refine ev_iload_n dJ6_bitCount_0f7a4_15 rfl ?_
  refine ev_iconst (v := 2) dJ6_bitCount_0f7a4_16 ki_2 ?_
  refine ev_iushr dJ6_bitCount_0f7a4_17 ?_
  refine ev_ldcw (v := 858993459) dJ6_bitCount_0f7a4_18 kw_17_266 ?_
  refine ev_iand dJ6_bitCount_0f7a4_21 ?_
  refine ev_iadd dJ6_bitCount_0f7a4_22 ?_
  refine ev_istore_n dJ6_bitCount_0f7a4_23 (by decide) ?_
  refine ev_iload_n dJ6_bitCount_0f7a4_24 rfl ?_
  refine ev_iload_n dJ6_bitCount_0f7a4_25 rfl ?_
  refine ev_iconst (v := 4) dJ6_bitCount_0f7a4_26 ki_4 ?_
  refine ev_iushr dJ6_bitCount_0f7a4_27 ?_
  refine ev_iadd dJ6_bitCount_0f7a4_28 ?_
  refine ev_ldcw (v := 252645135) dJ6_bitCount_0f7a4_29 kw_17_267 ?_
  refine ev_iand dJ6_bitCount_0f7a4_32 ?_
  refine ev_istore_n dJ6_bitCount_0f7a4_33 (by decide) ?_
  refine ev_iload_n dJ6_bitCount_0f7a4_34 rfl ?_
  refine ev_iload_n dJ6_bitCount_0f7a4_35 rfl ?_
  refine ev_bipush (v := 8) dJ6_bitCount_0f7a4_36 kb_8 ?_
  refine ev_iushr dJ6_bitCount_0f7a4_38 ?_
  refine ev_iadd dJ6_bitCount_0f7a4_39 ?_
  refine ev_istore_n dJ6_bitCount_0f7a4_40 (by decide) ?_
  refine ev_iload_n dJ6_bitCount_0f7a4_41 rfl ?_
  refine ev_iload_n dJ6_bitCount_0f7a4_42 rfl ?_
  refine ev_bipush (v := 16) dJ6_bitCount_0f7a4_43 kb_16 ?_
  refine ev_iushr dJ6_bitCount_0f7a4_45 ?_
  refine ev_iadd dJ6_bitCount_0f7a4_46 ?_
  refine ev_istore_n dJ6_bitCount_0f7a4_47 (by decide) ?_
  refine ev_iload_n dJ6_bitCount_0f7a4_48 rfl ?_
  refine ev_bipush (v := 63) dJ6_bitCount_0f7a4_49 kb_63 ?_
  refine ev_iand dJ6_bitCount_0f7a4_51 ?_
  exact ev_iret dJ6_bitCount_0f7a4_52 rfl rfl hp
theorem bJ9_max_7cf53_0_0 {g : GG} {d n0 nf : Nat} {post : Option Value → LX → Prop} {n : Nat} {X : LX} (hn : 146 ≤ nf) (hX : Sh nf X) {v0 : Int32} {v1 : Int32} (c0 : ¬ v0 < v1) (hp : post (some (.int v0)) X) : Ev g mJ9_max_7cf53 d n0 nf post nf 0 [some (.int v0), some (.int v1)] [] X := by
  refine ev_iload_n dJ9_max_7cf53_0 rfl ?_
  refine ev_iload_n dJ9_max_7cf53_1 rfl ?_
  refine ev_icmpF (tgt := 9) dJ9_max_7cf53_2 (by decide) c0 ?_
  refine ev_iload_n dJ9_max_7cf53_5 rfl ?_
  refine ev_goto (tgt := 10) dJ9_max_7cf53_6 (by decide) ?_
  exact ev_iret dJ9_max_7cf53_10 rfl rfl hp
theorem bJ9_max_7cf53_0_1 {g : GG} {d n0 nf : Nat} {post : Option Value → LX → Prop} {n : Nat} {X : LX} (hn : 146 ≤ nf) (hX : Sh nf X) {v0 : Int32} {v1 : Int32} (c0 : v0 < v1) (hp : post (some (.int v1)) X) : Ev g mJ9_max_7cf53 d n0 nf post nf 0 [some (.int v0), some (.int v1)] [] X := by
  refine ev_iload_n dJ9_max_7cf53_0 rfl ?_
  refine ev_iload_n dJ9_max_7cf53_1 rfl ?_
  refine ev_icmpT (tgt := 9) dJ9_max_7cf53_2 (by decide) c0 ?_
  refine ev_iload_n dJ9_max_7cf53_9 rfl ?_
  exact ev_iret dJ9_max_7cf53_10 rfl rfl hp
theorem bJ9_min_7cf53_0_0 {g : GG} {d n0 nf : Nat} {post : Option Value → LX → Prop} {n : Nat} {X : LX} (hn : 146 ≤ nf) (hX : Sh nf X) {v0 : Int32} {v1 : Int32} (c0 : ¬ v1 < v0) (hp : post (some (.int v0)) X) : Ev g mJ9_min_7cf53 d n0 nf post nf 0 [some (.int v0), some (.int v1)] [] X := by
  refine ev_iload_n dJ9_min_7cf53_0 rfl ?_
  refine ev_iload_n dJ9_min_7cf53_1 rfl ?_
  refine ev_icmpF (tgt := 9) dJ9_min_7cf53_2 (by decide) c0 ?_
  refine ev_iload_n dJ9_min_7cf53_5 rfl ?_
  refine ev_goto (tgt := 10) dJ9_min_7cf53_6 (by decide) ?_
  exact ev_iret dJ9_min_7cf53_10 rfl rfl hp
theorem bJ9_min_7cf53_0_1 {g : GG} {d n0 nf : Nat} {post : Option Value → LX → Prop} {n : Nat} {X : LX} (hn : 146 ≤ nf) (hX : Sh nf X) {v0 : Int32} {v1 : Int32} (c0 : v1 < v0) (hp : post (some (.int v1)) X) : Ev g mJ9_min_7cf53 d n0 nf post nf 0 [some (.int v0), some (.int v1)] [] X := by
  refine ev_iload_n dJ9_min_7cf53_0 rfl ?_
  refine ev_iload_n dJ9_min_7cf53_1 rfl ?_
  refine ev_icmpT (tgt := 9) dJ9_min_7cf53_2 (by decide) c0 ?_
  refine ev_iload_n dJ9_min_7cf53_9 rfl ?_
  exact ev_iret dJ9_min_7cf53_10 rfl rfl hp
theorem bJ7_fill_53178_0_0 {g : GG} {d n0 nf : Nat} {post : Option Value → LX → Prop} {n : Nat} {X : LX} (hn : 146 ≤ n) (hX : Sh n X) {r0 lr0 : Nat} {v1 : Int32} (hrr0 : r0 < n) (hlr0 : LY r0 = (0, lr0)) (k : Ev g mJ7_fill_53178 d n0 nf post n 5 [some (.ref r0), some (.int v1), some (.int 0), some (.int (nI lr0))] [] X) : Ev g mJ7_fill_53178 d n0 nf post n 0 [some (.ref r0), some (.int v1), none, none] [] X := by
  refine ev_iconst (v := 0) dJ7_fill_53178_0 ki_0 ?_
  refine ev_istore_n dJ7_fill_53178_1 (by decide) ?_
  refine ev_aload_n dJ7_fill_53178_2 rfl ?_
  refine ev_alen dJ7_fill_53178_3 hrr0 hlr0 (by decide) ?_
  refine ev_istore_n dJ7_fill_53178_4 (by decide) ?_
  exact k
theorem bJ7_fill_53178_5_0 {g : GG} {d n0 nf : Nat} {post : Option Value → LX → Prop} {n : Nat} {X : LX} (hn : 146 ≤ n) (hX : Sh n X) {r0 lr0 : Nat} {v1 : Int32} {v2 : Nat} {v3 : Int32} (hrr0 : r0 < n) (hlr0 : LY r0 = (0, lr0)) (c0 : ¬ v3 ≤ nI v2) (b0 : v2 < lr0) (k : Ev g mJ7_fill_53178 d n0 nf post n 5 [some (.ref r0), some (.int v1), some (.int ((nI v2) + 1)), some (.int v3)] [] (lx_up X r0 v2 v1)) : Ev g mJ7_fill_53178 d n0 nf post n 5 [some (.ref r0), some (.int v1), some (.int (nI v2)), some (.int v3)] [] X := by
  refine ev_iload_n dJ7_fill_53178_5 rfl ?_
  refine ev_iload_n dJ7_fill_53178_6 rfl ?_
  refine ev_icmpF (tgt := 20) dJ7_fill_53178_7 (by decide) c0 ?_
  refine ev_aload_n dJ7_fill_53178_10 rfl ?_
  refine ev_iload_n dJ7_fill_53178_11 rfl ?_
  refine ev_iload_n dJ7_fill_53178_12 rfl ?_
  refine ev_iast dJ7_fill_53178_13 hrr0 hlr0 rfl b0 ?_
  have hX1 : Sh _ (lx_up X r0 v2 v1) := Sh.upA hX (by rw [hlr0]; exact (by decide : 0 < 2))
  refine ev_iinc (v := (nI v2) + 1) dJ7_fill_53178_14 rfl (by rw [show Int32.ofInt 1 = 1 from ki_1]) (by decide) ?_
  refine ev_goto (tgt := 5) dJ7_fill_53178_17 (by decide) ?_
  exact k
theorem bJ7_fill_53178_5_1 {g : GG} {d n0 nf : Nat} {post : Option Value → LX → Prop} {n : Nat} {X : LX} (hn : 146 ≤ nf) (hX : Sh nf X) {r0 lr0 : Nat} {v1 : Int32} {v2 : Nat} {v3 : Int32} (hrr0 : r0 < nf) (hlr0 : LY r0 = (0, lr0)) (c0 : v3 ≤ nI v2) (hp : post none X) : Ev g mJ7_fill_53178 d n0 nf post nf 5 [some (.ref r0), some (.int v1), some (.int (nI v2)), some (.int v3)] [] X := by
  refine ev_iload_n dJ7_fill_53178_5 rfl ?_
  refine ev_iload_n dJ7_fill_53178_6 rfl ?_
  refine ev_icmpT (tgt := 20) dJ7_fill_53178_7 (by decide) c0 ?_
  exact ev_ret dJ7_fill_53178_20 rfl hp
theorem bJ7_fill_fb410_0_0 {g : GG} {d n0 nf : Nat} {post : Option Value → LX → Prop} {n : Nat} {X : LX} (hn : 146 ≤ n) (hX : Sh n X) {r0 lr0 : Nat} {v1 : Int32} (hrr0 : r0 < n) (hlr0 : LY r0 = (1, lr0)) (k : Ev g mJ7_fill_fb410 d n0 nf post n 5 [some (.ref r0), some (.int v1), some (.int 0), some (.int (nI lr0))] [] X) : Ev g mJ7_fill_fb410 d n0 nf post n 0 [some (.ref r0), some (.int v1), none, none] [] X := by
  refine ev_iconst (v := 0) dJ7_fill_fb410_0 ki_0 ?_
  refine ev_istore_n dJ7_fill_fb410_1 (by decide) ?_
  refine ev_aload_n dJ7_fill_fb410_2 rfl ?_
  refine ev_alen dJ7_fill_fb410_3 hrr0 hlr0 (by decide) ?_
  refine ev_istore_n dJ7_fill_fb410_4 (by decide) ?_
  exact k
theorem bJ7_fill_fb410_5_0 {g : GG} {d n0 nf : Nat} {post : Option Value → LX → Prop} {n : Nat} {X : LX} (hn : 146 ≤ n) (hX : Sh n X) {r0 lr0 : Nat} {v1 : Int32} {v2 : Nat} {v3 : Int32} (hrr0 : r0 < n) (hlr0 : LY r0 = (1, lr0)) (c0 : ¬ v3 ≤ nI v2) (b0 : v2 < lr0) (k : Ev g mJ7_fill_fb410 d n0 nf post n 5 [some (.ref r0), some (.int v1), some (.int ((nI v2) + 1)), some (.int v3)] [] (lx_up X r0 v2 v1.toInt16.toInt32)) : Ev g mJ7_fill_fb410 d n0 nf post n 5 [some (.ref r0), some (.int v1), some (.int (nI v2)), some (.int v3)] [] X := by
  refine ev_iload_n dJ7_fill_fb410_5 rfl ?_
  refine ev_iload_n dJ7_fill_fb410_6 rfl ?_
  refine ev_icmpF (tgt := 20) dJ7_fill_fb410_7 (by decide) c0 ?_
  refine ev_aload_n dJ7_fill_fb410_10 rfl ?_
  refine ev_iload_n dJ7_fill_fb410_11 rfl ?_
  refine ev_iload_n dJ7_fill_fb410_12 rfl ?_
  refine ev_sast dJ7_fill_fb410_13 hrr0 hlr0 rfl b0 ?_
  have hX1 : Sh _ (lx_up X r0 v2 v1.toInt16.toInt32) := Sh.upA hX (by rw [hlr0]; exact (by decide : 1 < 2))
  refine ev_iinc (v := (nI v2) + 1) dJ7_fill_fb410_14 rfl (by rw [show Int32.ofInt 1 = 1 from ki_1]) (by decide) ?_
  refine ev_goto (tgt := 5) dJ7_fill_fb410_17 (by decide) ?_
  exact k
theorem bJ7_fill_fb410_5_1 {g : GG} {d n0 nf : Nat} {post : Option Value → LX → Prop} {n : Nat} {X : LX} (hn : 146 ≤ nf) (hX : Sh nf X) {r0 lr0 : Nat} {v1 : Int32} {v2 : Nat} {v3 : Int32} (hrr0 : r0 < nf) (hlr0 : LY r0 = (1, lr0)) (c0 : v3 ≤ nI v2) (hp : post none X) : Ev g mJ7_fill_fb410 d n0 nf post nf 5 [some (.ref r0), some (.int v1), some (.int (nI v2)), some (.int v3)] [] X := by
  refine ev_iload_n dJ7_fill_fb410_5 rfl ?_
  refine ev_iload_n dJ7_fill_fb410_6 rfl ?_
  refine ev_icmpT (tgt := 20) dJ7_fill_fb410_7 (by decide) c0 ?_
  exact ev_ret dJ7_fill_fb410_20 rfl hp
