theorem bJ6_bitCount_0f7a4_0_0 {g : GG} {d n : Nat} {post : Option Value → LX → Prop} {X : LX} (hn : 146 ≤ n) (hX : Sh n X) {v0 : Int32} (hp : post (some (.int ((((((((v0 - (((v0.toUInt32 >>> ((1 : Int32).toUInt32 &&& Int32.toUInt32 31)).toInt32) &&& 1431655765)) &&& 858993459) + ((((v0 - (((v0.toUInt32 >>> ((1 : Int32).toUInt32 &&& Int32.toUInt32 31)).toInt32) &&& 1431655765)).toUInt32 >>> ((2 : Int32).toUInt32 &&& Int32.toUInt32 31)).toInt32) &&& 858993459)) + (((((v0 - (((v0.toUInt32 >>> ((1 : Int32).toUInt32 &&& Int32.toUInt32 31)).toInt32) &&& 1431655765)) &&& 858993459) + ((((v0 - (((v0.toUInt32 >>> ((1 : Int32).toUInt32 &&& Int32.toUInt32 31)).toInt32) &&& 1431655765)).toUInt32 >>> ((2 : Int32).toUInt32 &&& Int32.toUInt32 31)).toInt32) &&& 858993459)).toUInt32 >>> ((4 : Int32).toUInt32 &&& Int32.toUInt32 31)).toInt32)) &&& 252645135) + (((((((v0 - (((v0.toUInt32 >>> ((1 : Int32).toUInt32 &&& Int32.toUInt32 31)).toInt32) &&& 1431655765)) &&& 858993459) + ((((v0 - (((v0.toUInt32 >>> ((1 : Int32).toUInt32 &&& Int32.toUInt32 31)).toInt32) &&& 1431655765)).toUInt32 >>> ((2 : Int32).toUInt32 &&& Int32.toUInt32 31)).toInt32) &&& 858993459)) + (((((v0 - (((v0.toUInt32 >>> ((1 : Int32).toUInt32 &&& Int32.toUInt32 31)).toInt32) &&& 1431655765)) &&& 858993459) + ((((v0 - (((v0.toUInt32 >>> ((1 : Int32).toUInt32 &&& Int32.toUInt32 31)).toInt32) &&& 1431655765)).toUInt32 >>> ((2 : Int32).toUInt32 &&& Int32.toUInt32 31)).toInt32) &&& 858993459)).toUInt32 >>> ((4 : Int32).toUInt32 &&& Int32.toUInt32 31)).toInt32)) &&& 252645135).toUInt32 >>> ((8 : Int32).toUInt32 &&& Int32.toUInt32 31)).toInt32)) + ((((((((v0 - (((v0.toUInt32 >>> ((1 : Int32).toUInt32 &&& Int32.toUInt32 31)).toInt32) &&& 1431655765)) &&& 858993459) + ((((v0 - (((v0.toUInt32 >>> ((1 : Int32).toUInt32 &&& Int32.toUInt32 31)).toInt32) &&& 1431655765)).toUInt32 >>> ((2 : Int32).toUInt32 &&& Int32.toUInt32 31)).toInt32) &&& 858993459)) + (((((v0 - (((v0.toUInt32 >>> ((1 : Int32).toUInt32 &&& Int32.toUInt32 31)).toInt32) &&& 1431655765)) &&& 858993459) + ((((v0 - (((v0.toUInt32 >>> ((1 : Int32).toUInt32 &&& Int32.toUInt32 31)).toInt32) &&& 1431655765)).toUInt32 >>> ((2 : Int32).toUInt32 &&& Int32.toUInt32 31)).toInt32) &&& 858993459)).toUInt32 >>> ((4 : Int32).toUInt32 &&& Int32.toUInt32 31)).toInt32)) &&& 252645135) + (((((((v0 - (((v0.toUInt32 >>> ((1 : Int32).toUInt32 &&& Int32.toUInt32 31)).toInt32) &&& 1431655765)) &&& 858993459) + ((((v0 - (((v0.toUInt32 >>> ((1 : Int32).toUInt32 &&& Int32.toUInt32 31)).toInt32) &&& 1431655765)).toUInt32 >>> ((2 : Int32).toUInt32 &&& Int32.toUInt32 31)).toInt32) &&& 858993459)) + (((((v0 - (((v0.toUInt32 >>> ((1 : Int32).toUInt32 &&& Int32.toUInt32 31)).toInt32) &&& 1431655765)) &&& 858993459) + ((((v0 - (((v0.toUInt32 >>> ((1 : Int32).toUInt32 &&& Int32.toUInt32 31)).toInt32) &&& 1431655765)).toUInt32 >>> ((2 : Int32).toUInt32 &&& Int32.toUInt32 31)).toInt32) &&& 858993459)).toUInt32 >>> ((4 : Int32).toUInt32 &&& Int32.toUInt32 31)).toInt32)) &&& 252645135).toUInt32 >>> ((8 : Int32).toUInt32 &&& Int32.toUInt32 31)).toInt32)).toUInt32 >>> ((16 : Int32).toUInt32 &&& Int32.toUInt32 31)).toInt32)) &&& 63))) X) : Ev g mJ6_bitCount_0f7a4 d n n post n 0 [some (.int v0)] [] X := by
  refine ev_iload_n dJ6_bitCount_0f7a4_0 rfl ?_
  refine ev_iload_n dJ6_bitCount_0f7a4_1 rfl ?_
  refine ev_iconst (v := 1) dJ6_bitCount_0f7a4_2 ki_1 ?_
  refine ev_iushr dJ6_bitCount_0f7a4_3 ?_
  refine ev_ldcw (v := 1431655765) dJ6_bitCount_0f7a4_4 kw_17_265 ?_
  refine ev_iand dJ6_bitCount_0f7a4_7 ?_
  refine ev_isub dJ6_bitCount_0f7a4_8 ?_
  refine ev_istore_n dJ6_bitCount_0f7a4_9 (by decide) ?_
  refine ev_iload_n dJ6_bitCount_0f7a4_10 rfl ?_
  refine ev_ldcw (v := 858993459) dJ6_bitCount_0f7a4_11 kw_17_266 ?_
  refine ev_iand dJ6_bitCount_0f7a4_14 ?_
  refine ev_iload_n dJ6_bitCount_0f7a4_15 rfl ?_
  refine ev_iconst (v := 2) dJ6_bitCount_0f7a4_16 ki_2 ?_
  refine ev_iushr dJ6_bitCount_0f7a4_17 ?_
  refine ev_ldcw (v := 858993459) dJ6_bitCount_0f7a4_18 kw_17_266 ?_
  refine ev_iand dJ6_bitCount_0f7a4_21 ?_
  refine ev_iadd dJ6_bitCount_0f7a4_22 ?_
  refine ev_istore_n dJ6_bitCount_0f7a4_23 (by decide) ?_
  refine ev_iload_n dJ6_bitCount_0f7a4_24 rfl ?_
  refine ev_iload_n dJ6_bitCount_0f7a4_25 rfl ?_
  refine ev_iconst (v := 4) dJ6_bitCount_0f7a4_26 ki_4 ?_
  refine ev_iushr dJ6_bitCount_0f7a4_27 ?_
  refine ev_iadd dJ6_bitCount_0f7a4_28 ?_
  refine ev_ldcw (v := 252645135) dJ6_bitCount_0f7a4_29 kw_17_267 ?_
  refine ev_iand dJ6_bitCount_0f7a4_32 ?_
  refine ev_istore_n dJ6_bitCount_0f7a4_33 (by decide) ?_
  refine ev_iload_n dJ6_bitCount_0f7a4_34 rfl ?_
  refine ev_iload_n dJ6_bitCount_0f7a4_35 rfl ?_
  refine ev_bipush (v := 8) dJ6_bitCount_0f7a4_36 kb_8 ?_
  refine ev_iushr dJ6_bitCount_0f7a4_38 ?_
  refine ev_iadd dJ6_bitCount_0f7a4_39 ?_
  refine ev_istore_n dJ6_bitCount_0f7a4_40 (by decide) ?_
  refine ev_iload_n dJ6_bitCount_0f7a4_41 rfl ?_
  refine ev_iload_n dJ6_bitCount_0f7a4_42 rfl ?_
  refine ev_bipush (v := 16) dJ6_bitCount_0f7a4_43 kb_16 ?_
  refine ev_iushr dJ6_bitCount_0f7a4_45 ?_
  refine ev_iadd dJ6_bitCount_0f7a4_46 ?_
  refine ev_istore_n dJ6_bitCount_0f7a4_47 (by decide) ?_
  refine ev_iload_n dJ6_bitCount_0f7a4_48 rfl ?_
  refine ev_bipush (v := 63) dJ6_bitCount_0f7a4_49 kb_63 ?_
  refine ev_iand dJ6_bitCount_0f7a4_51 ?_
  exact ev_iret dJ6_bitCount_0f7a4_52 rfl rfl hp
theorem bJ7_fill_53178_0_0 {g : GG} {d n : Nat} {post : Option Value → LX → Prop} {X : LX} (hn : 146 ≤ n) (hX : Sh n X) {r0 lr0 : Nat} {v1 : Int32} (hrr0 : r0 < n) (hlr0 : LY r0 = (0, lr0)) (k : Ev g mJ7_fill_53178 d n n post n 5 [some (.ref r0), some (.int v1), some (.int 0), some (.int (nI lr0))] [] X) : Ev g mJ7_fill_53178 d n n post n 0 [some (.ref r0), some (.int v1), none, none] [] X := by
  refine ev_iconst (v := 0) dJ7_fill_53178_0 ki_0 ?_
  refine ev_istore_n dJ7_fill_53178_1 (by decide) ?_
  refine ev_aload_n dJ7_fill_53178_2 rfl ?_
  refine ev_alen dJ7_fill_53178_3 hrr0 hlr0 (by decide) ?_
  refine ev_istore_n dJ7_fill_53178_4 (by decide) ?_
  exact k
theorem bJ7_fill_53178_5_0 {g : GG} {d n : Nat} {post : Option Value → LX → Prop} {X : LX} (hn : 146 ≤ n) (hX : Sh n X) {r0 lr0 : Nat} {v1 : Int32} {v2 : Nat} {v3 : Int32} (hrr0 : r0 < n) (hlr0 : LY r0 = (0, lr0)) (c0 : ¬ v3 ≤ nI v2) (b0 : v2 < lr0) (k : Ev g mJ7_fill_53178 d n n post n 5 [some (.ref r0), some (.int v1), some (.int ((nI v2) + 1)), some (.int v3)] [] (lx_up X r0 v2 v1)) : Ev g mJ7_fill_53178 d n n post n 5 [some (.ref r0), some (.int v1), some (.int (nI v2)), some (.int v3)] [] X := by
  refine ev_iload_n dJ7_fill_53178_5 rfl ?_
  refine ev_iload_n dJ7_fill_53178_6 rfl ?_
  refine ev_icmpF (tgt := 20) dJ7_fill_53178_7 (by decide) c0 ?_
  refine ev_aload_n dJ7_fill_53178_10 rfl ?_
  refine ev_iload_n dJ7_fill_53178_11 rfl ?_
  refine ev_iload_n dJ7_fill_53178_12 rfl ?_
  refine ev_iast dJ7_fill_53178_13 hrr0 hlr0 rfl b0 ?_
  have hX1 : Sh _ (lx_up X r0 v2 v1) := Sh.upA hX (by rw [hlr0]; exact (by decide : 0 < 2))
  refine ev_iinc (v := (nI v2) + 1) dJ7_fill_53178_14 rfl (by rw [show Int32.ofInt 1 = 1 from ki_1]) (by decide) ?_
  refine ev_goto (tgt := 5) dJ7_fill_53178_17 (by decide) ?_
  exact k
theorem bJ7_fill_53178_5_1 {g : GG} {d n : Nat} {post : Option Value → LX → Prop} {X : LX} (hn : 146 ≤ n) (hX : Sh n X) {r0 lr0 : Nat} {v1 : Int32} {v2 : Int32} {v3 : Int32} (hrr0 : r0 < n) (hlr0 : LY r0 = (0, lr0)) (c0 : v3 ≤ v2) (hp : post none X) : Ev g mJ7_fill_53178 d n n post n 5 [some (.ref r0), some (.int v1), some (.int v2), some (.int v3)] [] X := by
  refine ev_iload_n dJ7_fill_53178_5 rfl ?_
  refine ev_iload_n dJ7_fill_53178_6 rfl ?_
  refine ev_icmpT (tgt := 20) dJ7_fill_53178_7 (by decide) c0 ?_
  exact ev_ret dJ7_fill_53178_20 rfl hp
theorem bJ7_fill_fb410_0_0 {g : GG} {d n : Nat} {post : Option Value → LX → Prop} {X : LX} (hn : 146 ≤ n) (hX : Sh n X) {r0 lr0 : Nat} {v1 : Int32} (hrr0 : r0 < n) (hlr0 : LY r0 = (1, lr0)) (k : Ev g mJ7_fill_fb410 d n n post n 5 [some (.ref r0), some (.int v1), some (.int 0), some (.int (nI lr0))] [] X) : Ev g mJ7_fill_fb410 d n n post n 0 [some (.ref r0), some (.int v1), none, none] [] X := by
  refine ev_iconst (v := 0) dJ7_fill_fb410_0 ki_0 ?_
  refine ev_istore_n dJ7_fill_fb410_1 (by decide) ?_
  refine ev_aload_n dJ7_fill_fb410_2 rfl ?_
  refine ev_alen dJ7_fill_fb410_3 hrr0 hlr0 (by decide) ?_
  refine ev_istore_n dJ7_fill_fb410_4 (by decide) ?_
  exact k
theorem bJ7_fill_fb410_5_0 {g : GG} {d n : Nat} {post : Option Value → LX → Prop} {X : LX} (hn : 146 ≤ n) (hX : Sh n X) {r0 lr0 : Nat} {v1 : Int32} {v2 : Nat} {v3 : Int32} (hrr0 : r0 < n) (hlr0 : LY r0 = (1, lr0)) (c0 : ¬ v3 ≤ nI v2) (b0 : v2 < lr0) (k : Ev g mJ7_fill_fb410 d n n post n 5 [some (.ref r0), some (.int v1), some (.int ((nI v2) + 1)), some (.int v3)] [] (lx_up X r0 v2 v1.toInt16.toInt32)) : Ev g mJ7_fill_fb410 d n n post n 5 [some (.ref r0), some (.int v1), some (.int (nI v2)), some (.int v3)] [] X := by
  refine ev_iload_n dJ7_fill_fb410_5 rfl ?_
  refine ev_iload_n dJ7_fill_fb410_6 rfl ?_
  refine ev_icmpF (tgt := 20) dJ7_fill_fb410_7 (by decide) c0 ?_
  refine ev_aload_n dJ7_fill_fb410_10 rfl ?_
  refine ev_iload_n dJ7_fill_fb410_11 rfl ?_
  refine ev_iload_n dJ7_fill_fb410_12 rfl ?_
  refine ev_sast dJ7_fill_fb410_13 hrr0 hlr0 rfl b0 ?_
  have hX1 : Sh _ (lx_up X r0 v2 v1.toInt16.toInt32) := Sh.upA hX (by rw [hlr0]; exact (by decide : 1 < 2))
  refine ev_iinc (v := (nI v2) + 1) dJ7_fill_fb410_14 rfl (by rw [show Int32.ofInt 1 = 1 from ki_1]) (by decide) ?_
  refine ev_goto (tgt := 5) dJ7_fill_fb410_17 (by decide) ?_
  exact k
theorem bJ7_fill_fb410_5_1 {g : GG} {d n : Nat} {post : Option Value → LX → Prop} {X : LX} (hn : 146 ≤ n) (hX : Sh n X) {r0 lr0 : Nat} {v1 : Int32} {v2 : Int32} {v3 : Int32} (hrr0 : r0 < n) (hlr0 : LY r0 = (1, lr0)) (c0 : v3 ≤ v2) (hp : post none X) : Ev g mJ7_fill_fb410 d n n post n 5 [some (.ref r0), some (.int v1), some (.int v2), some (.int v3)] [] X := by
  refine ev_iload_n dJ7_fill_fb410_5 rfl ?_
  refine ev_iload_n dJ7_fill_fb410_6 rfl ?_
  refine ev_icmpT (tgt := 20) dJ7_fill_fb410_7 (by decide) c0 ?_
  exact ev_ret dJ7_fill_fb410_20 rfl hp
theorem bX11_isIn_0_0 {g : GG} {d n : Nat} {post : Option Value → LX → Prop} {X : LX} (hn : 146 ≤ n) (hX : Sh n X) {v0 : Int32} {v1 : Int32} {v2 : Int32} (c0 : ¬ v0 < v1) (c1 : ¬ v2 < v0) (hp : post (some (.int 1)) X) : Ev g mX11_isIn d n n post n 0 [some (.int v0), some (.int v1), some (.int v2)] [] X := by
  refine ev_iload_n dX11_isIn_0 rfl ?_
  refine ev_iload_n dX11_isIn_1 rfl ?_
  refine ev_icmpF (tgt := 14) dX11_isIn_2 (by decide) c0 ?_
  refine ev_iload_n dX11_isIn_5 rfl ?_
  refine ev_iload_n dX11_isIn_6 rfl ?_
  refine ev_icmpF (tgt := 14) dX11_isIn_7 (by decide) c1 ?_
  refine ev_iconst (v := 1) dX11_isIn_10 ki_1 ?_
  refine ev_goto (tgt := 15) dX11_isIn_11 (by decide) ?_
  exact ev_iret dX11_isIn_15 rfl (by decide) hp
theorem bX11_isIn_0_1 {g : GG} {d n : Nat} {post : Option Value → LX → Prop} {X : LX} (hn : 146 ≤ n) (hX : Sh n X) {v0 : Int32} {v1 : Int32} {v2 : Int32} (c0 : ¬ v0 < v1) (c1 : v2 < v0) (hp : post (some (.int 0)) X) : Ev g mX11_isIn d n n post n 0 [some (.int v0), some (.int v1), some (.int v2)] [] X := by
  refine ev_iload_n dX11_isIn_0 rfl ?_
  refine ev_iload_n dX11_isIn_1 rfl ?_
  refine ev_icmpF (tgt := 14) dX11_isIn_2 (by decide) c0 ?_
  refine ev_iload_n dX11_isIn_5 rfl ?_
  refine ev_iload_n dX11_isIn_6 rfl ?_
  refine ev_icmpT (tgt := 14) dX11_isIn_7 (by decide) c1 ?_
  refine ev_iconst (v := 0) dX11_isIn_14 ki_0 ?_
  exact ev_iret dX11_isIn_15 rfl (by decide) hp
theorem bX11_isIn_0_2 {g : GG} {d n : Nat} {post : Option Value → LX → Prop} {X : LX} (hn : 146 ≤ n) (hX : Sh n X) {v0 : Int32} {v1 : Int32} {v2 : Int32} (c0 : v0 < v1) (hp : post (some (.int 0)) X) : Ev g mX11_isIn d n n post n 0 [some (.int v0), some (.int v1), some (.int v2)] [] X := by
  refine ev_iload_n dX11_isIn_0 rfl ?_
  refine ev_iload_n dX11_isIn_1 rfl ?_
  refine ev_icmpT (tgt := 14) dX11_isIn_2 (by decide) c0 ?_
  refine ev_iconst (v := 0) dX11_isIn_14 ki_0 ?_
  exact ev_iret dX11_isIn_15 rfl (by decide) hp
theorem bX11_hasBit_0_0 {g : GG} {d n : Nat} {post : Option Value → LX → Prop} {X : LX} (hn : 146 ≤ n) (hX : Sh n X) {v0 : Int32} {v1 : Int32} (c0 : ¬ (v0 >>> (v1 &&& 31)) &&& 1 = 0) (hp : post (some (.int 1)) X) : Ev g mX11_hasBit d n n post n 0 [some (.int v0), some (.int v1)] [] X := by
  refine ev_iload_n dX11_hasBit_0 rfl ?_
  refine ev_iload_n dX11_hasBit_1 rfl ?_
  refine ev_ishr dX11_hasBit_2 ?_
  refine ev_iconst (v := 1) dX11_hasBit_3 ki_1 ?_
  refine ev_iand dX11_hasBit_4 ?_
  refine ev_ifF (tgt := 12) dX11_hasBit_5 (by decide) c0 ?_
  refine ev_iconst (v := 1) dX11_hasBit_8 ki_1 ?_
  refine ev_goto (tgt := 13) dX11_hasBit_9 (by decide) ?_
  exact ev_iret dX11_hasBit_13 rfl (by decide) hp
theorem bX11_hasBit_0_1 {g : GG} {d n : Nat} {post : Option Value → LX → Prop} {X : LX} (hn : 146 ≤ n) (hX : Sh n X) {v0 : Int32} {v1 : Int32} (c0 : (v0 >>> (v1 &&& 31)) &&& 1 = 0) (hp : post (some (.int 0)) X) : Ev g mX11_hasBit d n n post n 0 [some (.int v0), some (.int v1)] [] X := by
  refine ev_iload_n dX11_hasBit_0 rfl ?_
  refine ev_iload_n dX11_hasBit_1 rfl ?_
  refine ev_ishr dX11_hasBit_2 ?_
  refine ev_iconst (v := 1) dX11_hasBit_3 ki_1 ?_
  refine ev_iand dX11_hasBit_4 ?_
  refine ev_ifT (tgt := 12) dX11_hasBit_5 (by decide) c0 ?_
  refine ev_iconst (v := 0) dX11_hasBit_12 ki_0 ?_
  exact ev_iret dX11_hasBit_13 rfl (by decide) hp
theorem bX11_isBitsBelow_0_0 {g : GG} {d n : Nat} {post : Option Value → LX → Prop} {X : LX} (hn : 146 ≤ n) (hX : Sh n X) {v0 : Int32} {v1 : Int32} (c0 : ¬ v0 < 0) (c1 : v0 >>> (v1 &&& 31) = 0) (hp : post (some (.int 1)) X) : Ev g mX11_isBitsBelow d n n post n 0 [some (.int v0), some (.int v1)] [] X := by
  refine ev_iload_n dX11_isBitsBelow_0 rfl ?_
  refine ev_ifF (tgt := 14) dX11_isBitsBelow_1 (by decide) c0 ?_
  refine ev_iload_n dX11_isBitsBelow_4 rfl ?_
  refine ev_iload_n dX11_isBitsBelow_5 rfl ?_
  refine ev_ishr dX11_isBitsBelow_6 ?_
  refine ev_ifF (tgt := 14) dX11_isBitsBelow_7 (by decide) c1 ?_
  refine ev_iconst (v := 1) dX11_isBitsBelow_10 ki_1 ?_
  refine ev_goto (tgt := 15) dX11_isBitsBelow_11 (by decide) ?_
  exact ev_iret dX11_isBitsBelow_15 rfl (by decide) hp
theorem bX11_isBitsBelow_0_1 {g : GG} {d n : Nat} {post : Option Value → LX → Prop} {X : LX} (hn : 146 ≤ n) (hX : Sh n X) {v0 : Int32} {v1 : Int32} (c0 : ¬ v0 < 0) (c1 : ¬ v0 >>> (v1 &&& 31) = 0) (hp : post (some (.int 0)) X) : Ev g mX11_isBitsBelow d n n post n 0 [some (.int v0), some (.int v1)] [] X := by
  refine ev_iload_n dX11_isBitsBelow_0 rfl ?_
  refine ev_ifF (tgt := 14) dX11_isBitsBelow_1 (by decide) c0 ?_
  refine ev_iload_n dX11_isBitsBelow_4 rfl ?_
  refine ev_iload_n dX11_isBitsBelow_5 rfl ?_
  refine ev_ishr dX11_isBitsBelow_6 ?_
  refine ev_ifT (tgt := 14) dX11_isBitsBelow_7 (by decide) c1 ?_
  refine ev_iconst (v := 0) dX11_isBitsBelow_14 ki_0 ?_
  exact ev_iret dX11_isBitsBelow_15 rfl (by decide) hp
theorem bX11_isBitsBelow_0_2 {g : GG} {d n : Nat} {post : Option Value → LX → Prop} {X : LX} (hn : 146 ≤ n) (hX : Sh n X) {v0 : Int32} {v1 : Int32} (c0 : v0 < 0) (hp : post (some (.int 0)) X) : Ev g mX11_isBitsBelow d n n post n 0 [some (.int v0), some (.int v1)] [] X := by
  refine ev_iload_n dX11_isBitsBelow_0 rfl ?_
  refine ev_ifT (tgt := 14) dX11_isBitsBelow_1 (by decide) c0 ?_
  refine ev_iconst (v := 0) dX11_isBitsBelow_14 ki_0 ?_
  exact ev_iret dX11_isBitsBelow_15 rfl (by decide) hp
theorem bX11_truth_0_0 {g : GG} {d n : Nat} {post : Option Value → LX → Prop} {X : LX} (hn : 146 ≤ n) (hX : Sh n X) {v0 : Int32} (c0 : ¬ v0 = 0) (hp : post (some (.int 1)) X) : Ev g mX11_truth d n n post n 0 [some (.int v0)] [] X := by
  refine ev_iload_n dX11_truth_0 rfl ?_
  refine ev_ifF (tgt := 8) dX11_truth_1 (by decide) c0 ?_
  refine ev_iconst (v := 1) dX11_truth_4 ki_1 ?_
  refine ev_goto (tgt := 9) dX11_truth_5 (by decide) ?_
  exact ev_iret dX11_truth_9 rfl rfl hp
theorem bX11_truth_0_1 {g : GG} {d n : Nat} {post : Option Value → LX → Prop} {X : LX} (hn : 146 ≤ n) (hX : Sh n X) {v0 : Int32} (c0 : v0 = 0) (hp : post (some (.int 0)) X) : Ev g mX11_truth d n n post n 0 [some (.int v0)] [] X := by
  refine ev_iload_n dX11_truth_0 rfl ?_
  refine ev_ifT (tgt := 8) dX11_truth_1 (by decide) c0 ?_
  refine ev_iconst (v := 0) dX11_truth_8 ki_0 ?_
  exact ev_iret dX11_truth_9 rfl rfl hp
theorem bX7_has_0_0 {g : GG} {d n : Nat} {post : Option Value → LX → Prop} {X : LX} (hn : 146 ≤ n) (hX : Sh n X) {v1 : Int32} (c0 : ¬ v1 < 0) (c1 : ¬ X 2 0 ≤ v1) (hp : post (some (.int 1)) X) : Ev g mX7_has d n n post n 0 [some (.ref 2), some (.int v1)] [] X := by
  refine ev_iload_n dX7_has_0 rfl ?_
  refine ev_ifF (tgt := 16) dX7_has_1 (by decide) c0 ?_
  refine ev_iload_n dX7_has_4 rfl ?_
  refine ev_aload_n dX7_has_5 rfl ?_
  refine ev_getI dX7_has_6 fo_7_38 (by omega) lo_2 rfl ?_
  refine ev_icmpF (tgt := 16) dX7_has_9 (by decide) c1 ?_
  refine ev_iconst (v := 1) dX7_has_12 ki_1 ?_
  refine ev_goto (tgt := 17) dX7_has_13 (by decide) ?_
  exact ev_iret dX7_has_17 rfl (by decide) hp
theorem bX7_has_0_1 {g : GG} {d n : Nat} {post : Option Value → LX → Prop} {X : LX} (hn : 146 ≤ n) (hX : Sh n X) {v1 : Int32} (c0 : ¬ v1 < 0) (c1 : X 2 0 ≤ v1) (hp : post (some (.int 0)) X) : Ev g mX7_has d n n post n 0 [some (.ref 2), some (.int v1)] [] X := by
  refine ev_iload_n dX7_has_0 rfl ?_
  refine ev_ifF (tgt := 16) dX7_has_1 (by decide) c0 ?_
  refine ev_iload_n dX7_has_4 rfl ?_
  refine ev_aload_n dX7_has_5 rfl ?_
  refine ev_getI dX7_has_6 fo_7_38 (by omega) lo_2 rfl ?_
  refine ev_icmpT (tgt := 16) dX7_has_9 (by decide) c1 ?_
  refine ev_iconst (v := 0) dX7_has_16 ki_0 ?_
  exact ev_iret dX7_has_17 rfl (by decide) hp
theorem bX7_has_0_2 {g : GG} {d n : Nat} {post : Option Value → LX → Prop} {X : LX} (hn : 146 ≤ n) (hX : Sh n X) {v1 : Int32} (c0 : v1 < 0) (hp : post (some (.int 0)) X) : Ev g mX7_has d n n post n 0 [some (.ref 2), some (.int v1)] [] X := by
  refine ev_iload_n dX7_has_0 rfl ?_
  refine ev_ifT (tgt := 16) dX7_has_1 (by decide) c0 ?_
  refine ev_iconst (v := 0) dX7_has_16 ki_0 ?_
  exact ev_iret dX7_has_17 rfl (by decide) hp
theorem bX5_has_0_0 {g : GG} {d n : Nat} {post : Option Value → LX → Prop} {X : LX} (hn : 146 ≤ n) (hX : Sh n X) {v1 : Int32} (c0 : ¬ v1 < 0) (c1 : ¬ X 23 0 ≤ v1) (hp : post (some (.int 1)) X) : Ev g mX5_has d n n post n 0 [some (.ref 23), some (.int v1)] [] X := by
  refine ev_iload_n dX5_has_0 rfl ?_
  refine ev_ifF (tgt := 16) dX5_has_1 (by decide) c0 ?_
  refine ev_iload_n dX5_has_4 rfl ?_
  refine ev_aload_n dX5_has_5 rfl ?_
  refine ev_getI dX5_has_6 fo_5_23 (by omega) lo_23 rfl ?_
  refine ev_icmpF (tgt := 16) dX5_has_9 (by decide) c1 ?_
  refine ev_iconst (v := 1) dX5_has_12 ki_1 ?_
  refine ev_goto (tgt := 17) dX5_has_13 (by decide) ?_
  exact ev_iret dX5_has_17 rfl (by decide) hp
theorem bX5_has_0_1 {g : GG} {d n : Nat} {post : Option Value → LX → Prop} {X : LX} (hn : 146 ≤ n) (hX : Sh n X) {v1 : Int32} (c0 : ¬ v1 < 0) (c1 : X 23 0 ≤ v1) (hp : post (some (.int 0)) X) : Ev g mX5_has d n n post n 0 [some (.ref 23), some (.int v1)] [] X := by
  refine ev_iload_n dX5_has_0 rfl ?_
  refine ev_ifF (tgt := 16) dX5_has_1 (by decide) c0 ?_
  refine ev_iload_n dX5_has_4 rfl ?_
  refine ev_aload_n dX5_has_5 rfl ?_
  refine ev_getI dX5_has_6 fo_5_23 (by omega) lo_23 rfl ?_
  refine ev_icmpT (tgt := 16) dX5_has_9 (by decide) c1 ?_
  refine ev_iconst (v := 0) dX5_has_16 ki_0 ?_
  exact ev_iret dX5_has_17 rfl (by decide) hp
theorem bX5_has_0_2 {g : GG} {d n : Nat} {post : Option Value → LX → Prop} {X : LX} (hn : 146 ≤ n) (hX : Sh n X) {v1 : Int32} (c0 : v1 < 0) (hp : post (some (.int 0)) X) : Ev g mX5_has d n n post n 0 [some (.ref 23), some (.int v1)] [] X := by
  refine ev_iload_n dX5_has_0 rfl ?_
  refine ev_ifT (tgt := 16) dX5_has_1 (by decide) c0 ?_
  refine ev_iconst (v := 0) dX5_has_16 ki_0 ?_
  exact ev_iret dX5_has_17 rfl (by decide) hp
theorem bX0_has_0_0 {g : GG} {d n : Nat} {post : Option Value → LX → Prop} {X : LX} (hn : 146 ≤ n) (hX : Sh n X) {v1 : Int32} (c0 : ¬ v1 < 0) (c1 : ¬ X 37 0 ≤ v1) (hp : post (some (.int 1)) X) : Ev g mX0_has d n n post n 0 [some (.ref 37), some (.int v1)] [] X := by
  refine ev_iload_n dX0_has_0 rfl ?_
  refine ev_ifF (tgt := 16) dX0_has_1 (by decide) c0 ?_
  refine ev_iload_n dX0_has_4 rfl ?_
  refine ev_aload_n dX0_has_5 rfl ?_
  refine ev_getI dX0_has_6 fo_0_41 (by omega) lo_37 rfl ?_
  refine ev_icmpF (tgt := 16) dX0_has_9 (by decide) c1 ?_
  refine ev_iconst (v := 1) dX0_has_12 ki_1 ?_
  refine ev_goto (tgt := 17) dX0_has_13 (by decide) ?_
  exact ev_iret dX0_has_17 rfl (by decide) hp
theorem bX0_has_0_1 {g : GG} {d n : Nat} {post : Option Value → LX → Prop} {X : LX} (hn : 146 ≤ n) (hX : Sh n X) {v1 : Int32} (c0 : ¬ v1 < 0) (c1 : X 37 0 ≤ v1) (hp : post (some (.int 0)) X) : Ev g mX0_has d n n post n 0 [some (.ref 37), some (.int v1)] [] X := by
  refine ev_iload_n dX0_has_0 rfl ?_
  refine ev_ifF (tgt := 16) dX0_has_1 (by decide) c0 ?_
  refine ev_iload_n dX0_has_4 rfl ?_
  refine ev_aload_n dX0_has_5 rfl ?_
  refine ev_getI dX0_has_6 fo_0_41 (by omega) lo_37 rfl ?_
  refine ev_icmpT (tgt := 16) dX0_has_9 (by decide) c1 ?_
  refine ev_iconst (v := 0) dX0_has_16 ki_0 ?_
  exact ev_iret dX0_has_17 rfl (by decide) hp
theorem bX0_has_0_2 {g : GG} {d n : Nat} {post : Option Value → LX → Prop} {X : LX} (hn : 146 ≤ n) (hX : Sh n X) {v1 : Int32} (c0 : v1 < 0) (hp : post (some (.int 0)) X) : Ev g mX0_has d n n post n 0 [some (.ref 37), some (.int v1)] [] X := by
  refine ev_iload_n dX0_has_0 rfl ?_
  refine ev_ifT (tgt := 16) dX0_has_1 (by decide) c0 ?_
  refine ev_iconst (v := 0) dX0_has_16 ki_0 ?_
  exact ev_iret dX0_has_17 rfl (by decide) hp
theorem bX4_has_0_0 {g : GG} {d n : Nat} {post : Option Value → LX → Prop} {X : LX} (hn : 146 ≤ n) (hX : Sh n X) {v1 : Int32} (c0 : ¬ v1 < 0) (c1 : ¬ X 69 0 ≤ v1) (hp : post (some (.int 1)) X) : Ev g mX4_has d n n post n 0 [some (.ref 69), some (.int v1)] [] X := by
  refine ev_iload_n dX4_has_0 rfl ?_
  refine ev_ifF (tgt := 16) dX4_has_1 (by decide) c0 ?_
  refine ev_iload_n dX4_has_4 rfl ?_
  refine ev_aload_n dX4_has_5 rfl ?_
  refine ev_getI dX4_has_6 fo_4_33 (by omega) lo_69 rfl ?_
  refine ev_icmpF (tgt := 16) dX4_has_9 (by decide) c1 ?_
  refine ev_iconst (v := 1) dX4_has_12 ki_1 ?_
  refine ev_goto (tgt := 17) dX4_has_13 (by decide) ?_
  exact ev_iret dX4_has_17 rfl (by decide) hp
theorem bX4_has_0_1 {g : GG} {d n : Nat} {post : Option Value → LX → Prop} {X : LX} (hn : 146 ≤ n) (hX : Sh n X) {v1 : Int32} (c0 : ¬ v1 < 0) (c1 : X 69 0 ≤ v1) (hp : post (some (.int 0)) X) : Ev g mX4_has d n n post n 0 [some (.ref 69), some (.int v1)] [] X := by
  refine ev_iload_n dX4_has_0 rfl ?_
  refine ev_ifF (tgt := 16) dX4_has_1 (by decide) c0 ?_
  refine ev_iload_n dX4_has_4 rfl ?_
  refine ev_aload_n dX4_has_5 rfl ?_
  refine ev_getI dX4_has_6 fo_4_33 (by omega) lo_69 rfl ?_
  refine ev_icmpT (tgt := 16) dX4_has_9 (by decide) c1 ?_
  refine ev_iconst (v := 0) dX4_has_16 ki_0 ?_
  exact ev_iret dX4_has_17 rfl (by decide) hp
theorem bX4_has_0_2 {g : GG} {d n : Nat} {post : Option Value → LX → Prop} {X : LX} (hn : 146 ≤ n) (hX : Sh n X) {v1 : Int32} (c0 : v1 < 0) (hp : post (some (.int 0)) X) : Ev g mX4_has d n n post n 0 [some (.ref 69), some (.int v1)] [] X := by
  refine ev_iload_n dX4_has_0 rfl ?_
  refine ev_ifT (tgt := 16) dX4_has_1 (by decide) c0 ?_
  refine ev_iconst (v := 0) dX4_has_16 ki_0 ?_
  exact ev_iret dX4_has_17 rfl (by decide) hp
theorem bX5_isKind_0_0 {g : GG} {d n : Nat} {post : Option Value → LX → Prop} {X : LX} (hn : 146 ≤ n) (hX : Sh n X) {v1 : Nat} {v2 : Int32} (c0 : ¬ v2 = 0) (b0 : v1 < 10) (c1 : ¬ X 24 v1 = v2) (c2 : v2 = 2) (c3 : X 24 v1 = 3) (hp : post (some (.int 1)) X) : Ev g mX5_isKind d n n post n 0 [some (.ref 23), some (.int (nI v1)), some (.int v2)] [] X := by
  refine ev_iload_n dX5_isKind_0 rfl ?_
  refine ev_ifF (tgt := 29) dX5_isKind_1 (by decide) c0 ?_
  refine ev_aload_n dX5_isKind_4 rfl ?_
  refine ev_getS (q := 24) dX5_isKind_5 fo_5_9 (by omega) lo_23 rfl (sh_23_1 hX (by omega)) (by decide) ?_
  refine ev_iload_n dX5_isKind_8 rfl ?_
  refine ev_iald dX5_isKind_9 (by omega) ly_24 rfl b0 ?_
  refine ev_iload_n dX5_isKind_10 rfl ?_
  refine ev_icmpF (tgt := 29) dX5_isKind_11 (by decide) c1 ?_
  refine ev_iload_n dX5_isKind_14 rfl ?_
  refine ev_iconst (v := 2) dX5_isKind_15 ki_2 ?_
  refine ev_icmpF (tgt := 33) dX5_isKind_16 (by decide) c2 ?_
  refine ev_aload_n dX5_isKind_19 rfl ?_
  refine ev_getS (q := 24) dX5_isKind_20 fo_5_9 (by omega) lo_23 rfl (sh_23_1 hX (by omega)) (by decide) ?_
  refine ev_iload_n dX5_isKind_23 rfl ?_
  refine ev_iald dX5_isKind_24 (by omega) ly_24 rfl b0 ?_
  refine ev_iconst (v := 3) dX5_isKind_25 ki_3 ?_
  refine ev_icmpF (tgt := 33) dX5_isKind_26 (by decide) c3 ?_
  refine ev_iconst (v := 1) dX5_isKind_29 ki_1 ?_
  refine ev_goto (tgt := 34) dX5_isKind_30 (by decide) ?_
  exact ev_iret dX5_isKind_34 rfl (by decide) hp
theorem bX5_isKind_0_1 {g : GG} {d n : Nat} {post : Option Value → LX → Prop} {X : LX} (hn : 146 ≤ n) (hX : Sh n X) {v1 : Nat} {v2 : Int32} (c0 : ¬ v2 = 0) (b0 : v1 < 10) (c1 : ¬ X 24 v1 = v2) (c2 : v2 = 2) (c3 : ¬ X 24 v1 = 3) (hp : post (some (.int 0)) X) : Ev g mX5_isKind d n n post n 0 [some (.ref 23), some (.int (nI v1)), some (.int v2)] [] X := by
  refine ev_iload_n dX5_isKind_0 rfl ?_
  refine ev_ifF (tgt := 29) dX5_isKind_1 (by decide) c0 ?_
  refine ev_aload_n dX5_isKind_4 rfl ?_
  refine ev_getS (q := 24) dX5_isKind_5 fo_5_9 (by omega) lo_23 rfl (sh_23_1 hX (by omega)) (by decide) ?_
  refine ev_iload_n dX5_isKind_8 rfl ?_
  refine ev_iald dX5_isKind_9 (by omega) ly_24 rfl b0 ?_
  refine ev_iload_n dX5_isKind_10 rfl ?_
  refine ev_icmpF (tgt := 29) dX5_isKind_11 (by decide) c1 ?_
  refine ev_iload_n dX5_isKind_14 rfl ?_
  refine ev_iconst (v := 2) dX5_isKind_15 ki_2 ?_
  refine ev_icmpF (tgt := 33) dX5_isKind_16 (by decide) c2 ?_
  refine ev_aload_n dX5_isKind_19 rfl ?_
  refine ev_getS (q := 24) dX5_isKind_20 fo_5_9 (by omega) lo_23 rfl (sh_23_1 hX (by omega)) (by decide) ?_
  refine ev_iload_n dX5_isKind_23 rfl ?_
  refine ev_iald dX5_isKind_24 (by omega) ly_24 rfl b0 ?_
  refine ev_iconst (v := 3) dX5_isKind_25 ki_3 ?_
  refine ev_icmpT (tgt := 33) dX5_isKind_26 (by decide) c3 ?_
  refine ev_iconst (v := 0) dX5_isKind_33 ki_0 ?_
  exact ev_iret dX5_isKind_34 rfl (by decide) hp
theorem bX5_isKind_0_2 {g : GG} {d n : Nat} {post : Option Value → LX → Prop} {X : LX} (hn : 146 ≤ n) (hX : Sh n X) {v1 : Nat} {v2 : Int32} (c0 : ¬ v2 = 0) (b0 : v1 < 10) (c1 : ¬ X 24 v1 = v2) (c2 : ¬ v2 = 2) (hp : post (some (.int 0)) X) : Ev g mX5_isKind d n n post n 0 [some (.ref 23), some (.int (nI v1)), some (.int v2)] [] X := by
  refine ev_iload_n dX5_isKind_0 rfl ?_
  refine ev_ifF (tgt := 29) dX5_isKind_1 (by decide) c0 ?_
  refine ev_aload_n dX5_isKind_4 rfl ?_
  refine ev_getS (q := 24) dX5_isKind_5 fo_5_9 (by omega) lo_23 rfl (sh_23_1 hX (by omega)) (by decide) ?_
  refine ev_iload_n dX5_isKind_8 rfl ?_
  refine ev_iald dX5_isKind_9 (by omega) ly_24 rfl b0 ?_
  refine ev_iload_n dX5_isKind_10 rfl ?_
  refine ev_icmpF (tgt := 29) dX5_isKind_11 (by decide) c1 ?_
  refine ev_iload_n dX5_isKind_14 rfl ?_
  refine ev_iconst (v := 2) dX5_isKind_15 ki_2 ?_
  refine ev_icmpT (tgt := 33) dX5_isKind_16 (by decide) c2 ?_
  refine ev_iconst (v := 0) dX5_isKind_33 ki_0 ?_
  exact ev_iret dX5_isKind_34 rfl (by decide) hp
theorem bX5_isKind_0_3 {g : GG} {d n : Nat} {post : Option Value → LX → Prop} {X : LX} (hn : 146 ≤ n) (hX : Sh n X) {v1 : Nat} {v2 : Int32} (c0 : ¬ v2 = 0) (b0 : v1 < 10) (c1 : X 24 v1 = v2) (hp : post (some (.int 1)) X) : Ev g mX5_isKind d n n post n 0 [some (.ref 23), some (.int (nI v1)), some (.int v2)] [] X := by
  refine ev_iload_n dX5_isKind_0 rfl ?_
  refine ev_ifF (tgt := 29) dX5_isKind_1 (by decide) c0 ?_
  refine ev_aload_n dX5_isKind_4 rfl ?_
  refine ev_getS (q := 24) dX5_isKind_5 fo_5_9 (by omega) lo_23 rfl (sh_23_1 hX (by omega)) (by decide) ?_
  refine ev_iload_n dX5_isKind_8 rfl ?_
  refine ev_iald dX5_isKind_9 (by omega) ly_24 rfl b0 ?_
  refine ev_iload_n dX5_isKind_10 rfl ?_
  refine ev_icmpT (tgt := 29) dX5_isKind_11 (by decide) c1 ?_
  refine ev_iconst (v := 1) dX5_isKind_29 ki_1 ?_
  refine ev_goto (tgt := 34) dX5_isKind_30 (by decide) ?_
  exact ev_iret dX5_isKind_34 rfl (by decide) hp
theorem bX5_isKind_0_4 {g : GG} {d n : Nat} {post : Option Value → LX → Prop} {X : LX} (hn : 146 ≤ n) (hX : Sh n X) {v1 : Int32} {v2 : Int32} (c0 : v2 = 0) (hp : post (some (.int 1)) X) : Ev g mX5_isKind d n n post n 0 [some (.ref 23), some (.int v1), some (.int v2)] [] X := by
  refine ev_iload_n dX5_isKind_0 rfl ?_
  refine ev_ifT (tgt := 29) dX5_isKind_1 (by decide) c0 ?_
  refine ev_iconst (v := 1) dX5_isKind_29 ki_1 ?_
  refine ev_goto (tgt := 34) dX5_isKind_30 (by decide) ?_
  exact ev_iret dX5_isKind_34 rfl (by decide) hp
theorem bX5_partsIn_0_0 {g : GG} {d n : Nat} {post : Option Value → LX → Prop} {X : LX} (hn : 146 ≤ n) (hX : Sh n X) {v1 : Int32} (k : Ev g mX5_partsIn d n n post n 4 [some (.ref 23), some (.int v1), some (.int 0), some (.int 0)] [] X) : Ev g mX5_partsIn d n n post n 0 [some (.ref 23), some (.int v1), none, none] [] X := by
  refine ev_iconst (v := 0) dX5_partsIn_0 ki_0 ?_
  refine ev_istore_n dX5_partsIn_1 (by decide) ?_
  refine ev_iconst (v := 0) dX5_partsIn_2 ki_0 ?_
  refine ev_istore_n dX5_partsIn_3 (by decide) ?_
  exact k
theorem bX5_partsIn_4_0 {g : GG} {d n : Nat} {post : Option Value → LX → Prop} {X : LX} (hn : 146 ≤ n) (hX : Sh n X) {v1 : Nat} {v2 : Int32} {v3 : Nat} (c0 : ¬ 14 ≤ nI v3) (b0 : v1 < 10) (b1 : v3 < 14) (c1 : ¬ X (26 + 1 + v1) v3 ≤ 0) (k : Ev g mX5_partsIn d n n post n 4 [some (.ref 23), some (.int (nI v1)), some (.int (v2 + 1)), some (.int ((nI v3) + 1))] [] X) : Ev g mX5_partsIn d n n post n 4 [some (.ref 23), some (.int (nI v1)), some (.int v2), some (.int (nI v3))] [] X := by
  refine ev_iload_n dX5_partsIn_4 rfl ?_
  refine ev_bipush (v := 14) dX5_partsIn_5 kb_14 ?_
  refine ev_icmpF (tgt := 30) dX5_partsIn_7 (by decide) c0 ?_
  refine ev_aload_n dX5_partsIn_10 rfl ?_
  refine ev_getS (q := 26) dX5_partsIn_11 fo_5_20 (by omega) lo_23 rfl (sh_23_3 hX (by omega)) (by decide) ?_
  refine ev_iload_n dX5_partsIn_14 rfl ?_
  refine ev_aald (q := 26 + 1 + v1) dX5_partsIn_15 (by omega) (Or.inl ly_26) rfl b0 (hX.2 26 v1 (by omega) (Or.inl (by rw [ly_26])) (by rw [ly_26]; exact b0)) (by first | omega | (have := LY_l ly_26; have := LY_lt (show (LY 26).1 < 99 by rw [ly_26]; exact (by decide : 2 < 99)); omega)) ?_
  refine ev_iload_n dX5_partsIn_16 rfl ?_
  refine ev_iald dX5_partsIn_17 (by have := b0; omega) (lyr_26 _ b0) rfl b1 ?_
  refine ev_ifF (tgt := 24) dX5_partsIn_18 (by decide) c1 ?_
  refine ev_iinc (v := v2 + 1) dX5_partsIn_21 rfl (by rw [show Int32.ofInt 1 = 1 from ki_1]) (by decide) ?_
  refine ev_iinc (v := (nI v3) + 1) dX5_partsIn_24 rfl (by rw [show Int32.ofInt 1 = 1 from ki_1]) (by decide) ?_
  refine ev_goto (tgt := 4) dX5_partsIn_27 (by decide) ?_
  exact k
theorem bX5_partsIn_4_1 {g : GG} {d n : Nat} {post : Option Value → LX → Prop} {X : LX} (hn : 146 ≤ n) (hX : Sh n X) {v1 : Nat} {v2 : Int32} {v3 : Nat} (c0 : ¬ 14 ≤ nI v3) (b0 : v1 < 10) (b1 : v3 < 14) (c1 : X (26 + 1 + v1) v3 ≤ 0) (k : Ev g mX5_partsIn d n n post n 4 [some (.ref 23), some (.int (nI v1)), some (.int v2), some (.int ((nI v3) + 1))] [] X) : Ev g mX5_partsIn d n n post n 4 [some (.ref 23), some (.int (nI v1)), some (.int v2), some (.int (nI v3))] [] X := by
  refine ev_iload_n dX5_partsIn_4 rfl ?_
  refine ev_bipush (v := 14) dX5_partsIn_5 kb_14 ?_
  refine ev_icmpF (tgt := 30) dX5_partsIn_7 (by decide) c0 ?_
  refine ev_aload_n dX5_partsIn_10 rfl ?_
  refine ev_getS (q := 26) dX5_partsIn_11 fo_5_20 (by omega) lo_23 rfl (sh_23_3 hX (by omega)) (by decide) ?_
  refine ev_iload_n dX5_partsIn_14 rfl ?_
  refine ev_aald (q := 26 + 1 + v1) dX5_partsIn_15 (by omega) (Or.inl ly_26) rfl b0 (hX.2 26 v1 (by omega) (Or.inl (by rw [ly_26])) (by rw [ly_26]; exact b0)) (by first | omega | (have := LY_l ly_26; have := LY_lt (show (LY 26).1 < 99 by rw [ly_26]; exact (by decide : 2 < 99)); omega)) ?_
  refine ev_iload_n dX5_partsIn_16 rfl ?_
  refine ev_iald dX5_partsIn_17 (by have := b0; omega) (lyr_26 _ b0) rfl b1 ?_
  refine ev_ifT (tgt := 24) dX5_partsIn_18 (by decide) c1 ?_
  refine ev_iinc (v := (nI v3) + 1) dX5_partsIn_24 rfl (by rw [show Int32.ofInt 1 = 1 from ki_1]) (by decide) ?_
  refine ev_goto (tgt := 4) dX5_partsIn_27 (by decide) ?_
  exact k
theorem bX5_partsIn_4_2 {g : GG} {d n : Nat} {post : Option Value → LX → Prop} {X : LX} (hn : 146 ≤ n) (hX : Sh n X) {v1 : Int32} {v2 : Int32} {v3 : Int32} (c0 : 14 ≤ v3) (hp : post (some (.int v2)) X) : Ev g mX5_partsIn d n n post n 4 [some (.ref 23), some (.int v1), some (.int v2), some (.int v3)] [] X := by
  refine ev_iload_n dX5_partsIn_4 rfl ?_
  refine ev_bipush (v := 14) dX5_partsIn_5 kb_14 ?_
  refine ev_icmpT (tgt := 30) dX5_partsIn_7 (by decide) c0 ?_
  refine ev_iload_n dX5_partsIn_30 rfl ?_
  exact ev_iret dX5_partsIn_31 rfl rfl hp
theorem bX5_gramsOf_0_0 {g : GG} {d n : Nat} {post : Option Value → LX → Prop} {X : LX} (hn : 146 ≤ n) (hX : Sh n X) {v1 : Int32} (k : Ev g mX5_gramsOf d n n post n 4 [some (.ref 23), some (.int v1), some (.int 0), some (.int 0)] [] X) : Ev g mX5_gramsOf d n n post n 0 [some (.ref 23), some (.int v1), none, none] [] X := by
  refine ev_iconst (v := 0) dX5_gramsOf_0 ki_0 ?_
  refine ev_istore_n dX5_gramsOf_1 (by decide) ?_
  refine ev_iconst (v := 0) dX5_gramsOf_2 ki_0 ?_
  refine ev_istore_n dX5_gramsOf_3 (by decide) ?_
  exact k
theorem bX5_gramsOf_4_0 {g : GG} {d n : Nat} {post : Option Value → LX → Prop} {X : LX} (hn : 146 ≤ n) (hX : Sh n X) {v1 : Nat} {v2 : Int32} {v3 : Nat} (c0 : ¬ 14 ≤ nI v3) (b0 : v1 < 10) (b1 : v3 < 14) (k : Ev g mX5_gramsOf d n n post n 4 [some (.ref 23), some (.int (nI v1)), some (.int (v2 + (X (26 + 1 + v1) v3))), some (.int ((nI v3) + 1))] [] X) : Ev g mX5_gramsOf d n n post n 4 [some (.ref 23), some (.int (nI v1)), some (.int v2), some (.int (nI v3))] [] X := by
  refine ev_iload_n dX5_gramsOf_4 rfl ?_
  refine ev_bipush (v := 14) dX5_gramsOf_5 kb_14 ?_
  refine ev_icmpF (tgt := 27) dX5_gramsOf_7 (by decide) c0 ?_
  refine ev_iload_n dX5_gramsOf_10 rfl ?_
  refine ev_aload_n dX5_gramsOf_11 rfl ?_
  refine ev_getS (q := 26) dX5_gramsOf_12 fo_5_20 (by omega) lo_23 rfl (sh_23_3 hX (by omega)) (by decide) ?_
  refine ev_iload_n dX5_gramsOf_15 rfl ?_
  refine ev_aald (q := 26 + 1 + v1) dX5_gramsOf_16 (by omega) (Or.inl ly_26) rfl b0 (hX.2 26 v1 (by omega) (Or.inl (by rw [ly_26])) (by rw [ly_26]; exact b0)) (by first | omega | (have := LY_l ly_26; have := LY_lt (show (LY 26).1 < 99 by rw [ly_26]; exact (by decide : 2 < 99)); omega)) ?_
  refine ev_iload_n dX5_gramsOf_17 rfl ?_
  refine ev_iald dX5_gramsOf_18 (by have := b0; omega) (lyr_26 _ b0) rfl b1 ?_
  refine ev_iadd dX5_gramsOf_19 ?_
  refine ev_istore_n dX5_gramsOf_20 (by decide) ?_
  refine ev_iinc (v := (nI v3) + 1) dX5_gramsOf_21 rfl (by rw [show Int32.ofInt 1 = 1 from ki_1]) (by decide) ?_
  refine ev_goto (tgt := 4) dX5_gramsOf_24 (by decide) ?_
  exact k
theorem bX5_gramsOf_4_1 {g : GG} {d n : Nat} {post : Option Value → LX → Prop} {X : LX} (hn : 146 ≤ n) (hX : Sh n X) {v1 : Int32} {v2 : Int32} {v3 : Int32} (c0 : 14 ≤ v3) (hp : post (some (.int v2)) X) : Ev g mX5_gramsOf d n n post n 4 [some (.ref 23), some (.int v1), some (.int v2), some (.int v3)] [] X := by
  refine ev_iload_n dX5_gramsOf_4 rfl ?_
  refine ev_bipush (v := 14) dX5_gramsOf_5 kb_14 ?_
  refine ev_icmpT (tgt := 27) dX5_gramsOf_7 (by decide) c0 ?_
  refine ev_iload_n dX5_gramsOf_27 rfl ?_
  exact ev_iret dX5_gramsOf_28 rfl rfl hp
theorem bX9_isNumber_0_0 {g : GG} {d n : Nat} {post : Option Value → LX → Prop} {X : LX} (hn : 146 ≤ n) (hX : Sh n X) {v1 : Int32} (c0 : ¬ v1 < 0) (c1 : ¬ nI 2 ≤ v1) (hp : post (some (.int 1)) X) : Ev g mX9_isNumber d n n post n 0 [some (.ref 127), some (.int v1)] [] X := by
  refine ev_iload_n dX9_isNumber_0 rfl ?_
  refine ev_ifF (tgt := 17) dX9_isNumber_1 (by decide) c0 ?_
  refine ev_iload_n dX9_isNumber_4 rfl ?_
  refine ev_aload_n dX9_isNumber_5 rfl ?_
  refine ev_getS (q := 131) dX9_isNumber_6 fo_9_16 (by omega) lo_127 rfl (sh_127_1 hX (by omega)) (by decide) ?_
  refine ev_alen dX9_isNumber_9 (by omega) ly_131 (by decide) ?_
  refine ev_icmpF (tgt := 17) dX9_isNumber_10 (by decide) c1 ?_
  refine ev_iconst (v := 1) dX9_isNumber_13 ki_1 ?_
  refine ev_goto (tgt := 18) dX9_isNumber_14 (by decide) ?_
  exact ev_iret dX9_isNumber_18 rfl (by decide) hp
theorem bX9_isNumber_0_1 {g : GG} {d n : Nat} {post : Option Value → LX → Prop} {X : LX} (hn : 146 ≤ n) (hX : Sh n X) {v1 : Int32} (c0 : ¬ v1 < 0) (c1 : nI 2 ≤ v1) (hp : post (some (.int 0)) X) : Ev g mX9_isNumber d n n post n 0 [some (.ref 127), some (.int v1)] [] X := by
  refine ev_iload_n dX9_isNumber_0 rfl ?_
  refine ev_ifF (tgt := 17) dX9_isNumber_1 (by decide) c0 ?_
  refine ev_iload_n dX9_isNumber_4 rfl ?_
  refine ev_aload_n dX9_isNumber_5 rfl ?_
  refine ev_getS (q := 131) dX9_isNumber_6 fo_9_16 (by omega) lo_127 rfl (sh_127_1 hX (by omega)) (by decide) ?_
  refine ev_alen dX9_isNumber_9 (by omega) ly_131 (by decide) ?_
  refine ev_icmpT (tgt := 17) dX9_isNumber_10 (by decide) c1 ?_
  refine ev_iconst (v := 0) dX9_isNumber_17 ki_0 ?_
  exact ev_iret dX9_isNumber_18 rfl (by decide) hp
theorem bX9_isNumber_0_2 {g : GG} {d n : Nat} {post : Option Value → LX → Prop} {X : LX} (hn : 146 ≤ n) (hX : Sh n X) {v1 : Int32} (c0 : v1 < 0) (hp : post (some (.int 0)) X) : Ev g mX9_isNumber d n n post n 0 [some (.ref 127), some (.int v1)] [] X := by
  refine ev_iload_n dX9_isNumber_0 rfl ?_
  refine ev_ifT (tgt := 17) dX9_isNumber_1 (by decide) c0 ?_
  refine ev_iconst (v := 0) dX9_isNumber_17 ki_0 ?_
  exact ev_iret dX9_isNumber_18 rfl (by decide) hp
theorem bX9_isMissing_0_0 {g : GG} {d n : Nat} {post : Option Value → LX → Prop} {X : LX} (hn : 146 ≤ n) (hX : Sh n X) {v1 : Nat} (b0 : v1 < 2) (c0 : ¬ 0 ≤ X 131 v1) (hp : post (some (.int 1)) X) : Ev g mX9_isMissing d n n post n 0 [some (.ref 127), some (.int (nI v1))] [] X := by
  refine ev_aload_n dX9_isMissing_0 rfl ?_
  refine ev_getS (q := 131) dX9_isMissing_1 fo_9_16 (by omega) lo_127 rfl (sh_127_1 hX (by omega)) (by decide) ?_
  refine ev_iload_n dX9_isMissing_4 rfl ?_
  refine ev_iald dX9_isMissing_5 (by omega) ly_131 rfl b0 ?_
  refine ev_ifF (tgt := 13) dX9_isMissing_6 (by decide) c0 ?_
  refine ev_iconst (v := 1) dX9_isMissing_9 ki_1 ?_
  refine ev_goto (tgt := 14) dX9_isMissing_10 (by decide) ?_
  exact ev_iret dX9_isMissing_14 rfl (by decide) hp
theorem bX9_isMissing_0_1 {g : GG} {d n : Nat} {post : Option Value → LX → Prop} {X : LX} (hn : 146 ≤ n) (hX : Sh n X) {v1 : Nat} (b0 : v1 < 2) (c0 : 0 ≤ X 131 v1) (hp : post (some (.int 0)) X) : Ev g mX9_isMissing d n n post n 0 [some (.ref 127), some (.int (nI v1))] [] X := by
  refine ev_aload_n dX9_isMissing_0 rfl ?_
  refine ev_getS (q := 131) dX9_isMissing_1 fo_9_16 (by omega) lo_127 rfl (sh_127_1 hX (by omega)) (by decide) ?_
  refine ev_iload_n dX9_isMissing_4 rfl ?_
  refine ev_iald dX9_isMissing_5 (by omega) ly_131 rfl b0 ?_
  refine ev_ifT (tgt := 13) dX9_isMissing_6 (by decide) c0 ?_
  refine ev_iconst (v := 0) dX9_isMissing_13 ki_0 ?_
  exact ev_iret dX9_isMissing_14 rfl (by decide) hp
theorem bX9_hasPlaces_0_0 {g : GG} {d n : Nat} {post : Option Value → LX → Prop} {X : LX} (hn : 146 ≤ n) (hX : Sh n X) {v1 : Nat} {v2 : Int32} {v3 : Int32} (c0 : ¬ v2 < 0) (c1 : ¬ v3 < 0) (b0 : v1 < 2) (c2 : ¬ X 131 v1 < v2) (c3 : ¬ (X 131 v1) - v2 < v3) (hp : post (some (.int 1)) X) : Ev g mX9_hasPlaces d n n post n 0 [some (.ref 127), some (.int (nI v1)), some (.int v2), some (.int v3)] [] X := by
  refine ev_iload_n dX9_hasPlaces_0 rfl ?_
  refine ev_ifF (tgt := 34) dX9_hasPlaces_1 (by decide) c0 ?_
  refine ev_iload_n dX9_hasPlaces_4 rfl ?_
  refine ev_ifF (tgt := 34) dX9_hasPlaces_5 (by decide) c1 ?_
  refine ev_iload_n dX9_hasPlaces_8 rfl ?_
  refine ev_aload_n dX9_hasPlaces_9 rfl ?_
  refine ev_getS (q := 131) dX9_hasPlaces_10 fo_9_16 (by omega) lo_127 rfl (sh_127_1 hX (by omega)) (by decide) ?_
  refine ev_iload_n dX9_hasPlaces_13 rfl ?_
  refine ev_iald dX9_hasPlaces_14 (by omega) ly_131 rfl b0 ?_
  refine ev_icmpF (tgt := 34) dX9_hasPlaces_15 (by decide) c2 ?_
  refine ev_iload_n dX9_hasPlaces_18 rfl ?_
  refine ev_aload_n dX9_hasPlaces_19 rfl ?_
  refine ev_getS (q := 131) dX9_hasPlaces_20 fo_9_16 (by omega) lo_127 rfl (sh_127_1 hX (by omega)) (by decide) ?_
  refine ev_iload_n dX9_hasPlaces_23 rfl ?_
  refine ev_iald dX9_hasPlaces_24 (by omega) ly_131 rfl b0 ?_
  refine ev_iload_n dX9_hasPlaces_25 rfl ?_
  refine ev_isub dX9_hasPlaces_26 ?_
  refine ev_icmpF (tgt := 34) dX9_hasPlaces_27 (by decide) c3 ?_
  refine ev_iconst (v := 1) dX9_hasPlaces_30 ki_1 ?_
  refine ev_goto (tgt := 35) dX9_hasPlaces_31 (by decide) ?_
  exact ev_iret dX9_hasPlaces_35 rfl (by decide) hp
theorem bX9_hasPlaces_0_1 {g : GG} {d n : Nat} {post : Option Value → LX → Prop} {X : LX} (hn : 146 ≤ n) (hX : Sh n X) {v1 : Nat} {v2 : Int32} {v3 : Int32} (c0 : ¬ v2 < 0) (c1 : ¬ v3 < 0) (b0 : v1 < 2) (c2 : ¬ X 131 v1 < v2) (c3 : (X 131 v1) - v2 < v3) (hp : post (some (.int 0)) X) : Ev g mX9_hasPlaces d n n post n 0 [some (.ref 127), some (.int (nI v1)), some (.int v2), some (.int v3)] [] X := by
  refine ev_iload_n dX9_hasPlaces_0 rfl ?_
  refine ev_ifF (tgt := 34) dX9_hasPlaces_1 (by decide) c0 ?_
  refine ev_iload_n dX9_hasPlaces_4 rfl ?_
  refine ev_ifF (tgt := 34) dX9_hasPlaces_5 (by decide) c1 ?_
  refine ev_iload_n dX9_hasPlaces_8 rfl ?_
  refine ev_aload_n dX9_hasPlaces_9 rfl ?_
  refine ev_getS (q := 131) dX9_hasPlaces_10 fo_9_16 (by omega) lo_127 rfl (sh_127_1 hX (by omega)) (by decide) ?_
  refine ev_iload_n dX9_hasPlaces_13 rfl ?_
  refine ev_iald dX9_hasPlaces_14 (by omega) ly_131 rfl b0 ?_
  refine ev_icmpF (tgt := 34) dX9_hasPlaces_15 (by decide) c2 ?_
  refine ev_iload_n dX9_hasPlaces_18 rfl ?_
  refine ev_aload_n dX9_hasPlaces_19 rfl ?_
  refine ev_getS (q := 131) dX9_hasPlaces_20 fo_9_16 (by omega) lo_127 rfl (sh_127_1 hX (by omega)) (by decide) ?_
  refine ev_iload_n dX9_hasPlaces_23 rfl ?_
  refine ev_iald dX9_hasPlaces_24 (by omega) ly_131 rfl b0 ?_
  refine ev_iload_n dX9_hasPlaces_25 rfl ?_
  refine ev_isub dX9_hasPlaces_26 ?_
  refine ev_icmpT (tgt := 34) dX9_hasPlaces_27 (by decide) c3 ?_
  refine ev_iconst (v := 0) dX9_hasPlaces_34 ki_0 ?_
  exact ev_iret dX9_hasPlaces_35 rfl (by decide) hp
theorem bX9_hasPlaces_0_2 {g : GG} {d n : Nat} {post : Option Value → LX → Prop} {X : LX} (hn : 146 ≤ n) (hX : Sh n X) {v1 : Nat} {v2 : Int32} {v3 : Int32} (c0 : ¬ v2 < 0) (c1 : ¬ v3 < 0) (b0 : v1 < 2) (c2 : X 131 v1 < v2) (hp : post (some (.int 0)) X) : Ev g mX9_hasPlaces d n n post n 0 [some (.ref 127), some (.int (nI v1)), some (.int v2), some (.int v3)] [] X := by
  refine ev_iload_n dX9_hasPlaces_0 rfl ?_
  refine ev_ifF (tgt := 34) dX9_hasPlaces_1 (by decide) c0 ?_
  refine ev_iload_n dX9_hasPlaces_4 rfl ?_
  refine ev_ifF (tgt := 34) dX9_hasPlaces_5 (by decide) c1 ?_
  refine ev_iload_n dX9_hasPlaces_8 rfl ?_
  refine ev_aload_n dX9_hasPlaces_9 rfl ?_
  refine ev_getS (q := 131) dX9_hasPlaces_10 fo_9_16 (by omega) lo_127 rfl (sh_127_1 hX (by omega)) (by decide) ?_
  refine ev_iload_n dX9_hasPlaces_13 rfl ?_
  refine ev_iald dX9_hasPlaces_14 (by omega) ly_131 rfl b0 ?_
  refine ev_icmpT (tgt := 34) dX9_hasPlaces_15 (by decide) c2 ?_
  refine ev_iconst (v := 0) dX9_hasPlaces_34 ki_0 ?_
  exact ev_iret dX9_hasPlaces_35 rfl (by decide) hp
theorem bX9_hasPlaces_0_3 {g : GG} {d n : Nat} {post : Option Value → LX → Prop} {X : LX} (hn : 146 ≤ n) (hX : Sh n X) {v1 : Int32} {v2 : Int32} {v3 : Int32} (c0 : ¬ v2 < 0) (c1 : v3 < 0) (hp : post (some (.int 0)) X) : Ev g mX9_hasPlaces d n n post n 0 [some (.ref 127), some (.int v1), some (.int v2), some (.int v3)] [] X := by
  refine ev_iload_n dX9_hasPlaces_0 rfl ?_
  refine ev_ifF (tgt := 34) dX9_hasPlaces_1 (by decide) c0 ?_
  refine ev_iload_n dX9_hasPlaces_4 rfl ?_
  refine ev_ifT (tgt := 34) dX9_hasPlaces_5 (by decide) c1 ?_
  refine ev_iconst (v := 0) dX9_hasPlaces_34 ki_0 ?_
  exact ev_iret dX9_hasPlaces_35 rfl (by decide) hp
theorem bX9_hasPlaces_0_4 {g : GG} {d n : Nat} {post : Option Value → LX → Prop} {X : LX} (hn : 146 ≤ n) (hX : Sh n X) {v1 : Int32} {v2 : Int32} {v3 : Int32} (c0 : v2 < 0) (hp : post (some (.int 0)) X) : Ev g mX9_hasPlaces d n n post n 0 [some (.ref 127), some (.int v1), some (.int v2), some (.int v3)] [] X := by
  refine ev_iload_n dX9_hasPlaces_0 rfl ?_
  refine ev_ifT (tgt := 34) dX9_hasPlaces_1 (by decide) c0 ?_
  refine ev_iconst (v := 0) dX9_hasPlaces_34 ki_0 ?_
  exact ev_iret dX9_hasPlaces_35 rfl (by decide) hp
theorem bX3_isLetter_0_0 {g : GG} {d n : Nat} {post : Option Value → LX → Prop} {X : LX} (hn : 146 ≤ n) (hX : Sh n X) {v1 : Nat} (b0 : v1 < 120) (c0 : ¬ X 82 v1 < 97) (c1 : ¬ 122 < X 82 v1) (hp : post (some (.int 1)) X) : Ev g mX3_isLetter d n n post n 0 [some (.ref 81), some (.int (nI v1))] [] X := by
  refine ev_aload_n dX3_isLetter_0 rfl ?_
  refine ev_getS (q := 82) dX3_isLetter_1 fo_3_9 (by omega) lo_81 rfl (sh_81_0 hX (by omega)) (by decide) ?_
  refine ev_iload_n dX3_isLetter_4 rfl ?_
  refine ev_iald dX3_isLetter_5 (by omega) ly_82 rfl b0 ?_
  refine ev_bipush (v := 97) dX3_isLetter_6 kb_97 ?_
  refine ev_icmpF (tgt := 26) dX3_isLetter_8 (by decide) c0 ?_
  refine ev_aload_n dX3_isLetter_11 rfl ?_
  refine ev_getS (q := 82) dX3_isLetter_12 fo_3_9 (by omega) lo_81 rfl (sh_81_0 hX (by omega)) (by decide) ?_
  refine ev_iload_n dX3_isLetter_15 rfl ?_
  refine ev_iald dX3_isLetter_16 (by omega) ly_82 rfl b0 ?_
  refine ev_bipush (v := 122) dX3_isLetter_17 kb_122 ?_
  refine ev_icmpF (tgt := 26) dX3_isLetter_19 (by decide) c1 ?_
  refine ev_iconst (v := 1) dX3_isLetter_22 ki_1 ?_
  refine ev_goto (tgt := 27) dX3_isLetter_23 (by decide) ?_
  exact ev_iret dX3_isLetter_27 rfl (by decide) hp
theorem bX3_isLetter_0_1 {g : GG} {d n : Nat} {post : Option Value → LX → Prop} {X : LX} (hn : 146 ≤ n) (hX : Sh n X) {v1 : Nat} (b0 : v1 < 120) (c0 : ¬ X 82 v1 < 97) (c1 : 122 < X 82 v1) (hp : post (some (.int 0)) X) : Ev g mX3_isLetter d n n post n 0 [some (.ref 81), some (.int (nI v1))] [] X := by
  refine ev_aload_n dX3_isLetter_0 rfl ?_
  refine ev_getS (q := 82) dX3_isLetter_1 fo_3_9 (by omega) lo_81 rfl (sh_81_0 hX (by omega)) (by decide) ?_
  refine ev_iload_n dX3_isLetter_4 rfl ?_
  refine ev_iald dX3_isLetter_5 (by omega) ly_82 rfl b0 ?_
  refine ev_bipush (v := 97) dX3_isLetter_6 kb_97 ?_
  refine ev_icmpF (tgt := 26) dX3_isLetter_8 (by decide) c0 ?_
  refine ev_aload_n dX3_isLetter_11 rfl ?_
  refine ev_getS (q := 82) dX3_isLetter_12 fo_3_9 (by omega) lo_81 rfl (sh_81_0 hX (by omega)) (by decide) ?_
  refine ev_iload_n dX3_isLetter_15 rfl ?_
  refine ev_iald dX3_isLetter_16 (by omega) ly_82 rfl b0 ?_
  refine ev_bipush (v := 122) dX3_isLetter_17 kb_122 ?_
  refine ev_icmpT (tgt := 26) dX3_isLetter_19 (by decide) c1 ?_
  refine ev_iconst (v := 0) dX3_isLetter_26 ki_0 ?_
  exact ev_iret dX3_isLetter_27 rfl (by decide) hp
theorem bX3_isLetter_0_2 {g : GG} {d n : Nat} {post : Option Value → LX → Prop} {X : LX} (hn : 146 ≤ n) (hX : Sh n X) {v1 : Nat} (b0 : v1 < 120) (c0 : X 82 v1 < 97) (hp : post (some (.int 0)) X) : Ev g mX3_isLetter d n n post n 0 [some (.ref 81), some (.int (nI v1))] [] X := by
  refine ev_aload_n dX3_isLetter_0 rfl ?_
  refine ev_getS (q := 82) dX3_isLetter_1 fo_3_9 (by omega) lo_81 rfl (sh_81_0 hX (by omega)) (by decide) ?_
  refine ev_iload_n dX3_isLetter_4 rfl ?_
  refine ev_iald dX3_isLetter_5 (by omega) ly_82 rfl b0 ?_
  refine ev_bipush (v := 97) dX3_isLetter_6 kb_97 ?_
  refine ev_icmpT (tgt := 26) dX3_isLetter_8 (by decide) c0 ?_
  refine ev_iconst (v := 0) dX3_isLetter_26 ki_0 ?_
  exact ev_iret dX3_isLetter_27 rfl (by decide) hp
theorem bX3_isDigit_0_0 {g : GG} {d n : Nat} {post : Option Value → LX → Prop} {X : LX} (hn : 146 ≤ n) (hX : Sh n X) {v1 : Nat} (b0 : v1 < 120) (c0 : ¬ X 82 v1 < 48) (c1 : ¬ 57 < X 82 v1) (hp : post (some (.int 1)) X) : Ev g mX3_isDigit d n n post n 0 [some (.ref 81), some (.int (nI v1))] [] X := by
  refine ev_aload_n dX3_isDigit_0 rfl ?_
  refine ev_getS (q := 82) dX3_isDigit_1 fo_3_9 (by omega) lo_81 rfl (sh_81_0 hX (by omega)) (by decide) ?_
  refine ev_iload_n dX3_isDigit_4 rfl ?_
  refine ev_iald dX3_isDigit_5 (by omega) ly_82 rfl b0 ?_
  refine ev_bipush (v := 48) dX3_isDigit_6 kb_48 ?_
  refine ev_icmpF (tgt := 26) dX3_isDigit_8 (by decide) c0 ?_
  refine ev_aload_n dX3_isDigit_11 rfl ?_
  refine ev_getS (q := 82) dX3_isDigit_12 fo_3_9 (by omega) lo_81 rfl (sh_81_0 hX (by omega)) (by decide) ?_
  refine ev_iload_n dX3_isDigit_15 rfl ?_
  refine ev_iald dX3_isDigit_16 (by omega) ly_82 rfl b0 ?_
  refine ev_bipush (v := 57) dX3_isDigit_17 kb_57 ?_
  refine ev_icmpF (tgt := 26) dX3_isDigit_19 (by decide) c1 ?_
  refine ev_iconst (v := 1) dX3_isDigit_22 ki_1 ?_
  refine ev_goto (tgt := 27) dX3_isDigit_23 (by decide) ?_
  exact ev_iret dX3_isDigit_27 rfl (by decide) hp
theorem bX3_isDigit_0_1 {g : GG} {d n : Nat} {post : Option Value → LX → Prop} {X : LX} (hn : 146 ≤ n) (hX : Sh n X) {v1 : Nat} (b0 : v1 < 120) (c0 : ¬ X 82 v1 < 48) (c1 : 57 < X 82 v1) (hp : post (some (.int 0)) X) : Ev g mX3_isDigit d n n post n 0 [some (.ref 81), some (.int (nI v1))] [] X := by
  refine ev_aload_n dX3_isDigit_0 rfl ?_
  refine ev_getS (q := 82) dX3_isDigit_1 fo_3_9 (by omega) lo_81 rfl (sh_81_0 hX (by omega)) (by decide) ?_
  refine ev_iload_n dX3_isDigit_4 rfl ?_
  refine ev_iald dX3_isDigit_5 (by omega) ly_82 rfl b0 ?_
  refine ev_bipush (v := 48) dX3_isDigit_6 kb_48 ?_
  refine ev_icmpF (tgt := 26) dX3_isDigit_8 (by decide) c0 ?_
  refine ev_aload_n dX3_isDigit_11 rfl ?_
  refine ev_getS (q := 82) dX3_isDigit_12 fo_3_9 (by omega) lo_81 rfl (sh_81_0 hX (by omega)) (by decide) ?_
  refine ev_iload_n dX3_isDigit_15 rfl ?_
  refine ev_iald dX3_isDigit_16 (by omega) ly_82 rfl b0 ?_
  refine ev_bipush (v := 57) dX3_isDigit_17 kb_57 ?_
  refine ev_icmpT (tgt := 26) dX3_isDigit_19 (by decide) c1 ?_
  refine ev_iconst (v := 0) dX3_isDigit_26 ki_0 ?_
  exact ev_iret dX3_isDigit_27 rfl (by decide) hp
theorem bX3_isDigit_0_2 {g : GG} {d n : Nat} {post : Option Value → LX → Prop} {X : LX} (hn : 146 ≤ n) (hX : Sh n X) {v1 : Nat} (b0 : v1 < 120) (c0 : X 82 v1 < 48) (hp : post (some (.int 0)) X) : Ev g mX3_isDigit d n n post n 0 [some (.ref 81), some (.int (nI v1))] [] X := by
  refine ev_aload_n dX3_isDigit_0 rfl ?_
  refine ev_getS (q := 82) dX3_isDigit_1 fo_3_9 (by omega) lo_81 rfl (sh_81_0 hX (by omega)) (by decide) ?_
  refine ev_iload_n dX3_isDigit_4 rfl ?_
  refine ev_iald dX3_isDigit_5 (by omega) ly_82 rfl b0 ?_
  refine ev_bipush (v := 48) dX3_isDigit_6 kb_48 ?_
  refine ev_icmpT (tgt := 26) dX3_isDigit_8 (by decide) c0 ?_
  refine ev_iconst (v := 0) dX3_isDigit_26 ki_0 ?_
  exact ev_iret dX3_isDigit_27 rfl (by decide) hp
theorem bX3_fail_0_0 {g : GG} {d n : Nat} {post : Option Value → LX → Prop} {X : LX} (hn : 146 ≤ n) (hX : Sh n X)  (c0 : ¬ 0 ≤ X 81 6) (hp : post none (lx_up X 81 6 (X 81 9))) : Ev g mX3_fail d n n post n 0 [some (.ref 81)] [] X := by
  refine ev_aload_n dX3_fail_0 rfl ?_
  refine ev_getI dX3_fail_1 fo_3_28 (by omega) lo_81 rfl ?_
  refine ev_ifF (tgt := 15) dX3_fail_4 (by decide) c0 ?_
  refine ev_aload_n dX3_fail_7 rfl ?_
  refine ev_aload_n dX3_fail_8 rfl ?_
  refine ev_getI dX3_fail_9 fo_3_66 (by omega) lo_81 rfl ?_
  refine ev_putI dX3_fail_12 fo_3_28 (by omega) lo_81 rfl rfl rfl ?_
  have hX1 : Sh _ (lx_up X 81 6 (X 81 9)) := Sh.upF hX (by rw [lo_81]; decide) (by decide)
  exact ev_ret dX3_fail_15 rfl hp
theorem bX3_fail_0_1 {g : GG} {d n : Nat} {post : Option Value → LX → Prop} {X : LX} (hn : 146 ≤ n) (hX : Sh n X)  (c0 : 0 ≤ X 81 6) (hp : post none X) : Ev g mX3_fail d n n post n 0 [some (.ref 81)] [] X := by
  refine ev_aload_n dX3_fail_0 rfl ?_
  refine ev_getI dX3_fail_1 fo_3_28 (by omega) lo_81 rfl ?_
  refine ev_ifT (tgt := 15) dX3_fail_4 (by decide) c0 ?_
  exact ev_ret dX3_fail_15 rfl hp
theorem bX3_put_0_0 {g : GG} {d n : Nat} {post : Option Value → LX → Prop} {X : LX} (hn : 146 ≤ n) (hX : Sh n X) {v1 : Int32} {j1 : Nat} (c0 : ¬ 120 ≤ X 81 3) (hj1 : X 81 3 = nI j1) (b0 : j1 < 120) (hp : post none (lx_up (lx_up X 81 3 ((X 81 3) + 1)) 83 j1 v1)) : Ev g mX3_put d n n post n 0 [some (.ref 81), some (.int v1)] [] X := by
  refine ev_aload_n dX3_put_0 rfl ?_
  refine ev_getI dX3_put_1 fo_3_22 (by omega) lo_81 rfl ?_
  refine ev_bipush (v := 120) dX3_put_4 kb_120 ?_
  refine ev_icmpF (tgt := 26) dX3_put_6 (by decide) c0 ?_
  refine ev_aload_n dX3_put_9 rfl ?_
  refine ev_getS (q := 83) dX3_put_10 fo_3_15 (by omega) lo_81 rfl (sh_81_2 hX (by omega)) (by decide) ?_
  refine ev_aload_n dX3_put_13 rfl ?_
  refine ev_dup dX3_put_14 rfl ?_
  refine ev_getI dX3_put_15 fo_3_22 (by omega) lo_81 rfl ?_
  refine ev_dup_x1 dX3_put_18 rfl rfl ?_
  refine ev_iconst (v := 1) dX3_put_19 ki_1 ?_
  refine ev_iadd dX3_put_20 ?_
  refine ev_putI dX3_put_21 fo_3_22 (by omega) lo_81 rfl rfl rfl ?_
  have hX1 : Sh _ (lx_up X 81 3 ((X 81 3) + 1)) := Sh.upF hX (by rw [lo_81]; decide) (by decide)
  refine ev_iload_n dX3_put_24 rfl ?_
  refine ev_iast dX3_put_25 (by omega) ly_83 hj1 b0 ?_
  have hX2 : Sh _ (lx_up (lx_up X 81 3 ((X 81 3) + 1)) 83 j1 v1) := Sh.upA hX1 (by rw [ly_83]; exact (by decide : 0 < 2))
  exact ev_ret dX3_put_26 rfl hp
theorem bX3_put_0_1 {g : GG} {d n : Nat} {post : Option Value → LX → Prop} {X : LX} (hn : 146 ≤ n) (hX : Sh n X) {v1 : Int32} (c0 : 120 ≤ X 81 3) (hp : post none X) : Ev g mX3_put d n n post n 0 [some (.ref 81), some (.int v1)] [] X := by
  refine ev_aload_n dX3_put_0 rfl ?_
  refine ev_getI dX3_put_1 fo_3_22 (by omega) lo_81 rfl ?_
  refine ev_bipush (v := 120) dX3_put_4 kb_120 ?_
  refine ev_icmpT (tgt := 26) dX3_put_6 (by decide) c0 ?_
  exact ev_ret dX3_put_26 rfl hp
theorem bX3_number_0_0 {g : GG} {d n : Nat} {post : Option Value → LX → Prop} {X : LX} (hn : 146 ≤ n) (hX : Sh n X)  (k : Ev g mX3_number d n n post n 7 [some (.ref 81), some (.int 0), some (.int (X 81 9))] [] X) : Ev g mX3_number d n n post n 0 [some (.ref 81), none, none] [] X := by
  refine ev_iconst (v := 0) dX3_number_0 ki_0 ?_
  refine ev_istore_n dX3_number_1 (by decide) ?_
  refine ev_aload_n dX3_number_2 rfl ?_
  refine ev_getI dX3_number_3 fo_3_66 (by omega) lo_81 rfl ?_
  refine ev_istore_n dX3_number_6 (by decide) ?_
  exact k
theorem bX3_number_7_0 {g : GG} {d n : Nat} {post : Option Value → LX → Prop} {X : LX} (hn : 146 ≤ n) (hX : Sh n X) {v1 : Int32} {v2 : Nat} (c0 : ¬ X 81 10 ≤ nI v2) (b0 : v2 < 120) (k : Ev g mX3_number d n n post n 7 [some (.ref 81), some (.int (((v1 * 10) + (X 82 v2)) - 48)), some (.int ((nI v2) + 1))] [] X) : Ev g mX3_number d n n post n 7 [some (.ref 81), some (.int v1), some (.int (nI v2))] [] X := by
  refine ev_iload_n dX3_number_7 rfl ?_
  refine ev_aload_n dX3_number_8 rfl ?_
  refine ev_getI dX3_number_9 fo_3_34 (by omega) lo_81 rfl ?_
  refine ev_icmpF (tgt := 36) dX3_number_12 (by decide) c0 ?_
  refine ev_iload_n dX3_number_15 rfl ?_
  refine ev_bipush (v := 10) dX3_number_16 kb_10 ?_
  refine ev_imul dX3_number_18 ?_
  refine ev_aload_n dX3_number_19 rfl ?_
  refine ev_getS (q := 82) dX3_number_20 fo_3_9 (by omega) lo_81 rfl (sh_81_0 hX (by omega)) (by decide) ?_
  refine ev_iload_n dX3_number_23 rfl ?_
  refine ev_iald dX3_number_24 (by omega) ly_82 rfl b0 ?_
  refine ev_iadd dX3_number_25 ?_
  refine ev_bipush (v := 48) dX3_number_26 kb_48 ?_
  refine ev_isub dX3_number_28 ?_
  refine ev_istore_n dX3_number_29 (by decide) ?_
  refine ev_iinc (v := (nI v2) + 1) dX3_number_30 rfl (by rw [show Int32.ofInt 1 = 1 from ki_1]) (by decide) ?_
  refine ev_goto (tgt := 7) dX3_number_33 (by decide) ?_
  exact k
theorem bX3_number_7_1 {g : GG} {d n : Nat} {post : Option Value → LX → Prop} {X : LX} (hn : 146 ≤ n) (hX : Sh n X) {v1 : Int32} {v2 : Int32} (c0 : X 81 10 ≤ v2) (hp : post (some (.int v1)) X) : Ev g mX3_number d n n post n 7 [some (.ref 81), some (.int v1), some (.int v2)] [] X := by
  refine ev_iload_n dX3_number_7 rfl ?_
  refine ev_aload_n dX3_number_8 rfl ?_
  refine ev_getI dX3_number_9 fo_3_34 (by omega) lo_81 rfl ?_
  refine ev_icmpT (tgt := 36) dX3_number_12 (by decide) c0 ?_
  refine ev_iload_n dX3_number_36 rfl ?_
  exact ev_iret dX3_number_37 rfl rfl hp
theorem bX4_leftOf_0_0 {g : GG} {d n : Nat} {post : Option Value → LX → Prop} {X : LX} (hn : 146 ≤ n) (hX : Sh n X) {v1 : Int32} (k : Ev g mX4_leftOf d n n post n 4 [some (.ref 69), some (.int v1), some (.int 0), some (.int 0)] [] X) : Ev g mX4_leftOf d n n post n 0 [some (.ref 69), some (.int v1), none, none] [] X := by
  refine ev_iconst (v := 0) dX4_leftOf_0 ki_0 ?_
  refine ev_istore_n dX4_leftOf_1 (by decide) ?_
  refine ev_iconst (v := 0) dX4_leftOf_2 ki_0 ?_
  refine ev_istore_n dX4_leftOf_3 (by decide) ?_
  exact k
theorem bX4_leftOf_4_0 {g : GG} {d n : Nat} {post : Option Value → LX → Prop} {X : LX} (hn : 146 ≤ n) (hX : Sh n X) {v1 : Int32} {v2 : Int32} {v3 : Nat} (c0 : ¬ X 69 0 ≤ nI v3) (b0 : v3 < 40) (c1 : X 70 v3 = v1) (k : Ev g mX4_leftOf d n n post n 4 [some (.ref 69), some (.int v1), some (.int (v2 + (X 73 v3))), some (.int ((nI v3) + 1))] [] X) : Ev g mX4_leftOf d n n post n 4 [some (.ref 69), some (.int v1), some (.int v2), some (.int (nI v3))] [] X := by
  refine ev_iload_n dX4_leftOf_4 rfl ?_
  refine ev_aload_n dX4_leftOf_5 rfl ?_
  refine ev_getI dX4_leftOf_6 fo_4_33 (by omega) lo_69 rfl ?_
  refine ev_icmpF (tgt := 37) dX4_leftOf_9 (by decide) c0 ?_
  refine ev_aload_n dX4_leftOf_12 rfl ?_
  refine ev_getS (q := 70) dX4_leftOf_13 fo_4_9 (by omega) lo_69 rfl (sh_69_1 hX (by omega)) (by decide) ?_
  refine ev_iload_n dX4_leftOf_16 rfl ?_
  refine ev_iald dX4_leftOf_17 (by omega) ly_70 rfl b0 ?_
  refine ev_iload_n dX4_leftOf_18 rfl ?_
  refine ev_icmpF (tgt := 31) dX4_leftOf_19 (by decide) c1 ?_
  refine ev_iload_n dX4_leftOf_22 rfl ?_
  refine ev_aload_n dX4_leftOf_23 rfl ?_
  refine ev_getS (q := 73) dX4_leftOf_24 fo_4_21 (by omega) lo_69 rfl (sh_69_4 hX (by omega)) (by decide) ?_
  refine ev_iload_n dX4_leftOf_27 rfl ?_
  refine ev_iald dX4_leftOf_28 (by omega) ly_73 rfl b0 ?_
  refine ev_iadd dX4_leftOf_29 ?_
  refine ev_istore_n dX4_leftOf_30 (by decide) ?_
  refine ev_iinc (v := (nI v3) + 1) dX4_leftOf_31 rfl (by rw [show Int32.ofInt 1 = 1 from ki_1]) (by decide) ?_
  refine ev_goto (tgt := 4) dX4_leftOf_34 (by decide) ?_
  exact k
theorem bX4_leftOf_4_1 {g : GG} {d n : Nat} {post : Option Value → LX → Prop} {X : LX} (hn : 146 ≤ n) (hX : Sh n X) {v1 : Int32} {v2 : Int32} {v3 : Nat} (c0 : ¬ X 69 0 ≤ nI v3) (b0 : v3 < 40) (c1 : ¬ X 70 v3 = v1) (k : Ev g mX4_leftOf d n n post n 4 [some (.ref 69), some (.int v1), some (.int v2), some (.int ((nI v3) + 1))] [] X) : Ev g mX4_leftOf d n n post n 4 [some (.ref 69), some (.int v1), some (.int v2), some (.int (nI v3))] [] X := by
  refine ev_iload_n dX4_leftOf_4 rfl ?_
  refine ev_aload_n dX4_leftOf_5 rfl ?_
  refine ev_getI dX4_leftOf_6 fo_4_33 (by omega) lo_69 rfl ?_
  refine ev_icmpF (tgt := 37) dX4_leftOf_9 (by decide) c0 ?_
  refine ev_aload_n dX4_leftOf_12 rfl ?_
  refine ev_getS (q := 70) dX4_leftOf_13 fo_4_9 (by omega) lo_69 rfl (sh_69_1 hX (by omega)) (by decide) ?_
  refine ev_iload_n dX4_leftOf_16 rfl ?_
  refine ev_iald dX4_leftOf_17 (by omega) ly_70 rfl b0 ?_
  refine ev_iload_n dX4_leftOf_18 rfl ?_
  refine ev_icmpT (tgt := 31) dX4_leftOf_19 (by decide) c1 ?_
  refine ev_iinc (v := (nI v3) + 1) dX4_leftOf_31 rfl (by rw [show Int32.ofInt 1 = 1 from ki_1]) (by decide) ?_
  refine ev_goto (tgt := 4) dX4_leftOf_34 (by decide) ?_
  exact k
theorem bX4_leftOf_4_2 {g : GG} {d n : Nat} {post : Option Value → LX → Prop} {X : LX} (hn : 146 ≤ n) (hX : Sh n X) {v1 : Int32} {v2 : Int32} {v3 : Int32} (c0 : X 69 0 ≤ v3) (hp : post (some (.int v2)) X) : Ev g mX4_leftOf d n n post n 4 [some (.ref 69), some (.int v1), some (.int v2), some (.int v3)] [] X := by
  refine ev_iload_n dX4_leftOf_4 rfl ?_
  refine ev_aload_n dX4_leftOf_5 rfl ?_
  refine ev_getI dX4_leftOf_6 fo_4_33 (by omega) lo_69 rfl ?_
  refine ev_icmpT (tgt := 37) dX4_leftOf_9 (by decide) c0 ?_
  refine ev_iload_n dX4_leftOf_37 rfl ?_
  exact ev_iret dX4_leftOf_38 rfl rfl hp
theorem bX4_cameOf_0_0 {g : GG} {d n : Nat} {post : Option Value → LX → Prop} {X : LX} (hn : 146 ≤ n) (hX : Sh n X) {v1 : Int32} (k : Ev g mX4_cameOf d n n post n 4 [some (.ref 69), some (.int v1), some (.int 0), some (.int 0)] [] X) : Ev g mX4_cameOf d n n post n 0 [some (.ref 69), some (.int v1), none, none] [] X := by
  refine ev_iconst (v := 0) dX4_cameOf_0 ki_0 ?_
  refine ev_istore_n dX4_cameOf_1 (by decide) ?_
  refine ev_iconst (v := 0) dX4_cameOf_2 ki_0 ?_
  refine ev_istore_n dX4_cameOf_3 (by decide) ?_
  exact k
theorem bX4_cameOf_4_0 {g : GG} {d n : Nat} {post : Option Value → LX → Prop} {X : LX} (hn : 146 ≤ n) (hX : Sh n X) {v1 : Int32} {v2 : Int32} {v3 : Nat} (c0 : ¬ X 69 0 ≤ nI v3) (b0 : v3 < 40) (c1 : X 70 v3 = v1) (k : Ev g mX4_cameOf d n n post n 4 [some (.ref 69), some (.int v1), some (.int (v2 + (X 71 v3))), some (.int ((nI v3) + 1))] [] X) : Ev g mX4_cameOf d n n post n 4 [some (.ref 69), some (.int v1), some (.int v2), some (.int (nI v3))] [] X := by
  refine ev_iload_n dX4_cameOf_4 rfl ?_
  refine ev_aload_n dX4_cameOf_5 rfl ?_
  refine ev_getI dX4_cameOf_6 fo_4_33 (by omega) lo_69 rfl ?_
  refine ev_icmpF (tgt := 37) dX4_cameOf_9 (by decide) c0 ?_
  refine ev_aload_n dX4_cameOf_12 rfl ?_
  refine ev_getS (q := 70) dX4_cameOf_13 fo_4_9 (by omega) lo_69 rfl (sh_69_1 hX (by omega)) (by decide) ?_
  refine ev_iload_n dX4_cameOf_16 rfl ?_
  refine ev_iald dX4_cameOf_17 (by omega) ly_70 rfl b0 ?_
  refine ev_iload_n dX4_cameOf_18 rfl ?_
  refine ev_icmpF (tgt := 31) dX4_cameOf_19 (by decide) c1 ?_
  refine ev_iload_n dX4_cameOf_22 rfl ?_
  refine ev_aload_n dX4_cameOf_23 rfl ?_
  refine ev_getS (q := 71) dX4_cameOf_24 fo_4_15 (by omega) lo_69 rfl (sh_69_2 hX (by omega)) (by decide) ?_
  refine ev_iload_n dX4_cameOf_27 rfl ?_
  refine ev_iald dX4_cameOf_28 (by omega) ly_71 rfl b0 ?_
  refine ev_iadd dX4_cameOf_29 ?_
  refine ev_istore_n dX4_cameOf_30 (by decide) ?_
  refine ev_iinc (v := (nI v3) + 1) dX4_cameOf_31 rfl (by rw [show Int32.ofInt 1 = 1 from ki_1]) (by decide) ?_
  refine ev_goto (tgt := 4) dX4_cameOf_34 (by decide) ?_
  exact k
theorem bX4_cameOf_4_1 {g : GG} {d n : Nat} {post : Option Value → LX → Prop} {X : LX} (hn : 146 ≤ n) (hX : Sh n X) {v1 : Int32} {v2 : Int32} {v3 : Nat} (c0 : ¬ X 69 0 ≤ nI v3) (b0 : v3 < 40) (c1 : ¬ X 70 v3 = v1) (k : Ev g mX4_cameOf d n n post n 4 [some (.ref 69), some (.int v1), some (.int v2), some (.int ((nI v3) + 1))] [] X) : Ev g mX4_cameOf d n n post n 4 [some (.ref 69), some (.int v1), some (.int v2), some (.int (nI v3))] [] X := by
  refine ev_iload_n dX4_cameOf_4 rfl ?_
  refine ev_aload_n dX4_cameOf_5 rfl ?_
  refine ev_getI dX4_cameOf_6 fo_4_33 (by omega) lo_69 rfl ?_
  refine ev_icmpF (tgt := 37) dX4_cameOf_9 (by decide) c0 ?_
  refine ev_aload_n dX4_cameOf_12 rfl ?_
  refine ev_getS (q := 70) dX4_cameOf_13 fo_4_9 (by omega) lo_69 rfl (sh_69_1 hX (by omega)) (by decide) ?_
  refine ev_iload_n dX4_cameOf_16 rfl ?_
  refine ev_iald dX4_cameOf_17 (by omega) ly_70 rfl b0 ?_
  refine ev_iload_n dX4_cameOf_18 rfl ?_
  refine ev_icmpT (tgt := 31) dX4_cameOf_19 (by decide) c1 ?_
  refine ev_iinc (v := (nI v3) + 1) dX4_cameOf_31 rfl (by rw [show Int32.ofInt 1 = 1 from ki_1]) (by decide) ?_
  refine ev_goto (tgt := 4) dX4_cameOf_34 (by decide) ?_
  exact k
theorem bX4_cameOf_4_2 {g : GG} {d n : Nat} {post : Option Value → LX → Prop} {X : LX} (hn : 146 ≤ n) (hX : Sh n X) {v1 : Int32} {v2 : Int32} {v3 : Int32} (c0 : X 69 0 ≤ v3) (hp : post (some (.int v2)) X) : Ev g mX4_cameOf d n n post n 4 [some (.ref 69), some (.int v1), some (.int v2), some (.int v3)] [] X := by
  refine ev_iload_n dX4_cameOf_4 rfl ?_
  refine ev_aload_n dX4_cameOf_5 rfl ?_
  refine ev_getI dX4_cameOf_6 fo_4_33 (by omega) lo_69 rfl ?_
  refine ev_icmpT (tgt := 37) dX4_cameOf_9 (by decide) c0 ?_
  refine ev_iload_n dX4_cameOf_37 rfl ?_
  exact ev_iret dX4_cameOf_38 rfl rfl hp
theorem bX4_throwLeft_0_0 {g : GG} {d n : Nat} {post : Option Value → LX → Prop} {X : LX} (hn : 146 ≤ n) (hX : Sh n X) {v1 : Nat} {j1 : Nat} (b0 : v1 < 40) (hj1 : X 70 v1 = nI j1) (b1 : j1 < 14) (hp : post none (lx_up (lx_up X 76 j1 ((X 76 j1) + (X 73 v1))) 73 v1 0)) : Ev g mX4_throwLeft d n n post n 0 [some (.ref 69), some (.int (nI v1))] [] X := by
  refine ev_aload_n dX4_throwLeft_0 rfl ?_
  refine ev_getS (q := 76) dX4_throwLeft_1 fo_4_30 (by omega) lo_69 rfl (sh_69_7 hX (by omega)) (by decide) ?_
  refine ev_aload_n dX4_throwLeft_4 rfl ?_
  refine ev_getS (q := 70) dX4_throwLeft_5 fo_4_9 (by omega) lo_69 rfl (sh_69_1 hX (by omega)) (by decide) ?_
  refine ev_iload_n dX4_throwLeft_8 rfl ?_
  refine ev_iald dX4_throwLeft_9 (by omega) ly_70 rfl b0 ?_
  refine ev_dup2 dX4_throwLeft_10 rfl rfl ?_
  refine ev_iald dX4_throwLeft_11 (by omega) ly_76 hj1 b1 ?_
  refine ev_aload_n dX4_throwLeft_12 rfl ?_
  refine ev_getS (q := 73) dX4_throwLeft_13 fo_4_21 (by omega) lo_69 rfl (sh_69_4 hX (by omega)) (by decide) ?_
  refine ev_iload_n dX4_throwLeft_16 rfl ?_
  refine ev_iald dX4_throwLeft_17 (by omega) ly_73 rfl b0 ?_
  refine ev_iadd dX4_throwLeft_18 ?_
  refine ev_iast dX4_throwLeft_19 (by omega) ly_76 hj1 b1 ?_
  have hX1 : Sh _ (lx_up X 76 j1 ((X 76 j1) + (X 73 v1))) := Sh.upA hX (by rw [ly_76]; exact (by decide : 0 < 2))
  refine ev_aload_n dX4_throwLeft_20 rfl ?_
  refine ev_getS (q := 73) dX4_throwLeft_21 fo_4_21 (by omega) lo_69 rfl (sh_69_4 hX1 (by omega)) (by decide) ?_
  refine ev_iload_n dX4_throwLeft_24 rfl ?_
  refine ev_iconst (v := 0) dX4_throwLeft_25 ki_0 ?_
  refine ev_iast dX4_throwLeft_26 (by omega) ly_73 rfl b0 ?_
  have hX2 : Sh _ (lx_up (lx_up X 76 j1 ((X 76 j1) + (X 73 v1))) 73 v1 0) := Sh.upA hX1 (by rw [ly_73]; exact (by decide : 0 < 2))
  exact ev_ret dX4_throwLeft_27 rfl hp
theorem bX8_isSwapped_0_0 {g : GG} {d n : Nat} {post : Option Value → LX → Prop} {X : LX} (hn : 146 ≤ n) (hX : Sh n X) {v1 : Nat} (b0 : v1 < 12) (c0 : ¬ X 108 v1 < 0) (hp : post (some (.int 1)) X) : Ev g mX8_isSwapped d n n post n 0 [some (.ref 87), some (.int (nI v1))] [] X := by
  refine ev_aload_n dX8_isSwapped_0 rfl ?_
  refine ev_getS (q := 108) dX8_isSwapped_1 fo_8_38 (by omega) lo_87 rfl (sh_87_11 hX (by omega)) (by decide) ?_
  refine ev_iload_n dX8_isSwapped_4 rfl ?_
  refine ev_iald dX8_isSwapped_5 (by omega) ly_108 rfl b0 ?_
  refine ev_ifF (tgt := 13) dX8_isSwapped_6 (by decide) c0 ?_
  refine ev_iconst (v := 1) dX8_isSwapped_9 ki_1 ?_
  refine ev_goto (tgt := 14) dX8_isSwapped_10 (by decide) ?_
  exact ev_iret dX8_isSwapped_14 rfl (by decide) hp
theorem bX8_isSwapped_0_1 {g : GG} {d n : Nat} {post : Option Value → LX → Prop} {X : LX} (hn : 146 ≤ n) (hX : Sh n X) {v1 : Nat} (b0 : v1 < 12) (c0 : X 108 v1 < 0) (hp : post (some (.int 0)) X) : Ev g mX8_isSwapped d n n post n 0 [some (.ref 87), some (.int (nI v1))] [] X := by
  refine ev_aload_n dX8_isSwapped_0 rfl ?_
  refine ev_getS (q := 108) dX8_isSwapped_1 fo_8_38 (by omega) lo_87 rfl (sh_87_11 hX (by omega)) (by decide) ?_
  refine ev_iload_n dX8_isSwapped_4 rfl ?_
  refine ev_iald dX8_isSwapped_5 (by omega) ly_108 rfl b0 ?_
  refine ev_ifT (tgt := 13) dX8_isSwapped_6 (by decide) c0 ?_
  refine ev_iconst (v := 0) dX8_isSwapped_13 ki_0 ?_
  exact ev_iret dX8_isSwapped_14 rfl (by decide) hp
theorem bX8_goesOf_0_0 {g : GG} {d n : Nat} {post : Option Value → LX → Prop} {X : LX} (hn : 146 ≤ n) (hX : Sh n X) {v1 : Nat} {j1 : Nat} (b0 : v1 < 12) (c0 : ¬ X 108 v1 < 0) (hj1 : X 108 v1 = nI j1) (b1 : j1 < 588) (hp : post (some (.int (X 103 j1))) X) : Ev g mX8_goesOf d n n post n 0 [some (.ref 87), some (.int (nI v1))] [] X := by
  refine ev_aload_n dX8_goesOf_0 rfl ?_
  refine ev_getS (q := 108) dX8_goesOf_1 fo_8_38 (by omega) lo_87 rfl (sh_87_11 hX (by omega)) (by decide) ?_
  refine ev_iload_n dX8_goesOf_4 rfl ?_
  refine ev_iald dX8_goesOf_5 (by omega) ly_108 rfl b0 ?_
  refine ev_ifF (tgt := 23) dX8_goesOf_6 (by decide) c0 ?_
  refine ev_aload_n dX8_goesOf_9 rfl ?_
  refine ev_getS (q := 103) dX8_goesOf_10 fo_8_23 (by omega) lo_87 rfl (sh_87_5 hX (by omega)) (by decide) ?_
  refine ev_aload_n dX8_goesOf_13 rfl ?_
  refine ev_getS (q := 108) dX8_goesOf_14 fo_8_38 (by omega) lo_87 rfl (sh_87_11 hX (by omega)) (by decide) ?_
  refine ev_iload_n dX8_goesOf_17 rfl ?_
  refine ev_iald dX8_goesOf_18 (by omega) ly_108 rfl b0 ?_
  refine ev_iald dX8_goesOf_19 (by omega) ly_103 hj1 b1 ?_
  refine ev_goto (tgt := 25) dX8_goesOf_20 (by decide) ?_
  exact ev_iret dX8_goesOf_25 rfl rfl hp
theorem bX8_goesOf_0_1 {g : GG} {d n : Nat} {post : Option Value → LX → Prop} {X : LX} (hn : 146 ≤ n) (hX : Sh n X) {v1 : Nat} (b0 : v1 < 12) (c0 : X 108 v1 < 0) (hp : post (some (.int (-1000000005))) X) : Ev g mX8_goesOf d n n post n 0 [some (.ref 87), some (.int (nI v1))] [] X := by
  refine ev_aload_n dX8_goesOf_0 rfl ?_
  refine ev_getS (q := 108) dX8_goesOf_1 fo_8_38 (by omega) lo_87 rfl (sh_87_11 hX (by omega)) (by decide) ?_
  refine ev_iload_n dX8_goesOf_4 rfl ?_
  refine ev_iald dX8_goesOf_5 (by omega) ly_108 rfl b0 ?_
  refine ev_ifT (tgt := 23) dX8_goesOf_6 (by decide) c0 ?_
  refine ev_ldc (v := (-1000000005)) dX8_goesOf_23 kw_8_147 ?_
  exact ev_iret dX8_goesOf_25 rfl rfl hp
theorem bX8_comesOf_0_0 {g : GG} {d n : Nat} {post : Option Value → LX → Prop} {X : LX} (hn : 146 ≤ n) (hX : Sh n X) {v1 : Nat} {j1 : Nat} (b0 : v1 < 12) (c0 : ¬ X 108 v1 < 0) (hj1 : X 108 v1 = nI j1) (b1 : j1 < 588) (hp : post (some (.int (X 104 j1))) X) : Ev g mX8_comesOf d n n post n 0 [some (.ref 87), some (.int (nI v1))] [] X := by
  refine ev_aload_n dX8_comesOf_0 rfl ?_
  refine ev_getS (q := 108) dX8_comesOf_1 fo_8_38 (by omega) lo_87 rfl (sh_87_11 hX (by omega)) (by decide) ?_
  refine ev_iload_n dX8_comesOf_4 rfl ?_
  refine ev_iald dX8_comesOf_5 (by omega) ly_108 rfl b0 ?_
  refine ev_ifF (tgt := 23) dX8_comesOf_6 (by decide) c0 ?_
  refine ev_aload_n dX8_comesOf_9 rfl ?_
  refine ev_getS (q := 104) dX8_comesOf_10 fo_8_26 (by omega) lo_87 rfl (sh_87_6 hX (by omega)) (by decide) ?_
  refine ev_aload_n dX8_comesOf_13 rfl ?_
  refine ev_getS (q := 108) dX8_comesOf_14 fo_8_38 (by omega) lo_87 rfl (sh_87_11 hX (by omega)) (by decide) ?_
  refine ev_iload_n dX8_comesOf_17 rfl ?_
  refine ev_iald dX8_comesOf_18 (by omega) ly_108 rfl b0 ?_
  refine ev_iald dX8_comesOf_19 (by omega) ly_104 hj1 b1 ?_
  refine ev_goto (tgt := 25) dX8_comesOf_20 (by decide) ?_
  exact ev_iret dX8_comesOf_25 rfl rfl hp
theorem bX8_comesOf_0_1 {g : GG} {d n : Nat} {post : Option Value → LX → Prop} {X : LX} (hn : 146 ≤ n) (hX : Sh n X) {v1 : Nat} (b0 : v1 < 12) (c0 : X 108 v1 < 0) (hp : post (some (.int (-1000000005))) X) : Ev g mX8_comesOf d n n post n 0 [some (.ref 87), some (.int (nI v1))] [] X := by
  refine ev_aload_n dX8_comesOf_0 rfl ?_
  refine ev_getS (q := 108) dX8_comesOf_1 fo_8_38 (by omega) lo_87 rfl (sh_87_11 hX (by omega)) (by decide) ?_
  refine ev_iload_n dX8_comesOf_4 rfl ?_
  refine ev_iald dX8_comesOf_5 (by omega) ly_108 rfl b0 ?_
  refine ev_ifT (tgt := 23) dX8_comesOf_6 (by decide) c0 ?_
  refine ev_ldc (v := (-1000000005)) dX8_comesOf_23 kw_8_147 ?_
  exact ev_iret dX8_comesOf_25 rfl rfl hp
theorem bX8_change_0_0 {g : GG} {d n : Nat} {post : Option Value → LX → Prop} {X : LX} (hn : 146 ≤ n) (hX : Sh n X) {v1 : Nat} {v2 : Int32} (b0 : v1 < 14) (c0 : ¬ 0 ≤ X 101 v1) (c1 : ¬ 0 ≤ (lx_up (lx_up X 87 3 ((X 87 3) - 1)) 101 v1 ((X 101 v1) + v2)) 101 v1) (hp : post none (lx_up (lx_up (lx_up X 87 3 ((X 87 3) - 1)) 101 v1 ((X 101 v1) + v2)) 87 3 (((X 87 3) - 1) + 1))) : Ev g mX8_change d n n post n 0 [some (.ref 87), some (.int (nI v1)), some (.int v2)] [] X := by
  refine ev_aload_n dX8_change_0 rfl ?_
  refine ev_getS (q := 101) dX8_change_1 fo_8_16 (by omega) lo_87 rfl (sh_87_2 hX (by omega)) (by decide) ?_
  refine ev_iload_n dX8_change_4 rfl ?_
  refine ev_iald dX8_change_5 (by omega) ly_101 rfl b0 ?_
  refine ev_ifF (tgt := 19) dX8_change_6 (by decide) c0 ?_
  refine ev_aload_n dX8_change_9 rfl ?_
  refine ev_dup dX8_change_10 rfl ?_
  refine ev_getI dX8_change_11 fo_8_77 (by omega) lo_87 rfl ?_
  refine ev_iconst (v := 1) dX8_change_14 ki_1 ?_
  refine ev_isub dX8_change_15 ?_
  refine ev_putI dX8_change_16 fo_8_77 (by omega) lo_87 rfl rfl rfl ?_
  have hX1 : Sh _ (lx_up X 87 3 ((X 87 3) - 1)) := Sh.upF hX (by rw [lo_87]; decide) (by decide)
  refine ev_aload_n dX8_change_19 rfl ?_
  refine ev_getS (q := 101) dX8_change_20 fo_8_16 (by omega) lo_87 rfl (sh_87_2 hX1 (by omega)) (by decide) ?_
  refine ev_iload_n dX8_change_23 rfl ?_
  refine ev_dup2 dX8_change_24 rfl rfl ?_
  refine ev_iald dX8_change_25 (by omega) ly_101 rfl b0 ?_
  refine ev_iload_n dX8_change_26 rfl ?_
  refine ev_iadd dX8_change_27 ?_
  refine ev_iast dX8_change_28 (by omega) ly_101 rfl b0 ?_
  have hX2 : Sh _ (lx_up (lx_up X 87 3 ((X 87 3) - 1)) 101 v1 ((X 101 v1) + v2)) := Sh.upA hX1 (by rw [ly_101]; exact (by decide : 0 < 2))
  refine ev_aload_n dX8_change_29 rfl ?_
  refine ev_getS (q := 101) dX8_change_30 fo_8_16 (by omega) lo_87 rfl (sh_87_2 hX2 (by omega)) (by decide) ?_
  refine ev_iload_n dX8_change_33 rfl ?_
  refine ev_iald dX8_change_34 (by omega) ly_101 rfl b0 ?_
  refine ev_ifF (tgt := 48) dX8_change_35 (by decide) c1 ?_
  refine ev_aload_n dX8_change_38 rfl ?_
  refine ev_dup dX8_change_39 rfl ?_
  refine ev_getI dX8_change_40 fo_8_77 (by omega) lo_87 rfl ?_
  refine ev_iconst (v := 1) dX8_change_43 ki_1 ?_
  refine ev_iadd dX8_change_44 ?_
  refine ev_putI dX8_change_45 fo_8_77 (by omega) lo_87 rfl rfl rfl ?_
  have hX3 : Sh _ (lx_up (lx_up (lx_up X 87 3 ((X 87 3) - 1)) 101 v1 ((X 101 v1) + v2)) 87 3 (((X 87 3) - 1) + 1)) := Sh.upF hX2 (by rw [lo_87]; decide) (by decide)
  exact ev_ret dX8_change_48 rfl hp
theorem bX8_change_0_1 {g : GG} {d n : Nat} {post : Option Value → LX → Prop} {X : LX} (hn : 146 ≤ n) (hX : Sh n X) {v1 : Nat} {v2 : Int32} (b0 : v1 < 14) (c0 : ¬ 0 ≤ X 101 v1) (c1 : 0 ≤ (lx_up (lx_up X 87 3 ((X 87 3) - 1)) 101 v1 ((X 101 v1) + v2)) 101 v1) (hp : post none (lx_up (lx_up X 87 3 ((X 87 3) - 1)) 101 v1 ((X 101 v1) + v2))) : Ev g mX8_change d n n post n 0 [some (.ref 87), some (.int (nI v1)), some (.int v2)] [] X := by
  refine ev_aload_n dX8_change_0 rfl ?_
  refine ev_getS (q := 101) dX8_change_1 fo_8_16 (by omega) lo_87 rfl (sh_87_2 hX (by omega)) (by decide) ?_
  refine ev_iload_n dX8_change_4 rfl ?_
  refine ev_iald dX8_change_5 (by omega) ly_101 rfl b0 ?_
  refine ev_ifF (tgt := 19) dX8_change_6 (by decide) c0 ?_
  refine ev_aload_n dX8_change_9 rfl ?_
  refine ev_dup dX8_change_10 rfl ?_
  refine ev_getI dX8_change_11 fo_8_77 (by omega) lo_87 rfl ?_
  refine ev_iconst (v := 1) dX8_change_14 ki_1 ?_
  refine ev_isub dX8_change_15 ?_
  refine ev_putI dX8_change_16 fo_8_77 (by omega) lo_87 rfl rfl rfl ?_
  have hX1 : Sh _ (lx_up X 87 3 ((X 87 3) - 1)) := Sh.upF hX (by rw [lo_87]; decide) (by decide)
  refine ev_aload_n dX8_change_19 rfl ?_
  refine ev_getS (q := 101) dX8_change_20 fo_8_16 (by omega) lo_87 rfl (sh_87_2 hX1 (by omega)) (by decide) ?_
  refine ev_iload_n dX8_change_23 rfl ?_
  refine ev_dup2 dX8_change_24 rfl rfl ?_
  refine ev_iald dX8_change_25 (by omega) ly_101 rfl b0 ?_
  refine ev_iload_n dX8_change_26 rfl ?_
  refine ev_iadd dX8_change_27 ?_
  refine ev_iast dX8_change_28 (by omega) ly_101 rfl b0 ?_
  have hX2 : Sh _ (lx_up (lx_up X 87 3 ((X 87 3) - 1)) 101 v1 ((X 101 v1) + v2)) := Sh.upA hX1 (by rw [ly_101]; exact (by decide : 0 < 2))
  refine ev_aload_n dX8_change_29 rfl ?_
  refine ev_getS (q := 101) dX8_change_30 fo_8_16 (by omega) lo_87 rfl (sh_87_2 hX2 (by omega)) (by decide) ?_
  refine ev_iload_n dX8_change_33 rfl ?_
  refine ev_iald dX8_change_34 (by omega) ly_101 rfl b0 ?_
  refine ev_ifT (tgt := 48) dX8_change_35 (by decide) c1 ?_
  exact ev_ret dX8_change_48 rfl hp
theorem bX8_change_0_2 {g : GG} {d n : Nat} {post : Option Value → LX → Prop} {X : LX} (hn : 146 ≤ n) (hX : Sh n X) {v1 : Nat} {v2 : Int32} (b0 : v1 < 14) (c0 : 0 ≤ X 101 v1) (c1 : ¬ 0 ≤ (lx_up X 101 v1 ((X 101 v1) + v2)) 101 v1) (hp : post none (lx_up (lx_up X 101 v1 ((X 101 v1) + v2)) 87 3 ((X 87 3) + 1))) : Ev g mX8_change d n n post n 0 [some (.ref 87), some (.int (nI v1)), some (.int v2)] [] X := by
  refine ev_aload_n dX8_change_0 rfl ?_
  refine ev_getS (q := 101) dX8_change_1 fo_8_16 (by omega) lo_87 rfl (sh_87_2 hX (by omega)) (by decide) ?_
  refine ev_iload_n dX8_change_4 rfl ?_
  refine ev_iald dX8_change_5 (by omega) ly_101 rfl b0 ?_
  refine ev_ifT (tgt := 19) dX8_change_6 (by decide) c0 ?_
  refine ev_aload_n dX8_change_19 rfl ?_
  refine ev_getS (q := 101) dX8_change_20 fo_8_16 (by omega) lo_87 rfl (sh_87_2 hX (by omega)) (by decide) ?_
  refine ev_iload_n dX8_change_23 rfl ?_
  refine ev_dup2 dX8_change_24 rfl rfl ?_
  refine ev_iald dX8_change_25 (by omega) ly_101 rfl b0 ?_
  refine ev_iload_n dX8_change_26 rfl ?_
  refine ev_iadd dX8_change_27 ?_
  refine ev_iast dX8_change_28 (by omega) ly_101 rfl b0 ?_
  have hX1 : Sh _ (lx_up X 101 v1 ((X 101 v1) + v2)) := Sh.upA hX (by rw [ly_101]; exact (by decide : 0 < 2))
  refine ev_aload_n dX8_change_29 rfl ?_
  refine ev_getS (q := 101) dX8_change_30 fo_8_16 (by omega) lo_87 rfl (sh_87_2 hX1 (by omega)) (by decide) ?_
  refine ev_iload_n dX8_change_33 rfl ?_
  refine ev_iald dX8_change_34 (by omega) ly_101 rfl b0 ?_
  refine ev_ifF (tgt := 48) dX8_change_35 (by decide) c1 ?_
  refine ev_aload_n dX8_change_38 rfl ?_
  refine ev_dup dX8_change_39 rfl ?_
  refine ev_getI dX8_change_40 fo_8_77 (by omega) lo_87 rfl ?_
  refine ev_iconst (v := 1) dX8_change_43 ki_1 ?_
  refine ev_iadd dX8_change_44 ?_
  refine ev_putI dX8_change_45 fo_8_77 (by omega) lo_87 rfl rfl rfl ?_
  have hX2 : Sh _ (lx_up (lx_up X 101 v1 ((X 101 v1) + v2)) 87 3 ((X 87 3) + 1)) := Sh.upF hX1 (by rw [lo_87]; decide) (by decide)
  exact ev_ret dX8_change_48 rfl hp
theorem bX8_change_0_3 {g : GG} {d n : Nat} {post : Option Value → LX → Prop} {X : LX} (hn : 146 ≤ n) (hX : Sh n X) {v1 : Nat} {v2 : Int32} (b0 : v1 < 14) (c0 : 0 ≤ X 101 v1) (c1 : 0 ≤ (lx_up X 101 v1 ((X 101 v1) + v2)) 101 v1) (hp : post none (lx_up X 101 v1 ((X 101 v1) + v2))) : Ev g mX8_change d n n post n 0 [some (.ref 87), some (.int (nI v1)), some (.int v2)] [] X := by
  refine ev_aload_n dX8_change_0 rfl ?_
  refine ev_getS (q := 101) dX8_change_1 fo_8_16 (by omega) lo_87 rfl (sh_87_2 hX (by omega)) (by decide) ?_
  refine ev_iload_n dX8_change_4 rfl ?_
  refine ev_iald dX8_change_5 (by omega) ly_101 rfl b0 ?_
  refine ev_ifT (tgt := 19) dX8_change_6 (by decide) c0 ?_
  refine ev_aload_n dX8_change_19 rfl ?_
  refine ev_getS (q := 101) dX8_change_20 fo_8_16 (by omega) lo_87 rfl (sh_87_2 hX (by omega)) (by decide) ?_
  refine ev_iload_n dX8_change_23 rfl ?_
  refine ev_dup2 dX8_change_24 rfl rfl ?_
  refine ev_iald dX8_change_25 (by omega) ly_101 rfl b0 ?_
  refine ev_iload_n dX8_change_26 rfl ?_
  refine ev_iadd dX8_change_27 ?_
  refine ev_iast dX8_change_28 (by omega) ly_101 rfl b0 ?_
  have hX1 : Sh _ (lx_up X 101 v1 ((X 101 v1) + v2)) := Sh.upA hX (by rw [ly_101]; exact (by decide : 0 < 2))
  refine ev_aload_n dX8_change_29 rfl ?_
  refine ev_getS (q := 101) dX8_change_30 fo_8_16 (by omega) lo_87 rfl (sh_87_2 hX1 (by omega)) (by decide) ?_
  refine ev_iload_n dX8_change_33 rfl ?_
  refine ev_iald dX8_change_34 (by omega) ly_101 rfl b0 ?_
  refine ev_ifT (tgt := 48) dX8_change_35 (by decide) c1 ?_
  exact ev_ret dX8_change_48 rfl hp
theorem bX12_within_0_0 {g : GG} {d n : Nat} {post : Option Value → LX → Prop} {X : LX} (hn : 146 ≤ n) (hX : Sh n X) {v0 : Int32} {v1 : Int32} {v2 : Int32} (c0 : ¬ v0 < v1) (c1 : ¬ v2 < v0) (hp : post (some (.int 1)) X) : Ev g mX12_within d n n post n 0 [some (.int v0), some (.int v1), some (.int v2)] [] X := by
  refine ev_iload_n dX12_within_0 rfl ?_
  refine ev_iload_n dX12_within_1 rfl ?_
  refine ev_icmpF (tgt := 14) dX12_within_2 (by decide) c0 ?_
  refine ev_iload_n dX12_within_5 rfl ?_
  refine ev_iload_n dX12_within_6 rfl ?_
  refine ev_icmpF (tgt := 14) dX12_within_7 (by decide) c1 ?_
  refine ev_iconst (v := 1) dX12_within_10 ki_1 ?_
  refine ev_goto (tgt := 15) dX12_within_11 (by decide) ?_
  exact ev_iret dX12_within_15 rfl (by decide) hp
theorem bX12_within_0_1 {g : GG} {d n : Nat} {post : Option Value → LX → Prop} {X : LX} (hn : 146 ≤ n) (hX : Sh n X) {v0 : Int32} {v1 : Int32} {v2 : Int32} (c0 : ¬ v0 < v1) (c1 : v2 < v0) (hp : post (some (.int 0)) X) : Ev g mX12_within d n n post n 0 [some (.int v0), some (.int v1), some (.int v2)] [] X := by
  refine ev_iload_n dX12_within_0 rfl ?_
  refine ev_iload_n dX12_within_1 rfl ?_
  refine ev_icmpF (tgt := 14) dX12_within_2 (by decide) c0 ?_
  refine ev_iload_n dX12_within_5 rfl ?_
  refine ev_iload_n dX12_within_6 rfl ?_
  refine ev_icmpT (tgt := 14) dX12_within_7 (by decide) c1 ?_
  refine ev_iconst (v := 0) dX12_within_14 ki_0 ?_
  exact ev_iret dX12_within_15 rfl (by decide) hp
theorem bX12_within_0_2 {g : GG} {d n : Nat} {post : Option Value → LX → Prop} {X : LX} (hn : 146 ≤ n) (hX : Sh n X) {v0 : Int32} {v1 : Int32} {v2 : Int32} (c0 : v0 < v1) (hp : post (some (.int 0)) X) : Ev g mX12_within d n n post n 0 [some (.int v0), some (.int v1), some (.int v2)] [] X := by
  refine ev_iload_n dX12_within_0 rfl ?_
  refine ev_iload_n dX12_within_1 rfl ?_
  refine ev_icmpT (tgt := 14) dX12_within_2 (by decide) c0 ?_
  refine ev_iconst (v := 0) dX12_within_14 ki_0 ?_
  exact ev_iret dX12_within_15 rfl (by decide) hp
theorem bX12_ofPart_0_0 {g : GG} {d n : Nat} {post : Option Value → LX → Prop} {X : LX} (hn : 146 ≤ n) (hX : Sh n X) {v0 : Int32} {v1 : Int32} (hp : post (some (.int ((10 + (8 * v0)) + v1))) X) : Ev g mX12_ofPart d n n post n 0 [some (.int v0), some (.int v1)] [] X := by
  refine ev_bipush (v := 10) dX12_ofPart_0 kb_10 ?_
  refine ev_bipush (v := 8) dX12_ofPart_2 kb_8 ?_
  refine ev_iload_n dX12_ofPart_4 rfl ?_
  refine ev_imul dX12_ofPart_5 ?_
  refine ev_iadd dX12_ofPart_6 ?_
  refine ev_iload_n dX12_ofPart_7 rfl ?_
  refine ev_iadd dX12_ofPart_8 ?_
  exact ev_iret dX12_ofPart_9 rfl rfl hp
theorem bX12_ofMeal_0_0 {g : GG} {d n : Nat} {post : Option Value → LX → Prop} {X : LX} (hn : 146 ≤ n) (hX : Sh n X) {v0 : Int32} {v1 : Int32} (hp : post (some (.int ((318 + (13 * v0)) + v1))) X) : Ev g mX12_ofMeal d n n post n 0 [some (.int v0), some (.int v1)] [] X := by
  refine ev_sipush (v := 318) dX12_ofMeal_0 ks_318 ?_
  refine ev_bipush (v := 13) dX12_ofMeal_3 kb_13 ?_
  refine ev_iload_n dX12_ofMeal_5 rfl ?_
  refine ev_imul dX12_ofMeal_6 ?_
  refine ev_iadd dX12_ofMeal_7 ?_
  refine ev_iload_n dX12_ofMeal_8 rfl ?_
  refine ev_iadd dX12_ofMeal_9 ?_
  exact ev_iret dX12_ofMeal_10 rfl rfl hp
theorem bX12_ofFamily_0_0 {g : GG} {d n : Nat} {post : Option Value → LX → Prop} {X : LX} (hn : 146 ≤ n) (hX : Sh n X) {v0 : Int32} {v1 : Int32} (hp : post (some (.int ((448 + (15 * v0)) + v1))) X) : Ev g mX12_ofFamily d n n post n 0 [some (.int v0), some (.int v1)] [] X := by
  refine ev_sipush (v := 448) dX12_ofFamily_0 ks_448 ?_
  refine ev_bipush (v := 15) dX12_ofFamily_3 kb_15 ?_
  refine ev_iload_n dX12_ofFamily_5 rfl ?_
  refine ev_imul dX12_ofFamily_6 ?_
  refine ev_iadd dX12_ofFamily_7 ?_
  refine ev_iload_n dX12_ofFamily_8 rfl ?_
  refine ev_iadd dX12_ofFamily_9 ?_
  exact ev_iret dX12_ofFamily_10 rfl rfl hp
theorem bX12_ofLot_0_0 {g : GG} {d n : Nat} {post : Option Value → LX → Prop} {X : LX} (hn : 146 ≤ n) (hX : Sh n X) {v0 : Int32} {v1 : Int32} (hp : post (some (.int ((628 + (5 * v0)) + v1))) X) : Ev g mX12_ofLot d n n post n 0 [some (.int v0), some (.int v1)] [] X := by
  refine ev_sipush (v := 628) dX12_ofLot_0 ks_628 ?_
  refine ev_iconst (v := 5) dX12_ofLot_3 ki_5 ?_
  refine ev_iload_n dX12_ofLot_4 rfl ?_
  refine ev_imul dX12_ofLot_5 ?_
  refine ev_iadd dX12_ofLot_6 ?_
  refine ev_iload_n dX12_ofLot_7 rfl ?_
  refine ev_iadd dX12_ofLot_8 ?_
  exact ev_iret dX12_ofLot_9 rfl rfl hp
theorem bX12_has_0_0 {g : GG} {d n : Nat} {post : Option Value → LX → Prop} {X : LX} (hn : 146 ≤ n) (hX : Sh n X) {v0 : Int32} {v1 : Int32} (c0 : (v0 >>> (v1 &&& 31)) &&& 1 = 1) (hp : post (some (.int 1)) X) : Ev g mX12_has d n n post n 0 [some (.int v0), some (.int v1)] [] X := by
  refine ev_iload_n dX12_has_0 rfl ?_
  refine ev_iload_n dX12_has_1 rfl ?_
  refine ev_ishr dX12_has_2 ?_
  refine ev_iconst (v := 1) dX12_has_3 ki_1 ?_
  refine ev_iand dX12_has_4 ?_
  refine ev_iconst (v := 1) dX12_has_5 ki_1 ?_
  refine ev_icmpF (tgt := 13) dX12_has_6 (by decide) c0 ?_
  refine ev_iconst (v := 1) dX12_has_9 ki_1 ?_
  refine ev_goto (tgt := 14) dX12_has_10 (by decide) ?_
  exact ev_iret dX12_has_14 rfl (by decide) hp
theorem bX12_has_0_1 {g : GG} {d n : Nat} {post : Option Value → LX → Prop} {X : LX} (hn : 146 ≤ n) (hX : Sh n X) {v0 : Int32} {v1 : Int32} (c0 : ¬ (v0 >>> (v1 &&& 31)) &&& 1 = 1) (hp : post (some (.int 0)) X) : Ev g mX12_has d n n post n 0 [some (.int v0), some (.int v1)] [] X := by
  refine ev_iload_n dX12_has_0 rfl ?_
  refine ev_iload_n dX12_has_1 rfl ?_
  refine ev_ishr dX12_has_2 ?_
  refine ev_iconst (v := 1) dX12_has_3 ki_1 ?_
  refine ev_iand dX12_has_4 ?_
  refine ev_iconst (v := 1) dX12_has_5 ki_1 ?_
  refine ev_icmpT (tgt := 13) dX12_has_6 (by decide) c0 ?_
  refine ev_iconst (v := 0) dX12_has_13 ki_0 ?_
  exact ev_iret dX12_has_14 rfl (by decide) hp
theorem bX12_ones_0_0 {g : GG} {d n : Nat} {post : Option Value → LX → Prop} {X : LX} (hn : 146 ≤ n) (hX : Sh n X) {v0 : Int32} (k : Ev g mX12_ones d n n post n 4 [some (.int v0), some (.int 0), some (.int 0)] [] X) : Ev g mX12_ones d n n post n 0 [some (.int v0), none, none] [] X := by
  refine ev_iconst (v := 0) dX12_ones_0 ki_0 ?_
  refine ev_istore_n dX12_ones_1 (by decide) ?_
  refine ev_iconst (v := 0) dX12_ones_2 ki_0 ?_
  refine ev_istore_n dX12_ones_3 (by decide) ?_
  exact k
theorem bX12_ones_4_0 {g : GG} {d n : Nat} {post : Option Value → LX → Prop} {X : LX} (hn : 146 ≤ n) (hX : Sh n X) {v0 : Int32} {v1 : Int32} {v2 : Int32} (c0 : ¬ 16 ≤ v2) (k : Ev g mX12_ones d n n post n 4 [some (.int v0), some (.int (v1 + ((v0 >>> (v2 &&& 31)) &&& 1))), some (.int (v2 + 1))] [] X) : Ev g mX12_ones d n n post n 4 [some (.int v0), some (.int v1), some (.int v2)] [] X := by
  refine ev_iload_n dX12_ones_4 rfl ?_
  refine ev_bipush (v := 16) dX12_ones_5 kb_16 ?_
  refine ev_icmpF (tgt := 24) dX12_ones_7 (by decide) c0 ?_
  refine ev_iload_n dX12_ones_10 rfl ?_
  refine ev_iload_n dX12_ones_11 rfl ?_
  refine ev_iload_n dX12_ones_12 rfl ?_
  refine ev_ishr dX12_ones_13 ?_
  refine ev_iconst (v := 1) dX12_ones_14 ki_1 ?_
  refine ev_iand dX12_ones_15 ?_
  refine ev_iadd dX12_ones_16 ?_
  refine ev_istore_n dX12_ones_17 (by decide) ?_
  refine ev_iinc (v := v2 + 1) dX12_ones_18 rfl (by rw [show Int32.ofInt 1 = 1 from ki_1]) (by decide) ?_
  refine ev_goto (tgt := 4) dX12_ones_21 (by decide) ?_
  exact k
theorem bX12_ones_4_1 {g : GG} {d n : Nat} {post : Option Value → LX → Prop} {X : LX} (hn : 146 ≤ n) (hX : Sh n X) {v0 : Int32} {v1 : Int32} {v2 : Int32} (c0 : 16 ≤ v2) (hp : post (some (.int v1)) X) : Ev g mX12_ones d n n post n 4 [some (.int v0), some (.int v1), some (.int v2)] [] X := by
  refine ev_iload_n dX12_ones_4 rfl ?_
  refine ev_bipush (v := 16) dX12_ones_5 kb_16 ?_
  refine ev_icmpT (tgt := 24) dX12_ones_7 (by decide) c0 ?_
  refine ev_iload_n dX12_ones_24 rfl ?_
  exact ev_iret dX12_ones_25 rfl rfl hp
theorem bX12_areMeals_0_0 {g : GG} {d n : Nat} {post : Option Value → LX → Prop} {X : LX} (hn : 146 ≤ n) (hX : Sh n X) {v1 : Int32} (c0 : ¬ v1 < 0) (c1 : ¬ 1 <<< ((X 134 5) &&& 31) ≤ v1) (hp : post (some (.int 1)) X) : Ev g mX12_areMeals d n n post n 0 [some (.ref 133), some (.int v1)] [] X := by
  refine ev_iload_n dX12_areMeals_0 rfl ?_
  refine ev_ifF (tgt := 20) dX12_areMeals_1 (by decide) c0 ?_
  refine ev_iload_n dX12_areMeals_4 rfl ?_
  refine ev_iconst (v := 1) dX12_areMeals_5 ki_1 ?_
  refine ev_aload_n dX12_areMeals_6 rfl ?_
  refine ev_getS (q := 134) dX12_areMeals_7 fo_12_9 (by omega) lo_133 rfl (sh_133_0 hX (by omega)) (by decide) ?_
  refine ev_iconst (v := 5) dX12_areMeals_10 ki_5 ?_
  refine ev_iald dX12_areMeals_11 (by omega) ly_134 nIl_5 (by decide) ?_
  refine ev_ishl dX12_areMeals_12 ?_
  refine ev_icmpF (tgt := 20) dX12_areMeals_13 (by decide) c1 ?_
  refine ev_iconst (v := 1) dX12_areMeals_16 ki_1 ?_
  refine ev_goto (tgt := 21) dX12_areMeals_17 (by decide) ?_
  exact ev_iret dX12_areMeals_21 rfl (by decide) hp
theorem bX12_areMeals_0_1 {g : GG} {d n : Nat} {post : Option Value → LX → Prop} {X : LX} (hn : 146 ≤ n) (hX : Sh n X) {v1 : Int32} (c0 : ¬ v1 < 0) (c1 : 1 <<< ((X 134 5) &&& 31) ≤ v1) (hp : post (some (.int 0)) X) : Ev g mX12_areMeals d n n post n 0 [some (.ref 133), some (.int v1)] [] X := by
  refine ev_iload_n dX12_areMeals_0 rfl ?_
  refine ev_ifF (tgt := 20) dX12_areMeals_1 (by decide) c0 ?_
  refine ev_iload_n dX12_areMeals_4 rfl ?_
  refine ev_iconst (v := 1) dX12_areMeals_5 ki_1 ?_
  refine ev_aload_n dX12_areMeals_6 rfl ?_
  refine ev_getS (q := 134) dX12_areMeals_7 fo_12_9 (by omega) lo_133 rfl (sh_133_0 hX (by omega)) (by decide) ?_
  refine ev_iconst (v := 5) dX12_areMeals_10 ki_5 ?_
  refine ev_iald dX12_areMeals_11 (by omega) ly_134 nIl_5 (by decide) ?_
  refine ev_ishl dX12_areMeals_12 ?_
  refine ev_icmpT (tgt := 20) dX12_areMeals_13 (by decide) c1 ?_
  refine ev_iconst (v := 0) dX12_areMeals_20 ki_0 ?_
  exact ev_iret dX12_areMeals_21 rfl (by decide) hp
theorem bX12_areMeals_0_2 {g : GG} {d n : Nat} {post : Option Value → LX → Prop} {X : LX} (hn : 146 ≤ n) (hX : Sh n X) {v1 : Int32} (c0 : v1 < 0) (hp : post (some (.int 0)) X) : Ev g mX12_areMeals d n n post n 0 [some (.ref 133), some (.int v1)] [] X := by
  refine ev_iload_n dX12_areMeals_0 rfl ?_
  refine ev_ifT (tgt := 20) dX12_areMeals_1 (by decide) c0 ?_
  refine ev_iconst (v := 0) dX12_areMeals_20 ki_0 ?_
  exact ev_iret dX12_areMeals_21 rfl (by decide) hp
theorem bX12_needOf_0_0 {g : GG} {d n : Nat} {post : Option Value → LX → Prop} {X : LX} (hn : 146 ≤ n) (hX : Sh n X) {v1 : Int32} (k : Ev g mX12_needOf d n n post n 4 [some (.ref 133), some (.int v1), some (.int 0), some (.int 0)] [] X) : Ev g mX12_needOf d n n post n 0 [some (.ref 133), some (.int v1), none, none] [] X := by
  refine ev_iconst (v := 0) dX12_needOf_0 ki_0 ?_
  refine ev_istore_n dX12_needOf_1 (by decide) ?_
  refine ev_iconst (v := 0) dX12_needOf_2 ki_0 ?_
  refine ev_istore_n dX12_needOf_3 (by decide) ?_
  exact k
theorem bX12_needOf_4_0 {g : GG} {d n : Nat} {post : Option Value → LX → Prop} {X : LX} (hn : 146 ≤ n) (hX : Sh n X) {v1 : Nat} {v2 : Int32} {v3 : Nat} (c0 : ¬ X 134 6 ≤ nI v3) (b0 : ((14 * v3) + v1) < 168) (k : Ev g mX12_needOf d n n post n 4 [some (.ref 133), some (.int (nI v1)), some (.int (v2 + (X 140 ((14 * v3) + v1)))), some (.int ((nI v3) + 1))] [] X) : Ev g mX12_needOf d n n post n 4 [some (.ref 133), some (.int (nI v1)), some (.int v2), some (.int (nI v3))] [] X := by
  refine ev_iload_n dX12_needOf_4 rfl ?_
  refine ev_aload_n dX12_needOf_5 rfl ?_
  refine ev_getS (q := 134) dX12_needOf_6 fo_12_9 (by omega) lo_133 rfl (sh_133_0 hX (by omega)) (by decide) ?_
  refine ev_bipush (v := 6) dX12_needOf_9 kb_6 ?_
  refine ev_iald dX12_needOf_11 (by omega) ly_134 nIl_6 (by decide) ?_
  refine ev_icmpF (tgt := 35) dX12_needOf_12 (by decide) c0 ?_
  refine ev_iload_n dX12_needOf_15 rfl ?_
  refine ev_aload_n dX12_needOf_16 rfl ?_
  refine ev_getS (q := 140) dX12_needOf_17 fo_12_28 (by omega) lo_133 rfl (sh_133_9 hX (by omega)) (by decide) ?_
  refine ev_bipush (v := 14) dX12_needOf_20 kb_14 ?_
  refine ev_iload_n dX12_needOf_22 rfl ?_
  refine ev_imul dX12_needOf_23 ?_
  refine ev_iload_n dX12_needOf_24 rfl ?_
  refine ev_iadd dX12_needOf_25 ?_
  refine ev_iald dX12_needOf_26 (by omega) ly_140 (by show (nI 14 * nI v3) + nI v1 = nI ((14 * v3) + v1); simp only [pk_mul, nI_add]) b0 ?_
  refine ev_iadd dX12_needOf_27 ?_
  refine ev_istore_n dX12_needOf_28 (by decide) ?_
  refine ev_iinc (v := (nI v3) + 1) dX12_needOf_29 rfl (by rw [show Int32.ofInt 1 = 1 from ki_1]) (by decide) ?_
  refine ev_goto (tgt := 4) dX12_needOf_32 (by decide) ?_
  exact k
theorem bX12_needOf_4_1 {g : GG} {d n : Nat} {post : Option Value → LX → Prop} {X : LX} (hn : 146 ≤ n) (hX : Sh n X) {v1 : Int32} {v2 : Int32} {v3 : Int32} (c0 : X 134 6 ≤ v3) (hp : post (some (.int v2)) X) : Ev g mX12_needOf d n n post n 4 [some (.ref 133), some (.int v1), some (.int v2), some (.int v3)] [] X := by
  refine ev_iload_n dX12_needOf_4 rfl ?_
  refine ev_aload_n dX12_needOf_5 rfl ?_
  refine ev_getS (q := 134) dX12_needOf_6 fo_12_9 (by omega) lo_133 rfl (sh_133_0 hX (by omega)) (by decide) ?_
  refine ev_bipush (v := 6) dX12_needOf_9 kb_6 ?_
  refine ev_iald dX12_needOf_11 (by omega) ly_134 nIl_6 (by decide) ?_
  refine ev_icmpT (tgt := 35) dX12_needOf_12 (by decide) c0 ?_
  refine ev_iload_n dX12_needOf_35 rfl ?_
  exact ev_iret dX12_needOf_36 rfl rfl hp
theorem bX12_moves_0_0 {g : GG} {d n : Nat} {post : Option Value → LX → Prop} {X : LX} (hn : 146 ≤ n) (hX : Sh n X) {v1 : Nat} {v2 : Nat} {v3 : Nat} (b0 : ((14 * v1) + v2) < 168) (b1 : ((14 * v1) + v3) < 168) (hp : post none (lx_up (lx_up X 140 ((14 * v1) + v3) (X 140 ((14 * v1) + v2))) 140 ((14 * v1) + v2) 0)) : Ev g mX12_moves d n n post n 0 [some (.ref 133), some (.int (nI v1)), some (.int (nI v2)), some (.int (nI v3))] [] X := by
  refine ev_aload_n dX12_moves_0 rfl ?_
  refine ev_getS (q := 140) dX12_moves_1 fo_12_28 (by omega) lo_133 rfl (sh_133_9 hX (by omega)) (by decide) ?_
  refine ev_bipush (v := 14) dX12_moves_4 kb_14 ?_
  refine ev_iload_n dX12_moves_6 rfl ?_
  refine ev_imul dX12_moves_7 ?_
  refine ev_iload_n dX12_moves_8 rfl ?_
  refine ev_iadd dX12_moves_9 ?_
  refine ev_aload_n dX12_moves_10 rfl ?_
  refine ev_getS (q := 140) dX12_moves_11 fo_12_28 (by omega) lo_133 rfl (sh_133_9 hX (by omega)) (by decide) ?_
  refine ev_bipush (v := 14) dX12_moves_14 kb_14 ?_
  refine ev_iload_n dX12_moves_16 rfl ?_
  refine ev_imul dX12_moves_17 ?_
  refine ev_iload_n dX12_moves_18 rfl ?_
  refine ev_iadd dX12_moves_19 ?_
  refine ev_iald dX12_moves_20 (by omega) ly_140 (by show (nI 14 * nI v1) + nI v2 = nI ((14 * v1) + v2); simp only [pk_mul, nI_add]) b0 ?_
  refine ev_iast dX12_moves_21 (by omega) ly_140 (by show (nI 14 * nI v1) + nI v3 = nI ((14 * v1) + v3); simp only [pk_mul, nI_add]) b1 ?_
  have hX1 : Sh _ (lx_up X 140 ((14 * v1) + v3) (X 140 ((14 * v1) + v2))) := Sh.upA hX (by rw [ly_140]; exact (by decide : 0 < 2))
  refine ev_aload_n dX12_moves_22 rfl ?_
  refine ev_getS (q := 140) dX12_moves_23 fo_12_28 (by omega) lo_133 rfl (sh_133_9 hX1 (by omega)) (by decide) ?_
  refine ev_bipush (v := 14) dX12_moves_26 kb_14 ?_
  refine ev_iload_n dX12_moves_28 rfl ?_
  refine ev_imul dX12_moves_29 ?_
  refine ev_iload_n dX12_moves_30 rfl ?_
  refine ev_iadd dX12_moves_31 ?_
  refine ev_iconst (v := 0) dX12_moves_32 ki_0 ?_
  refine ev_iast dX12_moves_33 (by omega) ly_140 (by show (nI 14 * nI v1) + nI v2 = nI ((14 * v1) + v2); simp only [pk_mul, nI_add]) b0 ?_
  have hX2 : Sh _ (lx_up (lx_up X 140 ((14 * v1) + v3) (X 140 ((14 * v1) + v2))) 140 ((14 * v1) + v2) 0) := Sh.upA hX1 (by rw [ly_140]; exact (by decide : 0 < 2))
  exact ev_ret dX12_moves_34 rfl hp
theorem bX12_put_0_0 {g : GG} {d n : Nat} {post : Option Value → LX → Prop} {X : LX} (hn : 146 ≤ n) (hX : Sh n X) {v1 : Int32} {j1 : Nat} (c0 : X 133 13 = 0) (hj1 : X 133 18 = nI j1) (b0 : j1 < 128) (hp : post none (lx_up (lx_up X 141 j1 v1) 133 18 ((X 133 18) + 1))) : Ev g mX12_put d n n post n 0 [some (.ref 133), some (.int v1)] [] X := by
  refine ev_aload_n dX12_put_0 rfl ?_
  refine ev_getI dX12_put_1 fo_12_140 (by omega) lo_133 rfl ?_
  refine ev_ifF (tgt := 27) dX12_put_4 (by decide) c0 ?_
  refine ev_aload_n dX12_put_7 rfl ?_
  refine ev_getS (q := 141) dX12_put_8 fo_12_37 (by omega) lo_133 rfl (sh_133_17 hX (by omega)) (by decide) ?_
  refine ev_aload_n dX12_put_11 rfl ?_
  refine ev_getI dX12_put_12 fo_12_160 (by omega) lo_133 rfl ?_
  refine ev_iload_n dX12_put_15 rfl ?_
  refine ev_iast dX12_put_16 (by omega) ly_141 hj1 b0 ?_
  have hX1 : Sh _ (lx_up X 141 j1 v1) := Sh.upA hX (by rw [ly_141]; exact (by decide : 0 < 2))
  refine ev_aload_n dX12_put_17 rfl ?_
  refine ev_dup dX12_put_18 rfl ?_
  refine ev_getI dX12_put_19 fo_12_160 (by omega) lo_133 rfl ?_
  refine ev_iconst (v := 1) dX12_put_22 ki_1 ?_
  refine ev_iadd dX12_put_23 ?_
  refine ev_putI dX12_put_24 fo_12_160 (by omega) lo_133 rfl rfl rfl ?_
  have hX2 : Sh _ (lx_up (lx_up X 141 j1 v1) 133 18 ((X 133 18) + 1)) := Sh.upF hX1 (by rw [lo_133]; decide) (by decide)
  exact ev_ret dX12_put_27 rfl hp
theorem bX12_put_0_1 {g : GG} {d n : Nat} {post : Option Value → LX → Prop} {X : LX} (hn : 146 ≤ n) (hX : Sh n X) {v1 : Int32} (c0 : ¬ X 133 13 = 0) (hp : post none X) : Ev g mX12_put d n n post n 0 [some (.ref 133), some (.int v1)] [] X := by
  refine ev_aload_n dX12_put_0 rfl ?_
  refine ev_getI dX12_put_1 fo_12_140 (by omega) lo_133 rfl ?_
  refine ev_ifT (tgt := 27) dX12_put_4 (by decide) c0 ?_
  exact ev_ret dX12_put_27 rfl hp
theorem bX12_done_0_0 {g : GG} {d n : Nat} {post : Option Value → LX → Prop} {X : LX} (hn : 146 ≤ n) (hX : Sh n X) {v0 : Int32} {v1 : Int32} {v2 : Int32} (c0 : v0.toInt < 0 ∨ 7 < v0.toInt) (c1 : v2 = 0) (hp : post (some (.int 0)) X) : Ev g mX12_done d n n post n 0 [some (.int v0), some (.int v1), some (.int v2)] [] X := by
  refine ev_iload_n dX12_done_0 rfl ?_
  refine ev_tabO (tgt := 121) dX12_done_1 c0 (by decide) ?_
  refine ev_iload_n dX12_done_121 rfl ?_
  refine ev_ifF (tgt := 129) dX12_done_122 (by decide) c1 ?_
  refine ev_iconst (v := 0) dX12_done_125 ki_0 ?_
  refine ev_goto (tgt := 132) dX12_done_126 (by decide) ?_
  exact ev_iret dX12_done_132 rfl rfl hp
theorem bX12_done_0_1 {g : GG} {d n : Nat} {post : Option Value → LX → Prop} {X : LX} (hn : 146 ≤ n) (hX : Sh n X) {v0 : Int32} {v1 : Int32} {v2 : Int32} (c0 : v0.toInt < 0 ∨ 7 < v0.toInt) (c1 : ¬ v2 = 0) (c2 : ¬ v2 = 0) (hp : post (some (.int (v1 / v2))) X) : Ev g mX12_done d n n post n 0 [some (.int v0), some (.int v1), some (.int v2)] [] X := by
  refine ev_iload_n dX12_done_0 rfl ?_
  refine ev_tabO (tgt := 121) dX12_done_1 c0 (by decide) ?_
  refine ev_iload_n dX12_done_121 rfl ?_
  refine ev_ifT (tgt := 129) dX12_done_122 (by decide) c1 ?_
  refine ev_iload_n dX12_done_129 rfl ?_
  refine ev_iload_n dX12_done_130 rfl ?_
  refine ev_idiv dX12_done_131 c2 ?_
  exact ev_iret dX12_done_132 rfl rfl hp
theorem bX12_done_0_2 {g : GG} {d n : Nat} {post : Option Value → LX → Prop} {X : LX} (hn : 146 ≤ n) (hX : Sh n X) {v0 : Int32} {v1 : Int32} {v2 : Int32} (c0 : v0 = 0) (c1 : v1 = 0) (c2 : ¬ v2 = 0) (hp : post (some (.int 1)) X) : Ev g mX12_done d n n post n 0 [some (.int v0), some (.int v1), some (.int v2)] [] X := by
  refine ev_iload_n dX12_done_0 rfl ?_
  refine ev_tabI (tgt := 48) (off := 47) dX12_done_1 (by rw [c0]; decide) (by rw [c0]; decide) (by rw [c0]; rfl) (by decide) ?_
  refine ev_iload_n dX12_done_48 rfl ?_
  refine ev_ifF (tgt := 56) dX12_done_49 (by decide) c1 ?_
  refine ev_iload_n dX12_done_52 rfl ?_
  refine ev_ifF (tgt := 60) dX12_done_53 (by decide) c2 ?_
  refine ev_iconst (v := 1) dX12_done_56 ki_1 ?_
  refine ev_goto (tgt := 61) dX12_done_57 (by decide) ?_
  exact ev_iret dX12_done_61 rfl rfl hp
theorem bX12_done_0_3 {g : GG} {d n : Nat} {post : Option Value → LX → Prop} {X : LX} (hn : 146 ≤ n) (hX : Sh n X) {v0 : Int32} {v1 : Int32} {v2 : Int32} (c0 : v0 = 0) (c1 : v1 = 0) (c2 : v2 = 0) (hp : post (some (.int 0)) X) : Ev g mX12_done d n n post n 0 [some (.int v0), some (.int v1), some (.int v2)] [] X := by
  refine ev_iload_n dX12_done_0 rfl ?_
  refine ev_tabI (tgt := 48) (off := 47) dX12_done_1 (by rw [c0]; decide) (by rw [c0]; decide) (by rw [c0]; rfl) (by decide) ?_
  refine ev_iload_n dX12_done_48 rfl ?_
  refine ev_ifF (tgt := 56) dX12_done_49 (by decide) c1 ?_
  refine ev_iload_n dX12_done_52 rfl ?_
  refine ev_ifT (tgt := 60) dX12_done_53 (by decide) c2 ?_
  refine ev_iconst (v := 0) dX12_done_60 ki_0 ?_
  exact ev_iret dX12_done_61 rfl rfl hp
theorem bX12_done_0_4 {g : GG} {d n : Nat} {post : Option Value → LX → Prop} {X : LX} (hn : 146 ≤ n) (hX : Sh n X) {v0 : Int32} {v1 : Int32} {v2 : Int32} (c0 : v0 = 0) (c1 : ¬ v1 = 0) (hp : post (some (.int 1)) X) : Ev g mX12_done d n n post n 0 [some (.int v0), some (.int v1), some (.int v2)] [] X := by
  refine ev_iload_n dX12_done_0 rfl ?_
  refine ev_tabI (tgt := 48) (off := 47) dX12_done_1 (by rw [c0]; decide) (by rw [c0]; decide) (by rw [c0]; rfl) (by decide) ?_
  refine ev_iload_n dX12_done_48 rfl ?_
  refine ev_ifT (tgt := 56) dX12_done_49 (by decide) c1 ?_
  refine ev_iconst (v := 1) dX12_done_56 ki_1 ?_
  refine ev_goto (tgt := 61) dX12_done_57 (by decide) ?_
  exact ev_iret dX12_done_61 rfl rfl hp
theorem bX12_done_0_5 {g : GG} {d n : Nat} {post : Option Value → LX → Prop} {X : LX} (hn : 146 ≤ n) (hX : Sh n X) {v0 : Int32} {v1 : Int32} {v2 : Int32} (c0 : v0 = 1) (c1 : ¬ v1 = 0) (c2 : ¬ v2 = 0) (hp : post (some (.int 1)) X) : Ev g mX12_done d n n post n 0 [some (.int v0), some (.int v1), some (.int v2)] [] X := by
  refine ev_iload_n dX12_done_0 rfl ?_
  refine ev_tabI (tgt := 62) (off := 61) dX12_done_1 (by rw [c0]; decide) (by rw [c0]; decide) (by rw [c0]; rfl) (by decide) ?_
  refine ev_iload_n dX12_done_62 rfl ?_
  refine ev_ifF (tgt := 74) dX12_done_63 (by decide) c1 ?_
  refine ev_iload_n dX12_done_66 rfl ?_
  refine ev_ifF (tgt := 74) dX12_done_67 (by decide) c2 ?_
  refine ev_iconst (v := 1) dX12_done_70 ki_1 ?_
  refine ev_goto (tgt := 75) dX12_done_71 (by decide) ?_
  exact ev_iret dX12_done_75 rfl rfl hp
theorem bX12_done_0_6 {g : GG} {d n : Nat} {post : Option Value → LX → Prop} {X : LX} (hn : 146 ≤ n) (hX : Sh n X) {v0 : Int32} {v1 : Int32} {v2 : Int32} (c0 : v0 = 1) (c1 : ¬ v1 = 0) (c2 : v2 = 0) (hp : post (some (.int 0)) X) : Ev g mX12_done d n n post n 0 [some (.int v0), some (.int v1), some (.int v2)] [] X := by
  refine ev_iload_n dX12_done_0 rfl ?_
  refine ev_tabI (tgt := 62) (off := 61) dX12_done_1 (by rw [c0]; decide) (by rw [c0]; decide) (by rw [c0]; rfl) (by decide) ?_
  refine ev_iload_n dX12_done_62 rfl ?_
  refine ev_ifF (tgt := 74) dX12_done_63 (by decide) c1 ?_
  refine ev_iload_n dX12_done_66 rfl ?_
  refine ev_ifT (tgt := 74) dX12_done_67 (by decide) c2 ?_
  refine ev_iconst (v := 0) dX12_done_74 ki_0 ?_
  exact ev_iret dX12_done_75 rfl rfl hp
theorem bX12_done_0_7 {g : GG} {d n : Nat} {post : Option Value → LX → Prop} {X : LX} (hn : 146 ≤ n) (hX : Sh n X) {v0 : Int32} {v1 : Int32} {v2 : Int32} (c0 : v0 = 1) (c1 : v1 = 0) (hp : post (some (.int 0)) X) : Ev g mX12_done d n n post n 0 [some (.int v0), some (.int v1), some (.int v2)] [] X := by
  refine ev_iload_n dX12_done_0 rfl ?_
  refine ev_tabI (tgt := 62) (off := 61) dX12_done_1 (by rw [c0]; decide) (by rw [c0]; decide) (by rw [c0]; rfl) (by decide) ?_
  refine ev_iload_n dX12_done_62 rfl ?_
  refine ev_ifT (tgt := 74) dX12_done_63 (by decide) c1 ?_
  refine ev_iconst (v := 0) dX12_done_74 ki_0 ?_
  exact ev_iret dX12_done_75 rfl rfl hp
theorem bX12_done_0_8 {g : GG} {d n : Nat} {post : Option Value → LX → Prop} {X : LX} (hn : 146 ≤ n) (hX : Sh n X) {v0 : Int32} {v1 : Int32} {v2 : Int32} (c0 : v0 = 2) (c1 : ¬ v2 ≤ v1) (hp : post (some (.int 1)) X) : Ev g mX12_done d n n post n 0 [some (.int v0), some (.int v1), some (.int v2)] [] X := by
  refine ev_iload_n dX12_done_0 rfl ?_
  refine ev_tabI (tgt := 76) (off := 75) dX12_done_1 (by rw [c0]; decide) (by rw [c0]; decide) (by rw [c0]; rfl) (by decide) ?_
  refine ev_iload_n dX12_done_76 rfl ?_
  refine ev_iload_n dX12_done_77 rfl ?_
  refine ev_icmpF (tgt := 85) dX12_done_78 (by decide) c1 ?_
  refine ev_iconst (v := 1) dX12_done_81 ki_1 ?_
  refine ev_goto (tgt := 86) dX12_done_82 (by decide) ?_
  exact ev_iret dX12_done_86 rfl rfl hp
theorem bX12_done_0_9 {g : GG} {d n : Nat} {post : Option Value → LX → Prop} {X : LX} (hn : 146 ≤ n) (hX : Sh n X) {v0 : Int32} {v1 : Int32} {v2 : Int32} (c0 : v0 = 2) (c1 : v2 ≤ v1) (hp : post (some (.int 0)) X) : Ev g mX12_done d n n post n 0 [some (.int v0), some (.int v1), some (.int v2)] [] X := by
  refine ev_iload_n dX12_done_0 rfl ?_
  refine ev_tabI (tgt := 76) (off := 75) dX12_done_1 (by rw [c0]; decide) (by rw [c0]; decide) (by rw [c0]; rfl) (by decide) ?_
  refine ev_iload_n dX12_done_76 rfl ?_
  refine ev_iload_n dX12_done_77 rfl ?_
  refine ev_icmpT (tgt := 85) dX12_done_78 (by decide) c1 ?_
  refine ev_iconst (v := 0) dX12_done_85 ki_0 ?_
  exact ev_iret dX12_done_86 rfl rfl hp
theorem bX12_done_0_10 {g : GG} {d n : Nat} {post : Option Value → LX → Prop} {X : LX} (hn : 146 ≤ n) (hX : Sh n X) {v0 : Int32} {v1 : Int32} {v2 : Int32} (c0 : v0 = 3) (c1 : v1 = v2) (hp : post (some (.int 1)) X) : Ev g mX12_done d n n post n 0 [some (.int v0), some (.int v1), some (.int v2)] [] X := by
  refine ev_iload_n dX12_done_0 rfl ?_
  refine ev_tabI (tgt := 87) (off := 86) dX12_done_1 (by rw [c0]; decide) (by rw [c0]; decide) (by rw [c0]; rfl) (by decide) ?_
  refine ev_iload_n dX12_done_87 rfl ?_
  refine ev_iload_n dX12_done_88 rfl ?_
  refine ev_icmpF (tgt := 96) dX12_done_89 (by decide) c1 ?_
  refine ev_iconst (v := 1) dX12_done_92 ki_1 ?_
  refine ev_goto (tgt := 97) dX12_done_93 (by decide) ?_
  exact ev_iret dX12_done_97 rfl rfl hp
theorem bX12_done_0_11 {g : GG} {d n : Nat} {post : Option Value → LX → Prop} {X : LX} (hn : 146 ≤ n) (hX : Sh n X) {v0 : Int32} {v1 : Int32} {v2 : Int32} (c0 : v0 = 3) (c1 : ¬ v1 = v2) (hp : post (some (.int 0)) X) : Ev g mX12_done d n n post n 0 [some (.int v0), some (.int v1), some (.int v2)] [] X := by
  refine ev_iload_n dX12_done_0 rfl ?_
  refine ev_tabI (tgt := 87) (off := 86) dX12_done_1 (by rw [c0]; decide) (by rw [c0]; decide) (by rw [c0]; rfl) (by decide) ?_
  refine ev_iload_n dX12_done_87 rfl ?_
  refine ev_iload_n dX12_done_88 rfl ?_
  refine ev_icmpT (tgt := 96) dX12_done_89 (by decide) c1 ?_
  refine ev_iconst (v := 0) dX12_done_96 ki_0 ?_
  exact ev_iret dX12_done_97 rfl rfl hp
theorem bX12_done_0_12 {g : GG} {d n : Nat} {post : Option Value → LX → Prop} {X : LX} (hn : 146 ≤ n) (hX : Sh n X) {v0 : Int32} {v1 : Int32} {v2 : Int32} (c0 : v0 = 4) (c1 : ¬ v1 ≤ v2) (hp : post (some (.int 1)) X) : Ev g mX12_done d n n post n 0 [some (.int v0), some (.int v1), some (.int v2)] [] X := by
  refine ev_iload_n dX12_done_0 rfl ?_
  refine ev_tabI (tgt := 98) (off := 97) dX12_done_1 (by rw [c0]; decide) (by rw [c0]; decide) (by rw [c0]; rfl) (by decide) ?_
  refine ev_iload_n dX12_done_98 rfl ?_
  refine ev_iload_n dX12_done_99 rfl ?_
  refine ev_icmpF (tgt := 107) dX12_done_100 (by decide) c1 ?_
  refine ev_iconst (v := 1) dX12_done_103 ki_1 ?_
  refine ev_goto (tgt := 108) dX12_done_104 (by decide) ?_
  exact ev_iret dX12_done_108 rfl rfl hp
theorem bX12_done_0_13 {g : GG} {d n : Nat} {post : Option Value → LX → Prop} {X : LX} (hn : 146 ≤ n) (hX : Sh n X) {v0 : Int32} {v1 : Int32} {v2 : Int32} (c0 : v0 = 4) (c1 : v1 ≤ v2) (hp : post (some (.int 0)) X) : Ev g mX12_done d n n post n 0 [some (.int v0), some (.int v1), some (.int v2)] [] X := by
  refine ev_iload_n dX12_done_0 rfl ?_
  refine ev_tabI (tgt := 98) (off := 97) dX12_done_1 (by rw [c0]; decide) (by rw [c0]; decide) (by rw [c0]; rfl) (by decide) ?_
  refine ev_iload_n dX12_done_98 rfl ?_
  refine ev_iload_n dX12_done_99 rfl ?_
  refine ev_icmpT (tgt := 107) dX12_done_100 (by decide) c1 ?_
  refine ev_iconst (v := 0) dX12_done_107 ki_0 ?_
  exact ev_iret dX12_done_108 rfl rfl hp
theorem bX12_done_0_14 {g : GG} {d n : Nat} {post : Option Value → LX → Prop} {X : LX} (hn : 146 ≤ n) (hX : Sh n X) {v0 : Int32} {v1 : Int32} {v2 : Int32} (c0 : v0 = 5) (hp : post (some (.int (v1 + v2))) X) : Ev g mX12_done d n n post n 0 [some (.int v0), some (.int v1), some (.int v2)] [] X := by
  refine ev_iload_n dX12_done_0 rfl ?_
  refine ev_tabI (tgt := 109) (off := 108) dX12_done_1 (by rw [c0]; decide) (by rw [c0]; decide) (by rw [c0]; rfl) (by decide) ?_
  refine ev_iload_n dX12_done_109 rfl ?_
  refine ev_iload_n dX12_done_110 rfl ?_
  refine ev_iadd dX12_done_111 ?_
  exact ev_iret dX12_done_112 rfl rfl hp
theorem bX12_done_0_15 {g : GG} {d n : Nat} {post : Option Value → LX → Prop} {X : LX} (hn : 146 ≤ n) (hX : Sh n X) {v0 : Int32} {v1 : Int32} {v2 : Int32} (c0 : v0 = 6) (hp : post (some (.int (v1 - v2))) X) : Ev g mX12_done d n n post n 0 [some (.int v0), some (.int v1), some (.int v2)] [] X := by
  refine ev_iload_n dX12_done_0 rfl ?_
  refine ev_tabI (tgt := 113) (off := 112) dX12_done_1 (by rw [c0]; decide) (by rw [c0]; decide) (by rw [c0]; rfl) (by decide) ?_
  refine ev_iload_n dX12_done_113 rfl ?_
  refine ev_iload_n dX12_done_114 rfl ?_
  refine ev_isub dX12_done_115 ?_
  exact ev_iret dX12_done_116 rfl rfl hp
theorem bX12_done_0_16 {g : GG} {d n : Nat} {post : Option Value → LX → Prop} {X : LX} (hn : 146 ≤ n) (hX : Sh n X) {v0 : Int32} {v1 : Int32} {v2 : Int32} (c0 : v0 = 7) (hp : post (some (.int (v1 * v2))) X) : Ev g mX12_done d n n post n 0 [some (.int v0), some (.int v1), some (.int v2)] [] X := by
  refine ev_iload_n dX12_done_0 rfl ?_
  refine ev_tabI (tgt := 117) (off := 116) dX12_done_1 (by rw [c0]; decide) (by rw [c0]; decide) (by rw [c0]; rfl) (by decide) ?_
  refine ev_iload_n dX12_done_117 rfl ?_
  refine ev_iload_n dX12_done_118 rfl ?_
  refine ev_imul dX12_done_119 ?_
  exact ev_iret dX12_done_120 rfl rfl hp
theorem bX12_isSign_0_0 {g : GG} {d n : Nat} {post : Option Value → LX → Prop} {X : LX} (hn : 146 ≤ n) (hX : Sh n X) {v1 : Int32} {j1 : Nat} (c0 : X 133 13 = 0) (c1 : X 133 12 = 3) (hj1 : X 133 10 = nI j1) (b0 : j1 < 120) (c2 : X 136 j1 = v1) (hp : post (some (.int 1)) X) : Ev g mX12_isSign d n n post n 0 [some (.ref 133), some (.int v1)] [] X := by
  refine ev_aload_n dX12_isSign_0 rfl ?_
  refine ev_getI dX12_isSign_1 fo_12_140 (by omega) lo_133 rfl ?_
  refine ev_ifF (tgt := 32) dX12_isSign_4 (by decide) c0 ?_
  refine ev_aload_n dX12_isSign_7 rfl ?_
  refine ev_getI dX12_isSign_8 fo_12_125 (by omega) lo_133 rfl ?_
  refine ev_iconst (v := 3) dX12_isSign_11 ki_3 ?_
  refine ev_icmpF (tgt := 32) dX12_isSign_12 (by decide) c1 ?_
  refine ev_aload_n dX12_isSign_15 rfl ?_
  refine ev_getS (q := 136) dX12_isSign_16 fo_12_16 (by omega) lo_133 rfl (sh_133_3 hX (by omega)) (by decide) ?_
  refine ev_aload_n dX12_isSign_19 rfl ?_
  refine ev_getI dX12_isSign_20 fo_12_131 (by omega) lo_133 rfl ?_
  refine ev_iald dX12_isSign_23 (by omega) ly_136 hj1 b0 ?_
  refine ev_iload_n dX12_isSign_24 rfl ?_
  refine ev_icmpF (tgt := 32) dX12_isSign_25 (by decide) c2 ?_
  refine ev_iconst (v := 1) dX12_isSign_28 ki_1 ?_
  refine ev_goto (tgt := 33) dX12_isSign_29 (by decide) ?_
  exact ev_iret dX12_isSign_33 rfl (by decide) hp
theorem bX12_isSign_0_1 {g : GG} {d n : Nat} {post : Option Value → LX → Prop} {X : LX} (hn : 146 ≤ n) (hX : Sh n X) {v1 : Int32} {j1 : Nat} (c0 : X 133 13 = 0) (c1 : X 133 12 = 3) (hj1 : X 133 10 = nI j1) (b0 : j1 < 120) (c2 : ¬ X 136 j1 = v1) (hp : post (some (.int 0)) X) : Ev g mX12_isSign d n n post n 0 [some (.ref 133), some (.int v1)] [] X := by
  refine ev_aload_n dX12_isSign_0 rfl ?_
  refine ev_getI dX12_isSign_1 fo_12_140 (by omega) lo_133 rfl ?_
  refine ev_ifF (tgt := 32) dX12_isSign_4 (by decide) c0 ?_
  refine ev_aload_n dX12_isSign_7 rfl ?_
  refine ev_getI dX12_isSign_8 fo_12_125 (by omega) lo_133 rfl ?_
  refine ev_iconst (v := 3) dX12_isSign_11 ki_3 ?_
  refine ev_icmpF (tgt := 32) dX12_isSign_12 (by decide) c1 ?_
  refine ev_aload_n dX12_isSign_15 rfl ?_
  refine ev_getS (q := 136) dX12_isSign_16 fo_12_16 (by omega) lo_133 rfl (sh_133_3 hX (by omega)) (by decide) ?_
  refine ev_aload_n dX12_isSign_19 rfl ?_
  refine ev_getI dX12_isSign_20 fo_12_131 (by omega) lo_133 rfl ?_
  refine ev_iald dX12_isSign_23 (by omega) ly_136 hj1 b0 ?_
  refine ev_iload_n dX12_isSign_24 rfl ?_
  refine ev_icmpT (tgt := 32) dX12_isSign_25 (by decide) c2 ?_
  refine ev_iconst (v := 0) dX12_isSign_32 ki_0 ?_
  exact ev_iret dX12_isSign_33 rfl (by decide) hp
theorem bX12_isSign_0_2 {g : GG} {d n : Nat} {post : Option Value → LX → Prop} {X : LX} (hn : 146 ≤ n) (hX : Sh n X) {v1 : Int32} (c0 : X 133 13 = 0) (c1 : ¬ X 133 12 = 3) (hp : post (some (.int 0)) X) : Ev g mX12_isSign d n n post n 0 [some (.ref 133), some (.int v1)] [] X := by
  refine ev_aload_n dX12_isSign_0 rfl ?_
  refine ev_getI dX12_isSign_1 fo_12_140 (by omega) lo_133 rfl ?_
  refine ev_ifF (tgt := 32) dX12_isSign_4 (by decide) c0 ?_
  refine ev_aload_n dX12_isSign_7 rfl ?_
  refine ev_getI dX12_isSign_8 fo_12_125 (by omega) lo_133 rfl ?_
  refine ev_iconst (v := 3) dX12_isSign_11 ki_3 ?_
  refine ev_icmpT (tgt := 32) dX12_isSign_12 (by decide) c1 ?_
  refine ev_iconst (v := 0) dX12_isSign_32 ki_0 ?_
  exact ev_iret dX12_isSign_33 rfl (by decide) hp
theorem bX12_isSign_0_3 {g : GG} {d n : Nat} {post : Option Value → LX → Prop} {X : LX} (hn : 146 ≤ n) (hX : Sh n X) {v1 : Int32} (c0 : ¬ X 133 13 = 0) (hp : post (some (.int 0)) X) : Ev g mX12_isSign d n n post n 0 [some (.ref 133), some (.int v1)] [] X := by
  refine ev_aload_n dX12_isSign_0 rfl ?_
  refine ev_getI dX12_isSign_1 fo_12_140 (by omega) lo_133 rfl ?_
  refine ev_ifT (tgt := 32) dX12_isSign_4 (by decide) c0 ?_
  refine ev_iconst (v := 0) dX12_isSign_32 ki_0 ?_
  exact ev_iret dX12_isSign_33 rfl (by decide) hp
theorem bX12_feed_0_0 {g : GG} {d n : Nat} {post : Option Value → LX → Prop} {X : LX} (hn : 146 ≤ n) (hX : Sh n X) {v1 : Int32} {v2 : Int32} {v3 : Int32} (c0 : ¬ (X 133 4) + 12 ≤ 120) (hp : post (some (.int (-1000000003))) X) : Ev g mX12_feed d n n post n 0 [some (.ref 133), some (.int v1), some (.int v2), some (.int v3), none, none] [] X := by
  refine ev_aload_n dX12_feed_0 rfl ?_
  refine ev_getI dX12_feed_1 fo_12_121 (by omega) lo_133 rfl ?_
  refine ev_bipush (v := 12) dX12_feed_4 kb_12 ?_
  refine ev_iadd dX12_feed_6 ?_
  refine ev_bipush (v := 120) dX12_feed_7 kb_120 ?_
  refine ev_icmpF (tgt := 15) dX12_feed_9 (by decide) c0 ?_
  refine ev_ldc (v := (-1000000003)) dX12_feed_12 kw_12_58 ?_
  exact ev_iret dX12_feed_14 rfl rfl hp
theorem bX12_feed_0_1 {g : GG} {d n : Nat} {post : Option Value → LX → Prop} {X : LX} (hn : 146 ≤ n) (hX : Sh n X) {v1 : Int32} {v2 : Int32} {v3 : Int32} (c0 : (X 133 4) + 12 ≤ 120) (k : Ev g mX12_feed d n n post n 18 [some (.ref 133), some (.int v1), some (.int v2), some (.int v3), some (.int 0), none] [] X) : Ev g mX12_feed d n n post n 0 [some (.ref 133), some (.int v1), some (.int v2), some (.int v3), none, none] [] X := by
  refine ev_aload_n dX12_feed_0 rfl ?_
  refine ev_getI dX12_feed_1 fo_12_121 (by omega) lo_133 rfl ?_
  refine ev_bipush (v := 12) dX12_feed_4 kb_12 ?_
  refine ev_iadd dX12_feed_6 ?_
  refine ev_bipush (v := 120) dX12_feed_7 kb_120 ?_
  refine ev_icmpT (tgt := 15) dX12_feed_9 (by decide) c0 ?_
  refine ev_iconst (v := 0) dX12_feed_15 ki_0 ?_
  refine ev_istore dX12_feed_16 (by decide) ?_
  exact k
theorem bX12_feed_18_0 {g : GG} {d n : Nat} {post : Option Value → LX → Prop} {X : LX} (hn : 146 ≤ n) (hX : Sh n X) {v1 : Int32} {v2 : Int32} {v3 : Int32} {v4 : Int32} {j1 : Nat} (c0 : ¬ 12 ≤ v4) (c1 : ¬ 4 ≤ v4) (hj1 : X 133 4 = nI j1) (b0 : j1 < 120) (k : Ev g mX12_feed d n n post n 18 [some (.ref 133), some (.int v1), some (.int v2), some (.int v3), some (.int (v4 + 1)), none] [] (lx_up (lx_up X 136 j1 ((v1 >>> ((24 - (8 * (v4 - v4 / 4 * 4))) &&& 31)) &&& 255)) 133 4 ((X 133 4) + 1))) : Ev g mX12_feed d n n post n 18 [some (.ref 133), some (.int v1), some (.int v2), some (.int v3), some (.int v4), none] [] X := by
  refine ev_iload dX12_feed_18 rfl ?_
  refine ev_bipush (v := 12) dX12_feed_20 kb_12 ?_
  refine ev_icmpF (tgt := 91) dX12_feed_22 (by decide) c0 ?_
  refine ev_iload dX12_feed_25 rfl ?_
  refine ev_iconst (v := 4) dX12_feed_27 ki_4 ?_
  refine ev_icmpF (tgt := 35) dX12_feed_28 (by decide) c1 ?_
  refine ev_iload_n dX12_feed_31 rfl ?_
  refine ev_goto (tgt := 47) dX12_feed_32 (by decide) ?_
  refine ev_istore dX12_feed_47 (by decide) ?_
  refine ev_aload_n dX12_feed_49 rfl ?_
  refine ev_getS (q := 136) dX12_feed_50 fo_12_16 (by omega) lo_133 rfl (sh_133_3 hX (by omega)) (by decide) ?_
  refine ev_aload_n dX12_feed_53 rfl ?_
  refine ev_getI dX12_feed_54 fo_12_121 (by omega) lo_133 rfl ?_
  refine ev_iload dX12_feed_57 rfl ?_
  refine ev_bipush (v := 24) dX12_feed_59 kb_24 ?_
  refine ev_bipush (v := 8) dX12_feed_61 kb_8 ?_
  refine ev_iload dX12_feed_63 rfl ?_
  refine ev_iconst (v := 4) dX12_feed_65 ki_4 ?_
  refine ev_irem dX12_feed_66 (by decide) ?_
  refine ev_imul dX12_feed_67 ?_
  refine ev_isub dX12_feed_68 ?_
  refine ev_ishr dX12_feed_69 ?_
  refine ev_sipush (v := 255) dX12_feed_70 ks_255 ?_
  refine ev_iand dX12_feed_73 ?_
  refine ev_iast dX12_feed_74 (by omega) ly_136 hj1 b0 ?_
  have hX1 : Sh _ (lx_up X 136 j1 ((v1 >>> ((24 - (8 * (v4 - v4 / 4 * 4))) &&& 31)) &&& 255)) := Sh.upA hX (by rw [ly_136]; exact (by decide : 0 < 2))
  refine ev_aload_n dX12_feed_75 rfl ?_
  refine ev_dup dX12_feed_76 rfl ?_
  refine ev_getI dX12_feed_77 fo_12_121 (by omega) lo_133 rfl ?_
  refine ev_iconst (v := 1) dX12_feed_80 ki_1 ?_
  refine ev_iadd dX12_feed_81 ?_
  refine ev_putI dX12_feed_82 fo_12_121 (by omega) lo_133 rfl rfl rfl ?_
  have hX2 : Sh _ (lx_up (lx_up X 136 j1 ((v1 >>> ((24 - (8 * (v4 - v4 / 4 * 4))) &&& 31)) &&& 255)) 133 4 ((X 133 4) + 1)) := Sh.upF hX1 (by rw [lo_133]; decide) (by decide)
  refine ev_iinc (v := v4 + 1) dX12_feed_85 rfl (by rw [show Int32.ofInt 1 = 1 from ki_1]) (by decide) ?_
  refine ev_goto (tgt := 18) dX12_feed_88 (by decide) ?_
  refine ev_wk (L := [some (.ref 133), some (.int v1), some (.int v2), some (.int v3), some (.int (v4 + 1)), some (.int v1)]) (L' := [some (.ref 133), some (.int v1), some (.int v2), some (.int v3), some (.int (v4 + 1)), none]) (by simp [lwk]) ?_
  exact k
theorem bX12_feed_18_1 {g : GG} {d n : Nat} {post : Option Value → LX → Prop} {X : LX} (hn : 146 ≤ n) (hX : Sh n X) {v1 : Int32} {v2 : Int32} {v3 : Int32} {v4 : Int32} {j1 : Nat} (c0 : ¬ 12 ≤ v4) (c1 : 4 ≤ v4) (c2 : ¬ 8 ≤ v4) (hj1 : X 133 4 = nI j1) (b0 : j1 < 120) (k : Ev g mX12_feed d n n post n 18 [some (.ref 133), some (.int v1), some (.int v2), some (.int v3), some (.int (v4 + 1)), none] [] (lx_up (lx_up X 136 j1 ((v2 >>> ((24 - (8 * (v4 - v4 / 4 * 4))) &&& 31)) &&& 255)) 133 4 ((X 133 4) + 1))) : Ev g mX12_feed d n n post n 18 [some (.ref 133), some (.int v1), some (.int v2), some (.int v3), some (.int v4), none] [] X := by
  refine ev_iload dX12_feed_18 rfl ?_
  refine ev_bipush (v := 12) dX12_feed_20 kb_12 ?_
  refine ev_icmpF (tgt := 91) dX12_feed_22 (by decide) c0 ?_
  refine ev_iload dX12_feed_25 rfl ?_
  refine ev_iconst (v := 4) dX12_feed_27 ki_4 ?_
  refine ev_icmpT (tgt := 35) dX12_feed_28 (by decide) c1 ?_
  refine ev_iload dX12_feed_35 rfl ?_
  refine ev_bipush (v := 8) dX12_feed_37 kb_8 ?_
  refine ev_icmpF (tgt := 46) dX12_feed_39 (by decide) c2 ?_
  refine ev_iload_n dX12_feed_42 rfl ?_
  refine ev_goto (tgt := 47) dX12_feed_43 (by decide) ?_
  refine ev_istore dX12_feed_47 (by decide) ?_
  refine ev_aload_n dX12_feed_49 rfl ?_
  refine ev_getS (q := 136) dX12_feed_50 fo_12_16 (by omega) lo_133 rfl (sh_133_3 hX (by omega)) (by decide) ?_
  refine ev_aload_n dX12_feed_53 rfl ?_
  refine ev_getI dX12_feed_54 fo_12_121 (by omega) lo_133 rfl ?_
  refine ev_iload dX12_feed_57 rfl ?_
  refine ev_bipush (v := 24) dX12_feed_59 kb_24 ?_
  refine ev_bipush (v := 8) dX12_feed_61 kb_8 ?_
  refine ev_iload dX12_feed_63 rfl ?_
  refine ev_iconst (v := 4) dX12_feed_65 ki_4 ?_
  refine ev_irem dX12_feed_66 (by decide) ?_
  refine ev_imul dX12_feed_67 ?_
  refine ev_isub dX12_feed_68 ?_
  refine ev_ishr dX12_feed_69 ?_
  refine ev_sipush (v := 255) dX12_feed_70 ks_255 ?_
  refine ev_iand dX12_feed_73 ?_
  refine ev_iast dX12_feed_74 (by omega) ly_136 hj1 b0 ?_
  have hX1 : Sh _ (lx_up X 136 j1 ((v2 >>> ((24 - (8 * (v4 - v4 / 4 * 4))) &&& 31)) &&& 255)) := Sh.upA hX (by rw [ly_136]; exact (by decide : 0 < 2))
  refine ev_aload_n dX12_feed_75 rfl ?_
  refine ev_dup dX12_feed_76 rfl ?_
  refine ev_getI dX12_feed_77 fo_12_121 (by omega) lo_133 rfl ?_
  refine ev_iconst (v := 1) dX12_feed_80 ki_1 ?_
  refine ev_iadd dX12_feed_81 ?_
  refine ev_putI dX12_feed_82 fo_12_121 (by omega) lo_133 rfl rfl rfl ?_
  have hX2 : Sh _ (lx_up (lx_up X 136 j1 ((v2 >>> ((24 - (8 * (v4 - v4 / 4 * 4))) &&& 31)) &&& 255)) 133 4 ((X 133 4) + 1)) := Sh.upF hX1 (by rw [lo_133]; decide) (by decide)
  refine ev_iinc (v := v4 + 1) dX12_feed_85 rfl (by rw [show Int32.ofInt 1 = 1 from ki_1]) (by decide) ?_
  refine ev_goto (tgt := 18) dX12_feed_88 (by decide) ?_
  refine ev_wk (L := [some (.ref 133), some (.int v1), some (.int v2), some (.int v3), some (.int (v4 + 1)), some (.int v2)]) (L' := [some (.ref 133), some (.int v1), some (.int v2), some (.int v3), some (.int (v4 + 1)), none]) (by simp [lwk]) ?_
  exact k
theorem bX12_feed_18_2 {g : GG} {d n : Nat} {post : Option Value → LX → Prop} {X : LX} (hn : 146 ≤ n) (hX : Sh n X) {v1 : Int32} {v2 : Int32} {v3 : Int32} {v4 : Int32} {j1 : Nat} (c0 : ¬ 12 ≤ v4) (c1 : 4 ≤ v4) (c2 : 8 ≤ v4) (hj1 : X 133 4 = nI j1) (b0 : j1 < 120) (k : Ev g mX12_feed d n n post n 18 [some (.ref 133), some (.int v1), some (.int v2), some (.int v3), some (.int (v4 + 1)), none] [] (lx_up (lx_up X 136 j1 ((v3 >>> ((24 - (8 * (v4 - v4 / 4 * 4))) &&& 31)) &&& 255)) 133 4 ((X 133 4) + 1))) : Ev g mX12_feed d n n post n 18 [some (.ref 133), some (.int v1), some (.int v2), some (.int v3), some (.int v4), none] [] X := by
  refine ev_iload dX12_feed_18 rfl ?_
  refine ev_bipush (v := 12) dX12_feed_20 kb_12 ?_
  refine ev_icmpF (tgt := 91) dX12_feed_22 (by decide) c0 ?_
  refine ev_iload dX12_feed_25 rfl ?_
  refine ev_iconst (v := 4) dX12_feed_27 ki_4 ?_
  refine ev_icmpT (tgt := 35) dX12_feed_28 (by decide) c1 ?_
  refine ev_iload dX12_feed_35 rfl ?_
  refine ev_bipush (v := 8) dX12_feed_37 kb_8 ?_
  refine ev_icmpT (tgt := 46) dX12_feed_39 (by decide) c2 ?_
  refine ev_iload_n dX12_feed_46 rfl ?_
  refine ev_istore dX12_feed_47 (by decide) ?_
  refine ev_aload_n dX12_feed_49 rfl ?_
  refine ev_getS (q := 136) dX12_feed_50 fo_12_16 (by omega) lo_133 rfl (sh_133_3 hX (by omega)) (by decide) ?_
  refine ev_aload_n dX12_feed_53 rfl ?_
  refine ev_getI dX12_feed_54 fo_12_121 (by omega) lo_133 rfl ?_
  refine ev_iload dX12_feed_57 rfl ?_
  refine ev_bipush (v := 24) dX12_feed_59 kb_24 ?_
  refine ev_bipush (v := 8) dX12_feed_61 kb_8 ?_
  refine ev_iload dX12_feed_63 rfl ?_
  refine ev_iconst (v := 4) dX12_feed_65 ki_4 ?_
  refine ev_irem dX12_feed_66 (by decide) ?_
  refine ev_imul dX12_feed_67 ?_
  refine ev_isub dX12_feed_68 ?_
  refine ev_ishr dX12_feed_69 ?_
  refine ev_sipush (v := 255) dX12_feed_70 ks_255 ?_
  refine ev_iand dX12_feed_73 ?_
  refine ev_iast dX12_feed_74 (by omega) ly_136 hj1 b0 ?_
  have hX1 : Sh _ (lx_up X 136 j1 ((v3 >>> ((24 - (8 * (v4 - v4 / 4 * 4))) &&& 31)) &&& 255)) := Sh.upA hX (by rw [ly_136]; exact (by decide : 0 < 2))
  refine ev_aload_n dX12_feed_75 rfl ?_
  refine ev_dup dX12_feed_76 rfl ?_
  refine ev_getI dX12_feed_77 fo_12_121 (by omega) lo_133 rfl ?_
  refine ev_iconst (v := 1) dX12_feed_80 ki_1 ?_
  refine ev_iadd dX12_feed_81 ?_
  refine ev_putI dX12_feed_82 fo_12_121 (by omega) lo_133 rfl rfl rfl ?_
  have hX2 : Sh _ (lx_up (lx_up X 136 j1 ((v3 >>> ((24 - (8 * (v4 - v4 / 4 * 4))) &&& 31)) &&& 255)) 133 4 ((X 133 4) + 1)) := Sh.upF hX1 (by rw [lo_133]; decide) (by decide)
  refine ev_iinc (v := v4 + 1) dX12_feed_85 rfl (by rw [show Int32.ofInt 1 = 1 from ki_1]) (by decide) ?_
  refine ev_goto (tgt := 18) dX12_feed_88 (by decide) ?_
  refine ev_wk (L := [some (.ref 133), some (.int v1), some (.int v2), some (.int v3), some (.int (v4 + 1)), some (.int v3)]) (L' := [some (.ref 133), some (.int v1), some (.int v2), some (.int v3), some (.int (v4 + 1)), none]) (by simp [lwk]) ?_
  exact k
theorem bX12_feed_18_3 {g : GG} {d n : Nat} {post : Option Value → LX → Prop} {X : LX} (hn : 146 ≤ n) (hX : Sh n X) {v1 : Int32} {v2 : Int32} {v3 : Int32} {v4 : Int32} (c0 : 12 ≤ v4) (hp : post (some (.int (X 133 4))) X) : Ev g mX12_feed d n n post n 18 [some (.ref 133), some (.int v1), some (.int v2), some (.int v3), some (.int v4), none] [] X := by
  refine ev_iload dX12_feed_18 rfl ?_
  refine ev_bipush (v := 12) dX12_feed_20 kb_12 ?_
  refine ev_icmpT (tgt := 91) dX12_feed_22 (by decide) c0 ?_
  refine ev_aload_n dX12_feed_91 rfl ?_
  refine ev_getI dX12_feed_92 fo_12_121 (by omega) lo_133 rfl ?_
  exact ev_iret dX12_feed_95 rfl rfl hp
theorem bX12_tell_0_0 {g : GG} {d n : Nat} {post : Option Value → LX → Prop} {X : LX} (hn : 146 ≤ n) (hX : Sh n X) {v1 : Int32} (c0 : X 133 6 = 36) (hp : post (some (.int (-1000000003))) X) : Ev g mX12_tell d n n post n 0 [some (.ref 133), some (.int v1)] [] X := by
  refine ev_aload_n dX12_tell_0 rfl ?_
  refine ev_getI dX12_tell_1 fo_12_313 (by omega) lo_133 rfl ?_
  refine ev_bipush (v := 36) dX12_tell_4 kb_36 ?_
  refine ev_icmpF (tgt := 12) dX12_tell_6 (by decide) c0 ?_
  refine ev_ldc (v := (-1000000003)) dX12_tell_9 kw_12_58 ?_
  exact ev_iret dX12_tell_11 rfl rfl hp
theorem bX12_tell_0_1 {g : GG} {d n : Nat} {post : Option Value → LX → Prop} {X : LX} (hn : 146 ≤ n) (hX : Sh n X) {v1 : Int32} {j1 : Nat} (c0 : ¬ X 133 6 = 36) (hj1 : X 133 6 = nI j1) (b0 : j1 < 36) (hp : post (some (.int ((X 133 6) + 1))) (lx_up (lx_up X 137 j1 v1) 133 6 ((X 133 6) + 1))) : Ev g mX12_tell d n n post n 0 [some (.ref 133), some (.int v1)] [] X := by
  refine ev_aload_n dX12_tell_0 rfl ?_
  refine ev_getI dX12_tell_1 fo_12_313 (by omega) lo_133 rfl ?_
  refine ev_bipush (v := 36) dX12_tell_4 kb_36 ?_
  refine ev_icmpT (tgt := 12) dX12_tell_6 (by decide) c0 ?_
  refine ev_aload_n dX12_tell_12 rfl ?_
  refine ev_getS (q := 137) dX12_tell_13 fo_12_19 (by omega) lo_133 rfl (sh_133_5 hX (by omega)) (by decide) ?_
  refine ev_aload_n dX12_tell_16 rfl ?_
  refine ev_getI dX12_tell_17 fo_12_313 (by omega) lo_133 rfl ?_
  refine ev_iload_n dX12_tell_20 rfl ?_
  refine ev_iast dX12_tell_21 (by omega) ly_137 hj1 b0 ?_
  have hX1 : Sh _ (lx_up X 137 j1 v1) := Sh.upA hX (by rw [ly_137]; exact (by decide : 0 < 2))
  refine ev_aload_n dX12_tell_22 rfl ?_
  refine ev_dup dX12_tell_23 rfl ?_
  refine ev_getI dX12_tell_24 fo_12_313 (by omega) lo_133 rfl ?_
  refine ev_iconst (v := 1) dX12_tell_27 ki_1 ?_
  refine ev_iadd dX12_tell_28 ?_
  refine ev_putI dX12_tell_29 fo_12_313 (by omega) lo_133 rfl rfl rfl ?_
  have hX2 : Sh _ (lx_up (lx_up X 137 j1 v1) 133 6 ((X 133 6) + 1)) := Sh.upF hX1 (by rw [lo_133]; decide) (by decide)
  refine ev_aload_n dX12_tell_32 rfl ?_
  refine ev_getI dX12_tell_33 fo_12_313 (by omega) lo_133 rfl ?_
  exact ev_iret dX12_tell_36 rfl rfl hp
theorem bX11_tell_0_0 {g : GG} {d n : Nat} {post : Option Value → LX → Prop} {X : LX} (hn : 146 ≤ n) (hX : Sh n X) {v1 : Int32} (c0 : ¬ X 0 7 < 36) (hp : post (some (.int (-1000000003))) X) : Ev g mX11_tell d n n post n 0 [some (.ref 0), some (.int v1)] [] X := by
  refine ev_aload_n dX11_tell_0 rfl ?_
  refine ev_getI dX11_tell_1 fo_11_351 (by omega) lo_0 rfl ?_
  refine ev_bipush (v := 36) dX11_tell_4 kb_36 ?_
  refine ev_icmpF (tgt := 12) dX11_tell_6 (by decide) c0 ?_
  refine ev_ldc (v := (-1000000003)) dX11_tell_9 kw_11_72 ?_
  exact ev_iret dX11_tell_11 rfl rfl hp
theorem bX11_tell_0_1 {g : GG} {d n : Nat} {post : Option Value → LX → Prop} {X : LX} (hn : 146 ≤ n) (hX : Sh n X) {v1 : Int32} {j1 : Nat} (c0 : X 0 7 < 36) (hj1 : X 0 7 = nI j1) (b0 : j1 < 36) (hp : post (some (.int ((X 0 7) + 1))) (lx_up (lx_up X 0 7 ((X 0 7) + 1)) 132 j1 v1)) : Ev g mX11_tell d n n post n 0 [some (.ref 0), some (.int v1)] [] X := by
  refine ev_aload_n dX11_tell_0 rfl ?_
  refine ev_getI dX11_tell_1 fo_11_351 (by omega) lo_0 rfl ?_
  refine ev_bipush (v := 36) dX11_tell_4 kb_36 ?_
  refine ev_icmpT (tgt := 12) dX11_tell_6 (by decide) c0 ?_
  refine ev_aload_n dX11_tell_12 rfl ?_
  refine ev_getS (q := 132) dX11_tell_13 fo_11_53 (by omega) lo_0 rfl (sh_0_6 hX (by omega)) (by decide) ?_
  refine ev_aload_n dX11_tell_16 rfl ?_
  refine ev_dup dX11_tell_17 rfl ?_
  refine ev_getI dX11_tell_18 fo_11_351 (by omega) lo_0 rfl ?_
  refine ev_dup_x1 dX11_tell_21 rfl rfl ?_
  refine ev_iconst (v := 1) dX11_tell_22 ki_1 ?_
  refine ev_iadd dX11_tell_23 ?_
  refine ev_putI dX11_tell_24 fo_11_351 (by omega) lo_0 rfl rfl rfl ?_
  have hX1 : Sh _ (lx_up X 0 7 ((X 0 7) + 1)) := Sh.upF hX (by rw [lo_0]; decide) (by decide)
  refine ev_iload_n dX11_tell_27 rfl ?_
  refine ev_iast dX11_tell_28 (by omega) ly_132 hj1 b0 ?_
  have hX2 : Sh _ (lx_up (lx_up X 0 7 ((X 0 7) + 1)) 132 j1 v1) := Sh.upA hX1 (by rw [ly_132]; exact (by decide : 0 < 2))
  refine ev_aload_n dX11_tell_29 rfl ?_
  refine ev_getI dX11_tell_30 fo_11_351 (by omega) lo_0 rfl ?_
  exact ev_iret dX11_tell_33 rfl rfl hp
theorem bX12_keep_0_0 {g : GG} {d n : Nat} {post : Option Value → LX → Prop} {X : LX} (hn : 146 ≤ n) (hX : Sh n X)  (k : Ev g mX12_keep d n n post n 2 [some (.ref 133), some (.int 0)] [] X) : Ev g mX12_keep d n n post n 0 [some (.ref 133), none] [] X := by
  refine ev_iconst (v := 0) dX12_keep_0 ki_0 ?_
  refine ev_istore_n dX12_keep_1 (by decide) ?_
  exact k
theorem bX12_keep_2_0 {g : GG} {d n : Nat} {post : Option Value → LX → Prop} {X : LX} (hn : 146 ≤ n) (hX : Sh n X) {v1 : Nat} (c0 : ¬ 2156 ≤ nI v1) (b0 : v1 < 2156) (k : Ev g mX12_keep d n n post n 2 [some (.ref 133), some (.int ((nI v1) + 1))] [] (lx_up X 135 v1 (X 134 v1))) : Ev g mX12_keep d n n post n 2 [some (.ref 133), some (.int (nI v1))] [] X := by
  refine ev_iload_n dX12_keep_2 rfl ?_
  refine ev_sipush (v := 2156) dX12_keep_3 ks_2156 ?_
  refine ev_icmpF (tgt := 27) dX12_keep_6 (by decide) c0 ?_
  refine ev_aload_n dX12_keep_9 rfl ?_
  refine ev_getS (q := 135) dX12_keep_10 fo_12_13 (by omega) lo_133 rfl (sh_133_1 hX (by omega)) (by decide) ?_
  refine ev_iload_n dX12_keep_13 rfl ?_
  refine ev_aload_n dX12_keep_14 rfl ?_
  refine ev_getS (q := 134) dX12_keep_15 fo_12_9 (by omega) lo_133 rfl (sh_133_0 hX (by omega)) (by decide) ?_
  refine ev_iload_n dX12_keep_18 rfl ?_
  refine ev_iald dX12_keep_19 (by omega) ly_134 rfl b0 ?_
  refine ev_iast dX12_keep_20 (by omega) ly_135 rfl b0 ?_
  have hX1 : Sh _ (lx_up X 135 v1 (X 134 v1)) := Sh.upA hX (by rw [ly_135]; exact (by decide : 0 < 2))
  refine ev_iinc (v := (nI v1) + 1) dX12_keep_21 rfl (by rw [show Int32.ofInt 1 = 1 from ki_1]) (by decide) ?_
  refine ev_goto (tgt := 2) dX12_keep_24 (by decide) ?_
  exact k
theorem bX12_keep_2_1 {g : GG} {d n : Nat} {post : Option Value → LX → Prop} {X : LX} (hn : 146 ≤ n) (hX : Sh n X) {v1 : Int32} (c0 : 2156 ≤ v1) (hp : post (some (.int (X 134 0))) (lx_up X 133 2 1)) : Ev g mX12_keep d n n post n 2 [some (.ref 133), some (.int v1)] [] X := by
  refine ev_iload_n dX12_keep_2 rfl ?_
  refine ev_sipush (v := 2156) dX12_keep_3 ks_2156 ?_
  refine ev_icmpT (tgt := 27) dX12_keep_6 (by decide) c0 ?_
  refine ev_aload_n dX12_keep_27 rfl ?_
  refine ev_iconst (v := 1) dX12_keep_28 ki_1 ?_
  refine ev_putZ dX12_keep_29 fo_12_316 (by omega) lo_133 rfl rfl rfl (by decide) ?_
  have hX1 : Sh _ (lx_up X 133 2 1) := Sh.upF hX (by rw [lo_133]; decide) (by decide)
  refine ev_aload_n dX12_keep_32 rfl ?_
  refine ev_getS (q := 134) dX12_keep_33 fo_12_9 (by omega) lo_133 rfl (sh_133_0 hX1 (by omega)) (by decide) ?_
  refine ev_iconst (v := 0) dX12_keep_36 ki_0 ?_
  refine ev_iald dX12_keep_37 (by omega) ly_134 nIl_0 (by decide) ?_
  exact ev_iret dX12_keep_38 rfl rfl hp
theorem bX12_back_0_0 {g : GG} {d n : Nat} {post : Option Value → LX → Prop} {X : LX} (hn : 146 ≤ n) (hX : Sh n X)  (c0 : X 133 2 = 0) (hp : post (some (.int (-1000000002))) X) : Ev g mX12_back d n n post n 0 [some (.ref 133), none] [] X := by
  refine ev_aload_n dX12_back_0 rfl ?_
  refine ev_getI dX12_back_1 fo_12_316 (by omega) lo_133 rfl ?_
  refine ev_ifF (tgt := 10) dX12_back_4 (by decide) c0 ?_
  refine ev_ldc (v := (-1000000002)) dX12_back_7 kw_12_80 ?_
  exact ev_iret dX12_back_9 rfl rfl hp
theorem bX12_back_0_1 {g : GG} {d n : Nat} {post : Option Value → LX → Prop} {X : LX} (hn : 146 ≤ n) (hX : Sh n X)  (c0 : ¬ X 133 2 = 0) (k : Ev g mX12_back d n n post n 12 [some (.ref 133), some (.int 0)] [] X) : Ev g mX12_back d n n post n 0 [some (.ref 133), none] [] X := by
  refine ev_aload_n dX12_back_0 rfl ?_
  refine ev_getI dX12_back_1 fo_12_316 (by omega) lo_133 rfl ?_
  refine ev_ifT (tgt := 10) dX12_back_4 (by decide) c0 ?_
  refine ev_iconst (v := 0) dX12_back_10 ki_0 ?_
  refine ev_istore_n dX12_back_11 (by decide) ?_
  exact k
theorem bX12_back_12_0 {g : GG} {d n : Nat} {post : Option Value → LX → Prop} {X : LX} (hn : 146 ≤ n) (hX : Sh n X) {v1 : Nat} (c0 : ¬ 2156 ≤ nI v1) (b0 : v1 < 2156) (k : Ev g mX12_back d n n post n 12 [some (.ref 133), some (.int ((nI v1) + 1))] [] (lx_up X 134 v1 (X 135 v1))) : Ev g mX12_back d n n post n 12 [some (.ref 133), some (.int (nI v1))] [] X := by
  refine ev_iload_n dX12_back_12 rfl ?_
  refine ev_sipush (v := 2156) dX12_back_13 ks_2156 ?_
  refine ev_icmpF (tgt := 37) dX12_back_16 (by decide) c0 ?_
  refine ev_aload_n dX12_back_19 rfl ?_
  refine ev_getS (q := 134) dX12_back_20 fo_12_9 (by omega) lo_133 rfl (sh_133_0 hX (by omega)) (by decide) ?_
  refine ev_iload_n dX12_back_23 rfl ?_
  refine ev_aload_n dX12_back_24 rfl ?_
  refine ev_getS (q := 135) dX12_back_25 fo_12_13 (by omega) lo_133 rfl (sh_133_1 hX (by omega)) (by decide) ?_
  refine ev_iload_n dX12_back_28 rfl ?_
  refine ev_iald dX12_back_29 (by omega) ly_135 rfl b0 ?_
  refine ev_iast dX12_back_30 (by omega) ly_134 rfl b0 ?_
  have hX1 : Sh _ (lx_up X 134 v1 (X 135 v1)) := Sh.upA hX (by rw [ly_134]; exact (by decide : 0 < 2))
  refine ev_iinc (v := (nI v1) + 1) dX12_back_31 rfl (by rw [show Int32.ofInt 1 = 1 from ki_1]) (by decide) ?_
  refine ev_goto (tgt := 12) dX12_back_34 (by decide) ?_
  exact k
theorem bX12_back_12_1 {g : GG} {d n : Nat} {post : Option Value → LX → Prop} {X : LX} (hn : 146 ≤ n) (hX : Sh n X) {v1 : Int32} (c0 : 2156 ≤ v1) (hp : post (some (.int (X 134 0))) X) : Ev g mX12_back d n n post n 12 [some (.ref 133), some (.int v1)] [] X := by
  refine ev_iload_n dX12_back_12 rfl ?_
  refine ev_sipush (v := 2156) dX12_back_13 ks_2156 ?_
  refine ev_icmpT (tgt := 37) dX12_back_16 (by decide) c0 ?_
  refine ev_aload_n dX12_back_37 rfl ?_
  refine ev_getS (q := 134) dX12_back_38 fo_12_9 (by omega) lo_133 rfl (sh_133_0 hX (by omega)) (by decide) ?_
  refine ev_iconst (v := 0) dX12_back_41 ki_0 ?_
  refine ev_iald dX12_back_42 (by omega) ly_134 nIl_0 (by decide) ?_
  exact ev_iret dX12_back_43 rfl rfl hp
