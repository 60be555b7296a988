/-! BLOCKS of texts. -/
theorem mm_14_92 : Cond.methodLink RJ1 92 Lib.Math.max.name ∈ GT := gt_at 865 (by decide +kernel) rfl
theorem mm_14_38 : Cond.methodLink RJ1 38 Lib.Math.min.name ∈ GT := gt_at 866 (by decide +kernel) rfl
theorem bJ0_coder_7d493_0_0 {g : GG} {d n : Nat} {post : Option Value → LX → Prop} {X : LX} (hn : 146 ≤ n) (hX : Sh n X) {tv0 : Nat} (htv0 : tv0 < 14) (hz : narrow .byte (.int 0) = .int 0) (hp : post (some (.int 0)) X) : Ev g mJ0_coder_7d493 d n n post n 0 [some (.ref (1000 + tv0))] [] X := by
  refine ev_gets1 dJ0_coder_7d493_0 jw_13_38 ?_
  refine ev_ifF (tgt := 13) dJ0_coder_7d493_3 (by decide) (by show ¬ (1 : Int32) = 0; decide) ?_
  refine ev_aload_n dJ0_coder_7d493_6 rfl ?_
  refine ev_txtC dJ0_coder_7d493_7 jw_13_15 htv0 ?_
  refine ev_goto (tgt := 14) dJ0_coder_7d493_10 (by decide) ?_
  exact ev_iret dJ0_coder_7d493_14 rfl hz hp
theorem bJ0_isLatin1_aae02_0_0 {g : GG} {d n : Nat} {post : Option Value → LX → Prop} {X : LX} (hn : 146 ≤ n) (hX : Sh n X) {tv0 : Nat} (htv0 : tv0 < 14) (hp : post (some (.int 1)) X) : Ev g mJ0_isLatin1_aae02 d n n post n 0 [some (.ref (1000 + tv0))] [] X := by
  refine ev_gets1 dJ0_isLatin1_aae02_0 jw_13_38 ?_
  refine ev_ifF (tgt := 17) dJ0_isLatin1_aae02_3 (by decide) (by show ¬ (1 : Int32) = 0; decide) ?_
  refine ev_aload_n dJ0_isLatin1_aae02_6 rfl ?_
  refine ev_txtC dJ0_isLatin1_aae02_7 jw_13_15 htv0 ?_
  refine ev_ifF (tgt := 17) dJ0_isLatin1_aae02_10 (by decide) (by show (0 : Int32) = 0; decide) ?_
  refine ev_iconst (v := 1) dJ0_isLatin1_aae02_13 ki_1 ?_
  refine ev_goto (tgt := 18) dJ0_isLatin1_aae02_14 (by decide) ?_
  exact ev_iret dJ0_isLatin1_aae02_18 rfl (by decide) hp
theorem bJ0_length_8abf5_0_0 {g : GG} {d n : Nat} {post : Option Value → LX → Prop} {X : LX} (hn : 146 ≤ n) (hX : Sh n X) {tv0 : Nat} (htv0 : tv0 < 14) (k : Ev g mJ0_length_8abf5 d n n post n 6 [some (.ref (1000 + tv0))] [.ref (1000 + tv0), .int (nI (tLn.getD tv0 0))] X) : Ev g mJ0_length_8abf5 d n n post n 0 [some (.ref (1000 + tv0))] [] X := by
  refine ev_aload_n dJ0_length_8abf5_0 rfl ?_
  refine ev_txtV dJ0_length_8abf5_1 jw_13_9 htv0 ?_
  refine ev_txtL dJ0_length_8abf5_4 htv0 ?_
  refine ev_aload_n dJ0_length_8abf5_5 rfl ?_
  exact k
theorem bJ0_length_8abf5_9_0 {g : GG} {d n : Nat} {post : Option Value → LX → Prop} {X : LX} (hn : 146 ≤ n) (hX : Sh n X) {tv0 : Nat} {s0 : Int32} {s1 : Int32} (htv0 : tv0 < 14) (hp : post (some (.int (s0 >>> (s1 &&& 31)))) X) : Ev g mJ0_length_8abf5 d n n post n 9 [some (.ref (1000 + tv0))] [.int s1, .int s0] X := by
  refine ev_ishr dJ0_length_8abf5_9 ?_
  exact ev_iret dJ0_length_8abf5_10 rfl rfl hp
theorem bJ1_canEncode_9a6ad_0_0 {g : GG} {d n : Nat} {post : Option Value → LX → Prop} {X : LX} (hn : 146 ≤ n) (hX : Sh n X) {v0 : Int32} (c0 : ¬ v0 < 0) (c1 : ¬ 255 < v0) (hp : post (some (.int 1)) X) : Ev g mJ1_canEncode_9a6ad d n n post n 0 [some (.int v0)] [] X := by
  refine ev_iload_n dJ1_canEncode_9a6ad_0 rfl ?_
  refine ev_ifF (tgt := 15) dJ1_canEncode_9a6ad_1 (by decide) c0 ?_
  refine ev_iload_n dJ1_canEncode_9a6ad_4 rfl ?_
  refine ev_sipush (v := 255) dJ1_canEncode_9a6ad_5 ks_255 ?_
  refine ev_icmpF (tgt := 15) dJ1_canEncode_9a6ad_8 (by decide) c1 ?_
  refine ev_iconst (v := 1) dJ1_canEncode_9a6ad_11 ki_1 ?_
  refine ev_goto (tgt := 16) dJ1_canEncode_9a6ad_12 (by decide) ?_
  exact ev_iret dJ1_canEncode_9a6ad_16 rfl (by decide) hp
theorem bJ1_canEncode_9a6ad_0_1 {g : GG} {d n : Nat} {post : Option Value → LX → Prop} {X : LX} (hn : 146 ≤ n) (hX : Sh n X) {v0 : Int32} (c0 : ¬ v0 < 0) (c1 : 255 < v0) (hp : post (some (.int 0)) X) : Ev g mJ1_canEncode_9a6ad d n n post n 0 [some (.int v0)] [] X := by
  refine ev_iload_n dJ1_canEncode_9a6ad_0 rfl ?_
  refine ev_ifF (tgt := 15) dJ1_canEncode_9a6ad_1 (by decide) c0 ?_
  refine ev_iload_n dJ1_canEncode_9a6ad_4 rfl ?_
  refine ev_sipush (v := 255) dJ1_canEncode_9a6ad_5 ks_255 ?_
  refine ev_icmpT (tgt := 15) dJ1_canEncode_9a6ad_8 (by decide) c1 ?_
  refine ev_iconst (v := 0) dJ1_canEncode_9a6ad_15 ki_0 ?_
  exact ev_iret dJ1_canEncode_9a6ad_16 rfl (by decide) hp
theorem bJ1_canEncode_9a6ad_0_2 {g : GG} {d n : Nat} {post : Option Value → LX → Prop} {X : LX} (hn : 146 ≤ n) (hX : Sh n X) {v0 : Int32} (c0 : v0 < 0) (hp : post (some (.int 0)) X) : Ev g mJ1_canEncode_9a6ad d n n post n 0 [some (.int v0)] [] X := by
  refine ev_iload_n dJ1_canEncode_9a6ad_0 rfl ?_
  refine ev_ifT (tgt := 15) dJ1_canEncode_9a6ad_1 (by decide) c0 ?_
  refine ev_iconst (v := 0) dJ1_canEncode_9a6ad_15 ki_0 ?_
  exact ev_iret dJ1_canEncode_9a6ad_16 rfl (by decide) hp
theorem bJ3_checkIndex_8e157_0_0 {g : GG} {d n : Nat} {post : Option Value → LX → Prop} {X : LX} (hn : 146 ≤ n) (hX : Sh n X) {v0 : Int32} {v1 : Int32} (c0 : ¬ v0 < 0) (c1 : v0 < v1) (hp : post (some (.int v0)) X) : Ev g mJ3_checkIndex_8e157 d n n post n 0 [some (.int v0), some (.int v1), some (.retAddr 0)] [] X := by
  refine ev_iload_n dJ3_checkIndex_8e157_0 rfl ?_
  refine ev_ifF (tgt := 9) dJ3_checkIndex_8e157_1 (by decide) c0 ?_
  refine ev_iload_n dJ3_checkIndex_8e157_4 rfl ?_
  refine ev_iload_n dJ3_checkIndex_8e157_5 rfl ?_
  refine ev_icmpT (tgt := 16) dJ3_checkIndex_8e157_6 (by decide) c1 ?_
  refine ev_iload_n dJ3_checkIndex_8e157_16 rfl ?_
  exact ev_iret dJ3_checkIndex_8e157_17 rfl rfl hp
theorem bJ0_checkIndex_df160_0_0 {g : GG} {d n : Nat} {post : Option Value → LX → Prop} {X : LX} (hn : 146 ≤ n) (hX : Sh n X) {v0 : Int32} {v1 : Int32} (k : Ev g mJ0_checkIndex_df160 d n n post n 5 [some (.int v0), some (.int v1)] [.retAddr 0, .int v1, .int v0] X) : Ev g mJ0_checkIndex_df160 d n n post n 0 [some (.int v0), some (.int v1)] [] X := by
  refine ev_iload_n dJ0_checkIndex_df160_0 rfl ?_
  refine ev_iload_n dJ0_checkIndex_df160_1 rfl ?_
  refine ev_gets2 dJ0_checkIndex_df160_2 jw_13_1053 ?_
  exact k
theorem bJ0_checkIndex_df160_8_0 {g : GG} {d n : Nat} {post : Option Value → LX → Prop} {X : LX} (hn : 146 ≤ n) (hX : Sh n X) {v0 : Int32} {v1 : Int32} {s0 : Int32} (hp : post none X) : Ev g mJ0_checkIndex_df160 d n n post n 8 [some (.int v0), some (.int v1)] [.int s0] X := by
  refine ev_pop dJ0_checkIndex_df160_8 rfl ?_
  exact ev_ret dJ0_checkIndex_df160_9 rfl hp
theorem bJ1_charAt_3b067_0_0 {g : GG} {d n : Nat} {post : Option Value → LX → Prop} {X : LX} (hn : 146 ≤ n) (hX : Sh n X) {tv0 : Nat} {v1 : Int32} (htv0 : tv0 < 14) (k : Ev g mJ1_charAt_3b067 d n n post n 3 [some (.ref (2000 + tv0)), some (.int v1)] [.int (nI (tLn.getD tv0 0)), .int v1] X) : Ev g mJ1_charAt_3b067 d n n post n 0 [some (.ref (2000 + tv0)), some (.int v1)] [] X := by
  refine ev_iload_n dJ1_charAt_3b067_0 rfl ?_
  refine ev_aload_n dJ1_charAt_3b067_1 rfl ?_
  refine ev_txtL dJ1_charAt_3b067_2 htv0 ?_
  exact k
theorem bJ1_charAt_3b067_6_0 {g : GG} {d n : Nat} {post : Option Value → LX → Prop} {X : LX} (hn : 146 ≤ n) (hX : Sh n X) {tv0 : Nat} {v1 : Nat} (htv0 : tv0 < 14) (b0 : v1 < tLn.getD tv0 0) (hz : narrow .char (.int (((((tBy.getD tv0 []).getD v1 0) &&& 255).toUInt32 % 65536).toInt32)) = .int (((((tBy.getD tv0 []).getD v1 0) &&& 255).toUInt32 % 65536).toInt32)) (hp : post (some (.int (((((tBy.getD tv0 []).getD v1 0) &&& 255).toUInt32 % 65536).toInt32))) X) : Ev g mJ1_charAt_3b067 d n n post n 6 [some (.ref (2000 + tv0)), some (.int (nI v1))] [] X := by
  refine ev_aload_n dJ1_charAt_3b067_6 rfl ?_
  refine ev_iload_n dJ1_charAt_3b067_7 rfl ?_
  refine ev_bald dJ1_charAt_3b067_8 htv0 rfl b0 (by have := tLn_lt htv0; omega) ?_
  refine ev_sipush (v := 255) dJ1_charAt_3b067_9 ks_255 ?_
  refine ev_iand dJ1_charAt_3b067_12 ?_
  refine ev_i2c dJ1_charAt_3b067_13 ?_
  exact ev_iret dJ1_charAt_3b067_14 rfl hz hp
theorem bJ0_charAt_5068e_0_0 {g : GG} {d n : Nat} {post : Option Value → LX → Prop} {X : LX} (hn : 146 ≤ n) (hX : Sh n X) {tv0 : Nat} {v1 : Int32} (htv0 : tv0 < 14) (k : Ev g mJ0_charAt_5068e d n n post n 1 [some (.ref (1000 + tv0)), some (.int v1)] [.ref (1000 + tv0)] X) : Ev g mJ0_charAt_5068e d n n post n 0 [some (.ref (1000 + tv0)), some (.int v1)] [] X := by
  refine ev_aload_n dJ0_charAt_5068e_0 rfl ?_
  exact k
theorem bJ0_charAt_5068e_4_0 {g : GG} {d n : Nat} {post : Option Value → LX → Prop} {X : LX} (hn : 146 ≤ n) (hX : Sh n X) {tv0 : Nat} {v1 : Int32} {s0 : Int32} (htv0 : tv0 < 14) (c0 : ¬ s0 = 0) (k : Ev g mJ0_charAt_5068e d n n post n 12 [some (.ref (1000 + tv0)), some (.int v1)] [.int v1, .ref (2000 + tv0)] X) : Ev g mJ0_charAt_5068e d n n post n 4 [some (.ref (1000 + tv0)), some (.int v1)] [.int s0] X := by
  refine ev_ifF (tgt := 16) dJ0_charAt_5068e_4 (by decide) c0 ?_
  refine ev_aload_n dJ0_charAt_5068e_7 rfl ?_
  refine ev_txtV dJ0_charAt_5068e_8 jw_13_9 htv0 ?_
  refine ev_iload_n dJ0_charAt_5068e_11 rfl ?_
  exact k
theorem bJ0_charAt_5068e_4_1 {g : GG} {d n : Nat} {post : Option Value → LX → Prop} {X : LX} (hn : 146 ≤ n) (hX : Sh n X) {tv0 : Nat} {v1 : Int32} {s0 : Int32} (htv0 : tv0 < 14) (c0 : s0 = 0) (k : Ev g mJ0_charAt_5068e d n n post n 21 [some (.ref (1000 + tv0)), some (.int v1)] [.int v1, .ref (2000 + tv0)] X) : Ev g mJ0_charAt_5068e d n n post n 4 [some (.ref (1000 + tv0)), some (.int v1)] [.int s0] X := by
  refine ev_ifT (tgt := 16) dJ0_charAt_5068e_4 (by decide) c0 ?_
  refine ev_aload_n dJ0_charAt_5068e_16 rfl ?_
  refine ev_txtV dJ0_charAt_5068e_17 jw_13_9 htv0 ?_
  refine ev_iload_n dJ0_charAt_5068e_20 rfl ?_
  exact k
theorem bJ0_charAt_5068e_15_0 {g : GG} {d n : Nat} {post : Option Value → LX → Prop} {X : LX} (hn : 146 ≤ n) (hX : Sh n X) {tv0 : Nat} {v1 : Int32} {s0 : Int32} (htv0 : tv0 < 14) (hz : narrow .char (.int s0) = .int s0) (hp : post (some (.int s0)) X) : Ev g mJ0_charAt_5068e d n n post n 15 [some (.ref (1000 + tv0)), some (.int v1)] [.int s0] X := by
  exact ev_iret dJ0_charAt_5068e_15 rfl hz hp
theorem bJ0_charAt_5068e_24_0 {g : GG} {d n : Nat} {post : Option Value → LX → Prop} {X : LX} (hn : 146 ≤ n) (hX : Sh n X) {tv0 : Nat} {v1 : Int32} {s0 : Int32} (htv0 : tv0 < 14) (hz : narrow .char (.int s0) = .int s0) (hp : post (some (.int s0)) X) : Ev g mJ0_charAt_5068e d n n post n 24 [some (.ref (1000 + tv0)), some (.int v1)] [.int s0] X := by
  exact ev_iret dJ0_charAt_5068e_24 rfl hz hp
theorem bJ1_indexOfChar_4cfef_0_0 {g : GG} {d n : Nat} {post : Option Value → LX → Prop} {X : LX} (hn : 146 ≤ n) (hX : Sh n X) {tv0 : Nat} {v1 : Int32} {v2 : Int32} {v3 : Int32} (htv0 : tv0 < 14) (k : Ev g mJ1_indexOfChar_4cfef d n n post n 7 [some (.ref (2000 + tv0)), some (.int v1), some (.int v2), some (.int v3), some (.int v1.toInt8.toInt32), some (.int v2)] [] X) : Ev g mJ1_indexOfChar_4cfef d n n post n 0 [some (.ref (2000 + tv0)), some (.int v1), some (.int v2), some (.int v3), none, none] [] X := by
  refine ev_iload_n dJ1_indexOfChar_4cfef_0 rfl ?_
  refine ev_i2b dJ1_indexOfChar_4cfef_1 ?_
  refine ev_istore dJ1_indexOfChar_4cfef_2 (by decide) ?_
  refine ev_iload_n dJ1_indexOfChar_4cfef_4 rfl ?_
  refine ev_istore dJ1_indexOfChar_4cfef_5 (by decide) ?_
  exact k
theorem bJ1_indexOfChar_4cfef_7_0 {g : GG} {d n : Nat} {post : Option Value → LX → Prop} {X : LX} (hn : 146 ≤ n) (hX : Sh n X) {tv0 : Nat} {v1 : Int32} {v2 : Int32} {v3 : Int32} {v4 : Int32} {v5 : Nat} (htv0 : tv0 < 14) (c0 : ¬ v3 ≤ nI v5) (b0 : v5 < tLn.getD tv0 0) (c1 : (tBy.getD tv0 []).getD v5 0 = v4) (hp : post (some (.int (nI v5))) X) : Ev g mJ1_indexOfChar_4cfef d n n post n 7 [some (.ref (2000 + tv0)), some (.int v1), some (.int v2), some (.int v3), some (.int v4), some (.int (nI v5))] [] X := by
  refine ev_iload dJ1_indexOfChar_4cfef_7 rfl ?_
  refine ev_iload_n dJ1_indexOfChar_4cfef_9 rfl ?_
  refine ev_icmpF (tgt := 31) dJ1_indexOfChar_4cfef_10 (by decide) c0 ?_
  refine ev_aload_n dJ1_indexOfChar_4cfef_13 rfl ?_
  refine ev_iload dJ1_indexOfChar_4cfef_14 rfl ?_
  refine ev_bald dJ1_indexOfChar_4cfef_16 htv0 rfl b0 (by have := tLn_lt htv0; omega) ?_
  refine ev_iload dJ1_indexOfChar_4cfef_17 rfl ?_
  refine ev_icmpF (tgt := 25) dJ1_indexOfChar_4cfef_19 (by decide) c1 ?_
  refine ev_iload dJ1_indexOfChar_4cfef_22 rfl ?_
  exact ev_iret dJ1_indexOfChar_4cfef_24 rfl rfl hp
theorem bJ1_indexOfChar_4cfef_7_1 {g : GG} {d n : Nat} {post : Option Value → LX → Prop} {X : LX} (hn : 146 ≤ n) (hX : Sh n X) {tv0 : Nat} {v1 : Int32} {v2 : Int32} {v3 : Int32} {v4 : Int32} {v5 : Nat} (htv0 : tv0 < 14) (c0 : ¬ v3 ≤ nI v5) (b0 : v5 < tLn.getD tv0 0) (c1 : ¬ (tBy.getD tv0 []).getD v5 0 = v4) (k : Ev g mJ1_indexOfChar_4cfef d n n post n 7 [some (.ref (2000 + tv0)), some (.int v1), some (.int v2), some (.int v3), some (.int v4), some (.int ((nI v5) + 1))] [] X) : Ev g mJ1_indexOfChar_4cfef d n n post n 7 [some (.ref (2000 + tv0)), some (.int v1), some (.int v2), some (.int v3), some (.int v4), some (.int (nI v5))] [] X := by
  refine ev_iload dJ1_indexOfChar_4cfef_7 rfl ?_
  refine ev_iload_n dJ1_indexOfChar_4cfef_9 rfl ?_
  refine ev_icmpF (tgt := 31) dJ1_indexOfChar_4cfef_10 (by decide) c0 ?_
  refine ev_aload_n dJ1_indexOfChar_4cfef_13 rfl ?_
  refine ev_iload dJ1_indexOfChar_4cfef_14 rfl ?_
  refine ev_bald dJ1_indexOfChar_4cfef_16 htv0 rfl b0 (by have := tLn_lt htv0; omega) ?_
  refine ev_iload dJ1_indexOfChar_4cfef_17 rfl ?_
  refine ev_icmpT (tgt := 25) dJ1_indexOfChar_4cfef_19 (by decide) c1 ?_
  refine ev_iinc (v := (nI v5) + 1) dJ1_indexOfChar_4cfef_25 rfl (by rw [show Int32.ofInt 1 = 1 from ki_1]) (by decide) ?_
  refine ev_goto (tgt := 7) dJ1_indexOfChar_4cfef_28 (by decide) ?_
  exact k
theorem bJ1_indexOfChar_4cfef_7_2 {g : GG} {d n : Nat} {post : Option Value → LX → Prop} {X : LX} (hn : 146 ≤ n) (hX : Sh n X) {tv0 : Nat} {v1 : Int32} {v2 : Int32} {v3 : Int32} {v4 : Int32} {v5 : Int32} (htv0 : tv0 < 14) (c0 : v3 ≤ v5) (hp : post (some (.int (-1))) X) : Ev g mJ1_indexOfChar_4cfef d n n post n 7 [some (.ref (2000 + tv0)), some (.int v1), some (.int v2), some (.int v3), some (.int v4), some (.int v5)] [] X := by
  refine ev_iload dJ1_indexOfChar_4cfef_7 rfl ?_
  refine ev_iload_n dJ1_indexOfChar_4cfef_9 rfl ?_
  refine ev_icmpT (tgt := 31) dJ1_indexOfChar_4cfef_10 (by decide) c0 ?_
  refine ev_iconst (v := (-1)) dJ1_indexOfChar_4cfef_31 ki_m1 ?_
  exact ev_iret dJ1_indexOfChar_4cfef_32 rfl rfl hp
theorem bJ1_indexOf_4cfef_0_0 {g : GG} {d n : Nat} {post : Option Value → LX → Prop} {X : LX} (hn : 146 ≤ n) (hX : Sh n X) {tv0 : Nat} {v1 : Int32} {v2 : Int32} {v3 : Int32} (htv0 : tv0 < 14) (k : Ev g mJ1_indexOf_4cfef d n n post n 1 [some (.ref (2000 + tv0)), some (.int v1), some (.int v2), some (.int v3)] [.int v1] X) : Ev g mJ1_indexOf_4cfef d n n post n 0 [some (.ref (2000 + tv0)), some (.int v1), some (.int v2), some (.int v3)] [] X := by
  refine ev_iload_n dJ1_indexOf_4cfef_0 rfl ?_
  exact k
theorem bJ1_indexOf_4cfef_4_0 {g : GG} {d n : Nat} {post : Option Value → LX → Prop} {X : LX} (hn : 146 ≤ n) (hX : Sh n X) {tv0 : Nat} {v1 : Int32} {v2 : Int32} {v3 : Int32} {s0 : Int32} (htv0 : tv0 < 14) (c0 : s0 = 0) (hp : post (some (.int (-1))) X) : Ev g mJ1_indexOf_4cfef d n n post n 4 [some (.ref (2000 + tv0)), some (.int v1), some (.int v2), some (.int v3)] [.int s0] X := by
  refine ev_ifF (tgt := 9) dJ1_indexOf_4cfef_4 (by decide) c0 ?_
  refine ev_iconst (v := (-1)) dJ1_indexOf_4cfef_7 ki_m1 ?_
  exact ev_iret dJ1_indexOf_4cfef_8 rfl rfl hp
theorem bJ1_indexOf_4cfef_4_1 {g : GG} {d n : Nat} {post : Option Value → LX → Prop} {X : LX} (hd : 1 ≤ d) (hn : 146 ≤ n) (hX : Sh n X) {tv0 : Nat} {v1 : Int32} {v2 : Int32} {v3 : Int32} {s0 : Int32} (htv0 : tv0 < 14) (c0 : ¬ s0 = 0) (c1 : ¬ (if v2 < 0 then 0 else v2) < (if (nI (tLn.getD tv0 0)) < v3 then (nI (tLn.getD tv0 0)) else v3)) (hp : post (some (.int (-1))) X) : Ev g mJ1_indexOf_4cfef d n n post n 4 [some (.ref (2000 + tv0)), some (.int v1), some (.int v2), some (.int v3)] [.int s0] X := by
  refine ev_ifT (tgt := 9) dJ1_indexOf_4cfef_4 (by decide) c0 ?_
  refine ev_iload_n dJ1_indexOf_4cfef_9 rfl ?_
  refine ev_iconst (v := 0) dJ1_indexOf_4cfef_10 ki_0 ?_
  refine e_max dJ1_indexOf_4cfef_11 mm_14_92 mx_st mx_in mx_co (Nat.le_of_ble_eq_true rfl) (by omega) ?_
  refine ev_istore_n dJ1_indexOf_4cfef_14 (by decide) ?_
  refine ev_iload_n dJ1_indexOf_4cfef_15 rfl ?_
  refine ev_aload_n dJ1_indexOf_4cfef_16 rfl ?_
  refine ev_txtL dJ1_indexOf_4cfef_17 htv0 ?_
  refine e_min dJ1_indexOf_4cfef_18 mm_14_38 mn_st mx_in mn_co (Nat.le_of_ble_eq_true rfl) (by omega) ?_
  refine ev_istore_n dJ1_indexOf_4cfef_21 (by decide) ?_
  refine ev_iload_n dJ1_indexOf_4cfef_22 rfl ?_
  refine ev_iload_n dJ1_indexOf_4cfef_23 rfl ?_
  refine ev_icmpF (tgt := 29) dJ1_indexOf_4cfef_24 (by decide) c1 ?_
  refine ev_iconst (v := (-1)) dJ1_indexOf_4cfef_27 ki_m1 ?_
  exact ev_iret dJ1_indexOf_4cfef_28 rfl rfl hp
theorem bJ1_indexOf_4cfef_4_2 {g : GG} {d n : Nat} {post : Option Value → LX → Prop} {X : LX} (hd : 1 ≤ d) (hn : 146 ≤ n) (hX : Sh n X) {tv0 : Nat} {v1 : Int32} {v2 : Int32} {v3 : Int32} {s0 : Int32} (htv0 : tv0 < 14) (c0 : ¬ s0 = 0) (c1 : (if v2 < 0 then 0 else v2) < (if (nI (tLn.getD tv0 0)) < v3 then (nI (tLn.getD tv0 0)) else v3)) (k : Ev g mJ1_indexOf_4cfef d n n post n 33 [some (.ref (2000 + tv0)), some (.int v1), some (.int (if v2 < 0 then 0 else v2)), some (.int (if (nI (tLn.getD tv0 0)) < v3 then (nI (tLn.getD tv0 0)) else v3))] [.int (if (nI (tLn.getD tv0 0)) < v3 then (nI (tLn.getD tv0 0)) else v3), .int (if v2 < 0 then 0 else v2), .int v1, .ref (2000 + tv0)] X) : Ev g mJ1_indexOf_4cfef d n n post n 4 [some (.ref (2000 + tv0)), some (.int v1), some (.int v2), some (.int v3)] [.int s0] X := by
  refine ev_ifT (tgt := 9) dJ1_indexOf_4cfef_4 (by decide) c0 ?_
  refine ev_iload_n dJ1_indexOf_4cfef_9 rfl ?_
  refine ev_iconst (v := 0) dJ1_indexOf_4cfef_10 ki_0 ?_
  refine e_max dJ1_indexOf_4cfef_11 mm_14_92 mx_st mx_in mx_co (Nat.le_of_ble_eq_true rfl) (by omega) ?_
  refine ev_istore_n dJ1_indexOf_4cfef_14 (by decide) ?_
  refine ev_iload_n dJ1_indexOf_4cfef_15 rfl ?_
  refine ev_aload_n dJ1_indexOf_4cfef_16 rfl ?_
  refine ev_txtL dJ1_indexOf_4cfef_17 htv0 ?_
  refine e_min dJ1_indexOf_4cfef_18 mm_14_38 mn_st mx_in mn_co (Nat.le_of_ble_eq_true rfl) (by omega) ?_
  refine ev_istore_n dJ1_indexOf_4cfef_21 (by decide) ?_
  refine ev_iload_n dJ1_indexOf_4cfef_22 rfl ?_
  refine ev_iload_n dJ1_indexOf_4cfef_23 rfl ?_
  refine ev_icmpT (tgt := 29) dJ1_indexOf_4cfef_24 (by decide) c1 ?_
  refine ev_aload_n dJ1_indexOf_4cfef_29 rfl ?_
  refine ev_iload_n dJ1_indexOf_4cfef_30 rfl ?_
  refine ev_iload_n dJ1_indexOf_4cfef_31 rfl ?_
  refine ev_iload_n dJ1_indexOf_4cfef_32 rfl ?_
  exact k
theorem bJ1_indexOf_4cfef_36_0 {g : GG} {d n : Nat} {post : Option Value → LX → Prop} {X : LX} (hn : 146 ≤ n) (hX : Sh n X) {tv0 : Nat} {v1 : Int32} {v2 : Int32} {v3 : Int32} {s0 : Int32} (htv0 : tv0 < 14) (hp : post (some (.int s0)) X) : Ev g mJ1_indexOf_4cfef d n n post n 36 [some (.ref (2000 + tv0)), some (.int v1), some (.int v2), some (.int v3)] [.int s0] X := by
  exact ev_iret dJ1_indexOf_4cfef_36 rfl rfl hp
theorem bJ0_indexOf_7cf53_0_0 {g : GG} {d n : Nat} {post : Option Value → LX → Prop} {X : LX} (hn : 146 ≤ n) (hX : Sh n X) {tv0 : Nat} {v1 : Int32} {v2 : Int32} (htv0 : tv0 < 14) (k : Ev g mJ0_indexOf_7cf53 d n n post n 1 [some (.ref (1000 + tv0)), some (.int v1), some (.int v2)] [.ref (1000 + tv0)] X) : Ev g mJ0_indexOf_7cf53 d n n post n 0 [some (.ref (1000 + tv0)), some (.int v1), some (.int v2)] [] X := by
  refine ev_aload_n dJ0_indexOf_7cf53_0 rfl ?_
  exact k
theorem bJ0_indexOf_7cf53_4_0 {g : GG} {d n : Nat} {post : Option Value → LX → Prop} {X : LX} (hn : 146 ≤ n) (hX : Sh n X) {tv0 : Nat} {v1 : Int32} {v2 : Int32} {s0 : Int32} (htv0 : tv0 < 14) (c0 : ¬ s0 = 0) (k : Ev g mJ0_indexOf_7cf53 d n n post n 14 [some (.ref (1000 + tv0)), some (.int v1), some (.int v2)] [.ref (1000 + tv0), .int v2, .int v1, .ref (2000 + tv0)] X) : Ev g mJ0_indexOf_7cf53 d n n post n 4 [some (.ref (1000 + tv0)), some (.int v1), some (.int v2)] [.int s0] X := by
  refine ev_ifF (tgt := 23) dJ0_indexOf_7cf53_4 (by decide) c0 ?_
  refine ev_aload_n dJ0_indexOf_7cf53_7 rfl ?_
  refine ev_txtV dJ0_indexOf_7cf53_8 jw_13_9 htv0 ?_
  refine ev_iload_n dJ0_indexOf_7cf53_11 rfl ?_
  refine ev_iload_n dJ0_indexOf_7cf53_12 rfl ?_
  refine ev_aload_n dJ0_indexOf_7cf53_13 rfl ?_
  exact k
theorem bJ0_indexOf_7cf53_4_1 {g : GG} {d n : Nat} {post : Option Value → LX → Prop} {X : LX} (hn : 146 ≤ n) (hX : Sh n X) {tv0 : Nat} {v1 : Int32} {v2 : Int32} {s0 : Int32} (htv0 : tv0 < 14) (c0 : s0 = 0) (k : Ev g mJ0_indexOf_7cf53 d n n post n 30 [some (.ref (1000 + tv0)), some (.int v1), some (.int v2)] [.ref (1000 + tv0), .int v2, .int v1, .ref (2000 + tv0)] X) : Ev g mJ0_indexOf_7cf53 d n n post n 4 [some (.ref (1000 + tv0)), some (.int v1), some (.int v2)] [.int s0] X := by
  refine ev_ifT (tgt := 23) dJ0_indexOf_7cf53_4 (by decide) c0 ?_
  refine ev_aload_n dJ0_indexOf_7cf53_23 rfl ?_
  refine ev_txtV dJ0_indexOf_7cf53_24 jw_13_9 htv0 ?_
  refine ev_iload_n dJ0_indexOf_7cf53_27 rfl ?_
  refine ev_iload_n dJ0_indexOf_7cf53_28 rfl ?_
  refine ev_aload_n dJ0_indexOf_7cf53_29 rfl ?_
  exact k
theorem bJ0_indexOf_7cf53_17_0 {g : GG} {d n : Nat} {post : Option Value → LX → Prop} {X : LX} (hn : 146 ≤ n) (hX : Sh n X) {tv0 : Nat} {v1 : Int32} {v2 : Int32} {ts0 : Nat} {s1 : Int32} {s2 : Int32} {s3 : Int32} (htv0 : tv0 < 14) (hts0 : ts0 < 14) (k : Ev g mJ0_indexOf_7cf53 d n n post n 17 [some (.ref (1000 + tv0)), some (.int v1), some (.int v2)] [.int s3, .int s2, .int s1, .ref (2000 + ts0)] X) : Ev g mJ0_indexOf_7cf53 d n n post n 17 [some (.ref (1000 + tv0)), some (.int v1), some (.int v2)] [.int s3, .int s2, .int s1, .ref (2000 + ts0)] X := by
  exact k
theorem bJ0_indexOf_7cf53_20_0 {g : GG} {d n : Nat} {post : Option Value → LX → Prop} {X : LX} (hn : 146 ≤ n) (hX : Sh n X) {tv0 : Nat} {v1 : Int32} {v2 : Int32} {s0 : Int32} (htv0 : tv0 < 14) (hp : post (some (.int s0)) X) : Ev g mJ0_indexOf_7cf53 d n n post n 20 [some (.ref (1000 + tv0)), some (.int v1), some (.int v2)] [.int s0] X := by
  refine ev_goto (tgt := 36) dJ0_indexOf_7cf53_20 (by decide) ?_
  exact ev_iret dJ0_indexOf_7cf53_36 rfl rfl hp
theorem bJ0_indexOf_7cf53_33_0 {g : GG} {d n : Nat} {post : Option Value → LX → Prop} {X : LX} (hn : 146 ≤ n) (hX : Sh n X) {tv0 : Nat} {v1 : Int32} {v2 : Int32} {ts0 : Nat} {s1 : Int32} {s2 : Int32} {s3 : Int32} (htv0 : tv0 < 14) (hts0 : ts0 < 14) (k : Ev g mJ0_indexOf_7cf53 d n n post n 33 [some (.ref (1000 + tv0)), some (.int v1), some (.int v2)] [.int s3, .int s2, .int s1, .ref (2000 + ts0)] X) : Ev g mJ0_indexOf_7cf53 d n n post n 33 [some (.ref (1000 + tv0)), some (.int v1), some (.int v2)] [.int s3, .int s2, .int s1, .ref (2000 + ts0)] X := by
  exact k
theorem bJ0_indexOf_7cf53_36_0 {g : GG} {d n : Nat} {post : Option Value → LX → Prop} {X : LX} (hn : 146 ≤ n) (hX : Sh n X) {tv0 : Nat} {v1 : Int32} {v2 : Int32} {s0 : Int32} (htv0 : tv0 < 14) (hp : post (some (.int s0)) X) : Ev g mJ0_indexOf_7cf53 d n n post n 36 [some (.ref (1000 + tv0)), some (.int v1), some (.int v2)] [.int s0] X := by
  exact ev_iret dJ0_indexOf_7cf53_36 rfl rfl hp
theorem bJ0_indexOf_0f7a4_0_0 {g : GG} {d n : Nat} {post : Option Value → LX → Prop} {X : LX} (hn : 146 ≤ n) (hX : Sh n X) {tv0 : Nat} {v1 : Int32} (htv0 : tv0 < 14) (k : Ev g mJ0_indexOf_0f7a4 d n n post n 3 [some (.ref (1000 + tv0)), some (.int v1)] [.int 0, .int v1, .ref (1000 + tv0)] X) : Ev g mJ0_indexOf_0f7a4 d n n post n 0 [some (.ref (1000 + tv0)), some (.int v1)] [] X := by
  refine ev_aload_n dJ0_indexOf_0f7a4_0 rfl ?_
  refine ev_iload_n dJ0_indexOf_0f7a4_1 rfl ?_
  refine ev_iconst (v := 0) dJ0_indexOf_0f7a4_2 ki_0 ?_
  exact k
theorem bJ0_indexOf_0f7a4_6_0 {g : GG} {d n : Nat} {post : Option Value → LX → Prop} {X : LX} (hn : 146 ≤ n) (hX : Sh n X) {tv0 : Nat} {v1 : Int32} {s0 : Int32} (htv0 : tv0 < 14) (hp : post (some (.int s0)) X) : Ev g mJ0_indexOf_0f7a4 d n n post n 6 [some (.ref (1000 + tv0)), some (.int v1)] [.int s0] X := by
  exact ev_iret dJ0_indexOf_0f7a4_6 rfl rfl hp
theorem qJ0_length_8abf5_6 {g : GG} {d d' n : Nat} {post post1 : Option Value → LX → Prop} {L : List (Option Value)} {rest : List Value} {X : LX}  {t : Nat} (ht : t < 14) (hn : 146 ≤ n) (hdd : d' + 1 ≤ d) (hs8 : (rest.map fun v => v.category).sum ≤ 8) (hEx : Ex g mJ0_coder_7d493 d' n n [.ref (1000 + t)] X post1) (k : ∀ v X1, post1 v X1 → Ev g mJ0_length_8abf5 d n n post n 9 L (v.toList ++ rest) X1) : Ev g mJ0_length_8abf5 d n n post n 6 L (.ref (1000 + t) :: rest) X :=
  ev_callV (as := []) (rest := rest) dJ0_length_8abf5_6 vJ0_coder_7d493 ml_13_335 isJ0_coder_7d493 seJ0_coder_7d493 npJ0_coder_7d493 (rcv_t ht) hdd (by show 64 * (d' + 1) ≤ 64 * d; omega) (by decide) rfl hs8 (Nat.le_refl n) (Nat.le_refl _) (Nat.le_refl _) hEx k
theorem qJ0_checkIndex_df160_5 {g : GG} {d d' n : Nat} {post post1 : Option Value → LX → Prop} {L : List (Option Value)} {rest : List Value} {X : LX} {a1 : Int32} {a2 : Int32} (hn : 146 ≤ n) (hdd : d' + 1 ≤ d) (hs8 : (rest.map fun v => v.category).sum ≤ 8) (hEx : Ex g mJ3_checkIndex_8e157 d' n n [.int a1, .int a2, .retAddr 0] X post1) (k : ∀ v X1, post1 v X1 → Ev g mJ0_checkIndex_df160 d n n post n 8 L (v.toList ++ rest) X1) : Ev g mJ0_checkIndex_df160 d n n post n 5 L (.retAddr 0 :: .int a2 :: .int a1 :: rest) X :=
  ev_callS (as := [.int a1, .int a2, .retAddr 0]) (rest := rest) dJ0_checkIndex_df160_5 vJ3_checkIndex_8e157 ml_13_1059 stJ3_checkIndex_8e157 npJ3_checkIndex_8e157 hdd (by show 64 * (d' + 1) ≤ 64 * d; omega) (by decide) rfl hs8 (Nat.le_refl n) (Nat.le_refl _) (Nat.le_refl _) hEx k
theorem qJ1_charAt_3b067_3 {g : GG} {d d' n : Nat} {post post1 : Option Value → LX → Prop} {L : List (Option Value)} {rest : List Value} {X : LX} {a1 : Int32} {a2 : Int32} (hn : 146 ≤ n) (hdd : d' + 1 ≤ d) (hs8 : (rest.map fun v => v.category).sum ≤ 8) (hEx : Ex g mJ0_checkIndex_df160 d' n n [.int a1, .int a2] X post1) (k : ∀ v X1, post1 v X1 → Ev g mJ1_charAt_3b067 d n n post n 6 L (v.toList ++ rest) X1) : Ev g mJ1_charAt_3b067 d n n post n 3 L (.int a2 :: .int a1 :: rest) X :=
  ev_callS (as := [.int a1, .int a2]) (rest := rest) dJ1_charAt_3b067_3 vJ0_checkIndex_df160 ml_14_9 stJ0_checkIndex_df160 npJ0_checkIndex_df160 hdd (by show 64 * (d' + 1) ≤ 64 * d; omega) (by decide) rfl hs8 (Nat.le_refl n) (Nat.le_refl _) (Nat.le_refl _) hEx k
theorem qJ0_charAt_5068e_1 {g : GG} {d d' n : Nat} {post post1 : Option Value → LX → Prop} {L : List (Option Value)} {rest : List Value} {X : LX}  {t : Nat} (ht : t < 14) (hn : 146 ≤ n) (hdd : d' + 1 ≤ d) (hs8 : (rest.map fun v => v.category).sum ≤ 8) (hEx : Ex g mJ0_isLatin1_aae02 d' n n [.ref (1000 + t)] X post1) (k : ∀ v X1, post1 v X1 → Ev g mJ0_charAt_5068e d n n post n 4 L (v.toList ++ rest) X1) : Ev g mJ0_charAt_5068e d n n post n 1 L (.ref (1000 + t) :: rest) X :=
  ev_callV (as := []) (rest := rest) dJ0_charAt_5068e_1 vJ0_isLatin1_aae02 ml_13_492 isJ0_isLatin1_aae02 seJ0_isLatin1_aae02 npJ0_isLatin1_aae02 (rcv_t ht) hdd (by show 64 * (d' + 1) ≤ 64 * d; omega) (by decide) rfl hs8 (Nat.le_refl n) (Nat.le_refl _) (Nat.le_refl _) hEx k
theorem qJ0_charAt_5068e_12 {g : GG} {d d' n : Nat} {post post1 : Option Value → LX → Prop} {L : List (Option Value)} {rest : List Value} {X : LX} {a1 : Nat} {a2 : Int32} (hn : 146 ≤ n) (hdd : d' + 1 ≤ d) (hs8 : (rest.map fun v => v.category).sum ≤ 8) (hEx : Ex g mJ1_charAt_3b067 d' n n [.ref a1, .int a2] X post1) (k : ∀ v X1, post1 v X1 → Ev g mJ0_charAt_5068e d n n post n 15 L (v.toList ++ rest) X1) : Ev g mJ0_charAt_5068e d n n post n 12 L (.int a2 :: .ref a1 :: rest) X :=
  ev_callS (as := [.ref a1, .int a2]) (rest := rest) dJ0_charAt_5068e_12 vJ1_charAt_3b067 ml_13_495 stJ1_charAt_3b067 npJ1_charAt_3b067 hdd (by show 64 * (d' + 1) ≤ 64 * d; omega) (by decide) rfl hs8 (Nat.le_refl n) (Nat.le_refl _) (Nat.le_refl _) hEx k
theorem qJ1_indexOf_4cfef_1 {g : GG} {d d' n : Nat} {post post1 : Option Value → LX → Prop} {L : List (Option Value)} {rest : List Value} {X : LX} {a1 : Int32} (hn : 146 ≤ n) (hdd : d' + 1 ≤ d) (hs8 : (rest.map fun v => v.category).sum ≤ 8) (hEx : Ex g mJ1_canEncode_9a6ad d' n n [.int a1] X post1) (k : ∀ v X1, post1 v X1 → Ev g mJ1_indexOf_4cfef d n n post n 4 L (v.toList ++ rest) X1) : Ev g mJ1_indexOf_4cfef d n n post n 1 L (.int a1 :: rest) X :=
  ev_callS (as := [.int a1]) (rest := rest) dJ1_indexOf_4cfef_1 vJ1_canEncode_9a6ad ml_14_88 stJ1_canEncode_9a6ad npJ1_canEncode_9a6ad hdd (by show 64 * (d' + 1) ≤ 64 * d; omega) (by decide) rfl hs8 (Nat.le_refl n) (Nat.le_refl _) (Nat.le_refl _) hEx k
theorem qJ1_indexOf_4cfef_33 {g : GG} {d d' n : Nat} {post post1 : Option Value → LX → Prop} {L : List (Option Value)} {rest : List Value} {X : LX} {a1 : Nat} {a2 : Int32} {a3 : Int32} {a4 : Int32} (hn : 146 ≤ n) (hdd : d' + 1 ≤ d) (hs8 : (rest.map fun v => v.category).sum ≤ 8) (hEx : Ex g mJ1_indexOfChar_4cfef d' n n [.ref a1, .int a2, .int a3, .int a4] X post1) (k : ∀ v X1, post1 v X1 → Ev g mJ1_indexOf_4cfef d n n post n 36 L (v.toList ++ rest) X1) : Ev g mJ1_indexOf_4cfef d n n post n 33 L (.int a4 :: .int a3 :: .int a2 :: .ref a1 :: rest) X :=
  ev_callS (as := [.ref a1, .int a2, .int a3, .int a4]) (rest := rest) dJ1_indexOf_4cfef_33 vJ1_indexOfChar_4cfef ml_14_95 stJ1_indexOfChar_4cfef npJ1_indexOfChar_4cfef hdd (by show 64 * (d' + 1) ≤ 64 * d; omega) (by decide) rfl hs8 (Nat.le_refl n) (Nat.le_refl _) (Nat.le_refl _) hEx k
theorem qJ0_indexOf_7cf53_1 {g : GG} {d d' n : Nat} {post post1 : Option Value → LX → Prop} {L : List (Option Value)} {rest : List Value} {X : LX}  {t : Nat} (ht : t < 14) (hn : 146 ≤ n) (hdd : d' + 1 ≤ d) (hs8 : (rest.map fun v => v.category).sum ≤ 8) (hEx : Ex g mJ0_isLatin1_aae02 d' n n [.ref (1000 + t)] X post1) (k : ∀ v X1, post1 v X1 → Ev g mJ0_indexOf_7cf53 d n n post n 4 L (v.toList ++ rest) X1) : Ev g mJ0_indexOf_7cf53 d n n post n 1 L (.ref (1000 + t) :: rest) X :=
  ev_callV (as := []) (rest := rest) dJ0_indexOf_7cf53_1 vJ0_isLatin1_aae02 ml_13_492 isJ0_isLatin1_aae02 seJ0_isLatin1_aae02 npJ0_isLatin1_aae02 (rcv_t ht) hdd (by show 64 * (d' + 1) ≤ 64 * d; omega) (by decide) rfl hs8 (Nat.le_refl n) (Nat.le_refl _) (Nat.le_refl _) hEx k
theorem qJ0_indexOf_7cf53_14 {g : GG} {d d' n : Nat} {post post1 : Option Value → LX → Prop} {L : List (Option Value)} {rest : List Value} {X : LX}  {t : Nat} (ht : t < 14) (hn : 146 ≤ n) (hdd : d' + 1 ≤ d) (hs8 : (rest.map fun v => v.category).sum ≤ 8) (hEx : Ex g mJ0_length_8abf5 d' n n [.ref (1000 + t)] X post1) (k : ∀ v X1, post1 v X1 → Ev g mJ0_indexOf_7cf53 d n n post n 17 L (v.toList ++ rest) X1) : Ev g mJ0_indexOf_7cf53 d n n post n 14 L (.ref (1000 + t) :: rest) X :=
  ev_callV (as := []) (rest := rest) dJ0_indexOf_7cf53_14 vJ0_length_8abf5 ml_13_505 isJ0_length_8abf5 seJ0_length_8abf5 npJ0_length_8abf5 (rcv_t ht) hdd (by show 64 * (d' + 1) ≤ 64 * d; omega) (by decide) rfl hs8 (Nat.le_refl n) (Nat.le_refl _) (Nat.le_refl _) hEx k
theorem qJ0_indexOf_7cf53_17 {g : GG} {d d' n : Nat} {post post1 : Option Value → LX → Prop} {L : List (Option Value)} {rest : List Value} {X : LX} {a1 : Nat} {a2 : Int32} {a3 : Int32} {a4 : Int32} (hn : 146 ≤ n) (hdd : d' + 1 ≤ d) (hs8 : (rest.map fun v => v.category).sum ≤ 8) (hEx : Ex g mJ1_indexOf_4cfef d' n n [.ref a1, .int a2, .int a3, .int a4] X post1) (k : ∀ v X1, post1 v X1 → Ev g mJ0_indexOf_7cf53 d n n post n 20 L (v.toList ++ rest) X1) : Ev g mJ0_indexOf_7cf53 d n n post n 17 L (.int a4 :: .int a3 :: .int a2 :: .ref a1 :: rest) X :=
  ev_callS (as := [.ref a1, .int a2, .int a3, .int a4]) (rest := rest) dJ0_indexOf_7cf53_17 vJ1_indexOf_4cfef ml_13_637 stJ1_indexOf_4cfef npJ1_indexOf_4cfef hdd (by show 64 * (d' + 1) ≤ 64 * d; omega) (by decide) rfl hs8 (Nat.le_refl n) (Nat.le_refl _) (Nat.le_refl _) hEx k
theorem qJ0_indexOf_7cf53_30 {g : GG} {d d' n : Nat} {post post1 : Option Value → LX → Prop} {L : List (Option Value)} {rest : List Value} {X : LX}  {t : Nat} (ht : t < 14) (hn : 146 ≤ n) (hdd : d' + 1 ≤ d) (hs8 : (rest.map fun v => v.category).sum ≤ 8) (hEx : Ex g mJ0_length_8abf5 d' n n [.ref (1000 + t)] X post1) (k : ∀ v X1, post1 v X1 → Ev g mJ0_indexOf_7cf53 d n n post n 33 L (v.toList ++ rest) X1) : Ev g mJ0_indexOf_7cf53 d n n post n 30 L (.ref (1000 + t) :: rest) X :=
  ev_callV (as := []) (rest := rest) dJ0_indexOf_7cf53_30 vJ0_length_8abf5 ml_13_505 isJ0_length_8abf5 seJ0_length_8abf5 npJ0_length_8abf5 (rcv_t ht) hdd (by show 64 * (d' + 1) ≤ 64 * d; omega) (by decide) rfl hs8 (Nat.le_refl n) (Nat.le_refl _) (Nat.le_refl _) hEx k
theorem qJ0_indexOf_0f7a4_3 {g : GG} {d d' n : Nat} {post post1 : Option Value → LX → Prop} {L : List (Option Value)} {rest : List Value} {X : LX} {a1 : Int32} {a2 : Int32} {t : Nat} (ht : t < 14) (hn : 146 ≤ n) (hdd : d' + 1 ≤ d) (hs8 : (rest.map fun v => v.category).sum ≤ 8) (hEx : Ex g mJ0_indexOf_7cf53 d' n n [.ref (1000 + t), .int a1, .int a2] X post1) (k : ∀ v X1, post1 v X1 → Ev g mJ0_indexOf_0f7a4 d n n post n 6 L (v.toList ++ rest) X1) : Ev g mJ0_indexOf_0f7a4 d n n post n 3 L (.int a2 :: .int a1 :: .ref (1000 + t) :: rest) X :=
  ev_callV (as := [.int a1, .int a2]) (rest := rest) dJ0_indexOf_0f7a4_3 vJ0_indexOf_7cf53 ml_13_633 isJ0_indexOf_7cf53 seJ0_indexOf_7cf53 npJ0_indexOf_7cf53 (rcv_t ht) hdd (by show 64 * (d' + 1) ≤ 64 * d; omega) (by decide) rfl hs8 (Nat.le_refl n) (Nat.le_refl _) (Nat.le_refl _) hEx k
