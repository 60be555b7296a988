/-! BLOCKS of the worth of a law. -/
theorem bX2_nameOf_0_0 {g : GG} {d n : Nat} {post : Option Value → LX → Prop} {X : LX} (hn : 146 ≤ n) (hX : Sh n X) {v1 : Nat} (c0 : ¬ nI v1 < 0) (c1 : ¬ 5 ≤ nI v1) (b0 : v1 < 5) (hp : post (some (.int (X 80 v1))) X) : Ev g mX2_nameOf d n n post n 0 [some (.ref 77), some (.int (nI v1))] [] X := by
  refine ev_iload_n dX2_nameOf_0 rfl ?_
  refine ev_ifF (tgt := 18) dX2_nameOf_1 (by decide) c0 ?_
  refine ev_iload_n dX2_nameOf_4 rfl ?_
  refine ev_iconst (v := 5) dX2_nameOf_5 ki_5 ?_
  refine ev_icmpF (tgt := 18) dX2_nameOf_6 (by decide) c1 ?_
  refine ev_aload_n dX2_nameOf_9 rfl ?_
  refine ev_getS (q := 80) dX2_nameOf_10 fo_2_18 (by omega) lo_77 rfl (sh_77_5 hX (by omega)) (by decide) ?_
  refine ev_iload_n dX2_nameOf_13 rfl ?_
  refine ev_iald dX2_nameOf_14 (by omega) ly_80 rfl b0 ?_
  refine ev_goto (tgt := 19) dX2_nameOf_15 (by decide) ?_
  exact ev_iret dX2_nameOf_19 rfl rfl hp
theorem bX2_nameOf_0_1 {g : GG} {d n : Nat} {post : Option Value → LX → Prop} {X : LX} (hn : 146 ≤ n) (hX : Sh n X) {v1 : Int32} (c0 : ¬ v1 < 0) (c1 : 5 ≤ v1) (hp : post (some (.int 0)) X) : Ev g mX2_nameOf d n n post n 0 [some (.ref 77), some (.int v1)] [] X := by
  refine ev_iload_n dX2_nameOf_0 rfl ?_
  refine ev_ifF (tgt := 18) dX2_nameOf_1 (by decide) c0 ?_
  refine ev_iload_n dX2_nameOf_4 rfl ?_
  refine ev_iconst (v := 5) dX2_nameOf_5 ki_5 ?_
  refine ev_icmpT (tgt := 18) dX2_nameOf_6 (by decide) c1 ?_
  refine ev_iconst (v := 0) dX2_nameOf_18 ki_0 ?_
  exact ev_iret dX2_nameOf_19 rfl rfl hp
theorem bX2_nameOf_0_2 {g : GG} {d n : Nat} {post : Option Value → LX → Prop} {X : LX} (hn : 146 ≤ n) (hX : Sh n X) {v1 : Int32} (c0 : v1 < 0) (hp : post (some (.int 0)) X) : Ev g mX2_nameOf d n n post n 0 [some (.ref 77), some (.int v1)] [] X := by
  refine ev_iload_n dX2_nameOf_0 rfl ?_
  refine ev_ifT (tgt := 18) dX2_nameOf_1 (by decide) c0 ?_
  refine ev_iconst (v := 0) dX2_nameOf_18 ki_0 ?_
  exact ev_iret dX2_nameOf_19 rfl rfl hp
theorem bX2_join_0_0 {g : GG} {d n : Nat} {post : Option Value → LX → Prop} {X : LX} (hn : 146 ≤ n) (hX : Sh n X) {v0 : Int32} {v1 : Int32} {v2 : Int32} (c0 : ¬ v0 = 38) (c1 : ¬ v0 = 42) (c2 : ¬ v0 = 43) (c3 : ¬ v0 = 45) (c4 : ¬ v0 = 60) (c5 : ¬ v0 = 61) (c6 : ¬ v0 = 62) (c7 : ¬ v0 = 124) (c8 : v2 = 0) (hp : post (some (.int 0)) X) : Ev g mX2_join d n n post n 0 [some (.int v0), some (.int v1), some (.int v2)] [] X := by
  refine ev_iload_n dX2_join_0 rfl ?_
  refine ev_look (tgt := 164) (off := 163) dX2_join_1 (by decide +kernel) (by show Op.lookupswitch.offset [(38, 92), (42, 159), (43, 151), (45, 155), (60, 109), (61, 123), (62, 137), (124, 75)] 163 v0.toInt = 163; rw [lv_osw (a := 38) c0 (by decide), lv_osw (a := 42) c1 (by decide), lv_osw (a := 43) c2 (by decide), lv_osw (a := 45) c3 (by decide), lv_osw (a := 60) c4 (by decide), lv_osw (a := 61) c5 (by decide), lv_osw (a := 62) c6 (by decide), lv_osw (a := 124) c7 (by decide)]; rfl) (by decide) ?_
  refine ev_iload_n dX2_join_164 rfl ?_
  refine ev_ifF (tgt := 172) dX2_join_165 (by decide) c8 ?_
  refine ev_iconst (v := 0) dX2_join_168 ki_0 ?_
  refine ev_goto (tgt := 175) dX2_join_169 (by decide) ?_
  exact ev_iret dX2_join_175 rfl rfl hp
theorem bX2_join_0_1 {g : GG} {d n : Nat} {post : Option Value → LX → Prop} {X : LX} (hn : 146 ≤ n) (hX : Sh n X) {v0 : Int32} {v1 : Int32} {v2 : Int32} (c0 : ¬ v0 = 38) (c1 : ¬ v0 = 42) (c2 : ¬ v0 = 43) (c3 : ¬ v0 = 45) (c4 : ¬ v0 = 60) (c5 : ¬ v0 = 61) (c6 : ¬ v0 = 62) (c7 : ¬ v0 = 124) (c8 : ¬ v2 = 0) (c9 : ¬ v2 = 0) (hp : post (some (.int (v1 / v2))) X) : Ev g mX2_join d n n post n 0 [some (.int v0), some (.int v1), some (.int v2)] [] X := by
  refine ev_iload_n dX2_join_0 rfl ?_
  refine ev_look (tgt := 164) (off := 163) dX2_join_1 (by decide +kernel) (by show Op.lookupswitch.offset [(38, 92), (42, 159), (43, 151), (45, 155), (60, 109), (61, 123), (62, 137), (124, 75)] 163 v0.toInt = 163; rw [lv_osw (a := 38) c0 (by decide), lv_osw (a := 42) c1 (by decide), lv_osw (a := 43) c2 (by decide), lv_osw (a := 45) c3 (by decide), lv_osw (a := 60) c4 (by decide), lv_osw (a := 61) c5 (by decide), lv_osw (a := 62) c6 (by decide), lv_osw (a := 124) c7 (by decide)]; rfl) (by decide) ?_
  refine ev_iload_n dX2_join_164 rfl ?_
  refine ev_ifT (tgt := 172) dX2_join_165 (by decide) c8 ?_
  refine ev_iload_n dX2_join_172 rfl ?_
  refine ev_iload_n dX2_join_173 rfl ?_
  refine ev_idiv dX2_join_174 c9 ?_
  exact ev_iret dX2_join_175 rfl rfl hp
theorem bX2_join_0_2 {g : GG} {d n : Nat} {post : Option Value → LX → Prop} {X : LX} (hd : 1 ≤ d) (hn : 146 ≤ n) (hX : Sh n X) {v0 : Int32} {v1 : Int32} {v2 : Int32} (c0 : v0 = 38) (c1 : ¬ v1 = 0) (c2 : ¬ v2 = 0) (hp : post (some (.int 1)) X) : Ev g mX2_join d n n post n 0 [some (.int v0), some (.int v1), some (.int v2)] [] X := by
  refine ev_iload_n dX2_join_0 rfl ?_
  refine ev_look (tgt := 93) (off := 92) dX2_join_1 (by decide +kernel) (by rw [c0]; decide +kernel) (by decide) ?_
  refine ev_iload_n dX2_join_93 rfl ?_
  refine ev_ifF (tgt := 105) dX2_join_94 (by decide) c1 ?_
  refine ev_iload_n dX2_join_97 rfl ?_
  refine ev_ifF (tgt := 105) dX2_join_98 (by decide) c2 ?_
  refine ev_iconst (v := 1) dX2_join_101 ki_1 ?_
  refine ev_goto (tgt := 106) dX2_join_102 (by decide) ?_
  refine e_SNi (as := [.int 1]) (rest := []) dX2_join_106 vX11_truth ml_2_53 rfl rfl rfl stX11_truth npX11_truth (by decide) rfl (Nat.le_of_ble_eq_true rfl) (by omega) (t_X11_truth (d := d - 1) (by omega) (by omega) hX (by decide)) ?_
  exact ev_iret dX2_join_109 rfl rfl hp
theorem bX2_join_0_3 {g : GG} {d n : Nat} {post : Option Value → LX → Prop} {X : LX} (hd : 1 ≤ d) (hn : 146 ≤ n) (hX : Sh n X) {v0 : Int32} {v1 : Int32} {v2 : Int32} (c0 : v0 = 38) (c1 : ¬ v1 = 0) (c2 : v2 = 0) (hp : post (some (.int 0)) X) : Ev g mX2_join d n n post n 0 [some (.int v0), some (.int v1), some (.int v2)] [] X := by
  refine ev_iload_n dX2_join_0 rfl ?_
  refine ev_look (tgt := 93) (off := 92) dX2_join_1 (by decide +kernel) (by rw [c0]; decide +kernel) (by decide) ?_
  refine ev_iload_n dX2_join_93 rfl ?_
  refine ev_ifF (tgt := 105) dX2_join_94 (by decide) c1 ?_
  refine ev_iload_n dX2_join_97 rfl ?_
  refine ev_ifT (tgt := 105) dX2_join_98 (by decide) c2 ?_
  refine ev_iconst (v := 0) dX2_join_105 ki_0 ?_
  refine e_SNi (as := [.int 0]) (rest := []) dX2_join_106 vX11_truth ml_2_53 rfl rfl rfl stX11_truth npX11_truth (by decide) rfl (Nat.le_of_ble_eq_true rfl) (by omega) (f_X11_truth (d := d - 1) (by omega) (by omega) hX (by decide)) ?_
  exact ev_iret dX2_join_109 rfl rfl hp
theorem bX2_join_0_4 {g : GG} {d n : Nat} {post : Option Value → LX → Prop} {X : LX} (hd : 1 ≤ d) (hn : 146 ≤ n) (hX : Sh n X) {v0 : Int32} {v1 : Int32} {v2 : Int32} (c0 : v0 = 38) (c1 : v1 = 0) (hp : post (some (.int 0)) X) : Ev g mX2_join d n n post n 0 [some (.int v0), some (.int v1), some (.int v2)] [] X := by
  refine ev_iload_n dX2_join_0 rfl ?_
  refine ev_look (tgt := 93) (off := 92) dX2_join_1 (by decide +kernel) (by rw [c0]; decide +kernel) (by decide) ?_
  refine ev_iload_n dX2_join_93 rfl ?_
  refine ev_ifT (tgt := 105) dX2_join_94 (by decide) c1 ?_
  refine ev_iconst (v := 0) dX2_join_105 ki_0 ?_
  refine e_SNi (as := [.int 0]) (rest := []) dX2_join_106 vX11_truth ml_2_53 rfl rfl rfl stX11_truth npX11_truth (by decide) rfl (Nat.le_of_ble_eq_true rfl) (by omega) (f_X11_truth (d := d - 1) (by omega) (by omega) hX (by decide)) ?_
  exact ev_iret dX2_join_109 rfl rfl hp
theorem bX2_join_0_5 {g : GG} {d n : Nat} {post : Option Value → LX → Prop} {X : LX} (hn : 146 ≤ n) (hX : Sh n X) {v0 : Int32} {v1 : Int32} {v2 : Int32} (c0 : v0 = 42) (hp : post (some (.int (v1 * v2))) X) : Ev g mX2_join d n n post n 0 [some (.int v0), some (.int v1), some (.int v2)] [] X := by
  refine ev_iload_n dX2_join_0 rfl ?_
  refine ev_look (tgt := 160) (off := 159) dX2_join_1 (by decide +kernel) (by rw [c0]; decide +kernel) (by decide) ?_
  refine ev_iload_n dX2_join_160 rfl ?_
  refine ev_iload_n dX2_join_161 rfl ?_
  refine ev_imul dX2_join_162 ?_
  exact ev_iret dX2_join_163 rfl rfl hp
theorem bX2_join_0_6 {g : GG} {d n : Nat} {post : Option Value → LX → Prop} {X : LX} (hn : 146 ≤ n) (hX : Sh n X) {v0 : Int32} {v1 : Int32} {v2 : Int32} (c0 : v0 = 43) (hp : post (some (.int (v1 + v2))) X) : Ev g mX2_join d n n post n 0 [some (.int v0), some (.int v1), some (.int v2)] [] X := by
  refine ev_iload_n dX2_join_0 rfl ?_
  refine ev_look (tgt := 152) (off := 151) dX2_join_1 (by decide +kernel) (by rw [c0]; decide +kernel) (by decide) ?_
  refine ev_iload_n dX2_join_152 rfl ?_
  refine ev_iload_n dX2_join_153 rfl ?_
  refine ev_iadd dX2_join_154 ?_
  exact ev_iret dX2_join_155 rfl rfl hp
theorem bX2_join_0_7 {g : GG} {d n : Nat} {post : Option Value → LX → Prop} {X : LX} (hn : 146 ≤ n) (hX : Sh n X) {v0 : Int32} {v1 : Int32} {v2 : Int32} (c0 : v0 = 45) (hp : post (some (.int (v1 - v2))) X) : Ev g mX2_join d n n post n 0 [some (.int v0), some (.int v1), some (.int v2)] [] X := by
  refine ev_iload_n dX2_join_0 rfl ?_
  refine ev_look (tgt := 156) (off := 155) dX2_join_1 (by decide +kernel) (by rw [c0]; decide +kernel) (by decide) ?_
  refine ev_iload_n dX2_join_156 rfl ?_
  refine ev_iload_n dX2_join_157 rfl ?_
  refine ev_isub dX2_join_158 ?_
  exact ev_iret dX2_join_159 rfl rfl hp
theorem bX2_join_0_8 {g : GG} {d n : Nat} {post : Option Value → LX → Prop} {X : LX} (hd : 1 ≤ d) (hn : 146 ≤ n) (hX : Sh n X) {v0 : Int32} {v1 : Int32} {v2 : Int32} (c0 : v0 = 60) (c1 : ¬ v2 ≤ v1) (hp : post (some (.int 1)) X) : Ev g mX2_join d n n post n 0 [some (.int v0), some (.int v1), some (.int v2)] [] X := by
  refine ev_iload_n dX2_join_0 rfl ?_
  refine ev_look (tgt := 110) (off := 109) dX2_join_1 (by decide +kernel) (by rw [c0]; decide +kernel) (by decide) ?_
  refine ev_iload_n dX2_join_110 rfl ?_
  refine ev_iload_n dX2_join_111 rfl ?_
  refine ev_icmpF (tgt := 119) dX2_join_112 (by decide) c1 ?_
  refine ev_iconst (v := 1) dX2_join_115 ki_1 ?_
  refine ev_goto (tgt := 120) dX2_join_116 (by decide) ?_
  refine e_SNi (as := [.int 1]) (rest := []) dX2_join_120 vX11_truth ml_2_53 rfl rfl rfl stX11_truth npX11_truth (by decide) rfl (Nat.le_of_ble_eq_true rfl) (by omega) (t_X11_truth (d := d - 1) (by omega) (by omega) hX (by decide)) ?_
  exact ev_iret dX2_join_123 rfl rfl hp
theorem bX2_join_0_9 {g : GG} {d n : Nat} {post : Option Value → LX → Prop} {X : LX} (hd : 1 ≤ d) (hn : 146 ≤ n) (hX : Sh n X) {v0 : Int32} {v1 : Int32} {v2 : Int32} (c0 : v0 = 60) (c1 : v2 ≤ v1) (hp : post (some (.int 0)) X) : Ev g mX2_join d n n post n 0 [some (.int v0), some (.int v1), some (.int v2)] [] X := by
  refine ev_iload_n dX2_join_0 rfl ?_
  refine ev_look (tgt := 110) (off := 109) dX2_join_1 (by decide +kernel) (by rw [c0]; decide +kernel) (by decide) ?_
  refine ev_iload_n dX2_join_110 rfl ?_
  refine ev_iload_n dX2_join_111 rfl ?_
  refine ev_icmpT (tgt := 119) dX2_join_112 (by decide) c1 ?_
  refine ev_iconst (v := 0) dX2_join_119 ki_0 ?_
  refine e_SNi (as := [.int 0]) (rest := []) dX2_join_120 vX11_truth ml_2_53 rfl rfl rfl stX11_truth npX11_truth (by decide) rfl (Nat.le_of_ble_eq_true rfl) (by omega) (f_X11_truth (d := d - 1) (by omega) (by omega) hX (by decide)) ?_
  exact ev_iret dX2_join_123 rfl rfl hp
theorem bX2_join_0_10 {g : GG} {d n : Nat} {post : Option Value → LX → Prop} {X : LX} (hd : 1 ≤ d) (hn : 146 ≤ n) (hX : Sh n X) {v0 : Int32} {v1 : Int32} {v2 : Int32} (c0 : v0 = 61) (c1 : v1 = v2) (hp : post (some (.int 1)) X) : Ev g mX2_join d n n post n 0 [some (.int v0), some (.int v1), some (.int v2)] [] X := by
  refine ev_iload_n dX2_join_0 rfl ?_
  refine ev_look (tgt := 124) (off := 123) dX2_join_1 (by decide +kernel) (by rw [c0]; decide +kernel) (by decide) ?_
  refine ev_iload_n dX2_join_124 rfl ?_
  refine ev_iload_n dX2_join_125 rfl ?_
  refine ev_icmpF (tgt := 133) dX2_join_126 (by decide) c1 ?_
  refine ev_iconst (v := 1) dX2_join_129 ki_1 ?_
  refine ev_goto (tgt := 134) dX2_join_130 (by decide) ?_
  refine e_SNi (as := [.int 1]) (rest := []) dX2_join_134 vX11_truth ml_2_53 rfl rfl rfl stX11_truth npX11_truth (by decide) rfl (Nat.le_of_ble_eq_true rfl) (by omega) (t_X11_truth (d := d - 1) (by omega) (by omega) hX (by decide)) ?_
  exact ev_iret dX2_join_137 rfl rfl hp
theorem bX2_join_0_11 {g : GG} {d n : Nat} {post : Option Value → LX → Prop} {X : LX} (hd : 1 ≤ d) (hn : 146 ≤ n) (hX : Sh n X) {v0 : Int32} {v1 : Int32} {v2 : Int32} (c0 : v0 = 61) (c1 : ¬ v1 = v2) (hp : post (some (.int 0)) X) : Ev g mX2_join d n n post n 0 [some (.int v0), some (.int v1), some (.int v2)] [] X := by
  refine ev_iload_n dX2_join_0 rfl ?_
  refine ev_look (tgt := 124) (off := 123) dX2_join_1 (by decide +kernel) (by rw [c0]; decide +kernel) (by decide) ?_
  refine ev_iload_n dX2_join_124 rfl ?_
  refine ev_iload_n dX2_join_125 rfl ?_
  refine ev_icmpT (tgt := 133) dX2_join_126 (by decide) c1 ?_
  refine ev_iconst (v := 0) dX2_join_133 ki_0 ?_
  refine e_SNi (as := [.int 0]) (rest := []) dX2_join_134 vX11_truth ml_2_53 rfl rfl rfl stX11_truth npX11_truth (by decide) rfl (Nat.le_of_ble_eq_true rfl) (by omega) (f_X11_truth (d := d - 1) (by omega) (by omega) hX (by decide)) ?_
  exact ev_iret dX2_join_137 rfl rfl hp
theorem bX2_join_0_12 {g : GG} {d n : Nat} {post : Option Value → LX → Prop} {X : LX} (hd : 1 ≤ d) (hn : 146 ≤ n) (hX : Sh n X) {v0 : Int32} {v1 : Int32} {v2 : Int32} (c0 : v0 = 62) (c1 : ¬ v1 ≤ v2) (hp : post (some (.int 1)) X) : Ev g mX2_join d n n post n 0 [some (.int v0), some (.int v1), some (.int v2)] [] X := by
  refine ev_iload_n dX2_join_0 rfl ?_
  refine ev_look (tgt := 138) (off := 137) dX2_join_1 (by decide +kernel) (by rw [c0]; decide +kernel) (by decide) ?_
  refine ev_iload_n dX2_join_138 rfl ?_
  refine ev_iload_n dX2_join_139 rfl ?_
  refine ev_icmpF (tgt := 147) dX2_join_140 (by decide) c1 ?_
  refine ev_iconst (v := 1) dX2_join_143 ki_1 ?_
  refine ev_goto (tgt := 148) dX2_join_144 (by decide) ?_
  refine e_SNi (as := [.int 1]) (rest := []) dX2_join_148 vX11_truth ml_2_53 rfl rfl rfl stX11_truth npX11_truth (by decide) rfl (Nat.le_of_ble_eq_true rfl) (by omega) (t_X11_truth (d := d - 1) (by omega) (by omega) hX (by decide)) ?_
  exact ev_iret dX2_join_151 rfl rfl hp
theorem bX2_join_0_13 {g : GG} {d n : Nat} {post : Option Value → LX → Prop} {X : LX} (hd : 1 ≤ d) (hn : 146 ≤ n) (hX : Sh n X) {v0 : Int32} {v1 : Int32} {v2 : Int32} (c0 : v0 = 62) (c1 : v1 ≤ v2) (hp : post (some (.int 0)) X) : Ev g mX2_join d n n post n 0 [some (.int v0), some (.int v1), some (.int v2)] [] X := by
  refine ev_iload_n dX2_join_0 rfl ?_
  refine ev_look (tgt := 138) (off := 137) dX2_join_1 (by decide +kernel) (by rw [c0]; decide +kernel) (by decide) ?_
  refine ev_iload_n dX2_join_138 rfl ?_
  refine ev_iload_n dX2_join_139 rfl ?_
  refine ev_icmpT (tgt := 147) dX2_join_140 (by decide) c1 ?_
  refine ev_iconst (v := 0) dX2_join_147 ki_0 ?_
  refine e_SNi (as := [.int 0]) (rest := []) dX2_join_148 vX11_truth ml_2_53 rfl rfl rfl stX11_truth npX11_truth (by decide) rfl (Nat.le_of_ble_eq_true rfl) (by omega) (f_X11_truth (d := d - 1) (by omega) (by omega) hX (by decide)) ?_
  exact ev_iret dX2_join_151 rfl rfl hp
theorem bX2_join_0_14 {g : GG} {d n : Nat} {post : Option Value → LX → Prop} {X : LX} (hd : 1 ≤ d) (hn : 146 ≤ n) (hX : Sh n X) {v0 : Int32} {v1 : Int32} {v2 : Int32} (c0 : v0 = 124) (c1 : v1 = 0) (c2 : ¬ v2 = 0) (hp : post (some (.int 1)) X) : Ev g mX2_join d n n post n 0 [some (.int v0), some (.int v1), some (.int v2)] [] X := by
  refine ev_iload_n dX2_join_0 rfl ?_
  refine ev_look (tgt := 76) (off := 75) dX2_join_1 (by decide +kernel) (by rw [c0]; decide +kernel) (by decide) ?_
  refine ev_iload_n dX2_join_76 rfl ?_
  refine ev_ifF (tgt := 84) dX2_join_77 (by decide) c1 ?_
  refine ev_iload_n dX2_join_80 rfl ?_
  refine ev_ifF (tgt := 88) dX2_join_81 (by decide) c2 ?_
  refine ev_iconst (v := 1) dX2_join_84 ki_1 ?_
  refine ev_goto (tgt := 89) dX2_join_85 (by decide) ?_
  refine e_SNi (as := [.int 1]) (rest := []) dX2_join_89 vX11_truth ml_2_53 rfl rfl rfl stX11_truth npX11_truth (by decide) rfl (Nat.le_of_ble_eq_true rfl) (by omega) (t_X11_truth (d := d - 1) (by omega) (by omega) hX (by decide)) ?_
  exact ev_iret dX2_join_92 rfl rfl hp
theorem bX2_join_0_15 {g : GG} {d n : Nat} {post : Option Value → LX → Prop} {X : LX} (hd : 1 ≤ d) (hn : 146 ≤ n) (hX : Sh n X) {v0 : Int32} {v1 : Int32} {v2 : Int32} (c0 : v0 = 124) (c1 : v1 = 0) (c2 : v2 = 0) (hp : post (some (.int 0)) X) : Ev g mX2_join d n n post n 0 [some (.int v0), some (.int v1), some (.int v2)] [] X := by
  refine ev_iload_n dX2_join_0 rfl ?_
  refine ev_look (tgt := 76) (off := 75) dX2_join_1 (by decide +kernel) (by rw [c0]; decide +kernel) (by decide) ?_
  refine ev_iload_n dX2_join_76 rfl ?_
  refine ev_ifF (tgt := 84) dX2_join_77 (by decide) c1 ?_
  refine ev_iload_n dX2_join_80 rfl ?_
  refine ev_ifT (tgt := 88) dX2_join_81 (by decide) c2 ?_
  refine ev_iconst (v := 0) dX2_join_88 ki_0 ?_
  refine e_SNi (as := [.int 0]) (rest := []) dX2_join_89 vX11_truth ml_2_53 rfl rfl rfl stX11_truth npX11_truth (by decide) rfl (Nat.le_of_ble_eq_true rfl) (by omega) (f_X11_truth (d := d - 1) (by omega) (by omega) hX (by decide)) ?_
  exact ev_iret dX2_join_92 rfl rfl hp
theorem bX2_join_0_16 {g : GG} {d n : Nat} {post : Option Value → LX → Prop} {X : LX} (hd : 1 ≤ d) (hn : 146 ≤ n) (hX : Sh n X) {v0 : Int32} {v1 : Int32} {v2 : Int32} (c0 : v0 = 124) (c1 : ¬ v1 = 0) (hp : post (some (.int 1)) X) : Ev g mX2_join d n n post n 0 [some (.int v0), some (.int v1), some (.int v2)] [] X := by
  refine ev_iload_n dX2_join_0 rfl ?_
  refine ev_look (tgt := 76) (off := 75) dX2_join_1 (by decide +kernel) (by rw [c0]; decide +kernel) (by decide) ?_
  refine ev_iload_n dX2_join_76 rfl ?_
  refine ev_ifT (tgt := 84) dX2_join_77 (by decide) c1 ?_
  refine ev_iconst (v := 1) dX2_join_84 ki_1 ?_
  refine ev_goto (tgt := 89) dX2_join_85 (by decide) ?_
  refine e_SNi (as := [.int 1]) (rest := []) dX2_join_89 vX11_truth ml_2_53 rfl rfl rfl stX11_truth npX11_truth (by decide) rfl (Nat.le_of_ble_eq_true rfl) (by omega) (t_X11_truth (d := d - 1) (by omega) (by omega) hX (by decide)) ?_
  exact ev_iret dX2_join_92 rfl rfl hp
theorem bX2_worth_0_0 {g : GG} {d n : Nat} {post : Option Value → LX → Prop} {X : LX} (hn : 146 ≤ n) (hX : Sh n X) {v1 : Int32} {v2 : Int32} (k : Ev g mX2_worth d n n post n 5 [some (.ref 77), some (.int v1), some (.int v2), some (.int 0), some (.int v1), none] [] X) : Ev g mX2_worth d n n post n 0 [some (.ref 77), some (.int v1), some (.int v2), none, none, none] [] X := by
  refine ev_iconst (v := 0) dX2_worth_0 ki_0 ?_
  refine ev_istore_n dX2_worth_1 (by decide) ?_
  refine ev_iload_n dX2_worth_2 rfl ?_
  refine ev_istore dX2_worth_3 (by decide) ?_
  exact k
theorem bX2_worth_5_0 {g : GG} {d n : Nat} {post : Option Value → LX → Prop} {X : LX} (hn : 146 ≤ n) (hX : Sh n X) {v1 : Int32} {v2 : Int32} {v3 : Nat} {v4 : Nat} (c0 : ¬ v2 ≤ nI v4) (b0 : v4 < 120) (c1 : ¬ 0 ≤ X 78 v4) (c2 : ¬ (-1000) < X 78 v4) (c3 : ¬ nI 120 ≤ nI v3) (c4 : ¬ X 78 v4 < 0) (b1 : v3 < 120) (k : Ev g mX2_worth d n n post n 5 [some (.ref 77), some (.int v1), some (.int v2), some (.int ((nI v3) + 1)), some (.int ((nI v4) + 1)), none] [] (lx_up X 79 v3 (X 78 v4))) : Ev g mX2_worth d n n post n 5 [some (.ref 77), some (.int v1), some (.int v2), some (.int (nI v3)), some (.int (nI v4)), none] [] X := by
  refine ev_iload dX2_worth_5 rfl ?_
  refine ev_iload_n dX2_worth_7 rfl ?_
  refine ev_icmpF (tgt := 157) dX2_worth_8 (by decide) c0 ?_
  refine ev_aload_n dX2_worth_11 rfl ?_
  refine ev_getS (q := 78) dX2_worth_12 fo_2_9 (by omega) lo_77 rfl (sh_77_3 hX (by omega)) (by decide) ?_
  refine ev_iload dX2_worth_15 rfl ?_
  refine ev_iald dX2_worth_17 (by omega) ly_78 rfl b0 ?_
  refine ev_istore dX2_worth_18 (by decide) ?_
  refine ev_iload dX2_worth_20 rfl ?_
  refine ev_ifF (tgt := 33) dX2_worth_22 (by decide) c1 ?_
  refine ev_iload dX2_worth_25 rfl ?_
  refine ev_sipush (v := (-1000)) dX2_worth_27 ks_m1000 ?_
  refine ev_icmpF (tgt := 74) dX2_worth_30 (by decide) c2 ?_
  refine ev_iload_n dX2_worth_33 rfl ?_
  refine ev_aload_n dX2_worth_34 rfl ?_
  refine ev_getS (q := 79) dX2_worth_35 fo_2_15 (by omega) lo_77 rfl (sh_77_4 hX (by omega)) (by decide) ?_
  refine ev_alen dX2_worth_38 (by omega) ly_79 (by decide) ?_
  refine ev_icmpF (tgt := 151) dX2_worth_39 (by decide) c3 ?_
  refine ev_aload_n dX2_worth_42 rfl ?_
  refine ev_getS (q := 79) dX2_worth_43 fo_2_15 (by omega) lo_77 rfl (sh_77_4 hX (by omega)) (by decide) ?_
  refine ev_iload_n dX2_worth_46 rfl ?_
  refine ev_iinc (v := (nI v3) + 1) dX2_worth_47 rfl (by rw [show Int32.ofInt 1 = 1 from ki_1]) (by decide) ?_
  refine ev_iload dX2_worth_50 rfl ?_
  refine ev_ifF (tgt := 60) dX2_worth_52 (by decide) c4 ?_
  refine ev_iload dX2_worth_55 rfl ?_
  refine ev_goto (tgt := 70) dX2_worth_57 (by decide) ?_
  refine ev_iast dX2_worth_70 (by omega) ly_79 rfl b1 ?_
  have hX1 : Sh _ (lx_up X 79 v3 (X 78 v4)) := Sh.upA hX (by rw [ly_79]; exact (by decide : 0 < 2))
  refine ev_goto (tgt := 151) dX2_worth_71 (by decide) ?_
  refine ev_iinc (v := (nI v4) + 1) dX2_worth_151 rfl (by rw [show Int32.ofInt 1 = 1 from ki_1]) (by decide) ?_
  refine ev_goto (tgt := 5) dX2_worth_154 (by decide) ?_
  refine ev_wk (L := [some (.ref 77), some (.int v1), some (.int v2), some (.int ((nI v3) + 1)), some (.int ((nI v4) + 1)), some (.int (X 78 v4))]) (L' := [some (.ref 77), some (.int v1), some (.int v2), some (.int ((nI v3) + 1)), some (.int ((nI v4) + 1)), none]) (by simp [lwk]) ?_
  exact k
theorem bX2_worth_5_1 {g : GG} {d n : Nat} {post : Option Value → LX → Prop} {X : LX} (hn : 146 ≤ n) (hX : Sh n X) {v1 : Int32} {v2 : Int32} {v3 : Int32} {v4 : Nat} (c0 : ¬ v2 ≤ nI v4) (b0 : v4 < 120) (c1 : ¬ 0 ≤ X 78 v4) (c2 : ¬ (-1000) < X 78 v4) (c3 : ¬ nI 120 ≤ v3) (c4 : X 78 v4 < 0) (k : Ev g mX2_worth d n n post n 67 [some (.ref 77), some (.int v1), some (.int v2), some (.int (v3 + 1)), some (.int (nI v4)), some (.int (X 78 v4))] [.int ((-1000) - (X 78 v4)), .ref 77, .int v3, .ref 79] X) : Ev g mX2_worth d n n post n 5 [some (.ref 77), some (.int v1), some (.int v2), some (.int v3), some (.int (nI v4)), none] [] X := by
  refine ev_iload dX2_worth_5 rfl ?_
  refine ev_iload_n dX2_worth_7 rfl ?_
  refine ev_icmpF (tgt := 157) dX2_worth_8 (by decide) c0 ?_
  refine ev_aload_n dX2_worth_11 rfl ?_
  refine ev_getS (q := 78) dX2_worth_12 fo_2_9 (by omega) lo_77 rfl (sh_77_3 hX (by omega)) (by decide) ?_
  refine ev_iload dX2_worth_15 rfl ?_
  refine ev_iald dX2_worth_17 (by omega) ly_78 rfl b0 ?_
  refine ev_istore dX2_worth_18 (by decide) ?_
  refine ev_iload dX2_worth_20 rfl ?_
  refine ev_ifF (tgt := 33) dX2_worth_22 (by decide) c1 ?_
  refine ev_iload dX2_worth_25 rfl ?_
  refine ev_sipush (v := (-1000)) dX2_worth_27 ks_m1000 ?_
  refine ev_icmpF (tgt := 74) dX2_worth_30 (by decide) c2 ?_
  refine ev_iload_n dX2_worth_33 rfl ?_
  refine ev_aload_n dX2_worth_34 rfl ?_
  refine ev_getS (q := 79) dX2_worth_35 fo_2_15 (by omega) lo_77 rfl (sh_77_4 hX (by omega)) (by decide) ?_
  refine ev_alen dX2_worth_38 (by omega) ly_79 (by decide) ?_
  refine ev_icmpF (tgt := 151) dX2_worth_39 (by decide) c3 ?_
  refine ev_aload_n dX2_worth_42 rfl ?_
  refine ev_getS (q := 79) dX2_worth_43 fo_2_15 (by omega) lo_77 rfl (sh_77_4 hX (by omega)) (by decide) ?_
  refine ev_iload_n dX2_worth_46 rfl ?_
  refine ev_iinc (v := v3 + 1) dX2_worth_47 rfl (by rw [show Int32.ofInt 1 = 1 from ki_1]) (by decide) ?_
  refine ev_iload dX2_worth_50 rfl ?_
  refine ev_ifT (tgt := 60) dX2_worth_52 (by decide) c4 ?_
  refine ev_aload_n dX2_worth_60 rfl ?_
  refine ev_sipush (v := (-1000)) dX2_worth_61 ks_m1000 ?_
  refine ev_iload dX2_worth_64 rfl ?_
  refine ev_isub dX2_worth_66 ?_
  exact k
theorem bX2_worth_5_2 {g : GG} {d n : Nat} {post : Option Value → LX → Prop} {X : LX} (hn : 146 ≤ n) (hX : Sh n X) {v1 : Int32} {v2 : Int32} {v3 : Int32} {v4 : Nat} (c0 : ¬ v2 ≤ nI v4) (b0 : v4 < 120) (c1 : ¬ 0 ≤ X 78 v4) (c2 : ¬ (-1000) < X 78 v4) (c3 : nI 120 ≤ v3) (k : Ev g mX2_worth d n n post n 5 [some (.ref 77), some (.int v1), some (.int v2), some (.int v3), some (.int ((nI v4) + 1)), none] [] X) : Ev g mX2_worth d n n post n 5 [some (.ref 77), some (.int v1), some (.int v2), some (.int v3), some (.int (nI v4)), none] [] X := by
  refine ev_iload dX2_worth_5 rfl ?_
  refine ev_iload_n dX2_worth_7 rfl ?_
  refine ev_icmpF (tgt := 157) dX2_worth_8 (by decide) c0 ?_
  refine ev_aload_n dX2_worth_11 rfl ?_
  refine ev_getS (q := 78) dX2_worth_12 fo_2_9 (by omega) lo_77 rfl (sh_77_3 hX (by omega)) (by decide) ?_
  refine ev_iload dX2_worth_15 rfl ?_
  refine ev_iald dX2_worth_17 (by omega) ly_78 rfl b0 ?_
  refine ev_istore dX2_worth_18 (by decide) ?_
  refine ev_iload dX2_worth_20 rfl ?_
  refine ev_ifF (tgt := 33) dX2_worth_22 (by decide) c1 ?_
  refine ev_iload dX2_worth_25 rfl ?_
  refine ev_sipush (v := (-1000)) dX2_worth_27 ks_m1000 ?_
  refine ev_icmpF (tgt := 74) dX2_worth_30 (by decide) c2 ?_
  refine ev_iload_n dX2_worth_33 rfl ?_
  refine ev_aload_n dX2_worth_34 rfl ?_
  refine ev_getS (q := 79) dX2_worth_35 fo_2_15 (by omega) lo_77 rfl (sh_77_4 hX (by omega)) (by decide) ?_
  refine ev_alen dX2_worth_38 (by omega) ly_79 (by decide) ?_
  refine ev_icmpT (tgt := 151) dX2_worth_39 (by decide) c3 ?_
  refine ev_iinc (v := (nI v4) + 1) dX2_worth_151 rfl (by rw [show Int32.ofInt 1 = 1 from ki_1]) (by decide) ?_
  refine ev_goto (tgt := 5) dX2_worth_154 (by decide) ?_
  refine ev_wk (L := [some (.ref 77), some (.int v1), some (.int v2), some (.int v3), some (.int ((nI v4) + 1)), some (.int (X 78 v4))]) (L' := [some (.ref 77), some (.int v1), some (.int v2), some (.int v3), some (.int ((nI v4) + 1)), none]) (by simp [lwk]) ?_
  exact k
theorem bX2_worth_5_3 {g : GG} {d n : Nat} {post : Option Value → LX → Prop} {X : LX} (hd : 1 ≤ d) (hn : 146 ≤ n) (hX : Sh n X) {v1 : Int32} {v2 : Int32} {v3 : Int32} {v4 : Nat} {j1 : Nat} (c0 : ¬ v2 ≤ nI v4) (b0 : v4 < 120) (c1 : ¬ 0 ≤ X 78 v4) (c2 : (-1000) < X 78 v4) (c3 : X 78 v4 = (-33)) (c4 : ¬ v3 ≤ 0) (hj1 : v3 - 1 = nI j1) (b1 : j1 < 120) (c5 : X 79 j1 = 0) (k : Ev g mX2_worth d n n post n 5 [some (.ref 77), some (.int v1), some (.int v2), some (.int v3), some (.int ((nI v4) + 1)), none] [] (lx_up X 79 j1 1)) : Ev g mX2_worth d n n post n 5 [some (.ref 77), some (.int v1), some (.int v2), some (.int v3), some (.int (nI v4)), none] [] X := by
  refine ev_iload dX2_worth_5 rfl ?_
  refine ev_iload_n dX2_worth_7 rfl ?_
  refine ev_icmpF (tgt := 157) dX2_worth_8 (by decide) c0 ?_
  refine ev_aload_n dX2_worth_11 rfl ?_
  refine ev_getS (q := 78) dX2_worth_12 fo_2_9 (by omega) lo_77 rfl (sh_77_3 hX (by omega)) (by decide) ?_
  refine ev_iload dX2_worth_15 rfl ?_
  refine ev_iald dX2_worth_17 (by omega) ly_78 rfl b0 ?_
  refine ev_istore dX2_worth_18 (by decide) ?_
  refine ev_iload dX2_worth_20 rfl ?_
  refine ev_ifF (tgt := 33) dX2_worth_22 (by decide) c1 ?_
  refine ev_iload dX2_worth_25 rfl ?_
  refine ev_sipush (v := (-1000)) dX2_worth_27 ks_m1000 ?_
  refine ev_icmpT (tgt := 74) dX2_worth_30 (by decide) c2 ?_
  refine ev_iload dX2_worth_74 rfl ?_
  refine ev_bipush (v := (-33)) dX2_worth_76 kb_m33 ?_
  refine ev_icmpF (tgt := 115) dX2_worth_78 (by decide) c3 ?_
  refine ev_iload_n dX2_worth_81 rfl ?_
  refine ev_ifF (tgt := 151) dX2_worth_82 (by decide) c4 ?_
  refine ev_aload_n dX2_worth_85 rfl ?_
  refine ev_getS (q := 79) dX2_worth_86 fo_2_15 (by omega) lo_77 rfl (sh_77_4 hX (by omega)) (by decide) ?_
  refine ev_iload_n dX2_worth_89 rfl ?_
  refine ev_iconst (v := 1) dX2_worth_90 ki_1 ?_
  refine ev_isub dX2_worth_91 ?_
  refine ev_aload_n dX2_worth_92 rfl ?_
  refine ev_getS (q := 79) dX2_worth_93 fo_2_15 (by omega) lo_77 rfl (sh_77_4 hX (by omega)) (by decide) ?_
  refine ev_iload_n dX2_worth_96 rfl ?_
  refine ev_iconst (v := 1) dX2_worth_97 ki_1 ?_
  refine ev_isub dX2_worth_98 ?_
  refine ev_iald dX2_worth_99 (by omega) ly_79 hj1 b1 ?_
  refine ev_ifF (tgt := 107) dX2_worth_100 (by decide) c5 ?_
  refine ev_iconst (v := 1) dX2_worth_103 ki_1 ?_
  refine ev_goto (tgt := 108) dX2_worth_104 (by decide) ?_
  refine e_SNi (as := [.int 1]) (rest := [.int (v3 - 1), .ref 79]) dX2_worth_108 vX11_truth ml_2_53 rfl rfl rfl stX11_truth npX11_truth (by decide) rfl (Nat.le_of_ble_eq_true rfl) (by omega) (t_X11_truth (d := d - 1) (by omega) (by omega) hX (by decide)) ?_
  refine ev_iast dX2_worth_111 (by omega) ly_79 hj1 b1 ?_
  have hX1 : Sh _ (lx_up X 79 j1 1) := Sh.upA hX (by rw [ly_79]; exact (by decide : 0 < 2))
  refine ev_goto (tgt := 151) dX2_worth_112 (by decide) ?_
  refine ev_iinc (v := (nI v4) + 1) dX2_worth_151 rfl (by rw [show Int32.ofInt 1 = 1 from ki_1]) (by decide) ?_
  refine ev_goto (tgt := 5) dX2_worth_154 (by decide) ?_
  refine ev_wk (L := [some (.ref 77), some (.int v1), some (.int v2), some (.int v3), some (.int ((nI v4) + 1)), some (.int (X 78 v4))]) (L' := [some (.ref 77), some (.int v1), some (.int v2), some (.int v3), some (.int ((nI v4) + 1)), none]) (by simp [lwk]) ?_
  exact k
theorem bX2_worth_5_4 {g : GG} {d n : Nat} {post : Option Value → LX → Prop} {X : LX} (hd : 1 ≤ d) (hn : 146 ≤ n) (hX : Sh n X) {v1 : Int32} {v2 : Int32} {v3 : Int32} {v4 : Nat} {j1 : Nat} (c0 : ¬ v2 ≤ nI v4) (b0 : v4 < 120) (c1 : ¬ 0 ≤ X 78 v4) (c2 : (-1000) < X 78 v4) (c3 : X 78 v4 = (-33)) (c4 : ¬ v3 ≤ 0) (hj1 : v3 - 1 = nI j1) (b1 : j1 < 120) (c5 : ¬ X 79 j1 = 0) (k : Ev g mX2_worth d n n post n 5 [some (.ref 77), some (.int v1), some (.int v2), some (.int v3), some (.int ((nI v4) + 1)), none] [] (lx_up X 79 j1 0)) : Ev g mX2_worth d n n post n 5 [some (.ref 77), some (.int v1), some (.int v2), some (.int v3), some (.int (nI v4)), none] [] X := by
  refine ev_iload dX2_worth_5 rfl ?_
  refine ev_iload_n dX2_worth_7 rfl ?_
  refine ev_icmpF (tgt := 157) dX2_worth_8 (by decide) c0 ?_
  refine ev_aload_n dX2_worth_11 rfl ?_
  refine ev_getS (q := 78) dX2_worth_12 fo_2_9 (by omega) lo_77 rfl (sh_77_3 hX (by omega)) (by decide) ?_
  refine ev_iload dX2_worth_15 rfl ?_
  refine ev_iald dX2_worth_17 (by omega) ly_78 rfl b0 ?_
  refine ev_istore dX2_worth_18 (by decide) ?_
  refine ev_iload dX2_worth_20 rfl ?_
  refine ev_ifF (tgt := 33) dX2_worth_22 (by decide) c1 ?_
  refine ev_iload dX2_worth_25 rfl ?_
  refine ev_sipush (v := (-1000)) dX2_worth_27 ks_m1000 ?_
  refine ev_icmpT (tgt := 74) dX2_worth_30 (by decide) c2 ?_
  refine ev_iload dX2_worth_74 rfl ?_
  refine ev_bipush (v := (-33)) dX2_worth_76 kb_m33 ?_
  refine ev_icmpF (tgt := 115) dX2_worth_78 (by decide) c3 ?_
  refine ev_iload_n dX2_worth_81 rfl ?_
  refine ev_ifF (tgt := 151) dX2_worth_82 (by decide) c4 ?_
  refine ev_aload_n dX2_worth_85 rfl ?_
  refine ev_getS (q := 79) dX2_worth_86 fo_2_15 (by omega) lo_77 rfl (sh_77_4 hX (by omega)) (by decide) ?_
  refine ev_iload_n dX2_worth_89 rfl ?_
  refine ev_iconst (v := 1) dX2_worth_90 ki_1 ?_
  refine ev_isub dX2_worth_91 ?_
  refine ev_aload_n dX2_worth_92 rfl ?_
  refine ev_getS (q := 79) dX2_worth_93 fo_2_15 (by omega) lo_77 rfl (sh_77_4 hX (by omega)) (by decide) ?_
  refine ev_iload_n dX2_worth_96 rfl ?_
  refine ev_iconst (v := 1) dX2_worth_97 ki_1 ?_
  refine ev_isub dX2_worth_98 ?_
  refine ev_iald dX2_worth_99 (by omega) ly_79 hj1 b1 ?_
  refine ev_ifT (tgt := 107) dX2_worth_100 (by decide) c5 ?_
  refine ev_iconst (v := 0) dX2_worth_107 ki_0 ?_
  refine e_SNi (as := [.int 0]) (rest := [.int (v3 - 1), .ref 79]) dX2_worth_108 vX11_truth ml_2_53 rfl rfl rfl stX11_truth npX11_truth (by decide) rfl (Nat.le_of_ble_eq_true rfl) (by omega) (f_X11_truth (d := d - 1) (by omega) (by omega) hX (by decide)) ?_
  refine ev_iast dX2_worth_111 (by omega) ly_79 hj1 b1 ?_
  have hX1 : Sh _ (lx_up X 79 j1 0) := Sh.upA hX (by rw [ly_79]; exact (by decide : 0 < 2))
  refine ev_goto (tgt := 151) dX2_worth_112 (by decide) ?_
  refine ev_iinc (v := (nI v4) + 1) dX2_worth_151 rfl (by rw [show Int32.ofInt 1 = 1 from ki_1]) (by decide) ?_
  refine ev_goto (tgt := 5) dX2_worth_154 (by decide) ?_
  refine ev_wk (L := [some (.ref 77), some (.int v1), some (.int v2), some (.int v3), some (.int ((nI v4) + 1)), some (.int (X 78 v4))]) (L' := [some (.ref 77), some (.int v1), some (.int v2), some (.int v3), some (.int ((nI v4) + 1)), none]) (by simp [lwk]) ?_
  exact k
theorem bX2_worth_5_5 {g : GG} {d n : Nat} {post : Option Value → LX → Prop} {X : LX} (hn : 146 ≤ n) (hX : Sh n X) {v1 : Int32} {v2 : Int32} {v3 : Int32} {v4 : Nat} (c0 : ¬ v2 ≤ nI v4) (b0 : v4 < 120) (c1 : ¬ 0 ≤ X 78 v4) (c2 : (-1000) < X 78 v4) (c3 : X 78 v4 = (-33)) (c4 : v3 ≤ 0) (k : Ev g mX2_worth d n n post n 5 [some (.ref 77), some (.int v1), some (.int v2), some (.int v3), some (.int ((nI v4) + 1)), none] [] X) : Ev g mX2_worth d n n post n 5 [some (.ref 77), some (.int v1), some (.int v2), some (.int v3), some (.int (nI v4)), none] [] X := by
  refine ev_iload dX2_worth_5 rfl ?_
  refine ev_iload_n dX2_worth_7 rfl ?_
  refine ev_icmpF (tgt := 157) dX2_worth_8 (by decide) c0 ?_
  refine ev_aload_n dX2_worth_11 rfl ?_
  refine ev_getS (q := 78) dX2_worth_12 fo_2_9 (by omega) lo_77 rfl (sh_77_3 hX (by omega)) (by decide) ?_
  refine ev_iload dX2_worth_15 rfl ?_
  refine ev_iald dX2_worth_17 (by omega) ly_78 rfl b0 ?_
  refine ev_istore dX2_worth_18 (by decide) ?_
  refine ev_iload dX2_worth_20 rfl ?_
  refine ev_ifF (tgt := 33) dX2_worth_22 (by decide) c1 ?_
  refine ev_iload dX2_worth_25 rfl ?_
  refine ev_sipush (v := (-1000)) dX2_worth_27 ks_m1000 ?_
  refine ev_icmpT (tgt := 74) dX2_worth_30 (by decide) c2 ?_
  refine ev_iload dX2_worth_74 rfl ?_
  refine ev_bipush (v := (-33)) dX2_worth_76 kb_m33 ?_
  refine ev_icmpF (tgt := 115) dX2_worth_78 (by decide) c3 ?_
  refine ev_iload_n dX2_worth_81 rfl ?_
  refine ev_ifT (tgt := 151) dX2_worth_82 (by decide) c4 ?_
  refine ev_iinc (v := (nI v4) + 1) dX2_worth_151 rfl (by rw [show Int32.ofInt 1 = 1 from ki_1]) (by decide) ?_
  refine ev_goto (tgt := 5) dX2_worth_154 (by decide) ?_
  refine ev_wk (L := [some (.ref 77), some (.int v1), some (.int v2), some (.int v3), some (.int ((nI v4) + 1)), some (.int (X 78 v4))]) (L' := [some (.ref 77), some (.int v1), some (.int v2), some (.int v3), some (.int ((nI v4) + 1)), none]) (by simp [lwk]) ?_
  exact k
theorem bX2_worth_5_6 {g : GG} {d n : Nat} {post : Option Value → LX → Prop} {X : LX} (hn : 146 ≤ n) (hX : Sh n X) {v1 : Int32} {v2 : Int32} {v3 : Nat} {v4 : Nat} {j1 : Nat} {j2 : Nat} (c0 : ¬ v2 ≤ nI v4) (b0 : v4 < 120) (c1 : ¬ 0 ≤ X 78 v4) (c2 : (-1000) < X 78 v4) (c3 : ¬ X 78 v4 = (-33)) (c4 : ¬ nI v3 ≤ 1) (hj1 : ((nI v3) + (-1)) - 1 = nI j1) (b1 : j1 < 120) (hj2 : (nI v3) + (-1) = nI j2) (b2 : j2 < 120) (k : Ev g mX2_worth d n n post n 147 [some (.ref 77), some (.int v1), some (.int v2), some (.int ((nI v3) + (-1))), some (.int (nI v4)), some (.int (X 78 v4))] [.int (X 79 j2), .int (X 79 j1), .int (-(X 78 v4)), .int (((nI v3) + (-1)) - 1), .ref 79] X) : Ev g mX2_worth d n n post n 5 [some (.ref 77), some (.int v1), some (.int v2), some (.int (nI v3)), some (.int (nI v4)), none] [] X := by
  refine ev_iload dX2_worth_5 rfl ?_
  refine ev_iload_n dX2_worth_7 rfl ?_
  refine ev_icmpF (tgt := 157) dX2_worth_8 (by decide) c0 ?_
  refine ev_aload_n dX2_worth_11 rfl ?_
  refine ev_getS (q := 78) dX2_worth_12 fo_2_9 (by omega) lo_77 rfl (sh_77_3 hX (by omega)) (by decide) ?_
  refine ev_iload dX2_worth_15 rfl ?_
  refine ev_iald dX2_worth_17 (by omega) ly_78 rfl b0 ?_
  refine ev_istore dX2_worth_18 (by decide) ?_
  refine ev_iload dX2_worth_20 rfl ?_
  refine ev_ifF (tgt := 33) dX2_worth_22 (by decide) c1 ?_
  refine ev_iload dX2_worth_25 rfl ?_
  refine ev_sipush (v := (-1000)) dX2_worth_27 ks_m1000 ?_
  refine ev_icmpT (tgt := 74) dX2_worth_30 (by decide) c2 ?_
  refine ev_iload dX2_worth_74 rfl ?_
  refine ev_bipush (v := (-33)) dX2_worth_76 kb_m33 ?_
  refine ev_icmpT (tgt := 115) dX2_worth_78 (by decide) c3 ?_
  refine ev_iload_n dX2_worth_115 rfl ?_
  refine ev_iconst (v := 1) dX2_worth_116 ki_1 ?_
  refine ev_icmpF (tgt := 151) dX2_worth_117 (by decide) c4 ?_
  refine ev_iinc (v := (nI v3) + (-1)) dX2_worth_120 rfl (by rw [show Int32.ofInt (-1) = (-1) from ki_m1]) (by decide) ?_
  refine ev_aload_n dX2_worth_123 rfl ?_
  refine ev_getS (q := 79) dX2_worth_124 fo_2_15 (by omega) lo_77 rfl (sh_77_4 hX (by omega)) (by decide) ?_
  refine ev_iload_n dX2_worth_127 rfl ?_
  refine ev_iconst (v := 1) dX2_worth_128 ki_1 ?_
  refine ev_isub dX2_worth_129 ?_
  refine ev_iload dX2_worth_130 rfl ?_
  refine ev_ineg dX2_worth_132 ?_
  refine ev_aload_n dX2_worth_133 rfl ?_
  refine ev_getS (q := 79) dX2_worth_134 fo_2_15 (by omega) lo_77 rfl (sh_77_4 hX (by omega)) (by decide) ?_
  refine ev_iload_n dX2_worth_137 rfl ?_
  refine ev_iconst (v := 1) dX2_worth_138 ki_1 ?_
  refine ev_isub dX2_worth_139 ?_
  refine ev_iald dX2_worth_140 (by omega) ly_79 hj1 b1 ?_
  refine ev_aload_n dX2_worth_141 rfl ?_
  refine ev_getS (q := 79) dX2_worth_142 fo_2_15 (by omega) lo_77 rfl (sh_77_4 hX (by omega)) (by decide) ?_
  refine ev_iload_n dX2_worth_145 rfl ?_
  refine ev_iald dX2_worth_146 (by omega) ly_79 hj2 b2 ?_
  exact k
theorem bX2_worth_5_7 {g : GG} {d n : Nat} {post : Option Value → LX → Prop} {X : LX} (hn : 146 ≤ n) (hX : Sh n X) {v1 : Int32} {v2 : Int32} {v3 : Int32} {v4 : Nat} (c0 : ¬ v2 ≤ nI v4) (b0 : v4 < 120) (c1 : ¬ 0 ≤ X 78 v4) (c2 : (-1000) < X 78 v4) (c3 : ¬ X 78 v4 = (-33)) (c4 : v3 ≤ 1) (k : Ev g mX2_worth d n n post n 5 [some (.ref 77), some (.int v1), some (.int v2), some (.int v3), some (.int ((nI v4) + 1)), none] [] X) : Ev g mX2_worth d n n post n 5 [some (.ref 77), some (.int v1), some (.int v2), some (.int v3), some (.int (nI v4)), none] [] X := by
  refine ev_iload dX2_worth_5 rfl ?_
  refine ev_iload_n dX2_worth_7 rfl ?_
  refine ev_icmpF (tgt := 157) dX2_worth_8 (by decide) c0 ?_
  refine ev_aload_n dX2_worth_11 rfl ?_
  refine ev_getS (q := 78) dX2_worth_12 fo_2_9 (by omega) lo_77 rfl (sh_77_3 hX (by omega)) (by decide) ?_
  refine ev_iload dX2_worth_15 rfl ?_
  refine ev_iald dX2_worth_17 (by omega) ly_78 rfl b0 ?_
  refine ev_istore dX2_worth_18 (by decide) ?_
  refine ev_iload dX2_worth_20 rfl ?_
  refine ev_ifF (tgt := 33) dX2_worth_22 (by decide) c1 ?_
  refine ev_iload dX2_worth_25 rfl ?_
  refine ev_sipush (v := (-1000)) dX2_worth_27 ks_m1000 ?_
  refine ev_icmpT (tgt := 74) dX2_worth_30 (by decide) c2 ?_
  refine ev_iload dX2_worth_74 rfl ?_
  refine ev_bipush (v := (-33)) dX2_worth_76 kb_m33 ?_
  refine ev_icmpT (tgt := 115) dX2_worth_78 (by decide) c3 ?_
  refine ev_iload_n dX2_worth_115 rfl ?_
  refine ev_iconst (v := 1) dX2_worth_116 ki_1 ?_
  refine ev_icmpT (tgt := 151) dX2_worth_117 (by decide) c4 ?_
  refine ev_iinc (v := (nI v4) + 1) dX2_worth_151 rfl (by rw [show Int32.ofInt 1 = 1 from ki_1]) (by decide) ?_
  refine ev_goto (tgt := 5) dX2_worth_154 (by decide) ?_
  refine ev_wk (L := [some (.ref 77), some (.int v1), some (.int v2), some (.int v3), some (.int ((nI v4) + 1)), some (.int (X 78 v4))]) (L' := [some (.ref 77), some (.int v1), some (.int v2), some (.int v3), some (.int ((nI v4) + 1)), none]) (by simp [lwk]) ?_
  exact k
theorem bX2_worth_5_8 {g : GG} {d n : Nat} {post : Option Value → LX → Prop} {X : LX} (hn : 146 ≤ n) (hX : Sh n X) {v1 : Int32} {v2 : Int32} {v3 : Nat} {v4 : Nat} (c0 : ¬ v2 ≤ nI v4) (b0 : v4 < 120) (c1 : 0 ≤ X 78 v4) (c2 : ¬ nI 120 ≤ nI v3) (c3 : ¬ X 78 v4 < 0) (b1 : v3 < 120) (k : Ev g mX2_worth d n n post n 5 [some (.ref 77), some (.int v1), some (.int v2), some (.int ((nI v3) + 1)), some (.int ((nI v4) + 1)), none] [] (lx_up X 79 v3 (X 78 v4))) : Ev g mX2_worth d n n post n 5 [some (.ref 77), some (.int v1), some (.int v2), some (.int (nI v3)), some (.int (nI v4)), none] [] X := by
  refine ev_iload dX2_worth_5 rfl ?_
  refine ev_iload_n dX2_worth_7 rfl ?_
  refine ev_icmpF (tgt := 157) dX2_worth_8 (by decide) c0 ?_
  refine ev_aload_n dX2_worth_11 rfl ?_
  refine ev_getS (q := 78) dX2_worth_12 fo_2_9 (by omega) lo_77 rfl (sh_77_3 hX (by omega)) (by decide) ?_
  refine ev_iload dX2_worth_15 rfl ?_
  refine ev_iald dX2_worth_17 (by omega) ly_78 rfl b0 ?_
  refine ev_istore dX2_worth_18 (by decide) ?_
  refine ev_iload dX2_worth_20 rfl ?_
  refine ev_ifT (tgt := 33) dX2_worth_22 (by decide) c1 ?_
  refine ev_iload_n dX2_worth_33 rfl ?_
  refine ev_aload_n dX2_worth_34 rfl ?_
  refine ev_getS (q := 79) dX2_worth_35 fo_2_15 (by omega) lo_77 rfl (sh_77_4 hX (by omega)) (by decide) ?_
  refine ev_alen dX2_worth_38 (by omega) ly_79 (by decide) ?_
  refine ev_icmpF (tgt := 151) dX2_worth_39 (by decide) c2 ?_
  refine ev_aload_n dX2_worth_42 rfl ?_
  refine ev_getS (q := 79) dX2_worth_43 fo_2_15 (by omega) lo_77 rfl (sh_77_4 hX (by omega)) (by decide) ?_
  refine ev_iload_n dX2_worth_46 rfl ?_
  refine ev_iinc (v := (nI v3) + 1) dX2_worth_47 rfl (by rw [show Int32.ofInt 1 = 1 from ki_1]) (by decide) ?_
  refine ev_iload dX2_worth_50 rfl ?_
  refine ev_ifF (tgt := 60) dX2_worth_52 (by decide) c3 ?_
  refine ev_iload dX2_worth_55 rfl ?_
  refine ev_goto (tgt := 70) dX2_worth_57 (by decide) ?_
  refine ev_iast dX2_worth_70 (by omega) ly_79 rfl b1 ?_
  have hX1 : Sh _ (lx_up X 79 v3 (X 78 v4)) := Sh.upA hX (by rw [ly_79]; exact (by decide : 0 < 2))
  refine ev_goto (tgt := 151) dX2_worth_71 (by decide) ?_
  refine ev_iinc (v := (nI v4) + 1) dX2_worth_151 rfl (by rw [show Int32.ofInt 1 = 1 from ki_1]) (by decide) ?_
  refine ev_goto (tgt := 5) dX2_worth_154 (by decide) ?_
  refine ev_wk (L := [some (.ref 77), some (.int v1), some (.int v2), some (.int ((nI v3) + 1)), some (.int ((nI v4) + 1)), some (.int (X 78 v4))]) (L' := [some (.ref 77), some (.int v1), some (.int v2), some (.int ((nI v3) + 1)), some (.int ((nI v4) + 1)), none]) (by simp [lwk]) ?_
  exact k
theorem bX2_worth_5_9 {g : GG} {d n : Nat} {post : Option Value → LX → Prop} {X : LX} (hn : 146 ≤ n) (hX : Sh n X) {v1 : Int32} {v2 : Int32} {v3 : Int32} {v4 : Nat} (c0 : ¬ v2 ≤ nI v4) (b0 : v4 < 120) (c1 : 0 ≤ X 78 v4) (c2 : ¬ nI 120 ≤ v3) (c3 : X 78 v4 < 0) (k : Ev g mX2_worth d n n post n 67 [some (.ref 77), some (.int v1), some (.int v2), some (.int (v3 + 1)), some (.int (nI v4)), some (.int (X 78 v4))] [.int ((-1000) - (X 78 v4)), .ref 77, .int v3, .ref 79] X) : Ev g mX2_worth d n n post n 5 [some (.ref 77), some (.int v1), some (.int v2), some (.int v3), some (.int (nI v4)), none] [] X := by
  refine ev_iload dX2_worth_5 rfl ?_
  refine ev_iload_n dX2_worth_7 rfl ?_
  refine ev_icmpF (tgt := 157) dX2_worth_8 (by decide) c0 ?_
  refine ev_aload_n dX2_worth_11 rfl ?_
  refine ev_getS (q := 78) dX2_worth_12 fo_2_9 (by omega) lo_77 rfl (sh_77_3 hX (by omega)) (by decide) ?_
  refine ev_iload dX2_worth_15 rfl ?_
  refine ev_iald dX2_worth_17 (by omega) ly_78 rfl b0 ?_
  refine ev_istore dX2_worth_18 (by decide) ?_
  refine ev_iload dX2_worth_20 rfl ?_
  refine ev_ifT (tgt := 33) dX2_worth_22 (by decide) c1 ?_
  refine ev_iload_n dX2_worth_33 rfl ?_
  refine ev_aload_n dX2_worth_34 rfl ?_
  refine ev_getS (q := 79) dX2_worth_35 fo_2_15 (by omega) lo_77 rfl (sh_77_4 hX (by omega)) (by decide) ?_
  refine ev_alen dX2_worth_38 (by omega) ly_79 (by decide) ?_
  refine ev_icmpF (tgt := 151) dX2_worth_39 (by decide) c2 ?_
  refine ev_aload_n dX2_worth_42 rfl ?_
  refine ev_getS (q := 79) dX2_worth_43 fo_2_15 (by omega) lo_77 rfl (sh_77_4 hX (by omega)) (by decide) ?_
  refine ev_iload_n dX2_worth_46 rfl ?_
  refine ev_iinc (v := v3 + 1) dX2_worth_47 rfl (by rw [show Int32.ofInt 1 = 1 from ki_1]) (by decide) ?_
  refine ev_iload dX2_worth_50 rfl ?_
  refine ev_ifT (tgt := 60) dX2_worth_52 (by decide) c3 ?_
  refine ev_aload_n dX2_worth_60 rfl ?_
  refine ev_sipush (v := (-1000)) dX2_worth_61 ks_m1000 ?_
  refine ev_iload dX2_worth_64 rfl ?_
  refine ev_isub dX2_worth_66 ?_
  exact k
theorem bX2_worth_5_10 {g : GG} {d n : Nat} {post : Option Value → LX → Prop} {X : LX} (hn : 146 ≤ n) (hX : Sh n X) {v1 : Int32} {v2 : Int32} {v3 : Int32} {v4 : Nat} (c0 : ¬ v2 ≤ nI v4) (b0 : v4 < 120) (c1 : 0 ≤ X 78 v4) (c2 : nI 120 ≤ v3) (k : Ev g mX2_worth d n n post n 5 [some (.ref 77), some (.int v1), some (.int v2), some (.int v3), some (.int ((nI v4) + 1)), none] [] X) : Ev g mX2_worth d n n post n 5 [some (.ref 77), some (.int v1), some (.int v2), some (.int v3), some (.int (nI v4)), none] [] X := by
  refine ev_iload dX2_worth_5 rfl ?_
  refine ev_iload_n dX2_worth_7 rfl ?_
  refine ev_icmpF (tgt := 157) dX2_worth_8 (by decide) c0 ?_
  refine ev_aload_n dX2_worth_11 rfl ?_
  refine ev_getS (q := 78) dX2_worth_12 fo_2_9 (by omega) lo_77 rfl (sh_77_3 hX (by omega)) (by decide) ?_
  refine ev_iload dX2_worth_15 rfl ?_
  refine ev_iald dX2_worth_17 (by omega) ly_78 rfl b0 ?_
  refine ev_istore dX2_worth_18 (by decide) ?_
  refine ev_iload dX2_worth_20 rfl ?_
  refine ev_ifT (tgt := 33) dX2_worth_22 (by decide) c1 ?_
  refine ev_iload_n dX2_worth_33 rfl ?_
  refine ev_aload_n dX2_worth_34 rfl ?_
  refine ev_getS (q := 79) dX2_worth_35 fo_2_15 (by omega) lo_77 rfl (sh_77_4 hX (by omega)) (by decide) ?_
  refine ev_alen dX2_worth_38 (by omega) ly_79 (by decide) ?_
  refine ev_icmpT (tgt := 151) dX2_worth_39 (by decide) c2 ?_
  refine ev_iinc (v := (nI v4) + 1) dX2_worth_151 rfl (by rw [show Int32.ofInt 1 = 1 from ki_1]) (by decide) ?_
  refine ev_goto (tgt := 5) dX2_worth_154 (by decide) ?_
  refine ev_wk (L := [some (.ref 77), some (.int v1), some (.int v2), some (.int v3), some (.int ((nI v4) + 1)), some (.int (X 78 v4))]) (L' := [some (.ref 77), some (.int v1), some (.int v2), some (.int v3), some (.int ((nI v4) + 1)), none]) (by simp [lwk]) ?_
  exact k
theorem bX2_worth_5_11 {g : GG} {d n : Nat} {post : Option Value → LX → Prop} {X : LX} (hn : 146 ≤ n) (hX : Sh n X) {v1 : Int32} {v2 : Int32} {v3 : Int32} {v4 : Int32} (c0 : v2 ≤ v4) (c1 : ¬ v3 ≤ 0) (hp : post (some (.int (X 79 0))) X) : Ev g mX2_worth d n n post n 5 [some (.ref 77), some (.int v1), some (.int v2), some (.int v3), some (.int v4), none] [] X := by
  refine ev_iload dX2_worth_5 rfl ?_
  refine ev_iload_n dX2_worth_7 rfl ?_
  refine ev_icmpT (tgt := 157) dX2_worth_8 (by decide) c0 ?_
  refine ev_iload_n dX2_worth_157 rfl ?_
  refine ev_ifF (tgt := 170) dX2_worth_158 (by decide) c1 ?_
  refine ev_aload_n dX2_worth_161 rfl ?_
  refine ev_getS (q := 79) dX2_worth_162 fo_2_15 (by omega) lo_77 rfl (sh_77_4 hX (by omega)) (by decide) ?_
  refine ev_iconst (v := 0) dX2_worth_165 ki_0 ?_
  refine ev_iald dX2_worth_166 (by omega) ly_79 nIl_0 (by decide) ?_
  refine ev_goto (tgt := 171) dX2_worth_167 (by decide) ?_
  exact ev_iret dX2_worth_171 rfl rfl hp
theorem bX2_worth_5_12 {g : GG} {d n : Nat} {post : Option Value → LX → Prop} {X : LX} (hn : 146 ≤ n) (hX : Sh n X) {v1 : Int32} {v2 : Int32} {v3 : Int32} {v4 : Int32} (c0 : v2 ≤ v4) (c1 : v3 ≤ 0) (hp : post (some (.int 0)) X) : Ev g mX2_worth d n n post n 5 [some (.ref 77), some (.int v1), some (.int v2), some (.int v3), some (.int v4), none] [] X := by
  refine ev_iload dX2_worth_5 rfl ?_
  refine ev_iload_n dX2_worth_7 rfl ?_
  refine ev_icmpT (tgt := 157) dX2_worth_8 (by decide) c0 ?_
  refine ev_iload_n dX2_worth_157 rfl ?_
  refine ev_ifT (tgt := 170) dX2_worth_158 (by decide) c1 ?_
  refine ev_iconst (v := 0) dX2_worth_170 ki_0 ?_
  exact ev_iret dX2_worth_171 rfl rfl hp
theorem bX2_worth_70_0 {g : GG} {d n : Nat} {post : Option Value → LX → Prop} {X : LX} (hn : 146 ≤ n) (hX : Sh n X) {v1 : Int32} {v2 : Int32} {v3 : Int32} {v4 : Int32} {v5 : Int32} {s1 : Nat} {s2 : Int32} (b0 : s1 < 120) (k : Ev g mX2_worth d n n post n 5 [some (.ref 77), some (.int v1), some (.int v2), some (.int v3), some (.int (v4 + 1)), none] [] (lx_up X 79 s1 s2)) : Ev g mX2_worth d n n post n 70 [some (.ref 77), some (.int v1), some (.int v2), some (.int v3), some (.int v4), some (.int v5)] [.int s2, .int (nI s1), .ref 79] X := by
  refine ev_iast dX2_worth_70 (by omega) ly_79 rfl b0 ?_
  have hX1 : Sh _ (lx_up X 79 s1 s2) := Sh.upA hX (by rw [ly_79]; exact (by decide : 0 < 2))
  refine ev_goto (tgt := 151) dX2_worth_71 (by decide) ?_
  refine ev_iinc (v := v4 + 1) dX2_worth_151 rfl (by rw [show Int32.ofInt 1 = 1 from ki_1]) (by decide) ?_
  refine ev_goto (tgt := 5) dX2_worth_154 (by decide) ?_
  refine ev_wk (L := [some (.ref 77), some (.int v1), some (.int v2), some (.int v3), some (.int (v4 + 1)), some (.int v5)]) (L' := [some (.ref 77), some (.int v1), some (.int v2), some (.int v3), some (.int (v4 + 1)), none]) (by simp [lwk]) ?_
  exact k
theorem bX2_worth_150_0 {g : GG} {d n : Nat} {post : Option Value → LX → Prop} {X : LX} (hn : 146 ≤ n) (hX : Sh n X) {v1 : Int32} {v2 : Int32} {v3 : Int32} {v4 : Int32} {v5 : Int32} {s1 : Nat} {s2 : Int32} (b0 : s1 < 120) (k : Ev g mX2_worth d n n post n 5 [some (.ref 77), some (.int v1), some (.int v2), some (.int v3), some (.int (v4 + 1)), none] [] (lx_up X 79 s1 s2)) : Ev g mX2_worth d n n post n 150 [some (.ref 77), some (.int v1), some (.int v2), some (.int v3), some (.int v4), some (.int v5)] [.int s2, .int (nI s1), .ref 79] X := by
  refine ev_iast dX2_worth_150 (by omega) ly_79 rfl b0 ?_
  have hX1 : Sh _ (lx_up X 79 s1 s2) := Sh.upA hX (by rw [ly_79]; exact (by decide : 0 < 2))
  refine ev_iinc (v := v4 + 1) dX2_worth_151 rfl (by rw [show Int32.ofInt 1 = 1 from ki_1]) (by decide) ?_
  refine ev_goto (tgt := 5) dX2_worth_154 (by decide) ?_
  refine ev_wk (L := [some (.ref 77), some (.int v1), some (.int v2), some (.int v3), some (.int (v4 + 1)), some (.int v5)]) (L' := [some (.ref 77), some (.int v1), some (.int v2), some (.int v3), some (.int (v4 + 1)), none]) (by simp [lwk]) ?_
  exact k
theorem bX2_worthOfMark_0_0 {g : GG} {d n : Nat} {post : Option Value → LX → Prop} {X : LX} (hn : 146 ≤ n) (hX : Sh n X)  (k : Ev g mX2_worthOfMark d n n post n 6 [some (.ref 77)] [.int (X 77 2), .int 0, .ref 77] X) : Ev g mX2_worthOfMark d n n post n 0 [some (.ref 77)] [] X := by
  refine ev_aload_n dX2_worthOfMark_0 rfl ?_
  refine ev_iconst (v := 0) dX2_worthOfMark_1 ki_0 ?_
  refine ev_aload_n dX2_worthOfMark_2 rfl ?_
  refine ev_getI dX2_worthOfMark_3 fo_2_35 (by omega) lo_77 rfl ?_
  exact k
theorem bX2_worthOfMark_9_0 {g : GG} {d n : Nat} {post : Option Value → LX → Prop} {X : LX} (hn : 146 ≤ n) (hX : Sh n X) {s0 : Int32} (hp : post (some (.int s0)) X) : Ev g mX2_worthOfMark d n n post n 9 [some (.ref 77)] [.int s0] X := by
  exact ev_iret dX2_worthOfMark_9 rfl rfl hp
theorem bX2_worthOfIce_0_0 {g : GG} {d n : Nat} {post : Option Value → LX → Prop} {X : LX} (hn : 146 ≤ n) (hX : Sh n X)  (k : Ev g mX2_worthOfIce d n n post n 9 [some (.ref 77)] [.int (X 77 1), .int (X 77 2), .ref 77] X) : Ev g mX2_worthOfIce d n n post n 0 [some (.ref 77)] [] X := by
  refine ev_aload_n dX2_worthOfIce_0 rfl ?_
  refine ev_aload_n dX2_worthOfIce_1 rfl ?_
  refine ev_getI dX2_worthOfIce_2 fo_2_35 (by omega) lo_77 rfl ?_
  refine ev_aload_n dX2_worthOfIce_5 rfl ?_
  refine ev_getI dX2_worthOfIce_6 fo_2_31 (by omega) lo_77 rfl ?_
  exact k
theorem bX2_worthOfIce_12_0 {g : GG} {d n : Nat} {post : Option Value → LX → Prop} {X : LX} (hn : 146 ≤ n) (hX : Sh n X) {s0 : Int32} (hp : post (some (.int s0)) X) : Ev g mX2_worthOfIce d n n post n 12 [some (.ref 77)] [.int s0] X := by
  exact ev_iret dX2_worthOfIce_12 rfl rfl hp
theorem bX1_isMarked_0_0 {g : GG} {d n : Nat} {post : Option Value → LX → Prop} {X : LX} (hn : 146 ≤ n) (hX : Sh n X) {v1 : Int32} (c0 : X 77 0 = 0) (hp : post (some (.int 0)) X) : Ev g mX1_isMarked d n n post n 0 [some (.ref 1), some (.int v1)] [] X := by
  refine ev_aload_n dX1_isMarked_0 rfl ?_
  refine ev_getS (q := 77) dX1_isMarked_1 fo_1_42 (by omega) lo_1 rfl (sh_1_4 hX (by omega)) (by decide) ?_
  refine ev_getI dX1_isMarked_4 fo_1_90 (by omega) lo_77 rfl ?_
  refine ev_ifF (tgt := 12) dX1_isMarked_7 (by decide) c0 ?_
  refine ev_iconst (v := 0) dX1_isMarked_10 ki_0 ?_
  exact ev_iret dX1_isMarked_11 rfl (by decide) hp
theorem bX1_isMarked_0_1 {g : GG} {d n : Nat} {post : Option Value → LX → Prop} {X : LX} (hd : 1 ≤ d) (hn : 146 ≤ n) (hX : Sh n X) {v1 : Nat} (c0 : ¬ X 77 0 = 0) (c1 : v1 < 10) (c2 : num (lx_up (lx_up X 80 0 (cGr X v1)) 80 1 (cCnt (lx_up X 80 0 (cGr X v1)) v1)) 2 0 14) (b0 : v1 < 10) (c3 : num (lx_up (lx_up (lx_up (lx_up X 80 0 (cGr X v1)) 80 1 (cCnt (lx_up X 80 0 (cGr X v1)) v1)) 80 2 (bc (cAll (lx_up (lx_up X 80 0 (cGr X v1)) 80 1 (cCnt (lx_up X 80 0 (cGr X v1)) v1)) v1))) 80 3 (X 24 v1)) 2 0 14) (k : Ev g mX1_isMarked d n n post n 99 [some (.ref 1), some (.int (nI v1))] [.ref 77] (lx_up (lx_up (lx_up (lx_up (lx_up X 80 0 (cGr X v1)) 80 1 (cCnt (lx_up X 80 0 (cGr X v1)) v1)) 80 2 (bc (cAll (lx_up (lx_up X 80 0 (cGr X v1)) 80 1 (cCnt (lx_up X 80 0 (cGr X v1)) v1)) v1))) 80 3 (X 24 v1)) 80 4 (cCost (lx_up (lx_up (lx_up (lx_up X 80 0 (cGr X v1)) 80 1 (cCnt (lx_up X 80 0 (cGr X v1)) v1)) 80 2 (bc (cAll (lx_up (lx_up X 80 0 (cGr X v1)) 80 1 (cCnt (lx_up X 80 0 (cGr X v1)) v1)) v1))) 80 3 (X 24 v1)) v1))) : Ev g mX1_isMarked d n n post n 0 [some (.ref 1), some (.int (nI v1))] [] X := by
  refine ev_aload_n dX1_isMarked_0 rfl ?_
  refine ev_getS (q := 77) dX1_isMarked_1 fo_1_42 (by omega) lo_1 rfl (sh_1_4 hX (by omega)) (by decide) ?_
  refine ev_getI dX1_isMarked_4 fo_1_90 (by omega) lo_77 rfl ?_
  refine ev_ifT (tgt := 12) dX1_isMarked_7 (by decide) c0 ?_
  refine ev_aload_n dX1_isMarked_12 rfl ?_
  refine ev_getS (q := 77) dX1_isMarked_13 fo_1_42 (by omega) lo_1 rfl (sh_1_4 hX (by omega)) (by decide) ?_
  refine ev_getS (q := 80) dX1_isMarked_16 fo_1_93 (by omega) lo_77 rfl (sh_77_5 hX (by omega)) (by decide) ?_
  refine ev_iconst (v := 0) dX1_isMarked_19 ki_0 ?_
  refine ev_aload_n dX1_isMarked_20 rfl ?_
  refine ev_getS (q := 23) dX1_isMarked_21 fo_1_21 (by omega) lo_1 rfl (sh_1_1 hX (by omega)) (by decide) ?_
  refine ev_iload_n dX1_isMarked_24 rfl ?_
  refine e_Vi (as := [.int (nI v1)]) (rest := [.int 0, .ref 80]) dX1_isMarked_25 vX5_gramsOf ml_1_96 isX5_gramsOf seX5_gramsOf npX5_gramsOf (rc_23 (by omega)) (by decide) rfl (Nat.le_of_ble_eq_true rfl) (by omega) (k_X5_gramsOf (d := d - 1) (by omega) (by omega) hX c1) ?_
  refine ev_iast dX1_isMarked_28 (by omega) ly_80 nIl_0 (by decide) ?_
  have hX1 : Sh _ (lx_up X 80 0 (cGr X v1)) := Sh.upA hX (by rw [ly_80]; exact (by decide : 0 < 2))
  refine ev_aload_n dX1_isMarked_29 rfl ?_
  refine ev_getS (q := 77) dX1_isMarked_30 fo_1_42 (by omega) lo_1 rfl (sh_1_4 hX1 (by omega)) (by decide) ?_
  refine ev_getS (q := 80) dX1_isMarked_33 fo_1_93 (by omega) lo_77 rfl (sh_77_5 hX1 (by omega)) (by decide) ?_
  refine ev_iconst (v := 1) dX1_isMarked_36 ki_1 ?_
  refine ev_aload_n dX1_isMarked_37 rfl ?_
  refine ev_getS (q := 23) dX1_isMarked_38 fo_1_21 (by omega) lo_1 rfl (sh_1_1 hX1 (by omega)) (by decide) ?_
  refine ev_iload_n dX1_isMarked_41 rfl ?_
  refine e_Vi (as := [.int (nI v1)]) (rest := [.int 1, .ref 80]) dX1_isMarked_42 vX5_partsIn ml_1_100 isX5_partsIn seX5_partsIn npX5_partsIn (rc_23 (by omega)) (by decide) rfl (Nat.le_of_ble_eq_true rfl) (by omega) (k_X5_partsIn (d := d - 1) (by omega) (by omega) hX1 c1) ?_
  refine ev_iast dX1_isMarked_45 (by omega) ly_80 nIl_1 (by decide) ?_
  have hX2 : Sh _ (lx_up (lx_up X 80 0 (cGr X v1)) 80 1 (cCnt (lx_up X 80 0 (cGr X v1)) v1)) := Sh.upA hX1 (by rw [ly_80]; exact (by decide : 0 < 2))
  refine ev_aload_n dX1_isMarked_46 rfl ?_
  refine ev_getS (q := 77) dX1_isMarked_47 fo_1_42 (by omega) lo_1 rfl (sh_1_4 hX2 (by omega)) (by decide) ?_
  refine ev_getS (q := 80) dX1_isMarked_50 fo_1_93 (by omega) lo_77 rfl (sh_77_5 hX2 (by omega)) (by decide) ?_
  refine ev_iconst (v := 2) dX1_isMarked_53 ki_2 ?_
  refine ev_aload_n dX1_isMarked_54 rfl ?_
  refine ev_iload_n dX1_isMarked_55 rfl ?_
  refine e_Vi (as := [.int (nI v1)]) (rest := [.int 2, .ref 80]) dX1_isMarked_56 vX1_allergensOf ml_1_103 isX1_allergensOf seX1_allergensOf npX1_allergensOf (rc_1 (by omega)) (by decide) rfl (Nat.le_of_ble_eq_true rfl) (by omega) (k_X1_allergensOf (d := d - 1) (by omega) (by omega) hX2 c1 c2) ?_
  refine e_Si (as := [.int (cAll (lx_up (lx_up X 80 0 (cGr X v1)) 80 1 (cCnt (lx_up X 80 0 (cGr X v1)) v1)) v1)]) (rest := [.int 2, .ref 80]) dX1_isMarked_59 vJ6_bitCount_0f7a4 ml_1_106 stJ6_bitCount_0f7a4 npJ6_bitCount_0f7a4 (by decide) rfl (Nat.le_of_ble_eq_true rfl) (by omega) (k_J6_bitCount_0f7a4 (d := d - 1) (by omega) (by omega) hX2 ) ?_
  refine ev_iast dX1_isMarked_62 (by omega) ly_80 nIl_2 (by decide) ?_
  have hX3 : Sh _ (lx_up (lx_up (lx_up X 80 0 (cGr X v1)) 80 1 (cCnt (lx_up X 80 0 (cGr X v1)) v1)) 80 2 (bc (cAll (lx_up (lx_up X 80 0 (cGr X v1)) 80 1 (cCnt (lx_up X 80 0 (cGr X v1)) v1)) v1))) := Sh.upA hX2 (by rw [ly_80]; exact (by decide : 0 < 2))
  refine ev_aload_n dX1_isMarked_63 rfl ?_
  refine ev_getS (q := 77) dX1_isMarked_64 fo_1_42 (by omega) lo_1 rfl (sh_1_4 hX3 (by omega)) (by decide) ?_
  refine ev_getS (q := 80) dX1_isMarked_67 fo_1_93 (by omega) lo_77 rfl (sh_77_5 hX3 (by omega)) (by decide) ?_
  refine ev_iconst (v := 3) dX1_isMarked_70 ki_3 ?_
  refine ev_aload_n dX1_isMarked_71 rfl ?_
  refine ev_getS (q := 23) dX1_isMarked_72 fo_1_21 (by omega) lo_1 rfl (sh_1_1 hX3 (by omega)) (by decide) ?_
  refine ev_getS (q := 24) dX1_isMarked_75 fo_1_111 (by omega) lo_23 rfl (sh_23_1 hX3 (by omega)) (by decide) ?_
  refine ev_iload_n dX1_isMarked_78 rfl ?_
  refine ev_iald dX1_isMarked_79 (by omega) ly_24 rfl b0 ?_
  refine ev_iast dX1_isMarked_80 (by omega) ly_80 nIl_3 (by decide) ?_
  have hX4 : Sh _ (lx_up (lx_up (lx_up (lx_up X 80 0 (cGr X v1)) 80 1 (cCnt (lx_up X 80 0 (cGr X v1)) v1)) 80 2 (bc (cAll (lx_up (lx_up X 80 0 (cGr X v1)) 80 1 (cCnt (lx_up X 80 0 (cGr X v1)) v1)) v1))) 80 3 (X 24 v1)) := Sh.upA hX3 (by rw [ly_80]; exact (by decide : 0 < 2))
  refine ev_aload_n dX1_isMarked_81 rfl ?_
  refine ev_getS (q := 77) dX1_isMarked_82 fo_1_42 (by omega) lo_1 rfl (sh_1_4 hX4 (by omega)) (by decide) ?_
  refine ev_getS (q := 80) dX1_isMarked_85 fo_1_93 (by omega) lo_77 rfl (sh_77_5 hX4 (by omega)) (by decide) ?_
  refine ev_iconst (v := 4) dX1_isMarked_88 ki_4 ?_
  refine ev_aload_n dX1_isMarked_89 rfl ?_
  refine ev_iload_n dX1_isMarked_90 rfl ?_
  refine e_Vi (as := [.int (nI v1)]) (rest := [.int 4, .ref 80]) dX1_isMarked_91 vX1_costOf ml_1_114 isX1_costOf seX1_costOf npX1_costOf (rc_1 (by omega)) (by decide) rfl (Nat.le_of_ble_eq_true rfl) (by omega) (k_X1_costOf (d := d - 1) (by omega) (by omega) hX4 c1 c3) ?_
  refine ev_iast dX1_isMarked_94 (by omega) ly_80 nIl_4 (by decide) ?_
  have hX5 : Sh _ (lx_up (lx_up (lx_up (lx_up (lx_up X 80 0 (cGr X v1)) 80 1 (cCnt (lx_up X 80 0 (cGr X v1)) v1)) 80 2 (bc (cAll (lx_up (lx_up X 80 0 (cGr X v1)) 80 1 (cCnt (lx_up X 80 0 (cGr X v1)) v1)) v1))) 80 3 (X 24 v1)) 80 4 (cCost (lx_up (lx_up (lx_up (lx_up X 80 0 (cGr X v1)) 80 1 (cCnt (lx_up X 80 0 (cGr X v1)) v1)) 80 2 (bc (cAll (lx_up (lx_up X 80 0 (cGr X v1)) 80 1 (cCnt (lx_up X 80 0 (cGr X v1)) v1)) v1))) 80 3 (X 24 v1)) v1)) := Sh.upA hX4 (by rw [ly_80]; exact (by decide : 0 < 2))
  refine ev_aload_n dX1_isMarked_95 rfl ?_
  refine ev_getS (q := 77) dX1_isMarked_96 fo_1_42 (by omega) lo_1 rfl (sh_1_4 hX5 (by omega)) (by decide) ?_
  exact k
theorem bX1_isMarked_102_0 {g : GG} {d n : Nat} {post : Option Value → LX → Prop} {X : LX} (hn : 146 ≤ n) (hX : Sh n X) {v1 : Int32} {s0 : Int32} (c0 : ¬ s0 = 0) (hp : post (some (.int 1)) X) : Ev g mX1_isMarked d n n post n 102 [some (.ref 1), some (.int v1)] [.int s0] X := by
  refine ev_ifF (tgt := 109) dX1_isMarked_102 (by decide) c0 ?_
  refine ev_iconst (v := 1) dX1_isMarked_105 ki_1 ?_
  refine ev_goto (tgt := 110) dX1_isMarked_106 (by decide) ?_
  exact ev_iret dX1_isMarked_110 rfl (by decide) hp
theorem bX1_isMarked_102_1 {g : GG} {d n : Nat} {post : Option Value → LX → Prop} {X : LX} (hn : 146 ≤ n) (hX : Sh n X) {v1 : Int32} {s0 : Int32} (c0 : s0 = 0) (hp : post (some (.int 0)) X) : Ev g mX1_isMarked d n n post n 102 [some (.ref 1), some (.int v1)] [.int s0] X := by
  refine ev_ifT (tgt := 109) dX1_isMarked_102 (by decide) c0 ?_
  refine ev_iconst (v := 0) dX1_isMarked_109 ki_0 ?_
  exact ev_iret dX1_isMarked_110 rfl (by decide) hp
theorem bX1_iceOf_0_0 {g : GG} {d n : Nat} {post : Option Value → LX → Prop} {X : LX} (hd : 4 ≤ d) (hn : 146 ≤ n) (hX : Sh n X) {v1 : Nat} (c0 : v1 < 12) (c1 : okK X) (c2 : ¬ cBox X v1 = 0) (c3 : X 77 0 = 0) (hp : post (some (.int 0)) X) : Ev g mX1_iceOf d n n post n 0 [some (.ref 1), some (.int (nI v1)), none, none, none, none] [] X := by
  refine ev_aload_n dX1_iceOf_0 rfl ?_
  refine ev_iload_n dX1_iceOf_1 rfl ?_
  refine e_Vi (as := [.int (nI v1)]) (rest := []) dX1_iceOf_2 vX1_boxToday ml_1_151 isX1_boxToday seX1_boxToday npX1_boxToday (rc_1 (by omega)) (by decide) rfl (Nat.le_of_ble_eq_true rfl) (by omega) (k_X1_boxToday (d := d - 1) (by omega) (by omega) hX c0 c1) ?_
  refine ev_istore_n dX1_iceOf_5 (by decide) ?_
  refine ev_iload_n dX1_iceOf_6 rfl ?_
  refine ev_ifF (tgt := 20) dX1_iceOf_7 (by decide) c2 ?_
  refine ev_aload_n dX1_iceOf_10 rfl ?_
  refine ev_getS (q := 77) dX1_iceOf_11 fo_1_42 (by omega) lo_1 rfl (sh_1_4 hX (by omega)) (by decide) ?_
  refine ev_getI dX1_iceOf_14 fo_1_90 (by omega) lo_77 rfl ?_
  refine ev_ifF (tgt := 22) dX1_iceOf_17 (by decide) c3 ?_
  refine ev_iconst (v := 0) dX1_iceOf_20 ki_0 ?_
  exact ev_iret dX1_iceOf_21 rfl rfl hp
theorem bX1_iceOf_0_1 {g : GG} {d n : Nat} {post : Option Value → LX → Prop} {X : LX} (hd : 4 ≤ d) (hn : 146 ≤ n) (hX : Sh n X) {v1 : Nat} (c0 : v1 < 12) (c1 : okK X) (c2 : ¬ cBox X v1 = 0) (c3 : ¬ X 77 0 = 0) (k : Ev g mX1_iceOf d n n post n 30 [some (.ref 1), some (.int (nI v1)), some (.int (cBox X v1)), some (.int 0), some (.int 0), some (.int 0)] [] X) : Ev g mX1_iceOf d n n post n 0 [some (.ref 1), some (.int (nI v1)), none, none, none, none] [] X := by
  refine ev_aload_n dX1_iceOf_0 rfl ?_
  refine ev_iload_n dX1_iceOf_1 rfl ?_
  refine e_Vi (as := [.int (nI v1)]) (rest := []) dX1_iceOf_2 vX1_boxToday ml_1_151 isX1_boxToday seX1_boxToday npX1_boxToday (rc_1 (by omega)) (by decide) rfl (Nat.le_of_ble_eq_true rfl) (by omega) (k_X1_boxToday (d := d - 1) (by omega) (by omega) hX c0 c1) ?_
  refine ev_istore_n dX1_iceOf_5 (by decide) ?_
  refine ev_iload_n dX1_iceOf_6 rfl ?_
  refine ev_ifF (tgt := 20) dX1_iceOf_7 (by decide) c2 ?_
  refine ev_aload_n dX1_iceOf_10 rfl ?_
  refine ev_getS (q := 77) dX1_iceOf_11 fo_1_42 (by omega) lo_1 rfl (sh_1_4 hX (by omega)) (by decide) ?_
  refine ev_getI dX1_iceOf_14 fo_1_90 (by omega) lo_77 rfl ?_
  refine ev_ifT (tgt := 22) dX1_iceOf_17 (by decide) c3 ?_
  refine ev_iconst (v := 0) dX1_iceOf_22 ki_0 ?_
  refine ev_istore_n dX1_iceOf_23 (by decide) ?_
  refine ev_iconst (v := 0) dX1_iceOf_24 ki_0 ?_
  refine ev_istore dX1_iceOf_25 (by decide) ?_
  refine ev_iconst (v := 0) dX1_iceOf_27 ki_0 ?_
  refine ev_istore dX1_iceOf_28 (by decide) ?_
  exact k
theorem bX1_iceOf_0_2 {g : GG} {d n : Nat} {post : Option Value → LX → Prop} {X : LX} (hd : 4 ≤ d) (hn : 146 ≤ n) (hX : Sh n X) {v1 : Nat} (c0 : v1 < 12) (c1 : okK X) (c2 : cBox X v1 = 0) (hp : post (some (.int 0)) X) : Ev g mX1_iceOf d n n post n 0 [some (.ref 1), some (.int (nI v1)), none, none, none, none] [] X := by
  refine ev_aload_n dX1_iceOf_0 rfl ?_
  refine ev_iload_n dX1_iceOf_1 rfl ?_
  refine e_Vi (as := [.int (nI v1)]) (rest := []) dX1_iceOf_2 vX1_boxToday ml_1_151 isX1_boxToday seX1_boxToday npX1_boxToday (rc_1 (by omega)) (by decide) rfl (Nat.le_of_ble_eq_true rfl) (by omega) (k_X1_boxToday (d := d - 1) (by omega) (by omega) hX c0 c1) ?_
  refine ev_istore_n dX1_iceOf_5 (by decide) ?_
  refine ev_iload_n dX1_iceOf_6 rfl ?_
  refine ev_ifT (tgt := 20) dX1_iceOf_7 (by decide) c2 ?_
  refine ev_iconst (v := 0) dX1_iceOf_20 ki_0 ?_
  exact ev_iret dX1_iceOf_21 rfl rfl hp
theorem bX1_iceOf_30_0 {g : GG} {d n : Nat} {post : Option Value → LX → Prop} {X : LX} (hd : 1 ≤ d) (hn : 146 ≤ n) (hX : Sh n X) {v1 : Int32} {v2 : Int32} {v3 : Int32} {v4 : Int32} {v5 : Nat} (c0 : ¬ X 23 0 ≤ nI v5) (c1 : ¬ (v2 >>> ((nI v5) &&& 31)) &&& 1 = 0) (c2 : v5 < 10) (c3 : isKd X v5 3) (k : Ev g mX1_iceOf d n n post n 30 [some (.ref 1), some (.int v1), some (.int v2), some (.int (v3 + (cGr X v5))), some (.int 1), some (.int ((nI v5) + 1))] [] X) : Ev g mX1_iceOf d n n post n 30 [some (.ref 1), some (.int v1), some (.int v2), some (.int v3), some (.int v4), some (.int (nI v5))] [] X := by
  refine ev_iload dX1_iceOf_30 rfl ?_
  refine ev_aload_n dX1_iceOf_32 rfl ?_
  refine ev_getS (q := 23) dX1_iceOf_33 fo_1_21 (by omega) lo_1 rfl (sh_1_1 hX (by omega)) (by decide) ?_
  refine ev_getI dX1_iceOf_36 fo_1_131 (by omega) lo_23 rfl ?_
  refine ev_icmpF (tgt := 88) dX1_iceOf_39 (by decide) c0 ?_
  refine ev_iload_n dX1_iceOf_42 rfl ?_
  refine ev_iload dX1_iceOf_43 rfl ?_
  refine e_SNi (as := [.int v2, .int (nI v5)]) (rest := []) dX1_iceOf_45 vX11_hasBit ml_1_132 rfl rfl rfl stX11_hasBit npX11_hasBit (by decide) rfl (Nat.le_of_ble_eq_true rfl) (by omega) (t_X11_hasBit (d := d - 1) (by omega) (by omega) hX c1) ?_
  refine ev_ifT (tgt := 54) dX1_iceOf_48 (by decide) (by show ¬ (1 : Int32) = 0; decide) ?_
  refine ev_iload_n dX1_iceOf_54 rfl ?_
  refine ev_aload_n dX1_iceOf_55 rfl ?_
  refine ev_getS (q := 23) dX1_iceOf_56 fo_1_21 (by omega) lo_1 rfl (sh_1_1 hX (by omega)) (by decide) ?_
  refine ev_iload dX1_iceOf_59 rfl ?_
  refine e_Vi (as := [.int (nI v5)]) (rest := [.int v3]) dX1_iceOf_61 vX5_gramsOf ml_1_96 isX5_gramsOf seX5_gramsOf npX5_gramsOf (rc_23 (by omega)) (by decide) rfl (Nat.le_of_ble_eq_true rfl) (by omega) (k_X5_gramsOf (d := d - 1) (by omega) (by omega) hX c2) ?_
  refine ev_iadd dX1_iceOf_64 ?_
  refine ev_istore_n dX1_iceOf_65 (by decide) ?_
  refine ev_aload_n dX1_iceOf_66 rfl ?_
  refine ev_getS (q := 23) dX1_iceOf_67 fo_1_21 (by omega) lo_1 rfl (sh_1_1 hX (by omega)) (by decide) ?_
  refine ev_iload dX1_iceOf_70 rfl ?_
  refine ev_iconst (v := 3) dX1_iceOf_72 ki_3 ?_
  refine e_Vi (as := [.int (nI v5), .int 3]) (rest := []) dX1_iceOf_73 vX5_isKind ml_1_127 isX5_isKind seX5_isKind npX5_isKind (rc_23 (by omega)) (by decide) rfl (Nat.le_of_ble_eq_true rfl) (by omega) (t_X5_isKind (d := d - 1) (by omega) (by omega) hX c2 c3) ?_
  refine ev_ifF (tgt := 82) dX1_iceOf_76 (by decide) (by show ¬ (1 : Int32) = 0; decide) ?_
  refine ev_iconst (v := 1) dX1_iceOf_79 ki_1 ?_
  refine ev_istore dX1_iceOf_80 (by decide) ?_
  refine ev_iinc (v := (nI v5) + 1) dX1_iceOf_82 rfl (by rw [show Int32.ofInt 1 = 1 from ki_1]) (by decide) ?_
  refine ev_goto (tgt := 30) dX1_iceOf_85 (by decide) ?_
  exact k
theorem bX1_iceOf_30_1 {g : GG} {d n : Nat} {post : Option Value → LX → Prop} {X : LX} (hd : 1 ≤ d) (hn : 146 ≤ n) (hX : Sh n X) {v1 : Int32} {v2 : Int32} {v3 : Int32} {v4 : Int32} {v5 : Nat} (c0 : ¬ X 23 0 ≤ nI v5) (c1 : ¬ (v2 >>> ((nI v5) &&& 31)) &&& 1 = 0) (c2 : v5 < 10) (c3 : ¬ (isKd X v5 3)) (k : Ev g mX1_iceOf d n n post n 30 [some (.ref 1), some (.int v1), some (.int v2), some (.int (v3 + (cGr X v5))), some (.int v4), some (.int ((nI v5) + 1))] [] X) : Ev g mX1_iceOf d n n post n 30 [some (.ref 1), some (.int v1), some (.int v2), some (.int v3), some (.int v4), some (.int (nI v5))] [] X := by
  refine ev_iload dX1_iceOf_30 rfl ?_
  refine ev_aload_n dX1_iceOf_32 rfl ?_
  refine ev_getS (q := 23) dX1_iceOf_33 fo_1_21 (by omega) lo_1 rfl (sh_1_1 hX (by omega)) (by decide) ?_
  refine ev_getI dX1_iceOf_36 fo_1_131 (by omega) lo_23 rfl ?_
  refine ev_icmpF (tgt := 88) dX1_iceOf_39 (by decide) c0 ?_
  refine ev_iload_n dX1_iceOf_42 rfl ?_
  refine ev_iload dX1_iceOf_43 rfl ?_
  refine e_SNi (as := [.int v2, .int (nI v5)]) (rest := []) dX1_iceOf_45 vX11_hasBit ml_1_132 rfl rfl rfl stX11_hasBit npX11_hasBit (by decide) rfl (Nat.le_of_ble_eq_true rfl) (by omega) (t_X11_hasBit (d := d - 1) (by omega) (by omega) hX c1) ?_
  refine ev_ifT (tgt := 54) dX1_iceOf_48 (by decide) (by show ¬ (1 : Int32) = 0; decide) ?_
  refine ev_iload_n dX1_iceOf_54 rfl ?_
  refine ev_aload_n dX1_iceOf_55 rfl ?_
  refine ev_getS (q := 23) dX1_iceOf_56 fo_1_21 (by omega) lo_1 rfl (sh_1_1 hX (by omega)) (by decide) ?_
  refine ev_iload dX1_iceOf_59 rfl ?_
  refine e_Vi (as := [.int (nI v5)]) (rest := [.int v3]) dX1_iceOf_61 vX5_gramsOf ml_1_96 isX5_gramsOf seX5_gramsOf npX5_gramsOf (rc_23 (by omega)) (by decide) rfl (Nat.le_of_ble_eq_true rfl) (by omega) (k_X5_gramsOf (d := d - 1) (by omega) (by omega) hX c2) ?_
  refine ev_iadd dX1_iceOf_64 ?_
  refine ev_istore_n dX1_iceOf_65 (by decide) ?_
  refine ev_aload_n dX1_iceOf_66 rfl ?_
  refine ev_getS (q := 23) dX1_iceOf_67 fo_1_21 (by omega) lo_1 rfl (sh_1_1 hX (by omega)) (by decide) ?_
  refine ev_iload dX1_iceOf_70 rfl ?_
  refine ev_iconst (v := 3) dX1_iceOf_72 ki_3 ?_
  refine e_Vi (as := [.int (nI v5), .int 3]) (rest := []) dX1_iceOf_73 vX5_isKind ml_1_127 isX5_isKind seX5_isKind npX5_isKind (rc_23 (by omega)) (by decide) rfl (Nat.le_of_ble_eq_true rfl) (by omega) (f_X5_isKind (d := d - 1) (by omega) (by omega) hX c2 c3) ?_
  refine ev_ifT (tgt := 82) dX1_iceOf_76 (by decide) (by show (0 : Int32) = 0; decide) ?_
  refine ev_iinc (v := (nI v5) + 1) dX1_iceOf_82 rfl (by rw [show Int32.ofInt 1 = 1 from ki_1]) (by decide) ?_
  refine ev_goto (tgt := 30) dX1_iceOf_85 (by decide) ?_
  exact k
theorem bX1_iceOf_30_2 {g : GG} {d n : Nat} {post : Option Value → LX → Prop} {X : LX} (hd : 1 ≤ d) (hn : 146 ≤ n) (hX : Sh n X) {v1 : Int32} {v2 : Int32} {v3 : Int32} {v4 : Int32} {v5 : Int32} (c0 : ¬ X 23 0 ≤ v5) (c1 : ¬ (¬ (v2 >>> (v5 &&& 31)) &&& 1 = 0)) (k : Ev g mX1_iceOf d n n post n 30 [some (.ref 1), some (.int v1), some (.int v2), some (.int v3), some (.int v4), some (.int (v5 + 1))] [] X) : Ev g mX1_iceOf d n n post n 30 [some (.ref 1), some (.int v1), some (.int v2), some (.int v3), some (.int v4), some (.int v5)] [] X := by
  refine ev_iload dX1_iceOf_30 rfl ?_
  refine ev_aload_n dX1_iceOf_32 rfl ?_
  refine ev_getS (q := 23) dX1_iceOf_33 fo_1_21 (by omega) lo_1 rfl (sh_1_1 hX (by omega)) (by decide) ?_
  refine ev_getI dX1_iceOf_36 fo_1_131 (by omega) lo_23 rfl ?_
  refine ev_icmpF (tgt := 88) dX1_iceOf_39 (by decide) c0 ?_
  refine ev_iload_n dX1_iceOf_42 rfl ?_
  refine ev_iload dX1_iceOf_43 rfl ?_
  refine e_SNi (as := [.int v2, .int v5]) (rest := []) dX1_iceOf_45 vX11_hasBit ml_1_132 rfl rfl rfl stX11_hasBit npX11_hasBit (by decide) rfl (Nat.le_of_ble_eq_true rfl) (by omega) (f_X11_hasBit (d := d - 1) (by omega) (by omega) hX c1) ?_
  refine ev_ifF (tgt := 54) dX1_iceOf_48 (by decide) (by show (0 : Int32) = 0; decide) ?_
  refine ev_goto (tgt := 82) dX1_iceOf_51 (by decide) ?_
  refine ev_iinc (v := v5 + 1) dX1_iceOf_82 rfl (by rw [show Int32.ofInt 1 = 1 from ki_1]) (by decide) ?_
  refine ev_goto (tgt := 30) dX1_iceOf_85 (by decide) ?_
  exact k
theorem bX1_iceOf_30_3 {g : GG} {d n : Nat} {post : Option Value → LX → Prop} {X : LX} (hn : 146 ≤ n) (hX : Sh n X) {v1 : Nat} {v2 : Int32} {v3 : Int32} {v4 : Int32} {v5 : Int32} (c0 : X 23 0 ≤ v5) (b0 : v1 < 12) (k : Ev g mX1_iceOf d n n post n 158 [some (.ref 1), some (.int (nI v1)), some (.int v2), some (.int v3), some (.int v4), some (.int v5)] [.ref 77, .int 9999, .int 0] (lx_up (lx_up (lx_up (lx_up X 80 0 (v3 * (X 39 v1))) 80 1 (X 41 v1)) 80 2 (X 1 7)) 80 3 v4)) : Ev g mX1_iceOf d n n post n 30 [some (.ref 1), some (.int (nI v1)), some (.int v2), some (.int v3), some (.int v4), some (.int v5)] [] X := by
  refine ev_iload dX1_iceOf_30 rfl ?_
  refine ev_aload_n dX1_iceOf_32 rfl ?_
  refine ev_getS (q := 23) dX1_iceOf_33 fo_1_21 (by omega) lo_1 rfl (sh_1_1 hX (by omega)) (by decide) ?_
  refine ev_getI dX1_iceOf_36 fo_1_131 (by omega) lo_23 rfl ?_
  refine ev_icmpT (tgt := 88) dX1_iceOf_39 (by decide) c0 ?_
  refine ev_aload_n dX1_iceOf_88 rfl ?_
  refine ev_getS (q := 77) dX1_iceOf_89 fo_1_42 (by omega) lo_1 rfl (sh_1_4 hX (by omega)) (by decide) ?_
  refine ev_getS (q := 80) dX1_iceOf_92 fo_1_93 (by omega) lo_77 rfl (sh_77_5 hX (by omega)) (by decide) ?_
  refine ev_iconst (v := 0) dX1_iceOf_95 ki_0 ?_
  refine ev_iload_n dX1_iceOf_96 rfl ?_
  refine ev_aload_n dX1_iceOf_97 rfl ?_
  refine ev_getS (q := 37) dX1_iceOf_98 fo_1_28 (by omega) lo_1 rfl (sh_1_2 hX (by omega)) (by decide) ?_
  refine ev_getS (q := 39) dX1_iceOf_101 fo_1_154 (by omega) lo_37 rfl (sh_37_2 hX (by omega)) (by decide) ?_
  refine ev_iload_n dX1_iceOf_104 rfl ?_
  refine ev_iald dX1_iceOf_105 (by omega) ly_39 rfl b0 ?_
  refine ev_imul dX1_iceOf_106 ?_
  refine ev_iast dX1_iceOf_107 (by omega) ly_80 nIl_0 (by decide) ?_
  have hX1 : Sh _ (lx_up X 80 0 (v3 * (X 39 v1))) := Sh.upA hX (by rw [ly_80]; exact (by decide : 0 < 2))
  refine ev_aload_n dX1_iceOf_108 rfl ?_
  refine ev_getS (q := 77) dX1_iceOf_109 fo_1_42 (by omega) lo_1 rfl (sh_1_4 hX1 (by omega)) (by decide) ?_
  refine ev_getS (q := 80) dX1_iceOf_112 fo_1_93 (by omega) lo_77 rfl (sh_77_5 hX1 (by omega)) (by decide) ?_
  refine ev_iconst (v := 1) dX1_iceOf_115 ki_1 ?_
  refine ev_aload_n dX1_iceOf_116 rfl ?_
  refine ev_getS (q := 37) dX1_iceOf_117 fo_1_28 (by omega) lo_1 rfl (sh_1_2 hX1 (by omega)) (by decide) ?_
  refine ev_getS (q := 41) dX1_iceOf_120 fo_1_157 (by omega) lo_37 rfl (sh_37_4 hX1 (by omega)) (by decide) ?_
  refine ev_iload_n dX1_iceOf_123 rfl ?_
  refine ev_iald dX1_iceOf_124 (by omega) ly_41 rfl b0 ?_
  refine ev_iast dX1_iceOf_125 (by omega) ly_80 nIl_1 (by decide) ?_
  have hX2 : Sh _ (lx_up (lx_up X 80 0 (v3 * (X 39 v1))) 80 1 (X 41 v1)) := Sh.upA hX1 (by rw [ly_80]; exact (by decide : 0 < 2))
  refine ev_aload_n dX1_iceOf_126 rfl ?_
  refine ev_getS (q := 77) dX1_iceOf_127 fo_1_42 (by omega) lo_1 rfl (sh_1_4 hX2 (by omega)) (by decide) ?_
  refine ev_getS (q := 80) dX1_iceOf_130 fo_1_93 (by omega) lo_77 rfl (sh_77_5 hX2 (by omega)) (by decide) ?_
  refine ev_iconst (v := 2) dX1_iceOf_133 ki_2 ?_
  refine ev_aload_n dX1_iceOf_134 rfl ?_
  refine ev_getI dX1_iceOf_135 fo_1_46 (by omega) lo_1 rfl ?_
  refine ev_iast dX1_iceOf_138 (by omega) ly_80 nIl_2 (by decide) ?_
  have hX3 : Sh _ (lx_up (lx_up (lx_up X 80 0 (v3 * (X 39 v1))) 80 1 (X 41 v1)) 80 2 (X 1 7)) := Sh.upA hX2 (by rw [ly_80]; exact (by decide : 0 < 2))
  refine ev_aload_n dX1_iceOf_139 rfl ?_
  refine ev_getS (q := 77) dX1_iceOf_140 fo_1_42 (by omega) lo_1 rfl (sh_1_4 hX3 (by omega)) (by decide) ?_
  refine ev_getS (q := 80) dX1_iceOf_143 fo_1_93 (by omega) lo_77 rfl (sh_77_5 hX3 (by omega)) (by decide) ?_
  refine ev_iconst (v := 3) dX1_iceOf_146 ki_3 ?_
  refine ev_iload dX1_iceOf_147 rfl ?_
  refine ev_iast dX1_iceOf_149 (by omega) ly_80 nIl_3 (by decide) ?_
  have hX4 : Sh _ (lx_up (lx_up (lx_up (lx_up X 80 0 (v3 * (X 39 v1))) 80 1 (X 41 v1)) 80 2 (X 1 7)) 80 3 v4) := Sh.upA hX3 (by rw [ly_80]; exact (by decide : 0 < 2))
  refine ev_iconst (v := 0) dX1_iceOf_150 ki_0 ?_
  refine ev_sipush (v := 9999) dX1_iceOf_151 ks_9999 ?_
  refine ev_aload_n dX1_iceOf_154 rfl ?_
  refine ev_getS (q := 77) dX1_iceOf_155 fo_1_42 (by omega) lo_1 rfl (sh_1_4 hX4 (by omega)) (by decide) ?_
  exact k
theorem bX1_iceOf_161_0 {g : GG} {d n : Nat} {post : Option Value → LX → Prop} {X : LX} (hd : 1 ≤ d) (hn : 146 ≤ n) (hX : Sh n X) {v1 : Int32} {v2 : Int32} {v3 : Int32} {v4 : Int32} {v5 : Int32} {s0 : Int32} {s1 : Int32} {s2 : Int32} (hp : post (some (.int (if s0 < (if s2 < s1 then s2 else s1) then (if s2 < s1 then s2 else s1) else s0))) X) : Ev g mX1_iceOf d n n post n 161 [some (.ref 1), some (.int v1), some (.int v2), some (.int v3), some (.int v4), some (.int v5)] [.int s2, .int s1, .int s0] X := by
  refine e_min dX1_iceOf_161 mm_1_163 mn_st mx_in mn_co (Nat.le_of_ble_eq_true rfl) (by omega) ?_
  refine e_max dX1_iceOf_164 mm_1_168 mx_st mx_in mx_co (Nat.le_of_ble_eq_true rfl) (by omega) ?_
  exact ev_iret dX1_iceOf_167 rfl rfl hp
theorem bX11_about_0_0 {g : GG} {d n : Nat} {post : Option Value → LX → Prop} {X : LX} (hd : 1 ≤ d) (hn : 146 ≤ n) (hX : Sh n X) {v1 : Int32} {v2 : Int32} (c0 : 0 ≤ v1 ∧ v1 < X 23 0) (c1 : v2.toInt < 0 ∨ 6 < v2.toInt) (hp : post (some (.int (-1000000001))) X) : Ev g mX11_about d n n post n 0 [some (.ref 0), some (.int v1), some (.int v2)] [] X := by
  refine ev_aload_n dX11_about_0 rfl ?_
  refine ev_getS (q := 1) dX11_about_1 fo_11_10 (by omega) lo_0 rfl (sh_0_0 hX (by omega)) (by decide) ?_
  refine ev_getS (q := 23) dX11_about_4 fo_11_96 (by omega) lo_1 rfl (sh_1_1 hX (by omega)) (by decide) ?_
  refine ev_iload_n dX11_about_7 rfl ?_
  refine e_Vi (as := [.int v1]) (rest := []) dX11_about_8 vX5_has ml_11_109 isX5_has seX5_has npX5_has (rc_23 (by omega)) (by decide) rfl (Nat.le_of_ble_eq_true rfl) (by omega) (t_X5_has (d := d - 1) (by omega) (by omega) hX c0) ?_
  refine ev_ifT (tgt := 17) dX11_about_11 (by decide) (by show ¬ (1 : Int32) = 0; decide) ?_
  refine ev_iload_n dX11_about_17 rfl ?_
  refine ev_tabO (tgt := 140) dX11_about_18 c1 (by decide) ?_
  refine ev_ldc (v := (-1000000001)) dX11_about_140 kw_11_61 ?_
  exact ev_iret dX11_about_142 rfl rfl hp
theorem bX11_about_0_1 {g : GG} {d n : Nat} {post : Option Value → LX → Prop} {X : LX} (hd : 1 ≤ d) (hn : 146 ≤ n) (hX : Sh n X) {v1 : Nat} {v2 : Int32} (c0 : 0 ≤ (nI v1) ∧ (nI v1) < X 23 0) (c1 : v2 = 0) (b0 : v1 < 10) (hp : post (some (.int (X 24 v1))) X) : Ev g mX11_about d n n post n 0 [some (.ref 0), some (.int (nI v1)), some (.int v2)] [] X := by
  refine ev_aload_n dX11_about_0 rfl ?_
  refine ev_getS (q := 1) dX11_about_1 fo_11_10 (by omega) lo_0 rfl (sh_0_0 hX (by omega)) (by decide) ?_
  refine ev_getS (q := 23) dX11_about_4 fo_11_96 (by omega) lo_1 rfl (sh_1_1 hX (by omega)) (by decide) ?_
  refine ev_iload_n dX11_about_7 rfl ?_
  refine e_Vi (as := [.int (nI v1)]) (rest := []) dX11_about_8 vX5_has ml_11_109 isX5_has seX5_has npX5_has (rc_23 (by omega)) (by decide) rfl (Nat.le_of_ble_eq_true rfl) (by omega) (t_X5_has (d := d - 1) (by omega) (by omega) hX c0) ?_
  refine ev_ifT (tgt := 17) dX11_about_11 (by decide) (by show ¬ (1 : Int32) = 0; decide) ?_
  refine ev_iload_n dX11_about_17 rfl ?_
  refine ev_tabI (tgt := 60) (off := 42) dX11_about_18 (by rw [c1]; decide) (by rw [c1]; decide) (by rw [c1]; rfl) (by decide) ?_
  refine ev_aload_n dX11_about_60 rfl ?_
  refine ev_getS (q := 1) dX11_about_61 fo_11_10 (by omega) lo_0 rfl (sh_0_0 hX (by omega)) (by decide) ?_
  refine ev_getS (q := 23) dX11_about_64 fo_11_96 (by omega) lo_1 rfl (sh_1_1 hX (by omega)) (by decide) ?_
  refine ev_getS (q := 24) dX11_about_67 fo_11_103 (by omega) lo_23 rfl (sh_23_1 hX (by omega)) (by decide) ?_
  refine ev_iload_n dX11_about_70 rfl ?_
  refine ev_iald dX11_about_71 (by omega) ly_24 rfl b0 ?_
  exact ev_iret dX11_about_72 rfl rfl hp
theorem bX11_about_0_2 {g : GG} {d n : Nat} {post : Option Value → LX → Prop} {X : LX} (hd : 1 ≤ d) (hn : 146 ≤ n) (hX : Sh n X) {v1 : Nat} {v2 : Int32} (c0 : 0 ≤ (nI v1) ∧ (nI v1) < X 23 0) (c1 : v2 = 1) (b0 : v1 < 10) (hp : post (some (.int (X 25 v1))) X) : Ev g mX11_about d n n post n 0 [some (.ref 0), some (.int (nI v1)), some (.int v2)] [] X := by
  refine ev_aload_n dX11_about_0 rfl ?_
  refine ev_getS (q := 1) dX11_about_1 fo_11_10 (by omega) lo_0 rfl (sh_0_0 hX (by omega)) (by decide) ?_
  refine ev_getS (q := 23) dX11_about_4 fo_11_96 (by omega) lo_1 rfl (sh_1_1 hX (by omega)) (by decide) ?_
  refine ev_iload_n dX11_about_7 rfl ?_
  refine e_Vi (as := [.int (nI v1)]) (rest := []) dX11_about_8 vX5_has ml_11_109 isX5_has seX5_has npX5_has (rc_23 (by omega)) (by decide) rfl (Nat.le_of_ble_eq_true rfl) (by omega) (t_X5_has (d := d - 1) (by omega) (by omega) hX c0) ?_
  refine ev_ifT (tgt := 17) dX11_about_11 (by decide) (by show ¬ (1 : Int32) = 0; decide) ?_
  refine ev_iload_n dX11_about_17 rfl ?_
  refine ev_tabI (tgt := 73) (off := 55) dX11_about_18 (by rw [c1]; decide) (by rw [c1]; decide) (by rw [c1]; rfl) (by decide) ?_
  refine ev_aload_n dX11_about_73 rfl ?_
  refine ev_getS (q := 1) dX11_about_74 fo_11_10 (by omega) lo_0 rfl (sh_0_0 hX (by omega)) (by decide) ?_
  refine ev_getS (q := 23) dX11_about_77 fo_11_96 (by omega) lo_1 rfl (sh_1_1 hX (by omega)) (by decide) ?_
  refine ev_getS (q := 25) dX11_about_80 fo_11_106 (by omega) lo_23 rfl (sh_23_2 hX (by omega)) (by decide) ?_
  refine ev_iload_n dX11_about_83 rfl ?_
  refine ev_iald dX11_about_84 (by omega) ly_25 rfl b0 ?_
  exact ev_iret dX11_about_85 rfl rfl hp
theorem bX11_about_0_3 {g : GG} {d n : Nat} {post : Option Value → LX → Prop} {X : LX} (hd : 1 ≤ d) (hn : 146 ≤ n) (hX : Sh n X) {v1 : Nat} {v2 : Int32} (c0 : 0 ≤ (nI v1) ∧ (nI v1) < X 23 0) (c1 : v2 = 2) (c2 : v1 < 10) (c3 : num X 2 0 14) (hp : post (some (.int (cAll X v1))) X) : Ev g mX11_about d n n post n 0 [some (.ref 0), some (.int (nI v1)), some (.int v2)] [] X := by
  refine ev_aload_n dX11_about_0 rfl ?_
  refine ev_getS (q := 1) dX11_about_1 fo_11_10 (by omega) lo_0 rfl (sh_0_0 hX (by omega)) (by decide) ?_
  refine ev_getS (q := 23) dX11_about_4 fo_11_96 (by omega) lo_1 rfl (sh_1_1 hX (by omega)) (by decide) ?_
  refine ev_iload_n dX11_about_7 rfl ?_
  refine e_Vi (as := [.int (nI v1)]) (rest := []) dX11_about_8 vX5_has ml_11_109 isX5_has seX5_has npX5_has (rc_23 (by omega)) (by decide) rfl (Nat.le_of_ble_eq_true rfl) (by omega) (t_X5_has (d := d - 1) (by omega) (by omega) hX c0) ?_
  refine ev_ifT (tgt := 17) dX11_about_11 (by decide) (by show ¬ (1 : Int32) = 0; decide) ?_
  refine ev_iload_n dX11_about_17 rfl ?_
  refine ev_tabI (tgt := 86) (off := 68) dX11_about_18 (by rw [c1]; decide) (by rw [c1]; decide) (by rw [c1]; rfl) (by decide) ?_
  refine ev_aload_n dX11_about_86 rfl ?_
  refine ev_getS (q := 1) dX11_about_87 fo_11_10 (by omega) lo_0 rfl (sh_0_0 hX (by omega)) (by decide) ?_
  refine ev_iload_n dX11_about_90 rfl ?_
  refine e_Vi (as := [.int (nI v1)]) (rest := []) dX11_about_91 vX1_allergensOf ml_11_132 isX1_allergensOf seX1_allergensOf npX1_allergensOf (rc_1 (by omega)) (by decide) rfl (Nat.le_of_ble_eq_true rfl) (by omega) (k_X1_allergensOf (d := d - 1) (by omega) (by omega) hX c2 c3) ?_
  exact ev_iret dX11_about_94 rfl rfl hp
theorem bX11_about_0_4 {g : GG} {d n : Nat} {post : Option Value → LX → Prop} {X : LX} (hd : 1 ≤ d) (hn : 146 ≤ n) (hX : Sh n X) {v1 : Nat} {v2 : Int32} (c0 : 0 ≤ (nI v1) ∧ (nI v1) < X 23 0) (c1 : v2 = 3) (c2 : v1 < 10) (c3 : num X 2 0 14) (hp : post (some (.int (cCost X v1))) X) : Ev g mX11_about d n n post n 0 [some (.ref 0), some (.int (nI v1)), some (.int v2)] [] X := by
  refine ev_aload_n dX11_about_0 rfl ?_
  refine ev_getS (q := 1) dX11_about_1 fo_11_10 (by omega) lo_0 rfl (sh_0_0 hX (by omega)) (by decide) ?_
  refine ev_getS (q := 23) dX11_about_4 fo_11_96 (by omega) lo_1 rfl (sh_1_1 hX (by omega)) (by decide) ?_
  refine ev_iload_n dX11_about_7 rfl ?_
  refine e_Vi (as := [.int (nI v1)]) (rest := []) dX11_about_8 vX5_has ml_11_109 isX5_has seX5_has npX5_has (rc_23 (by omega)) (by decide) rfl (Nat.le_of_ble_eq_true rfl) (by omega) (t_X5_has (d := d - 1) (by omega) (by omega) hX c0) ?_
  refine ev_ifT (tgt := 17) dX11_about_11 (by decide) (by show ¬ (1 : Int32) = 0; decide) ?_
  refine ev_iload_n dX11_about_17 rfl ?_
  refine ev_tabI (tgt := 95) (off := 77) dX11_about_18 (by rw [c1]; decide) (by rw [c1]; decide) (by rw [c1]; rfl) (by decide) ?_
  refine ev_aload_n dX11_about_95 rfl ?_
  refine ev_getS (q := 1) dX11_about_96 fo_11_10 (by omega) lo_0 rfl (sh_0_0 hX (by omega)) (by decide) ?_
  refine ev_iload_n dX11_about_99 rfl ?_
  refine e_Vi (as := [.int (nI v1)]) (rest := []) dX11_about_100 vX1_costOf ml_11_135 isX1_costOf seX1_costOf npX1_costOf (rc_1 (by omega)) (by decide) rfl (Nat.le_of_ble_eq_true rfl) (by omega) (k_X1_costOf (d := d - 1) (by omega) (by omega) hX c2 c3) ?_
  exact ev_iret dX11_about_103 rfl rfl hp
theorem bX11_about_0_5 {g : GG} {d n : Nat} {post : Option Value → LX → Prop} {X : LX} (hd : 1 ≤ d) (hn : 146 ≤ n) (hX : Sh n X) {v1 : Nat} {v2 : Int32} (c0 : 0 ≤ (nI v1) ∧ (nI v1) < X 23 0) (c1 : v2 = 4) (c2 : v1 < 10) (hp : post (some (.int (cCnt X v1))) X) : Ev g mX11_about d n n post n 0 [some (.ref 0), some (.int (nI v1)), some (.int v2)] [] X := by
  refine ev_aload_n dX11_about_0 rfl ?_
  refine ev_getS (q := 1) dX11_about_1 fo_11_10 (by omega) lo_0 rfl (sh_0_0 hX (by omega)) (by decide) ?_
  refine ev_getS (q := 23) dX11_about_4 fo_11_96 (by omega) lo_1 rfl (sh_1_1 hX (by omega)) (by decide) ?_
  refine ev_iload_n dX11_about_7 rfl ?_
  refine e_Vi (as := [.int (nI v1)]) (rest := []) dX11_about_8 vX5_has ml_11_109 isX5_has seX5_has npX5_has (rc_23 (by omega)) (by decide) rfl (Nat.le_of_ble_eq_true rfl) (by omega) (t_X5_has (d := d - 1) (by omega) (by omega) hX c0) ?_
  refine ev_ifT (tgt := 17) dX11_about_11 (by decide) (by show ¬ (1 : Int32) = 0; decide) ?_
  refine ev_iload_n dX11_about_17 rfl ?_
  refine ev_tabI (tgt := 104) (off := 86) dX11_about_18 (by rw [c1]; decide) (by rw [c1]; decide) (by rw [c1]; rfl) (by decide) ?_
  refine ev_aload_n dX11_about_104 rfl ?_
  refine ev_getS (q := 1) dX11_about_105 fo_11_10 (by omega) lo_0 rfl (sh_0_0 hX (by omega)) (by decide) ?_
  refine ev_getS (q := 23) dX11_about_108 fo_11_96 (by omega) lo_1 rfl (sh_1_1 hX (by omega)) (by decide) ?_
  refine ev_iload_n dX11_about_111 rfl ?_
  refine e_Vi (as := [.int (nI v1)]) (rest := []) dX11_about_112 vX5_partsIn ml_11_128 isX5_partsIn seX5_partsIn npX5_partsIn (rc_23 (by omega)) (by decide) rfl (Nat.le_of_ble_eq_true rfl) (by omega) (k_X5_partsIn (d := d - 1) (by omega) (by omega) hX c2) ?_
  exact ev_iret dX11_about_115 rfl rfl hp
theorem bX11_about_0_6 {g : GG} {d n : Nat} {post : Option Value → LX → Prop} {X : LX} (hd : 1 ≤ d) (hn : 146 ≤ n) (hX : Sh n X) {v1 : Nat} {v2 : Int32} (c0 : 0 ≤ (nI v1) ∧ (nI v1) < X 23 0) (c1 : v2 = 5) (c2 : v1 < 10) (hp : post (some (.int (cGr X v1))) X) : Ev g mX11_about d n n post n 0 [some (.ref 0), some (.int (nI v1)), some (.int v2)] [] X := by
  refine ev_aload_n dX11_about_0 rfl ?_
  refine ev_getS (q := 1) dX11_about_1 fo_11_10 (by omega) lo_0 rfl (sh_0_0 hX (by omega)) (by decide) ?_
  refine ev_getS (q := 23) dX11_about_4 fo_11_96 (by omega) lo_1 rfl (sh_1_1 hX (by omega)) (by decide) ?_
  refine ev_iload_n dX11_about_7 rfl ?_
  refine e_Vi (as := [.int (nI v1)]) (rest := []) dX11_about_8 vX5_has ml_11_109 isX5_has seX5_has npX5_has (rc_23 (by omega)) (by decide) rfl (Nat.le_of_ble_eq_true rfl) (by omega) (t_X5_has (d := d - 1) (by omega) (by omega) hX c0) ?_
  refine ev_ifT (tgt := 17) dX11_about_11 (by decide) (by show ¬ (1 : Int32) = 0; decide) ?_
  refine ev_iload_n dX11_about_17 rfl ?_
  refine ev_tabI (tgt := 116) (off := 98) dX11_about_18 (by rw [c1]; decide) (by rw [c1]; decide) (by rw [c1]; rfl) (by decide) ?_
  refine ev_aload_n dX11_about_116 rfl ?_
  refine ev_getS (q := 1) dX11_about_117 fo_11_10 (by omega) lo_0 rfl (sh_0_0 hX (by omega)) (by decide) ?_
  refine ev_getS (q := 23) dX11_about_120 fo_11_96 (by omega) lo_1 rfl (sh_1_1 hX (by omega)) (by decide) ?_
  refine ev_iload_n dX11_about_123 rfl ?_
  refine e_Vi (as := [.int (nI v1)]) (rest := []) dX11_about_124 vX5_gramsOf ml_11_138 isX5_gramsOf seX5_gramsOf npX5_gramsOf (rc_23 (by omega)) (by decide) rfl (Nat.le_of_ble_eq_true rfl) (by omega) (k_X5_gramsOf (d := d - 1) (by omega) (by omega) hX c2) ?_
  exact ev_iret dX11_about_127 rfl rfl hp
theorem bX11_about_0_7 {g : GG} {d n : Nat} {post : Option Value → LX → Prop} {X : LX} (hd : 1 ≤ d) (hn : 146 ≤ n) (hX : Sh n X) {v1 : Int32} {v2 : Int32} (c0 : 0 ≤ v1 ∧ v1 < X 23 0) (c1 : v2 = 6) (k : Ev g mX11_about d n n post n 133 [some (.ref 0), some (.int v1), some (.int v2)] [.int v1, .ref 1] X) : Ev g mX11_about d n n post n 0 [some (.ref 0), some (.int v1), some (.int v2)] [] X := by
  refine ev_aload_n dX11_about_0 rfl ?_
  refine ev_getS (q := 1) dX11_about_1 fo_11_10 (by omega) lo_0 rfl (sh_0_0 hX (by omega)) (by decide) ?_
  refine ev_getS (q := 23) dX11_about_4 fo_11_96 (by omega) lo_1 rfl (sh_1_1 hX (by omega)) (by decide) ?_
  refine ev_iload_n dX11_about_7 rfl ?_
  refine e_Vi (as := [.int v1]) (rest := []) dX11_about_8 vX5_has ml_11_109 isX5_has seX5_has npX5_has (rc_23 (by omega)) (by decide) rfl (Nat.le_of_ble_eq_true rfl) (by omega) (t_X5_has (d := d - 1) (by omega) (by omega) hX c0) ?_
  refine ev_ifT (tgt := 17) dX11_about_11 (by decide) (by show ¬ (1 : Int32) = 0; decide) ?_
  refine ev_iload_n dX11_about_17 rfl ?_
  refine ev_tabI (tgt := 128) (off := 110) dX11_about_18 (by rw [c1]; decide) (by rw [c1]; decide) (by rw [c1]; rfl) (by decide) ?_
  refine ev_aload_n dX11_about_128 rfl ?_
  refine ev_getS (q := 1) dX11_about_129 fo_11_10 (by omega) lo_0 rfl (sh_0_0 hX (by omega)) (by decide) ?_
  refine ev_iload_n dX11_about_132 rfl ?_
  exact k
theorem bX11_about_0_8 {g : GG} {d n : Nat} {post : Option Value → LX → Prop} {X : LX} (hd : 1 ≤ d) (hn : 146 ≤ n) (hX : Sh n X) {v1 : Int32} {v2 : Int32} (c0 : ¬ (0 ≤ v1 ∧ v1 < X 23 0)) (hp : post (some (.int (-1000000001))) X) : Ev g mX11_about d n n post n 0 [some (.ref 0), some (.int v1), some (.int v2)] [] X := by
  refine ev_aload_n dX11_about_0 rfl ?_
  refine ev_getS (q := 1) dX11_about_1 fo_11_10 (by omega) lo_0 rfl (sh_0_0 hX (by omega)) (by decide) ?_
  refine ev_getS (q := 23) dX11_about_4 fo_11_96 (by omega) lo_1 rfl (sh_1_1 hX (by omega)) (by decide) ?_
  refine ev_iload_n dX11_about_7 rfl ?_
  refine e_Vi (as := [.int v1]) (rest := []) dX11_about_8 vX5_has ml_11_109 isX5_has seX5_has npX5_has (rc_23 (by omega)) (by decide) rfl (Nat.le_of_ble_eq_true rfl) (by omega) (f_X5_has (d := d - 1) (by omega) (by omega) hX c0) ?_
  refine ev_ifF (tgt := 17) dX11_about_11 (by decide) (by show (0 : Int32) = 0; decide) ?_
  refine ev_ldc (v := (-1000000001)) dX11_about_14 kw_11_61 ?_
  exact ev_iret dX11_about_16 rfl rfl hp
theorem bX11_about_136_0 {g : GG} {d n : Nat} {post : Option Value → LX → Prop} {X : LX} (hd : 1 ≤ d) (hn : 146 ≤ n) (hX : Sh n X) {v1 : Int32} {v2 : Int32} {s0 : Int32} (c0 : ¬ s0 = 0) (hp : post (some (.int 1)) X) : Ev g mX11_about d n n post n 136 [some (.ref 0), some (.int v1), some (.int v2)] [.int s0] X := by
  refine e_Si (as := [.int s0]) (rest := []) dX11_about_136 vX11_truth ml_11_114 stX11_truth npX11_truth (by decide) rfl (Nat.le_of_ble_eq_true rfl) (by omega) (t_X11_truth (d := d - 1) (by omega) (by omega) hX c0) ?_
  exact ev_iret dX11_about_139 rfl rfl hp
theorem bX11_about_136_1 {g : GG} {d n : Nat} {post : Option Value → LX → Prop} {X : LX} (hd : 1 ≤ d) (hn : 146 ≤ n) (hX : Sh n X) {v1 : Int32} {v2 : Int32} {s0 : Int32} (c0 : ¬ (¬ s0 = 0)) (hp : post (some (.int 0)) X) : Ev g mX11_about d n n post n 136 [some (.ref 0), some (.int v1), some (.int v2)] [.int s0] X := by
  refine e_Si (as := [.int s0]) (rest := []) dX11_about_136 vX11_truth ml_11_114 stX11_truth npX11_truth (by decide) rfl (Nat.le_of_ble_eq_true rfl) (by omega) (f_X11_truth (d := d - 1) (by omega) (by omega) hX c0) ?_
  exact ev_iret dX11_about_139 rfl rfl hp
theorem bX11_ice_0_0 {g : GG} {d n : Nat} {post : Option Value → LX → Prop} {X : LX} (hd : 1 ≤ d) (hn : 146 ≤ n) (hX : Sh n X) {v1 : Int32} (c0 : 0 ≤ v1 ∧ v1 < X 37 0) (k : Ev g mX11_ice d n n post n 22 [some (.ref 0), some (.int v1)] [.int v1, .ref 1] X) : Ev g mX11_ice d n n post n 0 [some (.ref 0), some (.int v1)] [] X := by
  refine ev_aload_n dX11_ice_0 rfl ?_
  refine ev_getS (q := 1) dX11_ice_1 fo_11_10 (by omega) lo_0 rfl (sh_0_0 hX (by omega)) (by decide) ?_
  refine ev_getS (q := 37) dX11_ice_4 fo_11_144 (by omega) lo_1 rfl (sh_1_2 hX (by omega)) (by decide) ?_
  refine ev_iload_n dX11_ice_7 rfl ?_
  refine e_Vi (as := [.int v1]) (rest := []) dX11_ice_8 vX0_has ml_11_163 isX0_has seX0_has npX0_has (rc_37 (by omega)) (by decide) rfl (Nat.le_of_ble_eq_true rfl) (by omega) (t_X0_has (d := d - 1) (by omega) (by omega) hX c0) ?_
  refine ev_ifT (tgt := 17) dX11_ice_11 (by decide) (by show ¬ (1 : Int32) = 0; decide) ?_
  refine ev_aload_n dX11_ice_17 rfl ?_
  refine ev_getS (q := 1) dX11_ice_18 fo_11_10 (by omega) lo_0 rfl (sh_0_0 hX (by omega)) (by decide) ?_
  refine ev_iload_n dX11_ice_21 rfl ?_
  exact k
theorem bX11_ice_0_1 {g : GG} {d n : Nat} {post : Option Value → LX → Prop} {X : LX} (hd : 1 ≤ d) (hn : 146 ≤ n) (hX : Sh n X) {v1 : Int32} (c0 : ¬ (0 ≤ v1 ∧ v1 < X 37 0)) (hp : post (some (.int (-1000000001))) X) : Ev g mX11_ice d n n post n 0 [some (.ref 0), some (.int v1)] [] X := by
  refine ev_aload_n dX11_ice_0 rfl ?_
  refine ev_getS (q := 1) dX11_ice_1 fo_11_10 (by omega) lo_0 rfl (sh_0_0 hX (by omega)) (by decide) ?_
  refine ev_getS (q := 37) dX11_ice_4 fo_11_144 (by omega) lo_1 rfl (sh_1_2 hX (by omega)) (by decide) ?_
  refine ev_iload_n dX11_ice_7 rfl ?_
  refine e_Vi (as := [.int v1]) (rest := []) dX11_ice_8 vX0_has ml_11_163 isX0_has seX0_has npX0_has (rc_37 (by omega)) (by decide) rfl (Nat.le_of_ble_eq_true rfl) (by omega) (f_X0_has (d := d - 1) (by omega) (by omega) hX c0) ?_
  refine ev_ifF (tgt := 17) dX11_ice_11 (by decide) (by show (0 : Int32) = 0; decide) ?_
  refine ev_ldc (v := (-1000000001)) dX11_ice_14 kw_11_61 ?_
  exact ev_iret dX11_ice_16 rfl rfl hp
theorem bX11_ice_25_0 {g : GG} {d n : Nat} {post : Option Value → LX → Prop} {X : LX} (hn : 146 ≤ n) (hX : Sh n X) {v1 : Int32} {s0 : Int32} (hp : post (some (.int s0)) X) : Ev g mX11_ice d n n post n 25 [some (.ref 0), some (.int v1)] [.int s0] X := by
  exact ev_iret dX11_ice_25 rfl rfl hp
theorem bX12_ofMark_0_0 {g : GG} {d n : Nat} {post : Option Value → LX → Prop} {X : LX} (hd : 2 ≤ d) (hn : 146 ≤ n) (hX : Sh n X) {v1 : Int32} {v2 : Nat} (c0 : v1 = 0) (c1 : v2 < 10) (c2 : okM X v2) (hp : post (some (.int (mGr X v2))) X) : Ev g mX12_ofMark d n n post n 0 [some (.ref 133), some (.int v1), some (.int (nI v2))] [] X := by
  refine ev_iload_n dX12_ofMark_0 rfl ?_
  refine ev_ifF (tgt := 12) dX12_ofMark_1 (by decide) c0 ?_
  refine ev_aload_n dX12_ofMark_4 rfl ?_
  refine ev_iload_n dX12_ofMark_5 rfl ?_
  refine e_Vi (as := [.int (nI v2)]) (rest := []) dX12_ofMark_6 vX12_grams ml_12_93 isX12_grams seX12_grams npX12_grams (rc_133 (by omega)) (by decide) rfl (Nat.le_of_ble_eq_true rfl) (by omega) (k_X12_grams (d := d - 1) (by omega) (by omega) hX c1 c2) ?_
  refine ev_goto (tgt := 69) dX12_ofMark_9 (by decide) ?_
  exact ev_iret dX12_ofMark_69 rfl rfl hp
theorem bX12_ofMark_0_1 {g : GG} {d n : Nat} {post : Option Value → LX → Prop} {X : LX} (hd : 1 ≤ d) (hn : 146 ≤ n) (hX : Sh n X) {v1 : Int32} {v2 : Nat} (c0 : ¬ v1 = 0) (c1 : v1 = 1) (b0 : ((318 + (13 * v2)) + 2) < 2156) (hp : post (some (.int (X 134 ((318 + (13 * v2)) + 2)))) X) : Ev g mX12_ofMark d n n post n 0 [some (.ref 133), some (.int v1), some (.int (nI v2))] [] X := by
  refine ev_iload_n dX12_ofMark_0 rfl ?_
  refine ev_ifT (tgt := 12) dX12_ofMark_1 (by decide) c0 ?_
  refine ev_iload_n dX12_ofMark_12 rfl ?_
  refine ev_iconst (v := 1) dX12_ofMark_13 ki_1 ?_
  refine ev_icmpF (tgt := 30) dX12_ofMark_14 (by decide) c1 ?_
  refine ev_aload_n dX12_ofMark_17 rfl ?_
  refine ev_getS (q := 134) dX12_ofMark_18 fo_12_9 (by omega) lo_133 rfl (sh_133_0 hX (by omega)) (by decide) ?_
  refine ev_iload_n dX12_ofMark_21 rfl ?_
  refine ev_iconst (v := 2) dX12_ofMark_22 ki_2 ?_
  refine e_Si (as := [.int (nI v2), .int 2]) (rest := [.ref 134]) dX12_ofMark_23 vX12_ofMeal ml_12_67 stX12_ofMeal npX12_ofMeal (by decide) rfl (Nat.le_of_ble_eq_true rfl) (by omega) (c_X12_ofMeal (d := d - 1) (by omega) (by omega) hX ) ?_
  refine ev_iald dX12_ofMark_26 (by omega) ly_134 (by show (nI 318 + (nI 13 * nI v2)) + nI 2 = nI ((318 + (13 * v2)) + 2); simp only [pk_mul, nI_add]) b0 ?_
  refine ev_goto (tgt := 69) dX12_ofMark_27 (by decide) ?_
  exact ev_iret dX12_ofMark_69 rfl rfl hp
theorem bX12_ofMark_0_2 {g : GG} {d n : Nat} {post : Option Value → LX → Prop} {X : LX} (hd : 2 ≤ d) (hn : 146 ≤ n) (hX : Sh n X) {v1 : Int32} {v2 : Nat} (c0 : ¬ v1 = 0) (c1 : ¬ v1 = 1) (c2 : v1 = 2) (c3 : v2 < 10) (c4 : okM X v2) (hp : post (some (.int (ones (mAll X v2)))) X) : Ev g mX12_ofMark d n n post n 0 [some (.ref 133), some (.int v1), some (.int (nI v2))] [] X := by
  refine ev_iload_n dX12_ofMark_0 rfl ?_
  refine ev_ifT (tgt := 12) dX12_ofMark_1 (by decide) c0 ?_
  refine ev_iload_n dX12_ofMark_12 rfl ?_
  refine ev_iconst (v := 1) dX12_ofMark_13 ki_1 ?_
  refine ev_icmpT (tgt := 30) dX12_ofMark_14 (by decide) c1 ?_
  refine ev_iload_n dX12_ofMark_30 rfl ?_
  refine ev_iconst (v := 2) dX12_ofMark_31 ki_2 ?_
  refine ev_icmpF (tgt := 46) dX12_ofMark_32 (by decide) c2 ?_
  refine ev_aload_n dX12_ofMark_35 rfl ?_
  refine ev_iload_n dX12_ofMark_36 rfl ?_
  refine e_Vi (as := [.int (nI v2)]) (rest := []) dX12_ofMark_37 vX12_allergens ml_12_86 isX12_allergens seX12_allergens npX12_allergens (rc_133 (by omega)) (by decide) rfl (Nat.le_of_ble_eq_true rfl) (by omega) (k_X12_allergens (d := d - 1) (by omega) (by omega) hX c3 c4) ?_
  refine e_Si (as := [.int (mAll X v2)]) (rest := []) dX12_ofMark_40 vX12_ones ml_12_109 stX12_ones npX12_ones (by decide) rfl (Nat.le_of_ble_eq_true rfl) (by omega) (k_X12_ones (d := d - 1) (by omega) (by omega) hX ) ?_
  refine ev_goto (tgt := 69) dX12_ofMark_43 (by decide) ?_
  exact ev_iret dX12_ofMark_69 rfl rfl hp
theorem bX12_ofMark_0_3 {g : GG} {d n : Nat} {post : Option Value → LX → Prop} {X : LX} (hd : 1 ≤ d) (hn : 146 ≤ n) (hX : Sh n X) {v1 : Int32} {v2 : Nat} (c0 : ¬ v1 = 0) (c1 : ¬ v1 = 1) (c2 : ¬ v1 = 2) (c3 : v1 = 3) (b0 : ((318 + (13 * v2)) + 0) < 2156) (hp : post (some (.int (X 134 ((318 + (13 * v2)) + 0)))) X) : Ev g mX12_ofMark d n n post n 0 [some (.ref 133), some (.int v1), some (.int (nI v2))] [] X := by
  refine ev_iload_n dX12_ofMark_0 rfl ?_
  refine ev_ifT (tgt := 12) dX12_ofMark_1 (by decide) c0 ?_
  refine ev_iload_n dX12_ofMark_12 rfl ?_
  refine ev_iconst (v := 1) dX12_ofMark_13 ki_1 ?_
  refine ev_icmpT (tgt := 30) dX12_ofMark_14 (by decide) c1 ?_
  refine ev_iload_n dX12_ofMark_30 rfl ?_
  refine ev_iconst (v := 2) dX12_ofMark_31 ki_2 ?_
  refine ev_icmpT (tgt := 46) dX12_ofMark_32 (by decide) c2 ?_
  refine ev_iload_n dX12_ofMark_46 rfl ?_
  refine ev_iconst (v := 3) dX12_ofMark_47 ki_3 ?_
  refine ev_icmpF (tgt := 64) dX12_ofMark_48 (by decide) c3 ?_
  refine ev_aload_n dX12_ofMark_51 rfl ?_
  refine ev_getS (q := 134) dX12_ofMark_52 fo_12_9 (by omega) lo_133 rfl (sh_133_0 hX (by omega)) (by decide) ?_
  refine ev_iload_n dX12_ofMark_55 rfl ?_
  refine ev_iconst (v := 0) dX12_ofMark_56 ki_0 ?_
  refine e_Si (as := [.int (nI v2), .int 0]) (rest := [.ref 134]) dX12_ofMark_57 vX12_ofMeal ml_12_67 stX12_ofMeal npX12_ofMeal (by decide) rfl (Nat.le_of_ble_eq_true rfl) (by omega) (c_X12_ofMeal (d := d - 1) (by omega) (by omega) hX ) ?_
  refine ev_iald dX12_ofMark_60 (by omega) ly_134 (by show (nI 318 + (nI 13 * nI v2)) + nI 0 = nI ((318 + (13 * v2)) + 0); simp only [pk_mul, nI_add]) b0 ?_
  refine ev_goto (tgt := 69) dX12_ofMark_61 (by decide) ?_
  exact ev_iret dX12_ofMark_69 rfl rfl hp
theorem bX12_ofMark_0_4 {g : GG} {d n : Nat} {post : Option Value → LX → Prop} {X : LX} (hd : 2 ≤ d) (hn : 146 ≤ n) (hX : Sh n X) {v1 : Int32} {v2 : Nat} (c0 : ¬ v1 = 0) (c1 : ¬ v1 = 1) (c2 : ¬ v1 = 2) (c3 : ¬ v1 = 3) (c4 : v2 < 10) (c5 : okM X v2) (hp : post (some (.int (mCost X v2))) X) : Ev g mX12_ofMark d n n post n 0 [some (.ref 133), some (.int v1), some (.int (nI v2))] [] X := by
  refine ev_iload_n dX12_ofMark_0 rfl ?_
  refine ev_ifT (tgt := 12) dX12_ofMark_1 (by decide) c0 ?_
  refine ev_iload_n dX12_ofMark_12 rfl ?_
  refine ev_iconst (v := 1) dX12_ofMark_13 ki_1 ?_
  refine ev_icmpT (tgt := 30) dX12_ofMark_14 (by decide) c1 ?_
  refine ev_iload_n dX12_ofMark_30 rfl ?_
  refine ev_iconst (v := 2) dX12_ofMark_31 ki_2 ?_
  refine ev_icmpT (tgt := 46) dX12_ofMark_32 (by decide) c2 ?_
  refine ev_iload_n dX12_ofMark_46 rfl ?_
  refine ev_iconst (v := 3) dX12_ofMark_47 ki_3 ?_
  refine ev_icmpT (tgt := 64) dX12_ofMark_48 (by decide) c3 ?_
  refine ev_aload_n dX12_ofMark_64 rfl ?_
  refine ev_iload_n dX12_ofMark_65 rfl ?_
  refine e_Vi (as := [.int (nI v2)]) (rest := []) dX12_ofMark_66 vX12_cost ml_12_90 isX12_cost seX12_cost npX12_cost (rc_133 (by omega)) (by decide) rfl (Nat.le_of_ble_eq_true rfl) (by omega) (k_X12_cost (d := d - 1) (by omega) (by omega) hX c4 c5) ?_
  exact ev_iret dX12_ofMark_69 rfl rfl hp
theorem bX12_ofIce_0_0 {g : GG} {d n : Nat} {post : Option Value → LX → Prop} {X : LX} (hd : 5 ≤ d) (hn : 146 ≤ n) (hX : Sh n X) {v1 : Int32} {v2 : Nat} (c0 : v2 < 12) (c1 : okN X) (k : Ev g mX12_ofIce d n n post n 15 [some (.ref 133), some (.int v1), some (.int (nI v2)), some (.int (mBox X v2)), some (.int 0), some (.int 0), some (.int 0)] [] X) : Ev g mX12_ofIce d n n post n 0 [some (.ref 133), some (.int v1), some (.int (nI v2)), none, none, none, none] [] X := by
  refine ev_aload_n dX12_ofIce_0 rfl ?_
  refine ev_iload_n dX12_ofIce_1 rfl ?_
  refine e_Vi (as := [.int (nI v2)]) (rest := []) dX12_ofIce_2 vX12_boxToday ml_12_115 isX12_boxToday seX12_boxToday npX12_boxToday (rc_133 (by omega)) (by decide) rfl (Nat.le_of_ble_eq_true rfl) (by omega) (k_X12_boxToday (d := d - 1) (by omega) (by omega) hX c0 c1) ?_
  refine ev_istore_n dX12_ofIce_5 (by decide) ?_
  refine ev_iconst (v := 0) dX12_ofIce_6 ki_0 ?_
  refine ev_istore dX12_ofIce_7 (by decide) ?_
  refine ev_iconst (v := 0) dX12_ofIce_9 ki_0 ?_
  refine ev_istore dX12_ofIce_10 (by decide) ?_
  refine ev_iconst (v := 0) dX12_ofIce_12 ki_0 ?_
  refine ev_istore dX12_ofIce_13 (by decide) ?_
  exact k
theorem bX12_ofIce_15_0 {g : GG} {d n : Nat} {post : Option Value → LX → Prop} {X : LX} (hd : 2 ≤ d) (hn : 146 ≤ n) (hX : Sh n X) {v1 : Int32} {v2 : Nat} {v3 : Int32} {v4 : Int32} {v5 : Int32} {v6 : Nat} (c0 : ¬ 10 ≤ nI v6) (c1 : (v3 >>> ((nI v6) &&& 31)) &&& 1 = 1) (c2 : v6 < 10) (c3 : okM X v6) (b0 : ((448 + (15 * v2)) + 1) < 2156) (b1 : ((318 + (13 * v6)) + 0) < 2156) (c4 : X 134 ((318 + (13 * v6)) + 0) = 3) (k : Ev g mX12_ofIce d n n post n 15 [some (.ref 133), some (.int v1), some (.int (nI v2)), some (.int v3), some (.int (v4 + ((mGr X v6) * (X 134 ((448 + (15 * v2)) + 1))))), some (.int 1), some (.int ((nI v6) + 1))] [] X) : Ev g mX12_ofIce d n n post n 15 [some (.ref 133), some (.int v1), some (.int (nI v2)), some (.int v3), some (.int v4), some (.int v5), some (.int (nI v6))] [] X := by
  refine ev_iload dX12_ofIce_15 rfl ?_
  refine ev_bipush (v := 10) dX12_ofIce_17 kb_10 ?_
  refine ev_icmpF (tgt := 95) dX12_ofIce_19 (by decide) c0 ?_
  refine ev_iload dX12_ofIce_22 rfl ?_
  refine ev_iload_n dX12_ofIce_24 rfl ?_
  refine ev_iload dX12_ofIce_25 rfl ?_
  refine e_Si (as := [.int v3, .int (nI v6)]) (rest := [.int v4]) dX12_ofIce_27 vX12_has ml_12_76 stX12_has npX12_has (by decide) rfl (Nat.le_of_ble_eq_true rfl) (by omega) (t_X12_has (d := d - 1) (by omega) (by omega) hX c1) ?_
  refine ev_ifF (tgt := 53) dX12_ofIce_30 (by decide) (by show ¬ (1 : Int32) = 0; decide) ?_
  refine ev_aload_n dX12_ofIce_33 rfl ?_
  refine ev_iload dX12_ofIce_34 rfl ?_
  refine e_Vi (as := [.int (nI v6)]) (rest := [.int v4]) dX12_ofIce_36 vX12_grams ml_12_93 isX12_grams seX12_grams npX12_grams (rc_133 (by omega)) (by decide) rfl (Nat.le_of_ble_eq_true rfl) (by omega) (k_X12_grams (d := d - 1) (by omega) (by omega) hX c2 c3) ?_
  refine ev_aload_n dX12_ofIce_39 rfl ?_
  refine ev_getS (q := 134) dX12_ofIce_40 fo_12_9 (by omega) lo_133 rfl (sh_133_0 hX (by omega)) (by decide) ?_
  refine ev_iload_n dX12_ofIce_43 rfl ?_
  refine ev_iconst (v := 1) dX12_ofIce_44 ki_1 ?_
  refine e_Si (as := [.int (nI v2), .int 1]) (rest := [.ref 134, .int (mGr X v6), .int v4]) dX12_ofIce_45 vX12_ofFamily ml_12_99 stX12_ofFamily npX12_ofFamily (by decide) rfl (Nat.le_of_ble_eq_true rfl) (by omega) (c_X12_ofFamily (d := d - 1) (by omega) (by omega) hX ) ?_
  refine ev_iald dX12_ofIce_48 (by omega) ly_134 (by show (nI 448 + (nI 15 * nI v2)) + nI 1 = nI ((448 + (15 * v2)) + 1); simp only [pk_mul, nI_add]) b0 ?_
  refine ev_imul dX12_ofIce_49 ?_
  refine ev_goto (tgt := 54) dX12_ofIce_50 (by decide) ?_
  refine ev_iadd dX12_ofIce_54 ?_
  refine ev_istore dX12_ofIce_55 (by decide) ?_
  refine ev_iload_n dX12_ofIce_57 rfl ?_
  refine ev_iload dX12_ofIce_58 rfl ?_
  refine e_Si (as := [.int v3, .int (nI v6)]) (rest := []) dX12_ofIce_60 vX12_has ml_12_76 stX12_has npX12_has (by decide) rfl (Nat.le_of_ble_eq_true rfl) (by omega) (t_X12_has (d := d - 1) (by omega) (by omega) hX c1) ?_
  refine ev_ifF (tgt := 85) dX12_ofIce_63 (by decide) (by show ¬ (1 : Int32) = 0; decide) ?_
  refine ev_aload_n dX12_ofIce_66 rfl ?_
  refine ev_getS (q := 134) dX12_ofIce_67 fo_12_9 (by omega) lo_133 rfl (sh_133_0 hX (by omega)) (by decide) ?_
  refine ev_iload dX12_ofIce_70 rfl ?_
  refine ev_iconst (v := 0) dX12_ofIce_72 ki_0 ?_
  refine e_Si (as := [.int (nI v6), .int 0]) (rest := [.ref 134]) dX12_ofIce_73 vX12_ofMeal ml_12_67 stX12_ofMeal npX12_ofMeal (by decide) rfl (Nat.le_of_ble_eq_true rfl) (by omega) (c_X12_ofMeal (d := d - 1) (by omega) (by omega) hX ) ?_
  refine ev_iald dX12_ofIce_76 (by omega) ly_134 (by show (nI 318 + (nI 13 * nI v6)) + nI 0 = nI ((318 + (13 * v6)) + 0); simp only [pk_mul, nI_add]) b1 ?_
  refine ev_iconst (v := 3) dX12_ofIce_77 ki_3 ?_
  refine ev_icmpF (tgt := 85) dX12_ofIce_78 (by decide) c4 ?_
  refine ev_iconst (v := 1) dX12_ofIce_81 ki_1 ?_
  refine ev_goto (tgt := 87) dX12_ofIce_82 (by decide) ?_
  refine ev_istore dX12_ofIce_87 (by decide) ?_
  refine ev_iinc (v := (nI v6) + 1) dX12_ofIce_89 rfl (by rw [show Int32.ofInt 1 = 1 from ki_1]) (by decide) ?_
  refine ev_goto (tgt := 15) dX12_ofIce_92 (by decide) ?_
  exact k
theorem bX12_ofIce_15_1 {g : GG} {d n : Nat} {post : Option Value → LX → Prop} {X : LX} (hd : 2 ≤ d) (hn : 146 ≤ n) (hX : Sh n X) {v1 : Int32} {v2 : Nat} {v3 : Int32} {v4 : Int32} {v5 : Int32} {v6 : Nat} (c0 : ¬ 10 ≤ nI v6) (c1 : (v3 >>> ((nI v6) &&& 31)) &&& 1 = 1) (c2 : v6 < 10) (c3 : okM X v6) (b0 : ((448 + (15 * v2)) + 1) < 2156) (b1 : ((318 + (13 * v6)) + 0) < 2156) (c4 : ¬ X 134 ((318 + (13 * v6)) + 0) = 3) (k : Ev g mX12_ofIce d n n post n 15 [some (.ref 133), some (.int v1), some (.int (nI v2)), some (.int v3), some (.int (v4 + ((mGr X v6) * (X 134 ((448 + (15 * v2)) + 1))))), some (.int v5), some (.int ((nI v6) + 1))] [] X) : Ev g mX12_ofIce d n n post n 15 [some (.ref 133), some (.int v1), some (.int (nI v2)), some (.int v3), some (.int v4), some (.int v5), some (.int (nI v6))] [] X := by
  refine ev_iload dX12_ofIce_15 rfl ?_
  refine ev_bipush (v := 10) dX12_ofIce_17 kb_10 ?_
  refine ev_icmpF (tgt := 95) dX12_ofIce_19 (by decide) c0 ?_
  refine ev_iload dX12_ofIce_22 rfl ?_
  refine ev_iload_n dX12_ofIce_24 rfl ?_
  refine ev_iload dX12_ofIce_25 rfl ?_
  refine e_Si (as := [.int v3, .int (nI v6)]) (rest := [.int v4]) dX12_ofIce_27 vX12_has ml_12_76 stX12_has npX12_has (by decide) rfl (Nat.le_of_ble_eq_true rfl) (by omega) (t_X12_has (d := d - 1) (by omega) (by omega) hX c1) ?_
  refine ev_ifF (tgt := 53) dX12_ofIce_30 (by decide) (by show ¬ (1 : Int32) = 0; decide) ?_
  refine ev_aload_n dX12_ofIce_33 rfl ?_
  refine ev_iload dX12_ofIce_34 rfl ?_
  refine e_Vi (as := [.int (nI v6)]) (rest := [.int v4]) dX12_ofIce_36 vX12_grams ml_12_93 isX12_grams seX12_grams npX12_grams (rc_133 (by omega)) (by decide) rfl (Nat.le_of_ble_eq_true rfl) (by omega) (k_X12_grams (d := d - 1) (by omega) (by omega) hX c2 c3) ?_
  refine ev_aload_n dX12_ofIce_39 rfl ?_
  refine ev_getS (q := 134) dX12_ofIce_40 fo_12_9 (by omega) lo_133 rfl (sh_133_0 hX (by omega)) (by decide) ?_
  refine ev_iload_n dX12_ofIce_43 rfl ?_
  refine ev_iconst (v := 1) dX12_ofIce_44 ki_1 ?_
  refine e_Si (as := [.int (nI v2), .int 1]) (rest := [.ref 134, .int (mGr X v6), .int v4]) dX12_ofIce_45 vX12_ofFamily ml_12_99 stX12_ofFamily npX12_ofFamily (by decide) rfl (Nat.le_of_ble_eq_true rfl) (by omega) (c_X12_ofFamily (d := d - 1) (by omega) (by omega) hX ) ?_
  refine ev_iald dX12_ofIce_48 (by omega) ly_134 (by show (nI 448 + (nI 15 * nI v2)) + nI 1 = nI ((448 + (15 * v2)) + 1); simp only [pk_mul, nI_add]) b0 ?_
  refine ev_imul dX12_ofIce_49 ?_
  refine ev_goto (tgt := 54) dX12_ofIce_50 (by decide) ?_
  refine ev_iadd dX12_ofIce_54 ?_
  refine ev_istore dX12_ofIce_55 (by decide) ?_
  refine ev_iload_n dX12_ofIce_57 rfl ?_
  refine ev_iload dX12_ofIce_58 rfl ?_
  refine e_Si (as := [.int v3, .int (nI v6)]) (rest := []) dX12_ofIce_60 vX12_has ml_12_76 stX12_has npX12_has (by decide) rfl (Nat.le_of_ble_eq_true rfl) (by omega) (t_X12_has (d := d - 1) (by omega) (by omega) hX c1) ?_
  refine ev_ifF (tgt := 85) dX12_ofIce_63 (by decide) (by show ¬ (1 : Int32) = 0; decide) ?_
  refine ev_aload_n dX12_ofIce_66 rfl ?_
  refine ev_getS (q := 134) dX12_ofIce_67 fo_12_9 (by omega) lo_133 rfl (sh_133_0 hX (by omega)) (by decide) ?_
  refine ev_iload dX12_ofIce_70 rfl ?_
  refine ev_iconst (v := 0) dX12_ofIce_72 ki_0 ?_
  refine e_Si (as := [.int (nI v6), .int 0]) (rest := [.ref 134]) dX12_ofIce_73 vX12_ofMeal ml_12_67 stX12_ofMeal npX12_ofMeal (by decide) rfl (Nat.le_of_ble_eq_true rfl) (by omega) (c_X12_ofMeal (d := d - 1) (by omega) (by omega) hX ) ?_
  refine ev_iald dX12_ofIce_76 (by omega) ly_134 (by show (nI 318 + (nI 13 * nI v6)) + nI 0 = nI ((318 + (13 * v6)) + 0); simp only [pk_mul, nI_add]) b1 ?_
  refine ev_iconst (v := 3) dX12_ofIce_77 ki_3 ?_
  refine ev_icmpT (tgt := 85) dX12_ofIce_78 (by decide) c4 ?_
  refine ev_iload dX12_ofIce_85 rfl ?_
  refine ev_istore dX12_ofIce_87 (by decide) ?_
  refine ev_iinc (v := (nI v6) + 1) dX12_ofIce_89 rfl (by rw [show Int32.ofInt 1 = 1 from ki_1]) (by decide) ?_
  refine ev_goto (tgt := 15) dX12_ofIce_92 (by decide) ?_
  exact k
theorem bX12_ofIce_15_2 {g : GG} {d n : Nat} {post : Option Value → LX → Prop} {X : LX} (hd : 2 ≤ d) (hn : 146 ≤ n) (hX : Sh n X) {v1 : Int32} {v2 : Nat} {v3 : Int32} {v4 : Int32} {v5 : Int32} {v6 : Nat} (c0 : ¬ 10 ≤ nI v6) (c1 : (v3 >>> ((nI v6) &&& 31)) &&& 1 = 1) (c2 : v6 < 10) (c3 : okM X v6) (b0 : ((448 + (15 * v2)) + 1) < 2156) (c4 : ¬ ((v3 >>> ((nI v6) &&& 31)) &&& 1 = 1)) (k : Ev g mX12_ofIce d n n post n 15 [some (.ref 133), some (.int v1), some (.int (nI v2)), some (.int v3), some (.int (v4 + ((mGr X v6) * (X 134 ((448 + (15 * v2)) + 1))))), some (.int v5), some (.int ((nI v6) + 1))] [] X) : Ev g mX12_ofIce d n n post n 15 [some (.ref 133), some (.int v1), some (.int (nI v2)), some (.int v3), some (.int v4), some (.int v5), some (.int (nI v6))] [] X := by
  refine ev_iload dX12_ofIce_15 rfl ?_
  refine ev_bipush (v := 10) dX12_ofIce_17 kb_10 ?_
  refine ev_icmpF (tgt := 95) dX12_ofIce_19 (by decide) c0 ?_
  refine ev_iload dX12_ofIce_22 rfl ?_
  refine ev_iload_n dX12_ofIce_24 rfl ?_
  refine ev_iload dX12_ofIce_25 rfl ?_
  refine e_Si (as := [.int v3, .int (nI v6)]) (rest := [.int v4]) dX12_ofIce_27 vX12_has ml_12_76 stX12_has npX12_has (by decide) rfl (Nat.le_of_ble_eq_true rfl) (by omega) (t_X12_has (d := d - 1) (by omega) (by omega) hX c1) ?_
  refine ev_ifF (tgt := 53) dX12_ofIce_30 (by decide) (by show ¬ (1 : Int32) = 0; decide) ?_
  refine ev_aload_n dX12_ofIce_33 rfl ?_
  refine ev_iload dX12_ofIce_34 rfl ?_
  refine e_Vi (as := [.int (nI v6)]) (rest := [.int v4]) dX12_ofIce_36 vX12_grams ml_12_93 isX12_grams seX12_grams npX12_grams (rc_133 (by omega)) (by decide) rfl (Nat.le_of_ble_eq_true rfl) (by omega) (k_X12_grams (d := d - 1) (by omega) (by omega) hX c2 c3) ?_
  refine ev_aload_n dX12_ofIce_39 rfl ?_
  refine ev_getS (q := 134) dX12_ofIce_40 fo_12_9 (by omega) lo_133 rfl (sh_133_0 hX (by omega)) (by decide) ?_
  refine ev_iload_n dX12_ofIce_43 rfl ?_
  refine ev_iconst (v := 1) dX12_ofIce_44 ki_1 ?_
  refine e_Si (as := [.int (nI v2), .int 1]) (rest := [.ref 134, .int (mGr X v6), .int v4]) dX12_ofIce_45 vX12_ofFamily ml_12_99 stX12_ofFamily npX12_ofFamily (by decide) rfl (Nat.le_of_ble_eq_true rfl) (by omega) (c_X12_ofFamily (d := d - 1) (by omega) (by omega) hX ) ?_
  refine ev_iald dX12_ofIce_48 (by omega) ly_134 (by show (nI 448 + (nI 15 * nI v2)) + nI 1 = nI ((448 + (15 * v2)) + 1); simp only [pk_mul, nI_add]) b0 ?_
  refine ev_imul dX12_ofIce_49 ?_
  refine ev_goto (tgt := 54) dX12_ofIce_50 (by decide) ?_
  refine ev_iadd dX12_ofIce_54 ?_
  refine ev_istore dX12_ofIce_55 (by decide) ?_
  refine ev_iload_n dX12_ofIce_57 rfl ?_
  refine ev_iload dX12_ofIce_58 rfl ?_
  refine e_Si (as := [.int v3, .int (nI v6)]) (rest := []) dX12_ofIce_60 vX12_has ml_12_76 stX12_has npX12_has (by decide) rfl (Nat.le_of_ble_eq_true rfl) (by omega) (f_X12_has (d := d - 1) (by omega) (by omega) hX c4) ?_
  refine ev_ifT (tgt := 85) dX12_ofIce_63 (by decide) (by show (0 : Int32) = 0; decide) ?_
  refine ev_iload dX12_ofIce_85 rfl ?_
  refine ev_istore dX12_ofIce_87 (by decide) ?_
  refine ev_iinc (v := (nI v6) + 1) dX12_ofIce_89 rfl (by rw [show Int32.ofInt 1 = 1 from ki_1]) (by decide) ?_
  refine ev_goto (tgt := 15) dX12_ofIce_92 (by decide) ?_
  exact k
theorem bX12_ofIce_15_3 {g : GG} {d n : Nat} {post : Option Value → LX → Prop} {X : LX} (hd : 1 ≤ d) (hn : 146 ≤ n) (hX : Sh n X) {v1 : Int32} {v2 : Int32} {v3 : Int32} {v4 : Int32} {v5 : Int32} {v6 : Nat} (c0 : ¬ 10 ≤ nI v6) (c1 : ¬ ((v3 >>> ((nI v6) &&& 31)) &&& 1 = 1)) (c2 : (v3 >>> ((nI v6) &&& 31)) &&& 1 = 1) (b0 : ((318 + (13 * v6)) + 0) < 2156) (c3 : X 134 ((318 + (13 * v6)) + 0) = 3) (k : Ev g mX12_ofIce d n n post n 15 [some (.ref 133), some (.int v1), some (.int v2), some (.int v3), some (.int (v4 + 0)), some (.int 1), some (.int ((nI v6) + 1))] [] X) : Ev g mX12_ofIce d n n post n 15 [some (.ref 133), some (.int v1), some (.int v2), some (.int v3), some (.int v4), some (.int v5), some (.int (nI v6))] [] X := by
  refine ev_iload dX12_ofIce_15 rfl ?_
  refine ev_bipush (v := 10) dX12_ofIce_17 kb_10 ?_
  refine ev_icmpF (tgt := 95) dX12_ofIce_19 (by decide) c0 ?_
  refine ev_iload dX12_ofIce_22 rfl ?_
  refine ev_iload_n dX12_ofIce_24 rfl ?_
  refine ev_iload dX12_ofIce_25 rfl ?_
  refine e_Si (as := [.int v3, .int (nI v6)]) (rest := [.int v4]) dX12_ofIce_27 vX12_has ml_12_76 stX12_has npX12_has (by decide) rfl (Nat.le_of_ble_eq_true rfl) (by omega) (f_X12_has (d := d - 1) (by omega) (by omega) hX c1) ?_
  refine ev_ifT (tgt := 53) dX12_ofIce_30 (by decide) (by show (0 : Int32) = 0; decide) ?_
  refine ev_iconst (v := 0) dX12_ofIce_53 ki_0 ?_
  refine ev_iadd dX12_ofIce_54 ?_
  refine ev_istore dX12_ofIce_55 (by decide) ?_
  refine ev_iload_n dX12_ofIce_57 rfl ?_
  refine ev_iload dX12_ofIce_58 rfl ?_
  refine e_Si (as := [.int v3, .int (nI v6)]) (rest := []) dX12_ofIce_60 vX12_has ml_12_76 stX12_has npX12_has (by decide) rfl (Nat.le_of_ble_eq_true rfl) (by omega) (t_X12_has (d := d - 1) (by omega) (by omega) hX c2) ?_
  refine ev_ifF (tgt := 85) dX12_ofIce_63 (by decide) (by show ¬ (1 : Int32) = 0; decide) ?_
  refine ev_aload_n dX12_ofIce_66 rfl ?_
  refine ev_getS (q := 134) dX12_ofIce_67 fo_12_9 (by omega) lo_133 rfl (sh_133_0 hX (by omega)) (by decide) ?_
  refine ev_iload dX12_ofIce_70 rfl ?_
  refine ev_iconst (v := 0) dX12_ofIce_72 ki_0 ?_
  refine e_Si (as := [.int (nI v6), .int 0]) (rest := [.ref 134]) dX12_ofIce_73 vX12_ofMeal ml_12_67 stX12_ofMeal npX12_ofMeal (by decide) rfl (Nat.le_of_ble_eq_true rfl) (by omega) (c_X12_ofMeal (d := d - 1) (by omega) (by omega) hX ) ?_
  refine ev_iald dX12_ofIce_76 (by omega) ly_134 (by show (nI 318 + (nI 13 * nI v6)) + nI 0 = nI ((318 + (13 * v6)) + 0); simp only [pk_mul, nI_add]) b0 ?_
  refine ev_iconst (v := 3) dX12_ofIce_77 ki_3 ?_
  refine ev_icmpF (tgt := 85) dX12_ofIce_78 (by decide) c3 ?_
  refine ev_iconst (v := 1) dX12_ofIce_81 ki_1 ?_
  refine ev_goto (tgt := 87) dX12_ofIce_82 (by decide) ?_
  refine ev_istore dX12_ofIce_87 (by decide) ?_
  refine ev_iinc (v := (nI v6) + 1) dX12_ofIce_89 rfl (by rw [show Int32.ofInt 1 = 1 from ki_1]) (by decide) ?_
  refine ev_goto (tgt := 15) dX12_ofIce_92 (by decide) ?_
  exact k
theorem bX12_ofIce_15_4 {g : GG} {d n : Nat} {post : Option Value → LX → Prop} {X : LX} (hd : 1 ≤ d) (hn : 146 ≤ n) (hX : Sh n X) {v1 : Int32} {v2 : Int32} {v3 : Int32} {v4 : Int32} {v5 : Int32} {v6 : Nat} (c0 : ¬ 10 ≤ nI v6) (c1 : ¬ ((v3 >>> ((nI v6) &&& 31)) &&& 1 = 1)) (c2 : (v3 >>> ((nI v6) &&& 31)) &&& 1 = 1) (b0 : ((318 + (13 * v6)) + 0) < 2156) (c3 : ¬ X 134 ((318 + (13 * v6)) + 0) = 3) (k : Ev g mX12_ofIce d n n post n 15 [some (.ref 133), some (.int v1), some (.int v2), some (.int v3), some (.int (v4 + 0)), some (.int v5), some (.int ((nI v6) + 1))] [] X) : Ev g mX12_ofIce d n n post n 15 [some (.ref 133), some (.int v1), some (.int v2), some (.int v3), some (.int v4), some (.int v5), some (.int (nI v6))] [] X := by
  refine ev_iload dX12_ofIce_15 rfl ?_
  refine ev_bipush (v := 10) dX12_ofIce_17 kb_10 ?_
  refine ev_icmpF (tgt := 95) dX12_ofIce_19 (by decide) c0 ?_
  refine ev_iload dX12_ofIce_22 rfl ?_
  refine ev_iload_n dX12_ofIce_24 rfl ?_
  refine ev_iload dX12_ofIce_25 rfl ?_
  refine e_Si (as := [.int v3, .int (nI v6)]) (rest := [.int v4]) dX12_ofIce_27 vX12_has ml_12_76 stX12_has npX12_has (by decide) rfl (Nat.le_of_ble_eq_true rfl) (by omega) (f_X12_has (d := d - 1) (by omega) (by omega) hX c1) ?_
  refine ev_ifT (tgt := 53) dX12_ofIce_30 (by decide) (by show (0 : Int32) = 0; decide) ?_
  refine ev_iconst (v := 0) dX12_ofIce_53 ki_0 ?_
  refine ev_iadd dX12_ofIce_54 ?_
  refine ev_istore dX12_ofIce_55 (by decide) ?_
  refine ev_iload_n dX12_ofIce_57 rfl ?_
  refine ev_iload dX12_ofIce_58 rfl ?_
  refine e_Si (as := [.int v3, .int (nI v6)]) (rest := []) dX12_ofIce_60 vX12_has ml_12_76 stX12_has npX12_has (by decide) rfl (Nat.le_of_ble_eq_true rfl) (by omega) (t_X12_has (d := d - 1) (by omega) (by omega) hX c2) ?_
  refine ev_ifF (tgt := 85) dX12_ofIce_63 (by decide) (by show ¬ (1 : Int32) = 0; decide) ?_
  refine ev_aload_n dX12_ofIce_66 rfl ?_
  refine ev_getS (q := 134) dX12_ofIce_67 fo_12_9 (by omega) lo_133 rfl (sh_133_0 hX (by omega)) (by decide) ?_
  refine ev_iload dX12_ofIce_70 rfl ?_
  refine ev_iconst (v := 0) dX12_ofIce_72 ki_0 ?_
  refine e_Si (as := [.int (nI v6), .int 0]) (rest := [.ref 134]) dX12_ofIce_73 vX12_ofMeal ml_12_67 stX12_ofMeal npX12_ofMeal (by decide) rfl (Nat.le_of_ble_eq_true rfl) (by omega) (c_X12_ofMeal (d := d - 1) (by omega) (by omega) hX ) ?_
  refine ev_iald dX12_ofIce_76 (by omega) ly_134 (by show (nI 318 + (nI 13 * nI v6)) + nI 0 = nI ((318 + (13 * v6)) + 0); simp only [pk_mul, nI_add]) b0 ?_
  refine ev_iconst (v := 3) dX12_ofIce_77 ki_3 ?_
  refine ev_icmpT (tgt := 85) dX12_ofIce_78 (by decide) c3 ?_
  refine ev_iload dX12_ofIce_85 rfl ?_
  refine ev_istore dX12_ofIce_87 (by decide) ?_
  refine ev_iinc (v := (nI v6) + 1) dX12_ofIce_89 rfl (by rw [show Int32.ofInt 1 = 1 from ki_1]) (by decide) ?_
  refine ev_goto (tgt := 15) dX12_ofIce_92 (by decide) ?_
  exact k
theorem bX12_ofIce_15_5 {g : GG} {d n : Nat} {post : Option Value → LX → Prop} {X : LX} (hd : 1 ≤ d) (hn : 146 ≤ n) (hX : Sh n X) {v1 : Int32} {v2 : Int32} {v3 : Int32} {v4 : Int32} {v5 : Int32} {v6 : Int32} (c0 : ¬ 10 ≤ v6) (c1 : ¬ ((v3 >>> (v6 &&& 31)) &&& 1 = 1)) (k : Ev g mX12_ofIce d n n post n 15 [some (.ref 133), some (.int v1), some (.int v2), some (.int v3), some (.int (v4 + 0)), some (.int v5), some (.int (v6 + 1))] [] X) : Ev g mX12_ofIce d n n post n 15 [some (.ref 133), some (.int v1), some (.int v2), some (.int v3), some (.int v4), some (.int v5), some (.int v6)] [] X := by
  refine ev_iload dX12_ofIce_15 rfl ?_
  refine ev_bipush (v := 10) dX12_ofIce_17 kb_10 ?_
  refine ev_icmpF (tgt := 95) dX12_ofIce_19 (by decide) c0 ?_
  refine ev_iload dX12_ofIce_22 rfl ?_
  refine ev_iload_n dX12_ofIce_24 rfl ?_
  refine ev_iload dX12_ofIce_25 rfl ?_
  refine e_Si (as := [.int v3, .int v6]) (rest := [.int v4]) dX12_ofIce_27 vX12_has ml_12_76 stX12_has npX12_has (by decide) rfl (Nat.le_of_ble_eq_true rfl) (by omega) (f_X12_has (d := d - 1) (by omega) (by omega) hX c1) ?_
  refine ev_ifT (tgt := 53) dX12_ofIce_30 (by decide) (by show (0 : Int32) = 0; decide) ?_
  refine ev_iconst (v := 0) dX12_ofIce_53 ki_0 ?_
  refine ev_iadd dX12_ofIce_54 ?_
  refine ev_istore dX12_ofIce_55 (by decide) ?_
  refine ev_iload_n dX12_ofIce_57 rfl ?_
  refine ev_iload dX12_ofIce_58 rfl ?_
  refine e_Si (as := [.int v3, .int v6]) (rest := []) dX12_ofIce_60 vX12_has ml_12_76 stX12_has npX12_has (by decide) rfl (Nat.le_of_ble_eq_true rfl) (by omega) (f_X12_has (d := d - 1) (by omega) (by omega) hX c1) ?_
  refine ev_ifT (tgt := 85) dX12_ofIce_63 (by decide) (by show (0 : Int32) = 0; decide) ?_
  refine ev_iload dX12_ofIce_85 rfl ?_
  refine ev_istore dX12_ofIce_87 (by decide) ?_
  refine ev_iinc (v := v6 + 1) dX12_ofIce_89 rfl (by rw [show Int32.ofInt 1 = 1 from ki_1]) (by decide) ?_
  refine ev_goto (tgt := 15) dX12_ofIce_92 (by decide) ?_
  exact k
theorem bX12_ofIce_15_6 {g : GG} {d n : Nat} {post : Option Value → LX → Prop} {X : LX} (hn : 146 ≤ n) (hX : Sh n X) {v1 : Int32} {v2 : Int32} {v3 : Int32} {v4 : Int32} {v5 : Int32} {v6 : Int32} (c0 : 10 ≤ v6) (c1 : v1 = 0) (hp : post (some (.int v4)) X) : Ev g mX12_ofIce d n n post n 15 [some (.ref 133), some (.int v1), some (.int v2), some (.int v3), some (.int v4), some (.int v5), some (.int v6)] [] X := by
  refine ev_iload dX12_ofIce_15 rfl ?_
  refine ev_bipush (v := 10) dX12_ofIce_17 kb_10 ?_
  refine ev_icmpT (tgt := 95) dX12_ofIce_19 (by decide) c0 ?_
  refine ev_iload_n dX12_ofIce_95 rfl ?_
  refine ev_ifF (tgt := 104) dX12_ofIce_96 (by decide) c1 ?_
  refine ev_iload dX12_ofIce_99 rfl ?_
  refine ev_goto (tgt := 138) dX12_ofIce_101 (by decide) ?_
  exact ev_iret dX12_ofIce_138 rfl rfl hp
theorem bX12_ofIce_15_7 {g : GG} {d n : Nat} {post : Option Value → LX → Prop} {X : LX} (hd : 1 ≤ d) (hn : 146 ≤ n) (hX : Sh n X) {v1 : Int32} {v2 : Nat} {v3 : Int32} {v4 : Int32} {v5 : Int32} {v6 : Int32} (c0 : 10 ≤ v6) (c1 : ¬ v1 = 0) (c2 : v1 = 1) (b0 : ((448 + (15 * v2)) + 3) < 2156) (hp : post (some (.int (X 134 ((448 + (15 * v2)) + 3)))) X) : Ev g mX12_ofIce d n n post n 15 [some (.ref 133), some (.int v1), some (.int (nI v2)), some (.int v3), some (.int v4), some (.int v5), some (.int v6)] [] X := by
  refine ev_iload dX12_ofIce_15 rfl ?_
  refine ev_bipush (v := 10) dX12_ofIce_17 kb_10 ?_
  refine ev_icmpT (tgt := 95) dX12_ofIce_19 (by decide) c0 ?_
  refine ev_iload_n dX12_ofIce_95 rfl ?_
  refine ev_ifT (tgt := 104) dX12_ofIce_96 (by decide) c1 ?_
  refine ev_iload_n dX12_ofIce_104 rfl ?_
  refine ev_iconst (v := 1) dX12_ofIce_105 ki_1 ?_
  refine ev_icmpF (tgt := 122) dX12_ofIce_106 (by decide) c2 ?_
  refine ev_aload_n dX12_ofIce_109 rfl ?_
  refine ev_getS (q := 134) dX12_ofIce_110 fo_12_9 (by omega) lo_133 rfl (sh_133_0 hX (by omega)) (by decide) ?_
  refine ev_iload_n dX12_ofIce_113 rfl ?_
  refine ev_iconst (v := 3) dX12_ofIce_114 ki_3 ?_
  refine e_Si (as := [.int (nI v2), .int 3]) (rest := [.ref 134]) dX12_ofIce_115 vX12_ofFamily ml_12_99 stX12_ofFamily npX12_ofFamily (by decide) rfl (Nat.le_of_ble_eq_true rfl) (by omega) (c_X12_ofFamily (d := d - 1) (by omega) (by omega) hX ) ?_
  refine ev_iald dX12_ofIce_118 (by omega) ly_134 (by show (nI 448 + (nI 15 * nI v2)) + nI 3 = nI ((448 + (15 * v2)) + 3); simp only [pk_mul, nI_add]) b0 ?_
  refine ev_goto (tgt := 138) dX12_ofIce_119 (by decide) ?_
  exact ev_iret dX12_ofIce_138 rfl rfl hp
theorem bX12_ofIce_15_8 {g : GG} {d n : Nat} {post : Option Value → LX → Prop} {X : LX} (hn : 146 ≤ n) (hX : Sh n X) {v1 : Int32} {v2 : Int32} {v3 : Int32} {v4 : Int32} {v5 : Int32} {v6 : Int32} (c0 : 10 ≤ v6) (c1 : ¬ v1 = 0) (c2 : ¬ v1 = 1) (c3 : v1 = 2) (hp : post (some (.int (X 134 1))) X) : Ev g mX12_ofIce d n n post n 15 [some (.ref 133), some (.int v1), some (.int v2), some (.int v3), some (.int v4), some (.int v5), some (.int v6)] [] X := by
  refine ev_iload dX12_ofIce_15 rfl ?_
  refine ev_bipush (v := 10) dX12_ofIce_17 kb_10 ?_
  refine ev_icmpT (tgt := 95) dX12_ofIce_19 (by decide) c0 ?_
  refine ev_iload_n dX12_ofIce_95 rfl ?_
  refine ev_ifT (tgt := 104) dX12_ofIce_96 (by decide) c1 ?_
  refine ev_iload_n dX12_ofIce_104 rfl ?_
  refine ev_iconst (v := 1) dX12_ofIce_105 ki_1 ?_
  refine ev_icmpT (tgt := 122) dX12_ofIce_106 (by decide) c2 ?_
  refine ev_iload_n dX12_ofIce_122 rfl ?_
  refine ev_iconst (v := 2) dX12_ofIce_123 ki_2 ?_
  refine ev_icmpF (tgt := 136) dX12_ofIce_124 (by decide) c3 ?_
  refine ev_aload_n dX12_ofIce_127 rfl ?_
  refine ev_getS (q := 134) dX12_ofIce_128 fo_12_9 (by omega) lo_133 rfl (sh_133_0 hX (by omega)) (by decide) ?_
  refine ev_iconst (v := 1) dX12_ofIce_131 ki_1 ?_
  refine ev_iald dX12_ofIce_132 (by omega) ly_134 nIl_1 (by decide) ?_
  refine ev_goto (tgt := 138) dX12_ofIce_133 (by decide) ?_
  exact ev_iret dX12_ofIce_138 rfl rfl hp
theorem bX12_ofIce_15_9 {g : GG} {d n : Nat} {post : Option Value → LX → Prop} {X : LX} (hn : 146 ≤ n) (hX : Sh n X) {v1 : Int32} {v2 : Int32} {v3 : Int32} {v4 : Int32} {v5 : Int32} {v6 : Int32} (c0 : 10 ≤ v6) (c1 : ¬ v1 = 0) (c2 : ¬ v1 = 1) (c3 : ¬ v1 = 2) (hp : post (some (.int v5)) X) : Ev g mX12_ofIce d n n post n 15 [some (.ref 133), some (.int v1), some (.int v2), some (.int v3), some (.int v4), some (.int v5), some (.int v6)] [] X := by
  refine ev_iload dX12_ofIce_15 rfl ?_
  refine ev_bipush (v := 10) dX12_ofIce_17 kb_10 ?_
  refine ev_icmpT (tgt := 95) dX12_ofIce_19 (by decide) c0 ?_
  refine ev_iload_n dX12_ofIce_95 rfl ?_
  refine ev_ifT (tgt := 104) dX12_ofIce_96 (by decide) c1 ?_
  refine ev_iload_n dX12_ofIce_104 rfl ?_
  refine ev_iconst (v := 1) dX12_ofIce_105 ki_1 ?_
  refine ev_icmpT (tgt := 122) dX12_ofIce_106 (by decide) c2 ?_
  refine ev_iload_n dX12_ofIce_122 rfl ?_
  refine ev_iconst (v := 2) dX12_ofIce_123 ki_2 ?_
  refine ev_icmpT (tgt := 136) dX12_ofIce_124 (by decide) c3 ?_
  refine ev_iload dX12_ofIce_136 rfl ?_
  exact ev_iret dX12_ofIce_138 rfl rfl hp
theorem bX12_worked_0_0 {g : GG} {d n : Nat} {post : Option Value → LX → Prop} {X : LX} (hn : 146 ≤ n) (hX : Sh n X) {v1 : Int32} {v2 : Int32} (k : Ev g mX12_worked d n n post n 7 [some (.ref 133), some (.int v1), some (.int v2), some (.int 2028), some (.int v1), none, none] [] X) : Ev g mX12_worked d n n post n 0 [some (.ref 133), some (.int v1), some (.int v2), none, none, none, none] [] X := by
  refine ev_sipush (v := 2028) dX12_worked_0 ks_2028 ?_
  refine ev_istore_n dX12_worked_3 (by decide) ?_
  refine ev_iload_n dX12_worked_4 rfl ?_
  refine ev_istore dX12_worked_5 (by decide) ?_
  exact k
theorem bX12_worked_7_0 {g : GG} {d n : Nat} {post : Option Value → LX → Prop} {X : LX} (hn : 146 ≤ n) (hX : Sh n X) {v1 : Int32} {v2 : Int32} {v3 : Nat} {v4 : Int32} (c0 : ¬ v4 ≤ 0) (b0 : v3 < 2156) (c1 : X 134 v3 = 300000) (k : Ev g mX12_worked d n n post n 7 [some (.ref 133), some (.int v1), some (.int v2), some (.int ((nI v3) + 1)), some (.int (v4 - 1)), none, none] [] X) : Ev g mX12_worked d n n post n 7 [some (.ref 133), some (.int v1), some (.int v2), some (.int (nI v3)), some (.int v4), none, none] [] X := by
  refine ev_iload dX12_worked_7 rfl ?_
  refine ev_ifF (tgt := 39) dX12_worked_9 (by decide) c0 ?_
  refine ev_iload dX12_worked_12 rfl ?_
  refine ev_aload_n dX12_worked_14 rfl ?_
  refine ev_getS (q := 134) dX12_worked_15 fo_12_9 (by omega) lo_133 rfl (sh_133_0 hX (by omega)) (by decide) ?_
  refine ev_iload_n dX12_worked_18 rfl ?_
  refine ev_iald dX12_worked_19 (by omega) ly_134 rfl b0 ?_
  refine ev_ldc (v := 300000) dX12_worked_20 kw_12_217 ?_
  refine ev_icmpF (tgt := 29) dX12_worked_22 (by decide) c1 ?_
  refine ev_iconst (v := 1) dX12_worked_25 ki_1 ?_
  refine ev_goto (tgt := 30) dX12_worked_26 (by decide) ?_
  refine ev_isub dX12_worked_30 ?_
  refine ev_istore dX12_worked_31 (by decide) ?_
  refine ev_iinc (v := (nI v3) + 1) dX12_worked_33 rfl (by rw [show Int32.ofInt 1 = 1 from ki_1]) (by decide) ?_
  refine ev_goto (tgt := 7) dX12_worked_36 (by decide) ?_
  exact k
theorem bX12_worked_7_1 {g : GG} {d n : Nat} {post : Option Value → LX → Prop} {X : LX} (hn : 146 ≤ n) (hX : Sh n X) {v1 : Int32} {v2 : Int32} {v3 : Nat} {v4 : Int32} (c0 : ¬ v4 ≤ 0) (b0 : v3 < 2156) (c1 : ¬ X 134 v3 = 300000) (k : Ev g mX12_worked d n n post n 7 [some (.ref 133), some (.int v1), some (.int v2), some (.int ((nI v3) + 1)), some (.int (v4 - 0)), none, none] [] X) : Ev g mX12_worked d n n post n 7 [some (.ref 133), some (.int v1), some (.int v2), some (.int (nI v3)), some (.int v4), none, none] [] X := by
  refine ev_iload dX12_worked_7 rfl ?_
  refine ev_ifF (tgt := 39) dX12_worked_9 (by decide) c0 ?_
  refine ev_iload dX12_worked_12 rfl ?_
  refine ev_aload_n dX12_worked_14 rfl ?_
  refine ev_getS (q := 134) dX12_worked_15 fo_12_9 (by omega) lo_133 rfl (sh_133_0 hX (by omega)) (by decide) ?_
  refine ev_iload_n dX12_worked_18 rfl ?_
  refine ev_iald dX12_worked_19 (by omega) ly_134 rfl b0 ?_
  refine ev_ldc (v := 300000) dX12_worked_20 kw_12_217 ?_
  refine ev_icmpT (tgt := 29) dX12_worked_22 (by decide) c1 ?_
  refine ev_iconst (v := 0) dX12_worked_29 ki_0 ?_
  refine ev_isub dX12_worked_30 ?_
  refine ev_istore dX12_worked_31 (by decide) ?_
  refine ev_iinc (v := (nI v3) + 1) dX12_worked_33 rfl (by rw [show Int32.ofInt 1 = 1 from ki_1]) (by decide) ?_
  refine ev_goto (tgt := 7) dX12_worked_36 (by decide) ?_
  exact k
theorem bX12_worked_7_2 {g : GG} {d n : Nat} {post : Option Value → LX → Prop} {X : LX} (hn : 146 ≤ n) (hX : Sh n X) {v1 : Int32} {v2 : Int32} {v3 : Int32} {v4 : Int32} (c0 : v4 ≤ 0) (k : Ev g mX12_worked d n n post n 42 [some (.ref 133), some (.int v1), some (.int v2), some (.int v3), some (.int v4), some (.int 0), none] [] X) : Ev g mX12_worked d n n post n 7 [some (.ref 133), some (.int v1), some (.int v2), some (.int v3), some (.int v4), none, none] [] X := by
  refine ev_iload dX12_worked_7 rfl ?_
  refine ev_ifT (tgt := 39) dX12_worked_9 (by decide) c0 ?_
  refine ev_iconst (v := 0) dX12_worked_39 ki_0 ?_
  refine ev_istore dX12_worked_40 (by decide) ?_
  exact k
theorem bX12_worked_42_0 {g : GG} {d n : Nat} {post : Option Value → LX → Prop} {X : LX} (hn : 146 ≤ n) (hX : Sh n X) {v1 : Int32} {v2 : Int32} {v3 : Nat} {v4 : Int32} {v5 : Nat} (b0 : v3 < 2156) (c0 : ¬ X 134 v3 = 300000) (c1 : ¬ 200000 ≤ X 134 v3) (c2 : ¬ 100000 ≤ X 134 v3) (b1 : v5 < 128) (k : Ev g mX12_worked d n n post n 42 [some (.ref 133), some (.int v1), some (.int v2), some (.int ((nI v3) + 1)), some (.int v4), some (.int ((nI v5) + 1)), none] [] (lx_up X 142 v5 (X 134 v3))) : Ev g mX12_worked d n n post n 42 [some (.ref 133), some (.int v1), some (.int v2), some (.int (nI v3)), some (.int v4), some (.int (nI v5)), none] [] X := by
  refine ev_aload_n dX12_worked_42 rfl ?_
  refine ev_getS (q := 134) dX12_worked_43 fo_12_9 (by omega) lo_133 rfl (sh_133_0 hX (by omega)) (by decide) ?_
  refine ev_iload_n dX12_worked_46 rfl ?_
  refine ev_iald dX12_worked_47 (by omega) ly_134 rfl b0 ?_
  refine ev_ldc (v := 300000) dX12_worked_48 kw_12_217 ?_
  refine ev_icmpF (tgt := 198) dX12_worked_50 (by decide) c0 ?_
  refine ev_aload_n dX12_worked_53 rfl ?_
  refine ev_getS (q := 134) dX12_worked_54 fo_12_9 (by omega) lo_133 rfl (sh_133_0 hX (by omega)) (by decide) ?_
  refine ev_iload_n dX12_worked_57 rfl ?_
  refine ev_iald dX12_worked_58 (by omega) ly_134 rfl b0 ?_
  refine ev_istore dX12_worked_59 (by decide) ?_
  refine ev_iinc (v := (nI v3) + 1) dX12_worked_61 rfl (by rw [show Int32.ofInt 1 = 1 from ki_1]) (by decide) ?_
  refine ev_iload dX12_worked_64 rfl ?_
  refine ev_ldc (v := 200000) dX12_worked_66 kw_12_195 ?_
  refine ev_icmpF (tgt := 123) dX12_worked_68 (by decide) c1 ?_
  refine ev_aload_n dX12_worked_71 rfl ?_
  refine ev_getS (q := 142) dX12_worked_72 fo_12_40 (by omega) lo_133 rfl (sh_133_20 hX (by omega)) (by decide) ?_
  refine ev_iload dX12_worked_75 rfl ?_
  refine ev_iload dX12_worked_77 rfl ?_
  refine ev_ldc (v := 100000) dX12_worked_79 kw_12_178 ?_
  refine ev_icmpF (tgt := 89) dX12_worked_81 (by decide) c2 ?_
  refine ev_iload dX12_worked_84 rfl ?_
  refine ev_goto (tgt := 116) dX12_worked_86 (by decide) ?_
  refine ev_iast dX12_worked_116 (by omega) ly_142 rfl b1 ?_
  have hX1 : Sh _ (lx_up X 142 v5 (X 134 v3)) := Sh.upA hX (by rw [ly_142]; exact (by decide : 0 < 2))
  refine ev_iinc (v := (nI v5) + 1) dX12_worked_117 rfl (by rw [show Int32.ofInt 1 = 1 from ki_1]) (by decide) ?_
  refine ev_goto (tgt := 195) dX12_worked_120 (by decide) ?_
  refine ev_goto (tgt := 42) dX12_worked_195 (by decide) ?_
  refine ev_wk (L := [some (.ref 133), some (.int v1), some (.int v2), some (.int ((nI v3) + 1)), some (.int v4), some (.int ((nI v5) + 1)), some (.int (X 134 v3))]) (L' := [some (.ref 133), some (.int v1), some (.int v2), some (.int ((nI v3) + 1)), some (.int v4), some (.int ((nI v5) + 1)), none]) (by simp [lwk]) ?_
  exact k
theorem bX12_worked_42_1 {g : GG} {d n : Nat} {post : Option Value → LX → Prop} {X : LX} (hn : 146 ≤ n) (hX : Sh n X) {v1 : Int32} {v2 : Int32} {v3 : Nat} {v4 : Int32} {v5 : Int32} (b0 : v3 < 2156) (c0 : ¬ X 134 v3 = 300000) (c1 : ¬ 200000 ≤ X 134 v3) (c2 : 100000 ≤ X 134 v3) (c3 : v1 = 0) (k : Ev g mX12_worked d n n post n 100 [some (.ref 133), some (.int v1), some (.int v2), some (.int ((nI v3) + 1)), some (.int v4), some (.int v5), some (.int (X 134 v3))] [.int v2, .int ((X 134 v3) - 100000), .ref 133, .int v5, .ref 142] X) : Ev g mX12_worked d n n post n 42 [some (.ref 133), some (.int v1), some (.int v2), some (.int (nI v3)), some (.int v4), some (.int v5), none] [] X := by
  refine ev_aload_n dX12_worked_42 rfl ?_
  refine ev_getS (q := 134) dX12_worked_43 fo_12_9 (by omega) lo_133 rfl (sh_133_0 hX (by omega)) (by decide) ?_
  refine ev_iload_n dX12_worked_46 rfl ?_
  refine ev_iald dX12_worked_47 (by omega) ly_134 rfl b0 ?_
  refine ev_ldc (v := 300000) dX12_worked_48 kw_12_217 ?_
  refine ev_icmpF (tgt := 198) dX12_worked_50 (by decide) c0 ?_
  refine ev_aload_n dX12_worked_53 rfl ?_
  refine ev_getS (q := 134) dX12_worked_54 fo_12_9 (by omega) lo_133 rfl (sh_133_0 hX (by omega)) (by decide) ?_
  refine ev_iload_n dX12_worked_57 rfl ?_
  refine ev_iald dX12_worked_58 (by omega) ly_134 rfl b0 ?_
  refine ev_istore dX12_worked_59 (by decide) ?_
  refine ev_iinc (v := (nI v3) + 1) dX12_worked_61 rfl (by rw [show Int32.ofInt 1 = 1 from ki_1]) (by decide) ?_
  refine ev_iload dX12_worked_64 rfl ?_
  refine ev_ldc (v := 200000) dX12_worked_66 kw_12_195 ?_
  refine ev_icmpF (tgt := 123) dX12_worked_68 (by decide) c1 ?_
  refine ev_aload_n dX12_worked_71 rfl ?_
  refine ev_getS (q := 142) dX12_worked_72 fo_12_40 (by omega) lo_133 rfl (sh_133_20 hX (by omega)) (by decide) ?_
  refine ev_iload dX12_worked_75 rfl ?_
  refine ev_iload dX12_worked_77 rfl ?_
  refine ev_ldc (v := 100000) dX12_worked_79 kw_12_178 ?_
  refine ev_icmpT (tgt := 89) dX12_worked_81 (by decide) c2 ?_
  refine ev_iload_n dX12_worked_89 rfl ?_
  refine ev_ifF (tgt := 106) dX12_worked_90 (by decide) c3 ?_
  refine ev_aload_n dX12_worked_93 rfl ?_
  refine ev_iload dX12_worked_94 rfl ?_
  refine ev_ldc (v := 100000) dX12_worked_96 kw_12_178 ?_
  refine ev_isub dX12_worked_98 ?_
  refine ev_iload_n dX12_worked_99 rfl ?_
  exact k
theorem bX12_worked_42_2 {g : GG} {d n : Nat} {post : Option Value → LX → Prop} {X : LX} (hn : 146 ≤ n) (hX : Sh n X) {v1 : Int32} {v2 : Int32} {v3 : Nat} {v4 : Int32} {v5 : Int32} (b0 : v3 < 2156) (c0 : ¬ X 134 v3 = 300000) (c1 : ¬ 200000 ≤ X 134 v3) (c2 : 100000 ≤ X 134 v3) (c3 : ¬ v1 = 0) (k : Ev g mX12_worked d n n post n 113 [some (.ref 133), some (.int v1), some (.int v2), some (.int ((nI v3) + 1)), some (.int v4), some (.int v5), some (.int (X 134 v3))] [.int v2, .int ((X 134 v3) - 100000), .ref 133, .int v5, .ref 142] X) : Ev g mX12_worked d n n post n 42 [some (.ref 133), some (.int v1), some (.int v2), some (.int (nI v3)), some (.int v4), some (.int v5), none] [] X := by
  refine ev_aload_n dX12_worked_42 rfl ?_
  refine ev_getS (q := 134) dX12_worked_43 fo_12_9 (by omega) lo_133 rfl (sh_133_0 hX (by omega)) (by decide) ?_
  refine ev_iload_n dX12_worked_46 rfl ?_
  refine ev_iald dX12_worked_47 (by omega) ly_134 rfl b0 ?_
  refine ev_ldc (v := 300000) dX12_worked_48 kw_12_217 ?_
  refine ev_icmpF (tgt := 198) dX12_worked_50 (by decide) c0 ?_
  refine ev_aload_n dX12_worked_53 rfl ?_
  refine ev_getS (q := 134) dX12_worked_54 fo_12_9 (by omega) lo_133 rfl (sh_133_0 hX (by omega)) (by decide) ?_
  refine ev_iload_n dX12_worked_57 rfl ?_
  refine ev_iald dX12_worked_58 (by omega) ly_134 rfl b0 ?_
  refine ev_istore dX12_worked_59 (by decide) ?_
  refine ev_iinc (v := (nI v3) + 1) dX12_worked_61 rfl (by rw [show Int32.ofInt 1 = 1 from ki_1]) (by decide) ?_
  refine ev_iload dX12_worked_64 rfl ?_
  refine ev_ldc (v := 200000) dX12_worked_66 kw_12_195 ?_
  refine ev_icmpF (tgt := 123) dX12_worked_68 (by decide) c1 ?_
  refine ev_aload_n dX12_worked_71 rfl ?_
  refine ev_getS (q := 142) dX12_worked_72 fo_12_40 (by omega) lo_133 rfl (sh_133_20 hX (by omega)) (by decide) ?_
  refine ev_iload dX12_worked_75 rfl ?_
  refine ev_iload dX12_worked_77 rfl ?_
  refine ev_ldc (v := 100000) dX12_worked_79 kw_12_178 ?_
  refine ev_icmpT (tgt := 89) dX12_worked_81 (by decide) c2 ?_
  refine ev_iload_n dX12_worked_89 rfl ?_
  refine ev_ifT (tgt := 106) dX12_worked_90 (by decide) c3 ?_
  refine ev_aload_n dX12_worked_106 rfl ?_
  refine ev_iload dX12_worked_107 rfl ?_
  refine ev_ldc (v := 100000) dX12_worked_109 kw_12_178 ?_
  refine ev_isub dX12_worked_111 ?_
  refine ev_iload_n dX12_worked_112 rfl ?_
  exact k
theorem bX12_worked_42_3 {g : GG} {d n : Nat} {post : Option Value → LX → Prop} {X : LX} (hn : 146 ≤ n) (hX : Sh n X) {v1 : Int32} {v2 : Int32} {v3 : Nat} {v4 : Int32} {v5 : Int32} {j1 : Nat} (b0 : v3 < 2156) (c0 : ¬ X 134 v3 = 300000) (c1 : 200000 ≤ X 134 v3) (c2 : X 134 v3 = 200009) (hj1 : v5 - 1 = nI j1) (b1 : j1 < 128) (c3 : X 142 j1 = 0) (k : Ev g mX12_worked d n n post n 42 [some (.ref 133), some (.int v1), some (.int v2), some (.int ((nI v3) + 1)), some (.int v4), some (.int v5), none] [] (lx_up X 142 j1 1)) : Ev g mX12_worked d n n post n 42 [some (.ref 133), some (.int v1), some (.int v2), some (.int (nI v3)), some (.int v4), some (.int v5), none] [] X := by
  refine ev_aload_n dX12_worked_42 rfl ?_
  refine ev_getS (q := 134) dX12_worked_43 fo_12_9 (by omega) lo_133 rfl (sh_133_0 hX (by omega)) (by decide) ?_
  refine ev_iload_n dX12_worked_46 rfl ?_
  refine ev_iald dX12_worked_47 (by omega) ly_134 rfl b0 ?_
  refine ev_ldc (v := 300000) dX12_worked_48 kw_12_217 ?_
  refine ev_icmpF (tgt := 198) dX12_worked_50 (by decide) c0 ?_
  refine ev_aload_n dX12_worked_53 rfl ?_
  refine ev_getS (q := 134) dX12_worked_54 fo_12_9 (by omega) lo_133 rfl (sh_133_0 hX (by omega)) (by decide) ?_
  refine ev_iload_n dX12_worked_57 rfl ?_
  refine ev_iald dX12_worked_58 (by omega) ly_134 rfl b0 ?_
  refine ev_istore dX12_worked_59 (by decide) ?_
  refine ev_iinc (v := (nI v3) + 1) dX12_worked_61 rfl (by rw [show Int32.ofInt 1 = 1 from ki_1]) (by decide) ?_
  refine ev_iload dX12_worked_64 rfl ?_
  refine ev_ldc (v := 200000) dX12_worked_66 kw_12_195 ?_
  refine ev_icmpT (tgt := 123) dX12_worked_68 (by decide) c1 ?_
  refine ev_iload dX12_worked_123 rfl ?_
  refine ev_ldc (v := 200009) dX12_worked_125 kw_12_185 ?_
  refine ev_icmpF (tgt := 159) dX12_worked_127 (by decide) c2 ?_
  refine ev_aload_n dX12_worked_130 rfl ?_
  refine ev_getS (q := 142) dX12_worked_131 fo_12_40 (by omega) lo_133 rfl (sh_133_20 hX (by omega)) (by decide) ?_
  refine ev_iload dX12_worked_134 rfl ?_
  refine ev_iconst (v := 1) dX12_worked_136 ki_1 ?_
  refine ev_isub dX12_worked_137 ?_
  refine ev_aload_n dX12_worked_138 rfl ?_
  refine ev_getS (q := 142) dX12_worked_139 fo_12_40 (by omega) lo_133 rfl (sh_133_20 hX (by omega)) (by decide) ?_
  refine ev_iload dX12_worked_142 rfl ?_
  refine ev_iconst (v := 1) dX12_worked_144 ki_1 ?_
  refine ev_isub dX12_worked_145 ?_
  refine ev_iald dX12_worked_146 (by omega) ly_142 hj1 b1 ?_
  refine ev_ifF (tgt := 154) dX12_worked_147 (by decide) c3 ?_
  refine ev_iconst (v := 1) dX12_worked_150 ki_1 ?_
  refine ev_goto (tgt := 155) dX12_worked_151 (by decide) ?_
  refine ev_iast dX12_worked_155 (by omega) ly_142 hj1 b1 ?_
  have hX1 : Sh _ (lx_up X 142 j1 1) := Sh.upA hX (by rw [ly_142]; exact (by decide : 0 < 2))
  refine ev_goto (tgt := 195) dX12_worked_156 (by decide) ?_
  refine ev_goto (tgt := 42) dX12_worked_195 (by decide) ?_
  refine ev_wk (L := [some (.ref 133), some (.int v1), some (.int v2), some (.int ((nI v3) + 1)), some (.int v4), some (.int v5), some (.int (X 134 v3))]) (L' := [some (.ref 133), some (.int v1), some (.int v2), some (.int ((nI v3) + 1)), some (.int v4), some (.int v5), none]) (by simp [lwk]) ?_
  exact k
theorem bX12_worked_42_4 {g : GG} {d n : Nat} {post : Option Value → LX → Prop} {X : LX} (hn : 146 ≤ n) (hX : Sh n X) {v1 : Int32} {v2 : Int32} {v3 : Nat} {v4 : Int32} {v5 : Int32} {j1 : Nat} (b0 : v3 < 2156) (c0 : ¬ X 134 v3 = 300000) (c1 : 200000 ≤ X 134 v3) (c2 : X 134 v3 = 200009) (hj1 : v5 - 1 = nI j1) (b1 : j1 < 128) (c3 : ¬ X 142 j1 = 0) (k : Ev g mX12_worked d n n post n 42 [some (.ref 133), some (.int v1), some (.int v2), some (.int ((nI v3) + 1)), some (.int v4), some (.int v5), none] [] (lx_up X 142 j1 0)) : Ev g mX12_worked d n n post n 42 [some (.ref 133), some (.int v1), some (.int v2), some (.int (nI v3)), some (.int v4), some (.int v5), none] [] X := by
  refine ev_aload_n dX12_worked_42 rfl ?_
  refine ev_getS (q := 134) dX12_worked_43 fo_12_9 (by omega) lo_133 rfl (sh_133_0 hX (by omega)) (by decide) ?_
  refine ev_iload_n dX12_worked_46 rfl ?_
  refine ev_iald dX12_worked_47 (by omega) ly_134 rfl b0 ?_
  refine ev_ldc (v := 300000) dX12_worked_48 kw_12_217 ?_
  refine ev_icmpF (tgt := 198) dX12_worked_50 (by decide) c0 ?_
  refine ev_aload_n dX12_worked_53 rfl ?_
  refine ev_getS (q := 134) dX12_worked_54 fo_12_9 (by omega) lo_133 rfl (sh_133_0 hX (by omega)) (by decide) ?_
  refine ev_iload_n dX12_worked_57 rfl ?_
  refine ev_iald dX12_worked_58 (by omega) ly_134 rfl b0 ?_
  refine ev_istore dX12_worked_59 (by decide) ?_
  refine ev_iinc (v := (nI v3) + 1) dX12_worked_61 rfl (by rw [show Int32.ofInt 1 = 1 from ki_1]) (by decide) ?_
  refine ev_iload dX12_worked_64 rfl ?_
  refine ev_ldc (v := 200000) dX12_worked_66 kw_12_195 ?_
  refine ev_icmpT (tgt := 123) dX12_worked_68 (by decide) c1 ?_
  refine ev_iload dX12_worked_123 rfl ?_
  refine ev_ldc (v := 200009) dX12_worked_125 kw_12_185 ?_
  refine ev_icmpF (tgt := 159) dX12_worked_127 (by decide) c2 ?_
  refine ev_aload_n dX12_worked_130 rfl ?_
  refine ev_getS (q := 142) dX12_worked_131 fo_12_40 (by omega) lo_133 rfl (sh_133_20 hX (by omega)) (by decide) ?_
  refine ev_iload dX12_worked_134 rfl ?_
  refine ev_iconst (v := 1) dX12_worked_136 ki_1 ?_
  refine ev_isub dX12_worked_137 ?_
  refine ev_aload_n dX12_worked_138 rfl ?_
  refine ev_getS (q := 142) dX12_worked_139 fo_12_40 (by omega) lo_133 rfl (sh_133_20 hX (by omega)) (by decide) ?_
  refine ev_iload dX12_worked_142 rfl ?_
  refine ev_iconst (v := 1) dX12_worked_144 ki_1 ?_
  refine ev_isub dX12_worked_145 ?_
  refine ev_iald dX12_worked_146 (by omega) ly_142 hj1 b1 ?_
  refine ev_ifT (tgt := 154) dX12_worked_147 (by decide) c3 ?_
  refine ev_iconst (v := 0) dX12_worked_154 ki_0 ?_
  refine ev_iast dX12_worked_155 (by omega) ly_142 hj1 b1 ?_
  have hX1 : Sh _ (lx_up X 142 j1 0) := Sh.upA hX (by rw [ly_142]; exact (by decide : 0 < 2))
  refine ev_goto (tgt := 195) dX12_worked_156 (by decide) ?_
  refine ev_goto (tgt := 42) dX12_worked_195 (by decide) ?_
  refine ev_wk (L := [some (.ref 133), some (.int v1), some (.int v2), some (.int ((nI v3) + 1)), some (.int v4), some (.int v5), some (.int (X 134 v3))]) (L' := [some (.ref 133), some (.int v1), some (.int v2), some (.int ((nI v3) + 1)), some (.int v4), some (.int v5), none]) (by simp [lwk]) ?_
  exact k
theorem bX12_worked_42_5 {g : GG} {d n : Nat} {post : Option Value → LX → Prop} {X : LX} (hn : 146 ≤ n) (hX : Sh n X) {v1 : Int32} {v2 : Int32} {v3 : Nat} {v4 : Int32} {v5 : Nat} {j1 : Nat} {j2 : Nat} (b0 : v3 < 2156) (c0 : ¬ X 134 v3 = 300000) (c1 : 200000 ≤ X 134 v3) (c2 : ¬ X 134 v3 = 200009) (hj1 : ((nI v5) + (-1)) - 1 = nI j1) (b1 : j1 < 128) (hj2 : (nI v5) + (-1) = nI j2) (b2 : j2 < 128) (k : Ev g mX12_worked d n n post n 191 [some (.ref 133), some (.int v1), some (.int v2), some (.int ((nI v3) + 1)), some (.int v4), some (.int ((nI v5) + (-1))), some (.int (X 134 v3))] [.int (X 142 j2), .int (X 142 j1), .int ((X 134 v3) - 200000), .int (((nI v5) + (-1)) - 1), .ref 142] X) : Ev g mX12_worked d n n post n 42 [some (.ref 133), some (.int v1), some (.int v2), some (.int (nI v3)), some (.int v4), some (.int (nI v5)), none] [] X := by
  refine ev_aload_n dX12_worked_42 rfl ?_
  refine ev_getS (q := 134) dX12_worked_43 fo_12_9 (by omega) lo_133 rfl (sh_133_0 hX (by omega)) (by decide) ?_
  refine ev_iload_n dX12_worked_46 rfl ?_
  refine ev_iald dX12_worked_47 (by omega) ly_134 rfl b0 ?_
  refine ev_ldc (v := 300000) dX12_worked_48 kw_12_217 ?_
  refine ev_icmpF (tgt := 198) dX12_worked_50 (by decide) c0 ?_
  refine ev_aload_n dX12_worked_53 rfl ?_
  refine ev_getS (q := 134) dX12_worked_54 fo_12_9 (by omega) lo_133 rfl (sh_133_0 hX (by omega)) (by decide) ?_
  refine ev_iload_n dX12_worked_57 rfl ?_
  refine ev_iald dX12_worked_58 (by omega) ly_134 rfl b0 ?_
  refine ev_istore dX12_worked_59 (by decide) ?_
  refine ev_iinc (v := (nI v3) + 1) dX12_worked_61 rfl (by rw [show Int32.ofInt 1 = 1 from ki_1]) (by decide) ?_
  refine ev_iload dX12_worked_64 rfl ?_
  refine ev_ldc (v := 200000) dX12_worked_66 kw_12_195 ?_
  refine ev_icmpT (tgt := 123) dX12_worked_68 (by decide) c1 ?_
  refine ev_iload dX12_worked_123 rfl ?_
  refine ev_ldc (v := 200009) dX12_worked_125 kw_12_185 ?_
  refine ev_icmpT (tgt := 159) dX12_worked_127 (by decide) c2 ?_
  refine ev_iinc (v := (nI v5) + (-1)) dX12_worked_159 rfl (by rw [show Int32.ofInt (-1) = (-1) from ki_m1]) (by decide) ?_
  refine ev_aload_n dX12_worked_162 rfl ?_
  refine ev_getS (q := 142) dX12_worked_163 fo_12_40 (by omega) lo_133 rfl (sh_133_20 hX (by omega)) (by decide) ?_
  refine ev_iload dX12_worked_166 rfl ?_
  refine ev_iconst (v := 1) dX12_worked_168 ki_1 ?_
  refine ev_isub dX12_worked_169 ?_
  refine ev_iload dX12_worked_170 rfl ?_
  refine ev_ldc (v := 200000) dX12_worked_172 kw_12_195 ?_
  refine ev_isub dX12_worked_174 ?_
  refine ev_aload_n dX12_worked_175 rfl ?_
  refine ev_getS (q := 142) dX12_worked_176 fo_12_40 (by omega) lo_133 rfl (sh_133_20 hX (by omega)) (by decide) ?_
  refine ev_iload dX12_worked_179 rfl ?_
  refine ev_iconst (v := 1) dX12_worked_181 ki_1 ?_
  refine ev_isub dX12_worked_182 ?_
  refine ev_iald dX12_worked_183 (by omega) ly_142 hj1 b1 ?_
  refine ev_aload_n dX12_worked_184 rfl ?_
  refine ev_getS (q := 142) dX12_worked_185 fo_12_40 (by omega) lo_133 rfl (sh_133_20 hX (by omega)) (by decide) ?_
  refine ev_iload dX12_worked_188 rfl ?_
  refine ev_iald dX12_worked_190 (by omega) ly_142 hj2 b2 ?_
  exact k
theorem bX12_worked_42_6 {g : GG} {d n : Nat} {post : Option Value → LX → Prop} {X : LX} (hn : 146 ≤ n) (hX : Sh n X) {v1 : Int32} {v2 : Int32} {v3 : Nat} {v4 : Int32} {v5 : Int32} (b0 : v3 < 2156) (c0 : X 134 v3 = 300000) (hp : post (some (.int (X 142 0))) X) : Ev g mX12_worked d n n post n 42 [some (.ref 133), some (.int v1), some (.int v2), some (.int (nI v3)), some (.int v4), some (.int v5), none] [] X := by
  refine ev_aload_n dX12_worked_42 rfl ?_
  refine ev_getS (q := 134) dX12_worked_43 fo_12_9 (by omega) lo_133 rfl (sh_133_0 hX (by omega)) (by decide) ?_
  refine ev_iload_n dX12_worked_46 rfl ?_
  refine ev_iald dX12_worked_47 (by omega) ly_134 rfl b0 ?_
  refine ev_ldc (v := 300000) dX12_worked_48 kw_12_217 ?_
  refine ev_icmpT (tgt := 198) dX12_worked_50 (by decide) c0 ?_
  refine ev_aload_n dX12_worked_198 rfl ?_
  refine ev_getS (q := 142) dX12_worked_199 fo_12_40 (by omega) lo_133 rfl (sh_133_20 hX (by omega)) (by decide) ?_
  refine ev_iconst (v := 0) dX12_worked_202 ki_0 ?_
  refine ev_iald dX12_worked_203 (by omega) ly_142 nIl_0 (by decide) ?_
  exact ev_iret dX12_worked_204 rfl rfl hp
theorem bX12_worked_103_0 {g : GG} {d n : Nat} {post : Option Value → LX → Prop} {X : LX} (hn : 146 ≤ n) (hX : Sh n X) {v1 : Int32} {v2 : Int32} {v3 : Int32} {v4 : Int32} {v5 : Int32} {v6 : Int32} {s1 : Nat} {s2 : Int32} (b0 : s1 < 128) (k : Ev g mX12_worked d n n post n 42 [some (.ref 133), some (.int v1), some (.int v2), some (.int v3), some (.int v4), some (.int (v5 + 1)), none] [] (lx_up X 142 s1 s2)) : Ev g mX12_worked d n n post n 103 [some (.ref 133), some (.int v1), some (.int v2), some (.int v3), some (.int v4), some (.int v5), some (.int v6)] [.int s2, .int (nI s1), .ref 142] X := by
  refine ev_goto (tgt := 116) dX12_worked_103 (by decide) ?_
  refine ev_iast dX12_worked_116 (by omega) ly_142 rfl b0 ?_
  have hX1 : Sh _ (lx_up X 142 s1 s2) := Sh.upA hX (by rw [ly_142]; exact (by decide : 0 < 2))
  refine ev_iinc (v := v5 + 1) dX12_worked_117 rfl (by rw [show Int32.ofInt 1 = 1 from ki_1]) (by decide) ?_
  refine ev_goto (tgt := 195) dX12_worked_120 (by decide) ?_
  refine ev_goto (tgt := 42) dX12_worked_195 (by decide) ?_
  refine ev_wk (L := [some (.ref 133), some (.int v1), some (.int v2), some (.int v3), some (.int v4), some (.int (v5 + 1)), some (.int v6)]) (L' := [some (.ref 133), some (.int v1), some (.int v2), some (.int v3), some (.int v4), some (.int (v5 + 1)), none]) (by simp [lwk]) ?_
  exact k
theorem bX12_worked_116_0 {g : GG} {d n : Nat} {post : Option Value → LX → Prop} {X : LX} (hn : 146 ≤ n) (hX : Sh n X) {v1 : Int32} {v2 : Int32} {v3 : Int32} {v4 : Int32} {v5 : Int32} {v6 : Int32} {s1 : Nat} {s2 : Int32} (b0 : s1 < 128) (k : Ev g mX12_worked d n n post n 42 [some (.ref 133), some (.int v1), some (.int v2), some (.int v3), some (.int v4), some (.int (v5 + 1)), none] [] (lx_up X 142 s1 s2)) : Ev g mX12_worked d n n post n 116 [some (.ref 133), some (.int v1), some (.int v2), some (.int v3), some (.int v4), some (.int v5), some (.int v6)] [.int s2, .int (nI s1), .ref 142] X := by
  refine ev_iast dX12_worked_116 (by omega) ly_142 rfl b0 ?_
  have hX1 : Sh _ (lx_up X 142 s1 s2) := Sh.upA hX (by rw [ly_142]; exact (by decide : 0 < 2))
  refine ev_iinc (v := v5 + 1) dX12_worked_117 rfl (by rw [show Int32.ofInt 1 = 1 from ki_1]) (by decide) ?_
  refine ev_goto (tgt := 195) dX12_worked_120 (by decide) ?_
  refine ev_goto (tgt := 42) dX12_worked_195 (by decide) ?_
  refine ev_wk (L := [some (.ref 133), some (.int v1), some (.int v2), some (.int v3), some (.int v4), some (.int (v5 + 1)), some (.int v6)]) (L' := [some (.ref 133), some (.int v1), some (.int v2), some (.int v3), some (.int v4), some (.int (v5 + 1)), none]) (by simp [lwk]) ?_
  exact k
theorem bX12_worked_194_0 {g : GG} {d n : Nat} {post : Option Value → LX → Prop} {X : LX} (hn : 146 ≤ n) (hX : Sh n X) {v1 : Int32} {v2 : Int32} {v3 : Int32} {v4 : Int32} {v5 : Int32} {v6 : Int32} {s1 : Nat} {s2 : Int32} (b0 : s1 < 128) (k : Ev g mX12_worked d n n post n 42 [some (.ref 133), some (.int v1), some (.int v2), some (.int v3), some (.int v4), some (.int v5), none] [] (lx_up X 142 s1 s2)) : Ev g mX12_worked d n n post n 194 [some (.ref 133), some (.int v1), some (.int v2), some (.int v3), some (.int v4), some (.int v5), some (.int v6)] [.int s2, .int (nI s1), .ref 142] X := by
  refine ev_iast dX12_worked_194 (by omega) ly_142 rfl b0 ?_
  have hX1 : Sh _ (lx_up X 142 s1 s2) := Sh.upA hX (by rw [ly_142]; exact (by decide : 0 < 2))
  refine ev_goto (tgt := 42) dX12_worked_195 (by decide) ?_
  refine ev_wk (L := [some (.ref 133), some (.int v1), some (.int v2), some (.int v3), some (.int v4), some (.int v5), some (.int v6)]) (L' := [some (.ref 133), some (.int v1), some (.int v2), some (.int v3), some (.int v4), some (.int v5), none]) (by simp [lwk]) ?_
  exact k
theorem bX12_about_0_0 {g : GG} {d n : Nat} {post : Option Value → LX → Prop} {X : LX} (hd : 2 ≤ d) (hn : 146 ≤ n) (hX : Sh n X) {v1 : Int32} {v2 : Int32} (c0 : 0 ≤ v1 ∧ v1 ≤ X 134 5 - 1) (c1 : 0 ≤ v2 ∧ v2 ≤ 6) (c2 : v2.toInt < 0 ∨ 5 < v2.toInt) (c3 : X 134 2 = 1) (k : Ev g mX12_about d n n post n 124 [some (.ref 133), some (.int v1), some (.int v2)] [.int v1, .int 0, .ref 133] X) : Ev g mX12_about d n n post n 0 [some (.ref 133), some (.int v1), some (.int v2)] [] X := by
  refine ev_aload_n dX12_about_0 rfl ?_
  refine ev_iload_n dX12_about_1 rfl ?_
  refine e_Vi (as := [.int v1]) (rest := []) dX12_about_2 vX12_isMeal ml_12_70 isX12_isMeal seX12_isMeal npX12_isMeal (rc_133 (by omega)) (by decide) rfl (Nat.le_of_ble_eq_true rfl) (by omega) (t_X12_isMeal (d := d - 1) (by omega) (by omega) hX c0) ?_
  refine ev_ifF (tgt := 18) dX12_about_5 (by decide) (by show ¬ (1 : Int32) = 0; decide) ?_
  refine ev_iload_n dX12_about_8 rfl ?_
  refine ev_iconst (v := 0) dX12_about_9 ki_0 ?_
  refine ev_bipush (v := 6) dX12_about_10 kb_6 ?_
  refine e_Si (as := [.int v2, .int 0, .int 6]) (rest := []) dX12_about_12 vX12_within ml_12_52 stX12_within npX12_within (by decide) rfl (Nat.le_of_ble_eq_true rfl) (by omega) (t_X12_within (d := d - 1) (by omega) (by omega) hX c1) ?_
  refine ev_ifT (tgt := 21) dX12_about_15 (by decide) (by show ¬ (1 : Int32) = 0; decide) ?_
  refine ev_iload_n dX12_about_21 rfl ?_
  refine ev_tabO (tgt := 111) dX12_about_22 c2 (by decide) ?_
  refine ev_aload_n dX12_about_111 rfl ?_
  refine ev_getS (q := 134) dX12_about_112 fo_12_9 (by omega) lo_133 rfl (sh_133_0 hX (by omega)) (by decide) ?_
  refine ev_iconst (v := 2) dX12_about_115 ki_2 ?_
  refine ev_iald dX12_about_116 (by omega) ly_134 nIl_2 (by decide) ?_
  refine ev_iconst (v := 1) dX12_about_117 ki_1 ?_
  refine ev_icmpF (tgt := 134) dX12_about_118 (by decide) c3 ?_
  refine ev_aload_n dX12_about_121 rfl ?_
  refine ev_iconst (v := 0) dX12_about_122 ki_0 ?_
  refine ev_iload_n dX12_about_123 rfl ?_
  exact k
theorem bX12_about_0_1 {g : GG} {d n : Nat} {post : Option Value → LX → Prop} {X : LX} (hd : 2 ≤ d) (hn : 146 ≤ n) (hX : Sh n X) {v1 : Int32} {v2 : Int32} (c0 : 0 ≤ v1 ∧ v1 ≤ X 134 5 - 1) (c1 : 0 ≤ v2 ∧ v2 ≤ 6) (c2 : v2.toInt < 0 ∨ 5 < v2.toInt) (c3 : ¬ X 134 2 = 1) (hp : post (some (.int 0)) X) : Ev g mX12_about d n n post n 0 [some (.ref 133), some (.int v1), some (.int v2)] [] X := by
  refine ev_aload_n dX12_about_0 rfl ?_
  refine ev_iload_n dX12_about_1 rfl ?_
  refine e_Vi (as := [.int v1]) (rest := []) dX12_about_2 vX12_isMeal ml_12_70 isX12_isMeal seX12_isMeal npX12_isMeal (rc_133 (by omega)) (by decide) rfl (Nat.le_of_ble_eq_true rfl) (by omega) (t_X12_isMeal (d := d - 1) (by omega) (by omega) hX c0) ?_
  refine ev_ifF (tgt := 18) dX12_about_5 (by decide) (by show ¬ (1 : Int32) = 0; decide) ?_
  refine ev_iload_n dX12_about_8 rfl ?_
  refine ev_iconst (v := 0) dX12_about_9 ki_0 ?_
  refine ev_bipush (v := 6) dX12_about_10 kb_6 ?_
  refine e_Si (as := [.int v2, .int 0, .int 6]) (rest := []) dX12_about_12 vX12_within ml_12_52 stX12_within npX12_within (by decide) rfl (Nat.le_of_ble_eq_true rfl) (by omega) (t_X12_within (d := d - 1) (by omega) (by omega) hX c1) ?_
  refine ev_ifT (tgt := 21) dX12_about_15 (by decide) (by show ¬ (1 : Int32) = 0; decide) ?_
  refine ev_iload_n dX12_about_21 rfl ?_
  refine ev_tabO (tgt := 111) dX12_about_22 c2 (by decide) ?_
  refine ev_aload_n dX12_about_111 rfl ?_
  refine ev_getS (q := 134) dX12_about_112 fo_12_9 (by omega) lo_133 rfl (sh_133_0 hX (by omega)) (by decide) ?_
  refine ev_iconst (v := 2) dX12_about_115 ki_2 ?_
  refine ev_iald dX12_about_116 (by omega) ly_134 nIl_2 (by decide) ?_
  refine ev_iconst (v := 1) dX12_about_117 ki_1 ?_
  refine ev_icmpT (tgt := 134) dX12_about_118 (by decide) c3 ?_
  refine ev_iconst (v := 0) dX12_about_134 ki_0 ?_
  exact ev_iret dX12_about_135 rfl rfl hp
theorem bX12_about_0_2 {g : GG} {d n : Nat} {post : Option Value → LX → Prop} {X : LX} (hd : 2 ≤ d) (hn : 146 ≤ n) (hX : Sh n X) {v1 : Nat} {v2 : Int32} (c0 : 0 ≤ (nI v1) ∧ (nI v1) ≤ X 134 5 - 1) (c1 : 0 ≤ v2 ∧ v2 ≤ 6) (c2 : v2 = 0) (b0 : ((318 + (13 * v1)) + 0) < 2156) (hp : post (some (.int (X 134 ((318 + (13 * v1)) + 0)))) X) : Ev g mX12_about d n n post n 0 [some (.ref 133), some (.int (nI v1)), some (.int v2)] [] X := by
  refine ev_aload_n dX12_about_0 rfl ?_
  refine ev_iload_n dX12_about_1 rfl ?_
  refine e_Vi (as := [.int (nI v1)]) (rest := []) dX12_about_2 vX12_isMeal ml_12_70 isX12_isMeal seX12_isMeal npX12_isMeal (rc_133 (by omega)) (by decide) rfl (Nat.le_of_ble_eq_true rfl) (by omega) (t_X12_isMeal (d := d - 1) (by omega) (by omega) hX c0) ?_
  refine ev_ifF (tgt := 18) dX12_about_5 (by decide) (by show ¬ (1 : Int32) = 0; decide) ?_
  refine ev_iload_n dX12_about_8 rfl ?_
  refine ev_iconst (v := 0) dX12_about_9 ki_0 ?_
  refine ev_bipush (v := 6) dX12_about_10 kb_6 ?_
  refine e_Si (as := [.int v2, .int 0, .int 6]) (rest := []) dX12_about_12 vX12_within ml_12_52 stX12_within npX12_within (by decide) rfl (Nat.le_of_ble_eq_true rfl) (by omega) (t_X12_within (d := d - 1) (by omega) (by omega) hX c1) ?_
  refine ev_ifT (tgt := 21) dX12_about_15 (by decide) (by show ¬ (1 : Int32) = 0; decide) ?_
  refine ev_iload_n dX12_about_21 rfl ?_
  refine ev_tabI (tgt := 60) (off := 38) dX12_about_22 (by rw [c2]; decide) (by rw [c2]; decide) (by rw [c2]; rfl) (by decide) ?_
  refine ev_aload_n dX12_about_60 rfl ?_
  refine ev_getS (q := 134) dX12_about_61 fo_12_9 (by omega) lo_133 rfl (sh_133_0 hX (by omega)) (by decide) ?_
  refine ev_iload_n dX12_about_64 rfl ?_
  refine ev_iconst (v := 0) dX12_about_65 ki_0 ?_
  refine e_Si (as := [.int (nI v1), .int 0]) (rest := [.ref 134]) dX12_about_66 vX12_ofMeal ml_12_67 stX12_ofMeal npX12_ofMeal (by decide) rfl (Nat.le_of_ble_eq_true rfl) (by omega) (c_X12_ofMeal (d := d - 1) (by omega) (by omega) hX ) ?_
  refine ev_iald dX12_about_69 (by omega) ly_134 (by show (nI 318 + (nI 13 * nI v1)) + nI 0 = nI ((318 + (13 * v1)) + 0); simp only [pk_mul, nI_add]) b0 ?_
  exact ev_iret dX12_about_70 rfl rfl hp
theorem bX12_about_0_3 {g : GG} {d n : Nat} {post : Option Value → LX → Prop} {X : LX} (hd : 2 ≤ d) (hn : 146 ≤ n) (hX : Sh n X) {v1 : Nat} {v2 : Int32} (c0 : 0 ≤ (nI v1) ∧ (nI v1) ≤ X 134 5 - 1) (c1 : 0 ≤ v2 ∧ v2 ≤ 6) (c2 : v2 = 1) (b0 : ((318 + (13 * v1)) + 1) < 2156) (hp : post (some (.int (X 134 ((318 + (13 * v1)) + 1)))) X) : Ev g mX12_about d n n post n 0 [some (.ref 133), some (.int (nI v1)), some (.int v2)] [] X := by
  refine ev_aload_n dX12_about_0 rfl ?_
  refine ev_iload_n dX12_about_1 rfl ?_
  refine e_Vi (as := [.int (nI v1)]) (rest := []) dX12_about_2 vX12_isMeal ml_12_70 isX12_isMeal seX12_isMeal npX12_isMeal (rc_133 (by omega)) (by decide) rfl (Nat.le_of_ble_eq_true rfl) (by omega) (t_X12_isMeal (d := d - 1) (by omega) (by omega) hX c0) ?_
  refine ev_ifF (tgt := 18) dX12_about_5 (by decide) (by show ¬ (1 : Int32) = 0; decide) ?_
  refine ev_iload_n dX12_about_8 rfl ?_
  refine ev_iconst (v := 0) dX12_about_9 ki_0 ?_
  refine ev_bipush (v := 6) dX12_about_10 kb_6 ?_
  refine e_Si (as := [.int v2, .int 0, .int 6]) (rest := []) dX12_about_12 vX12_within ml_12_52 stX12_within npX12_within (by decide) rfl (Nat.le_of_ble_eq_true rfl) (by omega) (t_X12_within (d := d - 1) (by omega) (by omega) hX c1) ?_
  refine ev_ifT (tgt := 21) dX12_about_15 (by decide) (by show ¬ (1 : Int32) = 0; decide) ?_
  refine ev_iload_n dX12_about_21 rfl ?_
  refine ev_tabI (tgt := 71) (off := 49) dX12_about_22 (by rw [c2]; decide) (by rw [c2]; decide) (by rw [c2]; rfl) (by decide) ?_
  refine ev_aload_n dX12_about_71 rfl ?_
  refine ev_getS (q := 134) dX12_about_72 fo_12_9 (by omega) lo_133 rfl (sh_133_0 hX (by omega)) (by decide) ?_
  refine ev_iload_n dX12_about_75 rfl ?_
  refine ev_iconst (v := 1) dX12_about_76 ki_1 ?_
  refine e_Si (as := [.int (nI v1), .int 1]) (rest := [.ref 134]) dX12_about_77 vX12_ofMeal ml_12_67 stX12_ofMeal npX12_ofMeal (by decide) rfl (Nat.le_of_ble_eq_true rfl) (by omega) (c_X12_ofMeal (d := d - 1) (by omega) (by omega) hX ) ?_
  refine ev_iald dX12_about_80 (by omega) ly_134 (by show (nI 318 + (nI 13 * nI v1)) + nI 1 = nI ((318 + (13 * v1)) + 1); simp only [pk_mul, nI_add]) b0 ?_
  exact ev_iret dX12_about_81 rfl rfl hp
theorem bX12_about_0_4 {g : GG} {d n : Nat} {post : Option Value → LX → Prop} {X : LX} (hd : 2 ≤ d) (hn : 146 ≤ n) (hX : Sh n X) {v1 : Nat} {v2 : Int32} (c0 : 0 ≤ (nI v1) ∧ (nI v1) ≤ X 134 5 - 1) (c1 : 0 ≤ v2 ∧ v2 ≤ 6) (c2 : v2 = 2) (c3 : v1 < 10) (c4 : okM X v1) (hp : post (some (.int (mAll X v1))) X) : Ev g mX12_about d n n post n 0 [some (.ref 133), some (.int (nI v1)), some (.int v2)] [] X := by
  refine ev_aload_n dX12_about_0 rfl ?_
  refine ev_iload_n dX12_about_1 rfl ?_
  refine e_Vi (as := [.int (nI v1)]) (rest := []) dX12_about_2 vX12_isMeal ml_12_70 isX12_isMeal seX12_isMeal npX12_isMeal (rc_133 (by omega)) (by decide) rfl (Nat.le_of_ble_eq_true rfl) (by omega) (t_X12_isMeal (d := d - 1) (by omega) (by omega) hX c0) ?_
  refine ev_ifF (tgt := 18) dX12_about_5 (by decide) (by show ¬ (1 : Int32) = 0; decide) ?_
  refine ev_iload_n dX12_about_8 rfl ?_
  refine ev_iconst (v := 0) dX12_about_9 ki_0 ?_
  refine ev_bipush (v := 6) dX12_about_10 kb_6 ?_
  refine e_Si (as := [.int v2, .int 0, .int 6]) (rest := []) dX12_about_12 vX12_within ml_12_52 stX12_within npX12_within (by decide) rfl (Nat.le_of_ble_eq_true rfl) (by omega) (t_X12_within (d := d - 1) (by omega) (by omega) hX c1) ?_
  refine ev_ifT (tgt := 21) dX12_about_15 (by decide) (by show ¬ (1 : Int32) = 0; decide) ?_
  refine ev_iload_n dX12_about_21 rfl ?_
  refine ev_tabI (tgt := 82) (off := 60) dX12_about_22 (by rw [c2]; decide) (by rw [c2]; decide) (by rw [c2]; rfl) (by decide) ?_
  refine ev_aload_n dX12_about_82 rfl ?_
  refine ev_iload_n dX12_about_83 rfl ?_
  refine e_Vi (as := [.int (nI v1)]) (rest := []) dX12_about_84 vX12_allergens ml_12_86 isX12_allergens seX12_allergens npX12_allergens (rc_133 (by omega)) (by decide) rfl (Nat.le_of_ble_eq_true rfl) (by omega) (k_X12_allergens (d := d - 1) (by omega) (by omega) hX c3 c4) ?_
  exact ev_iret dX12_about_87 rfl rfl hp
theorem bX12_about_0_5 {g : GG} {d n : Nat} {post : Option Value → LX → Prop} {X : LX} (hd : 2 ≤ d) (hn : 146 ≤ n) (hX : Sh n X) {v1 : Nat} {v2 : Int32} (c0 : 0 ≤ (nI v1) ∧ (nI v1) ≤ X 134 5 - 1) (c1 : 0 ≤ v2 ∧ v2 ≤ 6) (c2 : v2 = 3) (c3 : v1 < 10) (c4 : okM X v1) (hp : post (some (.int (mCost X v1))) X) : Ev g mX12_about d n n post n 0 [some (.ref 133), some (.int (nI v1)), some (.int v2)] [] X := by
  refine ev_aload_n dX12_about_0 rfl ?_
  refine ev_iload_n dX12_about_1 rfl ?_
  refine e_Vi (as := [.int (nI v1)]) (rest := []) dX12_about_2 vX12_isMeal ml_12_70 isX12_isMeal seX12_isMeal npX12_isMeal (rc_133 (by omega)) (by decide) rfl (Nat.le_of_ble_eq_true rfl) (by omega) (t_X12_isMeal (d := d - 1) (by omega) (by omega) hX c0) ?_
  refine ev_ifF (tgt := 18) dX12_about_5 (by decide) (by show ¬ (1 : Int32) = 0; decide) ?_
  refine ev_iload_n dX12_about_8 rfl ?_
  refine ev_iconst (v := 0) dX12_about_9 ki_0 ?_
  refine ev_bipush (v := 6) dX12_about_10 kb_6 ?_
  refine e_Si (as := [.int v2, .int 0, .int 6]) (rest := []) dX12_about_12 vX12_within ml_12_52 stX12_within npX12_within (by decide) rfl (Nat.le_of_ble_eq_true rfl) (by omega) (t_X12_within (d := d - 1) (by omega) (by omega) hX c1) ?_
  refine ev_ifT (tgt := 21) dX12_about_15 (by decide) (by show ¬ (1 : Int32) = 0; decide) ?_
  refine ev_iload_n dX12_about_21 rfl ?_
  refine ev_tabI (tgt := 88) (off := 66) dX12_about_22 (by rw [c2]; decide) (by rw [c2]; decide) (by rw [c2]; rfl) (by decide) ?_
  refine ev_aload_n dX12_about_88 rfl ?_
  refine ev_iload_n dX12_about_89 rfl ?_
  refine e_Vi (as := [.int (nI v1)]) (rest := []) dX12_about_90 vX12_cost ml_12_90 isX12_cost seX12_cost npX12_cost (rc_133 (by omega)) (by decide) rfl (Nat.le_of_ble_eq_true rfl) (by omega) (k_X12_cost (d := d - 1) (by omega) (by omega) hX c3 c4) ?_
  exact ev_iret dX12_about_93 rfl rfl hp
theorem bX12_about_0_6 {g : GG} {d n : Nat} {post : Option Value → LX → Prop} {X : LX} (hd : 2 ≤ d) (hn : 146 ≤ n) (hX : Sh n X) {v1 : Nat} {v2 : Int32} (c0 : 0 ≤ (nI v1) ∧ (nI v1) ≤ X 134 5 - 1) (c1 : 0 ≤ v2 ∧ v2 ≤ 6) (c2 : v2 = 4) (b0 : ((318 + (13 * v1)) + 2) < 2156) (hp : post (some (.int (X 134 ((318 + (13 * v1)) + 2)))) X) : Ev g mX12_about d n n post n 0 [some (.ref 133), some (.int (nI v1)), some (.int v2)] [] X := by
  refine ev_aload_n dX12_about_0 rfl ?_
  refine ev_iload_n dX12_about_1 rfl ?_
  refine e_Vi (as := [.int (nI v1)]) (rest := []) dX12_about_2 vX12_isMeal ml_12_70 isX12_isMeal seX12_isMeal npX12_isMeal (rc_133 (by omega)) (by decide) rfl (Nat.le_of_ble_eq_true rfl) (by omega) (t_X12_isMeal (d := d - 1) (by omega) (by omega) hX c0) ?_
  refine ev_ifF (tgt := 18) dX12_about_5 (by decide) (by show ¬ (1 : Int32) = 0; decide) ?_
  refine ev_iload_n dX12_about_8 rfl ?_
  refine ev_iconst (v := 0) dX12_about_9 ki_0 ?_
  refine ev_bipush (v := 6) dX12_about_10 kb_6 ?_
  refine e_Si (as := [.int v2, .int 0, .int 6]) (rest := []) dX12_about_12 vX12_within ml_12_52 stX12_within npX12_within (by decide) rfl (Nat.le_of_ble_eq_true rfl) (by omega) (t_X12_within (d := d - 1) (by omega) (by omega) hX c1) ?_
  refine ev_ifT (tgt := 21) dX12_about_15 (by decide) (by show ¬ (1 : Int32) = 0; decide) ?_
  refine ev_iload_n dX12_about_21 rfl ?_
  refine ev_tabI (tgt := 94) (off := 72) dX12_about_22 (by rw [c2]; decide) (by rw [c2]; decide) (by rw [c2]; rfl) (by decide) ?_
  refine ev_aload_n dX12_about_94 rfl ?_
  refine ev_getS (q := 134) dX12_about_95 fo_12_9 (by omega) lo_133 rfl (sh_133_0 hX (by omega)) (by decide) ?_
  refine ev_iload_n dX12_about_98 rfl ?_
  refine ev_iconst (v := 2) dX12_about_99 ki_2 ?_
  refine e_Si (as := [.int (nI v1), .int 2]) (rest := [.ref 134]) dX12_about_100 vX12_ofMeal ml_12_67 stX12_ofMeal npX12_ofMeal (by decide) rfl (Nat.le_of_ble_eq_true rfl) (by omega) (c_X12_ofMeal (d := d - 1) (by omega) (by omega) hX ) ?_
  refine ev_iald dX12_about_103 (by omega) ly_134 (by show (nI 318 + (nI 13 * nI v1)) + nI 2 = nI ((318 + (13 * v1)) + 2); simp only [pk_mul, nI_add]) b0 ?_
  exact ev_iret dX12_about_104 rfl rfl hp
theorem bX12_about_0_7 {g : GG} {d n : Nat} {post : Option Value → LX → Prop} {X : LX} (hd : 2 ≤ d) (hn : 146 ≤ n) (hX : Sh n X) {v1 : Nat} {v2 : Int32} (c0 : 0 ≤ (nI v1) ∧ (nI v1) ≤ X 134 5 - 1) (c1 : 0 ≤ v2 ∧ v2 ≤ 6) (c2 : v2 = 5) (c3 : v1 < 10) (c4 : okM X v1) (hp : post (some (.int (mGr X v1))) X) : Ev g mX12_about d n n post n 0 [some (.ref 133), some (.int (nI v1)), some (.int v2)] [] X := by
  refine ev_aload_n dX12_about_0 rfl ?_
  refine ev_iload_n dX12_about_1 rfl ?_
  refine e_Vi (as := [.int (nI v1)]) (rest := []) dX12_about_2 vX12_isMeal ml_12_70 isX12_isMeal seX12_isMeal npX12_isMeal (rc_133 (by omega)) (by decide) rfl (Nat.le_of_ble_eq_true rfl) (by omega) (t_X12_isMeal (d := d - 1) (by omega) (by omega) hX c0) ?_
  refine ev_ifF (tgt := 18) dX12_about_5 (by decide) (by show ¬ (1 : Int32) = 0; decide) ?_
  refine ev_iload_n dX12_about_8 rfl ?_
  refine ev_iconst (v := 0) dX12_about_9 ki_0 ?_
  refine ev_bipush (v := 6) dX12_about_10 kb_6 ?_
  refine e_Si (as := [.int v2, .int 0, .int 6]) (rest := []) dX12_about_12 vX12_within ml_12_52 stX12_within npX12_within (by decide) rfl (Nat.le_of_ble_eq_true rfl) (by omega) (t_X12_within (d := d - 1) (by omega) (by omega) hX c1) ?_
  refine ev_ifT (tgt := 21) dX12_about_15 (by decide) (by show ¬ (1 : Int32) = 0; decide) ?_
  refine ev_iload_n dX12_about_21 rfl ?_
  refine ev_tabI (tgt := 105) (off := 83) dX12_about_22 (by rw [c2]; decide) (by rw [c2]; decide) (by rw [c2]; rfl) (by decide) ?_
  refine ev_aload_n dX12_about_105 rfl ?_
  refine ev_iload_n dX12_about_106 rfl ?_
  refine e_Vi (as := [.int (nI v1)]) (rest := []) dX12_about_107 vX12_grams ml_12_93 isX12_grams seX12_grams npX12_grams (rc_133 (by omega)) (by decide) rfl (Nat.le_of_ble_eq_true rfl) (by omega) (k_X12_grams (d := d - 1) (by omega) (by omega) hX c3 c4) ?_
  exact ev_iret dX12_about_110 rfl rfl hp
theorem bX12_about_0_8 {g : GG} {d n : Nat} {post : Option Value → LX → Prop} {X : LX} (hd : 2 ≤ d) (hn : 146 ≤ n) (hX : Sh n X) {v1 : Int32} {v2 : Int32} (c0 : 0 ≤ v1 ∧ v1 ≤ X 134 5 - 1) (c1 : ¬ (0 ≤ v2 ∧ v2 ≤ 6)) (hp : post (some (.int (-1000000001))) X) : Ev g mX12_about d n n post n 0 [some (.ref 133), some (.int v1), some (.int v2)] [] X := by
  refine ev_aload_n dX12_about_0 rfl ?_
  refine ev_iload_n dX12_about_1 rfl ?_
  refine e_Vi (as := [.int v1]) (rest := []) dX12_about_2 vX12_isMeal ml_12_70 isX12_isMeal seX12_isMeal npX12_isMeal (rc_133 (by omega)) (by decide) rfl (Nat.le_of_ble_eq_true rfl) (by omega) (t_X12_isMeal (d := d - 1) (by omega) (by omega) hX c0) ?_
  refine ev_ifF (tgt := 18) dX12_about_5 (by decide) (by show ¬ (1 : Int32) = 0; decide) ?_
  refine ev_iload_n dX12_about_8 rfl ?_
  refine ev_iconst (v := 0) dX12_about_9 ki_0 ?_
  refine ev_bipush (v := 6) dX12_about_10 kb_6 ?_
  refine e_Si (as := [.int v2, .int 0, .int 6]) (rest := []) dX12_about_12 vX12_within ml_12_52 stX12_within npX12_within (by decide) rfl (Nat.le_of_ble_eq_true rfl) (by omega) (f_X12_within (d := d - 1) (by omega) (by omega) hX c1) ?_
  refine ev_ifF (tgt := 21) dX12_about_15 (by decide) (by show (0 : Int32) = 0; decide) ?_
  refine ev_ldc (v := (-1000000001)) dX12_about_18 kw_12_57 ?_
  exact ev_iret dX12_about_20 rfl rfl hp
theorem bX12_about_0_9 {g : GG} {d n : Nat} {post : Option Value → LX → Prop} {X : LX} (hd : 2 ≤ d) (hn : 146 ≤ n) (hX : Sh n X) {v1 : Int32} {v2 : Int32} (c0 : ¬ (0 ≤ v1 ∧ v1 ≤ X 134 5 - 1)) (hp : post (some (.int (-1000000001))) X) : Ev g mX12_about d n n post n 0 [some (.ref 133), some (.int v1), some (.int v2)] [] X := by
  refine ev_aload_n dX12_about_0 rfl ?_
  refine ev_iload_n dX12_about_1 rfl ?_
  refine e_Vi (as := [.int v1]) (rest := []) dX12_about_2 vX12_isMeal ml_12_70 isX12_isMeal seX12_isMeal npX12_isMeal (rc_133 (by omega)) (by decide) rfl (Nat.le_of_ble_eq_true rfl) (by omega) (f_X12_isMeal (d := d - 1) (by omega) (by omega) hX c0) ?_
  refine ev_ifT (tgt := 18) dX12_about_5 (by decide) (by show (0 : Int32) = 0; decide) ?_
  refine ev_ldc (v := (-1000000001)) dX12_about_18 kw_12_57 ?_
  exact ev_iret dX12_about_20 rfl rfl hp
theorem bX12_about_127_0 {g : GG} {d n : Nat} {post : Option Value → LX → Prop} {X : LX} (hn : 146 ≤ n) (hX : Sh n X) {v1 : Int32} {v2 : Int32} {s0 : Int32} (c0 : ¬ s0 = 0) (hp : post (some (.int 1)) X) : Ev g mX12_about d n n post n 127 [some (.ref 133), some (.int v1), some (.int v2)] [.int s0] X := by
  refine ev_ifF (tgt := 134) dX12_about_127 (by decide) c0 ?_
  refine ev_iconst (v := 1) dX12_about_130 ki_1 ?_
  refine ev_goto (tgt := 135) dX12_about_131 (by decide) ?_
  exact ev_iret dX12_about_135 rfl rfl hp
theorem bX12_about_127_1 {g : GG} {d n : Nat} {post : Option Value → LX → Prop} {X : LX} (hn : 146 ≤ n) (hX : Sh n X) {v1 : Int32} {v2 : Int32} {s0 : Int32} (c0 : s0 = 0) (hp : post (some (.int 0)) X) : Ev g mX12_about d n n post n 127 [some (.ref 133), some (.int v1), some (.int v2)] [.int s0] X := by
  refine ev_ifT (tgt := 134) dX12_about_127 (by decide) c0 ?_
  refine ev_iconst (v := 0) dX12_about_134 ki_0 ?_
  exact ev_iret dX12_about_135 rfl rfl hp
theorem bX12_ice_0_0 {g : GG} {d n : Nat} {post : Option Value → LX → Prop} {X : LX} (hd : 5 ≤ d) (hn : 146 ≤ n) (hX : Sh n X) {v1 : Nat} (c0 : 0 ≤ (nI v1) ∧ (nI v1) ≤ X 134 6 - 1) (c1 : ¬ X 134 2 = 0) (c2 : v1 < 12) (c3 : okN X) (c4 : mBox X v1 = 0) (hp : post (some (.int 0)) X) : Ev g mX12_ice d n n post n 0 [some (.ref 133), some (.int (nI v1))] [] X := by
  refine ev_aload_n dX12_ice_0 rfl ?_
  refine ev_iload_n dX12_ice_1 rfl ?_
  refine e_Vi (as := [.int (nI v1)]) (rest := []) dX12_ice_2 vX12_isFamily ml_12_102 isX12_isFamily seX12_isFamily npX12_isFamily (rc_133 (by omega)) (by decide) rfl (Nat.le_of_ble_eq_true rfl) (by omega) (t_X12_isFamily (d := d - 1) (by omega) (by omega) hX c0) ?_
  refine ev_ifT (tgt := 11) dX12_ice_5 (by decide) (by show ¬ (1 : Int32) = 0; decide) ?_
  refine ev_aload_n dX12_ice_11 rfl ?_
  refine ev_getS (q := 134) dX12_ice_12 fo_12_9 (by omega) lo_133 rfl (sh_133_0 hX (by omega)) (by decide) ?_
  refine ev_iconst (v := 2) dX12_ice_15 ki_2 ?_
  refine ev_iald dX12_ice_16 (by omega) ly_134 nIl_2 (by decide) ?_
  refine ev_ifF (tgt := 28) dX12_ice_17 (by decide) c1 ?_
  refine ev_aload_n dX12_ice_20 rfl ?_
  refine ev_iload_n dX12_ice_21 rfl ?_
  refine e_Vi (as := [.int (nI v1)]) (rest := []) dX12_ice_22 vX12_boxToday ml_12_115 isX12_boxToday seX12_boxToday npX12_boxToday (rc_133 (by omega)) (by decide) rfl (Nat.le_of_ble_eq_true rfl) (by omega) (k_X12_boxToday (d := d - 1) (by omega) (by omega) hX c2 c3) ?_
  refine ev_ifF (tgt := 30) dX12_ice_25 (by decide) c4 ?_
  refine ev_iconst (v := 0) dX12_ice_28 ki_0 ?_
  exact ev_iret dX12_ice_29 rfl rfl hp
theorem bX12_ice_0_1 {g : GG} {d n : Nat} {post : Option Value → LX → Prop} {X : LX} (hd : 5 ≤ d) (hn : 146 ≤ n) (hX : Sh n X) {v1 : Nat} (c0 : 0 ≤ (nI v1) ∧ (nI v1) ≤ X 134 6 - 1) (c1 : ¬ X 134 2 = 0) (c2 : v1 < 12) (c3 : okN X) (c4 : ¬ mBox X v1 = 0) (k : Ev g mX12_ice d n n post n 37 [some (.ref 133), some (.int (nI v1))] [.int (nI v1), .int 1, .ref 133, .int 9999, .int 0] X) : Ev g mX12_ice d n n post n 0 [some (.ref 133), some (.int (nI v1))] [] X := by
  refine ev_aload_n dX12_ice_0 rfl ?_
  refine ev_iload_n dX12_ice_1 rfl ?_
  refine e_Vi (as := [.int (nI v1)]) (rest := []) dX12_ice_2 vX12_isFamily ml_12_102 isX12_isFamily seX12_isFamily npX12_isFamily (rc_133 (by omega)) (by decide) rfl (Nat.le_of_ble_eq_true rfl) (by omega) (t_X12_isFamily (d := d - 1) (by omega) (by omega) hX c0) ?_
  refine ev_ifT (tgt := 11) dX12_ice_5 (by decide) (by show ¬ (1 : Int32) = 0; decide) ?_
  refine ev_aload_n dX12_ice_11 rfl ?_
  refine ev_getS (q := 134) dX12_ice_12 fo_12_9 (by omega) lo_133 rfl (sh_133_0 hX (by omega)) (by decide) ?_
  refine ev_iconst (v := 2) dX12_ice_15 ki_2 ?_
  refine ev_iald dX12_ice_16 (by omega) ly_134 nIl_2 (by decide) ?_
  refine ev_ifF (tgt := 28) dX12_ice_17 (by decide) c1 ?_
  refine ev_aload_n dX12_ice_20 rfl ?_
  refine ev_iload_n dX12_ice_21 rfl ?_
  refine e_Vi (as := [.int (nI v1)]) (rest := []) dX12_ice_22 vX12_boxToday ml_12_115 isX12_boxToday seX12_boxToday npX12_boxToday (rc_133 (by omega)) (by decide) rfl (Nat.le_of_ble_eq_true rfl) (by omega) (k_X12_boxToday (d := d - 1) (by omega) (by omega) hX c2 c3) ?_
  refine ev_ifT (tgt := 30) dX12_ice_25 (by decide) c4 ?_
  refine ev_iconst (v := 0) dX12_ice_30 ki_0 ?_
  refine ev_sipush (v := 9999) dX12_ice_31 ks_9999 ?_
  refine ev_aload_n dX12_ice_34 rfl ?_
  refine ev_iconst (v := 1) dX12_ice_35 ki_1 ?_
  refine ev_iload_n dX12_ice_36 rfl ?_
  exact k
theorem bX12_ice_0_2 {g : GG} {d n : Nat} {post : Option Value → LX → Prop} {X : LX} (hd : 2 ≤ d) (hn : 146 ≤ n) (hX : Sh n X) {v1 : Int32} (c0 : 0 ≤ v1 ∧ v1 ≤ X 134 6 - 1) (c1 : X 134 2 = 0) (hp : post (some (.int 0)) X) : Ev g mX12_ice d n n post n 0 [some (.ref 133), some (.int v1)] [] X := by
  refine ev_aload_n dX12_ice_0 rfl ?_
  refine ev_iload_n dX12_ice_1 rfl ?_
  refine e_Vi (as := [.int v1]) (rest := []) dX12_ice_2 vX12_isFamily ml_12_102 isX12_isFamily seX12_isFamily npX12_isFamily (rc_133 (by omega)) (by decide) rfl (Nat.le_of_ble_eq_true rfl) (by omega) (t_X12_isFamily (d := d - 1) (by omega) (by omega) hX c0) ?_
  refine ev_ifT (tgt := 11) dX12_ice_5 (by decide) (by show ¬ (1 : Int32) = 0; decide) ?_
  refine ev_aload_n dX12_ice_11 rfl ?_
  refine ev_getS (q := 134) dX12_ice_12 fo_12_9 (by omega) lo_133 rfl (sh_133_0 hX (by omega)) (by decide) ?_
  refine ev_iconst (v := 2) dX12_ice_15 ki_2 ?_
  refine ev_iald dX12_ice_16 (by omega) ly_134 nIl_2 (by decide) ?_
  refine ev_ifT (tgt := 28) dX12_ice_17 (by decide) c1 ?_
  refine ev_iconst (v := 0) dX12_ice_28 ki_0 ?_
  exact ev_iret dX12_ice_29 rfl rfl hp
theorem bX12_ice_0_3 {g : GG} {d n : Nat} {post : Option Value → LX → Prop} {X : LX} (hd : 2 ≤ d) (hn : 146 ≤ n) (hX : Sh n X) {v1 : Int32} (c0 : ¬ (0 ≤ v1 ∧ v1 ≤ X 134 6 - 1)) (hp : post (some (.int (-1000000001))) X) : Ev g mX12_ice d n n post n 0 [some (.ref 133), some (.int v1)] [] X := by
  refine ev_aload_n dX12_ice_0 rfl ?_
  refine ev_iload_n dX12_ice_1 rfl ?_
  refine e_Vi (as := [.int v1]) (rest := []) dX12_ice_2 vX12_isFamily ml_12_102 isX12_isFamily seX12_isFamily npX12_isFamily (rc_133 (by omega)) (by decide) rfl (Nat.le_of_ble_eq_true rfl) (by omega) (f_X12_isFamily (d := d - 1) (by omega) (by omega) hX c0) ?_
  refine ev_ifF (tgt := 11) dX12_ice_5 (by decide) (by show (0 : Int32) = 0; decide) ?_
  refine ev_ldc (v := (-1000000001)) dX12_ice_8 kw_12_57 ?_
  exact ev_iret dX12_ice_10 rfl rfl hp
theorem bX12_ice_40_0 {g : GG} {d n : Nat} {post : Option Value → LX → Prop} {X : LX} (hd : 1 ≤ d) (hn : 146 ≤ n) (hX : Sh n X) {v1 : Int32} {s0 : Int32} {s1 : Int32} {s2 : Int32} (hp : post (some (.int (if s0 < (if s2 < s1 then s2 else s1) then (if s2 < s1 then s2 else s1) else s0))) X) : Ev g mX12_ice d n n post n 40 [some (.ref 133), some (.int v1)] [.int s2, .int s1, .int s0] X := by
  refine e_min dX12_ice_40 mm_12_118 mn_st mx_in mn_co (Nat.le_of_ble_eq_true rfl) (by omega) ?_
  refine e_max dX12_ice_43 mm_12_81 mx_st mx_in mx_co (Nat.le_of_ble_eq_true rfl) (by omega) ?_
  exact ev_iret dX12_ice_46 rfl rfl hp
theorem qX2_worth_67 {g : GG} {d d' n : Nat} {post post1 : Option Value → LX → Prop} {L : List (Option Value)} {rest : List Value} {X : LX} {a1 : Int32} (hn : 146 ≤ n) (hdd : d' + 1 ≤ d) (hs8 : (rest.map fun v => v.category).sum ≤ 8) (hEx : Ex g mX2_nameOf d' n n [.ref 77, .int a1] X post1) (k : ∀ v X1, post1 v X1 → Ev g mX2_worth d n n post n 70 L (v.toList ++ rest) X1) : Ev g mX2_worth d n n post n 67 L (.int a1 :: .ref 77 :: rest) X :=
  ev_callV (as := [.int a1]) (rest := rest) dX2_worth_67 vX2_nameOf ml_2_49 isX2_nameOf seX2_nameOf npX2_nameOf (rc_77 (by omega)) hdd (by show 64 * (d' + 1) ≤ 64 * d; omega) (by decide) rfl hs8 (Nat.le_refl n) (Nat.le_refl _) (Nat.le_refl _) hEx k
theorem qX2_worth_147 {g : GG} {d d' n : Nat} {post post1 : Option Value → LX → Prop} {L : List (Option Value)} {rest : List Value} {X : LX} {a1 : Int32} {a2 : Int32} {a3 : Int32} (hn : 146 ≤ n) (hdd : d' + 1 ≤ d) (hs8 : (rest.map fun v => v.category).sum ≤ 8) (hEx : Ex g mX2_join d' n n [.int a1, .int a2, .int a3] X post1) (k : ∀ v X1, post1 v X1 → Ev g mX2_worth d n n post n 150 L (v.toList ++ rest) X1) : Ev g mX2_worth d n n post n 147 L (.int a3 :: .int a2 :: .int a1 :: rest) X :=
  ev_callS (as := [.int a1, .int a2, .int a3]) (rest := rest) dX2_worth_147 vX2_join ml_2_57 stX2_join npX2_join hdd (by show 64 * (d' + 1) ≤ 64 * d; omega) (by decide) rfl hs8 (Nat.le_refl n) (Nat.le_refl _) (Nat.le_refl _) hEx k
theorem qX2_worthOfMark_6 {g : GG} {d d' n : Nat} {post post1 : Option Value → LX → Prop} {L : List (Option Value)} {rest : List Value} {X : LX} {a1 : Int32} {a2 : Int32} (hn : 146 ≤ n) (hdd : d' + 1 ≤ d) (hs8 : (rest.map fun v => v.category).sum ≤ 8) (hEx : Ex g mX2_worth d' n n [.ref 77, .int a1, .int a2] X post1) (k : ∀ v X1, post1 v X1 → Ev g mX2_worthOfMark d n n post n 9 L (v.toList ++ rest) X1) : Ev g mX2_worthOfMark d n n post n 6 L (.int a2 :: .int a1 :: .ref 77 :: rest) X :=
  ev_callV (as := [.int a1, .int a2]) (rest := rest) dX2_worthOfMark_6 vX2_worth ml_2_46 isX2_worth seX2_worth npX2_worth (rc_77 (by omega)) hdd (by show 64 * (d' + 1) ≤ 64 * d; omega) (by decide) rfl hs8 (Nat.le_refl n) (Nat.le_refl _) (Nat.le_refl _) hEx k
theorem qX2_worthOfIce_9 {g : GG} {d d' n : Nat} {post post1 : Option Value → LX → Prop} {L : List (Option Value)} {rest : List Value} {X : LX} {a1 : Int32} {a2 : Int32} (hn : 146 ≤ n) (hdd : d' + 1 ≤ d) (hs8 : (rest.map fun v => v.category).sum ≤ 8) (hEx : Ex g mX2_worth d' n n [.ref 77, .int a1, .int a2] X post1) (k : ∀ v X1, post1 v X1 → Ev g mX2_worthOfIce d n n post n 12 L (v.toList ++ rest) X1) : Ev g mX2_worthOfIce d n n post n 9 L (.int a2 :: .int a1 :: .ref 77 :: rest) X :=
  ev_callV (as := [.int a1, .int a2]) (rest := rest) dX2_worthOfIce_9 vX2_worth ml_2_46 isX2_worth seX2_worth npX2_worth (rc_77 (by omega)) hdd (by show 64 * (d' + 1) ≤ 64 * d; omega) (by decide) rfl hs8 (Nat.le_refl n) (Nat.le_refl _) (Nat.le_refl _) hEx k
theorem qX1_isMarked_99 {g : GG} {d d' n : Nat} {post post1 : Option Value → LX → Prop} {L : List (Option Value)} {rest : List Value} {X : LX}  (hn : 146 ≤ n) (hdd : d' + 1 ≤ d) (hs8 : (rest.map fun v => v.category).sum ≤ 8) (hEx : Ex g mX2_worthOfMark d' n n [.ref 77] X post1) (k : ∀ v X1, post1 v X1 → Ev g mX1_isMarked d n n post n 102 L (v.toList ++ rest) X1) : Ev g mX1_isMarked d n n post n 99 L (.ref 77 :: rest) X :=
  ev_callV (as := []) (rest := rest) dX1_isMarked_99 vX2_worthOfMark ml_1_117 isX2_worthOfMark seX2_worthOfMark npX2_worthOfMark (rc_77 (by omega)) hdd (by show 64 * (d' + 1) ≤ 64 * d; omega) (by decide) rfl hs8 (Nat.le_refl n) (Nat.le_refl _) (Nat.le_refl _) hEx k
theorem qX1_iceOf_158 {g : GG} {d d' n : Nat} {post post1 : Option Value → LX → Prop} {L : List (Option Value)} {rest : List Value} {X : LX}  (hn : 146 ≤ n) (hdd : d' + 1 ≤ d) (hs8 : (rest.map fun v => v.category).sum ≤ 8) (hEx : Ex g mX2_worthOfIce d' n n [.ref 77] X post1) (k : ∀ v X1, post1 v X1 → Ev g mX1_iceOf d n n post n 161 L (v.toList ++ rest) X1) : Ev g mX1_iceOf d n n post n 158 L (.ref 77 :: rest) X :=
  ev_callV (as := []) (rest := rest) dX1_iceOf_158 vX2_worthOfIce ml_1_160 isX2_worthOfIce seX2_worthOfIce npX2_worthOfIce (rc_77 (by omega)) hdd (by show 64 * (d' + 1) ≤ 64 * d; omega) (by decide) rfl hs8 (Nat.le_refl n) (Nat.le_refl _) (Nat.le_refl _) hEx k
theorem qX11_about_133 {g : GG} {d d' n : Nat} {post post1 : Option Value → LX → Prop} {L : List (Option Value)} {rest : List Value} {X : LX} {a1 : Int32} (hn : 146 ≤ n) (hdd : d' + 1 ≤ d) (hs8 : (rest.map fun v => v.category).sum ≤ 8) (hEx : Ex g mX1_isMarked d' n n [.ref 1, .int a1] X post1) (k : ∀ v X1, post1 v X1 → Ev g mX11_about d n n post n 136 L (v.toList ++ rest) X1) : Ev g mX11_about d n n post n 133 L (.int a1 :: .ref 1 :: rest) X :=
  ev_callV (as := [.int a1]) (rest := rest) dX11_about_133 vX1_isMarked ml_11_141 isX1_isMarked seX1_isMarked npX1_isMarked (rc_1 (by omega)) hdd (by show 64 * (d' + 1) ≤ 64 * d; omega) (by decide) rfl hs8 (Nat.le_refl n) (Nat.le_refl _) (Nat.le_refl _) hEx k
theorem qX11_ice_22 {g : GG} {d d' n : Nat} {post post1 : Option Value → LX → Prop} {L : List (Option Value)} {rest : List Value} {X : LX} {a1 : Int32} (hn : 146 ≤ n) (hdd : d' + 1 ≤ d) (hs8 : (rest.map fun v => v.category).sum ≤ 8) (hEx : Ex g mX1_iceOf d' n n [.ref 1, .int a1] X post1) (k : ∀ v X1, post1 v X1 → Ev g mX11_ice d n n post n 25 L (v.toList ++ rest) X1) : Ev g mX11_ice d n n post n 22 L (.int a1 :: .ref 1 :: rest) X :=
  ev_callV (as := [.int a1]) (rest := rest) dX11_ice_22 vX1_iceOf ml_11_212 isX1_iceOf seX1_iceOf npX1_iceOf (rc_1 (by omega)) hdd (by show 64 * (d' + 1) ≤ 64 * d; omega) (by decide) rfl hs8 (Nat.le_refl n) (Nat.le_refl _) (Nat.le_refl _) hEx k
theorem qX12_worked_100 {g : GG} {d d' n : Nat} {post post1 : Option Value → LX → Prop} {L : List (Option Value)} {rest : List Value} {X : LX} {a1 : Int32} {a2 : Int32} (hn : 146 ≤ n) (hdd : d' + 1 ≤ d) (hs8 : (rest.map fun v => v.category).sum ≤ 8) (hEx : Ex g mX12_ofMark d' n n [.ref 133, .int a1, .int a2] X post1) (k : ∀ v X1, post1 v X1 → Ev g mX12_worked d n n post n 103 L (v.toList ++ rest) X1) : Ev g mX12_worked d n n post n 100 L (.int a2 :: .int a1 :: .ref 133 :: rest) X :=
  ev_callV (as := [.int a1, .int a2]) (rest := rest) dX12_worked_100 vX12_ofMark ml_12_222 isX12_ofMark seX12_ofMark npX12_ofMark (rc_133 (by omega)) hdd (by show 64 * (d' + 1) ≤ 64 * d; omega) (by decide) rfl hs8 (Nat.le_refl n) (Nat.le_refl _) (Nat.le_refl _) hEx k
theorem qX12_worked_113 {g : GG} {d d' n : Nat} {post post1 : Option Value → LX → Prop} {L : List (Option Value)} {rest : List Value} {X : LX} {a1 : Int32} {a2 : Int32} (hn : 146 ≤ n) (hdd : d' + 1 ≤ d) (hs8 : (rest.map fun v => v.category).sum ≤ 8) (hEx : Ex g mX12_ofIce d' n n [.ref 133, .int a1, .int a2] X post1) (k : ∀ v X1, post1 v X1 → Ev g mX12_worked d n n post n 116 L (v.toList ++ rest) X1) : Ev g mX12_worked d n n post n 113 L (.int a2 :: .int a1 :: .ref 133 :: rest) X :=
  ev_callV (as := [.int a1, .int a2]) (rest := rest) dX12_worked_113 vX12_ofIce ml_12_225 isX12_ofIce seX12_ofIce npX12_ofIce (rc_133 (by omega)) hdd (by show 64 * (d' + 1) ≤ 64 * d; omega) (by decide) rfl hs8 (Nat.le_refl n) (Nat.le_refl _) (Nat.le_refl _) hEx k
theorem qX12_worked_191 {g : GG} {d d' n : Nat} {post post1 : Option Value → LX → Prop} {L : List (Option Value)} {rest : List Value} {X : LX} {a1 : Int32} {a2 : Int32} {a3 : Int32} (hn : 146 ≤ n) (hdd : d' + 1 ≤ d) (hs8 : (rest.map fun v => v.category).sum ≤ 8) (hEx : Ex g mX12_done d' n n [.int a1, .int a2, .int a3] X post1) (k : ∀ v X1, post1 v X1 → Ev g mX12_worked d n n post n 194 L (v.toList ++ rest) X1) : Ev g mX12_worked d n n post n 191 L (.int a3 :: .int a2 :: .int a1 :: rest) X :=
  ev_callS (as := [.int a1, .int a2, .int a3]) (rest := rest) dX12_worked_191 vX12_done ml_12_228 stX12_done npX12_done hdd (by show 64 * (d' + 1) ≤ 64 * d; omega) (by decide) rfl hs8 (Nat.le_refl n) (Nat.le_refl _) (Nat.le_refl _) hEx k
theorem qX12_about_124 {g : GG} {d d' n : Nat} {post post1 : Option Value → LX → Prop} {L : List (Option Value)} {rest : List Value} {X : LX} {a1 : Int32} {a2 : Int32} (hn : 146 ≤ n) (hdd : d' + 1 ≤ d) (hs8 : (rest.map fun v => v.category).sum ≤ 8) (hEx : Ex g mX12_worked d' n n [.ref 133, .int a1, .int a2] X post1) (k : ∀ v X1, post1 v X1 → Ev g mX12_about d n n post n 127 L (v.toList ++ rest) X1) : Ev g mX12_about d n n post n 124 L (.int a2 :: .int a1 :: .ref 133 :: rest) X :=
  ev_callV (as := [.int a1, .int a2]) (rest := rest) dX12_about_124 vX12_worked ml_12_96 isX12_worked seX12_worked npX12_worked (rc_133 (by omega)) hdd (by show 64 * (d' + 1) ≤ 64 * d; omega) (by decide) rfl hs8 (Nat.le_refl n) (Nat.le_refl _) (Nat.le_refl _) hEx k
theorem qX12_ice_37 {g : GG} {d d' n : Nat} {post post1 : Option Value → LX → Prop} {L : List (Option Value)} {rest : List Value} {X : LX} {a1 : Int32} {a2 : Int32} (hn : 146 ≤ n) (hdd : d' + 1 ≤ d) (hs8 : (rest.map fun v => v.category).sum ≤ 8) (hEx : Ex g mX12_worked d' n n [.ref 133, .int a1, .int a2] X post1) (k : ∀ v X1, post1 v X1 → Ev g mX12_ice d n n post n 40 L (v.toList ++ rest) X1) : Ev g mX12_ice d n n post n 37 L (.int a2 :: .int a1 :: .ref 133 :: rest) X :=
  ev_callV (as := [.int a1, .int a2]) (rest := rest) dX12_ice_37 vX12_worked ml_12_96 isX12_worked seX12_worked npX12_worked (rc_133 (by omega)) hdd (by show 64 * (d' + 1) ≤ 64 * d; omega) (by decide) rfl hs8 (Nat.le_refl n) (Nat.le_refl _) (Nat.le_refl _) hEx k
