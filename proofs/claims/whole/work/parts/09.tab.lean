theorem ki_m8 : Int32.ofInt (-8) = (-8) := by decide +kernel
theorem ki_m1 : Int32.ofInt (-1) = (-1) := by decide +kernel
theorem ki_0 : Int32.ofInt 0 = 0 := by decide +kernel
theorem ki_1 : Int32.ofInt 1 = 1 := by decide +kernel
theorem ki_2 : Int32.ofInt 2 = 2 := by decide +kernel
theorem ki_3 : Int32.ofInt 3 = 3 := by decide +kernel
theorem ki_4 : Int32.ofInt 4 = 4 := by decide +kernel
theorem ki_5 : Int32.ofInt 5 = 5 := by decide +kernel
theorem kb_m100 : (Int8.ofInt (-100)).toInt32 = (-100) := by decide +kernel
theorem kb_m33 : (Int8.ofInt (-33)).toInt32 = (-33) := by decide +kernel
theorem kb_6 : (Int8.ofInt 6).toInt32 = 6 := by decide +kernel
theorem kb_7 : (Int8.ofInt 7).toInt32 = 7 := by decide +kernel
theorem kb_8 : (Int8.ofInt 8).toInt32 = 8 := by decide +kernel
theorem kb_9 : (Int8.ofInt 9).toInt32 = 9 := by decide +kernel
theorem kb_10 : (Int8.ofInt 10).toInt32 = 10 := by decide +kernel
theorem kb_12 : (Int8.ofInt 12).toInt32 = 12 := by decide +kernel
theorem kb_13 : (Int8.ofInt 13).toInt32 = 13 := by decide +kernel
theorem kb_14 : (Int8.ofInt 14).toInt32 = 14 := by decide +kernel
theorem kb_15 : (Int8.ofInt 15).toInt32 = 15 := by decide +kernel
theorem kb_16 : (Int8.ofInt 16).toInt32 = 16 := by decide +kernel
theorem kb_20 : (Int8.ofInt 20).toInt32 = 20 := by decide +kernel
theorem kb_24 : (Int8.ofInt 24).toInt32 = 24 := by decide +kernel
theorem kb_32 : (Int8.ofInt 32).toInt32 = 32 := by decide +kernel
theorem kb_33 : (Int8.ofInt 33).toInt32 = 33 := by decide +kernel
theorem kb_36 : (Int8.ofInt 36).toInt32 = 36 := by decide +kernel
theorem kb_40 : (Int8.ofInt 40).toInt32 = 40 := by decide +kernel
theorem kb_41 : (Int8.ofInt 41).toInt32 = 41 := by decide +kernel
theorem kb_48 : (Int8.ofInt 48).toInt32 = 48 := by decide +kernel
theorem kb_57 : (Int8.ofInt 57).toInt32 = 57 := by decide +kernel
theorem kb_60 : (Int8.ofInt 60).toInt32 = 60 := by decide +kernel
theorem kb_63 : (Int8.ofInt 63).toInt32 = 63 := by decide +kernel
theorem kb_97 : (Int8.ofInt 97).toInt32 = 97 := by decide +kernel
theorem kb_99 : (Int8.ofInt 99).toInt32 = 99 := by decide +kernel
theorem kb_100 : (Int8.ofInt 100).toInt32 = 100 := by decide +kernel
theorem kb_120 : (Int8.ofInt 120).toInt32 = 120 := by decide +kernel
theorem kb_122 : (Int8.ofInt 122).toInt32 = 122 := by decide +kernel
theorem ks_m1000 : (Int16.ofInt (-1000)).toInt32 = (-1000) := by decide +kernel
theorem ks_168 : (Int16.ofInt 168).toInt32 = 168 := by decide +kernel
theorem ks_169 : (Int16.ofInt 169).toInt32 = 169 := by decide +kernel
theorem ks_255 : (Int16.ofInt 255).toInt32 = 255 := by decide +kernel
theorem ks_318 : (Int16.ofInt 318).toInt32 = 318 := by decide +kernel
theorem ks_448 : (Int16.ofInt 448).toInt32 = 448 := by decide +kernel
theorem ks_588 : (Int16.ofInt 588).toInt32 = 588 := by decide +kernel
theorem ks_628 : (Int16.ofInt 628).toInt32 = 628 := by decide +kernel
theorem ks_828 : (Int16.ofInt 828).toInt32 = 828 := by decide +kernel
theorem ks_999 : (Int16.ofInt 999).toInt32 = 999 := by decide +kernel
theorem ks_1000 : (Int16.ofInt 1000).toInt32 = 1000 := by decide +kernel
theorem ks_2000 : (Int16.ofInt 2000).toInt32 = 2000 := by decide +kernel
theorem ks_2028 : (Int16.ofInt 2028).toInt32 = 2028 := by decide +kernel
theorem ks_2156 : (Int16.ofInt 2156).toInt32 = 2156 := by decide +kernel
theorem ks_5000 : (Int16.ofInt 5000).toInt32 = 5000 := by decide +kernel
theorem ks_9999 : (Int16.ofInt 9999).toInt32 = 9999 := by decide +kernel
theorem ks_10000 : (Int16.ofInt 10000).toInt32 = 10000 := by decide +kernel
theorem ks_19999 : (Int16.ofInt 19999).toInt32 = 19999 := by decide +kernel
theorem nIl_0 : (0 : Int32) = nI 0 := rfl
theorem nIl_1 : (1 : Int32) = nI 1 := rfl
theorem nIl_2 : (2 : Int32) = nI 2 := rfl
theorem nIl_3 : (3 : Int32) = nI 3 := rfl
theorem nIl_4 : (4 : Int32) = nI 4 := rfl
theorem nIl_5 : (5 : Int32) = nI 5 := rfl
theorem nIl_6 : (6 : Int32) = nI 6 := rfl
theorem nIl_7 : (7 : Int32) = nI 7 := rfl
theorem nIl_8 : (8 : Int32) = nI 8 := rfl
theorem kw_6_92 : Cond.constant RX6 92 (-1000000004) ∈ GT := kTl_in (List.mem_of_getElem? (i := 10) rfl)
theorem kw_6_93 : Cond.constant RX6 93 (-1000000002) ∈ GT := kTl_in (List.mem_of_getElem? (i := 11) rfl)
theorem kw_8_75 : Cond.constant RX8 75 (-1000000004) ∈ GT := kTl_in (List.mem_of_getElem? (i := 13) rfl)
theorem kw_8_76 : Cond.constant RX8 76 (-1000000002) ∈ GT := kTl_in (List.mem_of_getElem? (i := 14) rfl)
theorem kw_8_147 : Cond.constant RX8 147 (-1000000005) ∈ GT := kTl_in (List.mem_of_getElem? (i := 16) rfl)
theorem kw_11_61 : Cond.constant RX11 61 (-1000000001) ∈ GT := kTl_in (List.mem_of_getElem? (i := 0) rfl)
theorem kw_11_72 : Cond.constant RX11 72 (-1000000003) ∈ GT := kTl_in (List.mem_of_getElem? (i := 1) rfl)
theorem kw_11_124 : Cond.constant RX11 124 (-1000000002) ∈ GT := kTl_in (List.mem_of_getElem? (i := 2) rfl)
theorem kw_11_176 : Cond.constant RX11 176 (-1000000011) ∈ GT := kTl_in (List.mem_of_getElem? (i := 6) rfl)
theorem kw_11_277 : Cond.constant RX11 277 99999 ∈ GT := kTl_in (List.mem_of_getElem? (i := 12) rfl)
theorem kw_11_319 : Cond.constant RX11 319 (-1000000005) ∈ GT := kTl_in (List.mem_of_getElem? (i := 15) rfl)
theorem kw_11_367 : Cond.constant RX11 367 (-1000000014) ∈ GT := kTl_in (List.mem_of_getElem? (i := 17) rfl)
theorem kw_11_374 : Cond.constant RX11 374 (-1000000013) ∈ GT := kTl_in (List.mem_of_getElem? (i := 18) rfl)
theorem kw_12_56 : Cond.constant RX12 56 99999 ∈ GT := kTl_in (List.mem_of_getElem? (i := 19) rfl)
theorem kw_12_57 : Cond.constant RX12 57 (-1000000001) ∈ GT := kTl_in (List.mem_of_getElem? (i := 20) rfl)
theorem kw_12_58 : Cond.constant RX12 58 (-1000000003) ∈ GT := kTl_in (List.mem_of_getElem? (i := 21) rfl)
theorem kw_12_80 : Cond.constant RX12 80 (-1000000002) ∈ GT := kTl_in (List.mem_of_getElem? (i := 22) rfl)
theorem kw_12_105 : Cond.constant RX12 105 (-1000000011) ∈ GT := kTl_in (List.mem_of_getElem? (i := 27) rfl)
theorem kw_12_178 : Cond.constant RX12 178 100000 ∈ GT := kTl_in (List.mem_of_getElem? (i := 25) rfl)
theorem kw_12_185 : Cond.constant RX12 185 200009 ∈ GT := kTl_in (List.mem_of_getElem? (i := 26) rfl)
theorem kw_12_195 : Cond.constant RX12 195 200000 ∈ GT := kTl_in (List.mem_of_getElem? (i := 24) rfl)
theorem kw_12_205 : Cond.constant RX12 205 200001 ∈ GT := kTl_in (List.mem_of_getElem? (i := 28) rfl)
theorem kw_12_217 : Cond.constant RX12 217 300000 ∈ GT := kTl_in (List.mem_of_getElem? (i := 23) rfl)
theorem kw_12_260 : Cond.constant RX12 260 (-1000000004) ∈ GT := kTl_in (List.mem_of_getElem? (i := 29) rfl)
theorem kw_12_300 : Cond.constant RX12 300 (-1000000005) ∈ GT := kTl_in (List.mem_of_getElem? (i := 30) rfl)
theorem kw_12_319 : Cond.constant RX12 319 (-1000000014) ∈ GT := kTl_in (List.mem_of_getElem? (i := 31) rfl)
theorem kw_12_320 : Cond.constant RX12 320 (-1000000013) ∈ GT := kTl_in (List.mem_of_getElem? (i := 32) rfl)
theorem kw_17_265 : Cond.constant RJ6 265 1431655765 ∈ GT := kTl_in (List.mem_of_getElem? (i := 3) rfl)
theorem kw_17_266 : Cond.constant RJ6 266 858993459 ∈ GT := kTl_in (List.mem_of_getElem? (i := 4) rfl)
theorem kw_17_267 : Cond.constant RJ6 267 252645135 ∈ GT := kTl_in (List.mem_of_getElem? (i := 5) rfl)
theorem sw_3_37 : sTl.getD 0 (0, 0, 0, 0) ∈ sTl := List.mem_of_getElem? (i := 0) rfl
theorem sw_3_46 : sTl.getD 1 (0, 0, 0, 0) ∈ sTl := List.mem_of_getElem? (i := 1) rfl
theorem sw_3_59 : sTl.getD 10 (0, 0, 0, 0) ∈ sTl := List.mem_of_getElem? (i := 10) rfl
theorem sw_3_61 : sTl.getD 11 (0, 0, 0, 0) ∈ sTl := List.mem_of_getElem? (i := 11) rfl
theorem sw_3_85 : sTl.getD 5 (0, 0, 0, 0) ∈ sTl := List.mem_of_getElem? (i := 5) rfl
theorem sw_3_87 : sTl.getD 6 (0, 0, 0, 0) ∈ sTl := List.mem_of_getElem? (i := 6) rfl
theorem sw_3_89 : sTl.getD 7 (0, 0, 0, 0) ∈ sTl := List.mem_of_getElem? (i := 7) rfl
theorem sw_3_91 : sTl.getD 8 (0, 0, 0, 0) ∈ sTl := List.mem_of_getElem? (i := 8) rfl
theorem sw_3_93 : sTl.getD 9 (0, 0, 0, 0) ∈ sTl := List.mem_of_getElem? (i := 9) rfl
theorem sw_3_126 : sTl.getD 2 (0, 0, 0, 0) ∈ sTl := List.mem_of_getElem? (i := 2) rfl
theorem sw_3_128 : sTl.getD 3 (0, 0, 0, 0) ∈ sTl := List.mem_of_getElem? (i := 3) rfl
theorem sw_3_130 : sTl.getD 4 (0, 0, 0, 0) ∈ sTl := List.mem_of_getElem? (i := 4) rfl
theorem sw_12_163 : sTl.getD 15 (0, 0, 0, 0) ∈ sTl := List.mem_of_getElem? (i := 15) rfl
theorem sw_12_209 : sTl.getD 13 (0, 0, 0, 0) ∈ sTl := List.mem_of_getElem? (i := 13) rfl
theorem sw_12_211 : sTl.getD 14 (0, 0, 0, 0) ∈ sTl := List.mem_of_getElem? (i := 14) rfl
theorem sw_12_218 : sTl.getD 16 (0, 0, 0, 0) ∈ sTl := List.mem_of_getElem? (i := 16) rfl
theorem sw_12_220 : sTl.getD 17 (0, 0, 0, 0) ∈ sTl := List.mem_of_getElem? (i := 17) rfl
theorem fo_0_9 : fOK RX0 9 0 1 := fOK_of (e := (0, 9, 0, 1, 202)) (List.mem_of_getElem? (i := 43) rfl) rfl rfl rfl rfl (by decide) (by decide)
theorem fo_0_15 : fOK RX0 15 0 2 := fOK_of (e := (0, 15, 0, 2, 206)) (List.mem_of_getElem? (i := 47) rfl) rfl rfl rfl rfl (by decide) (by decide)
theorem fo_0_18 : fOK RX0 18 0 3 := fOK_of (e := (0, 18, 0, 3, 209)) (List.mem_of_getElem? (i := 50) rfl) rfl rfl rfl rfl (by decide) (by decide)
theorem fo_0_21 : fOK RX0 21 0 4 := fOK_of (e := (0, 21, 0, 4, 212)) (List.mem_of_getElem? (i := 53) rfl) rfl rfl rfl rfl (by decide) (by decide)
theorem fo_0_24 : fOK RX0 24 0 5 := fOK_of (e := (0, 24, 0, 5, 215)) (List.mem_of_getElem? (i := 56) rfl) rfl rfl rfl rfl (by decide) (by decide)
theorem fo_0_29 : fOK RX0 29 0 6 := fOK_of (e := (0, 29, 0, 6, 218)) (List.mem_of_getElem? (i := 59) rfl) rfl rfl rfl rfl (by decide) (by decide)
theorem fo_0_32 : fOK RX0 32 0 7 := fOK_of (e := (0, 32, 0, 7, 222)) (List.mem_of_getElem? (i := 63) rfl) rfl rfl rfl rfl (by decide) (by decide)
theorem fo_0_41 : fOK RX0 41 0 0 := fOK_of (e := (0, 41, 0, 0, 196)) (List.mem_of_getElem? (i := 37) rfl) rfl rfl rfl rfl (by decide) (by decide)
theorem fo_1_12 : fOK RX1 12 1 0 := fOK_of (e := (1, 12, 1, 0, 311)) (List.mem_of_getElem? (i := 93) rfl) rfl rfl rfl rfl (by decide) (by decide)
theorem fo_1_21 : fOK RX1 21 1 1 := fOK_of (e := (1, 21, 1, 1, 315)) (List.mem_of_getElem? (i := 97) rfl) rfl rfl rfl rfl (by decide) (by decide)
theorem fo_1_28 : fOK RX1 28 1 2 := fOK_of (e := (1, 28, 1, 2, 318)) (List.mem_of_getElem? (i := 100) rfl) rfl rfl rfl rfl (by decide) (by decide)
theorem fo_1_35 : fOK RX1 35 1 3 := fOK_of (e := (1, 35, 1, 3, 323)) (List.mem_of_getElem? (i := 105) rfl) rfl rfl rfl rfl (by decide) (by decide)
theorem fo_1_42 : fOK RX1 42 1 4 := fOK_of (e := (1, 42, 1, 4, 326)) (List.mem_of_getElem? (i := 108) rfl) rfl rfl rfl rfl (by decide) (by decide)
theorem fo_1_46 : fOK RX1 46 1 7 := fOK_of (e := (1, 46, 1, 7, 332)) (List.mem_of_getElem? (i := 114) rfl) rfl rfl rfl rfl (by decide) (by decide)
theorem fo_1_66 : fOK RX1 66 1 5 := fOK_of (e := (1, 66, 1, 5, 328)) (List.mem_of_getElem? (i := 110) rfl) rfl rfl rfl rfl (by decide) (by decide)
theorem fo_1_69 : fOK RX1 69 1 6 := fOK_of (e := (1, 69, 1, 6, 330)) (List.mem_of_getElem? (i := 112) rfl) rfl rfl rfl rfl (by decide) (by decide)
theorem fo_1_72 : fOK RX1 72 1 8 := fOK_of (e := (1, 72, 1, 8, 334)) (List.mem_of_getElem? (i := 116) rfl) rfl rfl rfl rfl (by decide) (by decide)
theorem fo_1_76 : fOK RX1 76 7 0 := fOK_of (e := (1, 76, 7, 0, 122)) (List.mem_of_getElem? (i := 3) rfl) rfl rfl rfl rfl (by decide) (by decide)
theorem fo_1_79 : fOK RX1 79 5 3 := fOK_of (e := (1, 79, 5, 3, 177)) (List.mem_of_getElem? (i := 35) rfl) rfl rfl rfl rfl (by decide) (by decide)
theorem fo_1_83 : fOK RX1 83 7 1 := fOK_of (e := (1, 83, 7, 1, 126)) (List.mem_of_getElem? (i := 7) rfl) rfl rfl rfl rfl (by decide) (by decide)
theorem fo_1_87 : fOK RX1 87 7 3 := fOK_of (e := (1, 87, 7, 3, 133)) (List.mem_of_getElem? (i := 14) rfl) rfl rfl rfl rfl (by decide) (by decide)
theorem fo_1_90 : fOK RX1 90 2 0 := fOK_of (e := (1, 90, 2, 0, 291)) (List.mem_of_getElem? (i := 86) rfl) rfl rfl rfl rfl (by decide) (by decide)
theorem fo_1_93 : fOK RX1 93 2 5 := fOK_of (e := (1, 93, 2, 5, 297)) (List.mem_of_getElem? (i := 92) rfl) rfl rfl rfl rfl (by decide) (by decide)
theorem fo_1_111 : fOK RX1 111 5 1 := fOK_of (e := (1, 111, 5, 1, 172)) (List.mem_of_getElem? (i := 30) rfl) rfl rfl rfl rfl (by decide) (by decide)
theorem fo_1_121 : fOK RX1 121 0 1 := fOK_of (e := (1, 121, 0, 1, 204)) (List.mem_of_getElem? (i := 45) rfl) rfl rfl rfl rfl (by decide) (by decide)
theorem fo_1_124 : fOK RX1 124 0 3 := fOK_of (e := (1, 124, 0, 3, 210)) (List.mem_of_getElem? (i := 51) rfl) rfl rfl rfl rfl (by decide) (by decide)
theorem fo_1_131 : fOK RX1 131 5 0 := fOK_of (e := (1, 131, 5, 0, 169)) (List.mem_of_getElem? (i := 27) rfl) rfl rfl rfl rfl (by decide) (by decide)
theorem fo_1_138 : fOK RX1 138 0 7 := fOK_of (e := (1, 138, 0, 7, 223)) (List.mem_of_getElem? (i := 64) rfl) rfl rfl rfl rfl (by decide) (by decide)
theorem fo_1_141 : fOK RX1 141 0 5 := fOK_of (e := (1, 141, 0, 5, 216)) (List.mem_of_getElem? (i := 57) rfl) rfl rfl rfl rfl (by decide) (by decide)
theorem fo_1_148 : fOK RX1 148 0 6 := fOK_of (e := (1, 148, 0, 6, 221)) (List.mem_of_getElem? (i := 62) rfl) rfl rfl rfl rfl (by decide) (by decide)
theorem fo_1_154 : fOK RX1 154 0 2 := fOK_of (e := (1, 154, 0, 2, 208)) (List.mem_of_getElem? (i := 49) rfl) rfl rfl rfl rfl (by decide) (by decide)
theorem fo_1_157 : fOK RX1 157 0 4 := fOK_of (e := (1, 157, 0, 4, 214)) (List.mem_of_getElem? (i := 55) rfl) rfl rfl rfl rfl (by decide) (by decide)
theorem fo_1_171 : fOK RX1 171 0 0 := fOK_of (e := (1, 171, 0, 0, 201)) (List.mem_of_getElem? (i := 42) rfl) rfl rfl rfl rfl (by decide) (by decide)
theorem fo_1_176 : fOK RX1 176 4 0 := fOK_of (e := (1, 176, 4, 0, 249)) (List.mem_of_getElem? (i := 67) rfl) rfl rfl rfl rfl (by decide) (by decide)
theorem fo_1_177 : fOK RX1 177 4 3 := fOK_of (e := (1, 177, 4, 3, 257)) (List.mem_of_getElem? (i := 75) rfl) rfl rfl rfl rfl (by decide) (by decide)
theorem fo_1_180 : fOK RX1 180 7 5 := fOK_of (e := (1, 180, 7, 5, 139)) (List.mem_of_getElem? (i := 20) rfl) rfl rfl rfl rfl (by decide) (by decide)
theorem fo_1_183 : fOK RX1 183 4 1 := fOK_of (e := (1, 183, 4, 1, 252)) (List.mem_of_getElem? (i := 70) rfl) rfl rfl rfl rfl (by decide) (by decide)
theorem fo_2_9 : fOK RX2 9 2 3 := fOK_of (e := (2, 9, 2, 3, 294)) (List.mem_of_getElem? (i := 89) rfl) rfl rfl rfl rfl (by decide) (by decide)
theorem fo_2_15 : fOK RX2 15 2 4 := fOK_of (e := (2, 15, 2, 4, 295)) (List.mem_of_getElem? (i := 90) rfl) rfl rfl rfl rfl (by decide) (by decide)
theorem fo_2_18 : fOK RX2 18 2 5 := fOK_of (e := (2, 18, 2, 5, 296)) (List.mem_of_getElem? (i := 91) rfl) rfl rfl rfl rfl (by decide) (by decide)
theorem fo_2_31 : fOK RX2 31 2 1 := fOK_of (e := (2, 31, 2, 1, 292)) (List.mem_of_getElem? (i := 87) rfl) rfl rfl rfl rfl (by decide) (by decide)
theorem fo_2_35 : fOK RX2 35 2 2 := fOK_of (e := (2, 35, 2, 2, 293)) (List.mem_of_getElem? (i := 88) rfl) rfl rfl rfl rfl (by decide) (by decide)
theorem fo_2_38 : fOK RX2 38 2 0 := fOK_of (e := (2, 38, 2, 0, 290)) (List.mem_of_getElem? (i := 85) rfl) rfl rfl rfl rfl (by decide) (by decide)
theorem fo_3_9 : fOK RX3 9 3 0 := fOK_of (e := (3, 9, 3, 0, 361)) (List.mem_of_getElem? (i := 118) rfl) rfl rfl rfl rfl (by decide) (by decide)
theorem fo_3_15 : fOK RX3 15 3 2 := fOK_of (e := (3, 15, 3, 2, 364)) (List.mem_of_getElem? (i := 121) rfl) rfl rfl rfl rfl (by decide) (by decide)
theorem fo_3_18 : fOK RX3 18 3 1 := fOK_of (e := (3, 18, 3, 1, 362)) (List.mem_of_getElem? (i := 119) rfl) rfl rfl rfl rfl (by decide) (by decide)
theorem fo_3_22 : fOK RX3 22 3 3 := fOK_of (e := (3, 22, 3, 3, 366)) (List.mem_of_getElem? (i := 123) rfl) rfl rfl rfl rfl (by decide) (by decide)
theorem fo_3_25 : fOK RX3 25 3 5 := fOK_of (e := (3, 25, 3, 5, 370)) (List.mem_of_getElem? (i := 127) rfl) rfl rfl rfl rfl (by decide) (by decide)
theorem fo_3_28 : fOK RX3 28 3 6 := fOK_of (e := (3, 28, 3, 6, 372)) (List.mem_of_getElem? (i := 129) rfl) rfl rfl rfl rfl (by decide) (by decide)
theorem fo_3_31 : fOK RX3 31 3 8 := fOK_of (e := (3, 31, 3, 8, 375)) (List.mem_of_getElem? (i := 132) rfl) rfl rfl rfl rfl (by decide) (by decide)
theorem fo_3_34 : fOK RX3 34 3 10 := fOK_of (e := (3, 34, 3, 10, 377)) (List.mem_of_getElem? (i := 134) rfl) rfl rfl rfl rfl (by decide) (by decide)
theorem fo_3_39 : fOK RX3 39 3 7 := fOK_of (e := (3, 39, 3, 7, 374)) (List.mem_of_getElem? (i := 131) rfl) rfl rfl rfl rfl (by decide) (by decide)
theorem fo_3_56 : fOK RX3 56 3 4 := fOK_of (e := (3, 56, 3, 4, 368)) (List.mem_of_getElem? (i := 125) rfl) rfl rfl rfl rfl (by decide) (by decide)
theorem fo_3_66 : fOK RX3 66 3 9 := fOK_of (e := (3, 66, 3, 9, 376)) (List.mem_of_getElem? (i := 133) rfl) rfl rfl rfl rfl (by decide) (by decide)
theorem fo_4_9 : fOK RX4 9 4 1 := fOK_of (e := (4, 9, 4, 1, 251)) (List.mem_of_getElem? (i := 69) rfl) rfl rfl rfl rfl (by decide) (by decide)
theorem fo_4_15 : fOK RX4 15 4 2 := fOK_of (e := (4, 15, 4, 2, 254)) (List.mem_of_getElem? (i := 72) rfl) rfl rfl rfl rfl (by decide) (by decide)
theorem fo_4_18 : fOK RX4 18 4 3 := fOK_of (e := (4, 18, 4, 3, 256)) (List.mem_of_getElem? (i := 74) rfl) rfl rfl rfl rfl (by decide) (by decide)
theorem fo_4_21 : fOK RX4 21 4 4 := fOK_of (e := (4, 21, 4, 4, 259)) (List.mem_of_getElem? (i := 77) rfl) rfl rfl rfl rfl (by decide) (by decide)
theorem fo_4_24 : fOK RX4 24 4 5 := fOK_of (e := (4, 24, 4, 5, 261)) (List.mem_of_getElem? (i := 79) rfl) rfl rfl rfl rfl (by decide) (by decide)
theorem fo_4_27 : fOK RX4 27 4 6 := fOK_of (e := (4, 27, 4, 6, 263)) (List.mem_of_getElem? (i := 81) rfl) rfl rfl rfl rfl (by decide) (by decide)
theorem fo_4_30 : fOK RX4 30 4 7 := fOK_of (e := (4, 30, 4, 7, 265)) (List.mem_of_getElem? (i := 83) rfl) rfl rfl rfl rfl (by decide) (by decide)
theorem fo_4_33 : fOK RX4 33 4 0 := fOK_of (e := (4, 33, 4, 0, 248)) (List.mem_of_getElem? (i := 66) rfl) rfl rfl rfl rfl (by decide) (by decide)
theorem fo_5_9 : fOK RX5 9 5 1 := fOK_of (e := (5, 9, 5, 1, 170)) (List.mem_of_getElem? (i := 28) rfl) rfl rfl rfl rfl (by decide) (by decide)
theorem fo_5_15 : fOK RX5 15 5 2 := fOK_of (e := (5, 15, 5, 2, 173)) (List.mem_of_getElem? (i := 31) rfl) rfl rfl rfl rfl (by decide) (by decide)
theorem fo_5_20 : fOK RX5 20 5 3 := fOK_of (e := (5, 20, 5, 3, 176)) (List.mem_of_getElem? (i := 34) rfl) rfl rfl rfl rfl (by decide) (by decide)
theorem fo_5_23 : fOK RX5 23 5 0 := fOK_of (e := (5, 23, 5, 0, 166)) (List.mem_of_getElem? (i := 24) rfl) rfl rfl rfl rfl (by decide) (by decide)
theorem fo_6_9 : fOK RX6 9 6 1 := fOK_of (e := (6, 9, 6, 1, 408)) (List.mem_of_getElem? (i := 136) rfl) rfl rfl rfl rfl (by decide) (by decide)
theorem fo_6_15 : fOK RX6 15 6 2 := fOK_of (e := (6, 15, 6, 2, 409)) (List.mem_of_getElem? (i := 137) rfl) rfl rfl rfl rfl (by decide) (by decide)
theorem fo_6_18 : fOK RX6 18 6 0 := fOK_of (e := (6, 18, 6, 0, 407)) (List.mem_of_getElem? (i := 135) rfl) rfl rfl rfl rfl (by decide) (by decide)
theorem fo_6_22 : fOK RX6 22 1 1 := fOK_of (e := (6, 22, 1, 1, 316)) (List.mem_of_getElem? (i := 98) rfl) rfl rfl rfl rfl (by decide) (by decide)
theorem fo_6_28 : fOK RX6 28 1 2 := fOK_of (e := (6, 28, 1, 2, 320)) (List.mem_of_getElem? (i := 102) rfl) rfl rfl rfl rfl (by decide) (by decide)
theorem fo_6_32 : fOK RX6 32 6 3 := fOK_of (e := (6, 32, 6, 3, 410)) (List.mem_of_getElem? (i := 138) rfl) rfl rfl rfl rfl (by decide) (by decide)
theorem fo_6_36 : fOK RX6 36 5 0 := fOK_of (e := (6, 36, 5, 0, 167)) (List.mem_of_getElem? (i := 25) rfl) rfl rfl rfl rfl (by decide) (by decide)
theorem fo_6_49 : fOK RX6 49 0 0 := fOK_of (e := (6, 49, 0, 0, 198)) (List.mem_of_getElem? (i := 39) rfl) rfl rfl rfl rfl (by decide) (by decide)
theorem fo_6_52 : fOK RX6 52 0 6 := fOK_of (e := (6, 52, 0, 6, 219)) (List.mem_of_getElem? (i := 60) rfl) rfl rfl rfl rfl (by decide) (by decide)
theorem fo_6_73 : fOK RX6 73 6 4 := fOK_of (e := (6, 73, 6, 4, 411)) (List.mem_of_getElem? (i := 139) rfl) rfl rfl rfl rfl (by decide) (by decide)
theorem fo_6_76 : fOK RX6 76 6 5 := fOK_of (e := (6, 76, 6, 5, 412)) (List.mem_of_getElem? (i := 140) rfl) rfl rfl rfl rfl (by decide) (by decide)
theorem fo_6_79 : fOK RX6 79 6 6 := fOK_of (e := (6, 79, 6, 6, 413)) (List.mem_of_getElem? (i := 141) rfl) rfl rfl rfl rfl (by decide) (by decide)
theorem fo_6_82 : fOK RX6 82 6 7 := fOK_of (e := (6, 82, 6, 7, 414)) (List.mem_of_getElem? (i := 142) rfl) rfl rfl rfl rfl (by decide) (by decide)
theorem fo_6_85 : fOK RX6 85 6 8 := fOK_of (e := (6, 85, 6, 8, 415)) (List.mem_of_getElem? (i := 143) rfl) rfl rfl rfl rfl (by decide) (by decide)
theorem fo_6_98 : fOK RX6 98 5 2 := fOK_of (e := (6, 98, 5, 2, 175)) (List.mem_of_getElem? (i := 33) rfl) rfl rfl rfl rfl (by decide) (by decide)
theorem fo_7_9 : fOK RX7 9 7 1 := fOK_of (e := (7, 9, 7, 1, 124)) (List.mem_of_getElem? (i := 5) rfl) rfl rfl rfl rfl (by decide) (by decide)
theorem fo_7_15 : fOK RX7 15 7 2 := fOK_of (e := (7, 15, 7, 2, 128)) (List.mem_of_getElem? (i := 9) rfl) rfl rfl rfl rfl (by decide) (by decide)
theorem fo_7_18 : fOK RX7 18 7 3 := fOK_of (e := (7, 18, 7, 3, 131)) (List.mem_of_getElem? (i := 12) rfl) rfl rfl rfl rfl (by decide) (by decide)
theorem fo_7_21 : fOK RX7 21 7 4 := fOK_of (e := (7, 21, 7, 4, 134)) (List.mem_of_getElem? (i := 15) rfl) rfl rfl rfl rfl (by decide) (by decide)
theorem fo_7_24 : fOK RX7 24 7 5 := fOK_of (e := (7, 24, 7, 5, 137)) (List.mem_of_getElem? (i := 18) rfl) rfl rfl rfl rfl (by decide) (by decide)
theorem fo_7_29 : fOK RX7 29 7 6 := fOK_of (e := (7, 29, 7, 6, 140)) (List.mem_of_getElem? (i := 21) rfl) rfl rfl rfl rfl (by decide) (by decide)
theorem fo_7_38 : fOK RX7 38 7 0 := fOK_of (e := (7, 38, 7, 0, 119)) (List.mem_of_getElem? (i := 0) rfl) rfl rfl rfl rfl (by decide) (by decide)
theorem fo_8_11 : fOK RX8 11 8 1 := fOK_of (e := (8, 11, 8, 1, 444)) (List.mem_of_getElem? (i := 146) rfl) rfl rfl rfl rfl (by decide) (by decide)
theorem fo_8_16 : fOK RX8 16 8 2 := fOK_of (e := (8, 16, 8, 2, 445)) (List.mem_of_getElem? (i := 147) rfl) rfl rfl rfl rfl (by decide) (by decide)
theorem fo_8_20 : fOK RX8 20 8 4 := fOK_of (e := (8, 20, 8, 4, 447)) (List.mem_of_getElem? (i := 149) rfl) rfl rfl rfl rfl (by decide) (by decide)
theorem fo_8_23 : fOK RX8 23 8 5 := fOK_of (e := (8, 23, 8, 5, 448)) (List.mem_of_getElem? (i := 150) rfl) rfl rfl rfl rfl (by decide) (by decide)
theorem fo_8_26 : fOK RX8 26 8 6 := fOK_of (e := (8, 26, 8, 6, 449)) (List.mem_of_getElem? (i := 151) rfl) rfl rfl rfl rfl (by decide) (by decide)
theorem fo_8_29 : fOK RX8 29 8 7 := fOK_of (e := (8, 29, 8, 7, 450)) (List.mem_of_getElem? (i := 152) rfl) rfl rfl rfl rfl (by decide) (by decide)
theorem fo_8_32 : fOK RX8 32 8 8 := fOK_of (e := (8, 32, 8, 8, 451)) (List.mem_of_getElem? (i := 153) rfl) rfl rfl rfl rfl (by decide) (by decide)
theorem fo_8_35 : fOK RX8 35 8 10 := fOK_of (e := (8, 35, 8, 10, 453)) (List.mem_of_getElem? (i := 155) rfl) rfl rfl rfl rfl (by decide) (by decide)
theorem fo_8_38 : fOK RX8 38 8 11 := fOK_of (e := (8, 38, 8, 11, 454)) (List.mem_of_getElem? (i := 156) rfl) rfl rfl rfl rfl (by decide) (by decide)
theorem fo_8_41 : fOK RX8 41 8 17 := fOK_of (e := (8, 41, 8, 17, 461)) (List.mem_of_getElem? (i := 163) rfl) rfl rfl rfl rfl (by decide) (by decide)
theorem fo_8_44 : fOK RX8 44 8 0 := fOK_of (e := (8, 44, 8, 0, 443)) (List.mem_of_getElem? (i := 145) rfl) rfl rfl rfl rfl (by decide) (by decide)
theorem fo_8_54 : fOK RX8 54 8 12 := fOK_of (e := (8, 54, 8, 12, 455)) (List.mem_of_getElem? (i := 157) rfl) rfl rfl rfl rfl (by decide) (by decide)
theorem fo_8_58 : fOK RX8 58 8 13 := fOK_of (e := (8, 58, 8, 13, 456)) (List.mem_of_getElem? (i := 158) rfl) rfl rfl rfl rfl (by decide) (by decide)
theorem fo_8_61 : fOK RX8 61 8 14 := fOK_of (e := (8, 61, 8, 14, 457)) (List.mem_of_getElem? (i := 159) rfl) rfl rfl rfl rfl (by decide) (by decide)
theorem fo_8_65 : fOK RX8 65 8 16 := fOK_of (e := (8, 65, 8, 16, 459)) (List.mem_of_getElem? (i := 161) rfl) rfl rfl rfl rfl (by decide) (by decide)
theorem fo_8_68 : fOK RX8 68 8 15 := fOK_of (e := (8, 68, 8, 15, 458)) (List.mem_of_getElem? (i := 160) rfl) rfl rfl rfl rfl (by decide) (by decide)
theorem fo_8_77 : fOK RX8 77 8 3 := fOK_of (e := (8, 77, 8, 3, 446)) (List.mem_of_getElem? (i := 148) rfl) rfl rfl rfl rfl (by decide) (by decide)
theorem fo_8_80 : fOK RX8 80 1 0 := fOK_of (e := (8, 80, 1, 0, 314)) (List.mem_of_getElem? (i := 96) rfl) rfl rfl rfl rfl (by decide) (by decide)
theorem fo_8_86 : fOK RX8 86 7 0 := fOK_of (e := (8, 86, 7, 0, 123)) (List.mem_of_getElem? (i := 4) rfl) rfl rfl rfl rfl (by decide) (by decide)
theorem fo_8_91 : fOK RX8 91 1 3 := fOK_of (e := (8, 91, 1, 3, 324)) (List.mem_of_getElem? (i := 106) rfl) rfl rfl rfl rfl (by decide) (by decide)
theorem fo_8_101 : fOK RX8 101 1 2 := fOK_of (e := (8, 101, 1, 2, 321)) (List.mem_of_getElem? (i := 103) rfl) rfl rfl rfl rfl (by decide) (by decide)
theorem fo_8_105 : fOK RX8 105 0 0 := fOK_of (e := (8, 105, 0, 0, 199)) (List.mem_of_getElem? (i := 40) rfl) rfl rfl rfl rfl (by decide) (by decide)
theorem fo_8_115 : fOK RX8 115 8 9 := fOK_of (e := (8, 115, 8, 9, 452)) (List.mem_of_getElem? (i := 154) rfl) rfl rfl rfl rfl (by decide) (by decide)
theorem fo_8_122 : fOK RX8 122 7 2 := fOK_of (e := (8, 122, 7, 2, 130)) (List.mem_of_getElem? (i := 11) rfl) rfl rfl rfl rfl (by decide) (by decide)
theorem fo_8_125 : fOK RX8 125 7 1 := fOK_of (e := (8, 125, 7, 1, 127)) (List.mem_of_getElem? (i := 8) rfl) rfl rfl rfl rfl (by decide) (by decide)
theorem fo_8_128 : fOK RX8 128 0 1 := fOK_of (e := (8, 128, 0, 1, 203)) (List.mem_of_getElem? (i := 44) rfl) rfl rfl rfl rfl (by decide) (by decide)
theorem fo_8_131 : fOK RX8 131 7 6 := fOK_of (e := (8, 131, 7, 6, 142)) (List.mem_of_getElem? (i := 23) rfl) rfl rfl rfl rfl (by decide) (by decide)
theorem fo_8_148 : fOK RX8 148 8 18 := fOK_of (e := (8, 148, 8, 18, 462)) (List.mem_of_getElem? (i := 164) rfl) rfl rfl rfl rfl (by decide) (by decide)
theorem fo_9_16 : fOK RX9 16 9 1 := fOK_of (e := (9, 16, 9, 1, 539)) (List.mem_of_getElem? (i := 175) rfl) rfl rfl rfl rfl (by decide) (by decide)
theorem fo_10_11 : fOK RX10 11 10 1 := fOK_of (e := (10, 11, 10, 1, 511)) (List.mem_of_getElem? (i := 167) rfl) rfl rfl rfl rfl (by decide) (by decide)
theorem fo_10_16 : fOK RX10 16 10 2 := fOK_of (e := (10, 16, 10, 2, 512)) (List.mem_of_getElem? (i := 168) rfl) rfl rfl rfl rfl (by decide) (by decide)
theorem fo_10_19 : fOK RX10 19 10 0 := fOK_of (e := (10, 19, 10, 0, 510)) (List.mem_of_getElem? (i := 166) rfl) rfl rfl rfl rfl (by decide) (by decide)
theorem fo_10_23 : fOK RX10 23 1 2 := fOK_of (e := (10, 23, 1, 2, 319)) (List.mem_of_getElem? (i := 101) rfl) rfl rfl rfl rfl (by decide) (by decide)
theorem fo_10_29 : fOK RX10 29 0 0 := fOK_of (e := (10, 29, 0, 0, 197)) (List.mem_of_getElem? (i := 38) rfl) rfl rfl rfl rfl (by decide) (by decide)
theorem fo_10_45 : fOK RX10 45 1 0 := fOK_of (e := (10, 45, 1, 0, 312)) (List.mem_of_getElem? (i := 94) rfl) rfl rfl rfl rfl (by decide) (by decide)
theorem fo_10_49 : fOK RX10 49 7 0 := fOK_of (e := (10, 49, 7, 0, 120)) (List.mem_of_getElem? (i := 1) rfl) rfl rfl rfl rfl (by decide) (by decide)
theorem fo_10_56 : fOK RX10 56 7 4 := fOK_of (e := (10, 56, 7, 4, 135)) (List.mem_of_getElem? (i := 16) rfl) rfl rfl rfl rfl (by decide) (by decide)
theorem fo_10_67 : fOK RX10 67 10 3 := fOK_of (e := (10, 67, 10, 3, 513)) (List.mem_of_getElem? (i := 169) rfl) rfl rfl rfl rfl (by decide) (by decide)
theorem fo_10_70 : fOK RX10 70 10 4 := fOK_of (e := (10, 70, 10, 4, 515)) (List.mem_of_getElem? (i := 171) rfl) rfl rfl rfl rfl (by decide) (by decide)
theorem fo_11_10 : fOK RX11 10 11 0 := fOK_of (e := (11, 10, 11, 0, 547)) (List.mem_of_getElem? (i := 177) rfl) rfl rfl rfl rfl (by decide) (by decide)
theorem fo_11_19 : fOK RX11 19 11 1 := fOK_of (e := (11, 19, 11, 1, 548)) (List.mem_of_getElem? (i := 178) rfl) rfl rfl rfl rfl (by decide) (by decide)
theorem fo_11_28 : fOK RX11 28 11 2 := fOK_of (e := (11, 28, 11, 2, 549)) (List.mem_of_getElem? (i := 179) rfl) rfl rfl rfl rfl (by decide) (by decide)
theorem fo_11_35 : fOK RX11 35 11 3 := fOK_of (e := (11, 35, 11, 3, 550)) (List.mem_of_getElem? (i := 180) rfl) rfl rfl rfl rfl (by decide) (by decide)
theorem fo_11_42 : fOK RX11 42 11 4 := fOK_of (e := (11, 42, 11, 4, 551)) (List.mem_of_getElem? (i := 181) rfl) rfl rfl rfl rfl (by decide) (by decide)
theorem fo_11_49 : fOK RX11 49 11 5 := fOK_of (e := (11, 49, 11, 5, 552)) (List.mem_of_getElem? (i := 182) rfl) rfl rfl rfl rfl (by decide) (by decide)
theorem fo_11_53 : fOK RX11 53 11 6 := fOK_of (e := (11, 53, 11, 6, 553)) (List.mem_of_getElem? (i := 183) rfl) rfl rfl rfl rfl (by decide) (by decide)
theorem fo_11_62 : fOK RX11 62 1 0 := fOK_of (e := (11, 62, 1, 0, 313)) (List.mem_of_getElem? (i := 95) rfl) rfl rfl rfl rfl (by decide) (by decide)
theorem fo_11_66 : fOK RX11 66 7 0 := fOK_of (e := (11, 66, 7, 0, 121)) (List.mem_of_getElem? (i := 2) rfl) rfl rfl rfl rfl (by decide) (by decide)
theorem fo_11_73 : fOK RX11 73 7 1 := fOK_of (e := (11, 73, 7, 1, 125)) (List.mem_of_getElem? (i := 6) rfl) rfl rfl rfl rfl (by decide) (by decide)
theorem fo_11_76 : fOK RX11 76 7 3 := fOK_of (e := (11, 76, 7, 3, 132)) (List.mem_of_getElem? (i := 13) rfl) rfl rfl rfl rfl (by decide) (by decide)
theorem fo_11_79 : fOK RX11 79 7 4 := fOK_of (e := (11, 79, 7, 4, 136)) (List.mem_of_getElem? (i := 17) rfl) rfl rfl rfl rfl (by decide) (by decide)
theorem fo_11_82 : fOK RX11 82 7 2 := fOK_of (e := (11, 82, 7, 2, 129)) (List.mem_of_getElem? (i := 10) rfl) rfl rfl rfl rfl (by decide) (by decide)
theorem fo_11_85 : fOK RX11 85 7 5 := fOK_of (e := (11, 85, 7, 5, 138)) (List.mem_of_getElem? (i := 19) rfl) rfl rfl rfl rfl (by decide) (by decide)
theorem fo_11_92 : fOK RX11 92 7 6 := fOK_of (e := (11, 92, 7, 6, 141)) (List.mem_of_getElem? (i := 22) rfl) rfl rfl rfl rfl (by decide) (by decide)
theorem fo_11_96 : fOK RX11 96 1 1 := fOK_of (e := (11, 96, 1, 1, 317)) (List.mem_of_getElem? (i := 99) rfl) rfl rfl rfl rfl (by decide) (by decide)
theorem fo_11_100 : fOK RX11 100 5 0 := fOK_of (e := (11, 100, 5, 0, 168)) (List.mem_of_getElem? (i := 26) rfl) rfl rfl rfl rfl (by decide) (by decide)
theorem fo_11_103 : fOK RX11 103 5 1 := fOK_of (e := (11, 103, 5, 1, 171)) (List.mem_of_getElem? (i := 29) rfl) rfl rfl rfl rfl (by decide) (by decide)
theorem fo_11_106 : fOK RX11 106 5 2 := fOK_of (e := (11, 106, 5, 2, 174)) (List.mem_of_getElem? (i := 32) rfl) rfl rfl rfl rfl (by decide) (by decide)
theorem fo_11_118 : fOK RX11 118 1 6 := fOK_of (e := (11, 118, 1, 6, 331)) (List.mem_of_getElem? (i := 113) rfl) rfl rfl rfl rfl (by decide) (by decide)
theorem fo_11_125 : fOK RX11 125 5 3 := fOK_of (e := (11, 125, 5, 3, 178)) (List.mem_of_getElem? (i := 36) rfl) rfl rfl rfl rfl (by decide) (by decide)
theorem fo_11_144 : fOK RX11 144 1 2 := fOK_of (e := (11, 144, 1, 2, 322)) (List.mem_of_getElem? (i := 104) rfl) rfl rfl rfl rfl (by decide) (by decide)
theorem fo_11_148 : fOK RX11 148 0 0 := fOK_of (e := (11, 148, 0, 0, 200)) (List.mem_of_getElem? (i := 41) rfl) rfl rfl rfl rfl (by decide) (by decide)
theorem fo_11_151 : fOK RX11 151 0 1 := fOK_of (e := (11, 151, 0, 1, 205)) (List.mem_of_getElem? (i := 46) rfl) rfl rfl rfl rfl (by decide) (by decide)
theorem fo_11_154 : fOK RX11 154 0 2 := fOK_of (e := (11, 154, 0, 2, 207)) (List.mem_of_getElem? (i := 48) rfl) rfl rfl rfl rfl (by decide) (by decide)
theorem fo_11_157 : fOK RX11 157 0 4 := fOK_of (e := (11, 157, 0, 4, 213)) (List.mem_of_getElem? (i := 54) rfl) rfl rfl rfl rfl (by decide) (by decide)
theorem fo_11_160 : fOK RX11 160 0 3 := fOK_of (e := (11, 160, 0, 3, 211)) (List.mem_of_getElem? (i := 52) rfl) rfl rfl rfl rfl (by decide) (by decide)
theorem fo_11_167 : fOK RX11 167 0 6 := fOK_of (e := (11, 167, 0, 6, 220)) (List.mem_of_getElem? (i := 61) rfl) rfl rfl rfl rfl (by decide) (by decide)
theorem fo_11_177 : fOK RX11 177 9 1 := fOK_of (e := (11, 177, 9, 1, 540)) (List.mem_of_getElem? (i := 176) rfl) rfl rfl rfl rfl (by decide) (by decide)
theorem fo_11_186 : fOK RX11 186 9 0 := fOK_of (e := (11, 186, 9, 0, 538)) (List.mem_of_getElem? (i := 174) rfl) rfl rfl rfl rfl (by decide) (by decide)
theorem fo_11_196 : fOK RX11 196 1 8 := fOK_of (e := (11, 196, 1, 8, 335)) (List.mem_of_getElem? (i := 117) rfl) rfl rfl rfl rfl (by decide) (by decide)
theorem fo_11_200 : fOK RX11 200 0 5 := fOK_of (e := (11, 200, 0, 5, 217)) (List.mem_of_getElem? (i := 58) rfl) rfl rfl rfl rfl (by decide) (by decide)
theorem fo_11_203 : fOK RX11 203 1 5 := fOK_of (e := (11, 203, 1, 5, 329)) (List.mem_of_getElem? (i := 111) rfl) rfl rfl rfl rfl (by decide) (by decide)
theorem fo_11_209 : fOK RX11 209 0 7 := fOK_of (e := (11, 209, 0, 7, 224)) (List.mem_of_getElem? (i := 65) rfl) rfl rfl rfl rfl (by decide) (by decide)
theorem fo_11_215 : fOK RX11 215 3 1 := fOK_of (e := (11, 215, 3, 1, 363)) (List.mem_of_getElem? (i := 120) rfl) rfl rfl rfl rfl (by decide) (by decide)
theorem fo_11_225 : fOK RX11 225 3 6 := fOK_of (e := (11, 225, 3, 6, 373)) (List.mem_of_getElem? (i := 130) rfl) rfl rfl rfl rfl (by decide) (by decide)
theorem fo_11_228 : fOK RX11 228 1 4 := fOK_of (e := (11, 228, 1, 4, 327)) (List.mem_of_getElem? (i := 109) rfl) rfl rfl rfl rfl (by decide) (by decide)
theorem fo_11_232 : fOK RX11 232 3 2 := fOK_of (e := (11, 232, 3, 2, 365)) (List.mem_of_getElem? (i := 122) rfl) rfl rfl rfl rfl (by decide) (by decide)
theorem fo_11_235 : fOK RX11 235 3 3 := fOK_of (e := (11, 235, 3, 3, 367)) (List.mem_of_getElem? (i := 124) rfl) rfl rfl rfl rfl (by decide) (by decide)
theorem fo_11_236 : fOK RX11 236 3 4 := fOK_of (e := (11, 236, 3, 4, 369)) (List.mem_of_getElem? (i := 126) rfl) rfl rfl rfl rfl (by decide) (by decide)
theorem fo_11_245 : fOK RX11 245 3 5 := fOK_of (e := (11, 245, 3, 5, 371)) (List.mem_of_getElem? (i := 128) rfl) rfl rfl rfl rfl (by decide) (by decide)
theorem fo_11_248 : fOK RX11 248 1 7 := fOK_of (e := (11, 248, 1, 7, 333)) (List.mem_of_getElem? (i := 115) rfl) rfl rfl rfl rfl (by decide) (by decide)
theorem fo_11_268 : fOK RX11 268 6 8 := fOK_of (e := (11, 268, 6, 8, 416)) (List.mem_of_getElem? (i := 144) rfl) rfl rfl rfl rfl (by decide) (by decide)
theorem fo_11_278 : fOK RX11 278 1 3 := fOK_of (e := (11, 278, 1, 3, 325)) (List.mem_of_getElem? (i := 107) rfl) rfl rfl rfl rfl (by decide) (by decide)
theorem fo_11_282 : fOK RX11 282 4 0 := fOK_of (e := (11, 282, 4, 0, 250)) (List.mem_of_getElem? (i := 68) rfl) rfl rfl rfl rfl (by decide) (by decide)
theorem fo_11_285 : fOK RX11 285 4 1 := fOK_of (e := (11, 285, 4, 1, 253)) (List.mem_of_getElem? (i := 71) rfl) rfl rfl rfl rfl (by decide) (by decide)
theorem fo_11_288 : fOK RX11 288 4 2 := fOK_of (e := (11, 288, 4, 2, 255)) (List.mem_of_getElem? (i := 73) rfl) rfl rfl rfl rfl (by decide) (by decide)
theorem fo_11_290 : fOK RX11 290 4 3 := fOK_of (e := (11, 290, 4, 3, 258)) (List.mem_of_getElem? (i := 76) rfl) rfl rfl rfl rfl (by decide) (by decide)
theorem fo_11_293 : fOK RX11 293 4 4 := fOK_of (e := (11, 293, 4, 4, 260)) (List.mem_of_getElem? (i := 78) rfl) rfl rfl rfl rfl (by decide) (by decide)
theorem fo_11_306 : fOK RX11 306 4 6 := fOK_of (e := (11, 306, 4, 6, 264)) (List.mem_of_getElem? (i := 82) rfl) rfl rfl rfl rfl (by decide) (by decide)
theorem fo_11_308 : fOK RX11 308 4 7 := fOK_of (e := (11, 308, 4, 7, 266)) (List.mem_of_getElem? (i := 84) rfl) rfl rfl rfl rfl (by decide) (by decide)
theorem fo_11_313 : fOK RX11 313 8 16 := fOK_of (e := (11, 313, 8, 16, 460)) (List.mem_of_getElem? (i := 162) rfl) rfl rfl rfl rfl (by decide) (by decide)
theorem fo_11_333 : fOK RX11 333 4 5 := fOK_of (e := (11, 333, 4, 5, 262)) (List.mem_of_getElem? (i := 80) rfl) rfl rfl rfl rfl (by decide) (by decide)
theorem fo_11_341 : fOK RX11 341 10 3 := fOK_of (e := (11, 341, 10, 3, 514)) (List.mem_of_getElem? (i := 170) rfl) rfl rfl rfl rfl (by decide) (by decide)
theorem fo_11_344 : fOK RX11 344 10 4 := fOK_of (e := (11, 344, 10, 4, 516)) (List.mem_of_getElem? (i := 172) rfl) rfl rfl rfl rfl (by decide) (by decide)
theorem fo_11_351 : fOK RX11 351 11 7 := fOK_of (e := (11, 351, 11, 7, 554)) (List.mem_of_getElem? (i := 184) rfl) rfl rfl rfl rfl (by decide) (by decide)
theorem fo_11_358 : fOK RX11 358 8 18 := fOK_of (e := (11, 358, 8, 18, 463)) (List.mem_of_getElem? (i := 165) rfl) rfl rfl rfl rfl (by decide) (by decide)
theorem fo_11_361 : fOK RX11 361 11 8 := fOK_of (e := (11, 361, 11, 8, 555)) (List.mem_of_getElem? (i := 185) rfl) rfl rfl rfl rfl (by decide) (by decide)
theorem fo_12_9 : fOK RX12 9 12 0 := fOK_of (e := (12, 9, 12, 0, 1248)) (List.mem_of_getElem? (i := 186) rfl) rfl rfl rfl rfl (by decide) (by decide)
theorem fo_12_13 : fOK RX12 13 12 1 := fOK_of (e := (12, 13, 12, 1, 1249)) (List.mem_of_getElem? (i := 187) rfl) rfl rfl rfl rfl (by decide) (by decide)
theorem fo_12_16 : fOK RX12 16 12 3 := fOK_of (e := (12, 16, 12, 3, 1251)) (List.mem_of_getElem? (i := 189) rfl) rfl rfl rfl rfl (by decide) (by decide)
theorem fo_12_19 : fOK RX12 19 12 5 := fOK_of (e := (12, 19, 12, 5, 1253)) (List.mem_of_getElem? (i := 191) rfl) rfl rfl rfl rfl (by decide) (by decide)
theorem fo_12_22 : fOK RX12 22 12 7 := fOK_of (e := (12, 22, 12, 7, 1255)) (List.mem_of_getElem? (i := 193) rfl) rfl rfl rfl rfl (by decide) (by decide)
theorem fo_12_25 : fOK RX12 25 12 8 := fOK_of (e := (12, 25, 12, 8, 1256)) (List.mem_of_getElem? (i := 194) rfl) rfl rfl rfl rfl (by decide) (by decide)
theorem fo_12_28 : fOK RX12 28 12 9 := fOK_of (e := (12, 28, 12, 9, 1257)) (List.mem_of_getElem? (i := 195) rfl) rfl rfl rfl rfl (by decide) (by decide)
theorem fo_12_33 : fOK RX12 33 12 16 := fOK_of (e := (12, 33, 12, 16, 1264)) (List.mem_of_getElem? (i := 202) rfl) rfl rfl rfl rfl (by decide) (by decide)
theorem fo_12_37 : fOK RX12 37 12 17 := fOK_of (e := (12, 37, 12, 17, 1265)) (List.mem_of_getElem? (i := 203) rfl) rfl rfl rfl rfl (by decide) (by decide)
theorem fo_12_40 : fOK RX12 40 12 20 := fOK_of (e := (12, 40, 12, 20, 1268)) (List.mem_of_getElem? (i := 206) rfl) rfl rfl rfl rfl (by decide) (by decide)
theorem fo_12_43 : fOK RX12 43 12 26 := fOK_of (e := (12, 43, 12, 26, 1274)) (List.mem_of_getElem? (i := 212) rfl) rfl rfl rfl rfl (by decide) (by decide)
theorem fo_12_46 : fOK RX12 46 12 27 := fOK_of (e := (12, 46, 12, 27, 1275)) (List.mem_of_getElem? (i := 213) rfl) rfl rfl rfl rfl (by decide) (by decide)
theorem fo_12_49 : fOK RX12 49 12 30 := fOK_of (e := (12, 49, 12, 30, 1278)) (List.mem_of_getElem? (i := 216) rfl) rfl rfl rfl rfl (by decide) (by decide)
theorem fo_12_121 : fOK RX12 121 12 4 := fOK_of (e := (12, 121, 12, 4, 1252)) (List.mem_of_getElem? (i := 190) rfl) rfl rfl rfl rfl (by decide) (by decide)
theorem fo_12_125 : fOK RX12 125 12 12 := fOK_of (e := (12, 125, 12, 12, 1260)) (List.mem_of_getElem? (i := 198) rfl) rfl rfl rfl rfl (by decide) (by decide)
theorem fo_12_128 : fOK RX12 128 12 11 := fOK_of (e := (12, 128, 12, 11, 1259)) (List.mem_of_getElem? (i := 197) rfl) rfl rfl rfl rfl (by decide) (by decide)
theorem fo_12_131 : fOK RX12 131 12 10 := fOK_of (e := (12, 131, 12, 10, 1258)) (List.mem_of_getElem? (i := 196) rfl) rfl rfl rfl rfl (by decide) (by decide)
theorem fo_12_140 : fOK RX12 140 12 13 := fOK_of (e := (12, 140, 12, 13, 1261)) (List.mem_of_getElem? (i := 199) rfl) rfl rfl rfl rfl (by decide) (by decide)
theorem fo_12_160 : fOK RX12 160 12 18 := fOK_of (e := (12, 160, 12, 18, 1266)) (List.mem_of_getElem? (i := 204) rfl) rfl rfl rfl rfl (by decide) (by decide)
theorem fo_12_172 : fOK RX12 172 12 19 := fOK_of (e := (12, 172, 12, 19, 1267)) (List.mem_of_getElem? (i := 205) rfl) rfl rfl rfl rfl (by decide) (by decide)
theorem fo_12_179 : fOK RX12 179 12 15 := fOK_of (e := (12, 179, 12, 15, 1263)) (List.mem_of_getElem? (i := 201) rfl) rfl rfl rfl rfl (by decide) (by decide)
theorem fo_12_186 : fOK RX12 186 12 14 := fOK_of (e := (12, 186, 12, 14, 1262)) (List.mem_of_getElem? (i := 200) rfl) rfl rfl rfl rfl (by decide) (by decide)
theorem fo_12_238 : fOK RX12 238 12 23 := fOK_of (e := (12, 238, 12, 23, 1271)) (List.mem_of_getElem? (i := 209) rfl) rfl rfl rfl rfl (by decide) (by decide)
theorem fo_12_241 : fOK RX12 241 12 24 := fOK_of (e := (12, 241, 12, 24, 1272)) (List.mem_of_getElem? (i := 210) rfl) rfl rfl rfl rfl (by decide) (by decide)
theorem fo_12_244 : fOK RX12 244 12 25 := fOK_of (e := (12, 244, 12, 25, 1273)) (List.mem_of_getElem? (i := 211) rfl) rfl rfl rfl rfl (by decide) (by decide)
theorem fo_12_250 : fOK RX12 250 12 22 := fOK_of (e := (12, 250, 12, 22, 1270)) (List.mem_of_getElem? (i := 208) rfl) rfl rfl rfl rfl (by decide) (by decide)
theorem fo_12_253 : fOK RX12 253 12 21 := fOK_of (e := (12, 253, 12, 21, 1269)) (List.mem_of_getElem? (i := 207) rfl) rfl rfl rfl rfl (by decide) (by decide)
theorem fo_12_273 : fOK RX12 273 12 28 := fOK_of (e := (12, 273, 12, 28, 1276)) (List.mem_of_getElem? (i := 214) rfl) rfl rfl rfl rfl (by decide) (by decide)
theorem fo_12_276 : fOK RX12 276 12 29 := fOK_of (e := (12, 276, 12, 29, 1277)) (List.mem_of_getElem? (i := 215) rfl) rfl rfl rfl rfl (by decide) (by decide)
theorem fo_12_313 : fOK RX12 313 12 6 := fOK_of (e := (12, 313, 12, 6, 1254)) (List.mem_of_getElem? (i := 192) rfl) rfl rfl rfl rfl (by decide) (by decide)
theorem fo_12_316 : fOK RX12 316 12 2 := fOK_of (e := (12, 316, 12, 2, 1250)) (List.mem_of_getElem? (i := 188) rfl) rfl rfl rfl rfl (by decide) (by decide)
theorem jw_13_9 : Cond.fieldLink RJ0 9 "java/lang/String" "value" "[B" ∈ GT := gt_at 1718 (by decide +kernel) rfl
theorem jw_13_15 : Cond.fieldLink RJ0 15 "java/lang/String" "coder" "B" ∈ GT := gt_at 1719 (by decide +kernel) rfl
theorem jw_13_38 : Cond.fieldLink RJ0 38 "java/lang/String" "COMPACT_STRINGS" "Z" ∈ GT := gt_at 794 (by decide +kernel) rfl
theorem jw_13_1053 : Cond.fieldLink RJ0 1053 "jdk/internal/util/Preconditions" "SIOOBE_FORMATTER" "Ljava/util/function/BiFunction;" ∈ GT := gt_at 810 (by decide +kernel) rfl
theorem lo_0 : LY 0 = (4 + 11, cNf 11) := by decide +kernel
theorem lo_1 : LY 1 = (4 + 1, cNf 1) := by decide +kernel
theorem lo_2 : LY 2 = (4 + 7, cNf 7) := by decide +kernel
theorem ly_3 : LY 3 = (0, 14) := by decide +kernel
theorem ly_4 : LY 4 = (0, 14) := by decide +kernel
theorem ly_5 : LY 5 = (0, 14) := by decide +kernel
theorem ly_6 : LY 6 = (0, 14) := by decide +kernel
theorem ly_7 : LY 7 = (0, 14) := by decide +kernel
theorem ly_8 : LY 8 = (2, 14) := by decide +kernel
theorem ly_9 : LY 9 = (0, 14) := by decide +kernel
theorem ly_10 : LY 10 = (0, 14) := by decide +kernel
theorem ly_11 : LY 11 = (0, 14) := by decide +kernel
theorem ly_12 : LY 12 = (0, 14) := by decide +kernel
theorem ly_13 : LY 13 = (0, 14) := by decide +kernel
theorem ly_14 : LY 14 = (0, 14) := by decide +kernel
theorem ly_15 : LY 15 = (0, 14) := by decide +kernel
theorem ly_16 : LY 16 = (0, 14) := by decide +kernel
theorem ly_17 : LY 17 = (0, 14) := by decide +kernel
theorem ly_18 : LY 18 = (0, 14) := by decide +kernel
theorem ly_19 : LY 19 = (0, 14) := by decide +kernel
theorem ly_20 : LY 20 = (0, 14) := by decide +kernel
theorem ly_21 : LY 21 = (0, 14) := by decide +kernel
theorem ly_22 : LY 22 = (0, 14) := by decide +kernel
theorem lo_23 : LY 23 = (4 + 5, cNf 5) := by decide +kernel
theorem ly_24 : LY 24 = (0, 10) := by decide +kernel
theorem ly_25 : LY 25 = (0, 10) := by decide +kernel
theorem ly_26 : LY 26 = (2, 10) := by decide +kernel
theorem ly_27 : LY 27 = (0, 14) := by decide +kernel
theorem ly_28 : LY 28 = (0, 14) := by decide +kernel
theorem ly_29 : LY 29 = (0, 14) := by decide +kernel
theorem ly_30 : LY 30 = (0, 14) := by decide +kernel
theorem ly_31 : LY 31 = (0, 14) := by decide +kernel
theorem ly_32 : LY 32 = (0, 14) := by decide +kernel
theorem ly_33 : LY 33 = (0, 14) := by decide +kernel
theorem ly_34 : LY 34 = (0, 14) := by decide +kernel
theorem ly_35 : LY 35 = (0, 14) := by decide +kernel
theorem ly_36 : LY 36 = (0, 14) := by decide +kernel
theorem lo_37 : LY 37 = (4 + 0, cNf 0) := by decide +kernel
theorem ly_38 : LY 38 = (0, 12) := by decide +kernel
theorem ly_39 : LY 39 = (0, 12) := by decide +kernel
theorem ly_40 : LY 40 = (0, 12) := by decide +kernel
theorem ly_41 : LY 41 = (0, 12) := by decide +kernel
theorem ly_42 : LY 42 = (0, 12) := by decide +kernel
theorem ly_43 : LY 43 = (2, 12) := by decide +kernel
theorem ly_44 : LY 44 = (0, 10) := by decide +kernel
theorem ly_45 : LY 45 = (0, 10) := by decide +kernel
theorem ly_46 : LY 46 = (0, 10) := by decide +kernel
theorem ly_47 : LY 47 = (0, 10) := by decide +kernel
theorem ly_48 : LY 48 = (0, 10) := by decide +kernel
theorem ly_49 : LY 49 = (0, 10) := by decide +kernel
theorem ly_50 : LY 50 = (0, 10) := by decide +kernel
theorem ly_51 : LY 51 = (0, 10) := by decide +kernel
theorem ly_52 : LY 52 = (0, 10) := by decide +kernel
theorem ly_53 : LY 53 = (0, 10) := by decide +kernel
theorem ly_54 : LY 54 = (0, 10) := by decide +kernel
theorem ly_55 : LY 55 = (0, 10) := by decide +kernel
theorem ly_56 : LY 56 = (2, 12) := by decide +kernel
theorem ly_57 : LY 57 = (0, 100) := by decide +kernel
theorem ly_58 : LY 58 = (0, 100) := by decide +kernel
theorem ly_59 : LY 59 = (0, 100) := by decide +kernel
theorem ly_60 : LY 60 = (0, 100) := by decide +kernel
theorem ly_61 : LY 61 = (0, 100) := by decide +kernel
theorem ly_62 : LY 62 = (0, 100) := by decide +kernel
theorem ly_63 : LY 63 = (0, 100) := by decide +kernel
theorem ly_64 : LY 64 = (0, 100) := by decide +kernel
theorem ly_65 : LY 65 = (0, 100) := by decide +kernel
theorem ly_66 : LY 66 = (0, 100) := by decide +kernel
theorem ly_67 : LY 67 = (0, 100) := by decide +kernel
theorem ly_68 : LY 68 = (0, 100) := by decide +kernel
theorem lo_69 : LY 69 = (4 + 4, cNf 4) := by decide +kernel
theorem ly_70 : LY 70 = (0, 40) := by decide +kernel
theorem ly_71 : LY 71 = (0, 40) := by decide +kernel
theorem ly_72 : LY 72 = (0, 40) := by decide +kernel
theorem ly_73 : LY 73 = (0, 40) := by decide +kernel
theorem ly_74 : LY 74 = (0, 40) := by decide +kernel
theorem ly_75 : LY 75 = (0, 14) := by decide +kernel
theorem ly_76 : LY 76 = (0, 14) := by decide +kernel
theorem lo_77 : LY 77 = (4 + 2, cNf 2) := by decide +kernel
theorem ly_78 : LY 78 = (0, 120) := by decide +kernel
theorem ly_79 : LY 79 = (0, 120) := by decide +kernel
theorem ly_80 : LY 80 = (0, 5) := by decide +kernel
theorem lo_81 : LY 81 = (4 + 3, cNf 3) := by decide +kernel
theorem ly_82 : LY 82 = (0, 120) := by decide +kernel
theorem ly_83 : LY 83 = (0, 120) := by decide +kernel
theorem lo_84 : LY 84 = (4 + 6, cNf 6) := by decide +kernel
theorem ly_85 : LY 85 = (0, 12) := by decide +kernel
theorem ly_86 : LY 86 = (0, 10) := by decide +kernel
theorem lo_87 : LY 87 = (4 + 8, cNf 8) := by decide +kernel
theorem ly_88 : LY 88 = (2, 12) := by decide +kernel
theorem ly_89 : LY 89 = (0, 14) := by decide +kernel
theorem ly_90 : LY 90 = (0, 14) := by decide +kernel
theorem ly_91 : LY 91 = (0, 14) := by decide +kernel
theorem ly_92 : LY 92 = (0, 14) := by decide +kernel
theorem ly_93 : LY 93 = (0, 14) := by decide +kernel
theorem ly_94 : LY 94 = (0, 14) := by decide +kernel
theorem ly_95 : LY 95 = (0, 14) := by decide +kernel
theorem ly_96 : LY 96 = (0, 14) := by decide +kernel
theorem ly_97 : LY 97 = (0, 14) := by decide +kernel
theorem ly_98 : LY 98 = (0, 14) := by decide +kernel
theorem ly_99 : LY 99 = (0, 14) := by decide +kernel
theorem ly_100 : LY 100 = (0, 14) := by decide +kernel
theorem ly_101 : LY 101 = (0, 14) := by decide +kernel
theorem ly_102 : LY 102 = (0, 13) := by decide +kernel
theorem ly_103 : LY 103 = (0, 588) := by decide +kernel
theorem ly_104 : LY 104 = (0, 588) := by decide +kernel
theorem ly_105 : LY 105 = (0, 588) := by decide +kernel
theorem ly_106 : LY 106 = (0, 588) := by decide +kernel
theorem ly_107 : LY 107 = (0, 12) := by decide +kernel
theorem ly_108 : LY 108 = (0, 12) := by decide +kernel
theorem ly_109 : LY 109 = (0, 36) := by decide +kernel
theorem lo_110 : LY 110 = (4 + 10, cNf 10) := by decide +kernel
theorem ly_111 : LY 111 = (2, 12) := by decide +kernel
theorem ly_112 : LY 112 = (0, 4) := by decide +kernel
theorem ly_113 : LY 113 = (0, 4) := by decide +kernel
theorem ly_114 : LY 114 = (0, 4) := by decide +kernel
theorem ly_115 : LY 115 = (0, 4) := by decide +kernel
theorem ly_116 : LY 116 = (0, 4) := by decide +kernel
theorem ly_117 : LY 117 = (0, 4) := by decide +kernel
theorem ly_118 : LY 118 = (0, 4) := by decide +kernel
theorem ly_119 : LY 119 = (0, 4) := by decide +kernel
theorem ly_120 : LY 120 = (0, 4) := by decide +kernel
theorem ly_121 : LY 121 = (0, 4) := by decide +kernel
theorem ly_122 : LY 122 = (0, 4) := by decide +kernel
theorem ly_123 : LY 123 = (0, 4) := by decide +kernel
theorem ly_124 : LY 124 = (2, 2) := by decide +kernel
theorem ly_125 : LY 125 = (0, 4) := by decide +kernel
theorem ly_126 : LY 126 = (0, 4) := by decide +kernel
theorem lo_127 : LY 127 = (4 + 9, cNf 9) := by decide +kernel
theorem ly_128 : LY 128 = (3, 2) := by decide +kernel
theorem ly_129 : LY 129 = (1, 16) := by decide +kernel
theorem ly_130 : LY 130 = (1, 16) := by decide +kernel
theorem ly_131 : LY 131 = (0, 2) := by decide +kernel
theorem ly_132 : LY 132 = (0, 36) := by decide +kernel
theorem lo_133 : LY 133 = (4 + 12, cNf 12) := by decide +kernel
theorem ly_134 : LY 134 = (0, 2156) := by decide +kernel
theorem ly_135 : LY 135 = (0, 2156) := by decide +kernel
theorem ly_136 : LY 136 = (0, 120) := by decide +kernel
theorem ly_137 : LY 137 = (0, 36) := by decide +kernel
theorem ly_138 : LY 138 = (0, 2) := by decide +kernel
theorem ly_139 : LY 139 = (0, 32) := by decide +kernel
theorem ly_140 : LY 140 = (0, 168) := by decide +kernel
theorem ly_141 : LY 141 = (0, 128) := by decide +kernel
theorem ly_142 : LY 142 = (0, 128) := by decide +kernel
theorem ly_143 : LY 143 = (0, 12) := by decide +kernel
theorem ly_144 : LY 144 = (0, 12) := by decide +kernel
theorem ly_145 : LY 145 = (0, 16) := by decide +kernel
theorem lo_146 : LY 146 = (4 + 1, cNf 1) := by decide +kernel
theorem lo_147 : LY 147 = (4 + 7, cNf 7) := by decide +kernel
theorem ly_148 : LY 148 = (0, 14) := by decide +kernel
theorem ly_149 : LY 149 = (0, 14) := by decide +kernel
theorem ly_150 : LY 150 = (0, 14) := by decide +kernel
theorem ly_151 : LY 151 = (0, 14) := by decide +kernel
theorem ly_152 : LY 152 = (0, 14) := by decide +kernel
theorem ly_153 : LY 153 = (2, 14) := by decide +kernel
theorem ly_154 : LY 154 = (0, 14) := by decide +kernel
theorem ly_155 : LY 155 = (0, 14) := by decide +kernel
theorem ly_156 : LY 156 = (0, 14) := by decide +kernel
theorem ly_157 : LY 157 = (0, 14) := by decide +kernel
theorem ly_158 : LY 158 = (0, 14) := by decide +kernel
theorem ly_159 : LY 159 = (0, 14) := by decide +kernel
theorem ly_160 : LY 160 = (0, 14) := by decide +kernel
theorem ly_161 : LY 161 = (0, 14) := by decide +kernel
theorem ly_162 : LY 162 = (0, 14) := by decide +kernel
theorem ly_163 : LY 163 = (0, 14) := by decide +kernel
theorem ly_164 : LY 164 = (0, 14) := by decide +kernel
theorem ly_165 : LY 165 = (0, 14) := by decide +kernel
theorem ly_166 : LY 166 = (0, 14) := by decide +kernel
theorem ly_167 : LY 167 = (0, 14) := by decide +kernel
theorem lo_168 : LY 168 = (4 + 5, cNf 5) := by decide +kernel
theorem ly_169 : LY 169 = (0, 10) := by decide +kernel
theorem ly_170 : LY 170 = (0, 10) := by decide +kernel
theorem ly_171 : LY 171 = (2, 10) := by decide +kernel
theorem ly_172 : LY 172 = (0, 14) := by decide +kernel
theorem ly_173 : LY 173 = (0, 14) := by decide +kernel
theorem ly_174 : LY 174 = (0, 14) := by decide +kernel
theorem ly_175 : LY 175 = (0, 14) := by decide +kernel
theorem ly_176 : LY 176 = (0, 14) := by decide +kernel
theorem ly_177 : LY 177 = (0, 14) := by decide +kernel
theorem ly_178 : LY 178 = (0, 14) := by decide +kernel
theorem ly_179 : LY 179 = (0, 14) := by decide +kernel
theorem ly_180 : LY 180 = (0, 14) := by decide +kernel
theorem ly_181 : LY 181 = (0, 14) := by decide +kernel
theorem lo_182 : LY 182 = (4 + 0, cNf 0) := by decide +kernel
theorem ly_183 : LY 183 = (0, 12) := by decide +kernel
theorem ly_184 : LY 184 = (0, 12) := by decide +kernel
theorem ly_185 : LY 185 = (0, 12) := by decide +kernel
theorem ly_186 : LY 186 = (0, 12) := by decide +kernel
theorem ly_187 : LY 187 = (0, 12) := by decide +kernel
theorem ly_188 : LY 188 = (2, 12) := by decide +kernel
theorem ly_189 : LY 189 = (0, 10) := by decide +kernel
theorem ly_190 : LY 190 = (0, 10) := by decide +kernel
theorem ly_191 : LY 191 = (0, 10) := by decide +kernel
theorem ly_192 : LY 192 = (0, 10) := by decide +kernel
theorem ly_193 : LY 193 = (0, 10) := by decide +kernel
theorem ly_194 : LY 194 = (0, 10) := by decide +kernel
theorem ly_195 : LY 195 = (0, 10) := by decide +kernel
theorem ly_196 : LY 196 = (0, 10) := by decide +kernel
theorem ly_197 : LY 197 = (0, 10) := by decide +kernel
theorem ly_198 : LY 198 = (0, 10) := by decide +kernel
theorem ly_199 : LY 199 = (0, 10) := by decide +kernel
theorem ly_200 : LY 200 = (0, 10) := by decide +kernel
theorem ly_201 : LY 201 = (2, 12) := by decide +kernel
theorem ly_202 : LY 202 = (0, 100) := by decide +kernel
theorem ly_203 : LY 203 = (0, 100) := by decide +kernel
theorem ly_204 : LY 204 = (0, 100) := by decide +kernel
theorem ly_205 : LY 205 = (0, 100) := by decide +kernel
theorem ly_206 : LY 206 = (0, 100) := by decide +kernel
theorem ly_207 : LY 207 = (0, 100) := by decide +kernel
theorem ly_208 : LY 208 = (0, 100) := by decide +kernel
theorem ly_209 : LY 209 = (0, 100) := by decide +kernel
theorem ly_210 : LY 210 = (0, 100) := by decide +kernel
theorem ly_211 : LY 211 = (0, 100) := by decide +kernel
theorem ly_212 : LY 212 = (0, 100) := by decide +kernel
theorem ly_213 : LY 213 = (0, 100) := by decide +kernel
theorem lo_214 : LY 214 = (4 + 4, cNf 4) := by decide +kernel
theorem ly_215 : LY 215 = (0, 40) := by decide +kernel
theorem ly_216 : LY 216 = (0, 40) := by decide +kernel
theorem ly_217 : LY 217 = (0, 40) := by decide +kernel
theorem ly_218 : LY 218 = (0, 40) := by decide +kernel
theorem ly_219 : LY 219 = (0, 40) := by decide +kernel
theorem ly_220 : LY 220 = (0, 14) := by decide +kernel
theorem ly_221 : LY 221 = (0, 14) := by decide +kernel
theorem lo_222 : LY 222 = (4 + 2, cNf 2) := by decide +kernel
theorem ly_223 : LY 223 = (0, 120) := by decide +kernel
theorem ly_224 : LY 224 = (0, 120) := by decide +kernel
theorem ly_225 : LY 225 = (0, 5) := by decide +kernel
theorem lyr_8 : ∀ j, j < 14 → LY (8 + 1 + j) = (0, 14) := by decide +kernel
theorem lyr_26 : ∀ j, j < 10 → LY (26 + 1 + j) = (0, 14) := by decide +kernel
theorem lyr_43 : ∀ j, j < 12 → LY (43 + 1 + j) = (0, 10) := by decide +kernel
theorem lyr_56 : ∀ j, j < 12 → LY (56 + 1 + j) = (0, 100) := by decide +kernel
theorem lyr_88 : ∀ j, j < 12 → LY (88 + 1 + j) = (0, 14) := by decide +kernel
theorem lyr_111 : ∀ j, j < 12 → LY (111 + 1 + j) = (0, 4) := by decide +kernel
theorem lyr_124 : ∀ j, j < 2 → LY (124 + 1 + j) = (0, 4) := by decide +kernel
theorem lyr_128 : ∀ j, j < 2 → LY (128 + 1 + j) = (1, 16) := by decide +kernel
theorem lyr_153 : ∀ j, j < 14 → LY (153 + 1 + j) = (0, 14) := by decide +kernel
theorem lyr_171 : ∀ j, j < 10 → LY (171 + 1 + j) = (0, 14) := by decide +kernel
theorem lyr_188 : ∀ j, j < 12 → LY (188 + 1 + j) = (0, 10) := by decide +kernel
theorem lyr_201 : ∀ j, j < 12 → LY (201 + 1 + j) = (0, 100) := by decide +kernel
theorem sh_0_0 {n : Nat} {X : LX} (h : Sh n X) (hn : 0 < n) : X 0 0 = rE 1 := h.1 (0, 0, 1) (List.mem_of_getElem? (i := 0) rfl) hn
theorem sh_0_1 {n : Nat} {X : LX} (h : Sh n X) (hn : 0 < n) : X 0 1 = rE 81 := h.1 (0, 1, 81) (List.mem_of_getElem? (i := 1) rfl) hn
theorem sh_0_2 {n : Nat} {X : LX} (h : Sh n X) (hn : 0 < n) : X 0 2 = rE 84 := h.1 (0, 2, 84) (List.mem_of_getElem? (i := 2) rfl) hn
theorem sh_0_3 {n : Nat} {X : LX} (h : Sh n X) (hn : 0 < n) : X 0 3 = rE 87 := h.1 (0, 3, 87) (List.mem_of_getElem? (i := 3) rfl) hn
theorem sh_0_4 {n : Nat} {X : LX} (h : Sh n X) (hn : 0 < n) : X 0 4 = rE 110 := h.1 (0, 4, 110) (List.mem_of_getElem? (i := 4) rfl) hn
theorem sh_0_5 {n : Nat} {X : LX} (h : Sh n X) (hn : 0 < n) : X 0 5 = rE 127 := h.1 (0, 5, 127) (List.mem_of_getElem? (i := 5) rfl) hn
theorem sh_0_6 {n : Nat} {X : LX} (h : Sh n X) (hn : 0 < n) : X 0 6 = rE 132 := h.1 (0, 6, 132) (List.mem_of_getElem? (i := 6) rfl) hn
theorem sh_1_0 {n : Nat} {X : LX} (h : Sh n X) (hn : 1 < n) : X 1 0 = rE 2 := h.1 (1, 0, 2) (List.mem_of_getElem? (i := 7) rfl) hn
theorem sh_1_1 {n : Nat} {X : LX} (h : Sh n X) (hn : 1 < n) : X 1 1 = rE 23 := h.1 (1, 1, 23) (List.mem_of_getElem? (i := 8) rfl) hn
theorem sh_1_2 {n : Nat} {X : LX} (h : Sh n X) (hn : 1 < n) : X 1 2 = rE 37 := h.1 (1, 2, 37) (List.mem_of_getElem? (i := 9) rfl) hn
theorem sh_1_3 {n : Nat} {X : LX} (h : Sh n X) (hn : 1 < n) : X 1 3 = rE 69 := h.1 (1, 3, 69) (List.mem_of_getElem? (i := 10) rfl) hn
theorem sh_1_4 {n : Nat} {X : LX} (h : Sh n X) (hn : 1 < n) : X 1 4 = rE 77 := h.1 (1, 4, 77) (List.mem_of_getElem? (i := 11) rfl) hn
theorem sh_2_1 {n : Nat} {X : LX} (h : Sh n X) (hn : 2 < n) : X 2 1 = rE 3 := h.1 (2, 1, 3) (List.mem_of_getElem? (i := 12) rfl) hn
theorem sh_2_2 {n : Nat} {X : LX} (h : Sh n X) (hn : 2 < n) : X 2 2 = rE 4 := h.1 (2, 2, 4) (List.mem_of_getElem? (i := 13) rfl) hn
theorem sh_2_3 {n : Nat} {X : LX} (h : Sh n X) (hn : 2 < n) : X 2 3 = rE 5 := h.1 (2, 3, 5) (List.mem_of_getElem? (i := 14) rfl) hn
theorem sh_2_4 {n : Nat} {X : LX} (h : Sh n X) (hn : 2 < n) : X 2 4 = rE 6 := h.1 (2, 4, 6) (List.mem_of_getElem? (i := 15) rfl) hn
theorem sh_2_5 {n : Nat} {X : LX} (h : Sh n X) (hn : 2 < n) : X 2 5 = rE 7 := h.1 (2, 5, 7) (List.mem_of_getElem? (i := 16) rfl) hn
theorem sh_2_6 {n : Nat} {X : LX} (h : Sh n X) (hn : 2 < n) : X 2 6 = rE 8 := h.1 (2, 6, 8) (List.mem_of_getElem? (i := 17) rfl) hn
theorem sh_23_1 {n : Nat} {X : LX} (h : Sh n X) (hn : 23 < n) : X 23 1 = rE 24 := h.1 (23, 1, 24) (List.mem_of_getElem? (i := 18) rfl) hn
theorem sh_23_2 {n : Nat} {X : LX} (h : Sh n X) (hn : 23 < n) : X 23 2 = rE 25 := h.1 (23, 2, 25) (List.mem_of_getElem? (i := 19) rfl) hn
theorem sh_23_3 {n : Nat} {X : LX} (h : Sh n X) (hn : 23 < n) : X 23 3 = rE 26 := h.1 (23, 3, 26) (List.mem_of_getElem? (i := 20) rfl) hn
theorem sh_37_1 {n : Nat} {X : LX} (h : Sh n X) (hn : 37 < n) : X 37 1 = rE 38 := h.1 (37, 1, 38) (List.mem_of_getElem? (i := 21) rfl) hn
theorem sh_37_2 {n : Nat} {X : LX} (h : Sh n X) (hn : 37 < n) : X 37 2 = rE 39 := h.1 (37, 2, 39) (List.mem_of_getElem? (i := 22) rfl) hn
theorem sh_37_3 {n : Nat} {X : LX} (h : Sh n X) (hn : 37 < n) : X 37 3 = rE 40 := h.1 (37, 3, 40) (List.mem_of_getElem? (i := 23) rfl) hn
theorem sh_37_4 {n : Nat} {X : LX} (h : Sh n X) (hn : 37 < n) : X 37 4 = rE 41 := h.1 (37, 4, 41) (List.mem_of_getElem? (i := 24) rfl) hn
theorem sh_37_5 {n : Nat} {X : LX} (h : Sh n X) (hn : 37 < n) : X 37 5 = rE 42 := h.1 (37, 5, 42) (List.mem_of_getElem? (i := 25) rfl) hn
theorem sh_37_6 {n : Nat} {X : LX} (h : Sh n X) (hn : 37 < n) : X 37 6 = rE 43 := h.1 (37, 6, 43) (List.mem_of_getElem? (i := 26) rfl) hn
theorem sh_37_7 {n : Nat} {X : LX} (h : Sh n X) (hn : 37 < n) : X 37 7 = rE 56 := h.1 (37, 7, 56) (List.mem_of_getElem? (i := 27) rfl) hn
theorem sh_69_1 {n : Nat} {X : LX} (h : Sh n X) (hn : 69 < n) : X 69 1 = rE 70 := h.1 (69, 1, 70) (List.mem_of_getElem? (i := 28) rfl) hn
theorem sh_69_2 {n : Nat} {X : LX} (h : Sh n X) (hn : 69 < n) : X 69 2 = rE 71 := h.1 (69, 2, 71) (List.mem_of_getElem? (i := 29) rfl) hn
theorem sh_69_3 {n : Nat} {X : LX} (h : Sh n X) (hn : 69 < n) : X 69 3 = rE 72 := h.1 (69, 3, 72) (List.mem_of_getElem? (i := 30) rfl) hn
theorem sh_69_4 {n : Nat} {X : LX} (h : Sh n X) (hn : 69 < n) : X 69 4 = rE 73 := h.1 (69, 4, 73) (List.mem_of_getElem? (i := 31) rfl) hn
theorem sh_69_5 {n : Nat} {X : LX} (h : Sh n X) (hn : 69 < n) : X 69 5 = rE 74 := h.1 (69, 5, 74) (List.mem_of_getElem? (i := 32) rfl) hn
theorem sh_69_6 {n : Nat} {X : LX} (h : Sh n X) (hn : 69 < n) : X 69 6 = rE 75 := h.1 (69, 6, 75) (List.mem_of_getElem? (i := 33) rfl) hn
theorem sh_69_7 {n : Nat} {X : LX} (h : Sh n X) (hn : 69 < n) : X 69 7 = rE 76 := h.1 (69, 7, 76) (List.mem_of_getElem? (i := 34) rfl) hn
theorem sh_77_3 {n : Nat} {X : LX} (h : Sh n X) (hn : 77 < n) : X 77 3 = rE 78 := h.1 (77, 3, 78) (List.mem_of_getElem? (i := 35) rfl) hn
theorem sh_77_4 {n : Nat} {X : LX} (h : Sh n X) (hn : 77 < n) : X 77 4 = rE 79 := h.1 (77, 4, 79) (List.mem_of_getElem? (i := 36) rfl) hn
theorem sh_77_5 {n : Nat} {X : LX} (h : Sh n X) (hn : 77 < n) : X 77 5 = rE 80 := h.1 (77, 5, 80) (List.mem_of_getElem? (i := 37) rfl) hn
theorem sh_81_0 {n : Nat} {X : LX} (h : Sh n X) (hn : 81 < n) : X 81 0 = rE 82 := h.1 (81, 0, 82) (List.mem_of_getElem? (i := 38) rfl) hn
theorem sh_81_2 {n : Nat} {X : LX} (h : Sh n X) (hn : 81 < n) : X 81 2 = rE 83 := h.1 (81, 2, 83) (List.mem_of_getElem? (i := 39) rfl) hn
theorem sh_84_0 {n : Nat} {X : LX} (h : Sh n X) (hn : 84 < n) : X 84 0 = rE 1 := h.1 (84, 0, 1) (List.mem_of_getElem? (i := 40) rfl) hn
theorem sh_84_1 {n : Nat} {X : LX} (h : Sh n X) (hn : 84 < n) : X 84 1 = rE 85 := h.1 (84, 1, 85) (List.mem_of_getElem? (i := 41) rfl) hn
theorem sh_84_2 {n : Nat} {X : LX} (h : Sh n X) (hn : 84 < n) : X 84 2 = rE 86 := h.1 (84, 2, 86) (List.mem_of_getElem? (i := 42) rfl) hn
theorem sh_87_0 {n : Nat} {X : LX} (h : Sh n X) (hn : 87 < n) : X 87 0 = rE 1 := h.1 (87, 0, 1) (List.mem_of_getElem? (i := 43) rfl) hn
theorem sh_87_1 {n : Nat} {X : LX} (h : Sh n X) (hn : 87 < n) : X 87 1 = rE 88 := h.1 (87, 1, 88) (List.mem_of_getElem? (i := 44) rfl) hn
theorem sh_87_2 {n : Nat} {X : LX} (h : Sh n X) (hn : 87 < n) : X 87 2 = rE 101 := h.1 (87, 2, 101) (List.mem_of_getElem? (i := 45) rfl) hn
theorem sh_87_4 {n : Nat} {X : LX} (h : Sh n X) (hn : 87 < n) : X 87 4 = rE 102 := h.1 (87, 4, 102) (List.mem_of_getElem? (i := 46) rfl) hn
theorem sh_87_5 {n : Nat} {X : LX} (h : Sh n X) (hn : 87 < n) : X 87 5 = rE 103 := h.1 (87, 5, 103) (List.mem_of_getElem? (i := 47) rfl) hn
theorem sh_87_6 {n : Nat} {X : LX} (h : Sh n X) (hn : 87 < n) : X 87 6 = rE 104 := h.1 (87, 6, 104) (List.mem_of_getElem? (i := 48) rfl) hn
theorem sh_87_7 {n : Nat} {X : LX} (h : Sh n X) (hn : 87 < n) : X 87 7 = rE 105 := h.1 (87, 7, 105) (List.mem_of_getElem? (i := 49) rfl) hn
theorem sh_87_8 {n : Nat} {X : LX} (h : Sh n X) (hn : 87 < n) : X 87 8 = rE 106 := h.1 (87, 8, 106) (List.mem_of_getElem? (i := 50) rfl) hn
theorem sh_87_10 {n : Nat} {X : LX} (h : Sh n X) (hn : 87 < n) : X 87 10 = rE 107 := h.1 (87, 10, 107) (List.mem_of_getElem? (i := 51) rfl) hn
theorem sh_87_11 {n : Nat} {X : LX} (h : Sh n X) (hn : 87 < n) : X 87 11 = rE 108 := h.1 (87, 11, 108) (List.mem_of_getElem? (i := 52) rfl) hn
theorem sh_87_17 {n : Nat} {X : LX} (h : Sh n X) (hn : 87 < n) : X 87 17 = rE 109 := h.1 (87, 17, 109) (List.mem_of_getElem? (i := 53) rfl) hn
theorem sh_110_0 {n : Nat} {X : LX} (h : Sh n X) (hn : 110 < n) : X 110 0 = rE 1 := h.1 (110, 0, 1) (List.mem_of_getElem? (i := 54) rfl) hn
theorem sh_110_1 {n : Nat} {X : LX} (h : Sh n X) (hn : 110 < n) : X 110 1 = rE 111 := h.1 (110, 1, 111) (List.mem_of_getElem? (i := 55) rfl) hn
theorem sh_110_2 {n : Nat} {X : LX} (h : Sh n X) (hn : 110 < n) : X 110 2 = rE 124 := h.1 (110, 2, 124) (List.mem_of_getElem? (i := 56) rfl) hn
theorem sh_127_0 {n : Nat} {X : LX} (h : Sh n X) (hn : 127 < n) : X 127 0 = rE 128 := h.1 (127, 0, 128) (List.mem_of_getElem? (i := 57) rfl) hn
theorem sh_127_1 {n : Nat} {X : LX} (h : Sh n X) (hn : 127 < n) : X 127 1 = rE 131 := h.1 (127, 1, 131) (List.mem_of_getElem? (i := 58) rfl) hn
theorem sh_133_0 {n : Nat} {X : LX} (h : Sh n X) (hn : 133 < n) : X 133 0 = rE 134 := h.1 (133, 0, 134) (List.mem_of_getElem? (i := 59) rfl) hn
theorem sh_133_1 {n : Nat} {X : LX} (h : Sh n X) (hn : 133 < n) : X 133 1 = rE 135 := h.1 (133, 1, 135) (List.mem_of_getElem? (i := 60) rfl) hn
theorem sh_133_3 {n : Nat} {X : LX} (h : Sh n X) (hn : 133 < n) : X 133 3 = rE 136 := h.1 (133, 3, 136) (List.mem_of_getElem? (i := 61) rfl) hn
theorem sh_133_5 {n : Nat} {X : LX} (h : Sh n X) (hn : 133 < n) : X 133 5 = rE 137 := h.1 (133, 5, 137) (List.mem_of_getElem? (i := 62) rfl) hn
theorem sh_133_7 {n : Nat} {X : LX} (h : Sh n X) (hn : 133 < n) : X 133 7 = rE 138 := h.1 (133, 7, 138) (List.mem_of_getElem? (i := 63) rfl) hn
theorem sh_133_8 {n : Nat} {X : LX} (h : Sh n X) (hn : 133 < n) : X 133 8 = rE 139 := h.1 (133, 8, 139) (List.mem_of_getElem? (i := 64) rfl) hn
theorem sh_133_9 {n : Nat} {X : LX} (h : Sh n X) (hn : 133 < n) : X 133 9 = rE 140 := h.1 (133, 9, 140) (List.mem_of_getElem? (i := 65) rfl) hn
theorem sh_133_17 {n : Nat} {X : LX} (h : Sh n X) (hn : 133 < n) : X 133 17 = rE 141 := h.1 (133, 17, 141) (List.mem_of_getElem? (i := 66) rfl) hn
theorem sh_133_20 {n : Nat} {X : LX} (h : Sh n X) (hn : 133 < n) : X 133 20 = rE 142 := h.1 (133, 20, 142) (List.mem_of_getElem? (i := 67) rfl) hn
theorem sh_133_26 {n : Nat} {X : LX} (h : Sh n X) (hn : 133 < n) : X 133 26 = rE 143 := h.1 (133, 26, 143) (List.mem_of_getElem? (i := 68) rfl) hn
theorem sh_133_27 {n : Nat} {X : LX} (h : Sh n X) (hn : 133 < n) : X 133 27 = rE 144 := h.1 (133, 27, 144) (List.mem_of_getElem? (i := 69) rfl) hn
theorem sh_133_30 {n : Nat} {X : LX} (h : Sh n X) (hn : 133 < n) : X 133 30 = rE 145 := h.1 (133, 30, 145) (List.mem_of_getElem? (i := 70) rfl) hn
theorem sh_146_0 {n : Nat} {X : LX} (h : Sh n X) (hn : 146 < n) : X 146 0 = rE 147 := h.1 (146, 0, 147) (List.mem_of_getElem? (i := 71) rfl) hn
theorem sh_146_1 {n : Nat} {X : LX} (h : Sh n X) (hn : 146 < n) : X 146 1 = rE 168 := h.1 (146, 1, 168) (List.mem_of_getElem? (i := 72) rfl) hn
theorem sh_146_2 {n : Nat} {X : LX} (h : Sh n X) (hn : 146 < n) : X 146 2 = rE 182 := h.1 (146, 2, 182) (List.mem_of_getElem? (i := 73) rfl) hn
theorem sh_146_3 {n : Nat} {X : LX} (h : Sh n X) (hn : 146 < n) : X 146 3 = rE 214 := h.1 (146, 3, 214) (List.mem_of_getElem? (i := 74) rfl) hn
theorem sh_146_4 {n : Nat} {X : LX} (h : Sh n X) (hn : 146 < n) : X 146 4 = rE 222 := h.1 (146, 4, 222) (List.mem_of_getElem? (i := 75) rfl) hn
theorem sh_147_1 {n : Nat} {X : LX} (h : Sh n X) (hn : 147 < n) : X 147 1 = rE 148 := h.1 (147, 1, 148) (List.mem_of_getElem? (i := 76) rfl) hn
theorem sh_147_2 {n : Nat} {X : LX} (h : Sh n X) (hn : 147 < n) : X 147 2 = rE 149 := h.1 (147, 2, 149) (List.mem_of_getElem? (i := 77) rfl) hn
theorem sh_147_3 {n : Nat} {X : LX} (h : Sh n X) (hn : 147 < n) : X 147 3 = rE 150 := h.1 (147, 3, 150) (List.mem_of_getElem? (i := 78) rfl) hn
theorem sh_147_4 {n : Nat} {X : LX} (h : Sh n X) (hn : 147 < n) : X 147 4 = rE 151 := h.1 (147, 4, 151) (List.mem_of_getElem? (i := 79) rfl) hn
theorem sh_147_5 {n : Nat} {X : LX} (h : Sh n X) (hn : 147 < n) : X 147 5 = rE 152 := h.1 (147, 5, 152) (List.mem_of_getElem? (i := 80) rfl) hn
theorem sh_147_6 {n : Nat} {X : LX} (h : Sh n X) (hn : 147 < n) : X 147 6 = rE 153 := h.1 (147, 6, 153) (List.mem_of_getElem? (i := 81) rfl) hn
theorem sh_168_1 {n : Nat} {X : LX} (h : Sh n X) (hn : 168 < n) : X 168 1 = rE 169 := h.1 (168, 1, 169) (List.mem_of_getElem? (i := 82) rfl) hn
theorem sh_168_2 {n : Nat} {X : LX} (h : Sh n X) (hn : 168 < n) : X 168 2 = rE 170 := h.1 (168, 2, 170) (List.mem_of_getElem? (i := 83) rfl) hn
theorem sh_168_3 {n : Nat} {X : LX} (h : Sh n X) (hn : 168 < n) : X 168 3 = rE 171 := h.1 (168, 3, 171) (List.mem_of_getElem? (i := 84) rfl) hn
theorem sh_182_1 {n : Nat} {X : LX} (h : Sh n X) (hn : 182 < n) : X 182 1 = rE 183 := h.1 (182, 1, 183) (List.mem_of_getElem? (i := 85) rfl) hn
theorem sh_182_2 {n : Nat} {X : LX} (h : Sh n X) (hn : 182 < n) : X 182 2 = rE 184 := h.1 (182, 2, 184) (List.mem_of_getElem? (i := 86) rfl) hn
theorem sh_182_3 {n : Nat} {X : LX} (h : Sh n X) (hn : 182 < n) : X 182 3 = rE 185 := h.1 (182, 3, 185) (List.mem_of_getElem? (i := 87) rfl) hn
theorem sh_182_4 {n : Nat} {X : LX} (h : Sh n X) (hn : 182 < n) : X 182 4 = rE 186 := h.1 (182, 4, 186) (List.mem_of_getElem? (i := 88) rfl) hn
theorem sh_182_5 {n : Nat} {X : LX} (h : Sh n X) (hn : 182 < n) : X 182 5 = rE 187 := h.1 (182, 5, 187) (List.mem_of_getElem? (i := 89) rfl) hn
theorem sh_182_6 {n : Nat} {X : LX} (h : Sh n X) (hn : 182 < n) : X 182 6 = rE 188 := h.1 (182, 6, 188) (List.mem_of_getElem? (i := 90) rfl) hn
theorem sh_182_7 {n : Nat} {X : LX} (h : Sh n X) (hn : 182 < n) : X 182 7 = rE 201 := h.1 (182, 7, 201) (List.mem_of_getElem? (i := 91) rfl) hn
theorem sh_214_1 {n : Nat} {X : LX} (h : Sh n X) (hn : 214 < n) : X 214 1 = rE 215 := h.1 (214, 1, 215) (List.mem_of_getElem? (i := 92) rfl) hn
theorem sh_214_2 {n : Nat} {X : LX} (h : Sh n X) (hn : 214 < n) : X 214 2 = rE 216 := h.1 (214, 2, 216) (List.mem_of_getElem? (i := 93) rfl) hn
theorem sh_214_3 {n : Nat} {X : LX} (h : Sh n X) (hn : 214 < n) : X 214 3 = rE 217 := h.1 (214, 3, 217) (List.mem_of_getElem? (i := 94) rfl) hn
theorem sh_214_4 {n : Nat} {X : LX} (h : Sh n X) (hn : 214 < n) : X 214 4 = rE 218 := h.1 (214, 4, 218) (List.mem_of_getElem? (i := 95) rfl) hn
theorem sh_214_5 {n : Nat} {X : LX} (h : Sh n X) (hn : 214 < n) : X 214 5 = rE 219 := h.1 (214, 5, 219) (List.mem_of_getElem? (i := 96) rfl) hn
theorem sh_214_6 {n : Nat} {X : LX} (h : Sh n X) (hn : 214 < n) : X 214 6 = rE 220 := h.1 (214, 6, 220) (List.mem_of_getElem? (i := 97) rfl) hn
theorem sh_214_7 {n : Nat} {X : LX} (h : Sh n X) (hn : 214 < n) : X 214 7 = rE 221 := h.1 (214, 7, 221) (List.mem_of_getElem? (i := 98) rfl) hn
theorem sh_222_3 {n : Nat} {X : LX} (h : Sh n X) (hn : 222 < n) : X 222 3 = rE 223 := h.1 (222, 3, 223) (List.mem_of_getElem? (i := 99) rfl) hn
theorem sh_222_4 {n : Nat} {X : LX} (h : Sh n X) (hn : 222 < n) : X 222 4 = rE 224 := h.1 (222, 4, 224) (List.mem_of_getElem? (i := 100) rfl) hn
theorem sh_222_5 {n : Nat} {X : LX} (h : Sh n X) (hn : 222 < n) : X 222 5 = rE 225 := h.1 (222, 5, 225) (List.mem_of_getElem? (i := 101) rfl) hn
theorem nz_bool {x : Int32} (h : x = 0 ∨ x = 1) : narrow .boolean (.int x) = .int x := by rcases h with h | h <;> subst h <;> decide
theorem tLn_lt {t : Nat} (h : t < 14) : tLn.getD t 0 < 20 := by
  have : ∀ t, t < 14 → tLn.getD t 0 < 20 := by decide +kernel
  exact this t h
