theorem kI_m1000000005 : R32 (-1000000005) := ⟨by decide, by decide⟩
theorem kI_m1000000003 : R32 (-1000000003) := ⟨by decide, by decide⟩
theorem kI_m1000000002 : R32 (-1000000002) := ⟨by decide, by decide⟩
theorem kI_m1000000001 : R32 (-1000000001) := ⟨by decide, by decide⟩
theorem kI_m1 : R32 (-1) := ⟨by decide, by decide⟩
theorem kI_0 : R32 0 := ⟨by decide, by decide⟩
theorem kI_1 : R32 1 := ⟨by decide, by decide⟩
theorem kI_2 : R32 2 := ⟨by decide, by decide⟩
theorem kI_3 : R32 3 := ⟨by decide, by decide⟩
theorem kI_4 : R32 4 := ⟨by decide, by decide⟩
theorem kI_5 : R32 5 := ⟨by decide, by decide⟩
theorem kI_6 : R32 6 := ⟨by decide, by decide⟩
theorem kI_7 : R32 7 := ⟨by decide, by decide⟩
theorem kI_8 : R32 8 := ⟨by decide, by decide⟩
theorem kI_10 : R32 10 := ⟨by decide, by decide⟩
theorem kI_15 : R32 15 := ⟨by decide, by decide⟩
theorem kI_16 : R32 16 := ⟨by decide, by decide⟩
theorem kI_17 : R32 17 := ⟨by decide, by decide⟩
theorem kI_20 : R32 20 := ⟨by decide, by decide⟩
theorem kI_23 : R32 23 := ⟨by decide, by decide⟩
theorem kI_24 : R32 24 := ⟨by decide, by decide⟩
theorem kI_40 : R32 40 := ⟨by decide, by decide⟩
theorem kI_70 : R32 70 := ⟨by decide, by decide⟩
theorem kI_200 : R32 200 := ⟨by decide, by decide⟩
theorem kI_230 : R32 230 := ⟨by decide, by decide⟩
theorem kI_416 : R32 416 := ⟨by decide, by decide⟩
theorem kI_630 : R32 630 := ⟨by decide, by decide⟩
theorem kI_1000 : R32 1000 := ⟨by decide, by decide⟩
theorem kI_1310 : R32 1310 := ⟨by decide, by decide⟩
theorem kB_6 : R32 6 ∧ (Int8.ofInt 6).toInt32 = Int32.ofInt 6 := ⟨kI_6, by decide⟩
theorem kB_7 : R32 7 ∧ (Int8.ofInt 7).toInt32 = Int32.ofInt 7 := ⟨kI_7, by decide⟩
theorem kB_8 : R32 8 ∧ (Int8.ofInt 8).toInt32 = Int32.ofInt 8 := ⟨kI_8, by decide⟩
theorem kB_10 : R32 10 ∧ (Int8.ofInt 10).toInt32 = Int32.ofInt 10 := ⟨kI_10, by decide⟩
theorem kB_15 : R32 15 ∧ (Int8.ofInt 15).toInt32 = Int32.ofInt 15 := ⟨kI_15, by decide⟩
theorem kB_16 : R32 16 ∧ (Int8.ofInt 16).toInt32 = Int32.ofInt 16 := ⟨kI_16, by decide⟩
theorem kB_17 : R32 17 ∧ (Int8.ofInt 17).toInt32 = Int32.ofInt 17 := ⟨kI_17, by decide⟩
theorem kB_20 : R32 20 ∧ (Int8.ofInt 20).toInt32 = Int32.ofInt 20 := ⟨kI_20, by decide⟩
theorem kB_23 : R32 23 ∧ (Int8.ofInt 23).toInt32 = Int32.ofInt 23 := ⟨kI_23, by decide⟩
theorem kB_24 : R32 24 ∧ (Int8.ofInt 24).toInt32 = Int32.ofInt 24 := ⟨kI_24, by decide⟩
theorem kB_40 : R32 40 ∧ (Int8.ofInt 40).toInt32 = Int32.ofInt 40 := ⟨kI_40, by decide⟩
theorem kB_70 : R32 70 ∧ (Int8.ofInt 70).toInt32 = Int32.ofInt 70 := ⟨kI_70, by decide⟩
theorem kS_200 : R32 200 ∧ (Int16.ofInt 200).toInt32 = Int32.ofInt 200 := ⟨kI_200, by decide⟩
theorem kS_230 : R32 230 ∧ (Int16.ofInt 230).toInt32 = Int32.ofInt 230 := ⟨kI_230, by decide⟩
theorem kS_416 : R32 416 ∧ (Int16.ofInt 416).toInt32 = Int32.ofInt 416 := ⟨kI_416, by decide⟩
theorem kS_630 : R32 630 ∧ (Int16.ofInt 630).toInt32 = Int32.ofInt 630 := ⟨kI_630, by decide⟩
theorem kS_1000 : R32 1000 ∧ (Int16.ofInt 1000).toInt32 = Int32.ofInt 1000 := ⟨kI_1000, by decide⟩
theorem kS_1310 : R32 1310 ∧ (Int16.ofInt 1310).toInt32 = Int32.ofInt 1310 := ⟨kI_1310, by decide⟩
theorem kJ_0 : R64 0 := ⟨by decide, by decide⟩
theorem kL_0 : R64 0 ∧ Int64.ofNat ((0 : Fin 2) : Nat) = Int64.ofInt 0 := ⟨kJ_0, by decide⟩
theorem kJ_1 : R64 1 := ⟨by decide, by decide⟩
theorem kL_1 : R64 1 ∧ Int64.ofNat ((1 : Fin 2) : Nat) = Int64.ofInt 1 := ⟨kJ_1, by decide⟩
theorem kJ_2 : R64 2 := ⟨by decide, by decide⟩
theorem kJ_3 : R64 3 := ⟨by decide, by decide⟩
theorem kJ_5 : R64 5 := ⟨by decide, by decide⟩
theorem kJ_7 : R64 7 := ⟨by decide, by decide⟩
theorem kJ_9 : R64 9 := ⟨by decide, by decide⟩
theorem kJ_60 : R64 60 := ⟨by decide, by decide⟩
theorem kJ_99 : R64 99 := ⟨by decide, by decide⟩
theorem kJ_999 : R64 999 := ⟨by decide, by decide⟩
theorem kJ_9999 : R64 9999 := ⟨by decide, by decide⟩
theorem fl_X12_7 : Cond.fieldLink RX12 7 "CutCityModel" "s" "[I" ∈ wsT := wsT_in (tb_7 (List.mem_of_getElem? (i := 29) (by decide +kernel))) (by decide +kernel)
theorem kc_X12_77 : Cond.constant RX12 77 (Int32.ofInt (-1000000005)) ∈ wsT := wsT_in (tb_7 (List.mem_of_getElem? (i := 199) (by decide +kernel))) (by decide +kernel)
theorem kc_X12_102 : Cond.constant RX12 102 (Int32.ofInt (-1000000001)) ∈ wsT := wsT_in (tb_7 (List.mem_of_getElem? (i := 157) (by decide +kernel))) (by decide +kernel)
theorem kc_X12_103 : Cond.constant RX12 103 (Int32.ofInt (-1000000003)) ∈ wsT := wsT_in (tb_7 (List.mem_of_getElem? (i := 158) (by decide +kernel))) (by decide +kernel)
theorem kc_X12_132 : Cond.constant RX12 132 (Int32.ofInt (-1000000002)) ∈ wsT := wsT_in (tb_7 (List.mem_of_getElem? (i := 213) (by decide +kernel))) (by decide +kernel)
theorem k2_X12_107 : Cond.constantLong RX12 107 (Int64.ofInt 999) ∈ wsT := wsT_in (tb_7 (List.mem_of_getElem? (i := 171) (by decide +kernel))) (by decide +kernel)
theorem k2_X12_109 : Cond.constantLong RX12 109 (Int64.ofInt 9999) ∈ wsT := wsT_in (tb_7 (List.mem_of_getElem? (i := 172) (by decide +kernel))) (by decide +kernel)
theorem k2_X12_115 : Cond.constantLong RX12 115 (Int64.ofInt 99) ∈ wsT := wsT_in (tb_7 (List.mem_of_getElem? (i := 181) (by decide +kernel))) (by decide +kernel)
theorem k2_X12_117 : Cond.constantLong RX12 117 (Int64.ofInt 3) ∈ wsT := wsT_in (tb_7 (List.mem_of_getElem? (i := 182) (by decide +kernel))) (by decide +kernel)
theorem k2_X12_122 : Cond.constantLong RX12 122 (Int64.ofInt 7) ∈ wsT := wsT_in (tb_7 (List.mem_of_getElem? (i := 195) (by decide +kernel))) (by decide +kernel)
theorem k2_X12_127 : Cond.constantLong RX12 127 (Int64.ofInt 2) ∈ wsT := wsT_in (tb_7 (List.mem_of_getElem? (i := 204) (by decide +kernel))) (by decide +kernel)
theorem k2_X12_138 : Cond.constantLong RX12 138 (Int64.ofInt 9) ∈ wsT := wsT_in (tb_7 (List.mem_of_getElem? (i := 235) (by decide +kernel))) (by decide +kernel)
theorem k2_X12_140 : Cond.constantLong RX12 140 (Int64.ofInt 60) ∈ wsT := wsT_in (tb_7 (List.mem_of_getElem? (i := 236) (by decide +kernel))) (by decide +kernel)
theorem k2_X12_142 : Cond.constantLong RX12 142 (Int64.ofInt 5) ∈ wsT := wsT_in (tb_7 (List.mem_of_getElem? (i := 230) (by decide +kernel))) (by decide +kernel)
theorem ml_X12_78 : Cond.methodLink RX12 78 yX12_isIn ∈ wsT := wsT_in (tb_7 (List.mem_of_getElem? (i := 154) (by decide +kernel))) (by decide +kernel)
theorem ml_X12_82 : Cond.methodLink RX12 82 yX12_isTie ∈ wsT := wsT_in (tb_8 (List.mem_of_getElem? (i := 17) (by decide +kernel))) (by decide +kernel)
theorem ml_X12_86 : Cond.methodLink RX12 86 yX12_tieAt ∈ wsT := wsT_in (tb_8 (List.mem_of_getElem? (i := 1) (by decide +kernel))) (by decide +kernel)
theorem ml_X12_90 : Cond.methodLink RX12 90 yX12_cellAt ∈ wsT := wsT_in (tb_7 (List.mem_of_getElem? (i := 159) (by decide +kernel))) (by decide +kernel)
theorem ml_X12_93 : Cond.methodLink RX12 93 yX12_personAt ∈ wsT := wsT_in (tb_7 (List.mem_of_getElem? (i := 183) (by decide +kernel))) (by decide +kernel)
theorem ml_X12_96 : Cond.methodLink RX12 96 yX12_sideOf ∈ wsT := wsT_in (tb_7 (List.mem_of_getElem? (i := 222) (by decide +kernel))) (by decide +kernel)
theorem ml_X12_99 : Cond.methodLink RX12 99 yX12_isSide ∈ wsT := wsT_in (tb_7 (List.mem_of_getElem? (i := 151) (by decide +kernel))) (by decide +kernel)
theorem ml_X12_104 : Cond.methodLink RX12 104 yX12_isCell ∈ wsT := wsT_in (tb_7 (List.mem_of_getElem? (i := 167) (by decide +kernel))) (by decide +kernel)
theorem ml_X12_111 : Cond.methodLink RX12 111 yX12_becomes ∈ wsT := wsT_in (tb_7 (List.mem_of_getElem? (i := 173) (by decide +kernel))) (by decide +kernel)
theorem ml_X12_119 : Cond.methodLink RX12 119 yX12_isPerson ∈ wsT := wsT_in (tb_7 (List.mem_of_getElem? (i := 191) (by decide +kernel))) (by decide +kernel)
theorem ml_X12_124 : Cond.methodLink RX12 124 yX12_orNone ∈ wsT := wsT_in (tb_7 (List.mem_of_getElem? (i := 196) (by decide +kernel))) (by decide +kernel)
theorem ml_X12_129 : Cond.methodLink RX12 129 yX12_isDead ∈ wsT := wsT_in (tb_7 (List.mem_of_getElem? (i := 209) (by decide +kernel))) (by decide +kernel)
theorem ml_X12_133 : Cond.methodLink RX12 133 yX12_waits ∈ wsT := wsT_in (tb_7 (List.mem_of_getElem? (i := 214) (by decide +kernel))) (by decide +kernel)
theorem ml_X12_135 : Cond.methodLink RX12 135 yX12_ownSide ∈ wsT := wsT_in (tb_7 (List.mem_of_getElem? (i := 218) (by decide +kernel))) (by decide +kernel)
theorem ml_X12_144 : Cond.methodLink RX12 144 yX12_fits ∈ wsT := wsT_in (tb_7 (List.mem_of_getElem? (i := 231) (by decide +kernel))) (by decide +kernel)
theorem ml_X12_148 : Cond.methodLink RX12 148 yX12_newTie ∈ wsT := wsT_in (tb_7 (List.mem_of_getElem? (i := 237) (by decide +kernel))) (by decide +kernel)
theorem cal_X12_becomes : Cal yX12_becomes cX12_becomes 4 (some .int) 2 := ⟨wsT_in (tb_7 (List.mem_of_getElem? (i := 176) (by decide +kernel))) (by decide +kernel), wsT_in (tb_1 (List.mem_of_getElem? (i := 13) (by decide +kernel))) (by decide +kernel), by decide, by decide, by decide +kernel⟩
theorem cv_X12_becomes : CalV yX12_becomes RX12 := ⟨wsT_in (tb_7 (List.mem_of_getElem? (i := 175) (by decide +kernel))) (by decide +kernel), wsT_in (List.mem_append_left _ (List.mem_of_getElem? (i := 43) (by decide +kernel))) (by decide +kernel)⟩
theorem cal_X12_cellAt : Cal yX12_cellAt cX12_cellAt 2 (some .int) 1 := ⟨wsT_in (tb_7 (List.mem_of_getElem? (i := 162) (by decide +kernel))) (by decide +kernel), wsT_in (tb_1 (List.mem_of_getElem? (i := 13) (by decide +kernel))) (by decide +kernel), by decide, by decide, by decide +kernel⟩
theorem cv_X12_cellAt : CalV yX12_cellAt RX12 := ⟨wsT_in (tb_7 (List.mem_of_getElem? (i := 161) (by decide +kernel))) (by decide +kernel), wsT_in (List.mem_append_left _ (List.mem_of_getElem? (i := 41) (by decide +kernel))) (by decide +kernel)⟩
theorem cal_X12_fits : Cal yX12_fits cX12_fits 3 (some .boolean) 2 := ⟨wsT_in (tb_7 (List.mem_of_getElem? (i := 234) (by decide +kernel))) (by decide +kernel), wsT_in (tb_1 (List.mem_of_getElem? (i := 13) (by decide +kernel))) (by decide +kernel), by decide, by decide, by decide +kernel⟩
theorem cv_X12_fits : CalV yX12_fits RX12 := ⟨wsT_in (tb_7 (List.mem_of_getElem? (i := 233) (by decide +kernel))) (by decide +kernel), wsT_in (List.mem_append_left _ (List.mem_of_getElem? (i := 50) (by decide +kernel))) (by decide +kernel)⟩
theorem cal_X12_isCell : Cal yX12_isCell cX12_isCell 2 (some .boolean) 1 := ⟨wsT_in (tb_7 (List.mem_of_getElem? (i := 170) (by decide +kernel))) (by decide +kernel), wsT_in (tb_1 (List.mem_of_getElem? (i := 13) (by decide +kernel))) (by decide +kernel), by decide, by decide, by decide +kernel⟩
theorem cv_X12_isCell : CalV yX12_isCell RX12 := ⟨wsT_in (tb_7 (List.mem_of_getElem? (i := 169) (by decide +kernel))) (by decide +kernel), wsT_in (List.mem_append_left _ (List.mem_of_getElem? (i := 42) (by decide +kernel))) (by decide +kernel)⟩
theorem cal_X12_isDead : Cal yX12_isDead cX12_isDead 2 (some .boolean) 1 := ⟨wsT_in (tb_7 (List.mem_of_getElem? (i := 212) (by decide +kernel))) (by decide +kernel), wsT_in (tb_1 (List.mem_of_getElem? (i := 13) (by decide +kernel))) (by decide +kernel), by decide, by decide, by decide +kernel⟩
theorem cv_X12_isDead : CalV yX12_isDead RX12 := ⟨wsT_in (tb_7 (List.mem_of_getElem? (i := 211) (by decide +kernel))) (by decide +kernel), wsT_in (List.mem_append_left _ (List.mem_of_getElem? (i := 46) (by decide +kernel))) (by decide +kernel)⟩
theorem cal_X12_isIn : Cal yX12_isIn cX12_isIn 6 (some .boolean) 3 := ⟨wsT_in (tb_7 (List.mem_of_getElem? (i := 156) (by decide +kernel))) (by decide +kernel), wsT_in (tb_1 (List.mem_of_getElem? (i := 13) (by decide +kernel))) (by decide +kernel), by decide, by decide, by decide +kernel⟩
theorem st_X12_isIn : Cond.static yX12_isIn ∈ wsT := wsT_in (tb_7 (List.mem_of_getElem? (i := 155) (by decide +kernel))) (by decide +kernel)
theorem cal_X12_isPerson : Cal yX12_isPerson cX12_isPerson 2 (some .boolean) 1 := ⟨wsT_in (tb_7 (List.mem_of_getElem? (i := 194) (by decide +kernel))) (by decide +kernel), wsT_in (tb_1 (List.mem_of_getElem? (i := 13) (by decide +kernel))) (by decide +kernel), by decide, by decide, by decide +kernel⟩
theorem cv_X12_isPerson : CalV yX12_isPerson RX12 := ⟨wsT_in (tb_7 (List.mem_of_getElem? (i := 193) (by decide +kernel))) (by decide +kernel), wsT_in (List.mem_append_left _ (List.mem_of_getElem? (i := 45) (by decide +kernel))) (by decide +kernel)⟩
theorem cal_X12_isSide : Cal yX12_isSide cX12_isSide 1 (some .boolean) 1 := ⟨wsT_in (tb_7 (List.mem_of_getElem? (i := 153) (by decide +kernel))) (by decide +kernel), wsT_in (tb_1 (List.mem_of_getElem? (i := 13) (by decide +kernel))) (by decide +kernel), by decide, by decide, by decide +kernel⟩
theorem st_X12_isSide : Cond.static yX12_isSide ∈ wsT := wsT_in (tb_7 (List.mem_of_getElem? (i := 152) (by decide +kernel))) (by decide +kernel)
theorem cal_X12_isTie : Cal yX12_isTie cX12_isTie 2 (some .boolean) 1 := ⟨wsT_in (tb_8 (List.mem_of_getElem? (i := 20) (by decide +kernel))) (by decide +kernel), wsT_in (tb_1 (List.mem_of_getElem? (i := 13) (by decide +kernel))) (by decide +kernel), by decide, by decide, by decide +kernel⟩
theorem cv_X12_isTie : CalV yX12_isTie RX12 := ⟨wsT_in (tb_8 (List.mem_of_getElem? (i := 19) (by decide +kernel))) (by decide +kernel), wsT_in (List.mem_append_left _ (List.mem_of_getElem? (i := 54) (by decide +kernel))) (by decide +kernel)⟩
theorem cal_X12_newTie : Cal yX12_newTie cX12_newTie 7 (some .int) 4 := ⟨wsT_in (tb_8 (List.mem_of_getElem? (i := 0) (by decide +kernel))) (by decide +kernel), wsT_in (tb_1 (List.mem_of_getElem? (i := 13) (by decide +kernel))) (by decide +kernel), by decide, by decide, by decide +kernel⟩
theorem cv_X12_newTie : CalV yX12_newTie RX12 := ⟨wsT_in (tb_7 (List.mem_of_getElem? (i := 239) (by decide +kernel))) (by decide +kernel), wsT_in (List.mem_append_left _ (List.mem_of_getElem? (i := 51) (by decide +kernel))) (by decide +kernel)⟩
theorem cal_X12_orNone : Cal yX12_orNone cX12_orNone 1 (some .int) 1 := ⟨wsT_in (tb_7 (List.mem_of_getElem? (i := 198) (by decide +kernel))) (by decide +kernel), wsT_in (tb_1 (List.mem_of_getElem? (i := 13) (by decide +kernel))) (by decide +kernel), by decide, by decide, by decide +kernel⟩
theorem st_X12_orNone : Cond.static yX12_orNone ∈ wsT := wsT_in (tb_7 (List.mem_of_getElem? (i := 197) (by decide +kernel))) (by decide +kernel)
theorem cal_X12_ownSide : Cal yX12_ownSide cX12_ownSide 2 (some .int) 1 := ⟨wsT_in (tb_7 (List.mem_of_getElem? (i := 221) (by decide +kernel))) (by decide +kernel), wsT_in (tb_1 (List.mem_of_getElem? (i := 13) (by decide +kernel))) (by decide +kernel), by decide, by decide, by decide +kernel⟩
theorem cv_X12_ownSide : CalV yX12_ownSide RX12 := ⟨wsT_in (tb_7 (List.mem_of_getElem? (i := 220) (by decide +kernel))) (by decide +kernel), wsT_in (List.mem_append_left _ (List.mem_of_getElem? (i := 48) (by decide +kernel))) (by decide +kernel)⟩
theorem cal_X12_personAt : Cal yX12_personAt cX12_personAt 2 (some .int) 1 := ⟨wsT_in (tb_7 (List.mem_of_getElem? (i := 186) (by decide +kernel))) (by decide +kernel), wsT_in (tb_1 (List.mem_of_getElem? (i := 13) (by decide +kernel))) (by decide +kernel), by decide, by decide, by decide +kernel⟩
theorem cv_X12_personAt : CalV yX12_personAt RX12 := ⟨wsT_in (tb_7 (List.mem_of_getElem? (i := 185) (by decide +kernel))) (by decide +kernel), wsT_in (List.mem_append_left _ (List.mem_of_getElem? (i := 44) (by decide +kernel))) (by decide +kernel)⟩
theorem cal_X12_sideOf : Cal yX12_sideOf cX12_sideOf 2 (some .int) 1 := ⟨wsT_in (tb_7 (List.mem_of_getElem? (i := 225) (by decide +kernel))) (by decide +kernel), wsT_in (tb_1 (List.mem_of_getElem? (i := 13) (by decide +kernel))) (by decide +kernel), by decide, by decide, by decide +kernel⟩
theorem cv_X12_sideOf : CalV yX12_sideOf RX12 := ⟨wsT_in (tb_7 (List.mem_of_getElem? (i := 224) (by decide +kernel))) (by decide +kernel), wsT_in (List.mem_append_left _ (List.mem_of_getElem? (i := 49) (by decide +kernel))) (by decide +kernel)⟩
theorem cal_X12_tieAt : Cal yX12_tieAt cX12_tieAt 2 (some .int) 1 := ⟨wsT_in (tb_8 (List.mem_of_getElem? (i := 4) (by decide +kernel))) (by decide +kernel), wsT_in (tb_1 (List.mem_of_getElem? (i := 13) (by decide +kernel))) (by decide +kernel), by decide, by decide, by decide +kernel⟩
theorem cv_X12_tieAt : CalV yX12_tieAt RX12 := ⟨wsT_in (tb_8 (List.mem_of_getElem? (i := 3) (by decide +kernel))) (by decide +kernel), wsT_in (List.mem_append_left _ (List.mem_of_getElem? (i := 52) (by decide +kernel))) (by decide +kernel)⟩
theorem cal_X12_waits : Cal yX12_waits cX12_waits 2 (some .boolean) 1 := ⟨wsT_in (tb_7 (List.mem_of_getElem? (i := 217) (by decide +kernel))) (by decide +kernel), wsT_in (tb_1 (List.mem_of_getElem? (i := 13) (by decide +kernel))) (by decide +kernel), by decide, by decide, by decide +kernel⟩
theorem cv_X12_waits : CalV yX12_waits RX12 := ⟨wsT_in (tb_7 (List.mem_of_getElem? (i := 216) (by decide +kernel))) (by decide +kernel), wsT_in (List.mem_append_left _ (List.mem_of_getElem? (i := 47) (by decide +kernel))) (by decide +kernel)⟩
