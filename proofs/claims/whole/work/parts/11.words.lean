theorem kI_m1000000014 : R32 (-1000000014) := ⟨by decide, by decide⟩
theorem kI_m1000000013 : R32 (-1000000013) := ⟨by decide, by decide⟩
theorem kI_m1000000012 : R32 (-1000000012) := ⟨by decide, by decide⟩
theorem kI_m1000000011 : R32 (-1000000011) := ⟨by decide, by decide⟩
theorem kI_m1000000005 : R32 (-1000000005) := ⟨by decide, by decide⟩
theorem kI_m1000000003 : R32 (-1000000003) := ⟨by decide, by decide⟩
theorem kI_m1000000002 : R32 (-1000000002) := ⟨by decide, by decide⟩
theorem kI_m1000000001 : R32 (-1000000001) := ⟨by decide, by decide⟩
theorem kI_m1 : R32 (-1) := ⟨by decide, by decide⟩
theorem kI_0 : R32 0 := ⟨by decide, by decide⟩
theorem kI_1 : R32 1 := ⟨by decide, by decide⟩
theorem kI_2 : R32 2 := ⟨by decide, by decide⟩
theorem kI_3 : R32 3 := ⟨by decide, by decide⟩
theorem kI_4 : R32 4 := ⟨by decide, by decide⟩
theorem kI_5 : R32 5 := ⟨by decide, by decide⟩
theorem kI_6 : R32 6 := ⟨by decide, by decide⟩
theorem kI_7 : R32 7 := ⟨by decide, by decide⟩
theorem kI_8 : R32 8 := ⟨by decide, by decide⟩
theorem kI_9 : R32 9 := ⟨by decide, by decide⟩
theorem kI_10 : R32 10 := ⟨by decide, by decide⟩
theorem kI_11 : R32 11 := ⟨by decide, by decide⟩
theorem kI_12 : R32 12 := ⟨by decide, by decide⟩
theorem kI_13 : R32 13 := ⟨by decide, by decide⟩
theorem kI_15 : R32 15 := ⟨by decide, by decide⟩
theorem kI_16 : R32 16 := ⟨by decide, by decide⟩
theorem kI_17 : R32 17 := ⟨by decide, by decide⟩
theorem kI_18 : R32 18 := ⟨by decide, by decide⟩
theorem kI_20 : R32 20 := ⟨by decide, by decide⟩
theorem kI_21 : R32 21 := ⟨by decide, by decide⟩
theorem kI_23 : R32 23 := ⟨by decide, by decide⟩
theorem kI_24 : R32 24 := ⟨by decide, by decide⟩
theorem kI_30 : R32 30 := ⟨by decide, by decide⟩
theorem kI_32 : R32 32 := ⟨by decide, by decide⟩
theorem kI_33 : R32 33 := ⟨by decide, by decide⟩
theorem kI_40 : R32 40 := ⟨by decide, by decide⟩
theorem kI_48 : R32 48 := ⟨by decide, by decide⟩
theorem kI_60 : R32 60 := ⟨by decide, by decide⟩
theorem kI_70 : R32 70 := ⟨by decide, by decide⟩
theorem kI_96 : R32 96 := ⟨by decide, by decide⟩
theorem kI_97 : R32 97 := ⟨by decide, by decide⟩
theorem kI_99 : R32 99 := ⟨by decide, by decide⟩
theorem kI_100 : R32 100 := ⟨by decide, by decide⟩
theorem kI_101 : R32 101 := ⟨by decide, by decide⟩
theorem kI_102 : R32 102 := ⟨by decide, by decide⟩
theorem kI_104 : R32 104 := ⟨by decide, by decide⟩
theorem kI_105 : R32 105 := ⟨by decide, by decide⟩
theorem kI_107 : R32 107 := ⟨by decide, by decide⟩
theorem kI_108 : R32 108 := ⟨by decide, by decide⟩
theorem kI_110 : R32 110 := ⟨by decide, by decide⟩
theorem kI_111 : R32 111 := ⟨by decide, by decide⟩
theorem kI_112 : R32 112 := ⟨by decide, by decide⟩
theorem kI_114 : R32 114 := ⟨by decide, by decide⟩
theorem kI_115 : R32 115 := ⟨by decide, by decide⟩
theorem kI_116 : R32 116 := ⟨by decide, by decide⟩
theorem kI_117 : R32 117 := ⟨by decide, by decide⟩
theorem kI_119 : R32 119 := ⟨by decide, by decide⟩
theorem kI_120 : R32 120 := ⟨by decide, by decide⟩
theorem kI_121 : R32 121 := ⟨by decide, by decide⟩
theorem kI_200 : R32 200 := ⟨by decide, by decide⟩
theorem kI_230 : R32 230 := ⟨by decide, by decide⟩
theorem kI_255 : R32 255 := ⟨by decide, by decide⟩
theorem kI_256 : R32 256 := ⟨by decide, by decide⟩
theorem kI_288 : R32 288 := ⟨by decide, by decide⟩
theorem kI_324 : R32 324 := ⟨by decide, by decide⟩
theorem kI_400 : R32 400 := ⟨by decide, by decide⟩
theorem kI_416 : R32 416 := ⟨by decide, by decide⟩
theorem kI_630 : R32 630 := ⟨by decide, by decide⟩
theorem kI_1000 : R32 1000 := ⟨by decide, by decide⟩
theorem kI_1024 : R32 1024 := ⟨by decide, by decide⟩
theorem kI_1310 : R32 1310 := ⟨by decide, by decide⟩
theorem kI_3710 : R32 3710 := ⟨by decide, by decide⟩
theorem kI_3770 : R32 3770 := ⟨by decide, by decide⟩
theorem kI_3830 : R32 3830 := ⟨by decide, by decide⟩
theorem kI_3860 : R32 3860 := ⟨by decide, by decide⟩
theorem kI_3880 : R32 3880 := ⟨by decide, by decide⟩
theorem kI_3900 : R32 3900 := ⟨by decide, by decide⟩
theorem kI_4000 : R32 4000 := ⟨by decide, by decide⟩
theorem kI_4210 : R32 4210 := ⟨by decide, by decide⟩
theorem kI_9999 : R32 9999 := ⟨by decide, by decide⟩
theorem kI_1000000 : R32 1000000 := ⟨by decide, by decide⟩
theorem kB_6 : R32 6 ∧ (Int8.ofInt 6).toInt32 = Int32.ofInt 6 := ⟨kI_6, by decide⟩
theorem kB_7 : R32 7 ∧ (Int8.ofInt 7).toInt32 = Int32.ofInt 7 := ⟨kI_7, by decide⟩
theorem kB_8 : R32 8 ∧ (Int8.ofInt 8).toInt32 = Int32.ofInt 8 := ⟨kI_8, by decide⟩
theorem kB_9 : R32 9 ∧ (Int8.ofInt 9).toInt32 = Int32.ofInt 9 := ⟨kI_9, by decide⟩
theorem kB_10 : R32 10 ∧ (Int8.ofInt 10).toInt32 = Int32.ofInt 10 := ⟨kI_10, by decide⟩
theorem kB_11 : R32 11 ∧ (Int8.ofInt 11).toInt32 = Int32.ofInt 11 := ⟨kI_11, by decide⟩
theorem kB_12 : R32 12 ∧ (Int8.ofInt 12).toInt32 = Int32.ofInt 12 := ⟨kI_12, by decide⟩
theorem kB_13 : R32 13 ∧ (Int8.ofInt 13).toInt32 = Int32.ofInt 13 := ⟨kI_13, by decide⟩
theorem kB_15 : R32 15 ∧ (Int8.ofInt 15).toInt32 = Int32.ofInt 15 := ⟨kI_15, by decide⟩
theorem kB_16 : R32 16 ∧ (Int8.ofInt 16).toInt32 = Int32.ofInt 16 := ⟨kI_16, by decide⟩
theorem kB_17 : R32 17 ∧ (Int8.ofInt 17).toInt32 = Int32.ofInt 17 := ⟨kI_17, by decide⟩
theorem kB_18 : R32 18 ∧ (Int8.ofInt 18).toInt32 = Int32.ofInt 18 := ⟨kI_18, by decide⟩
theorem kB_20 : R32 20 ∧ (Int8.ofInt 20).toInt32 = Int32.ofInt 20 := ⟨kI_20, by decide⟩
theorem kB_21 : R32 21 ∧ (Int8.ofInt 21).toInt32 = Int32.ofInt 21 := ⟨kI_21, by decide⟩
theorem kB_23 : R32 23 ∧ (Int8.ofInt 23).toInt32 = Int32.ofInt 23 := ⟨kI_23, by decide⟩
theorem kB_24 : R32 24 ∧ (Int8.ofInt 24).toInt32 = Int32.ofInt 24 := ⟨kI_24, by decide⟩
theorem kB_30 : R32 30 ∧ (Int8.ofInt 30).toInt32 = Int32.ofInt 30 := ⟨kI_30, by decide⟩
theorem kB_32 : R32 32 ∧ (Int8.ofInt 32).toInt32 = Int32.ofInt 32 := ⟨kI_32, by decide⟩
theorem kB_33 : R32 33 ∧ (Int8.ofInt 33).toInt32 = Int32.ofInt 33 := ⟨kI_33, by decide⟩
theorem kB_40 : R32 40 ∧ (Int8.ofInt 40).toInt32 = Int32.ofInt 40 := ⟨kI_40, by decide⟩
theorem kB_48 : R32 48 ∧ (Int8.ofInt 48).toInt32 = Int32.ofInt 48 := ⟨kI_48, by decide⟩
theorem kB_60 : R32 60 ∧ (Int8.ofInt 60).toInt32 = Int32.ofInt 60 := ⟨kI_60, by decide⟩
theorem kB_70 : R32 70 ∧ (Int8.ofInt 70).toInt32 = Int32.ofInt 70 := ⟨kI_70, by decide⟩
theorem kB_96 : R32 96 ∧ (Int8.ofInt 96).toInt32 = Int32.ofInt 96 := ⟨kI_96, by decide⟩
theorem kB_97 : R32 97 ∧ (Int8.ofInt 97).toInt32 = Int32.ofInt 97 := ⟨kI_97, by decide⟩
theorem kB_99 : R32 99 ∧ (Int8.ofInt 99).toInt32 = Int32.ofInt 99 := ⟨kI_99, by decide⟩
theorem kB_100 : R32 100 ∧ (Int8.ofInt 100).toInt32 = Int32.ofInt 100 := ⟨kI_100, by decide⟩
theorem kB_101 : R32 101 ∧ (Int8.ofInt 101).toInt32 = Int32.ofInt 101 := ⟨kI_101, by decide⟩
theorem kB_102 : R32 102 ∧ (Int8.ofInt 102).toInt32 = Int32.ofInt 102 := ⟨kI_102, by decide⟩
theorem kB_104 : R32 104 ∧ (Int8.ofInt 104).toInt32 = Int32.ofInt 104 := ⟨kI_104, by decide⟩
theorem kB_105 : R32 105 ∧ (Int8.ofInt 105).toInt32 = Int32.ofInt 105 := ⟨kI_105, by decide⟩
theorem kB_107 : R32 107 ∧ (Int8.ofInt 107).toInt32 = Int32.ofInt 107 := ⟨kI_107, by decide⟩
theorem kB_108 : R32 108 ∧ (Int8.ofInt 108).toInt32 = Int32.ofInt 108 := ⟨kI_108, by decide⟩
theorem kB_110 : R32 110 ∧ (Int8.ofInt 110).toInt32 = Int32.ofInt 110 := ⟨kI_110, by decide⟩
theorem kB_111 : R32 111 ∧ (Int8.ofInt 111).toInt32 = Int32.ofInt 111 := ⟨kI_111, by decide⟩
theorem kB_112 : R32 112 ∧ (Int8.ofInt 112).toInt32 = Int32.ofInt 112 := ⟨kI_112, by decide⟩
theorem kB_114 : R32 114 ∧ (Int8.ofInt 114).toInt32 = Int32.ofInt 114 := ⟨kI_114, by decide⟩
theorem kB_115 : R32 115 ∧ (Int8.ofInt 115).toInt32 = Int32.ofInt 115 := ⟨kI_115, by decide⟩
theorem kB_116 : R32 116 ∧ (Int8.ofInt 116).toInt32 = Int32.ofInt 116 := ⟨kI_116, by decide⟩
theorem kB_117 : R32 117 ∧ (Int8.ofInt 117).toInt32 = Int32.ofInt 117 := ⟨kI_117, by decide⟩
theorem kB_119 : R32 119 ∧ (Int8.ofInt 119).toInt32 = Int32.ofInt 119 := ⟨kI_119, by decide⟩
theorem kB_120 : R32 120 ∧ (Int8.ofInt 120).toInt32 = Int32.ofInt 120 := ⟨kI_120, by decide⟩
theorem kB_121 : R32 121 ∧ (Int8.ofInt 121).toInt32 = Int32.ofInt 121 := ⟨kI_121, by decide⟩
theorem kS_200 : R32 200 ∧ (Int16.ofInt 200).toInt32 = Int32.ofInt 200 := ⟨kI_200, by decide⟩
theorem kS_230 : R32 230 ∧ (Int16.ofInt 230).toInt32 = Int32.ofInt 230 := ⟨kI_230, by decide⟩
theorem kS_255 : R32 255 ∧ (Int16.ofInt 255).toInt32 = Int32.ofInt 255 := ⟨kI_255, by decide⟩
theorem kS_256 : R32 256 ∧ (Int16.ofInt 256).toInt32 = Int32.ofInt 256 := ⟨kI_256, by decide⟩
theorem kS_288 : R32 288 ∧ (Int16.ofInt 288).toInt32 = Int32.ofInt 288 := ⟨kI_288, by decide⟩
theorem kS_324 : R32 324 ∧ (Int16.ofInt 324).toInt32 = Int32.ofInt 324 := ⟨kI_324, by decide⟩
theorem kS_400 : R32 400 ∧ (Int16.ofInt 400).toInt32 = Int32.ofInt 400 := ⟨kI_400, by decide⟩
theorem kS_416 : R32 416 ∧ (Int16.ofInt 416).toInt32 = Int32.ofInt 416 := ⟨kI_416, by decide⟩
theorem kS_630 : R32 630 ∧ (Int16.ofInt 630).toInt32 = Int32.ofInt 630 := ⟨kI_630, by decide⟩
theorem kS_1000 : R32 1000 ∧ (Int16.ofInt 1000).toInt32 = Int32.ofInt 1000 := ⟨kI_1000, by decide⟩
theorem kS_1024 : R32 1024 ∧ (Int16.ofInt 1024).toInt32 = Int32.ofInt 1024 := ⟨kI_1024, by decide⟩
theorem kS_1310 : R32 1310 ∧ (Int16.ofInt 1310).toInt32 = Int32.ofInt 1310 := ⟨kI_1310, by decide⟩
theorem kS_3710 : R32 3710 ∧ (Int16.ofInt 3710).toInt32 = Int32.ofInt 3710 := ⟨kI_3710, by decide⟩
theorem kS_3770 : R32 3770 ∧ (Int16.ofInt 3770).toInt32 = Int32.ofInt 3770 := ⟨kI_3770, by decide⟩
theorem kS_3830 : R32 3830 ∧ (Int16.ofInt 3830).toInt32 = Int32.ofInt 3830 := ⟨kI_3830, by decide⟩
theorem kS_3860 : R32 3860 ∧ (Int16.ofInt 3860).toInt32 = Int32.ofInt 3860 := ⟨kI_3860, by decide⟩
theorem kS_3880 : R32 3880 ∧ (Int16.ofInt 3880).toInt32 = Int32.ofInt 3880 := ⟨kI_3880, by decide⟩
theorem kS_3900 : R32 3900 ∧ (Int16.ofInt 3900).toInt32 = Int32.ofInt 3900 := ⟨kI_3900, by decide⟩
theorem kS_4000 : R32 4000 ∧ (Int16.ofInt 4000).toInt32 = Int32.ofInt 4000 := ⟨kI_4000, by decide⟩
theorem kS_4210 : R32 4210 ∧ (Int16.ofInt 4210).toInt32 = Int32.ofInt 4210 := ⟨kI_4210, by decide⟩
theorem kS_9999 : R32 9999 ∧ (Int16.ofInt 9999).toInt32 = Int32.ofInt 9999 := ⟨kI_9999, by decide⟩
theorem kJ_m100000 : R64 (-100000) := ⟨by decide, by decide⟩
theorem kJ_m99 : R64 (-99) := ⟨by decide, by decide⟩
theorem kJ_m1 : R64 (-1) := ⟨by decide, by decide⟩
theorem kJ_0 : R64 0 := ⟨by decide, by decide⟩
theorem kL_0 : R64 0 ∧ Int64.ofNat ((0 : Fin 2) : Nat) = Int64.ofInt 0 := ⟨kJ_0, by decide⟩
theorem kJ_1 : R64 1 := ⟨by decide, by decide⟩
theorem kL_1 : R64 1 ∧ Int64.ofNat ((1 : Fin 2) : Nat) = Int64.ofInt 1 := ⟨kJ_1, by decide⟩
theorem kJ_2 : R64 2 := ⟨by decide, by decide⟩
theorem kJ_3 : R64 3 := ⟨by decide, by decide⟩
theorem kJ_4 : R64 4 := ⟨by decide, by decide⟩
theorem kJ_5 : R64 5 := ⟨by decide, by decide⟩
theorem kJ_7 : R64 7 := ⟨by decide, by decide⟩
theorem kJ_8 : R64 8 := ⟨by decide, by decide⟩
theorem kJ_9 : R64 9 := ⟨by decide, by decide⟩
theorem kJ_12 : R64 12 := ⟨by decide, by decide⟩
theorem kJ_23 : R64 23 := ⟨by decide, by decide⟩
theorem kJ_24 : R64 24 := ⟨by decide, by decide⟩
theorem kJ_29 : R64 29 := ⟨by decide, by decide⟩
theorem kJ_48 : R64 48 := ⟨by decide, by decide⟩
theorem kJ_57 : R64 57 := ⟨by decide, by decide⟩
theorem kJ_59 : R64 59 := ⟨by decide, by decide⟩
theorem kJ_60 : R64 60 := ⟨by decide, by decide⟩
theorem kJ_97 : R64 97 := ⟨by decide, by decide⟩
theorem kJ_99 : R64 99 := ⟨by decide, by decide⟩
theorem kJ_100 : R64 100 := ⟨by decide, by decide⟩
theorem kJ_122 : R64 122 := ⟨by decide, by decide⟩
theorem kJ_255 : R64 255 := ⟨by decide, by decide⟩
theorem kJ_999 : R64 999 := ⟨by decide, by decide⟩
theorem kJ_9999 : R64 9999 := ⟨by decide, by decide⟩
theorem kJ_100000 : R64 100000 := ⟨by decide, by decide⟩
theorem fl_X12_7 : Cond.fieldLink RX12 7 "CutCityModel" "s" "[I" ∈ wsT := wsT_in (tb_7 (List.mem_of_getElem? (i := 29) (by decide +kernel))) (by decide +kernel)
theorem fl_X12_13 : Cond.fieldLink RX12 13 "CutCityModel" "image" "[I" ∈ wsT := wsT_in (tb_7 (List.mem_of_getElem? (i := 30) (by decide +kernel))) (by decide +kernel)
theorem fl_X12_16 : Cond.fieldLink RX12 16 "CutCityModel" "aside" "[I" ∈ wsT := wsT_in (tb_7 (List.mem_of_getElem? (i := 31) (by decide +kernel))) (by decide +kernel)
theorem fl_X12_19 : Cond.fieldLink RX12 19 "CutCityModel" "mSort" "[I" ∈ wsT := wsT_in (tb_7 (List.mem_of_getElem? (i := 33) (by decide +kernel))) (by decide +kernel)
theorem fl_X12_22 : Cond.fieldLink RX12 22 "CutCityModel" "mSize" "[I" ∈ wsT := wsT_in (tb_7 (List.mem_of_getElem? (i := 34) (by decide +kernel))) (by decide +kernel)
theorem fl_X12_25 : Cond.fieldLink RX12 25 "CutCityModel" "mNumber" "[I" ∈ wsT := wsT_in (tb_7 (List.mem_of_getElem? (i := 35) (by decide +kernel))) (by decide +kernel)
theorem fl_X12_28 : Cond.fieldLink RX12 28 "CutCityModel" "kin" "[I" ∈ wsT := wsT_in (tb_7 (List.mem_of_getElem? (i := 36) (by decide +kernel))) (by decide +kernel)
theorem fl_X12_31 : Cond.fieldLink RX12 31 "CutCityModel" "tape" "[I" ∈ wsT := wsT_in (tb_7 (List.mem_of_getElem? (i := 37) (by decide +kernel))) (by decide +kernel)
theorem fl_X12_34 : Cond.fieldLink RX12 34 "CutCityModel" "supposed" "I" ∈ wsT := wsT_in (tb_7 (List.mem_of_getElem? (i := 49) (by decide +kernel))) (by decide +kernel)
theorem fl_X12_38 : Cond.fieldLink RX12 38 "CutCityModel" "named" "[I" ∈ wsT := wsT_in (tb_7 (List.mem_of_getElem? (i := 50) (by decide +kernel))) (by decide +kernel)
theorem fl_X12_41 : Cond.fieldLink RX12 41 "CutCityModel" "pile" "[I" ∈ wsT := wsT_in (tb_7 (List.mem_of_getElem? (i := 51) (by decide +kernel))) (by decide +kernel)
theorem fl_X12_44 : Cond.fieldLink RX12 44 "CutCityModel" "room" "[I" ∈ wsT := wsT_in (tb_7 (List.mem_of_getElem? (i := 52) (by decide +kernel))) (by decide +kernel)
theorem fl_X12_47 : Cond.fieldLink RX12 47 "CutCityModel" "before" "[I" ∈ wsT := wsT_in (tb_7 (List.mem_of_getElem? (i := 53) (by decide +kernel))) (by decide +kernel)
theorem fl_X12_50 : Cond.fieldLink RX12 50 "CutCityModel" "line" "[I" ∈ wsT := wsT_in (tb_7 (List.mem_of_getElem? (i := 54) (by decide +kernel))) (by decide +kernel)
theorem fl_X12_53 : Cond.fieldLink RX12 53 "CutCityModel" "pairs" "[I" ∈ wsT := wsT_in (tb_7 (List.mem_of_getElem? (i := 55) (by decide +kernel))) (by decide +kernel)
theorem fl_X12_56 : Cond.fieldLink RX12 56 "CutCityModel" "paired" "[I" ∈ wsT := wsT_in (tb_7 (List.mem_of_getElem? (i := 56) (by decide +kernel))) (by decide +kernel)
theorem fl_X12_59 : Cond.fieldLink RX12 59 "CutCityModel" "carried" "[I" ∈ wsT := wsT_in (tb_7 (List.mem_of_getElem? (i := 57) (by decide +kernel))) (by decide +kernel)
theorem fl_X12_62 : Cond.fieldLink RX12 62 "CutCityModel" "queue" "[I" ∈ wsT := wsT_in (tb_7 (List.mem_of_getElem? (i := 58) (by decide +kernel))) (by decide +kernel)
theorem fl_X12_71 : Cond.fieldLink RX12 71 "CutCityModel" "waits" "[I" ∈ wsT := wsT_in (tb_7 (List.mem_of_getElem? (i := 64) (by decide +kernel))) (by decide +kernel)
theorem fl_X12_74 : Cond.fieldLink RX12 74 "CutCityModel" "due" "[I" ∈ wsT := wsT_in (tb_7 (List.mem_of_getElem? (i := 66) (by decide +kernel))) (by decide +kernel)
theorem fl_X12_220 : Cond.fieldLink RX12 220 "CutCityModel" "taped" "I" ∈ wsT := wsT_in (tb_7 (List.mem_of_getElem? (i := 38) (by decide +kernel))) (by decide +kernel)
theorem fl_X12_231 : Cond.fieldLink RX12 231 "CutCityModel" "behind" "I" ∈ wsT := wsT_in (tb_7 (List.mem_of_getElem? (i := 40) (by decide +kernel))) (by decide +kernel)
theorem fl_X12_234 : Cond.fieldLink RX12 234 "CutCityModel" "token" "I" ∈ wsT := wsT_in (tb_7 (List.mem_of_getElem? (i := 41) (by decide +kernel))) (by decide +kernel)
theorem fl_X12_237 : Cond.fieldLink RX12 237 "CutCityModel" "begin" "I" ∈ wsT := wsT_in (tb_7 (List.mem_of_getElem? (i := 39) (by decide +kernel))) (by decide +kernel)
theorem fl_X12_243 : Cond.fieldLink RX12 243 "CutCityModel" "letter" "I" ∈ wsT := wsT_in (tb_7 (List.mem_of_getElem? (i := 43) (by decide +kernel))) (by decide +kernel)
theorem fl_X12_249 : Cond.fieldLink RX12 249 "CutCityModel" "number" "I" ∈ wsT := wsT_in (tb_7 (List.mem_of_getElem? (i := 42) (by decide +kernel))) (by decide +kernel)
theorem fl_X12_260 : Cond.fieldLink RX12 260 "CutCityModel" "laidAt" "I" ∈ wsT := wsT_in (tb_7 (List.mem_of_getElem? (i := 47) (by decide +kernel))) (by decide +kernel)
theorem fl_X12_263 : Cond.fieldLink RX12 263 "CutCityModel" "laid" "I" ∈ wsT := wsT_in (tb_7 (List.mem_of_getElem? (i := 46) (by decide +kernel))) (by decide +kernel)
theorem fl_X12_428 : Cond.fieldLink RX12 428 "CutCityModel" "waiting" "I" ∈ wsT := wsT_in (tb_7 (List.mem_of_getElem? (i := 65) (by decide +kernel))) (by decide +kernel)
theorem fl_X12_431 : Cond.fieldLink RX12 431 "CutCityModel" "dues" "I" ∈ wsT := wsT_in (tb_7 (List.mem_of_getElem? (i := 67) (by decide +kernel))) (by decide +kernel)
theorem fl_X12_439 : Cond.fieldLink RX12 439 "CutCityModel" "hasImage" "Z" ∈ wsT := wsT_in (tb_7 (List.mem_of_getElem? (i := 32) (by decide +kernel))) (by decide +kernel)
theorem kc_X12_77 : Cond.constant RX12 77 (Int32.ofInt (-1000000005)) ∈ wsT := wsT_in (tb_7 (List.mem_of_getElem? (i := 199) (by decide +kernel))) (by decide +kernel)
theorem kc_X12_102 : Cond.constant RX12 102 (Int32.ofInt (-1000000001)) ∈ wsT := wsT_in (tb_7 (List.mem_of_getElem? (i := 157) (by decide +kernel))) (by decide +kernel)
theorem kc_X12_103 : Cond.constant RX12 103 (Int32.ofInt (-1000000003)) ∈ wsT := wsT_in (tb_7 (List.mem_of_getElem? (i := 158) (by decide +kernel))) (by decide +kernel)
theorem kc_X12_132 : Cond.constant RX12 132 (Int32.ofInt (-1000000002)) ∈ wsT := wsT_in (tb_7 (List.mem_of_getElem? (i := 213) (by decide +kernel))) (by decide +kernel)
theorem kc_X12_161 : Cond.constant RX12 161 (Int32.ofInt (-1000000012)) ∈ wsT := wsT_in (tb_8 (List.mem_of_getElem? (i := 37) (by decide +kernel))) (by decide +kernel)
theorem kc_X12_341 : Cond.constant RX12 341 (Int32.ofInt 1000000) ∈ wsT := wsT_in (tb_9 (List.mem_of_getElem? (i := 55) (by decide +kernel))) (by decide +kernel)
theorem kc_X12_373 : Cond.constant RX12 373 (Int32.ofInt (-1000000014)) ∈ wsT := wsT_in (tb_9 (List.mem_of_getElem? (i := 119) (by decide +kernel))) (by decide +kernel)
theorem kc_X12_374 : Cond.constant RX12 374 (Int32.ofInt (-1000000011)) ∈ wsT := wsT_in (tb_9 (List.mem_of_getElem? (i := 128) (by decide +kernel))) (by decide +kernel)
theorem kc_X12_375 : Cond.constant RX12 375 (Int32.ofInt (-1000000013)) ∈ wsT := wsT_in (tb_9 (List.mem_of_getElem? (i := 129) (by decide +kernel))) (by decide +kernel)
theorem k2_X12_107 : Cond.constantLong RX12 107 (Int64.ofInt 999) ∈ wsT := wsT_in (tb_7 (List.mem_of_getElem? (i := 171) (by decide +kernel))) (by decide +kernel)
theorem k2_X12_109 : Cond.constantLong RX12 109 (Int64.ofInt 9999) ∈ wsT := wsT_in (tb_7 (List.mem_of_getElem? (i := 172) (by decide +kernel))) (by decide +kernel)
theorem k2_X12_115 : Cond.constantLong RX12 115 (Int64.ofInt 99) ∈ wsT := wsT_in (tb_7 (List.mem_of_getElem? (i := 181) (by decide +kernel))) (by decide +kernel)
theorem k2_X12_117 : Cond.constantLong RX12 117 (Int64.ofInt 3) ∈ wsT := wsT_in (tb_7 (List.mem_of_getElem? (i := 182) (by decide +kernel))) (by decide +kernel)
theorem k2_X12_122 : Cond.constantLong RX12 122 (Int64.ofInt 7) ∈ wsT := wsT_in (tb_7 (List.mem_of_getElem? (i := 195) (by decide +kernel))) (by decide +kernel)
theorem k2_X12_127 : Cond.constantLong RX12 127 (Int64.ofInt 2) ∈ wsT := wsT_in (tb_7 (List.mem_of_getElem? (i := 204) (by decide +kernel))) (by decide +kernel)
theorem k2_X12_138 : Cond.constantLong RX12 138 (Int64.ofInt 9) ∈ wsT := wsT_in (tb_7 (List.mem_of_getElem? (i := 235) (by decide +kernel))) (by decide +kernel)
theorem k2_X12_140 : Cond.constantLong RX12 140 (Int64.ofInt 60) ∈ wsT := wsT_in (tb_7 (List.mem_of_getElem? (i := 236) (by decide +kernel))) (by decide +kernel)
theorem k2_X12_142 : Cond.constantLong RX12 142 (Int64.ofInt 5) ∈ wsT := wsT_in (tb_7 (List.mem_of_getElem? (i := 230) (by decide +kernel))) (by decide +kernel)
theorem k2_X12_162 : Cond.constantLong RX12 162 (Int64.ofInt 23) ∈ wsT := wsT_in (tb_8 (List.mem_of_getElem? (i := 46) (by decide +kernel))) (by decide +kernel)
theorem k2_X12_215 : Cond.constantLong RX12 215 (Int64.ofInt 100) ∈ wsT := wsT_in (tb_8 (List.mem_of_getElem? (i := 125) (by decide +kernel))) (by decide +kernel)
theorem k2_X12_223 : Cond.constantLong RX12 223 (Int64.ofInt 97) ∈ wsT := wsT_in (tb_8 (List.mem_of_getElem? (i := 187) (by decide +kernel))) (by decide +kernel)
theorem k2_X12_225 : Cond.constantLong RX12 225 (Int64.ofInt 122) ∈ wsT := wsT_in (tb_8 (List.mem_of_getElem? (i := 188) (by decide +kernel))) (by decide +kernel)
theorem k2_X12_227 : Cond.constantLong RX12 227 (Int64.ofInt 48) ∈ wsT := wsT_in (tb_8 (List.mem_of_getElem? (i := 193) (by decide +kernel))) (by decide +kernel)
theorem k2_X12_229 : Cond.constantLong RX12 229 (Int64.ofInt 57) ∈ wsT := wsT_in (tb_8 (List.mem_of_getElem? (i := 194) (by decide +kernel))) (by decide +kernel)
theorem k2_X12_319 : Cond.constantLong RX12 319 (Int64.ofInt 4) ∈ wsT := wsT_in (tb_9 (List.mem_of_getElem? (i := 10) (by decide +kernel))) (by decide +kernel)
theorem k2_X12_348 : Cond.constantLong RX12 348 (Int64.ofInt 59) ∈ wsT := wsT_in (tb_9 (List.mem_of_getElem? (i := 72) (by decide +kernel))) (by decide +kernel)
theorem k2_X12_371 : Cond.constantLong RX12 371 (Int64.ofInt (-1)) ∈ wsT := wsT_in (tb_9 (List.mem_of_getElem? (i := 118) (by decide +kernel))) (by decide +kernel)
theorem k2_X12_379 : Cond.constantLong RX12 379 (Int64.ofInt (-100000)) ∈ wsT := wsT_in (tb_9 (List.mem_of_getElem? (i := 134) (by decide +kernel))) (by decide +kernel)
theorem k2_X12_381 : Cond.constantLong RX12 381 (Int64.ofInt 100000) ∈ wsT := wsT_in (tb_9 (List.mem_of_getElem? (i := 135) (by decide +kernel))) (by decide +kernel)
theorem k2_X12_383 : Cond.constantLong RX12 383 (Int64.ofInt 29) ∈ wsT := wsT_in (tb_9 (List.mem_of_getElem? (i := 144) (by decide +kernel))) (by decide +kernel)
theorem k2_X12_391 : Cond.constantLong RX12 391 (Int64.ofInt 12) ∈ wsT := wsT_in (tb_9 (List.mem_of_getElem? (i := 169) (by decide +kernel))) (by decide +kernel)
theorem k2_X12_396 : Cond.constantLong RX12 396 (Int64.ofInt 255) ∈ wsT := wsT_in (tb_9 (List.mem_of_getElem? (i := 174) (by decide +kernel))) (by decide +kernel)
theorem k2_X12_401 : Cond.constantLong RX12 401 (Int64.ofInt 8) ∈ wsT := wsT_in (tb_9 (List.mem_of_getElem? (i := 187) (by decide +kernel))) (by decide +kernel)
theorem k2_X12_406 : Cond.constantLong RX12 406 (Int64.ofInt (-99)) ∈ wsT := wsT_in (tb_9 (List.mem_of_getElem? (i := 195) (by decide +kernel))) (by decide +kernel)
theorem k2_X12_437 : Cond.constantLong RX12 437 (Int64.ofInt 24) ∈ wsT := wsT_in (tb_9 (List.mem_of_getElem? (i := 234) (by decide +kernel))) (by decide +kernel)
theorem ml_X12_78 : Cond.methodLink RX12 78 yX12_isIn ∈ wsT := wsT_in (tb_7 (List.mem_of_getElem? (i := 154) (by decide +kernel))) (by decide +kernel)
theorem ml_X12_82 : Cond.methodLink RX12 82 yX12_isTie ∈ wsT := wsT_in (tb_8 (List.mem_of_getElem? (i := 17) (by decide +kernel))) (by decide +kernel)
theorem ml_X12_86 : Cond.methodLink RX12 86 yX12_tieAt ∈ wsT := wsT_in (tb_8 (List.mem_of_getElem? (i := 1) (by decide +kernel))) (by decide +kernel)
theorem ml_X12_90 : Cond.methodLink RX12 90 yX12_cellAt ∈ wsT := wsT_in (tb_7 (List.mem_of_getElem? (i := 159) (by decide +kernel))) (by decide +kernel)
theorem ml_X12_93 : Cond.methodLink RX12 93 yX12_personAt ∈ wsT := wsT_in (tb_7 (List.mem_of_getElem? (i := 183) (by decide +kernel))) (by decide +kernel)
theorem ml_X12_96 : Cond.methodLink RX12 96 yX12_sideOf ∈ wsT := wsT_in (tb_7 (List.mem_of_getElem? (i := 222) (by decide +kernel))) (by decide +kernel)
theorem ml_X12_99 : Cond.methodLink RX12 99 yX12_isSide ∈ wsT := wsT_in (tb_7 (List.mem_of_getElem? (i := 151) (by decide +kernel))) (by decide +kernel)
theorem ml_X12_104 : Cond.methodLink RX12 104 yX12_isCell ∈ wsT := wsT_in (tb_7 (List.mem_of_getElem? (i := 167) (by decide +kernel))) (by decide +kernel)
theorem ml_X12_111 : Cond.methodLink RX12 111 yX12_becomes ∈ wsT := wsT_in (tb_7 (List.mem_of_getElem? (i := 173) (by decide +kernel))) (by decide +kernel)
theorem ml_X12_119 : Cond.methodLink RX12 119 yX12_isPerson ∈ wsT := wsT_in (tb_7 (List.mem_of_getElem? (i := 191) (by decide +kernel))) (by decide +kernel)
theorem ml_X12_124 : Cond.methodLink RX12 124 yX12_orNone ∈ wsT := wsT_in (tb_7 (List.mem_of_getElem? (i := 196) (by decide +kernel))) (by decide +kernel)
theorem ml_X12_129 : Cond.methodLink RX12 129 yX12_isDead ∈ wsT := wsT_in (tb_7 (List.mem_of_getElem? (i := 209) (by decide +kernel))) (by decide +kernel)
theorem ml_X12_133 : Cond.methodLink RX12 133 yX12_waits ∈ wsT := wsT_in (tb_7 (List.mem_of_getElem? (i := 214) (by decide +kernel))) (by decide +kernel)
theorem ml_X12_135 : Cond.methodLink RX12 135 yX12_ownSide ∈ wsT := wsT_in (tb_7 (List.mem_of_getElem? (i := 218) (by decide +kernel))) (by decide +kernel)
theorem ml_X12_144 : Cond.methodLink RX12 144 yX12_fits ∈ wsT := wsT_in (tb_7 (List.mem_of_getElem? (i := 231) (by decide +kernel))) (by decide +kernel)
theorem ml_X12_148 : Cond.methodLink RX12 148 yX12_newTie ∈ wsT := wsT_in (tb_7 (List.mem_of_getElem? (i := 237) (by decide +kernel))) (by decide +kernel)
theorem ml_X12_152 : Cond.methodLink RX12 152 yX12_isOf ∈ wsT := wsT_in (tb_8 (List.mem_of_getElem? (i := 13) (by decide +kernel))) (by decide +kernel)
theorem ml_X12_155 : Cond.methodLink RX12 155 yX12_waiting0 ∈ wsT := wsT_in (tb_8 (List.mem_of_getElem? (i := 25) (by decide +kernel))) (by decide +kernel)
theorem ml_X12_158 : Cond.methodLink RX12 158 yX12_calls ∈ wsT := wsT_in (tb_8 (List.mem_of_getElem? (i := 29) (by decide +kernel))) (by decide +kernel)
theorem ml_X12_164 : Cond.methodLink RX12 164 yX12_least ∈ wsT := wsT_in (tb_8 (List.mem_of_getElem? (i := 55) (by decide +kernel))) (by decide +kernel)
theorem ml_X12_167 : Cond.methodLink RX12 167 yX12_findKin ∈ wsT := wsT_in (tb_8 (List.mem_of_getElem? (i := 51) (by decide +kernel))) (by decide +kernel)
theorem ml_X12_170 : Cond.methodLink RX12 170 yX12_kinOf ∈ wsT := wsT_in (tb_8 (List.mem_of_getElem? (i := 58) (by decide +kernel))) (by decide +kernel)
theorem ml_X12_173 : Cond.methodLink RX12 173 yX12_goesHome ∈ wsT := wsT_in (tb_8 (List.mem_of_getElem? (i := 70) (by decide +kernel))) (by decide +kernel)
theorem ml_X12_177 : Cond.methodLink RX12 177 yX12_sendHome ∈ wsT := wsT_in (tb_8 (List.mem_of_getElem? (i := 66) (by decide +kernel))) (by decide +kernel)
theorem ml_X12_180 : Cond.methodLink RX12 180 yX12_day ∈ wsT := wsT_in (tb_8 (List.mem_of_getElem? (i := 82) (by decide +kernel))) (by decide +kernel)
theorem ml_X12_184 : Cond.methodLink RX12 184 yX12_mayCross ∈ wsT := wsT_in (tb_8 (List.mem_of_getElem? (i := 86) (by decide +kernel))) (by decide +kernel)
theorem ml_X12_187 : Cond.methodLink RX12 187 yX12_reason ∈ wsT := wsT_in (tb_8 (List.mem_of_getElem? (i := 78) (by decide +kernel))) (by decide +kernel)
theorem ml_X12_190 : Cond.methodLink RX12 190 yX12_firstAt ∈ wsT := wsT_in (tb_8 (List.mem_of_getElem? (i := 142) (by decide +kernel))) (by decide +kernel)
theorem ml_X12_193 : Cond.methodLink RX12 193 yX12_crosses ∈ wsT := wsT_in (tb_8 (List.mem_of_getElem? (i := 146) (by decide +kernel))) (by decide +kernel)
theorem ml_X12_197 : Cond.methodLink RX12 197 yX12_nextCall ∈ wsT := wsT_in (tb_8 (List.mem_of_getElem? (i := 158) (by decide +kernel))) (by decide +kernel)
theorem ml_X12_200 : Cond.methodLink RX12 200 yX12_come ∈ wsT := wsT_in (tb_8 (List.mem_of_getElem? (i := 130) (by decide +kernel))) (by decide +kernel)
theorem ml_X12_203 : Cond.methodLink RX12 203 yX12_isOpenNow ∈ wsT := wsT_in (tb_8 (List.mem_of_getElem? (i := 134) (by decide +kernel))) (by decide +kernel)
theorem ml_X12_206 : Cond.methodLink RX12 206 yX12_lets ∈ wsT := wsT_in (tb_8 (List.mem_of_getElem? (i := 138) (by decide +kernel))) (by decide +kernel)
theorem ml_X12_209 : Cond.methodLink RX12 209 yX12_returns ∈ wsT := wsT_in (tb_8 (List.mem_of_getElem? (i := 150) (by decide +kernel))) (by decide +kernel)
theorem ml_X12_212 : Cond.methodLink RX12 212 yX12_speaks ∈ wsT := wsT_in (tb_8 (List.mem_of_getElem? (i := 154) (by decide +kernel))) (by decide +kernel)
theorem ml_X12_217 : Cond.methodLink RX12 217 yX12_hour ∈ wsT := wsT_in (tb_8 (List.mem_of_getElem? (i := 126) (by decide +kernel))) (by decide +kernel)
theorem ml_X12_240 : Cond.methodLink RX12 240 yX12_isLetter ∈ wsT := wsT_in (tb_8 (List.mem_of_getElem? (i := 183) (by decide +kernel))) (by decide +kernel)
theorem ml_X12_246 : Cond.methodLink RX12 246 yX12_isDigit ∈ wsT := wsT_in (tb_8 (List.mem_of_getElem? (i := 189) (by decide +kernel))) (by decide +kernel)
theorem ml_X12_252 : Cond.methodLink RX12 252 yX12_isWordAt ∈ wsT := wsT_in (tb_8 (List.mem_of_getElem? (i := 199) (by decide +kernel))) (by decide +kernel)
theorem ml_X12_256 : Cond.methodLink RX12 256 yX12_isPay ∈ wsT := wsT_in (tb_8 (List.mem_of_getElem? (i := 203) (by decide +kernel))) (by decide +kernel)
theorem ml_X12_305 : Cond.methodLink RX12 305 yX12_textAt ∈ wsT := wsT_in (tb_8 (List.mem_of_getElem? (i := 98) (by decide +kernel))) (by decide +kernel)
theorem ml_X12_316 : Cond.methodLink RX12 316 yX12_isText ∈ wsT := wsT_in (tb_9 (List.mem_of_getElem? (i := 6) (by decide +kernel))) (by decide +kernel)
theorem ml_X12_321 : Cond.methodLink RX12 321 yX12_countsFor ∈ wsT := wsT_in (tb_8 (List.mem_of_getElem? (i := 94) (by decide +kernel))) (by decide +kernel)
theorem ml_X12_324 : Cond.methodLink RX12 324 yX12_joined ∈ wsT := wsT_in (tb_8 (List.mem_of_getElem? (i := 106) (by decide +kernel))) (by decide +kernel)
theorem ml_X12_328 : Cond.methodLink RX12 328 yX12_worked ∈ wsT := wsT_in (tb_8 (List.mem_of_getElem? (i := 102) (by decide +kernel))) (by decide +kernel)
theorem ml_X12_331 : Cond.methodLink RX12 331 yX12_letsVisit ∈ wsT := wsT_in (tb_8 (List.mem_of_getElem? (i := 90) (by decide +kernel))) (by decide +kernel)
theorem ml_X12_335 : Cond.methodLink RX12 335 yX12_visitsOf ∈ wsT := wsT_in (tb_9 (List.mem_of_getElem? (i := 31) (by decide +kernel))) (by decide +kernel)
theorem ml_X12_338 : Cond.methodLink RX12 338 yX12_findWay ∈ wsT := wsT_in (tb_9 (List.mem_of_getElem? (i := 51) (by decide +kernel))) (by decide +kernel)
theorem ml_X12_342 : Cond.methodLink RX12 342 yX12_flowOf ∈ wsT := wsT_in (tb_9 (List.mem_of_getElem? (i := 47) (by decide +kernel))) (by decide +kernel)
theorem ml_X12_345 : Cond.methodLink RX12 345 yX12_lackOf ∈ wsT := wsT_in (tb_9 (List.mem_of_getElem? (i := 60) (by decide +kernel))) (by decide +kernel)
theorem ml_X12_350 : Cond.methodLink RX12 350 yX12_halts ∈ wsT := wsT_in (tb_9 (List.mem_of_getElem? (i := 77) (by decide +kernel))) (by decide +kernel)
theorem ml_X12_353 : Cond.methodLink RX12 353 yX12_figure ∈ wsT := wsT_in (tb_9 (List.mem_of_getElem? (i := 99) (by decide +kernel))) (by decide +kernel)
theorem ml_X12_356 : Cond.methodLink RX12 356 yX12_size ∈ wsT := wsT_in (tb_9 (List.mem_of_getElem? (i := 93) (by decide +kernel))) (by decide +kernel)
theorem ml_X12_359 : Cond.methodLink RX12 359 yX12_isNear ∈ wsT := wsT_in (tb_9 (List.mem_of_getElem? (i := 96) (by decide +kernel))) (by decide +kernel)
theorem ml_X12_362 : Cond.methodLink RX12 362 yX12_alikeOf ∈ wsT := wsT_in (tb_9 (List.mem_of_getElem? (i := 89) (by decide +kernel))) (by decide +kernel)
theorem ml_X12_365 : Cond.methodLink RX12 365 yX12_pairWorth ∈ wsT := wsT_in (tb_9 (List.mem_of_getElem? (i := 110) (by decide +kernel))) (by decide +kernel)
theorem ml_X12_368 : Cond.methodLink RX12 368 yX12_findPairs ∈ wsT := wsT_in (tb_9 (List.mem_of_getElem? (i := 106) (by decide +kernel))) (by decide +kernel)
theorem ml_X12_376 : Cond.methodLink RX12 376 yX12_readOf ∈ wsT := wsT_in (tb_9 (List.mem_of_getElem? (i := 124) (by decide +kernel))) (by decide +kernel)
theorem ml_X12_385 : Cond.methodLink RX12 385 yX12_mayCount ∈ wsT := wsT_in (tb_9 (List.mem_of_getElem? (i := 149) (by decide +kernel))) (by decide +kernel)
theorem ml_X12_388 : Cond.methodLink RX12 388 yX12_owedOf ∈ wsT := wsT_in (tb_9 (List.mem_of_getElem? (i := 153) (by decide +kernel))) (by decide +kernel)
theorem ml_X12_393 : Cond.methodLink RX12 393 yX12_openFor ∈ wsT := wsT_in (tb_9 (List.mem_of_getElem? (i := 179) (by decide +kernel))) (by decide +kernel)
theorem ml_X12_398 : Cond.methodLink RX12 398 yX12_waitingOf ∈ wsT := wsT_in (tb_9 (List.mem_of_getElem? (i := 175) (by decide +kernel))) (by decide +kernel)
theorem ml_X12_403 : Cond.methodLink RX12 403 yX12_ones ∈ wsT := wsT_in (tb_9 (List.mem_of_getElem? (i := 188) (by decide +kernel))) (by decide +kernel)
theorem ml_X12_434 : Cond.methodLink RX12 434 yX12_dueIs ∈ wsT := wsT_in (tb_9 (List.mem_of_getElem? (i := 226) (by decide +kernel))) (by decide +kernel)
theorem ml_X12_442 : Cond.methodLink RX12 442 yX12_waiters ∈ wsT := wsT_in (tb_9 (List.mem_of_getElem? (i := 235) (by decide +kernel))) (by decide +kernel)
theorem ml_X12_445 : Cond.methodLink RX12 445 yX12_away ∈ wsT := wsT_in (tb_9 (List.mem_of_getElem? (i := 239) (by decide +kernel))) (by decide +kernel)
theorem cal_X12_alikeOf : Cal yX12_alikeOf cX12_alikeOf 5 (some .int) 2 := ⟨wsT_in (tb_9 (List.mem_of_getElem? (i := 92) (by decide +kernel))) (by decide +kernel), wsT_in (tb_1 (List.mem_of_getElem? (i := 13) (by decide +kernel))) (by decide +kernel), by decide, by decide, by decide +kernel⟩
theorem cv_X12_alikeOf : CalV yX12_alikeOf RX12 := ⟨wsT_in (tb_9 (List.mem_of_getElem? (i := 91) (by decide +kernel))) (by decide +kernel), wsT_in (List.mem_append_left _ (List.mem_of_getElem? (i := 98) (by decide +kernel))) (by decide +kernel)⟩
theorem cal_X12_away : Cal yX12_away cX12_away 3 (some .int) 0 := ⟨wsT_in (tb_10 (List.mem_of_getElem? (i := 2) (by decide +kernel))) (by decide +kernel), wsT_in (tb_1 (List.mem_of_getElem? (i := 13) (by decide +kernel))) (by decide +kernel), by decide, by decide, by decide +kernel⟩
theorem cv_X12_away : CalV yX12_away RX12 := ⟨wsT_in (tb_10 (List.mem_of_getElem? (i := 1) (by decide +kernel))) (by decide +kernel), wsT_in (List.mem_append_left _ (List.mem_of_getElem? (i := 112) (by decide +kernel))) (by decide +kernel)⟩
theorem cal_X12_becomes : Cal yX12_becomes cX12_becomes 4 (some .int) 2 := ⟨wsT_in (tb_7 (List.mem_of_getElem? (i := 176) (by decide +kernel))) (by decide +kernel), wsT_in (tb_1 (List.mem_of_getElem? (i := 13) (by decide +kernel))) (by decide +kernel), by decide, by decide, by decide +kernel⟩
theorem cv_X12_becomes : CalV yX12_becomes RX12 := ⟨wsT_in (tb_7 (List.mem_of_getElem? (i := 175) (by decide +kernel))) (by decide +kernel), wsT_in (List.mem_append_left _ (List.mem_of_getElem? (i := 43) (by decide +kernel))) (by decide +kernel)⟩
theorem cal_X12_calls : Cal yX12_calls cX12_calls 4 (some .int) 1 := ⟨wsT_in (tb_8 (List.mem_of_getElem? (i := 32) (by decide +kernel))) (by decide +kernel), wsT_in (tb_1 (List.mem_of_getElem? (i := 13) (by decide +kernel))) (by decide +kernel), by decide, by decide, by decide +kernel⟩
theorem cv_X12_calls : CalV yX12_calls RX12 := ⟨wsT_in (tb_8 (List.mem_of_getElem? (i := 31) (by decide +kernel))) (by decide +kernel), wsT_in (List.mem_append_left _ (List.mem_of_getElem? (i := 56) (by decide +kernel))) (by decide +kernel)⟩
theorem cal_X12_cellAt : Cal yX12_cellAt cX12_cellAt 2 (some .int) 1 := ⟨wsT_in (tb_7 (List.mem_of_getElem? (i := 162) (by decide +kernel))) (by decide +kernel), wsT_in (tb_1 (List.mem_of_getElem? (i := 13) (by decide +kernel))) (by decide +kernel), by decide, by decide, by decide +kernel⟩
theorem cv_X12_cellAt : CalV yX12_cellAt RX12 := ⟨wsT_in (tb_7 (List.mem_of_getElem? (i := 161) (by decide +kernel))) (by decide +kernel), wsT_in (List.mem_append_left _ (List.mem_of_getElem? (i := 41) (by decide +kernel))) (by decide +kernel)⟩
theorem cal_X12_come : Cal yX12_come cX12_come 5 none 0 := ⟨wsT_in (tb_8 (List.mem_of_getElem? (i := 133) (by decide +kernel))) (by decide +kernel), wsT_in (tb_1 (List.mem_of_getElem? (i := 13) (by decide +kernel))) (by decide +kernel), by decide, by decide, by decide +kernel⟩
theorem cv_X12_come : CalV yX12_come RX12 := ⟨wsT_in (tb_8 (List.mem_of_getElem? (i := 132) (by decide +kernel))) (by decide +kernel), wsT_in (List.mem_append_left _ (List.mem_of_getElem? (i := 69) (by decide +kernel))) (by decide +kernel)⟩
theorem cal_X12_countsFor : Cal yX12_countsFor cX12_countsFor 7 (some .int) 2 := ⟨wsT_in (tb_8 (List.mem_of_getElem? (i := 97) (by decide +kernel))) (by decide +kernel), wsT_in (tb_1 (List.mem_of_getElem? (i := 13) (by decide +kernel))) (by decide +kernel), by decide, by decide, by decide +kernel⟩
theorem cv_X12_countsFor : CalV yX12_countsFor RX12 := ⟨wsT_in (tb_8 (List.mem_of_getElem? (i := 96) (by decide +kernel))) (by decide +kernel), wsT_in (List.mem_append_left _ (List.mem_of_getElem? (i := 65) (by decide +kernel))) (by decide +kernel)⟩
theorem cal_X12_crosses : Cal yX12_crosses cX12_crosses 8 none 2 := ⟨wsT_in (tb_8 (List.mem_of_getElem? (i := 149) (by decide +kernel))) (by decide +kernel), wsT_in (tb_1 (List.mem_of_getElem? (i := 13) (by decide +kernel))) (by decide +kernel), by decide, by decide, by decide +kernel⟩
theorem cv_X12_crosses : CalV yX12_crosses RX12 := ⟨wsT_in (tb_8 (List.mem_of_getElem? (i := 148) (by decide +kernel))) (by decide +kernel), wsT_in (List.mem_append_left _ (List.mem_of_getElem? (i := 73) (by decide +kernel))) (by decide +kernel)⟩
theorem cal_X12_day : Cal yX12_day cX12_day 1 (some .int) 0 := ⟨wsT_in (tb_8 (List.mem_of_getElem? (i := 85) (by decide +kernel))) (by decide +kernel), wsT_in (tb_1 (List.mem_of_getElem? (i := 13) (by decide +kernel))) (by decide +kernel), by decide, by decide, by decide +kernel⟩
theorem cv_X12_day : CalV yX12_day RX12 := ⟨wsT_in (tb_8 (List.mem_of_getElem? (i := 84) (by decide +kernel))) (by decide +kernel), wsT_in (List.mem_append_left _ (List.mem_of_getElem? (i := 62) (by decide +kernel))) (by decide +kernel)⟩
theorem cal_X12_dueIs : Cal yX12_dueIs cX12_dueIs 3 none 2 := ⟨wsT_in (tb_9 (List.mem_of_getElem? (i := 229) (by decide +kernel))) (by decide +kernel), wsT_in (tb_1 (List.mem_of_getElem? (i := 13) (by decide +kernel))) (by decide +kernel), by decide, by decide, by decide +kernel⟩
theorem cv_X12_dueIs : CalV yX12_dueIs RX12 := ⟨wsT_in (tb_9 (List.mem_of_getElem? (i := 228) (by decide +kernel))) (by decide +kernel), wsT_in (List.mem_append_left _ (List.mem_of_getElem? (i := 109) (by decide +kernel))) (by decide +kernel)⟩
theorem cal_X12_figure : Cal yX12_figure cX12_figure 2 (some .int) 2 := ⟨wsT_in (tb_9 (List.mem_of_getElem? (i := 101) (by decide +kernel))) (by decide +kernel), wsT_in (tb_1 (List.mem_of_getElem? (i := 13) (by decide +kernel))) (by decide +kernel), by decide, by decide, by decide +kernel⟩
theorem st_X12_figure : Cond.static yX12_figure ∈ wsT := wsT_in (tb_9 (List.mem_of_getElem? (i := 100) (by decide +kernel))) (by decide +kernel)
theorem cal_X12_findKin : Cal yX12_findKin cX12_findKin 5 none 0 := ⟨wsT_in (tb_8 (List.mem_of_getElem? (i := 54) (by decide +kernel))) (by decide +kernel), wsT_in (tb_1 (List.mem_of_getElem? (i := 13) (by decide +kernel))) (by decide +kernel), by decide, by decide, by decide +kernel⟩
theorem cv_X12_findKin : CalV yX12_findKin RX12 := ⟨wsT_in (tb_8 (List.mem_of_getElem? (i := 53) (by decide +kernel))) (by decide +kernel), wsT_in (List.mem_append_left _ (List.mem_of_getElem? (i := 57) (by decide +kernel))) (by decide +kernel)⟩
theorem cal_X12_findPairs : Cal yX12_findPairs cX12_findPairs 8 (some .int) 0 := ⟨wsT_in (tb_9 (List.mem_of_getElem? (i := 109) (by decide +kernel))) (by decide +kernel), wsT_in (tb_1 (List.mem_of_getElem? (i := 13) (by decide +kernel))) (by decide +kernel), by decide, by decide, by decide +kernel⟩
theorem cv_X12_findPairs : CalV yX12_findPairs RX12 := ⟨wsT_in (tb_9 (List.mem_of_getElem? (i := 108) (by decide +kernel))) (by decide +kernel), wsT_in (List.mem_append_left _ (List.mem_of_getElem? (i := 99) (by decide +kernel))) (by decide +kernel)⟩
theorem cal_X12_findWay : Cal yX12_findWay cX12_findWay 4 (some .boolean) 0 := ⟨wsT_in (tb_9 (List.mem_of_getElem? (i := 54) (by decide +kernel))) (by decide +kernel), wsT_in (tb_1 (List.mem_of_getElem? (i := 13) (by decide +kernel))) (by decide +kernel), by decide, by decide, by decide +kernel⟩
theorem cv_X12_findWay : CalV yX12_findWay RX12 := ⟨wsT_in (tb_9 (List.mem_of_getElem? (i := 53) (by decide +kernel))) (by decide +kernel), wsT_in (List.mem_append_left _ (List.mem_of_getElem? (i := 95) (by decide +kernel))) (by decide +kernel)⟩
theorem cal_X12_firstAt : Cal yX12_firstAt cX12_firstAt 4 (some .int) 1 := ⟨wsT_in (tb_8 (List.mem_of_getElem? (i := 145) (by decide +kernel))) (by decide +kernel), wsT_in (tb_1 (List.mem_of_getElem? (i := 13) (by decide +kernel))) (by decide +kernel), by decide, by decide, by decide +kernel⟩
theorem cv_X12_firstAt : CalV yX12_firstAt RX12 := ⟨wsT_in (tb_8 (List.mem_of_getElem? (i := 144) (by decide +kernel))) (by decide +kernel), wsT_in (List.mem_append_left _ (List.mem_of_getElem? (i := 72) (by decide +kernel))) (by decide +kernel)⟩
theorem cal_X12_fits : Cal yX12_fits cX12_fits 3 (some .boolean) 2 := ⟨wsT_in (tb_7 (List.mem_of_getElem? (i := 234) (by decide +kernel))) (by decide +kernel), wsT_in (tb_1 (List.mem_of_getElem? (i := 13) (by decide +kernel))) (by decide +kernel), by decide, by decide, by decide +kernel⟩
theorem cv_X12_fits : CalV yX12_fits RX12 := ⟨wsT_in (tb_7 (List.mem_of_getElem? (i := 233) (by decide +kernel))) (by decide +kernel), wsT_in (List.mem_append_left _ (List.mem_of_getElem? (i := 50) (by decide +kernel))) (by decide +kernel)⟩
theorem cal_X12_flowOf : Cal yX12_flowOf cX12_flowOf 6 (some .int) 2 := ⟨wsT_in (tb_9 (List.mem_of_getElem? (i := 50) (by decide +kernel))) (by decide +kernel), wsT_in (tb_1 (List.mem_of_getElem? (i := 13) (by decide +kernel))) (by decide +kernel), by decide, by decide, by decide +kernel⟩
theorem cv_X12_flowOf : CalV yX12_flowOf RX12 := ⟨wsT_in (tb_9 (List.mem_of_getElem? (i := 49) (by decide +kernel))) (by decide +kernel), wsT_in (List.mem_append_left _ (List.mem_of_getElem? (i := 94) (by decide +kernel))) (by decide +kernel)⟩
theorem cal_X12_goesHome : Cal yX12_goesHome cX12_goesHome 2 none 1 := ⟨wsT_in (tb_8 (List.mem_of_getElem? (i := 73) (by decide +kernel))) (by decide +kernel), wsT_in (tb_1 (List.mem_of_getElem? (i := 13) (by decide +kernel))) (by decide +kernel), by decide, by decide, by decide +kernel⟩
theorem cv_X12_goesHome : CalV yX12_goesHome RX12 := ⟨wsT_in (tb_8 (List.mem_of_getElem? (i := 72) (by decide +kernel))) (by decide +kernel), wsT_in (List.mem_append_left _ (List.mem_of_getElem? (i := 60) (by decide +kernel))) (by decide +kernel)⟩
theorem cal_X12_halts : Cal yX12_halts cX12_halts 5 (some .boolean) 3 := ⟨wsT_in (tb_9 (List.mem_of_getElem? (i := 80) (by decide +kernel))) (by decide +kernel), wsT_in (tb_1 (List.mem_of_getElem? (i := 13) (by decide +kernel))) (by decide +kernel), by decide, by decide, by decide +kernel⟩
theorem cv_X12_halts : CalV yX12_halts RX12 := ⟨wsT_in (tb_9 (List.mem_of_getElem? (i := 79) (by decide +kernel))) (by decide +kernel), wsT_in (List.mem_append_left _ (List.mem_of_getElem? (i := 97) (by decide +kernel))) (by decide +kernel)⟩
theorem cal_X12_hour : Cal yX12_hour cX12_hour 2 none 0 := ⟨wsT_in (tb_8 (List.mem_of_getElem? (i := 129) (by decide +kernel))) (by decide +kernel), wsT_in (tb_1 (List.mem_of_getElem? (i := 13) (by decide +kernel))) (by decide +kernel), by decide, by decide, by decide +kernel⟩
theorem cv_X12_hour : CalV yX12_hour RX12 := ⟨wsT_in (tb_8 (List.mem_of_getElem? (i := 128) (by decide +kernel))) (by decide +kernel), wsT_in (List.mem_append_left _ (List.mem_of_getElem? (i := 68) (by decide +kernel))) (by decide +kernel)⟩
theorem cal_X12_isCell : Cal yX12_isCell cX12_isCell 2 (some .boolean) 1 := ⟨wsT_in (tb_7 (List.mem_of_getElem? (i := 170) (by decide +kernel))) (by decide +kernel), wsT_in (tb_1 (List.mem_of_getElem? (i := 13) (by decide +kernel))) (by decide +kernel), by decide, by decide, by decide +kernel⟩
theorem cv_X12_isCell : CalV yX12_isCell RX12 := ⟨wsT_in (tb_7 (List.mem_of_getElem? (i := 169) (by decide +kernel))) (by decide +kernel), wsT_in (List.mem_append_left _ (List.mem_of_getElem? (i := 42) (by decide +kernel))) (by decide +kernel)⟩
theorem cal_X12_isDead : Cal yX12_isDead cX12_isDead 2 (some .boolean) 1 := ⟨wsT_in (tb_7 (List.mem_of_getElem? (i := 212) (by decide +kernel))) (by decide +kernel), wsT_in (tb_1 (List.mem_of_getElem? (i := 13) (by decide +kernel))) (by decide +kernel), by decide, by decide, by decide +kernel⟩
theorem cv_X12_isDead : CalV yX12_isDead RX12 := ⟨wsT_in (tb_7 (List.mem_of_getElem? (i := 211) (by decide +kernel))) (by decide +kernel), wsT_in (List.mem_append_left _ (List.mem_of_getElem? (i := 46) (by decide +kernel))) (by decide +kernel)⟩
theorem cal_X12_isDigit : Cal yX12_isDigit cX12_isDigit 2 (some .boolean) 1 := ⟨wsT_in (tb_8 (List.mem_of_getElem? (i := 192) (by decide +kernel))) (by decide +kernel), wsT_in (tb_1 (List.mem_of_getElem? (i := 13) (by decide +kernel))) (by decide +kernel), by decide, by decide, by decide +kernel⟩
theorem cv_X12_isDigit : CalV yX12_isDigit RX12 := ⟨wsT_in (tb_8 (List.mem_of_getElem? (i := 191) (by decide +kernel))) (by decide +kernel), wsT_in (List.mem_append_left _ (List.mem_of_getElem? (i := 80) (by decide +kernel))) (by decide +kernel)⟩
theorem cal_X12_isIn : Cal yX12_isIn cX12_isIn 6 (some .boolean) 3 := ⟨wsT_in (tb_7 (List.mem_of_getElem? (i := 156) (by decide +kernel))) (by decide +kernel), wsT_in (tb_1 (List.mem_of_getElem? (i := 13) (by decide +kernel))) (by decide +kernel), by decide, by decide, by decide +kernel⟩
theorem st_X12_isIn : Cond.static yX12_isIn ∈ wsT := wsT_in (tb_7 (List.mem_of_getElem? (i := 155) (by decide +kernel))) (by decide +kernel)
theorem cal_X12_isLetter : Cal yX12_isLetter cX12_isLetter 2 (some .boolean) 1 := ⟨wsT_in (tb_8 (List.mem_of_getElem? (i := 186) (by decide +kernel))) (by decide +kernel), wsT_in (tb_1 (List.mem_of_getElem? (i := 13) (by decide +kernel))) (by decide +kernel), by decide, by decide, by decide +kernel⟩
theorem cv_X12_isLetter : CalV yX12_isLetter RX12 := ⟨wsT_in (tb_8 (List.mem_of_getElem? (i := 185) (by decide +kernel))) (by decide +kernel), wsT_in (List.mem_append_left _ (List.mem_of_getElem? (i := 79) (by decide +kernel))) (by decide +kernel)⟩
theorem cal_X12_isNear : Cal yX12_isNear cX12_isNear 5 (some .boolean) 2 := ⟨wsT_in (tb_9 (List.mem_of_getElem? (i := 98) (by decide +kernel))) (by decide +kernel), wsT_in (tb_1 (List.mem_of_getElem? (i := 13) (by decide +kernel))) (by decide +kernel), by decide, by decide, by decide +kernel⟩
theorem st_X12_isNear : Cond.static yX12_isNear ∈ wsT := wsT_in (tb_9 (List.mem_of_getElem? (i := 97) (by decide +kernel))) (by decide +kernel)
theorem cal_X12_isOf : Cal yX12_isOf cX12_isOf 3 (some .boolean) 2 := ⟨wsT_in (tb_8 (List.mem_of_getElem? (i := 16) (by decide +kernel))) (by decide +kernel), wsT_in (tb_1 (List.mem_of_getElem? (i := 13) (by decide +kernel))) (by decide +kernel), by decide, by decide, by decide +kernel⟩
theorem cv_X12_isOf : CalV yX12_isOf RX12 := ⟨wsT_in (tb_8 (List.mem_of_getElem? (i := 15) (by decide +kernel))) (by decide +kernel), wsT_in (List.mem_append_left _ (List.mem_of_getElem? (i := 53) (by decide +kernel))) (by decide +kernel)⟩
theorem cal_X12_isOpenNow : Cal yX12_isOpenNow cX12_isOpenNow 5 (some .boolean) 1 := ⟨wsT_in (tb_8 (List.mem_of_getElem? (i := 137) (by decide +kernel))) (by decide +kernel), wsT_in (tb_1 (List.mem_of_getElem? (i := 13) (by decide +kernel))) (by decide +kernel), by decide, by decide, by decide +kernel⟩
theorem cv_X12_isOpenNow : CalV yX12_isOpenNow RX12 := ⟨wsT_in (tb_8 (List.mem_of_getElem? (i := 136) (by decide +kernel))) (by decide +kernel), wsT_in (List.mem_append_left _ (List.mem_of_getElem? (i := 70) (by decide +kernel))) (by decide +kernel)⟩
theorem cal_X12_isPay : Cal yX12_isPay cX12_isPay 1 (some .boolean) 0 := ⟨wsT_in (tb_8 (List.mem_of_getElem? (i := 206) (by decide +kernel))) (by decide +kernel), wsT_in (tb_1 (List.mem_of_getElem? (i := 13) (by decide +kernel))) (by decide +kernel), by decide, by decide, by decide +kernel⟩
theorem cv_X12_isPay : CalV yX12_isPay RX12 := ⟨wsT_in (tb_8 (List.mem_of_getElem? (i := 205) (by decide +kernel))) (by decide +kernel), wsT_in (List.mem_append_left _ (List.mem_of_getElem? (i := 83) (by decide +kernel))) (by decide +kernel)⟩
theorem cal_X12_isPerson : Cal yX12_isPerson cX12_isPerson 2 (some .boolean) 1 := ⟨wsT_in (tb_7 (List.mem_of_getElem? (i := 194) (by decide +kernel))) (by decide +kernel), wsT_in (tb_1 (List.mem_of_getElem? (i := 13) (by decide +kernel))) (by decide +kernel), by decide, by decide, by decide +kernel⟩
theorem cv_X12_isPerson : CalV yX12_isPerson RX12 := ⟨wsT_in (tb_7 (List.mem_of_getElem? (i := 193) (by decide +kernel))) (by decide +kernel), wsT_in (List.mem_append_left _ (List.mem_of_getElem? (i := 45) (by decide +kernel))) (by decide +kernel)⟩
theorem cal_X12_isSide : Cal yX12_isSide cX12_isSide 1 (some .boolean) 1 := ⟨wsT_in (tb_7 (List.mem_of_getElem? (i := 153) (by decide +kernel))) (by decide +kernel), wsT_in (tb_1 (List.mem_of_getElem? (i := 13) (by decide +kernel))) (by decide +kernel), by decide, by decide, by decide +kernel⟩
theorem st_X12_isSide : Cond.static yX12_isSide ∈ wsT := wsT_in (tb_7 (List.mem_of_getElem? (i := 152) (by decide +kernel))) (by decide +kernel)
theorem cal_X12_isText : Cal yX12_isText cX12_isText 2 (some .boolean) 1 := ⟨wsT_in (tb_9 (List.mem_of_getElem? (i := 9) (by decide +kernel))) (by decide +kernel), wsT_in (tb_1 (List.mem_of_getElem? (i := 13) (by decide +kernel))) (by decide +kernel), by decide, by decide, by decide +kernel⟩
theorem cv_X12_isText : CalV yX12_isText RX12 := ⟨wsT_in (tb_9 (List.mem_of_getElem? (i := 8) (by decide +kernel))) (by decide +kernel), wsT_in (List.mem_append_left _ (List.mem_of_getElem? (i := 92) (by decide +kernel))) (by decide +kernel)⟩
theorem cal_X12_isTie : Cal yX12_isTie cX12_isTie 2 (some .boolean) 1 := ⟨wsT_in (tb_8 (List.mem_of_getElem? (i := 20) (by decide +kernel))) (by decide +kernel), wsT_in (tb_1 (List.mem_of_getElem? (i := 13) (by decide +kernel))) (by decide +kernel), by decide, by decide, by decide +kernel⟩
theorem cv_X12_isTie : CalV yX12_isTie RX12 := ⟨wsT_in (tb_8 (List.mem_of_getElem? (i := 19) (by decide +kernel))) (by decide +kernel), wsT_in (List.mem_append_left _ (List.mem_of_getElem? (i := 54) (by decide +kernel))) (by decide +kernel)⟩
theorem cal_X12_isWordAt : Cal yX12_isWordAt cX12_isWordAt 8 (some .boolean) 5 := ⟨wsT_in (tb_8 (List.mem_of_getElem? (i := 202) (by decide +kernel))) (by decide +kernel), wsT_in (tb_1 (List.mem_of_getElem? (i := 13) (by decide +kernel))) (by decide +kernel), by decide, by decide, by decide +kernel⟩
theorem cv_X12_isWordAt : CalV yX12_isWordAt RX12 := ⟨wsT_in (tb_8 (List.mem_of_getElem? (i := 201) (by decide +kernel))) (by decide +kernel), wsT_in (List.mem_append_left _ (List.mem_of_getElem? (i := 82) (by decide +kernel))) (by decide +kernel)⟩
theorem cal_X12_joined : Cal yX12_joined cX12_joined 3 (some .int) 3 := ⟨wsT_in (tb_8 (List.mem_of_getElem? (i := 108) (by decide +kernel))) (by decide +kernel), wsT_in (tb_1 (List.mem_of_getElem? (i := 13) (by decide +kernel))) (by decide +kernel), by decide, by decide, by decide +kernel⟩
theorem st_X12_joined : Cond.static yX12_joined ∈ wsT := wsT_in (tb_8 (List.mem_of_getElem? (i := 107) (by decide +kernel))) (by decide +kernel)
theorem cal_X12_kinOf : Cal yX12_kinOf cX12_kinOf 4 (some .int) 2 := ⟨wsT_in (tb_8 (List.mem_of_getElem? (i := 61) (by decide +kernel))) (by decide +kernel), wsT_in (tb_1 (List.mem_of_getElem? (i := 13) (by decide +kernel))) (by decide +kernel), by decide, by decide, by decide +kernel⟩
theorem cv_X12_kinOf : CalV yX12_kinOf RX12 := ⟨wsT_in (tb_8 (List.mem_of_getElem? (i := 60) (by decide +kernel))) (by decide +kernel), wsT_in (List.mem_append_left _ (List.mem_of_getElem? (i := 58) (by decide +kernel))) (by decide +kernel)⟩
theorem cal_X12_lackOf : Cal yX12_lackOf cX12_lackOf 5 (some .int) 2 := ⟨wsT_in (tb_9 (List.mem_of_getElem? (i := 63) (by decide +kernel))) (by decide +kernel), wsT_in (tb_1 (List.mem_of_getElem? (i := 13) (by decide +kernel))) (by decide +kernel), by decide, by decide, by decide +kernel⟩
theorem cv_X12_lackOf : CalV yX12_lackOf RX12 := ⟨wsT_in (tb_9 (List.mem_of_getElem? (i := 62) (by decide +kernel))) (by decide +kernel), wsT_in (List.mem_append_left _ (List.mem_of_getElem? (i := 96) (by decide +kernel))) (by decide +kernel)⟩
theorem cal_X12_least : Cal yX12_least cX12_least 2 (some .int) 2 := ⟨wsT_in (tb_8 (List.mem_of_getElem? (i := 57) (by decide +kernel))) (by decide +kernel), wsT_in (tb_1 (List.mem_of_getElem? (i := 13) (by decide +kernel))) (by decide +kernel), by decide, by decide, by decide +kernel⟩
theorem st_X12_least : Cond.static yX12_least ∈ wsT := wsT_in (tb_8 (List.mem_of_getElem? (i := 56) (by decide +kernel))) (by decide +kernel)
theorem cal_X12_lets : Cal yX12_lets cX12_lets 4 none 1 := ⟨wsT_in (tb_8 (List.mem_of_getElem? (i := 141) (by decide +kernel))) (by decide +kernel), wsT_in (tb_1 (List.mem_of_getElem? (i := 13) (by decide +kernel))) (by decide +kernel), by decide, by decide, by decide +kernel⟩
theorem cv_X12_lets : CalV yX12_lets RX12 := ⟨wsT_in (tb_8 (List.mem_of_getElem? (i := 140) (by decide +kernel))) (by decide +kernel), wsT_in (List.mem_append_left _ (List.mem_of_getElem? (i := 71) (by decide +kernel))) (by decide +kernel)⟩
theorem cal_X12_letsVisit : Cal yX12_letsVisit cX12_letsVisit 5 (some .boolean) 3 := ⟨wsT_in (tb_8 (List.mem_of_getElem? (i := 93) (by decide +kernel))) (by decide +kernel), wsT_in (tb_1 (List.mem_of_getElem? (i := 13) (by decide +kernel))) (by decide +kernel), by decide, by decide, by decide +kernel⟩
theorem cv_X12_letsVisit : CalV yX12_letsVisit RX12 := ⟨wsT_in (tb_8 (List.mem_of_getElem? (i := 92) (by decide +kernel))) (by decide +kernel), wsT_in (List.mem_append_left _ (List.mem_of_getElem? (i := 64) (by decide +kernel))) (by decide +kernel)⟩
theorem cal_X12_mayCount : Cal yX12_mayCount cX12_mayCount 5 (some .boolean) 2 := ⟨wsT_in (tb_9 (List.mem_of_getElem? (i := 152) (by decide +kernel))) (by decide +kernel), wsT_in (tb_1 (List.mem_of_getElem? (i := 13) (by decide +kernel))) (by decide +kernel), by decide, by decide, by decide +kernel⟩
theorem cv_X12_mayCount : CalV yX12_mayCount RX12 := ⟨wsT_in (tb_9 (List.mem_of_getElem? (i := 151) (by decide +kernel))) (by decide +kernel), wsT_in (List.mem_append_left _ (List.mem_of_getElem? (i := 102) (by decide +kernel))) (by decide +kernel)⟩
theorem cal_X12_mayCross : Cal yX12_mayCross cX12_mayCross 8 (some .boolean) 2 := ⟨wsT_in (tb_8 (List.mem_of_getElem? (i := 89) (by decide +kernel))) (by decide +kernel), wsT_in (tb_1 (List.mem_of_getElem? (i := 13) (by decide +kernel))) (by decide +kernel), by decide, by decide, by decide +kernel⟩
theorem cv_X12_mayCross : CalV yX12_mayCross RX12 := ⟨wsT_in (tb_8 (List.mem_of_getElem? (i := 88) (by decide +kernel))) (by decide +kernel), wsT_in (List.mem_append_left _ (List.mem_of_getElem? (i := 63) (by decide +kernel))) (by decide +kernel)⟩
theorem cal_X12_newTie : Cal yX12_newTie cX12_newTie 7 (some .int) 4 := ⟨wsT_in (tb_8 (List.mem_of_getElem? (i := 0) (by decide +kernel))) (by decide +kernel), wsT_in (tb_1 (List.mem_of_getElem? (i := 13) (by decide +kernel))) (by decide +kernel), by decide, by decide, by decide +kernel⟩
theorem cv_X12_newTie : CalV yX12_newTie RX12 := ⟨wsT_in (tb_7 (List.mem_of_getElem? (i := 239) (by decide +kernel))) (by decide +kernel), wsT_in (List.mem_append_left _ (List.mem_of_getElem? (i := 51) (by decide +kernel))) (by decide +kernel)⟩
theorem cal_X12_nextCall : Cal yX12_nextCall cX12_nextCall 5 (some .int) 1 := ⟨wsT_in (tb_8 (List.mem_of_getElem? (i := 161) (by decide +kernel))) (by decide +kernel), wsT_in (tb_1 (List.mem_of_getElem? (i := 13) (by decide +kernel))) (by decide +kernel), by decide, by decide, by decide +kernel⟩
theorem cv_X12_nextCall : CalV yX12_nextCall RX12 := ⟨wsT_in (tb_8 (List.mem_of_getElem? (i := 160) (by decide +kernel))) (by decide +kernel), wsT_in (List.mem_append_left _ (List.mem_of_getElem? (i := 76) (by decide +kernel))) (by decide +kernel)⟩
theorem cal_X12_ones : Cal yX12_ones cX12_ones 3 (some .int) 1 := ⟨wsT_in (tb_9 (List.mem_of_getElem? (i := 190) (by decide +kernel))) (by decide +kernel), wsT_in (tb_1 (List.mem_of_getElem? (i := 13) (by decide +kernel))) (by decide +kernel), by decide, by decide, by decide +kernel⟩
theorem st_X12_ones : Cond.static yX12_ones ∈ wsT := wsT_in (tb_9 (List.mem_of_getElem? (i := 189) (by decide +kernel))) (by decide +kernel)
theorem cal_X12_openFor : Cal yX12_openFor cX12_openFor 4 (some .int) 2 := ⟨wsT_in (tb_9 (List.mem_of_getElem? (i := 182) (by decide +kernel))) (by decide +kernel), wsT_in (tb_1 (List.mem_of_getElem? (i := 13) (by decide +kernel))) (by decide +kernel), by decide, by decide, by decide +kernel⟩
theorem cv_X12_openFor : CalV yX12_openFor RX12 := ⟨wsT_in (tb_9 (List.mem_of_getElem? (i := 181) (by decide +kernel))) (by decide +kernel), wsT_in (List.mem_append_left _ (List.mem_of_getElem? (i := 105) (by decide +kernel))) (by decide +kernel)⟩
theorem cal_X12_orNone : Cal yX12_orNone cX12_orNone 1 (some .int) 1 := ⟨wsT_in (tb_7 (List.mem_of_getElem? (i := 198) (by decide +kernel))) (by decide +kernel), wsT_in (tb_1 (List.mem_of_getElem? (i := 13) (by decide +kernel))) (by decide +kernel), by decide, by decide, by decide +kernel⟩
theorem st_X12_orNone : Cond.static yX12_orNone ∈ wsT := wsT_in (tb_7 (List.mem_of_getElem? (i := 197) (by decide +kernel))) (by decide +kernel)
theorem cal_X12_owedOf : Cal yX12_owedOf cX12_owedOf 10 (some .int) 1 := ⟨wsT_in (tb_9 (List.mem_of_getElem? (i := 156) (by decide +kernel))) (by decide +kernel), wsT_in (tb_1 (List.mem_of_getElem? (i := 13) (by decide +kernel))) (by decide +kernel), by decide, by decide, by decide +kernel⟩
theorem cv_X12_owedOf : CalV yX12_owedOf RX12 := ⟨wsT_in (tb_9 (List.mem_of_getElem? (i := 155) (by decide +kernel))) (by decide +kernel), wsT_in (List.mem_append_left _ (List.mem_of_getElem? (i := 103) (by decide +kernel))) (by decide +kernel)⟩
theorem cal_X12_ownSide : Cal yX12_ownSide cX12_ownSide 2 (some .int) 1 := ⟨wsT_in (tb_7 (List.mem_of_getElem? (i := 221) (by decide +kernel))) (by decide +kernel), wsT_in (tb_1 (List.mem_of_getElem? (i := 13) (by decide +kernel))) (by decide +kernel), by decide, by decide, by decide +kernel⟩
theorem cv_X12_ownSide : CalV yX12_ownSide RX12 := ⟨wsT_in (tb_7 (List.mem_of_getElem? (i := 220) (by decide +kernel))) (by decide +kernel), wsT_in (List.mem_append_left _ (List.mem_of_getElem? (i := 48) (by decide +kernel))) (by decide +kernel)⟩
theorem cal_X12_pairWorth : Cal yX12_pairWorth cX12_pairWorth 5 (some .int) 3 := ⟨wsT_in (tb_9 (List.mem_of_getElem? (i := 113) (by decide +kernel))) (by decide +kernel), wsT_in (tb_1 (List.mem_of_getElem? (i := 13) (by decide +kernel))) (by decide +kernel), by decide, by decide, by decide +kernel⟩
theorem cv_X12_pairWorth : CalV yX12_pairWorth RX12 := ⟨wsT_in (tb_9 (List.mem_of_getElem? (i := 112) (by decide +kernel))) (by decide +kernel), wsT_in (List.mem_append_left _ (List.mem_of_getElem? (i := 100) (by decide +kernel))) (by decide +kernel)⟩
theorem cal_X12_personAt : Cal yX12_personAt cX12_personAt 2 (some .int) 1 := ⟨wsT_in (tb_7 (List.mem_of_getElem? (i := 186) (by decide +kernel))) (by decide +kernel), wsT_in (tb_1 (List.mem_of_getElem? (i := 13) (by decide +kernel))) (by decide +kernel), by decide, by decide, by decide +kernel⟩
theorem cv_X12_personAt : CalV yX12_personAt RX12 := ⟨wsT_in (tb_7 (List.mem_of_getElem? (i := 185) (by decide +kernel))) (by decide +kernel), wsT_in (List.mem_append_left _ (List.mem_of_getElem? (i := 44) (by decide +kernel))) (by decide +kernel)⟩
theorem cal_X12_readOf : Cal yX12_readOf cX12_readOf 4 (some .int) 2 := ⟨wsT_in (tb_9 (List.mem_of_getElem? (i := 127) (by decide +kernel))) (by decide +kernel), wsT_in (tb_1 (List.mem_of_getElem? (i := 13) (by decide +kernel))) (by decide +kernel), by decide, by decide, by decide +kernel⟩
theorem cv_X12_readOf : CalV yX12_readOf RX12 := ⟨wsT_in (tb_9 (List.mem_of_getElem? (i := 126) (by decide +kernel))) (by decide +kernel), wsT_in (List.mem_append_left _ (List.mem_of_getElem? (i := 101) (by decide +kernel))) (by decide +kernel)⟩
theorem cal_X12_reason : Cal yX12_reason cX12_reason 4 (some .int) 1 := ⟨wsT_in (tb_8 (List.mem_of_getElem? (i := 81) (by decide +kernel))) (by decide +kernel), wsT_in (tb_1 (List.mem_of_getElem? (i := 13) (by decide +kernel))) (by decide +kernel), by decide, by decide, by decide +kernel⟩
theorem cv_X12_reason : CalV yX12_reason RX12 := ⟨wsT_in (tb_8 (List.mem_of_getElem? (i := 80) (by decide +kernel))) (by decide +kernel), wsT_in (List.mem_append_left _ (List.mem_of_getElem? (i := 61) (by decide +kernel))) (by decide +kernel)⟩
theorem cal_X12_returns : Cal yX12_returns cX12_returns 5 none 1 := ⟨wsT_in (tb_8 (List.mem_of_getElem? (i := 153) (by decide +kernel))) (by decide +kernel), wsT_in (tb_1 (List.mem_of_getElem? (i := 13) (by decide +kernel))) (by decide +kernel), by decide, by decide, by decide +kernel⟩
theorem cv_X12_returns : CalV yX12_returns RX12 := ⟨wsT_in (tb_8 (List.mem_of_getElem? (i := 152) (by decide +kernel))) (by decide +kernel), wsT_in (List.mem_append_left _ (List.mem_of_getElem? (i := 74) (by decide +kernel))) (by decide +kernel)⟩
theorem cal_X12_sendHome : Cal yX12_sendHome cX12_sendHome 3 none 1 := ⟨wsT_in (tb_8 (List.mem_of_getElem? (i := 69) (by decide +kernel))) (by decide +kernel), wsT_in (tb_1 (List.mem_of_getElem? (i := 13) (by decide +kernel))) (by decide +kernel), by decide, by decide, by decide +kernel⟩
theorem cv_X12_sendHome : CalV yX12_sendHome RX12 := ⟨wsT_in (tb_8 (List.mem_of_getElem? (i := 68) (by decide +kernel))) (by decide +kernel), wsT_in (List.mem_append_left _ (List.mem_of_getElem? (i := 59) (by decide +kernel))) (by decide +kernel)⟩
theorem cal_X12_sideOf : Cal yX12_sideOf cX12_sideOf 2 (some .int) 1 := ⟨wsT_in (tb_7 (List.mem_of_getElem? (i := 225) (by decide +kernel))) (by decide +kernel), wsT_in (tb_1 (List.mem_of_getElem? (i := 13) (by decide +kernel))) (by decide +kernel), by decide, by decide, by decide +kernel⟩
theorem cv_X12_sideOf : CalV yX12_sideOf RX12 := ⟨wsT_in (tb_7 (List.mem_of_getElem? (i := 224) (by decide +kernel))) (by decide +kernel), wsT_in (List.mem_append_left _ (List.mem_of_getElem? (i := 49) (by decide +kernel))) (by decide +kernel)⟩
theorem cal_X12_size : Cal yX12_size cX12_size 1 (some .int) 1 := ⟨wsT_in (tb_9 (List.mem_of_getElem? (i := 95) (by decide +kernel))) (by decide +kernel), wsT_in (tb_1 (List.mem_of_getElem? (i := 13) (by decide +kernel))) (by decide +kernel), by decide, by decide, by decide +kernel⟩
theorem st_X12_size : Cond.static yX12_size ∈ wsT := wsT_in (tb_9 (List.mem_of_getElem? (i := 94) (by decide +kernel))) (by decide +kernel)
theorem cal_X12_speaks : Cal yX12_speaks cX12_speaks 8 none 1 := ⟨wsT_in (tb_8 (List.mem_of_getElem? (i := 157) (by decide +kernel))) (by decide +kernel), wsT_in (tb_1 (List.mem_of_getElem? (i := 13) (by decide +kernel))) (by decide +kernel), by decide, by decide, by decide +kernel⟩
theorem cv_X12_speaks : CalV yX12_speaks RX12 := ⟨wsT_in (tb_8 (List.mem_of_getElem? (i := 156) (by decide +kernel))) (by decide +kernel), wsT_in (List.mem_append_left _ (List.mem_of_getElem? (i := 75) (by decide +kernel))) (by decide +kernel)⟩
theorem cal_X12_textAt : Cal yX12_textAt cX12_textAt 2 (some .int) 1 := ⟨wsT_in (tb_8 (List.mem_of_getElem? (i := 101) (by decide +kernel))) (by decide +kernel), wsT_in (tb_1 (List.mem_of_getElem? (i := 13) (by decide +kernel))) (by decide +kernel), by decide, by decide, by decide +kernel⟩
theorem cv_X12_textAt : CalV yX12_textAt RX12 := ⟨wsT_in (tb_8 (List.mem_of_getElem? (i := 100) (by decide +kernel))) (by decide +kernel), wsT_in (List.mem_append_left _ (List.mem_of_getElem? (i := 66) (by decide +kernel))) (by decide +kernel)⟩
theorem cal_X12_tieAt : Cal yX12_tieAt cX12_tieAt 2 (some .int) 1 := ⟨wsT_in (tb_8 (List.mem_of_getElem? (i := 4) (by decide +kernel))) (by decide +kernel), wsT_in (tb_1 (List.mem_of_getElem? (i := 13) (by decide +kernel))) (by decide +kernel), by decide, by decide, by decide +kernel⟩
theorem cv_X12_tieAt : CalV yX12_tieAt RX12 := ⟨wsT_in (tb_8 (List.mem_of_getElem? (i := 3) (by decide +kernel))) (by decide +kernel), wsT_in (List.mem_append_left _ (List.mem_of_getElem? (i := 52) (by decide +kernel))) (by decide +kernel)⟩
theorem cal_X12_visitsOf : Cal yX12_visitsOf cX12_visitsOf 6 (some .int) 1 := ⟨wsT_in (tb_9 (List.mem_of_getElem? (i := 34) (by decide +kernel))) (by decide +kernel), wsT_in (tb_1 (List.mem_of_getElem? (i := 13) (by decide +kernel))) (by decide +kernel), by decide, by decide, by decide +kernel⟩
theorem cv_X12_visitsOf : CalV yX12_visitsOf RX12 := ⟨wsT_in (tb_9 (List.mem_of_getElem? (i := 33) (by decide +kernel))) (by decide +kernel), wsT_in (List.mem_append_left _ (List.mem_of_getElem? (i := 93) (by decide +kernel))) (by decide +kernel)⟩
theorem cal_X12_waiters : Cal yX12_waiters cX12_waiters 3 (some .int) 0 := ⟨wsT_in (tb_9 (List.mem_of_getElem? (i := 238) (by decide +kernel))) (by decide +kernel), wsT_in (tb_1 (List.mem_of_getElem? (i := 13) (by decide +kernel))) (by decide +kernel), by decide, by decide, by decide +kernel⟩
theorem cv_X12_waiters : CalV yX12_waiters RX12 := ⟨wsT_in (tb_9 (List.mem_of_getElem? (i := 237) (by decide +kernel))) (by decide +kernel), wsT_in (List.mem_append_left _ (List.mem_of_getElem? (i := 111) (by decide +kernel))) (by decide +kernel)⟩
theorem cal_X12_waiting0 : Cal yX12_waiting0 cX12_waiting0 4 (some .int) 1 := ⟨wsT_in (tb_8 (List.mem_of_getElem? (i := 28) (by decide +kernel))) (by decide +kernel), wsT_in (tb_1 (List.mem_of_getElem? (i := 13) (by decide +kernel))) (by decide +kernel), by decide, by decide, by decide +kernel⟩
theorem cv_X12_waiting0 : CalV yX12_waiting0 RX12 := ⟨wsT_in (tb_8 (List.mem_of_getElem? (i := 27) (by decide +kernel))) (by decide +kernel), wsT_in (List.mem_append_left _ (List.mem_of_getElem? (i := 55) (by decide +kernel))) (by decide +kernel)⟩
theorem cal_X12_waitingOf : Cal yX12_waitingOf cX12_waitingOf 5 (some .int) 1 := ⟨wsT_in (tb_9 (List.mem_of_getElem? (i := 178) (by decide +kernel))) (by decide +kernel), wsT_in (tb_1 (List.mem_of_getElem? (i := 13) (by decide +kernel))) (by decide +kernel), by decide, by decide, by decide +kernel⟩
theorem cv_X12_waitingOf : CalV yX12_waitingOf RX12 := ⟨wsT_in (tb_9 (List.mem_of_getElem? (i := 177) (by decide +kernel))) (by decide +kernel), wsT_in (List.mem_append_left _ (List.mem_of_getElem? (i := 104) (by decide +kernel))) (by decide +kernel)⟩
theorem cal_X12_waits : Cal yX12_waits cX12_waits 2 (some .boolean) 1 := ⟨wsT_in (tb_7 (List.mem_of_getElem? (i := 217) (by decide +kernel))) (by decide +kernel), wsT_in (tb_1 (List.mem_of_getElem? (i := 13) (by decide +kernel))) (by decide +kernel), by decide, by decide, by decide +kernel⟩
theorem cv_X12_waits : CalV yX12_waits RX12 := ⟨wsT_in (tb_7 (List.mem_of_getElem? (i := 216) (by decide +kernel))) (by decide +kernel), wsT_in (List.mem_append_left _ (List.mem_of_getElem? (i := 47) (by decide +kernel))) (by decide +kernel)⟩
theorem cal_X12_worked : Cal yX12_worked cX12_worked 6 (some .int) 1 := ⟨wsT_in (tb_8 (List.mem_of_getElem? (i := 105) (by decide +kernel))) (by decide +kernel), wsT_in (tb_1 (List.mem_of_getElem? (i := 13) (by decide +kernel))) (by decide +kernel), by decide, by decide, by decide +kernel⟩
theorem cv_X12_worked : CalV yX12_worked RX12 := ⟨wsT_in (tb_8 (List.mem_of_getElem? (i := 104) (by decide +kernel))) (by decide +kernel), wsT_in (List.mem_append_left _ (List.mem_of_getElem? (i := 67) (by decide +kernel))) (by decide +kernel)⟩
