theorem kI_m1000000014 : R32 (-1000000014) := ⟨by decide, by decide⟩
theorem kI_m1000000013 : R32 (-1000000013) := ⟨by decide, by decide⟩
theorem kI_m1000000012 : R32 (-1000000012) := ⟨by decide, by decide⟩
theorem kI_m1000000011 : R32 (-1000000011) := ⟨by decide, by decide⟩
theorem kI_m1000000005 : R32 (-1000000005) := ⟨by decide, by decide⟩
theorem kI_m1000000004 : R32 (-1000000004) := ⟨by decide, by decide⟩
theorem kI_m1000000003 : R32 (-1000000003) := ⟨by decide, by decide⟩
theorem kI_m1000000002 : R32 (-1000000002) := ⟨by decide, by decide⟩
theorem kI_m1000000001 : R32 (-1000000001) := ⟨by decide, by decide⟩
theorem kI_m100000 : R32 (-100000) := ⟨by decide, by decide⟩
theorem kI_m100 : R32 (-100) := ⟨by decide, by decide⟩
theorem kI_m99 : R32 (-99) := ⟨by decide, by decide⟩
theorem kI_m1 : R32 (-1) := ⟨by decide, by decide⟩
theorem kI_0 : R32 0 := ⟨by decide, by decide⟩
theorem kI_1 : R32 1 := ⟨by decide, by decide⟩
theorem kI_2 : R32 2 := ⟨by decide, by decide⟩
theorem kI_3 : R32 3 := ⟨by decide, by decide⟩
theorem kI_4 : R32 4 := ⟨by decide, by decide⟩
theorem kI_5 : R32 5 := ⟨by decide, by decide⟩
theorem kI_6 : R32 6 := ⟨by decide, by decide⟩
theorem kI_7 : R32 7 := ⟨by decide, by decide⟩
theorem kI_8 : R32 8 := ⟨by decide, by decide⟩
theorem kI_9 : R32 9 := ⟨by decide, by decide⟩
theorem kI_10 : R32 10 := ⟨by decide, by decide⟩
theorem kI_11 : R32 11 := ⟨by decide, by decide⟩
theorem kI_12 : R32 12 := ⟨by decide, by decide⟩
theorem kI_13 : R32 13 := ⟨by decide, by decide⟩
theorem kI_15 : R32 15 := ⟨by decide, by decide⟩
theorem kI_16 : R32 16 := ⟨by decide, by decide⟩
theorem kI_17 : R32 17 := ⟨by decide, by decide⟩
theorem kI_18 : R32 18 := ⟨by decide, by decide⟩
theorem kI_20 : R32 20 := ⟨by decide, by decide⟩
theorem kI_21 : R32 21 := ⟨by decide, by decide⟩
theorem kI_23 : R32 23 := ⟨by decide, by decide⟩
theorem kI_24 : R32 24 := ⟨by decide, by decide⟩
theorem kI_29 : R32 29 := ⟨by decide, by decide⟩
theorem kI_30 : R32 30 := ⟨by decide, by decide⟩
theorem kI_32 : R32 32 := ⟨by decide, by decide⟩
theorem kI_33 : R32 33 := ⟨by decide, by decide⟩
theorem kI_38 : R32 38 := ⟨by decide, by decide⟩
theorem kI_40 : R32 40 := ⟨by decide, by decide⟩
theorem kI_41 : R32 41 := ⟨by decide, by decide⟩
theorem kI_42 : R32 42 := ⟨by decide, by decide⟩
theorem kI_43 : R32 43 := ⟨by decide, by decide⟩
theorem kI_45 : R32 45 := ⟨by decide, by decide⟩
theorem kI_47 : R32 47 := ⟨by decide, by decide⟩
theorem kI_48 : R32 48 := ⟨by decide, by decide⟩
theorem kI_57 : R32 57 := ⟨by decide, by decide⟩
theorem kI_59 : R32 59 := ⟨by decide, by decide⟩
theorem kI_60 : R32 60 := ⟨by decide, by decide⟩
theorem kI_61 : R32 61 := ⟨by decide, by decide⟩
theorem kI_62 : R32 62 := ⟨by decide, by decide⟩
theorem kI_63 : R32 63 := ⟨by decide, by decide⟩
theorem kI_70 : R32 70 := ⟨by decide, by decide⟩
theorem kI_96 : R32 96 := ⟨by decide, by decide⟩
theorem kI_97 : R32 97 := ⟨by decide, by decide⟩
theorem kI_99 : R32 99 := ⟨by decide, by decide⟩
theorem kI_100 : R32 100 := ⟨by decide, by decide⟩
theorem kI_101 : R32 101 := ⟨by decide, by decide⟩
theorem kI_102 : R32 102 := ⟨by decide, by decide⟩
theorem kI_104 : R32 104 := ⟨by decide, by decide⟩
theorem kI_105 : R32 105 := ⟨by decide, by decide⟩
theorem kI_107 : R32 107 := ⟨by decide, by decide⟩
theorem kI_108 : R32 108 := ⟨by decide, by decide⟩
theorem kI_110 : R32 110 := ⟨by decide, by decide⟩
theorem kI_111 : R32 111 := ⟨by decide, by decide⟩
theorem kI_112 : R32 112 := ⟨by decide, by decide⟩
theorem kI_114 : R32 114 := ⟨by decide, by decide⟩
theorem kI_115 : R32 115 := ⟨by decide, by decide⟩
theorem kI_116 : R32 116 := ⟨by decide, by decide⟩
theorem kI_117 : R32 117 := ⟨by decide, by decide⟩
theorem kI_119 : R32 119 := ⟨by decide, by decide⟩
theorem kI_120 : R32 120 := ⟨by decide, by decide⟩
theorem kI_121 : R32 121 := ⟨by decide, by decide⟩
theorem kI_122 : R32 122 := ⟨by decide, by decide⟩
theorem kI_124 : R32 124 := ⟨by decide, by decide⟩
theorem kI_200 : R32 200 := ⟨by decide, by decide⟩
theorem kI_230 : R32 230 := ⟨by decide, by decide⟩
theorem kI_255 : R32 255 := ⟨by decide, by decide⟩
theorem kI_256 : R32 256 := ⟨by decide, by decide⟩
theorem kI_288 : R32 288 := ⟨by decide, by decide⟩
theorem kI_324 : R32 324 := ⟨by decide, by decide⟩
theorem kI_400 : R32 400 := ⟨by decide, by decide⟩
theorem kI_416 : R32 416 := ⟨by decide, by decide⟩
theorem kI_630 : R32 630 := ⟨by decide, by decide⟩
theorem kI_999 : R32 999 := ⟨by decide, by decide⟩
theorem kI_1000 : R32 1000 := ⟨by decide, by decide⟩
theorem kI_1024 : R32 1024 := ⟨by decide, by decide⟩
theorem kI_1310 : R32 1310 := ⟨by decide, by decide⟩
theorem kI_3710 : R32 3710 := ⟨by decide, by decide⟩
theorem kI_3770 : R32 3770 := ⟨by decide, by decide⟩
theorem kI_3830 : R32 3830 := ⟨by decide, by decide⟩
theorem kI_3860 : R32 3860 := ⟨by decide, by decide⟩
theorem kI_3880 : R32 3880 := ⟨by decide, by decide⟩
theorem kI_3900 : R32 3900 := ⟨by decide, by decide⟩
theorem kI_4000 : R32 4000 := ⟨by decide, by decide⟩
theorem kI_4010 : R32 4010 := ⟨by decide, by decide⟩
theorem kI_4210 : R32 4210 := ⟨by decide, by decide⟩
theorem kI_9999 : R32 9999 := ⟨by decide, by decide⟩
theorem kI_10000 : R32 10000 := ⟨by decide, by decide⟩
theorem kI_16000 : R32 16000 := ⟨by decide, by decide⟩
theorem kI_20000 : R32 20000 := ⟨by decide, by decide⟩
theorem kI_20009 : R32 20009 := ⟨by decide, by decide⟩
theorem kI_20010 : R32 20010 := ⟨by decide, by decide⟩
theorem kI_100000 : R32 100000 := ⟨by decide, by decide⟩
theorem kI_1000000 : R32 1000000 := ⟨by decide, by decide⟩
theorem kI_252645135 : R32 252645135 := ⟨by decide, by decide⟩
theorem kI_858993459 : R32 858993459 := ⟨by decide, by decide⟩
theorem kI_1431655765 : R32 1431655765 := ⟨by decide, by decide⟩
theorem kB_m100 : R32 (-100) ∧ (Int8.ofInt (-100)).toInt32 = Int32.ofInt (-100) := ⟨kI_m100, by decide⟩
theorem kB_m99 : R32 (-99) ∧ (Int8.ofInt (-99)).toInt32 = Int32.ofInt (-99) := ⟨kI_m99, by decide⟩
theorem kB_6 : R32 6 ∧ (Int8.ofInt 6).toInt32 = Int32.ofInt 6 := ⟨kI_6, by decide⟩
theorem kB_7 : R32 7 ∧ (Int8.ofInt 7).toInt32 = Int32.ofInt 7 := ⟨kI_7, by decide⟩
theorem kB_8 : R32 8 ∧ (Int8.ofInt 8).toInt32 = Int32.ofInt 8 := ⟨kI_8, by decide⟩
theorem kB_9 : R32 9 ∧ (Int8.ofInt 9).toInt32 = Int32.ofInt 9 := ⟨kI_9, by decide⟩
theorem kB_10 : R32 10 ∧ (Int8.ofInt 10).toInt32 = Int32.ofInt 10 := ⟨kI_10, by decide⟩
theorem kB_11 : R32 11 ∧ (Int8.ofInt 11).toInt32 = Int32.ofInt 11 := ⟨kI_11, by decide⟩
theorem kB_12 : R32 12 ∧ (Int8.ofInt 12).toInt32 = Int32.ofInt 12 := ⟨kI_12, by decide⟩
theorem kB_13 : R32 13 ∧ (Int8.ofInt 13).toInt32 = Int32.ofInt 13 := ⟨kI_13, by decide⟩
theorem kB_15 : R32 15 ∧ (Int8.ofInt 15).toInt32 = Int32.ofInt 15 := ⟨kI_15, by decide⟩
theorem kB_16 : R32 16 ∧ (Int8.ofInt 16).toInt32 = Int32.ofInt 16 := ⟨kI_16, by decide⟩
theorem kB_17 : R32 17 ∧ (Int8.ofInt 17).toInt32 = Int32.ofInt 17 := ⟨kI_17, by decide⟩
theorem kB_18 : R32 18 ∧ (Int8.ofInt 18).toInt32 = Int32.ofInt 18 := ⟨kI_18, by decide⟩
theorem kB_20 : R32 20 ∧ (Int8.ofInt 20).toInt32 = Int32.ofInt 20 := ⟨kI_20, by decide⟩
theorem kB_21 : R32 21 ∧ (Int8.ofInt 21).toInt32 = Int32.ofInt 21 := ⟨kI_21, by decide⟩
theorem kB_23 : R32 23 ∧ (Int8.ofInt 23).toInt32 = Int32.ofInt 23 := ⟨kI_23, by decide⟩
theorem kB_24 : R32 24 ∧ (Int8.ofInt 24).toInt32 = Int32.ofInt 24 := ⟨kI_24, by decide⟩
theorem kB_29 : R32 29 ∧ (Int8.ofInt 29).toInt32 = Int32.ofInt 29 := ⟨kI_29, by decide⟩
theorem kB_30 : R32 30 ∧ (Int8.ofInt 30).toInt32 = Int32.ofInt 30 := ⟨kI_30, by decide⟩
theorem kB_32 : R32 32 ∧ (Int8.ofInt 32).toInt32 = Int32.ofInt 32 := ⟨kI_32, by decide⟩
theorem kB_33 : R32 33 ∧ (Int8.ofInt 33).toInt32 = Int32.ofInt 33 := ⟨kI_33, by decide⟩
theorem kB_38 : R32 38 ∧ (Int8.ofInt 38).toInt32 = Int32.ofInt 38 := ⟨kI_38, by decide⟩
theorem kB_40 : R32 40 ∧ (Int8.ofInt 40).toInt32 = Int32.ofInt 40 := ⟨kI_40, by decide⟩
theorem kB_41 : R32 41 ∧ (Int8.ofInt 41).toInt32 = Int32.ofInt 41 := ⟨kI_41, by decide⟩
theorem kB_42 : R32 42 ∧ (Int8.ofInt 42).toInt32 = Int32.ofInt 42 := ⟨kI_42, by decide⟩
theorem kB_43 : R32 43 ∧ (Int8.ofInt 43).toInt32 = Int32.ofInt 43 := ⟨kI_43, by decide⟩
theorem kB_45 : R32 45 ∧ (Int8.ofInt 45).toInt32 = Int32.ofInt 45 := ⟨kI_45, by decide⟩
theorem kB_47 : R32 47 ∧ (Int8.ofInt 47).toInt32 = Int32.ofInt 47 := ⟨kI_47, by decide⟩
theorem kB_48 : R32 48 ∧ (Int8.ofInt 48).toInt32 = Int32.ofInt 48 := ⟨kI_48, by decide⟩
theorem kB_57 : R32 57 ∧ (Int8.ofInt 57).toInt32 = Int32.ofInt 57 := ⟨kI_57, by decide⟩
theorem kB_59 : R32 59 ∧ (Int8.ofInt 59).toInt32 = Int32.ofInt 59 := ⟨kI_59, by decide⟩
theorem kB_60 : R32 60 ∧ (Int8.ofInt 60).toInt32 = Int32.ofInt 60 := ⟨kI_60, by decide⟩
theorem kB_61 : R32 61 ∧ (Int8.ofInt 61).toInt32 = Int32.ofInt 61 := ⟨kI_61, by decide⟩
theorem kB_62 : R32 62 ∧ (Int8.ofInt 62).toInt32 = Int32.ofInt 62 := ⟨kI_62, by decide⟩
theorem kB_63 : R32 63 ∧ (Int8.ofInt 63).toInt32 = Int32.ofInt 63 := ⟨kI_63, by decide⟩
theorem kB_70 : R32 70 ∧ (Int8.ofInt 70).toInt32 = Int32.ofInt 70 := ⟨kI_70, by decide⟩
theorem kB_96 : R32 96 ∧ (Int8.ofInt 96).toInt32 = Int32.ofInt 96 := ⟨kI_96, by decide⟩
theorem kB_97 : R32 97 ∧ (Int8.ofInt 97).toInt32 = Int32.ofInt 97 := ⟨kI_97, by decide⟩
theorem kB_99 : R32 99 ∧ (Int8.ofInt 99).toInt32 = Int32.ofInt 99 := ⟨kI_99, by decide⟩
theorem kB_100 : R32 100 ∧ (Int8.ofInt 100).toInt32 = Int32.ofInt 100 := ⟨kI_100, by decide⟩
theorem kB_101 : R32 101 ∧ (Int8.ofInt 101).toInt32 = Int32.ofInt 101 := ⟨kI_101, by decide⟩
theorem kB_102 : R32 102 ∧ (Int8.ofInt 102).toInt32 = Int32.ofInt 102 := ⟨kI_102, by decide⟩
theorem kB_104 : R32 104 ∧ (Int8.ofInt 104).toInt32 = Int32.ofInt 104 := ⟨kI_104, by decide⟩
theorem kB_105 : R32 105 ∧ (Int8.ofInt 105).toInt32 = Int32.ofInt 105 := ⟨kI_105, by decide⟩
theorem kB_107 : R32 107 ∧ (Int8.ofInt 107).toInt32 = Int32.ofInt 107 := ⟨kI_107, by decide⟩
theorem kB_108 : R32 108 ∧ (Int8.ofInt 108).toInt32 = Int32.ofInt 108 := ⟨kI_108, by decide⟩
theorem kB_110 : R32 110 ∧ (Int8.ofInt 110).toInt32 = Int32.ofInt 110 := ⟨kI_110, by decide⟩
theorem kB_111 : R32 111 ∧ (Int8.ofInt 111).toInt32 = Int32.ofInt 111 := ⟨kI_111, by decide⟩
theorem kB_112 : R32 112 ∧ (Int8.ofInt 112).toInt32 = Int32.ofInt 112 := ⟨kI_112, by decide⟩
theorem kB_114 : R32 114 ∧ (Int8.ofInt 114).toInt32 = Int32.ofInt 114 := ⟨kI_114, by decide⟩
theorem kB_115 : R32 115 ∧ (Int8.ofInt 115).toInt32 = Int32.ofInt 115 := ⟨kI_115, by decide⟩
theorem kB_116 : R32 116 ∧ (Int8.ofInt 116).toInt32 = Int32.ofInt 116 := ⟨kI_116, by decide⟩
theorem kB_117 : R32 117 ∧ (Int8.ofInt 117).toInt32 = Int32.ofInt 117 := ⟨kI_117, by decide⟩
theorem kB_119 : R32 119 ∧ (Int8.ofInt 119).toInt32 = Int32.ofInt 119 := ⟨kI_119, by decide⟩
theorem kB_120 : R32 120 ∧ (Int8.ofInt 120).toInt32 = Int32.ofInt 120 := ⟨kI_120, by decide⟩
theorem kB_121 : R32 121 ∧ (Int8.ofInt 121).toInt32 = Int32.ofInt 121 := ⟨kI_121, by decide⟩
theorem kB_122 : R32 122 ∧ (Int8.ofInt 122).toInt32 = Int32.ofInt 122 := ⟨kI_122, by decide⟩
theorem kB_124 : R32 124 ∧ (Int8.ofInt 124).toInt32 = Int32.ofInt 124 := ⟨kI_124, by decide⟩
theorem kS_200 : R32 200 ∧ (Int16.ofInt 200).toInt32 = Int32.ofInt 200 := ⟨kI_200, by decide⟩
theorem kS_230 : R32 230 ∧ (Int16.ofInt 230).toInt32 = Int32.ofInt 230 := ⟨kI_230, by decide⟩
theorem kS_255 : R32 255 ∧ (Int16.ofInt 255).toInt32 = Int32.ofInt 255 := ⟨kI_255, by decide⟩
theorem kS_256 : R32 256 ∧ (Int16.ofInt 256).toInt32 = Int32.ofInt 256 := ⟨kI_256, by decide⟩
theorem kS_288 : R32 288 ∧ (Int16.ofInt 288).toInt32 = Int32.ofInt 288 := ⟨kI_288, by decide⟩
theorem kS_324 : R32 324 ∧ (Int16.ofInt 324).toInt32 = Int32.ofInt 324 := ⟨kI_324, by decide⟩
theorem kS_400 : R32 400 ∧ (Int16.ofInt 400).toInt32 = Int32.ofInt 400 := ⟨kI_400, by decide⟩
theorem kS_416 : R32 416 ∧ (Int16.ofInt 416).toInt32 = Int32.ofInt 416 := ⟨kI_416, by decide⟩
theorem kS_630 : R32 630 ∧ (Int16.ofInt 630).toInt32 = Int32.ofInt 630 := ⟨kI_630, by decide⟩
theorem kS_999 : R32 999 ∧ (Int16.ofInt 999).toInt32 = Int32.ofInt 999 := ⟨kI_999, by decide⟩
theorem kS_1000 : R32 1000 ∧ (Int16.ofInt 1000).toInt32 = Int32.ofInt 1000 := ⟨kI_1000, by decide⟩
theorem kS_1024 : R32 1024 ∧ (Int16.ofInt 1024).toInt32 = Int32.ofInt 1024 := ⟨kI_1024, by decide⟩
theorem kS_1310 : R32 1310 ∧ (Int16.ofInt 1310).toInt32 = Int32.ofInt 1310 := ⟨kI_1310, by decide⟩
theorem kS_3710 : R32 3710 ∧ (Int16.ofInt 3710).toInt32 = Int32.ofInt 3710 := ⟨kI_3710, by decide⟩
theorem kS_3770 : R32 3770 ∧ (Int16.ofInt 3770).toInt32 = Int32.ofInt 3770 := ⟨kI_3770, by decide⟩
theorem kS_3830 : R32 3830 ∧ (Int16.ofInt 3830).toInt32 = Int32.ofInt 3830 := ⟨kI_3830, by decide⟩
theorem kS_3860 : R32 3860 ∧ (Int16.ofInt 3860).toInt32 = Int32.ofInt 3860 := ⟨kI_3860, by decide⟩
theorem kS_3880 : R32 3880 ∧ (Int16.ofInt 3880).toInt32 = Int32.ofInt 3880 := ⟨kI_3880, by decide⟩
theorem kS_3900 : R32 3900 ∧ (Int16.ofInt 3900).toInt32 = Int32.ofInt 3900 := ⟨kI_3900, by decide⟩
theorem kS_4000 : R32 4000 ∧ (Int16.ofInt 4000).toInt32 = Int32.ofInt 4000 := ⟨kI_4000, by decide⟩
theorem kS_4010 : R32 4010 ∧ (Int16.ofInt 4010).toInt32 = Int32.ofInt 4010 := ⟨kI_4010, by decide⟩
theorem kS_4210 : R32 4210 ∧ (Int16.ofInt 4210).toInt32 = Int32.ofInt 4210 := ⟨kI_4210, by decide⟩
theorem kS_9999 : R32 9999 ∧ (Int16.ofInt 9999).toInt32 = Int32.ofInt 9999 := ⟨kI_9999, by decide⟩
theorem kS_10000 : R32 10000 ∧ (Int16.ofInt 10000).toInt32 = Int32.ofInt 10000 := ⟨kI_10000, by decide⟩
theorem kS_16000 : R32 16000 ∧ (Int16.ofInt 16000).toInt32 = Int32.ofInt 16000 := ⟨kI_16000, by decide⟩
theorem kS_20000 : R32 20000 ∧ (Int16.ofInt 20000).toInt32 = Int32.ofInt 20000 := ⟨kI_20000, by decide⟩
theorem kS_20009 : R32 20009 ∧ (Int16.ofInt 20009).toInt32 = Int32.ofInt 20009 := ⟨kI_20009, by decide⟩
theorem kS_20010 : R32 20010 ∧ (Int16.ofInt 20010).toInt32 = Int32.ofInt 20010 := ⟨kI_20010, by decide⟩
theorem kJ_m100000 : R64 (-100000) := ⟨by decide, by decide⟩
theorem kJ_m99 : R64 (-99) := ⟨by decide, by decide⟩
theorem kJ_m1 : R64 (-1) := ⟨by decide, by decide⟩
theorem kJ_0 : R64 0 := ⟨by decide, by decide⟩
theorem kL_0 : R64 0 ∧ Int64.ofNat ((0 : Fin 2) : Nat) = Int64.ofInt 0 := ⟨kJ_0, by decide⟩
theorem kJ_1 : R64 1 := ⟨by decide, by decide⟩
theorem kL_1 : R64 1 ∧ Int64.ofNat ((1 : Fin 2) : Nat) = Int64.ofInt 1 := ⟨kJ_1, by decide⟩
theorem kJ_2 : R64 2 := ⟨by decide, by decide⟩
theorem kJ_3 : R64 3 := ⟨by decide, by decide⟩
theorem kJ_4 : R64 4 := ⟨by decide, by decide⟩
theorem kJ_5 : R64 5 := ⟨by decide, by decide⟩
theorem kJ_7 : R64 7 := ⟨by decide, by decide⟩
theorem kJ_8 : R64 8 := ⟨by decide, by decide⟩
theorem kJ_9 : R64 9 := ⟨by decide, by decide⟩
theorem kJ_12 : R64 12 := ⟨by decide, by decide⟩
theorem kJ_23 : R64 23 := ⟨by decide, by decide⟩
theorem kJ_24 : R64 24 := ⟨by decide, by decide⟩
theorem kJ_29 : R64 29 := ⟨by decide, by decide⟩
theorem kJ_48 : R64 48 := ⟨by decide, by decide⟩
theorem kJ_57 : R64 57 := ⟨by decide, by decide⟩
theorem kJ_59 : R64 59 := ⟨by decide, by decide⟩
theorem kJ_60 : R64 60 := ⟨by decide, by decide⟩
theorem kJ_97 : R64 97 := ⟨by decide, by decide⟩
theorem kJ_99 : R64 99 := ⟨by decide, by decide⟩
theorem kJ_100 : R64 100 := ⟨by decide, by decide⟩
theorem kJ_122 : R64 122 := ⟨by decide, by decide⟩
theorem kJ_255 : R64 255 := ⟨by decide, by decide⟩
theorem kJ_416 : R64 416 := ⟨by decide, by decide⟩
theorem kJ_999 : R64 999 := ⟨by decide, by decide⟩
theorem kJ_9999 : R64 9999 := ⟨by decide, by decide⟩
theorem kJ_20000 : R64 20000 := ⟨by decide, by decide⟩
theorem kJ_100000 : R64 100000 := ⟨by decide, by decide⟩
theorem kJ_4000000000 : R64 4000000000 := ⟨by decide, by decide⟩
theorem fl_J0_9 : Cond.fieldLink RJ0 9 "java/lang/String" "value" "[B" ∈ wsT := wsT_in (tb_10 (List.mem_of_getElem? (i := 20) rfl)) rfl
theorem fl_J0_15 : Cond.fieldLink RJ0 15 "java/lang/String" "coder" "B" ∈ wsT := wsT_in (tb_10 (List.mem_of_getElem? (i := 21) rfl)) rfl
theorem fl_J0_38 : Cond.fieldLink RJ0 38 "java/lang/String" "COMPACT_STRINGS" "Z" ∈ wsT := wsT_in (tb_4 (List.mem_of_getElem? (i := 179) rfl)) rfl
theorem fl_J0_1053 : Cond.fieldLink RJ0 1053 "jdk/internal/util/Preconditions" "SIOOBE_FORMATTER" "Ljava/util/function/BiFunction;" ∈ wsT := wsT_in (tb_4 (List.mem_of_getElem? (i := 195) rfl)) rfl
theorem fl_X0_9 : Cond.fieldLink RX0 9 "CutCity$City" "hour" "I" ∈ wsT := wsT_in (tb_2 (List.mem_of_getElem? (i := 101) rfl)) rfl
theorem fl_X0_15 : Cond.fieldLink RX0 15 "CutCity$City" "cells" "I" ∈ wsT := wsT_in (tb_2 (List.mem_of_getElem? (i := 103) rfl)) rfl
theorem fl_X0_18 : Cond.fieldLink RX0 18 "CutCity$City" "side" "[I" ∈ wsT := wsT_in (tb_2 (List.mem_of_getElem? (i := 106) rfl)) rfl
theorem fl_X0_22 : Cond.fieldLink RX0 22 "CutCity$City" "use" "[I" ∈ wsT := wsT_in (tb_2 (List.mem_of_getElem? (i := 108) rfl)) rfl
theorem fl_X0_25 : Cond.fieldLink RX0 25 "CutCity$City" "source" "[I" ∈ wsT := wsT_in (tb_2 (List.mem_of_getElem? (i := 111) rfl)) rfl
theorem fl_X0_29 : Cond.fieldLink RX0 29 "CutCity$City" "falseFrom" "[I" ∈ wsT := wsT_in (tb_2 (List.mem_of_getElem? (i := 114) rfl)) rfl
theorem fl_X0_32 : Cond.fieldLink RX0 32 "CutCity$City" "rules" "[I" ∈ wsT := wsT_in (tb_2 (List.mem_of_getElem? (i := 117) rfl)) rfl
theorem fl_X0_38 : Cond.fieldLink RX0 38 "CutCity$City" "folk" "LCutCity$Persons;" ∈ wsT := wsT_in (tb_2 (List.mem_of_getElem? (i := 120) rfl)) rfl
theorem fl_X0_45 : Cond.fieldLink RX0 45 "CutCity$City" "ties" "LCutCity$Ties;" ∈ wsT := wsT_in (tb_2 (List.mem_of_getElem? (i := 122) rfl)) rfl
theorem fl_X0_52 : Cond.fieldLink RX0 52 "CutCity$City" "post" "LCutCity$Post;" ∈ wsT := wsT_in (tb_2 (List.mem_of_getElem? (i := 125) rfl)) rfl
theorem fl_X0_59 : Cond.fieldLink RX0 59 "CutCity$City" "laws" "LCutCity$Laws;" ∈ wsT := wsT_in (tb_2 (List.mem_of_getElem? (i := 127) rfl)) rfl
theorem fl_X0_66 : Cond.fieldLink RX0 66 "CutCity$City" "files" "LCutCity$Files;" ∈ wsT := wsT_in (tb_2 (List.mem_of_getElem? (i := 129) rfl)) rfl
theorem fl_X0_73 : Cond.fieldLink RX0 73 "CutCity$City" "feast" "LCutCity$Feast;" ∈ wsT := wsT_in (tb_2 (List.mem_of_getElem? (i := 131) rfl)) rfl
theorem fl_X0_80 : Cond.fieldLink RX0 80 "CutCity$City" "clauses" "LCutCity$Clauses;" ∈ wsT := wsT_in (tb_2 (List.mem_of_getElem? (i := 133) rfl)) rfl
theorem fl_X0_110 : Cond.fieldLink RX0 110 "CutCity$Persons" "home" "[I" ∈ wsT := wsT_in (tb_1 (List.mem_of_getElem? (i := 48) rfl)) rfl
theorem fl_X0_113 : Cond.fieldLink RX0 113 "CutCity$Persons" "cell" "[I" ∈ wsT := wsT_in (tb_1 (List.mem_of_getElem? (i := 57) rfl)) rfl
theorem fl_X0_120 : Cond.fieldLink RX0 120 "CutCity$Persons" "number" "I" ∈ wsT := wsT_in (tb_1 (List.mem_of_getElem? (i := 45) rfl)) rfl
theorem fl_X0_127 : Cond.fieldLink RX0 127 "CutCity$Ties" "kind" "[I" ∈ wsT := wsT_in (tb_1 (List.mem_of_getElem? (i := 107) rfl)) rfl
theorem fl_X0_140 : Cond.fieldLink RX0 140 "CutCity$Ties" "one" "[I" ∈ wsT := wsT_in (tb_1 (List.mem_of_getElem? (i := 111) rfl)) rfl
theorem fl_X0_143 : Cond.fieldLink RX0 143 "CutCity$Ties" "state" "[I" ∈ wsT := wsT_in (tb_1 (List.mem_of_getElem? (i := 128) rfl)) rfl
theorem fl_X0_146 : Cond.fieldLink RX0 146 "CutCity$Persons" "with" "[I" ∈ wsT := wsT_in (tb_1 (List.mem_of_getElem? (i := 62) rfl)) rfl
theorem fl_X0_169 : Cond.fieldLink RX0 169 "CutCity$Ties" "number" "I" ∈ wsT := wsT_in (tb_1 (List.mem_of_getElem? (i := 104) rfl)) rfl
theorem fl_X0_177 : Cond.fieldLink RX0 177 "CutCity$Ties" "c" "[I" ∈ wsT := wsT_in (tb_1 (List.mem_of_getElem? (i := 119) rfl)) rfl
theorem fl_X0_199 : Cond.fieldLink RX0 199 "CutCity$Ties" "ending" "[I" ∈ wsT := wsT_in (tb_1 (List.mem_of_getElem? (i := 131) rfl)) rfl
theorem fl_X0_202 : Cond.fieldLink RX0 202 "CutCity$Ties" "other" "[I" ∈ wsT := wsT_in (tb_1 (List.mem_of_getElem? (i := 116) rfl)) rfl
theorem fl_X0_211 : Cond.fieldLink RX0 211 "CutCity$Ties" "to" "[I" ∈ wsT := wsT_in (tb_1 (List.mem_of_getElem? (i := 126) rfl)) rfl
theorem fl_X0_229 : Cond.fieldLink RX0 229 "CutCity$Ties" "from" "[I" ∈ wsT := wsT_in (tb_1 (List.mem_of_getElem? (i := 123) rfl)) rfl
theorem fl_X0_242 : Cond.fieldLink RX0 242 "CutCity$Persons" "age" "[I" ∈ wsT := wsT_in (tb_1 (List.mem_of_getElem? (i := 52) rfl)) rfl
theorem fl_X0_245 : Cond.fieldLink RX0 245 "CutCity$Persons" "papers" "[I" ∈ wsT := wsT_in (tb_1 (List.mem_of_getElem? (i := 55) rfl)) rfl
theorem fl_X0_261 : Cond.fieldLink RX0 261 "CutCity$Ties" "passOf" "[I" ∈ wsT := wsT_in (tb_1 (List.mem_of_getElem? (i := 137) rfl)) rfl
theorem fl_X0_264 : Cond.fieldLink RX0 264 "CutCity$Ties" "stuff" "[I" ∈ wsT := wsT_in (tb_1 (List.mem_of_getElem? (i := 134) rfl)) rfl
theorem fl_X0_276 : Cond.fieldLink RX0 276 "CutCity$Ties" "near" "[I" ∈ wsT := wsT_in (tb_1 (List.mem_of_getElem? (i := 145) rfl)) rfl
theorem fl_X0_282 : Cond.fieldLink RX0 282 "CutCity$Ties" "stopMinutes" "[I" ∈ wsT := wsT_in (tb_1 (List.mem_of_getElem? (i := 143) rfl)) rfl
theorem fl_X0_285 : Cond.fieldLink RX0 285 "CutCity$Ties" "stopCell" "[I" ∈ wsT := wsT_in (tb_1 (List.mem_of_getElem? (i := 141) rfl)) rfl
theorem fl_X1_9 : Cond.fieldLink RX1 9 "CutCity$Clauses" "number" "I" ∈ wsT := wsT_in (tb_2 (List.mem_of_getElem? (i := 67) rfl)) rfl
theorem fl_X1_15 : Cond.fieldLink RX1 15 "CutCity$Clauses" "worth" "[I" ∈ wsT := wsT_in (tb_2 (List.mem_of_getElem? (i := 69) rfl)) rfl
theorem fl_X1_19 : Cond.fieldLink RX1 19 "CutCity$Clauses" "other" "[I" ∈ wsT := wsT_in (tb_2 (List.mem_of_getElem? (i := 70) rfl)) rfl
theorem fl_X1_22 : Cond.fieldLink RX1 22 "CutCity$Clauses" "visits" "[I" ∈ wsT := wsT_in (tb_2 (List.mem_of_getElem? (i := 71) rfl)) rfl
theorem fl_X1_25 : Cond.fieldLink RX1 25 "CutCity$Clauses" "best" "[I" ∈ wsT := wsT_in (tb_2 (List.mem_of_getElem? (i := 73) rfl)) rfl
theorem fl_X1_28 : Cond.fieldLink RX1 28 "CutCity$Clauses" "bestYears" "I" ∈ wsT := wsT_in (tb_2 (List.mem_of_getElem? (i := 75) rfl)) rfl
theorem fl_X1_31 : Cond.fieldLink RX1 31 "CutCity$Clauses" "order" "[I" ∈ wsT := wsT_in (tb_2 (List.mem_of_getElem? (i := 76) rfl)) rfl
theorem fl_X1_34 : Cond.fieldLink RX1 34 "CutCity$Clauses" "wanted" "I" ∈ wsT := wsT_in (tb_2 (List.mem_of_getElem? (i := 77) rfl)) rfl
theorem fl_X1_37 : Cond.fieldLink RX1 37 "CutCity$Clauses" "floor" "I" ∈ wsT := wsT_in (tb_2 (List.mem_of_getElem? (i := 78) rfl)) rfl
theorem fl_X1_40 : Cond.fieldLink RX1 40 "CutCity$Clauses" "triesLeft" "I" ∈ wsT := wsT_in (tb_2 (List.mem_of_getElem? (i := 79) rfl)) rfl
theorem fl_X10_11 : Cond.fieldLink RX10 11 "CutCity$Water" "room" "[I" ∈ wsT := wsT_in (tb_3 (List.mem_of_getElem? (i := 2) rfl)) rfl
theorem fl_X10_15 : Cond.fieldLink RX10 15 "CutCity$Water" "ahead" "[I" ∈ wsT := wsT_in (tb_3 (List.mem_of_getElem? (i := 3) rfl)) rfl
theorem fl_X10_18 : Cond.fieldLink RX10 18 "CutCity$Water" "line" "[I" ∈ wsT := wsT_in (tb_3 (List.mem_of_getElem? (i := 4) rfl)) rfl
theorem fl_X10_39 : Cond.fieldLink RX10 39 "CutCity$City" "cells" "I" ∈ wsT := wsT_in (tb_2 (List.mem_of_getElem? (i := 104) rfl)) rfl
theorem fl_X10_45 : Cond.fieldLink RX10 45 "CutCity$City" "source" "[I" ∈ wsT := wsT_in (tb_2 (List.mem_of_getElem? (i := 112) rfl)) rfl
theorem fl_X10_48 : Cond.fieldLink RX10 48 "CutCity$City" "side" "[I" ∈ wsT := wsT_in (tb_2 (List.mem_of_getElem? (i := 107) rfl)) rfl
theorem fl_X10_51 : Cond.fieldLink RX10 51 "CutCity$City" "use" "[I" ∈ wsT := wsT_in (tb_2 (List.mem_of_getElem? (i := 109) rfl)) rfl
theorem fl_X10_54 : Cond.fieldLink RX10 54 "CutCity$City" "ties" "LCutCity$Ties;" ∈ wsT := wsT_in (tb_2 (List.mem_of_getElem? (i := 123) rfl)) rfl
theorem fl_X10_58 : Cond.fieldLink RX10 58 "CutCity$Ties" "number" "I" ∈ wsT := wsT_in (tb_1 (List.mem_of_getElem? (i := 102) rfl)) rfl
theorem fl_X10_63 : Cond.fieldLink RX10 63 "CutCity$Ties" "kind" "[I" ∈ wsT := wsT_in (tb_1 (List.mem_of_getElem? (i := 106) rfl)) rfl
theorem fl_X10_66 : Cond.fieldLink RX10 66 "CutCity$Ties" "one" "[I" ∈ wsT := wsT_in (tb_1 (List.mem_of_getElem? (i := 110) rfl)) rfl
theorem fl_X10_69 : Cond.fieldLink RX10 69 "CutCity$Ties" "other" "[I" ∈ wsT := wsT_in (tb_1 (List.mem_of_getElem? (i := 114) rfl)) rfl
theorem fl_X10_72 : Cond.fieldLink RX10 72 "CutCity$Ties" "c" "[I" ∈ wsT := wsT_in (tb_1 (List.mem_of_getElem? (i := 118) rfl)) rfl
theorem fl_X11_12 : Cond.fieldLink RX11 12 "CutCity" "now" "LCutCity$City;" ∈ wsT := wsT_in (tb_3 (List.mem_of_getElem? (i := 12) rfl)) rfl
theorem fl_X11_16 : Cond.fieldLink RX11 16 "CutCity" "image" "LCutCity$City;" ∈ wsT := wsT_in (tb_3 (List.mem_of_getElem? (i := 13) rfl)) rfl
theorem fl_X11_19 : Cond.fieldLink RX11 19 "CutCity" "ghost" "LCutCity$City;" ∈ wsT := wsT_in (tb_3 (List.mem_of_getElem? (i := 14) rfl)) rfl
theorem fl_X11_22 : Cond.fieldLink RX11 22 "CutCity" "kept" "Z" ∈ wsT := wsT_in (tb_3 (List.mem_of_getElem? (i := 15) rfl)) rfl
theorem fl_X11_29 : Cond.fieldLink RX11 29 "CutCity" "tape" "LCutCity$Tape;" ∈ wsT := wsT_in (tb_3 (List.mem_of_getElem? (i := 16) rfl)) rfl
theorem fl_X11_36 : Cond.fieldLink RX11 36 "CutCity" "meters" "LCutCity$Meters;" ∈ wsT := wsT_in (tb_3 (List.mem_of_getElem? (i := 17) rfl)) rfl
theorem fl_X11_43 : Cond.fieldLink RX11 43 "CutCity" "pipes" "LCutCity$Water;" ∈ wsT := wsT_in (tb_3 (List.mem_of_getElem? (i := 18) rfl)) rfl
theorem fl_X11_47 : Cond.fieldLink RX11 47 "CutCity" "numbers" "[I" ∈ wsT := wsT_in (tb_3 (List.mem_of_getElem? (i := 19) rfl)) rfl
theorem fl_X11_51 : Cond.fieldLink RX11 51 "CutCity" "numbersWaiting" "I" ∈ wsT := wsT_in (tb_3 (List.mem_of_getElem? (i := 20) rfl)) rfl
theorem fl_X11_55 : Cond.fieldLink RX11 55 "CutCity" "rows" "[I" ∈ wsT := wsT_in (tb_3 (List.mem_of_getElem? (i := 21) rfl)) rfl
theorem fl_X11_75 : Cond.fieldLink RX11 75 "CutCity$City" "cells" "I" ∈ wsT := wsT_in (tb_2 (List.mem_of_getElem? (i := 105) rfl)) rfl
theorem fl_X11_90 : Cond.fieldLink RX11 90 "CutCity$City" "use" "[I" ∈ wsT := wsT_in (tb_2 (List.mem_of_getElem? (i := 110) rfl)) rfl
theorem fl_X11_93 : Cond.fieldLink RX11 93 "CutCity$City" "source" "[I" ∈ wsT := wsT_in (tb_2 (List.mem_of_getElem? (i := 113) rfl)) rfl
theorem fl_X11_100 : Cond.fieldLink RX11 100 "CutCity$City" "folk" "LCutCity$Persons;" ∈ wsT := wsT_in (tb_2 (List.mem_of_getElem? (i := 121) rfl)) rfl
theorem fl_X11_104 : Cond.fieldLink RX11 104 "CutCity$Persons" "number" "I" ∈ wsT := wsT_in (tb_1 (List.mem_of_getElem? (i := 46) rfl)) rfl
theorem fl_X11_116 : Cond.fieldLink RX11 116 "CutCity$Persons" "home" "[I" ∈ wsT := wsT_in (tb_1 (List.mem_of_getElem? (i := 49) rfl)) rfl
theorem fl_X11_119 : Cond.fieldLink RX11 119 "CutCity$Persons" "age" "[I" ∈ wsT := wsT_in (tb_1 (List.mem_of_getElem? (i := 51) rfl)) rfl
theorem fl_X11_122 : Cond.fieldLink RX11 122 "CutCity$Persons" "papers" "[I" ∈ wsT := wsT_in (tb_1 (List.mem_of_getElem? (i := 54) rfl)) rfl
theorem fl_X11_125 : Cond.fieldLink RX11 125 "CutCity$Persons" "cell" "[I" ∈ wsT := wsT_in (tb_1 (List.mem_of_getElem? (i := 58) rfl)) rfl
theorem fl_X11_128 : Cond.fieldLink RX11 128 "CutCity$Persons" "street" "[I" ∈ wsT := wsT_in (tb_1 (List.mem_of_getElem? (i := 60) rfl)) rfl
theorem fl_X11_131 : Cond.fieldLink RX11 131 "CutCity$Persons" "dead" "I" ∈ wsT := wsT_in (tb_1 (List.mem_of_getElem? (i := 67) rfl)) rfl
theorem fl_X11_134 : Cond.fieldLink RX11 134 "CutCity$Persons" "known" "[I" ∈ wsT := wsT_in (tb_1 (List.mem_of_getElem? (i := 70) rfl)) rfl
theorem fl_X11_151 : Cond.fieldLink RX11 151 "CutCity$City" "ties" "LCutCity$Ties;" ∈ wsT := wsT_in (tb_2 (List.mem_of_getElem? (i := 124) rfl)) rfl
theorem fl_X11_155 : Cond.fieldLink RX11 155 "CutCity$Ties" "number" "I" ∈ wsT := wsT_in (tb_1 (List.mem_of_getElem? (i := 103) rfl)) rfl
theorem fl_X11_163 : Cond.fieldLink RX11 163 "CutCity$Ties" "from" "[I" ∈ wsT := wsT_in (tb_1 (List.mem_of_getElem? (i := 122) rfl)) rfl
theorem fl_X11_166 : Cond.fieldLink RX11 166 "CutCity$Ties" "to" "[I" ∈ wsT := wsT_in (tb_1 (List.mem_of_getElem? (i := 125) rfl)) rfl
theorem fl_X11_172 : Cond.fieldLink RX11 172 "CutCity$Ties" "state" "[I" ∈ wsT := wsT_in (tb_1 (List.mem_of_getElem? (i := 129) rfl)) rfl
theorem fl_X11_175 : Cond.fieldLink RX11 175 "CutCity$Ties" "one" "[I" ∈ wsT := wsT_in (tb_1 (List.mem_of_getElem? (i := 112) rfl)) rfl
theorem fl_X11_178 : Cond.fieldLink RX11 178 "CutCity$Ties" "other" "[I" ∈ wsT := wsT_in (tb_1 (List.mem_of_getElem? (i := 115) rfl)) rfl
theorem fl_X11_181 : Cond.fieldLink RX11 181 "CutCity$Ties" "stuff" "[I" ∈ wsT := wsT_in (tb_1 (List.mem_of_getElem? (i := 133) rfl)) rfl
theorem fl_X11_184 : Cond.fieldLink RX11 184 "CutCity$Ties" "passOf" "[I" ∈ wsT := wsT_in (tb_1 (List.mem_of_getElem? (i := 136) rfl)) rfl
theorem fl_X11_188 : Cond.fieldLink RX11 188 "CutCity$Ties" "kind" "[I" ∈ wsT := wsT_in (tb_1 (List.mem_of_getElem? (i := 108) rfl)) rfl
theorem fl_X11_191 : Cond.fieldLink RX11 191 "CutCity$Ties" "c" "[I" ∈ wsT := wsT_in (tb_1 (List.mem_of_getElem? (i := 120) rfl)) rfl
theorem fl_X11_218 : Cond.fieldLink RX11 218 "CutCity$City" "post" "LCutCity$Post;" ∈ wsT := wsT_in (tb_2 (List.mem_of_getElem? (i := 126) rfl)) rfl
theorem fl_X11_222 : Cond.fieldLink RX11 222 "CutCity$Post" "letters" "I" ∈ wsT := wsT_in (tb_1 (List.mem_of_getElem? (i := 184) rfl)) rfl
theorem fl_X11_227 : Cond.fieldLink RX11 227 "CutCity$City" "hour" "I" ∈ wsT := wsT_in (tb_2 (List.mem_of_getElem? (i := 102) rfl)) rfl
theorem fl_X11_233 : Cond.fieldLink RX11 233 "CutCity$Post" "calls" "I" ∈ wsT := wsT_in (tb_1 (List.mem_of_getElem? (i := 189) rfl)) rfl
theorem fl_X11_245 : Cond.fieldLink RX11 245 "CutCity$Tape" "size" "I" ∈ wsT := wsT_in (tb_2 (List.mem_of_getElem? (i := 171) rfl)) rfl
theorem fl_X11_255 : Cond.fieldLink RX11 255 "CutCity$City" "laws" "LCutCity$Laws;" ∈ wsT := wsT_in (tb_2 (List.mem_of_getElem? (i := 128) rfl)) rfl
theorem fl_X11_259 : Cond.fieldLink RX11 259 "CutCity$Laws" "number" "I" ∈ wsT := wsT_in (tb_1 (List.mem_of_getElem? (i := 217) rfl)) rfl
theorem fl_X11_267 : Cond.fieldLink RX11 267 "CutCity$Laws" "key" "[I" ∈ wsT := wsT_in (tb_1 (List.mem_of_getElem? (i := 219) rfl)) rfl
theorem fl_X11_270 : Cond.fieldLink RX11 270 "CutCity$Laws" "side" "[I" ∈ wsT := wsT_in (tb_1 (List.mem_of_getElem? (i := 221) rfl)) rfl
theorem fl_X11_273 : Cond.fieldLink RX11 273 "CutCity$Laws" "day" "[I" ∈ wsT := wsT_in (tb_1 (List.mem_of_getElem? (i := 223) rfl)) rfl
theorem fl_X11_276 : Cond.fieldLink RX11 276 "CutCity$Laws" "struck" "[I" ∈ wsT := wsT_in (tb_1 (List.mem_of_getElem? (i := 225) rfl)) rfl
theorem fl_X11_279 : Cond.fieldLink RX11 279 "CutCity$Laws" "parts" "[I" ∈ wsT := wsT_in (tb_1 (List.mem_of_getElem? (i := 227) rfl)) rfl
theorem fl_X11_314 : Cond.fieldLink RX11 314 "CutCity$Ties" "stops" "[I" ∈ wsT := wsT_in (tb_1 (List.mem_of_getElem? (i := 139) rfl)) rfl
theorem fl_X11_323 : Cond.fieldLink RX11 323 "CutCity$City" "files" "LCutCity$Files;" ∈ wsT := wsT_in (tb_2 (List.mem_of_getElem? (i := 130) rfl)) rfl
theorem fl_X11_327 : Cond.fieldLink RX11 327 "CutCity$Files" "number" "[I" ∈ wsT := wsT_in (tb_2 (List.mem_of_getElem? (i := 20) rfl)) rfl
theorem fl_X11_342 : Cond.fieldLink RX11 342 "CutCity$Files" "paired" "[I" ∈ wsT := wsT_in (tb_2 (List.mem_of_getElem? (i := 24) rfl)) rfl
theorem fl_X11_345 : Cond.fieldLink RX11 345 "CutCity$Files" "partner" "[I" ∈ wsT := wsT_in (tb_2 (List.mem_of_getElem? (i := 26) rfl)) rfl
theorem fl_X11_355 : Cond.fieldLink RX11 355 "CutCity$Meters" "sort" "[I" ∈ wsT := wsT_in (tb_2 (List.mem_of_getElem? (i := 225) rfl)) rfl
theorem fl_X11_360 : Cond.fieldLink RX11 360 "CutCity$Meters" "row" "[I" ∈ wsT := wsT_in (tb_2 (List.mem_of_getElem? (i := 228) rfl)) rfl
theorem fl_X11_371 : Cond.fieldLink RX11 371 "CutCity$City" "falseFrom" "[I" ∈ wsT := wsT_in (tb_2 (List.mem_of_getElem? (i := 116) rfl)) rfl
theorem fl_X11_380 : Cond.fieldLink RX11 380 "CutCity$City" "rules" "[I" ∈ wsT := wsT_in (tb_2 (List.mem_of_getElem? (i := 119) rfl)) rfl
theorem fl_X11_383 : Cond.fieldLink RX11 383 "CutCity$City" "feast" "LCutCity$Feast;" ∈ wsT := wsT_in (tb_2 (List.mem_of_getElem? (i := 132) rfl)) rfl
theorem fl_X11_387 : Cond.fieldLink RX11 387 "CutCity$Feast" "told" "[I" ∈ wsT := wsT_in (tb_2 (List.mem_of_getElem? (i := 51) rfl)) rfl
theorem fl_X11_398 : Cond.fieldLink RX11 398 "CutCity$City" "clauses" "LCutCity$Clauses;" ∈ wsT := wsT_in (tb_2 (List.mem_of_getElem? (i := 134) rfl)) rfl
theorem fl_X11_402 : Cond.fieldLink RX11 402 "CutCity$Clauses" "number" "I" ∈ wsT := wsT_in (tb_2 (List.mem_of_getElem? (i := 68) rfl)) rfl
theorem fl_X11_411 : Cond.fieldLink RX11 411 "CutCity$Clauses" "best" "[I" ∈ wsT := wsT_in (tb_2 (List.mem_of_getElem? (i := 74) rfl)) rfl
theorem fl_X11_423 : Cond.fieldLink RX11 423 "CutCity$Clauses" "visits" "[I" ∈ wsT := wsT_in (tb_2 (List.mem_of_getElem? (i := 72) rfl)) rfl
theorem fl_X11_430 : Cond.fieldLink RX11 430 "CutCity$Persons" "lined" "I" ∈ wsT := wsT_in (tb_1 (List.mem_of_getElem? (i := 65) rfl)) rfl
theorem fl_X12_7 : Cond.fieldLink RX12 7 "CutCityModel" "s" "[I" ∈ wsT := wsT_in (tb_7 (List.mem_of_getElem? (i := 34) rfl)) rfl
theorem fl_X12_13 : Cond.fieldLink RX12 13 "CutCityModel" "image" "[I" ∈ wsT := wsT_in (tb_7 (List.mem_of_getElem? (i := 35) rfl)) rfl
theorem fl_X12_16 : Cond.fieldLink RX12 16 "CutCityModel" "aside" "[I" ∈ wsT := wsT_in (tb_7 (List.mem_of_getElem? (i := 36) rfl)) rfl
theorem fl_X12_19 : Cond.fieldLink RX12 19 "CutCityModel" "mSort" "[I" ∈ wsT := wsT_in (tb_7 (List.mem_of_getElem? (i := 38) rfl)) rfl
theorem fl_X12_22 : Cond.fieldLink RX12 22 "CutCityModel" "mSize" "[I" ∈ wsT := wsT_in (tb_7 (List.mem_of_getElem? (i := 39) rfl)) rfl
theorem fl_X12_25 : Cond.fieldLink RX12 25 "CutCityModel" "mNumber" "[I" ∈ wsT := wsT_in (tb_7 (List.mem_of_getElem? (i := 40) rfl)) rfl
theorem fl_X12_28 : Cond.fieldLink RX12 28 "CutCityModel" "kin" "[I" ∈ wsT := wsT_in (tb_7 (List.mem_of_getElem? (i := 41) rfl)) rfl
theorem fl_X12_31 : Cond.fieldLink RX12 31 "CutCityModel" "tape" "[I" ∈ wsT := wsT_in (tb_7 (List.mem_of_getElem? (i := 42) rfl)) rfl
theorem fl_X12_34 : Cond.fieldLink RX12 34 "CutCityModel" "supposed" "I" ∈ wsT := wsT_in (tb_7 (List.mem_of_getElem? (i := 54) rfl)) rfl
theorem fl_X12_38 : Cond.fieldLink RX12 38 "CutCityModel" "named" "[I" ∈ wsT := wsT_in (tb_7 (List.mem_of_getElem? (i := 55) rfl)) rfl
theorem fl_X12_41 : Cond.fieldLink RX12 41 "CutCityModel" "pile" "[I" ∈ wsT := wsT_in (tb_7 (List.mem_of_getElem? (i := 56) rfl)) rfl
theorem fl_X12_44 : Cond.fieldLink RX12 44 "CutCityModel" "room" "[I" ∈ wsT := wsT_in (tb_7 (List.mem_of_getElem? (i := 57) rfl)) rfl
theorem fl_X12_47 : Cond.fieldLink RX12 47 "CutCityModel" "before" "[I" ∈ wsT := wsT_in (tb_7 (List.mem_of_getElem? (i := 58) rfl)) rfl
theorem fl_X12_50 : Cond.fieldLink RX12 50 "CutCityModel" "line" "[I" ∈ wsT := wsT_in (tb_7 (List.mem_of_getElem? (i := 59) rfl)) rfl
theorem fl_X12_53 : Cond.fieldLink RX12 53 "CutCityModel" "pairs" "[I" ∈ wsT := wsT_in (tb_7 (List.mem_of_getElem? (i := 60) rfl)) rfl
theorem fl_X12_56 : Cond.fieldLink RX12 56 "CutCityModel" "paired" "[I" ∈ wsT := wsT_in (tb_7 (List.mem_of_getElem? (i := 61) rfl)) rfl
theorem fl_X12_59 : Cond.fieldLink RX12 59 "CutCityModel" "carried" "[I" ∈ wsT := wsT_in (tb_7 (List.mem_of_getElem? (i := 62) rfl)) rfl
theorem fl_X12_62 : Cond.fieldLink RX12 62 "CutCityModel" "queue" "[I" ∈ wsT := wsT_in (tb_7 (List.mem_of_getElem? (i := 63) rfl)) rfl
theorem fl_X12_65 : Cond.fieldLink RX12 65 "CutCityModel" "agreed" "[I" ∈ wsT := wsT_in (tb_7 (List.mem_of_getElem? (i := 64) rfl)) rfl
theorem fl_X12_68 : Cond.fieldLink RX12 68 "CutCityModel" "bestAgreed" "[I" ∈ wsT := wsT_in (tb_7 (List.mem_of_getElem? (i := 65) rfl)) rfl
theorem fl_X12_71 : Cond.fieldLink RX12 71 "CutCityModel" "waits" "[I" ∈ wsT := wsT_in (tb_7 (List.mem_of_getElem? (i := 69) rfl)) rfl
theorem fl_X12_74 : Cond.fieldLink RX12 74 "CutCityModel" "due" "[I" ∈ wsT := wsT_in (tb_7 (List.mem_of_getElem? (i := 71) rfl)) rfl
theorem fl_X12_220 : Cond.fieldLink RX12 220 "CutCityModel" "taped" "I" ∈ wsT := wsT_in (tb_7 (List.mem_of_getElem? (i := 43) rfl)) rfl
theorem fl_X12_231 : Cond.fieldLink RX12 231 "CutCityModel" "behind" "I" ∈ wsT := wsT_in (tb_7 (List.mem_of_getElem? (i := 45) rfl)) rfl
theorem fl_X12_234 : Cond.fieldLink RX12 234 "CutCityModel" "token" "I" ∈ wsT := wsT_in (tb_7 (List.mem_of_getElem? (i := 46) rfl)) rfl
theorem fl_X12_237 : Cond.fieldLink RX12 237 "CutCityModel" "begin" "I" ∈ wsT := wsT_in (tb_7 (List.mem_of_getElem? (i := 44) rfl)) rfl
theorem fl_X12_243 : Cond.fieldLink RX12 243 "CutCityModel" "letter" "I" ∈ wsT := wsT_in (tb_7 (List.mem_of_getElem? (i := 48) rfl)) rfl
theorem fl_X12_249 : Cond.fieldLink RX12 249 "CutCityModel" "number" "I" ∈ wsT := wsT_in (tb_7 (List.mem_of_getElem? (i := 47) rfl)) rfl
theorem fl_X12_260 : Cond.fieldLink RX12 260 "CutCityModel" "laidAt" "I" ∈ wsT := wsT_in (tb_7 (List.mem_of_getElem? (i := 52) rfl)) rfl
theorem fl_X12_263 : Cond.fieldLink RX12 263 "CutCityModel" "laid" "I" ∈ wsT := wsT_in (tb_7 (List.mem_of_getElem? (i := 51) rfl)) rfl
theorem fl_X12_290 : Cond.fieldLink RX12 290 "CutCityModel" "said" "I" ∈ wsT := wsT_in (tb_7 (List.mem_of_getElem? (i := 53) rfl)) rfl
theorem fl_X12_296 : Cond.fieldLink RX12 296 "CutCityModel" "turned" "I" ∈ wsT := wsT_in (tb_7 (List.mem_of_getElem? (i := 50) rfl)) rfl
theorem fl_X12_299 : Cond.fieldLink RX12 299 "CutCityModel" "deep" "I" ∈ wsT := wsT_in (tb_7 (List.mem_of_getElem? (i := 49) rfl)) rfl
theorem fl_X12_408 : Cond.fieldLink RX12 408 "CutCityModel" "bestYears" "I" ∈ wsT := wsT_in (tb_7 (List.mem_of_getElem? (i := 66) rfl)) rfl
theorem fl_X12_411 : Cond.fieldLink RX12 411 "CutCityModel" "isSpent" "Z" ∈ wsT := wsT_in (tb_7 (List.mem_of_getElem? (i := 68) rfl)) rfl
theorem fl_X12_415 : Cond.fieldLink RX12 415 "CutCityModel" "triesLeft" "I" ∈ wsT := wsT_in (tb_7 (List.mem_of_getElem? (i := 67) rfl)) rfl
theorem fl_X12_428 : Cond.fieldLink RX12 428 "CutCityModel" "waiting" "I" ∈ wsT := wsT_in (tb_7 (List.mem_of_getElem? (i := 70) rfl)) rfl
theorem fl_X12_431 : Cond.fieldLink RX12 431 "CutCityModel" "dues" "I" ∈ wsT := wsT_in (tb_7 (List.mem_of_getElem? (i := 72) rfl)) rfl
theorem fl_X12_439 : Cond.fieldLink RX12 439 "CutCityModel" "hasImage" "Z" ∈ wsT := wsT_in (tb_7 (List.mem_of_getElem? (i := 37) rfl)) rfl
theorem fl_X2_9 : Cond.fieldLink RX2 9 "CutCity$Feast" "told" "[I" ∈ wsT := wsT_in (tb_2 (List.mem_of_getElem? (i := 50) rfl)) rfl
theorem fl_X2_15 : Cond.fieldLink RX2 15 "CutCity$Feast" "goesTo" "[I" ∈ wsT := wsT_in (tb_2 (List.mem_of_getElem? (i := 52) rfl)) rfl
theorem fl_X2_18 : Cond.fieldLink RX2 18 "CutCity$Feast" "crowd" "[I" ∈ wsT := wsT_in (tb_2 (List.mem_of_getElem? (i := 53) rfl)) rfl
theorem fl_X3_9 : Cond.fieldLink RX3 9 "CutCity$Files" "number" "[I" ∈ wsT := wsT_in (tb_2 (List.mem_of_getElem? (i := 19) rfl)) rfl
theorem fl_X3_15 : Cond.fieldLink RX3 15 "CutCity$Files" "name" "[I" ∈ wsT := wsT_in (tb_2 (List.mem_of_getElem? (i := 21) rfl)) rfl
theorem fl_X3_18 : Cond.fieldLink RX3 18 "CutCity$Files" "age" "[I" ∈ wsT := wsT_in (tb_2 (List.mem_of_getElem? (i := 22) rfl)) rfl
theorem fl_X3_21 : Cond.fieldLink RX3 21 "CutCity$Files" "paired" "[I" ∈ wsT := wsT_in (tb_2 (List.mem_of_getElem? (i := 23) rfl)) rfl
theorem fl_X3_24 : Cond.fieldLink RX3 24 "CutCity$Files" "partner" "[I" ∈ wsT := wsT_in (tb_2 (List.mem_of_getElem? (i := 25) rfl)) rfl
theorem fl_X3_27 : Cond.fieldLink RX3 27 "CutCity$Files" "found" "Z" ∈ wsT := wsT_in (tb_2 (List.mem_of_getElem? (i := 27) rfl)) rfl
theorem fl_X3_31 : Cond.fieldLink RX3 31 "CutCity$Files" "best" "[I" ∈ wsT := wsT_in (tb_2 (List.mem_of_getElem? (i := 28) rfl)) rfl
theorem fl_X4_9 : Cond.fieldLink RX4 9 "CutCity$Laws" "number" "I" ∈ wsT := wsT_in (tb_1 (List.mem_of_getElem? (i := 216) rfl)) rfl
theorem fl_X4_15 : Cond.fieldLink RX4 15 "CutCity$Laws" "key" "[I" ∈ wsT := wsT_in (tb_1 (List.mem_of_getElem? (i := 218) rfl)) rfl
theorem fl_X4_19 : Cond.fieldLink RX4 19 "CutCity$Laws" "side" "[I" ∈ wsT := wsT_in (tb_1 (List.mem_of_getElem? (i := 220) rfl)) rfl
theorem fl_X4_22 : Cond.fieldLink RX4 22 "CutCity$Laws" "day" "[I" ∈ wsT := wsT_in (tb_1 (List.mem_of_getElem? (i := 222) rfl)) rfl
theorem fl_X4_25 : Cond.fieldLink RX4 25 "CutCity$Laws" "struck" "[I" ∈ wsT := wsT_in (tb_1 (List.mem_of_getElem? (i := 224) rfl)) rfl
theorem fl_X4_28 : Cond.fieldLink RX4 28 "CutCity$Laws" "parts" "[I" ∈ wsT := wsT_in (tb_1 (List.mem_of_getElem? (i := 226) rfl)) rfl
theorem fl_X4_31 : Cond.fieldLink RX4 31 "CutCity$Laws" "length" "[I" ∈ wsT := wsT_in (tb_1 (List.mem_of_getElem? (i := 228) rfl)) rfl
theorem fl_X4_34 : Cond.fieldLink RX4 34 "CutCity$Laws" "code" "[I" ∈ wsT := wsT_in (tb_1 (List.mem_of_getElem? (i := 229) rfl)) rfl
theorem fl_X4_37 : Cond.fieldLink RX4 37 "CutCity$Laws" "names" "[I" ∈ wsT := wsT_in (tb_1 (List.mem_of_getElem? (i := 230) rfl)) rfl
theorem fl_X4_40 : Cond.fieldLink RX4 40 "CutCity$Laws" "stack" "[I" ∈ wsT := wsT_in (tb_1 (List.mem_of_getElem? (i := 231) rfl)) rfl
theorem fl_X4_47 : Cond.fieldLink RX4 47 "CutCity$Tape" "key" "I" ∈ wsT := wsT_in (tb_2 (List.mem_of_getElem? (i := 174) rfl)) rfl
theorem fl_X4_52 : Cond.fieldLink RX4 52 "CutCity$Tape" "parts" "I" ∈ wsT := wsT_in (tb_2 (List.mem_of_getElem? (i := 176) rfl)) rfl
theorem fl_X4_54 : Cond.fieldLink RX4 54 "CutCity$Tape" "length" "I" ∈ wsT := wsT_in (tb_2 (List.mem_of_getElem? (i := 178) rfl)) rfl
theorem fl_X4_56 : Cond.fieldLink RX4 56 "CutCity$Tape" "code" "[I" ∈ wsT := wsT_in (tb_2 (List.mem_of_getElem? (i := 180) rfl)) rfl
theorem fl_X5_9 : Cond.fieldLink RX5 9 "CutCity$Meters" "sort" "[I" ∈ wsT := wsT_in (tb_2 (List.mem_of_getElem? (i := 224) rfl)) rfl
theorem fl_X5_15 : Cond.fieldLink RX5 15 "CutCity$Meters" "days" "[I" ∈ wsT := wsT_in (tb_2 (List.mem_of_getElem? (i := 226) rfl)) rfl
theorem fl_X5_18 : Cond.fieldLink RX5 18 "CutCity$Meters" "row" "[I" ∈ wsT := wsT_in (tb_2 (List.mem_of_getElem? (i := 227) rfl)) rfl
theorem fl_X5_30 : Cond.fieldLink RX5 30 "CutCity$City" "falseFrom" "[I" ∈ wsT := wsT_in (tb_2 (List.mem_of_getElem? (i := 115) rfl)) rfl
theorem fl_X5_46 : Cond.fieldLink RX5 46 "CutCity$City" "rules" "[I" ∈ wsT := wsT_in (tb_2 (List.mem_of_getElem? (i := 118) rfl)) rfl
theorem fl_X6_9 : Cond.fieldLink RX6 9 "CutCity$Persons" "number" "I" ∈ wsT := wsT_in (tb_1 (List.mem_of_getElem? (i := 44) rfl)) rfl
theorem fl_X6_15 : Cond.fieldLink RX6 15 "CutCity$Persons" "home" "[I" ∈ wsT := wsT_in (tb_1 (List.mem_of_getElem? (i := 47) rfl)) rfl
theorem fl_X6_19 : Cond.fieldLink RX6 19 "CutCity$Persons" "age" "[I" ∈ wsT := wsT_in (tb_1 (List.mem_of_getElem? (i := 50) rfl)) rfl
theorem fl_X6_22 : Cond.fieldLink RX6 22 "CutCity$Persons" "papers" "[I" ∈ wsT := wsT_in (tb_1 (List.mem_of_getElem? (i := 53) rfl)) rfl
theorem fl_X6_25 : Cond.fieldLink RX6 25 "CutCity$Persons" "cell" "[I" ∈ wsT := wsT_in (tb_1 (List.mem_of_getElem? (i := 56) rfl)) rfl
theorem fl_X6_28 : Cond.fieldLink RX6 28 "CutCity$Persons" "street" "[I" ∈ wsT := wsT_in (tb_1 (List.mem_of_getElem? (i := 59) rfl)) rfl
theorem fl_X6_31 : Cond.fieldLink RX6 31 "CutCity$Persons" "with" "[I" ∈ wsT := wsT_in (tb_1 (List.mem_of_getElem? (i := 61) rfl)) rfl
theorem fl_X6_34 : Cond.fieldLink RX6 34 "CutCity$Persons" "line" "[I" ∈ wsT := wsT_in (tb_1 (List.mem_of_getElem? (i := 63) rfl)) rfl
theorem fl_X6_37 : Cond.fieldLink RX6 37 "CutCity$Persons" "lined" "I" ∈ wsT := wsT_in (tb_1 (List.mem_of_getElem? (i := 64) rfl)) rfl
theorem fl_X6_40 : Cond.fieldLink RX6 40 "CutCity$Persons" "dead" "I" ∈ wsT := wsT_in (tb_1 (List.mem_of_getElem? (i := 66) rfl)) rfl
theorem fl_X6_43 : Cond.fieldLink RX6 43 "CutCity$Persons" "known" "[I" ∈ wsT := wsT_in (tb_1 (List.mem_of_getElem? (i := 68) rfl)) rfl
theorem fl_X7_9 : Cond.fieldLink RX7 9 "CutCity$Post" "letters" "I" ∈ wsT := wsT_in (tb_1 (List.mem_of_getElem? (i := 183) rfl)) rfl
theorem fl_X7_15 : Cond.fieldLink RX7 15 "CutCity$Post" "due" "[I" ∈ wsT := wsT_in (tb_1 (List.mem_of_getElem? (i := 185) rfl)) rfl
theorem fl_X7_19 : Cond.fieldLink RX7 19 "CutCity$Post" "toSide" "[I" ∈ wsT := wsT_in (tb_1 (List.mem_of_getElem? (i := 186) rfl)) rfl
theorem fl_X7_22 : Cond.fieldLink RX7 22 "CutCity$Post" "news" "[I" ∈ wsT := wsT_in (tb_1 (List.mem_of_getElem? (i := 187) rfl)) rfl
theorem fl_X7_25 : Cond.fieldLink RX7 25 "CutCity$Post" "calls" "I" ∈ wsT := wsT_in (tb_1 (List.mem_of_getElem? (i := 188) rfl)) rfl
theorem fl_X7_28 : Cond.fieldLink RX7 28 "CutCity$Post" "wire" "[I" ∈ wsT := wsT_in (tb_1 (List.mem_of_getElem? (i := 190) rfl)) rfl
theorem fl_X7_31 : Cond.fieldLink RX7 31 "CutCity$Post" "rank" "[I" ∈ wsT := wsT_in (tb_1 (List.mem_of_getElem? (i := 191) rfl)) rfl
theorem fl_X7_34 : Cond.fieldLink RX7 34 "CutCity$Post" "lacks" "[I" ∈ wsT := wsT_in (tb_1 (List.mem_of_getElem? (i := 192) rfl)) rfl
theorem fl_X7_41 : Cond.fieldLink RX7 41 "CutCity$Persons" "known" "[I" ∈ wsT := wsT_in (tb_1 (List.mem_of_getElem? (i := 69) rfl)) rfl
theorem fl_X8_9 : Cond.fieldLink RX8 9 "CutCity$Tape" "size" "I" ∈ wsT := wsT_in (tb_2 (List.mem_of_getElem? (i := 170) rfl)) rfl
theorem fl_X8_15 : Cond.fieldLink RX8 15 "CutCity$Tape" "bytes" "[I" ∈ wsT := wsT_in (tb_2 (List.mem_of_getElem? (i := 172) rfl)) rfl
theorem fl_X8_19 : Cond.fieldLink RX8 19 "CutCity$Tape" "key" "I" ∈ wsT := wsT_in (tb_2 (List.mem_of_getElem? (i := 173) rfl)) rfl
theorem fl_X8_22 : Cond.fieldLink RX8 22 "CutCity$Tape" "parts" "I" ∈ wsT := wsT_in (tb_2 (List.mem_of_getElem? (i := 175) rfl)) rfl
theorem fl_X8_25 : Cond.fieldLink RX8 25 "CutCity$Tape" "length" "I" ∈ wsT := wsT_in (tb_2 (List.mem_of_getElem? (i := 177) rfl)) rfl
theorem fl_X8_28 : Cond.fieldLink RX8 28 "CutCity$Tape" "code" "[I" ∈ wsT := wsT_in (tb_2 (List.mem_of_getElem? (i := 179) rfl)) rfl
theorem fl_X8_31 : Cond.fieldLink RX8 31 "CutCity$Tape" "start" "I" ∈ wsT := wsT_in (tb_2 (List.mem_of_getElem? (i := 181) rfl)) rfl
theorem fl_X8_34 : Cond.fieldLink RX8 34 "CutCity$Tape" "end" "I" ∈ wsT := wsT_in (tb_2 (List.mem_of_getElem? (i := 182) rfl)) rfl
theorem fl_X8_37 : Cond.fieldLink RX8 37 "CutCity$Tape" "sort" "I" ∈ wsT := wsT_in (tb_2 (List.mem_of_getElem? (i := 183) rfl)) rfl
theorem fl_X8_40 : Cond.fieldLink RX8 40 "CutCity$Tape" "held" "[I" ∈ wsT := wsT_in (tb_2 (List.mem_of_getElem? (i := 184) rfl)) rfl
theorem fl_X8_43 : Cond.fieldLink RX8 43 "CutCity$Tape" "holds" "I" ∈ wsT := wsT_in (tb_2 (List.mem_of_getElem? (i := 185) rfl)) rfl
theorem fl_X8_46 : Cond.fieldLink RX8 46 "CutCity$Tape" "brackets" "I" ∈ wsT := wsT_in (tb_2 (List.mem_of_getElem? (i := 186) rfl)) rfl
theorem fl_X8_49 : Cond.fieldLink RX8 49 "CutCity$Tape" "nots" "I" ∈ wsT := wsT_in (tb_2 (List.mem_of_getElem? (i := 187) rfl)) rfl
theorem fl_X8_52 : Cond.fieldLink RX8 52 "CutCity$Tape" "wantsPart" "Z" ∈ wsT := wsT_in (tb_2 (List.mem_of_getElem? (i := 188) rfl)) rfl
theorem fl_X9_9 : Cond.fieldLink RX9 9 "CutCity$Ties" "number" "I" ∈ wsT := wsT_in (tb_1 (List.mem_of_getElem? (i := 101) rfl)) rfl
theorem fl_X9_15 : Cond.fieldLink RX9 15 "CutCity$Ties" "kind" "[I" ∈ wsT := wsT_in (tb_1 (List.mem_of_getElem? (i := 105) rfl)) rfl
theorem fl_X9_19 : Cond.fieldLink RX9 19 "CutCity$Ties" "one" "[I" ∈ wsT := wsT_in (tb_1 (List.mem_of_getElem? (i := 109) rfl)) rfl
theorem fl_X9_22 : Cond.fieldLink RX9 22 "CutCity$Ties" "other" "[I" ∈ wsT := wsT_in (tb_1 (List.mem_of_getElem? (i := 113) rfl)) rfl
theorem fl_X9_25 : Cond.fieldLink RX9 25 "CutCity$Ties" "c" "[I" ∈ wsT := wsT_in (tb_1 (List.mem_of_getElem? (i := 117) rfl)) rfl
theorem fl_X9_28 : Cond.fieldLink RX9 28 "CutCity$Ties" "from" "[I" ∈ wsT := wsT_in (tb_1 (List.mem_of_getElem? (i := 121) rfl)) rfl
theorem fl_X9_31 : Cond.fieldLink RX9 31 "CutCity$Ties" "to" "[I" ∈ wsT := wsT_in (tb_1 (List.mem_of_getElem? (i := 124) rfl)) rfl
theorem fl_X9_34 : Cond.fieldLink RX9 34 "CutCity$Ties" "state" "[I" ∈ wsT := wsT_in (tb_1 (List.mem_of_getElem? (i := 127) rfl)) rfl
theorem fl_X9_37 : Cond.fieldLink RX9 37 "CutCity$Ties" "ending" "[I" ∈ wsT := wsT_in (tb_1 (List.mem_of_getElem? (i := 130) rfl)) rfl
theorem fl_X9_40 : Cond.fieldLink RX9 40 "CutCity$Ties" "stuff" "[I" ∈ wsT := wsT_in (tb_1 (List.mem_of_getElem? (i := 132) rfl)) rfl
theorem fl_X9_43 : Cond.fieldLink RX9 43 "CutCity$Ties" "passOf" "[I" ∈ wsT := wsT_in (tb_1 (List.mem_of_getElem? (i := 135) rfl)) rfl
theorem fl_X9_46 : Cond.fieldLink RX9 46 "CutCity$Ties" "stops" "[I" ∈ wsT := wsT_in (tb_1 (List.mem_of_getElem? (i := 138) rfl)) rfl
theorem fl_X9_49 : Cond.fieldLink RX9 49 "CutCity$Ties" "stopCell" "[I" ∈ wsT := wsT_in (tb_1 (List.mem_of_getElem? (i := 140) rfl)) rfl
theorem fl_X9_52 : Cond.fieldLink RX9 52 "CutCity$Ties" "stopMinutes" "[I" ∈ wsT := wsT_in (tb_1 (List.mem_of_getElem? (i := 142) rfl)) rfl
theorem fl_X9_55 : Cond.fieldLink RX9 55 "CutCity$Ties" "near" "[I" ∈ wsT := wsT_in (tb_1 (List.mem_of_getElem? (i := 144) rfl)) rfl
theorem kc_J6_265 : Cond.constant RJ6 265 (Int32.ofInt 1431655765) ∈ wsT := wsT_in (tb_6 (List.mem_of_getElem? (i := 146) rfl)) rfl
theorem kc_J6_266 : Cond.constant RJ6 266 (Int32.ofInt 858993459) ∈ wsT := wsT_in (tb_6 (List.mem_of_getElem? (i := 147) rfl)) rfl
theorem kc_J6_267 : Cond.constant RJ6 267 (Int32.ofInt 252645135) ∈ wsT := wsT_in (tb_6 (List.mem_of_getElem? (i := 148) rfl)) rfl
theorem kc_X0_28 : Cond.constant RX0 28 (Int32.ofInt (-1000000005)) ∈ wsT := wsT_in (tb_1 (List.mem_of_getElem? (i := 37) rfl)) rfl
theorem kc_X1_51 : Cond.constant RX1 51 (Int32.ofInt (-1000000004)) ∈ wsT := wsT_in (tb_6 (List.mem_of_getElem? (i := 182) rfl)) rfl
theorem kc_X1_52 : Cond.constant RX1 52 (Int32.ofInt (-1000000002)) ∈ wsT := wsT_in (tb_6 (List.mem_of_getElem? (i := 183) rfl)) rfl
theorem kc_X10_75 : Cond.constant RX10 75 (Int32.ofInt (-1000000005)) ∈ wsT := wsT_in (tb_5 (List.mem_of_getElem? (i := 175) rfl)) rfl
theorem kc_X11_74 : Cond.constant RX11 74 (Int32.ofInt (-1000000001)) ∈ wsT := wsT_in (tb_3 (List.mem_of_getElem? (i := 50) rfl)) rfl
theorem kc_X11_78 : Cond.constant RX11 78 (Int32.ofInt (-1000000003)) ∈ wsT := wsT_in (tb_3 (List.mem_of_getElem? (i := 51) rfl)) rfl
theorem kc_X11_140 : Cond.constant RX11 140 (Int32.ofInt (-1000000002)) ∈ wsT := wsT_in (tb_3 (List.mem_of_getElem? (i := 99) rfl)) rfl
theorem kc_X11_200 : Cond.constant RX11 200 (Int32.ofInt (-1000000012)) ∈ wsT := wsT_in (tb_3 (List.mem_of_getElem? (i := 172) rfl)) rfl
theorem kc_X11_282 : Cond.constant RX11 282 (Int32.ofInt (-1000000005)) ∈ wsT := wsT_in (tb_5 (List.mem_of_getElem? (i := 104) rfl)) rfl
theorem kc_X11_348 : Cond.constant RX11 348 (Int32.ofInt (-1000000014)) ∈ wsT := wsT_in (tb_6 (List.mem_of_getElem? (i := 37) rfl)) rfl
theorem kc_X11_358 : Cond.constant RX11 358 (Int32.ofInt (-100000)) ∈ wsT := wsT_in (tb_6 (List.mem_of_getElem? (i := 53) rfl)) rfl
theorem kc_X11_359 : Cond.constant RX11 359 (Int32.ofInt 100000) ∈ wsT := wsT_in (tb_6 (List.mem_of_getElem? (i := 54) rfl)) rfl
theorem kc_X11_366 : Cond.constant RX11 366 (Int32.ofInt (-1000000011)) ∈ wsT := wsT_in (tb_6 (List.mem_of_getElem? (i := 68) rfl)) rfl
theorem kc_X11_370 : Cond.constant RX11 370 (Int32.ofInt (-1000000013)) ∈ wsT := wsT_in (tb_6 (List.mem_of_getElem? (i := 73) rfl)) rfl
theorem kc_X12_77 : Cond.constant RX12 77 (Int32.ofInt (-1000000005)) ∈ wsT := wsT_in (tb_7 (List.mem_of_getElem? (i := 204) rfl)) rfl
theorem kc_X12_102 : Cond.constant RX12 102 (Int32.ofInt (-1000000001)) ∈ wsT := wsT_in (tb_7 (List.mem_of_getElem? (i := 162) rfl)) rfl
theorem kc_X12_103 : Cond.constant RX12 103 (Int32.ofInt (-1000000003)) ∈ wsT := wsT_in (tb_7 (List.mem_of_getElem? (i := 163) rfl)) rfl
theorem kc_X12_132 : Cond.constant RX12 132 (Int32.ofInt (-1000000002)) ∈ wsT := wsT_in (tb_7 (List.mem_of_getElem? (i := 218) rfl)) rfl
theorem kc_X12_161 : Cond.constant RX12 161 (Int32.ofInt (-1000000012)) ∈ wsT := wsT_in (tb_8 (List.mem_of_getElem? (i := 42) rfl)) rfl
theorem kc_X12_341 : Cond.constant RX12 341 (Int32.ofInt 1000000) ∈ wsT := wsT_in (tb_9 (List.mem_of_getElem? (i := 60) rfl)) rfl
theorem kc_X12_373 : Cond.constant RX12 373 (Int32.ofInt (-1000000014)) ∈ wsT := wsT_in (tb_9 (List.mem_of_getElem? (i := 124) rfl)) rfl
theorem kc_X12_374 : Cond.constant RX12 374 (Int32.ofInt (-1000000011)) ∈ wsT := wsT_in (tb_9 (List.mem_of_getElem? (i := 133) rfl)) rfl
theorem kc_X12_375 : Cond.constant RX12 375 (Int32.ofInt (-1000000013)) ∈ wsT := wsT_in (tb_9 (List.mem_of_getElem? (i := 134) rfl)) rfl
theorem kc_X12_422 : Cond.constant RX12 422 (Int32.ofInt (-1000000004)) ∈ wsT := wsT_in (tb_9 (List.mem_of_getElem? (i := 214) rfl)) rfl
theorem kc_X3_63 : Cond.constant RX3 63 (Int32.ofInt (-1000000005)) ∈ wsT := wsT_in (tb_6 (List.mem_of_getElem? (i := 32) rfl)) rfl
theorem kc_X4_51 : Cond.constant RX4 51 (Int32.ofInt (-1000000005)) ∈ wsT := wsT_in (tb_4 (List.mem_of_getElem? (i := 1) rfl)) rfl
theorem kc_X5_27 : Cond.constant RX5 27 (Int32.ofInt (-1000000011)) ∈ wsT := wsT_in (tb_6 (List.mem_of_getElem? (i := 51) rfl)) rfl
theorem kc_X5_28 : Cond.constant RX5 28 (Int32.ofInt (-1000000013)) ∈ wsT := wsT_in (tb_6 (List.mem_of_getElem? (i := 52) rfl)) rfl
theorem kc_X5_29 : Cond.constant RX5 29 (Int32.ofInt (-1000000005)) ∈ wsT := wsT_in (tb_6 (List.mem_of_getElem? (i := 63) rfl)) rfl
theorem kc_X6_50 : Cond.constant RX6 50 (Int32.ofInt (-1000000005)) ∈ wsT := wsT_in (tb_3 (List.mem_of_getElem? (i := 78) rfl)) rfl
theorem kc_X7_50 : Cond.constant RX7 50 (Int32.ofInt (-1000000005)) ∈ wsT := wsT_in (tb_4 (List.mem_of_getElem? (i := 119) rfl)) rfl
theorem kc_X8_63 : Cond.constant RX8 63 (Int32.ofInt (-1000000005)) ∈ wsT := wsT_in (tb_4 (List.mem_of_getElem? (i := 219) rfl)) rfl
theorem kc_X9_73 : Cond.constant RX9 73 (Int32.ofInt (-1000000005)) ∈ wsT := wsT_in (tb_3 (List.mem_of_getElem? (i := 128) rfl)) rfl
theorem k2_X11_378 : Cond.constantLong RX11 378 (Int64.ofInt 4000000000) ∈ wsT := wsT_in (tb_6 (List.mem_of_getElem? (i := 108) rfl)) rfl
theorem k2_X12_107 : Cond.constantLong RX12 107 (Int64.ofInt 999) ∈ wsT := wsT_in (tb_7 (List.mem_of_getElem? (i := 176) rfl)) rfl
theorem k2_X12_109 : Cond.constantLong RX12 109 (Int64.ofInt 9999) ∈ wsT := wsT_in (tb_7 (List.mem_of_getElem? (i := 177) rfl)) rfl
theorem k2_X12_115 : Cond.constantLong RX12 115 (Int64.ofInt 99) ∈ wsT := wsT_in (tb_7 (List.mem_of_getElem? (i := 186) rfl)) rfl
theorem k2_X12_117 : Cond.constantLong RX12 117 (Int64.ofInt 3) ∈ wsT := wsT_in (tb_7 (List.mem_of_getElem? (i := 187) rfl)) rfl
theorem k2_X12_122 : Cond.constantLong RX12 122 (Int64.ofInt 7) ∈ wsT := wsT_in (tb_7 (List.mem_of_getElem? (i := 200) rfl)) rfl
theorem k2_X12_127 : Cond.constantLong RX12 127 (Int64.ofInt 2) ∈ wsT := wsT_in (tb_7 (List.mem_of_getElem? (i := 209) rfl)) rfl
theorem k2_X12_138 : Cond.constantLong RX12 138 (Int64.ofInt 9) ∈ wsT := wsT_in (tb_8 (List.mem_of_getElem? (i := 0) rfl)) rfl
theorem k2_X12_140 : Cond.constantLong RX12 140 (Int64.ofInt 60) ∈ wsT := wsT_in (tb_8 (List.mem_of_getElem? (i := 1) rfl)) rfl
theorem k2_X12_142 : Cond.constantLong RX12 142 (Int64.ofInt 5) ∈ wsT := wsT_in (tb_7 (List.mem_of_getElem? (i := 235) rfl)) rfl
theorem k2_X12_162 : Cond.constantLong RX12 162 (Int64.ofInt 23) ∈ wsT := wsT_in (tb_8 (List.mem_of_getElem? (i := 51) rfl)) rfl
theorem k2_X12_215 : Cond.constantLong RX12 215 (Int64.ofInt 100) ∈ wsT := wsT_in (tb_8 (List.mem_of_getElem? (i := 130) rfl)) rfl
theorem k2_X12_223 : Cond.constantLong RX12 223 (Int64.ofInt 97) ∈ wsT := wsT_in (tb_8 (List.mem_of_getElem? (i := 192) rfl)) rfl
theorem k2_X12_225 : Cond.constantLong RX12 225 (Int64.ofInt 122) ∈ wsT := wsT_in (tb_8 (List.mem_of_getElem? (i := 193) rfl)) rfl
theorem k2_X12_227 : Cond.constantLong RX12 227 (Int64.ofInt 48) ∈ wsT := wsT_in (tb_8 (List.mem_of_getElem? (i := 198) rfl)) rfl
theorem k2_X12_229 : Cond.constantLong RX12 229 (Int64.ofInt 57) ∈ wsT := wsT_in (tb_8 (List.mem_of_getElem? (i := 199) rfl)) rfl
theorem k2_X12_311 : Cond.constantLong RX12 311 (Int64.ofInt 416) ∈ wsT := wsT_in (tb_8 (List.mem_of_getElem? (i := 179) rfl)) rfl
theorem k2_X12_319 : Cond.constantLong RX12 319 (Int64.ofInt 4) ∈ wsT := wsT_in (tb_9 (List.mem_of_getElem? (i := 15) rfl)) rfl
theorem k2_X12_348 : Cond.constantLong RX12 348 (Int64.ofInt 59) ∈ wsT := wsT_in (tb_9 (List.mem_of_getElem? (i := 77) rfl)) rfl
theorem k2_X12_371 : Cond.constantLong RX12 371 (Int64.ofInt (-1)) ∈ wsT := wsT_in (tb_9 (List.mem_of_getElem? (i := 123) rfl)) rfl
theorem k2_X12_379 : Cond.constantLong RX12 379 (Int64.ofInt (-100000)) ∈ wsT := wsT_in (tb_9 (List.mem_of_getElem? (i := 139) rfl)) rfl
theorem k2_X12_381 : Cond.constantLong RX12 381 (Int64.ofInt 100000) ∈ wsT := wsT_in (tb_9 (List.mem_of_getElem? (i := 140) rfl)) rfl
theorem k2_X12_383 : Cond.constantLong RX12 383 (Int64.ofInt 29) ∈ wsT := wsT_in (tb_9 (List.mem_of_getElem? (i := 149) rfl)) rfl
theorem k2_X12_391 : Cond.constantLong RX12 391 (Int64.ofInt 12) ∈ wsT := wsT_in (tb_9 (List.mem_of_getElem? (i := 174) rfl)) rfl
theorem k2_X12_396 : Cond.constantLong RX12 396 (Int64.ofInt 255) ∈ wsT := wsT_in (tb_9 (List.mem_of_getElem? (i := 179) rfl)) rfl
theorem k2_X12_401 : Cond.constantLong RX12 401 (Int64.ofInt 8) ∈ wsT := wsT_in (tb_9 (List.mem_of_getElem? (i := 192) rfl)) rfl
theorem k2_X12_406 : Cond.constantLong RX12 406 (Int64.ofInt (-99)) ∈ wsT := wsT_in (tb_9 (List.mem_of_getElem? (i := 200) rfl)) rfl
theorem k2_X12_423 : Cond.constantLong RX12 423 (Int64.ofInt 20000) ∈ wsT := wsT_in (tb_9 (List.mem_of_getElem? (i := 205) rfl)) rfl
theorem k2_X12_437 : Cond.constantLong RX12 437 (Int64.ofInt 24) ∈ wsT := wsT_in (tb_9 (List.mem_of_getElem? (i := 239) rfl)) rfl
theorem k2_X5_53 : Cond.constantLong RX5 53 (Int64.ofInt 4000000000) ∈ wsT := wsT_in (tb_6 (List.mem_of_getElem? (i := 107) rfl)) rfl
theorem k2_X5_64 : Cond.constantLong RX5 64 (Int64.ofInt 100) ∈ wsT := wsT_in (tb_6 (List.mem_of_getElem? (i := 102) rfl)) rfl
theorem k2_X5_70 : Cond.constantLong RX5 70 (Int64.ofInt 2) ∈ wsT := wsT_in (tb_6 (List.mem_of_getElem? (i := 106) rfl)) rfl
theorem ml_J0_335 : Cond.methodLink RJ0 335 yJ0_coder_7d493 ∈ wsT := wsT_in (tb_4 (List.mem_of_getElem? (i := 175) rfl)) rfl
theorem ml_J0_492 : Cond.methodLink RJ0 492 yJ0_isLatin1_aae02 ∈ wsT := wsT_in (tb_4 (List.mem_of_getElem? (i := 185) rfl)) rfl
theorem ml_J0_495 : Cond.methodLink RJ0 495 yJ1_charAt_3b067 ∈ wsT := wsT_in (tb_4 (List.mem_of_getElem? (i := 189) rfl)) rfl
theorem ml_J0_505 : Cond.methodLink RJ0 505 yJ0_length_8abf5 ∈ wsT := wsT_in (tb_5 (List.mem_of_getElem? (i := 16) rfl)) rfl
theorem ml_J0_633 : Cond.methodLink RJ0 633 yJ0_indexOf_7cf53 ∈ wsT := wsT_in (tb_5 (List.mem_of_getElem? (i := 12) rfl)) rfl
theorem ml_J0_637 : Cond.methodLink RJ0 637 yJ1_indexOf_4cfef ∈ wsT := wsT_in (tb_5 (List.mem_of_getElem? (i := 17) rfl)) rfl
theorem ml_J0_1059 : Cond.methodLink RJ0 1059 yJ3_checkIndex_8e157 ∈ wsT := wsT_in (tb_4 (List.mem_of_getElem? (i := 197) rfl)) rfl
theorem ml_J1_9 : Cond.methodLink RJ1 9 yJ0_checkIndex_df160 ∈ wsT := wsT_in (tb_4 (List.mem_of_getElem? (i := 192) rfl)) rfl
theorem ml_J1_38 : Cond.methodLink RJ1 38 ⟨"java/lang/Math", "min", "(II)I"⟩ ∈ wsT := wsT_in (tb_5 (List.mem_of_getElem? (i := 26) rfl)) rfl
theorem ml_J1_88 : Cond.methodLink RJ1 88 yJ1_canEncode_9a6ad ∈ wsT := wsT_in (tb_5 (List.mem_of_getElem? (i := 20) rfl)) rfl
theorem ml_J1_92 : Cond.methodLink RJ1 92 ⟨"java/lang/Math", "max", "(II)I"⟩ ∈ wsT := wsT_in (tb_5 (List.mem_of_getElem? (i := 23) rfl)) rfl
theorem ml_J1_95 : Cond.methodLink RJ1 95 yJ1_indexOfChar_4cfef ∈ wsT := wsT_in (tb_5 (List.mem_of_getElem? (i := 27) rfl)) rfl
theorem ml_J7_13 : Cond.methodLink RJ7 13 yJ7_rangeCheck_23922 ∈ wsT := wsT_in (tb_6 (List.mem_of_getElem? (i := 16) rfl)) rfl
theorem ml_X0_88 : Cond.methodLink RX0 88 yX6_become ∈ wsT := wsT_in (tb_6 (List.mem_of_getElem? (i := 209) rfl)) rfl
theorem ml_X0_92 : Cond.methodLink RX0 92 yX9_become ∈ wsT := wsT_in (tb_6 (List.mem_of_getElem? (i := 214) rfl)) rfl
theorem ml_X0_95 : Cond.methodLink RX0 95 yX7_become ∈ wsT := wsT_in (tb_6 (List.mem_of_getElem? (i := 219) rfl)) rfl
theorem ml_X0_98 : Cond.methodLink RX0 98 yX4_become ∈ wsT := wsT_in (tb_6 (List.mem_of_getElem? (i := 224) rfl)) rfl
theorem ml_X0_101 : Cond.methodLink RX0 101 yX3_become ∈ wsT := wsT_in (tb_6 (List.mem_of_getElem? (i := 229) rfl)) rfl
theorem ml_X0_104 : Cond.methodLink RX0 104 yX2_become ∈ wsT := wsT_in (tb_6 (List.mem_of_getElem? (i := 234) rfl)) rfl
theorem ml_X0_107 : Cond.methodLink RX0 107 yX1_become ∈ wsT := wsT_in (tb_6 (List.mem_of_getElem? (i := 239) rfl)) rfl
theorem ml_X0_116 : Cond.methodLink RX0 116 yX0_sideOf ∈ wsT := wsT_in (tb_3 (List.mem_of_getElem? (i := 104) rfl)) rfl
theorem ml_X0_123 : Cond.methodLink RX0 123 yX0_isAbroad ∈ wsT := wsT_in (tb_3 (List.mem_of_getElem? (i := 220) rfl)) rfl
theorem ml_X0_130 : Cond.methodLink RX0 130 yX6_linedAt ∈ wsT := wsT_in (tb_3 (List.mem_of_getElem? (i := 155) rfl)) rfl
theorem ml_X0_133 : Cond.methodLink RX0 133 yX7_callsFor ∈ wsT := wsT_in (tb_3 (List.mem_of_getElem? (i := 159) rfl)) rfl
theorem ml_X0_136 : Cond.methodLink RX0 136 yX6_bury ∈ wsT := wsT_in (tb_3 (List.mem_of_getElem? (i := 108) rfl)) rfl
theorem ml_X0_149 : Cond.methodLink RX0 149 yX6_goHome ∈ wsT := wsT_in (tb_3 (List.mem_of_getElem? (i := 208) rfl)) rfl
theorem ml_X0_153 : Cond.methodLink RX0 153 yX7_deliver ∈ wsT := wsT_in (tb_4 (List.mem_of_getElem? (i := 59) rfl)) rfl
theorem ml_X0_157 : Cond.methodLink RX0 157 yX0_openStreets ∈ wsT := wsT_in (tb_4 (List.mem_of_getElem? (i := 63) rfl)) rfl
theorem ml_X0_160 : Cond.methodLink RX0 160 yX0_endStays ∈ wsT := wsT_in (tb_4 (List.mem_of_getElem? (i := 93) rfl)) rfl
theorem ml_X0_163 : Cond.methodLink RX0 163 yX0_endPasses ∈ wsT := wsT_in (tb_4 (List.mem_of_getElem? (i := 102) rfl)) rfl
theorem ml_X0_166 : Cond.methodLink RX0 166 yX0_serveWires ∈ wsT := wsT_in (tb_4 (List.mem_of_getElem? (i := 107) rfl)) rfl
theorem ml_X0_170 : Cond.methodLink RX0 170 yX9_isOpenAt ∈ wsT := wsT_in (tb_4 (List.mem_of_getElem? (i := 67) rfl)) rfl
theorem ml_X0_174 : Cond.methodLink RX0 174 yX0_letBy ∈ wsT := wsT_in (tb_4 (List.mem_of_getElem? (i := 71) rfl)) rfl
theorem ml_X0_180 : Cond.methodLink RX0 180 yX6_firstAt ∈ wsT := wsT_in (tb_4 (List.mem_of_getElem? (i := 75) rfl)) rfl
theorem ml_X0_183 : Cond.methodLink RX0 183 yX0_letOver ∈ wsT := wsT_in (tb_4 (List.mem_of_getElem? (i := 79) rfl)) rfl
theorem ml_X0_186 : Cond.methodLink RX0 186 yX6_leaveLine ∈ wsT := wsT_in (tb_4 (List.mem_of_getElem? (i := 83) rfl)) rfl
theorem ml_X0_189 : Cond.methodLink RX0 189 yX0_farEnd ∈ wsT := wsT_in (tb_4 (List.mem_of_getElem? (i := 84) rfl)) rfl
theorem ml_X0_193 : Cond.methodLink RX0 193 yX6_learn ∈ wsT := wsT_in (tb_4 (List.mem_of_getElem? (i := 88) rfl)) rfl
theorem ml_X0_196 : Cond.methodLink RX0 196 yX9_has ∈ wsT := wsT_in (tb_4 (List.mem_of_getElem? (i := 92) rfl)) rfl
theorem ml_X0_205 : Cond.methodLink RX0 205 yX0_endStay ∈ wsT := wsT_in (tb_4 (List.mem_of_getElem? (i := 97) rfl)) rfl
theorem ml_X0_208 : Cond.methodLink RX0 208 yX6_isDead ∈ wsT := wsT_in (tb_4 (List.mem_of_getElem? (i := 101) rfl)) rfl
theorem ml_X0_214 : Cond.methodLink RX0 214 yX0_day ∈ wsT := wsT_in (tb_3 (List.mem_of_getElem? (i := 224) rfl)) rfl
theorem ml_X0_218 : Cond.methodLink RX0 218 yX0_closePass ∈ wsT := wsT_in (tb_4 (List.mem_of_getElem? (i := 106) rfl)) rfl
theorem ml_X0_221 : Cond.methodLink RX0 221 yX7_serve ∈ wsT := wsT_in (tb_4 (List.mem_of_getElem? (i := 111) rfl)) rfl
theorem ml_X0_225 : Cond.methodLink RX0 225 yX4_counting ∈ wsT := wsT_in (tb_3 (List.mem_of_getElem? (i := 237) rfl)) rfl
theorem ml_X0_236 : Cond.methodLink RX0 236 yX0_lets ∈ wsT := wsT_in (tb_3 (List.mem_of_getElem? (i := 229) rfl)) rfl
theorem ml_X0_239 : Cond.methodLink RX0 239 yX0_lawOf ∈ wsT := wsT_in (tb_3 (List.mem_of_getElem? (i := 233) rfl)) rfl
theorem ml_X0_248 : Cond.methodLink RX0 248 yX9_kinOf ∈ wsT := wsT_in (tb_4 (List.mem_of_getElem? (i := 6) rfl)) rfl
theorem ml_X0_251 : Cond.methodLink RX0 251 yX4_setNames ∈ wsT := wsT_in (tb_4 (List.mem_of_getElem? (i := 7) rfl)) rfl
theorem ml_X0_255 : Cond.methodLink RX0 255 yX4_valueOf ∈ wsT := wsT_in (tb_4 (List.mem_of_getElem? (i := 11) rfl)) rfl
theorem ml_X0_258 : Cond.methodLink RX0 258 yX0_letsParcels ∈ wsT := wsT_in (tb_4 (List.mem_of_getElem? (i := 21) rfl)) rfl
theorem ml_X0_267 : Cond.methodLink RX0 267 yX0_visitsFrom ∈ wsT := wsT_in (tb_5 (List.mem_of_getElem? (i := 151) rfl)) rfl
theorem ml_X0_270 : Cond.methodLink RX0 270 yX0_visitsOf ∈ wsT := wsT_in (tb_5 (List.mem_of_getElem? (i := 138) rfl)) rfl
theorem ml_X0_273 : Cond.methodLink RX0 273 yX9_findKin ∈ wsT := wsT_in (tb_5 (List.mem_of_getElem? (i := 142) rfl)) rfl
theorem ml_X0_279 : Cond.methodLink RX0 279 yX0_haltsAt ∈ wsT := wsT_in (tb_5 (List.mem_of_getElem? (i := 209) rfl)) rfl
theorem ml_X1_47 : Cond.methodLink RX1 47 yX1_seek ∈ wsT := wsT_in (tb_6 (List.mem_of_getElem? (i := 166) rfl)) rfl
theorem ml_X1_53 : Cond.methodLink RX1 53 yX1_agree ∈ wsT := wsT_in (tb_6 (List.mem_of_getElem? (i := 170) rfl)) rfl
theorem ml_X1_57 : Cond.methodLink RX1 57 yX1_settle ∈ wsT := wsT_in (tb_6 (List.mem_of_getElem? (i := 174) rfl)) rfl
theorem ml_X10_21 : Cond.methodLink RX10 21 yX10_lay ∈ wsT := wsT_in (tb_5 (List.mem_of_getElem? (i := 166) rfl)) rfl
theorem ml_X10_25 : Cond.methodLink RX10 25 yX10_reachDrain ∈ wsT := wsT_in (tb_5 (List.mem_of_getElem? (i := 171) rfl)) rfl
theorem ml_X10_29 : Cond.methodLink RX10 29 yX10_push ∈ wsT := wsT_in (tb_5 (List.mem_of_getElem? (i := 176) rfl)) rfl
theorem ml_X10_33 : Cond.methodLink RX10 33 yJ7_fill_53178 ∈ wsT := wsT_in (tb_5 (List.mem_of_getElem? (i := 170) rfl)) rfl
theorem ml_X10_76 : Cond.methodLink RX10 76 ⟨"java/lang/Math", "min", "(II)I"⟩ ∈ wsT := wsT_in (tb_5 (List.mem_of_getElem? (i := 180) rfl)) rfl
theorem ml_X11_58 : Cond.methodLink RX11 58 ⟨"java/lang/Math", "min", "(II)I"⟩ ∈ wsT := wsT_in (tb_6 (List.mem_of_getElem? (i := 181) rfl)) rfl
theorem ml_X11_64 : Cond.methodLink RX11 64 ⟨"java/lang/System", "arraycopy", "(Ljava/lang/Object;ILjava/lang/Object;II)V"⟩ ∈ wsT := wsT_in (tb_6 (List.mem_of_getElem? (i := 74) rfl)) rfl
theorem ml_X11_70 : Cond.methodLink RX11 70 yX11_isSide ∈ wsT := wsT_in (tb_3 (List.mem_of_getElem? (i := 47) rfl)) rfl
theorem ml_X11_79 : Cond.methodLink RX11 79 yX0_addCell ∈ wsT := wsT_in (tb_3 (List.mem_of_getElem? (i := 52) rfl)) rfl
theorem ml_X11_83 : Cond.methodLink RX11 83 yX0_hasCell ∈ wsT := wsT_in (tb_3 (List.mem_of_getElem? (i := 60) rfl)) rfl
theorem ml_X11_86 : Cond.methodLink RX11 86 yX11_within ∈ wsT := wsT_in (tb_3 (List.mem_of_getElem? (i := 64) rfl)) rfl
theorem ml_X11_96 : Cond.methodLink RX11 96 yX11_exchange ∈ wsT := wsT_in (tb_3 (List.mem_of_getElem? (i := 67) rfl)) rfl
theorem ml_X11_109 : Cond.methodLink RX11 109 yX6_addPerson ∈ wsT := wsT_in (tb_3 (List.mem_of_getElem? (i := 74) rfl)) rfl
theorem ml_X11_113 : Cond.methodLink RX11 113 yX6_has ∈ wsT := wsT_in (tb_3 (List.mem_of_getElem? (i := 83) rfl)) rfl
theorem ml_X11_137 : Cond.methodLink RX11 137 yX6_isDead ∈ wsT := wsT_in (tb_3 (List.mem_of_getElem? (i := 95) rfl)) rfl
theorem ml_X11_141 : Cond.methodLink RX11 141 yX0_loses ∈ wsT := wsT_in (tb_3 (List.mem_of_getElem? (i := 100) rfl)) rfl
theorem ml_X11_145 : Cond.methodLink RX11 145 yX9_fits ∈ wsT := wsT_in (tb_3 (List.mem_of_getElem? (i := 120) rfl)) rfl
theorem ml_X11_156 : Cond.methodLink RX11 156 yX9_addTie ∈ wsT := wsT_in (tb_3 (List.mem_of_getElem? (i := 124) rfl)) rfl
theorem ml_X11_160 : Cond.methodLink RX11 160 yX0_sideOf ∈ wsT := wsT_in (tb_3 (List.mem_of_getElem? (i := 133) rfl)) rfl
theorem ml_X11_169 : Cond.methodLink RX11 169 yX9_isOf ∈ wsT := wsT_in (tb_3 (List.mem_of_getElem? (i := 138) rfl)) rfl
theorem ml_X11_187 : Cond.methodLink RX11 187 yX9_has ∈ wsT := wsT_in (tb_3 (List.mem_of_getElem? (i := 150) rfl)) rfl
theorem ml_X11_194 : Cond.methodLink RX11 194 yX0_waitingFor ∈ wsT := wsT_in (tb_3 (List.mem_of_getElem? (i := 151) rfl)) rfl
theorem ml_X11_197 : Cond.methodLink RX11 197 yX9_isUnder ∈ wsT := wsT_in (tb_3 (List.mem_of_getElem? (i := 167) rfl)) rfl
theorem ml_X11_201 : Cond.methodLink RX11 201 yX9_kinOf ∈ wsT := wsT_in (tb_3 (List.mem_of_getElem? (i := 185) rfl)) rfl
theorem ml_X11_204 : Cond.methodLink RX11 204 yX0_closePass ∈ wsT := wsT_in (tb_3 (List.mem_of_getElem? (i := 204) rfl)) rfl
theorem ml_X11_208 : Cond.methodLink RX11 208 yX0_whyNot ∈ wsT := wsT_in (tb_3 (List.mem_of_getElem? (i := 216) rfl)) rfl
theorem ml_X11_211 : Cond.methodLink RX11 211 yX6_joinLine ∈ wsT := wsT_in (tb_4 (List.mem_of_getElem? (i := 29) rfl)) rfl
theorem ml_X11_215 : Cond.methodLink RX11 215 yX6_linedAt ∈ wsT := wsT_in (tb_4 (List.mem_of_getElem? (i := 33) rfl)) rfl
theorem ml_X11_230 : Cond.methodLink RX11 230 yX7_addLetter ∈ wsT := wsT_in (tb_4 (List.mem_of_getElem? (i := 38) rfl)) rfl
theorem ml_X11_236 : Cond.methodLink RX11 236 yX7_addCall ∈ wsT := wsT_in (tb_4 (List.mem_of_getElem? (i := 46) rfl)) rfl
theorem ml_X11_239 : Cond.methodLink RX11 239 yX7_callsFor ∈ wsT := wsT_in (tb_4 (List.mem_of_getElem? (i := 50) rfl)) rfl
theorem ml_X11_242 : Cond.methodLink RX11 242 yX0_passHour ∈ wsT := wsT_in (tb_4 (List.mem_of_getElem? (i := 55) rfl)) rfl
theorem ml_X11_248 : Cond.methodLink RX11 248 yX8_add ∈ wsT := wsT_in (tb_4 (List.mem_of_getElem? (i := 132) rfl)) rfl
theorem ml_X11_251 : Cond.methodLink RX11 251 yX8_parse ∈ wsT := wsT_in (tb_4 (List.mem_of_getElem? (i := 144) rfl)) rfl
theorem ml_X11_262 : Cond.methodLink RX11 262 yX4_addText ∈ wsT := wsT_in (tb_5 (List.mem_of_getElem? (i := 84) rfl)) rfl
theorem ml_X11_266 : Cond.methodLink RX11 266 yX4_has ∈ wsT := wsT_in (tb_5 (List.mem_of_getElem? (i := 96) rfl)) rfl
theorem ml_X11_283 : Cond.methodLink RX11 283 yX0_day ∈ wsT := wsT_in (tb_5 (List.mem_of_getElem? (i := 105) rfl)) rfl
theorem ml_X11_285 : Cond.methodLink RX11 285 yX0_lawOf ∈ wsT := wsT_in (tb_5 (List.mem_of_getElem? (i := 110) rfl)) rfl
theorem ml_X11_288 : Cond.methodLink RX11 288 yX0_lets ∈ wsT := wsT_in (tb_5 (List.mem_of_getElem? (i := 115) rfl)) rfl
theorem ml_X11_291 : Cond.methodLink RX11 291 yX4_differ ∈ wsT := wsT_in (tb_5 (List.mem_of_getElem? (i := 120) rfl)) rfl
theorem ml_X11_294 : Cond.methodLink RX11 294 yX0_visitsFrom ∈ wsT := wsT_in (tb_5 (List.mem_of_getElem? (i := 134) rfl)) rfl
theorem ml_X11_297 : Cond.methodLink RX11 297 yX0_allVisits ∈ wsT := wsT_in (tb_5 (List.mem_of_getElem? (i := 147) rfl)) rfl
theorem ml_X11_300 : Cond.methodLink RX11 300 yX4_setNames ∈ wsT := wsT_in (tb_5 (List.mem_of_getElem? (i := 156) rfl)) rfl
theorem ml_X11_304 : Cond.methodLink RX11 304 yX4_valueOf ∈ wsT := wsT_in (tb_5 (List.mem_of_getElem? (i := 157) rfl)) rfl
theorem ml_X11_307 : Cond.methodLink RX11 307 yX10_greatest ∈ wsT := wsT_in (tb_5 (List.mem_of_getElem? (i := 162) rfl)) rfl
theorem ml_X11_311 : Cond.methodLink RX11 311 yX0_usesOf ∈ wsT := wsT_in (tb_5 (List.mem_of_getElem? (i := 185) rfl)) rfl
theorem ml_X11_317 : Cond.methodLink RX11 317 yX9_addStop ∈ wsT := wsT_in (tb_5 (List.mem_of_getElem? (i := 197) rfl)) rfl
theorem ml_X11_320 : Cond.methodLink RX11 320 yX0_ride ∈ wsT := wsT_in (tb_5 (List.mem_of_getElem? (i := 205) rfl)) rfl
theorem ml_X11_331 : Cond.methodLink RX11 331 yX3_addFile ∈ wsT := wsT_in (tb_5 (List.mem_of_getElem? (i := 217) rfl)) rfl
theorem ml_X11_334 : Cond.methodLink RX11 334 yX3_has ∈ wsT := wsT_in (tb_5 (List.mem_of_getElem? (i := 225) rfl)) rfl
theorem ml_X11_336 : Cond.methodLink RX11 336 yX3_likeness ∈ wsT := wsT_in (tb_5 (List.mem_of_getElem? (i := 229) rfl)) rfl
theorem ml_X11_339 : Cond.methodLink RX11 339 yX3_findPairs ∈ wsT := wsT_in (tb_6 (List.mem_of_getElem? (i := 5) rfl)) rfl
theorem ml_X11_349 : Cond.methodLink RX11 349 yX5_renew ∈ wsT := wsT_in (tb_6 (List.mem_of_getElem? (i := 38) rfl)) rfl
theorem ml_X11_352 : Cond.methodLink RX11 352 yX5_finding ∈ wsT := wsT_in (tb_6 (List.mem_of_getElem? (i := 47) rfl)) rfl
theorem ml_X11_363 : Cond.methodLink RX11 363 yX5_lastTold ∈ wsT := wsT_in (tb_6 (List.mem_of_getElem? (i := 59) rfl)) rfl
theorem ml_X11_367 : Cond.methodLink RX11 367 yX5_holds ∈ wsT := wsT_in (tb_6 (List.mem_of_getElem? (i := 69) rfl)) rfl
theorem ml_X11_374 : Cond.methodLink RX11 374 yX5_sumOwed ∈ wsT := wsT_in (tb_6 (List.mem_of_getElem? (i := 83) rfl)) rfl
theorem ml_X11_392 : Cond.methodLink RX11 392 yX2_waitOf ∈ wsT := wsT_in (tb_6 (List.mem_of_getElem? (i := 125) rfl)) rfl
theorem ml_X11_395 : Cond.methodLink RX11 395 yX2_bestSet ∈ wsT := wsT_in (tb_6 (List.mem_of_getElem? (i := 139) rfl)) rfl
theorem ml_X11_405 : Cond.methodLink RX11 405 yX1_addClause ∈ wsT := wsT_in (tb_6 (List.mem_of_getElem? (i := 154) rfl)) rfl
theorem ml_X11_408 : Cond.methodLink RX11 408 yX1_soonest ∈ wsT := wsT_in (tb_6 (List.mem_of_getElem? (i := 162) rfl)) rfl
theorem ml_X11_414 : Cond.methodLink RX11 414 yX11_orderRows ∈ wsT := wsT_in (tb_6 (List.mem_of_getElem? (i := 196) rfl)) rfl
theorem ml_X11_417 : Cond.methodLink RX11 417 yX11_dayRows ∈ wsT := wsT_in (tb_6 (List.mem_of_getElem? (i := 200) rfl)) rfl
theorem ml_X11_420 : Cond.methodLink RX11 420 yX11_firstOff ∈ wsT := wsT_in (tb_7 (List.mem_of_getElem? (i := 7) rfl)) rfl
theorem ml_X11_426 : Cond.methodLink RX11 426 yX0_become ∈ wsT := wsT_in (tb_6 (List.mem_of_getElem? (i := 204) rfl)) rfl
theorem ml_X11_433 : Cond.methodLink RX11 433 yX0_visitors ∈ wsT := wsT_in (tb_7 (List.mem_of_getElem? (i := 3) rfl)) rfl
theorem ml_X11_436 : Cond.methodLink RX11 436 yJ6_bitCount_0f7a4 ∈ wsT := wsT_in (tb_7 (List.mem_of_getElem? (i := 23) rfl)) rfl
theorem ml_X11_441 : Cond.methodLink RX11 441 yX9_openPasses ∈ wsT := wsT_in (tb_7 (List.mem_of_getElem? (i := 24) rfl)) rfl
theorem ml_X12_78 : Cond.methodLink RX12 78 yX12_isIn ∈ wsT := wsT_in (tb_7 (List.mem_of_getElem? (i := 159) rfl)) rfl
theorem ml_X12_82 : Cond.methodLink RX12 82 yX12_isTie ∈ wsT := wsT_in (tb_8 (List.mem_of_getElem? (i := 22) rfl)) rfl
theorem ml_X12_86 : Cond.methodLink RX12 86 yX12_tieAt ∈ wsT := wsT_in (tb_8 (List.mem_of_getElem? (i := 6) rfl)) rfl
theorem ml_X12_90 : Cond.methodLink RX12 90 yX12_cellAt ∈ wsT := wsT_in (tb_7 (List.mem_of_getElem? (i := 164) rfl)) rfl
theorem ml_X12_93 : Cond.methodLink RX12 93 yX12_personAt ∈ wsT := wsT_in (tb_7 (List.mem_of_getElem? (i := 188) rfl)) rfl
theorem ml_X12_96 : Cond.methodLink RX12 96 yX12_sideOf ∈ wsT := wsT_in (tb_7 (List.mem_of_getElem? (i := 227) rfl)) rfl
theorem ml_X12_99 : Cond.methodLink RX12 99 yX12_isSide ∈ wsT := wsT_in (tb_7 (List.mem_of_getElem? (i := 156) rfl)) rfl
theorem ml_X12_104 : Cond.methodLink RX12 104 yX12_isCell ∈ wsT := wsT_in (tb_7 (List.mem_of_getElem? (i := 172) rfl)) rfl
theorem ml_X12_111 : Cond.methodLink RX12 111 yX12_becomes ∈ wsT := wsT_in (tb_7 (List.mem_of_getElem? (i := 178) rfl)) rfl
theorem ml_X12_119 : Cond.methodLink RX12 119 yX12_isPerson ∈ wsT := wsT_in (tb_7 (List.mem_of_getElem? (i := 196) rfl)) rfl
theorem ml_X12_124 : Cond.methodLink RX12 124 yX12_orNone ∈ wsT := wsT_in (tb_7 (List.mem_of_getElem? (i := 201) rfl)) rfl
theorem ml_X12_129 : Cond.methodLink RX12 129 yX12_isDead ∈ wsT := wsT_in (tb_7 (List.mem_of_getElem? (i := 214) rfl)) rfl
theorem ml_X12_133 : Cond.methodLink RX12 133 yX12_waits ∈ wsT := wsT_in (tb_7 (List.mem_of_getElem? (i := 219) rfl)) rfl
theorem ml_X12_135 : Cond.methodLink RX12 135 yX12_ownSide ∈ wsT := wsT_in (tb_7 (List.mem_of_getElem? (i := 223) rfl)) rfl
theorem ml_X12_144 : Cond.methodLink RX12 144 yX12_fits ∈ wsT := wsT_in (tb_7 (List.mem_of_getElem? (i := 236) rfl)) rfl
theorem ml_X12_148 : Cond.methodLink RX12 148 yX12_newTie ∈ wsT := wsT_in (tb_8 (List.mem_of_getElem? (i := 2) rfl)) rfl
theorem ml_X12_152 : Cond.methodLink RX12 152 yX12_isOf ∈ wsT := wsT_in (tb_8 (List.mem_of_getElem? (i := 18) rfl)) rfl
theorem ml_X12_155 : Cond.methodLink RX12 155 yX12_waiting0 ∈ wsT := wsT_in (tb_8 (List.mem_of_getElem? (i := 30) rfl)) rfl
theorem ml_X12_158 : Cond.methodLink RX12 158 yX12_calls ∈ wsT := wsT_in (tb_8 (List.mem_of_getElem? (i := 34) rfl)) rfl
theorem ml_X12_164 : Cond.methodLink RX12 164 yX12_least ∈ wsT := wsT_in (tb_8 (List.mem_of_getElem? (i := 60) rfl)) rfl
theorem ml_X12_167 : Cond.methodLink RX12 167 yX12_findKin ∈ wsT := wsT_in (tb_8 (List.mem_of_getElem? (i := 56) rfl)) rfl
theorem ml_X12_170 : Cond.methodLink RX12 170 yX12_kinOf ∈ wsT := wsT_in (tb_8 (List.mem_of_getElem? (i := 63) rfl)) rfl
theorem ml_X12_173 : Cond.methodLink RX12 173 yX12_goesHome ∈ wsT := wsT_in (tb_8 (List.mem_of_getElem? (i := 75) rfl)) rfl
theorem ml_X12_177 : Cond.methodLink RX12 177 yX12_sendHome ∈ wsT := wsT_in (tb_8 (List.mem_of_getElem? (i := 71) rfl)) rfl
theorem ml_X12_180 : Cond.methodLink RX12 180 yX12_day ∈ wsT := wsT_in (tb_8 (List.mem_of_getElem? (i := 87) rfl)) rfl
theorem ml_X12_184 : Cond.methodLink RX12 184 yX12_mayCross ∈ wsT := wsT_in (tb_8 (List.mem_of_getElem? (i := 91) rfl)) rfl
theorem ml_X12_187 : Cond.methodLink RX12 187 yX12_reason ∈ wsT := wsT_in (tb_8 (List.mem_of_getElem? (i := 83) rfl)) rfl
theorem ml_X12_190 : Cond.methodLink RX12 190 yX12_firstAt ∈ wsT := wsT_in (tb_8 (List.mem_of_getElem? (i := 147) rfl)) rfl
theorem ml_X12_193 : Cond.methodLink RX12 193 yX12_crosses ∈ wsT := wsT_in (tb_8 (List.mem_of_getElem? (i := 151) rfl)) rfl
theorem ml_X12_197 : Cond.methodLink RX12 197 yX12_nextCall ∈ wsT := wsT_in (tb_8 (List.mem_of_getElem? (i := 163) rfl)) rfl
theorem ml_X12_200 : Cond.methodLink RX12 200 yX12_come ∈ wsT := wsT_in (tb_8 (List.mem_of_getElem? (i := 135) rfl)) rfl
theorem ml_X12_203 : Cond.methodLink RX12 203 yX12_isOpenNow ∈ wsT := wsT_in (tb_8 (List.mem_of_getElem? (i := 139) rfl)) rfl
theorem ml_X12_206 : Cond.methodLink RX12 206 yX12_lets ∈ wsT := wsT_in (tb_8 (List.mem_of_getElem? (i := 143) rfl)) rfl
theorem ml_X12_209 : Cond.methodLink RX12 209 yX12_returns ∈ wsT := wsT_in (tb_8 (List.mem_of_getElem? (i := 155) rfl)) rfl
theorem ml_X12_212 : Cond.methodLink RX12 212 yX12_speaks ∈ wsT := wsT_in (tb_8 (List.mem_of_getElem? (i := 159) rfl)) rfl
theorem ml_X12_217 : Cond.methodLink RX12 217 yX12_hour ∈ wsT := wsT_in (tb_8 (List.mem_of_getElem? (i := 131) rfl)) rfl
theorem ml_X12_240 : Cond.methodLink RX12 240 yX12_isLetter ∈ wsT := wsT_in (tb_8 (List.mem_of_getElem? (i := 188) rfl)) rfl
theorem ml_X12_246 : Cond.methodLink RX12 246 yX12_isDigit ∈ wsT := wsT_in (tb_8 (List.mem_of_getElem? (i := 194) rfl)) rfl
theorem ml_X12_252 : Cond.methodLink RX12 252 yX12_isWordAt ∈ wsT := wsT_in (tb_8 (List.mem_of_getElem? (i := 204) rfl)) rfl
theorem ml_X12_256 : Cond.methodLink RX12 256 yX12_isPay ∈ wsT := wsT_in (tb_8 (List.mem_of_getElem? (i := 208) rfl)) rfl
theorem ml_X12_266 : Cond.methodLink RX12 266 yX12_both ∈ wsT := wsT_in (tb_8 (List.mem_of_getElem? (i := 216) rfl)) rfl
theorem ml_X12_269 : Cond.methodLink RX12 269 yX12_isSign ∈ wsT := wsT_in (tb_9 (List.mem_of_getElem? (i := 3) rfl)) rfl
theorem ml_X12_272 : Cond.methodLink RX12 272 yX12_next ∈ wsT := wsT_in (tb_8 (List.mem_of_getElem? (i := 184) rfl)) rfl
theorem ml_X12_275 : Cond.methodLink RX12 275 yX12_step ∈ wsT := wsT_in (tb_8 (List.mem_of_getElem? (i := 236) rfl)) rfl
theorem ml_X12_278 : Cond.methodLink RX12 278 yX12_test ∈ wsT := wsT_in (tb_8 (List.mem_of_getElem? (i := 220) rfl)) rfl
theorem ml_X12_281 : Cond.methodLink RX12 281 yX12_sum ∈ wsT := wsT_in (tb_8 (List.mem_of_getElem? (i := 224) rfl)) rfl
theorem ml_X12_284 : Cond.methodLink RX12 284 yX12_term ∈ wsT := wsT_in (tb_8 (List.mem_of_getElem? (i := 228) rfl)) rfl
theorem ml_X12_287 : Cond.methodLink RX12 287 yX12_part0 ∈ wsT := wsT_in (tb_8 (List.mem_of_getElem? (i := 232) rfl)) rfl
theorem ml_X12_293 : Cond.methodLink RX12 293 yX12_isName ∈ wsT := wsT_in (tb_9 (List.mem_of_getElem? (i := 0) rfl)) rfl
theorem ml_X12_302 : Cond.methodLink RX12 302 yX12_either ∈ wsT := wsT_in (tb_8 (List.mem_of_getElem? (i := 212) rfl)) rfl
theorem ml_X12_305 : Cond.methodLink RX12 305 yX12_textAt ∈ wsT := wsT_in (tb_8 (List.mem_of_getElem? (i := 103) rfl)) rfl
theorem ml_X12_308 : Cond.methodLink RX12 308 yX12_key ∈ wsT := wsT_in (tb_8 (List.mem_of_getElem? (i := 200) rfl)) rfl
theorem ml_X12_313 : Cond.methodLink RX12 313 yX12_parse ∈ wsT := wsT_in (tb_8 (List.mem_of_getElem? (i := 180) rfl)) rfl
theorem ml_X12_316 : Cond.methodLink RX12 316 yX12_isText ∈ wsT := wsT_in (tb_9 (List.mem_of_getElem? (i := 11) rfl)) rfl
theorem ml_X12_321 : Cond.methodLink RX12 321 yX12_countsFor ∈ wsT := wsT_in (tb_8 (List.mem_of_getElem? (i := 99) rfl)) rfl
theorem ml_X12_324 : Cond.methodLink RX12 324 yX12_joined ∈ wsT := wsT_in (tb_8 (List.mem_of_getElem? (i := 111) rfl)) rfl
theorem ml_X12_328 : Cond.methodLink RX12 328 yX12_worked ∈ wsT := wsT_in (tb_8 (List.mem_of_getElem? (i := 107) rfl)) rfl
theorem ml_X12_331 : Cond.methodLink RX12 331 yX12_letsVisit ∈ wsT := wsT_in (tb_8 (List.mem_of_getElem? (i := 95) rfl)) rfl
theorem ml_X12_335 : Cond.methodLink RX12 335 yX12_visitsOf ∈ wsT := wsT_in (tb_9 (List.mem_of_getElem? (i := 36) rfl)) rfl
theorem ml_X12_338 : Cond.methodLink RX12 338 yX12_findWay ∈ wsT := wsT_in (tb_9 (List.mem_of_getElem? (i := 56) rfl)) rfl
theorem ml_X12_342 : Cond.methodLink RX12 342 yX12_flowOf ∈ wsT := wsT_in (tb_9 (List.mem_of_getElem? (i := 52) rfl)) rfl
theorem ml_X12_345 : Cond.methodLink RX12 345 yX12_lackOf ∈ wsT := wsT_in (tb_9 (List.mem_of_getElem? (i := 65) rfl)) rfl
theorem ml_X12_350 : Cond.methodLink RX12 350 yX12_halts ∈ wsT := wsT_in (tb_9 (List.mem_of_getElem? (i := 82) rfl)) rfl
theorem ml_X12_353 : Cond.methodLink RX12 353 yX12_figure ∈ wsT := wsT_in (tb_9 (List.mem_of_getElem? (i := 104) rfl)) rfl
theorem ml_X12_356 : Cond.methodLink RX12 356 yX12_size ∈ wsT := wsT_in (tb_9 (List.mem_of_getElem? (i := 98) rfl)) rfl
theorem ml_X12_359 : Cond.methodLink RX12 359 yX12_isNear ∈ wsT := wsT_in (tb_9 (List.mem_of_getElem? (i := 101) rfl)) rfl
theorem ml_X12_362 : Cond.methodLink RX12 362 yX12_alikeOf ∈ wsT := wsT_in (tb_9 (List.mem_of_getElem? (i := 94) rfl)) rfl
theorem ml_X12_365 : Cond.methodLink RX12 365 yX12_pairWorth ∈ wsT := wsT_in (tb_9 (List.mem_of_getElem? (i := 115) rfl)) rfl
theorem ml_X12_368 : Cond.methodLink RX12 368 yX12_findPairs ∈ wsT := wsT_in (tb_9 (List.mem_of_getElem? (i := 111) rfl)) rfl
theorem ml_X12_376 : Cond.methodLink RX12 376 yX12_readOf ∈ wsT := wsT_in (tb_9 (List.mem_of_getElem? (i := 129) rfl)) rfl
theorem ml_X12_385 : Cond.methodLink RX12 385 yX12_mayCount ∈ wsT := wsT_in (tb_9 (List.mem_of_getElem? (i := 154) rfl)) rfl
theorem ml_X12_388 : Cond.methodLink RX12 388 yX12_owedOf ∈ wsT := wsT_in (tb_9 (List.mem_of_getElem? (i := 158) rfl)) rfl
theorem ml_X12_393 : Cond.methodLink RX12 393 yX12_openFor ∈ wsT := wsT_in (tb_9 (List.mem_of_getElem? (i := 184) rfl)) rfl
theorem ml_X12_398 : Cond.methodLink RX12 398 yX12_waitingOf ∈ wsT := wsT_in (tb_9 (List.mem_of_getElem? (i := 180) rfl)) rfl
theorem ml_X12_403 : Cond.methodLink RX12 403 yX12_ones ∈ wsT := wsT_in (tb_9 (List.mem_of_getElem? (i := 193) rfl)) rfl
theorem ml_X12_418 : Cond.methodLink RX12 418 yX12_seek ∈ wsT := wsT_in (tb_9 (List.mem_of_getElem? (i := 210) rfl)) rfl
theorem ml_X12_425 : Cond.methodLink RX12 425 yX12_findOrder ∈ wsT := wsT_in (tb_9 (List.mem_of_getElem? (i := 206) rfl)) rfl
theorem ml_X12_434 : Cond.methodLink RX12 434 yX12_dueIs ∈ wsT := wsT_in (tb_9 (List.mem_of_getElem? (i := 231) rfl)) rfl
theorem ml_X12_442 : Cond.methodLink RX12 442 yX12_waiters ∈ wsT := wsT_in (tb_10 (List.mem_of_getElem? (i := 0) rfl)) rfl
theorem ml_X12_445 : Cond.methodLink RX12 445 yX12_away ∈ wsT := wsT_in (tb_10 (List.mem_of_getElem? (i := 4) rfl)) rfl
theorem ml_X12_448 : Cond.methodLink RX12 448 yX12_rowsOfOrder ∈ wsT := wsT_in (tb_9 (List.mem_of_getElem? (i := 227) rfl)) rfl
theorem ml_X12_451 : Cond.methodLink RX12 451 yX12_rowsOfDays ∈ wsT := wsT_in (tb_9 (List.mem_of_getElem? (i := 235) rfl)) rfl
theorem ml_X2_25 : Cond.methodLink RX2 25 yX2_send ∈ wsT := wsT_in (tb_6 (List.mem_of_getElem? (i := 129) rfl)) rfl
theorem ml_X2_29 : Cond.methodLink RX2 29 yJ7_fill_53178 ∈ wsT := wsT_in (tb_6 (List.mem_of_getElem? (i := 133) rfl)) rfl
theorem ml_X2_35 : Cond.methodLink RX2 35 ⟨"java/lang/Math", "max", "(II)I"⟩ ∈ wsT := wsT_in (tb_6 (List.mem_of_getElem? (i := 134) rfl)) rfl
theorem ml_X2_41 : Cond.methodLink RX2 41 yJ6_bitCount_0f7a4 ∈ wsT := wsT_in (tb_6 (List.mem_of_getElem? (i := 143) rfl)) rfl
theorem ml_X2_47 : Cond.methodLink RX2 47 yX2_waitOf ∈ wsT := wsT_in (tb_6 (List.mem_of_getElem? (i := 149) rfl)) rfl
theorem ml_X3_38 : Cond.methodLink RX3 38 ⟨"java/lang/Math", "abs", "(I)I"⟩ ∈ wsT := wsT_in (tb_5 (List.mem_of_getElem? (i := 233) rfl)) rfl
theorem ml_X3_47 : Cond.methodLink RX3 47 yX3_figure ∈ wsT := wsT_in (tb_5 (List.mem_of_getElem? (i := 238) rfl)) rfl
theorem ml_X3_51 : Cond.methodLink RX3 51 yX3_weigh ∈ wsT := wsT_in (tb_6 (List.mem_of_getElem? (i := 9) rfl)) rfl
theorem ml_X3_54 : Cond.methodLink RX3 54 yJ7_fill_53178 ∈ wsT := wsT_in (tb_6 (List.mem_of_getElem? (i := 27) rfl)) rfl
theorem ml_X3_60 : Cond.methodLink RX3 60 yX3_leastPartner ∈ wsT := wsT_in (tb_6 (List.mem_of_getElem? (i := 28) rfl)) rfl
theorem ml_X3_64 : Cond.methodLink RX3 64 yX3_likeness ∈ wsT := wsT_in (tb_6 (List.mem_of_getElem? (i := 23) rfl)) rfl
theorem ml_X3_67 : Cond.methodLink RX3 67 yJ7_fill_fda19 ∈ wsT := wsT_in (tb_6 (List.mem_of_getElem? (i := 13) rfl)) rfl
theorem ml_X3_70 : Cond.methodLink RX3 70 yX3_weighPair ∈ wsT := wsT_in (tb_6 (List.mem_of_getElem? (i := 19) rfl)) rfl
theorem ml_X3_74 : Cond.methodLink RX3 74 yX3_worthOf ∈ wsT := wsT_in (tb_6 (List.mem_of_getElem? (i := 24) rfl)) rfl
theorem ml_X4_57 : Cond.methodLink RX4 57 ⟨"java/lang/System", "arraycopy", "(Ljava/lang/Object;ILjava/lang/Object;II)V"⟩ ∈ wsT := wsT_in (tb_5 (List.mem_of_getElem? (i := 88) rfl)) rfl
theorem ml_X4_63 : Cond.methodLink RX4 63 yX4_holdsOn ∈ wsT := wsT_in (tb_4 (List.mem_of_getElem? (i := 2) rfl)) rfl
theorem ml_X4_67 : Cond.methodLink RX4 67 yX4_truth ∈ wsT := wsT_in (tb_4 (List.mem_of_getElem? (i := 15) rfl)) rfl
theorem ml_X4_71 : Cond.methodLink RX4 71 yX4_worth ∈ wsT := wsT_in (tb_4 (List.mem_of_getElem? (i := 18) rfl)) rfl
theorem ml_X4_75 : Cond.methodLink RX4 75 yX4_mentions ∈ wsT := wsT_in (tb_5 (List.mem_of_getElem? (i := 124) rfl)) rfl
theorem ml_X4_78 : Cond.methodLink RX4 78 yX4_setNames ∈ wsT := wsT_in (tb_5 (List.mem_of_getElem? (i := 128) rfl)) rfl
theorem ml_X4_82 : Cond.methodLink RX4 82 yX4_valueOf ∈ wsT := wsT_in (tb_5 (List.mem_of_getElem? (i := 129) rfl)) rfl
theorem ml_X5_21 : Cond.methodLink RX5 21 yJ7_fill_fda19 ∈ wsT := wsT_in (tb_6 (List.mem_of_getElem? (i := 42) rfl)) rfl
theorem ml_X5_35 : Cond.methodLink RX5 35 yX5_finding ∈ wsT := wsT_in (tb_6 (List.mem_of_getElem? (i := 91) rfl)) rfl
theorem ml_X5_39 : Cond.methodLink RX5 39 yX5_lastTold ∈ wsT := wsT_in (tb_6 (List.mem_of_getElem? (i := 92) rfl)) rfl
theorem ml_X5_42 : Cond.methodLink RX5 42 yX5_canCount ∈ wsT := wsT_in (tb_6 (List.mem_of_getElem? (i := 87) rfl)) rfl
theorem ml_X5_49 : Cond.methodLink RX5 49 yX5_agreed ∈ wsT := wsT_in (tb_6 (List.mem_of_getElem? (i := 93) rfl)) rfl
theorem ml_X5_55 : Cond.methodLink RX5 55 ⟨"java/lang/Math", "min", "(JJ)J"⟩ ∈ wsT := wsT_in (tb_6 (List.mem_of_getElem? (i := 96) rfl)) rfl
theorem ml_X5_61 : Cond.methodLink RX5 61 ⟨"java/lang/Math", "max", "(JJ)J"⟩ ∈ wsT := wsT_in (tb_6 (List.mem_of_getElem? (i := 99) rfl)) rfl
theorem ml_X5_66 : Cond.methodLink RX5 66 ⟨"java/lang/Math", "abs", "(J)J"⟩ ∈ wsT := wsT_in (tb_6 (List.mem_of_getElem? (i := 103) rfl)) rfl
theorem ml_X6_51 : Cond.methodLink RX6 51 yX6_leaveLine ∈ wsT := wsT_in (tb_3 (List.mem_of_getElem? (i := 112) rfl)) rfl
theorem ml_X7_46 : Cond.methodLink RX7 46 yX7_foremost ∈ wsT := wsT_in (tb_4 (List.mem_of_getElem? (i := 115) rfl)) rfl
theorem ml_X7_51 : Cond.methodLink RX7 51 ⟨"java/lang/Math", "min", "(II)I"⟩ ∈ wsT := wsT_in (tb_4 (List.mem_of_getElem? (i := 120) rfl)) rfl
theorem ml_X7_57 : Cond.methodLink RX7 57 yX7_dropCall ∈ wsT := wsT_in (tb_4 (List.mem_of_getElem? (i := 123) rfl)) rfl
theorem ml_X7_61 : Cond.methodLink RX7 61 yX6_learn ∈ wsT := wsT_in (tb_4 (List.mem_of_getElem? (i := 127) rfl)) rfl
theorem ml_X8_56 : Cond.methodLink RX8 56 yX8_advance ∈ wsT := wsT_in (tb_4 (List.mem_of_getElem? (i := 148) rfl)) rfl
theorem ml_X8_59 : Cond.methodLink RX8 59 yX8_keyHere ∈ wsT := wsT_in (tb_4 (List.mem_of_getElem? (i := 155) rfl)) rfl
theorem ml_X8_64 : Cond.methodLink RX8 64 yX8_takePart ∈ wsT := wsT_in (tb_4 (List.mem_of_getElem? (i := 220) rfl)) rfl
theorem ml_X8_68 : Cond.methodLink RX8 68 yX8_takeSign ∈ wsT := wsT_in (tb_5 (List.mem_of_getElem? (i := 69) rfl)) rfl
theorem ml_X8_71 : Cond.methodLink RX8 71 yX8_release ∈ wsT := wsT_in (tb_5 (List.mem_of_getElem? (i := 77) rfl)) rfl
theorem ml_X8_75 : Cond.methodLink RX8 75 yX8_sortOf ∈ wsT := wsT_in (tb_4 (List.mem_of_getElem? (i := 152) rfl)) rfl
theorem ml_X8_79 : Cond.methodLink RX8 79 yX8_keyWord ∈ wsT := wsT_in (tb_4 (List.mem_of_getElem? (i := 159) rfl)) rfl
theorem ml_X8_83 : Cond.methodLink RX8 83 yX8_isHere ∈ wsT := wsT_in (tb_4 (List.mem_of_getElem? (i := 167) rfl)) rfl
theorem ml_X8_87 : Cond.methodLink RX8 87 yJ0_length_8abf5 ∈ wsT := wsT_in (tb_4 (List.mem_of_getElem? (i := 171) rfl)) rfl
theorem ml_X8_91 : Cond.methodLink RX8 91 yJ0_charAt_5068e ∈ wsT := wsT_in (tb_4 (List.mem_of_getElem? (i := 181) rfl)) rfl
theorem ml_X8_115 : Cond.methodLink RX8 115 yX8_numberHere ∈ wsT := wsT_in (tb_4 (List.mem_of_getElem? (i := 224) rfl)) rfl
theorem ml_X8_118 : Cond.methodLink RX8 118 yX8_addPart ∈ wsT := wsT_in (tb_4 (List.mem_of_getElem? (i := 228) rfl)) rfl
theorem ml_X8_121 : Cond.methodLink RX8 121 yX8_namesOf ∈ wsT := wsT_in (tb_5 (List.mem_of_getElem? (i := 0) rfl)) rfl
theorem ml_X8_124 : Cond.methodLink RX8 124 yJ0_indexOf_0f7a4 ∈ wsT := wsT_in (tb_5 (List.mem_of_getElem? (i := 8) rfl)) rfl
theorem ml_X8_127 : Cond.methodLink RX8 127 yX8_hold ∈ wsT := wsT_in (tb_5 (List.mem_of_getElem? (i := 65) rfl)) rfl
theorem ml_X8_130 : Cond.methodLink RX8 130 yX8_emit ∈ wsT := wsT_in (tb_4 (List.mem_of_getElem? (i := 232) rfl)) rfl
theorem ml_X8_134 : Cond.methodLink RX8 134 yX8_releaseNots ∈ wsT := wsT_in (tb_4 (List.mem_of_getElem? (i := 236) rfl)) rfl
theorem ml_X8_137 : Cond.methodLink RX8 137 yX8_closeBracket ∈ wsT := wsT_in (tb_5 (List.mem_of_getElem? (i := 73) rfl)) rfl
theorem ml_X9_62 : Cond.methodLink RX9 62 yX9_has ∈ wsT := wsT_in (tb_3 (List.mem_of_getElem? (i := 142) rfl)) rfl
theorem ml_X9_74 : Cond.methodLink RX9 74 yX9_findKin ∈ wsT := wsT_in (tb_3 (List.mem_of_getElem? (i := 189) rfl)) rfl
theorem ml_X9_78 : Cond.methodLink RX9 78 yJ7_fill_53178 ∈ wsT := wsT_in (tb_3 (List.mem_of_getElem? (i := 193) rfl)) rfl
theorem ml_X9_84 : Cond.methodLink RX9 84 yX9_comeNearer ∈ wsT := wsT_in (tb_3 (List.mem_of_getElem? (i := 196) rfl)) rfl
theorem cal_J0_charAt_5068e : Cal yJ0_charAt_5068e cJ0_charAt_5068e 2 (some .char) 1 := ⟨wsT_in (tb_4 (List.mem_of_getElem? (i := 184) rfl)) rfl, wsT_in (tb_1 (List.mem_of_getElem? (i := 16) rfl)) rfl, by decide, by decide, by decide +kernel⟩
theorem cv_J0_charAt_5068e : CalV yJ0_charAt_5068e RJ0 := ⟨wsT_in (tb_4 (List.mem_of_getElem? (i := 182) rfl)) rfl, wsT_in (tb_4 (List.mem_of_getElem? (i := 183) rfl)) rfl⟩
theorem cal_J0_checkIndex_df160 : Cal yJ0_checkIndex_df160 cJ0_checkIndex_df160 2 none 2 := ⟨wsT_in (tb_4 (List.mem_of_getElem? (i := 194) rfl)) rfl, wsT_in (tb_1 (List.mem_of_getElem? (i := 16) rfl)) rfl, by decide, by decide, by decide +kernel⟩
theorem st_J0_checkIndex_df160 : Cond.static yJ0_checkIndex_df160 ∈ wsT := wsT_in (tb_4 (List.mem_of_getElem? (i := 193) rfl)) rfl
theorem cal_J0_coder_7d493 : Cal yJ0_coder_7d493 cJ0_coder_7d493 1 (some .byte) 0 := ⟨wsT_in (tb_4 (List.mem_of_getElem? (i := 178) rfl)) rfl, wsT_in (tb_1 (List.mem_of_getElem? (i := 16) rfl)) rfl, by decide, by decide, by decide +kernel⟩
theorem cv_J0_coder_7d493 : CalV yJ0_coder_7d493 RJ0 := ⟨wsT_in (tb_4 (List.mem_of_getElem? (i := 176) rfl)) rfl, wsT_in (tb_4 (List.mem_of_getElem? (i := 177) rfl)) rfl⟩
theorem cal_J0_indexOf_0f7a4 : Cal yJ0_indexOf_0f7a4 cJ0_indexOf_0f7a4 2 (some .int) 1 := ⟨wsT_in (tb_5 (List.mem_of_getElem? (i := 11) rfl)) rfl, wsT_in (tb_1 (List.mem_of_getElem? (i := 16) rfl)) rfl, by decide, by decide, by decide +kernel⟩
theorem cv_J0_indexOf_0f7a4 : CalV yJ0_indexOf_0f7a4 RJ0 := ⟨wsT_in (tb_5 (List.mem_of_getElem? (i := 9) rfl)) rfl, wsT_in (tb_5 (List.mem_of_getElem? (i := 10) rfl)) rfl⟩
theorem cal_J0_indexOf_7cf53 : Cal yJ0_indexOf_7cf53 cJ0_indexOf_7cf53 3 (some .int) 2 := ⟨wsT_in (tb_5 (List.mem_of_getElem? (i := 15) rfl)) rfl, wsT_in (tb_1 (List.mem_of_getElem? (i := 16) rfl)) rfl, by decide, by decide, by decide +kernel⟩
theorem cv_J0_indexOf_7cf53 : CalV yJ0_indexOf_7cf53 RJ0 := ⟨wsT_in (tb_5 (List.mem_of_getElem? (i := 13) rfl)) rfl, wsT_in (tb_5 (List.mem_of_getElem? (i := 14) rfl)) rfl⟩
theorem cal_J0_isLatin1_aae02 : Cal yJ0_isLatin1_aae02 cJ0_isLatin1_aae02 1 (some .boolean) 0 := ⟨wsT_in (tb_4 (List.mem_of_getElem? (i := 188) rfl)) rfl, wsT_in (tb_1 (List.mem_of_getElem? (i := 16) rfl)) rfl, by decide, by decide, by decide +kernel⟩
theorem cv_J0_isLatin1_aae02 : CalV yJ0_isLatin1_aae02 RJ0 := ⟨wsT_in (tb_4 (List.mem_of_getElem? (i := 186) rfl)) rfl, wsT_in (tb_4 (List.mem_of_getElem? (i := 187) rfl)) rfl⟩
theorem cal_J0_length_8abf5 : Cal yJ0_length_8abf5 cJ0_length_8abf5 1 (some .int) 0 := ⟨wsT_in (tb_4 (List.mem_of_getElem? (i := 174) rfl)) rfl, wsT_in (tb_1 (List.mem_of_getElem? (i := 16) rfl)) rfl, by decide, by decide, by decide +kernel⟩
theorem cv_J0_length_8abf5 : CalV yJ0_length_8abf5 RJ0 := ⟨wsT_in (tb_4 (List.mem_of_getElem? (i := 172) rfl)) rfl, wsT_in (tb_4 (List.mem_of_getElem? (i := 173) rfl)) rfl⟩
theorem cal_J1_canEncode_9a6ad : Cal yJ1_canEncode_9a6ad cJ1_canEncode_9a6ad 1 (some .boolean) 1 := ⟨wsT_in (tb_5 (List.mem_of_getElem? (i := 22) rfl)) rfl, wsT_in (tb_1 (List.mem_of_getElem? (i := 17) rfl)) rfl, by decide, by decide, by decide +kernel⟩
theorem st_J1_canEncode_9a6ad : Cond.static yJ1_canEncode_9a6ad ∈ wsT := wsT_in (tb_5 (List.mem_of_getElem? (i := 21) rfl)) rfl
theorem cal_J1_charAt_3b067 : Cal yJ1_charAt_3b067 cJ1_charAt_3b067 2 (some .char) 2 := ⟨wsT_in (tb_4 (List.mem_of_getElem? (i := 191) rfl)) rfl, wsT_in (tb_1 (List.mem_of_getElem? (i := 17) rfl)) rfl, by decide, by decide, by decide +kernel⟩
theorem st_J1_charAt_3b067 : Cond.static yJ1_charAt_3b067 ∈ wsT := wsT_in (tb_4 (List.mem_of_getElem? (i := 190) rfl)) rfl
theorem cal_J1_indexOfChar_4cfef : Cal yJ1_indexOfChar_4cfef cJ1_indexOfChar_4cfef 6 (some .int) 4 := ⟨wsT_in (tb_5 (List.mem_of_getElem? (i := 29) rfl)) rfl, wsT_in (tb_1 (List.mem_of_getElem? (i := 17) rfl)) rfl, by decide, by decide, by decide +kernel⟩
theorem st_J1_indexOfChar_4cfef : Cond.static yJ1_indexOfChar_4cfef ∈ wsT := wsT_in (tb_5 (List.mem_of_getElem? (i := 28) rfl)) rfl
theorem cal_J1_indexOf_4cfef : Cal yJ1_indexOf_4cfef cJ1_indexOf_4cfef 4 (some .int) 4 := ⟨wsT_in (tb_5 (List.mem_of_getElem? (i := 19) rfl)) rfl, wsT_in (tb_1 (List.mem_of_getElem? (i := 17) rfl)) rfl, by decide, by decide, by decide +kernel⟩
theorem st_J1_indexOf_4cfef : Cond.static yJ1_indexOf_4cfef ∈ wsT := wsT_in (tb_5 (List.mem_of_getElem? (i := 18) rfl)) rfl
theorem cal_J3_checkIndex_8e157 : Cal yJ3_checkIndex_8e157 cJ3_checkIndex_8e157 3 (some .int) 3 := ⟨wsT_in (tb_4 (List.mem_of_getElem? (i := 199) rfl)) rfl, wsT_in (tb_1 (List.mem_of_getElem? (i := 18) rfl)) rfl, by decide, by decide, by decide +kernel⟩
theorem st_J3_checkIndex_8e157 : Cond.static yJ3_checkIndex_8e157 ∈ wsT := wsT_in (tb_4 (List.mem_of_getElem? (i := 198) rfl)) rfl
theorem cal_J6_bitCount_0f7a4 : Cal yJ6_bitCount_0f7a4 cJ6_bitCount_0f7a4 1 (some .int) 1 := ⟨wsT_in (tb_6 (List.mem_of_getElem? (i := 145) rfl)) rfl, wsT_in (tb_1 (List.mem_of_getElem? (i := 22) rfl)) rfl, by decide, by decide, by decide +kernel⟩
theorem st_J6_bitCount_0f7a4 : Cond.static yJ6_bitCount_0f7a4 ∈ wsT := wsT_in (tb_6 (List.mem_of_getElem? (i := 144) rfl)) rfl
theorem cal_J7_fillB : Cal yJ7_fillB cJ7_fillB 5 none 4 := ⟨wsT_in (tb_6 (List.mem_of_getElem? (i := 15) rfl)) rfl, wsT_in (tb_1 (List.mem_of_getElem? (i := 14) rfl)) rfl, by decide, by decide, by decide +kernel⟩
theorem st_J7_fillB : Cond.static yJ7_fillB ∈ wsT := wsT_in (tb_6 (List.mem_of_getElem? (i := 14) rfl)) rfl
theorem cal_J7_fill_53178 : Cal yJ7_fill_53178 cJ7_fill_53178 4 none 2 := ⟨wsT_in (tb_3 (List.mem_of_getElem? (i := 195) rfl)) rfl, wsT_in (tb_1 (List.mem_of_getElem? (i := 14) rfl)) rfl, by decide, by decide, by decide +kernel⟩
theorem st_J7_fill_53178 : Cond.static yJ7_fill_53178 ∈ wsT := wsT_in (tb_3 (List.mem_of_getElem? (i := 194) rfl)) rfl
theorem cal_J7_fill_fda19 : Cal yJ7_fill_fda19 cJ7_fill_fda19 5 none 4 := ⟨wsT_in (tb_6 (List.mem_of_getElem? (i := 15) rfl)) rfl, wsT_in (tb_1 (List.mem_of_getElem? (i := 14) rfl)) rfl, by decide, by decide, by decide +kernel⟩
theorem st_J7_fill_fda19 : Cond.static yJ7_fill_fda19 ∈ wsT := wsT_in (tb_6 (List.mem_of_getElem? (i := 14) rfl)) rfl
theorem cal_J7_rangeCheck_23922 : Cal yJ7_rangeCheck_23922 cJ7_rangeCheck_23922 3 none 3 := ⟨wsT_in (tb_6 (List.mem_of_getElem? (i := 18) rfl)) rfl, wsT_in (tb_1 (List.mem_of_getElem? (i := 14) rfl)) rfl, by decide, by decide, by decide +kernel⟩
theorem st_J7_rangeCheck_23922 : Cond.static yJ7_rangeCheck_23922 ∈ wsT := wsT_in (tb_6 (List.mem_of_getElem? (i := 17) rfl)) rfl
theorem cal_X0_addCell : Cal yX0_addCell cX0_addCell 2 (some .int) 1 := ⟨wsT_in (tb_3 (List.mem_of_getElem? (i := 55) rfl)) rfl, wsT_in (tb_1 (List.mem_of_getElem? (i := 2) rfl)) rfl, by decide, by decide, by decide +kernel⟩
theorem cv_X0_addCell : CalV yX0_addCell RX0 := ⟨wsT_in (tb_3 (List.mem_of_getElem? (i := 53) rfl)) rfl, wsT_in (tb_3 (List.mem_of_getElem? (i := 54) rfl)) rfl⟩
theorem cal_X0_allVisits : Cal yX0_allVisits cX0_allVisits 3 (some .int) 2 := ⟨wsT_in (tb_5 (List.mem_of_getElem? (i := 150) rfl)) rfl, wsT_in (tb_1 (List.mem_of_getElem? (i := 2) rfl)) rfl, by decide, by decide, by decide +kernel⟩
theorem cv_X0_allVisits : CalV yX0_allVisits RX0 := ⟨wsT_in (tb_5 (List.mem_of_getElem? (i := 148) rfl)) rfl, wsT_in (tb_5 (List.mem_of_getElem? (i := 149) rfl)) rfl⟩
theorem cal_X0_become : Cal yX0_become cX0_become 2 none 1 := ⟨wsT_in (tb_6 (List.mem_of_getElem? (i := 207) rfl)) rfl, wsT_in (tb_1 (List.mem_of_getElem? (i := 2) rfl)) rfl, by decide, by decide, by decide +kernel⟩
theorem cv_X0_become : CalV yX0_become RX0 := ⟨wsT_in (tb_6 (List.mem_of_getElem? (i := 205) rfl)) rfl, wsT_in (tb_6 (List.mem_of_getElem? (i := 206) rfl)) rfl⟩
theorem cal_X0_closePass : Cal yX0_closePass cX0_closePass 4 none 2 := ⟨wsT_in (tb_3 (List.mem_of_getElem? (i := 207) rfl)) rfl, wsT_in (tb_1 (List.mem_of_getElem? (i := 2) rfl)) rfl, by decide, by decide, by decide +kernel⟩
theorem cv_X0_closePass : CalV yX0_closePass RX0 := ⟨wsT_in (tb_3 (List.mem_of_getElem? (i := 205) rfl)) rfl, wsT_in (tb_3 (List.mem_of_getElem? (i := 206) rfl)) rfl⟩
theorem cal_X0_day : Cal yX0_day cX0_day 1 (some .int) 0 := ⟨wsT_in (tb_3 (List.mem_of_getElem? (i := 227) rfl)) rfl, wsT_in (tb_1 (List.mem_of_getElem? (i := 2) rfl)) rfl, by decide, by decide, by decide +kernel⟩
theorem cv_X0_day : CalV yX0_day RX0 := ⟨wsT_in (tb_3 (List.mem_of_getElem? (i := 225) rfl)) rfl, wsT_in (tb_3 (List.mem_of_getElem? (i := 226) rfl)) rfl⟩
theorem cal_X0_endPasses : Cal yX0_endPasses cX0_endPasses 2 none 0 := ⟨wsT_in (tb_4 (List.mem_of_getElem? (i := 105) rfl)) rfl, wsT_in (tb_1 (List.mem_of_getElem? (i := 2) rfl)) rfl, by decide, by decide, by decide +kernel⟩
theorem cv_X0_endPasses : CalV yX0_endPasses RX0 := ⟨wsT_in (tb_4 (List.mem_of_getElem? (i := 104) rfl)) rfl, wsT_in (List.mem_append_left _ (List.mem_of_getElem? (i := 9) rfl)) rfl⟩
theorem cal_X0_endStay : Cal yX0_endStay cX0_endStay 3 none 1 := ⟨wsT_in (tb_4 (List.mem_of_getElem? (i := 100) rfl)) rfl, wsT_in (tb_1 (List.mem_of_getElem? (i := 2) rfl)) rfl, by decide, by decide, by decide +kernel⟩
theorem cv_X0_endStay : CalV yX0_endStay RX0 := ⟨wsT_in (tb_4 (List.mem_of_getElem? (i := 99) rfl)) rfl, wsT_in (List.mem_append_left _ (List.mem_of_getElem? (i := 8) rfl)) rfl⟩
theorem cal_X0_endStays : Cal yX0_endStays cX0_endStays 2 none 0 := ⟨wsT_in (tb_4 (List.mem_of_getElem? (i := 96) rfl)) rfl, wsT_in (tb_1 (List.mem_of_getElem? (i := 2) rfl)) rfl, by decide, by decide, by decide +kernel⟩
theorem cv_X0_endStays : CalV yX0_endStays RX0 := ⟨wsT_in (tb_4 (List.mem_of_getElem? (i := 95) rfl)) rfl, wsT_in (List.mem_append_left _ (List.mem_of_getElem? (i := 7) rfl)) rfl⟩
theorem cal_X0_farEnd : Cal yX0_farEnd cX0_farEnd 5 (some .int) 2 := ⟨wsT_in (tb_4 (List.mem_of_getElem? (i := 87) rfl)) rfl, wsT_in (tb_1 (List.mem_of_getElem? (i := 2) rfl)) rfl, by decide, by decide, by decide +kernel⟩
theorem cv_X0_farEnd : CalV yX0_farEnd RX0 := ⟨wsT_in (tb_4 (List.mem_of_getElem? (i := 86) rfl)) rfl, wsT_in (List.mem_append_left _ (List.mem_of_getElem? (i := 6) rfl)) rfl⟩
theorem cal_X0_haltsAt : Cal yX0_haltsAt cX0_haltsAt 6 (some .boolean) 3 := ⟨wsT_in (tb_5 (List.mem_of_getElem? (i := 212) rfl)) rfl, wsT_in (tb_1 (List.mem_of_getElem? (i := 2) rfl)) rfl, by decide, by decide, by decide +kernel⟩
theorem cv_X0_haltsAt : CalV yX0_haltsAt RX0 := ⟨wsT_in (tb_5 (List.mem_of_getElem? (i := 211) rfl)) rfl, wsT_in (List.mem_append_left _ (List.mem_of_getElem? (i := 30) rfl)) rfl⟩
theorem cal_X0_hasCell : Cal yX0_hasCell cX0_hasCell 2 (some .boolean) 1 := ⟨wsT_in (tb_3 (List.mem_of_getElem? (i := 63) rfl)) rfl, wsT_in (tb_1 (List.mem_of_getElem? (i := 2) rfl)) rfl, by decide, by decide, by decide +kernel⟩
theorem cv_X0_hasCell : CalV yX0_hasCell RX0 := ⟨wsT_in (tb_3 (List.mem_of_getElem? (i := 61) rfl)) rfl, wsT_in (tb_3 (List.mem_of_getElem? (i := 62) rfl)) rfl⟩
theorem cal_X0_isAbroad : Cal yX0_isAbroad cX0_isAbroad 3 (some .boolean) 1 := ⟨wsT_in (tb_3 (List.mem_of_getElem? (i := 223) rfl)) rfl, wsT_in (tb_1 (List.mem_of_getElem? (i := 2) rfl)) rfl, by decide, by decide, by decide +kernel⟩
theorem cv_X0_isAbroad : CalV yX0_isAbroad RX0 := ⟨wsT_in (tb_3 (List.mem_of_getElem? (i := 221) rfl)) rfl, wsT_in (tb_3 (List.mem_of_getElem? (i := 222) rfl)) rfl⟩
theorem cal_X0_lawOf : Cal yX0_lawOf cX0_lawOf 3 (some .int) 2 := ⟨wsT_in (tb_3 (List.mem_of_getElem? (i := 236) rfl)) rfl, wsT_in (tb_1 (List.mem_of_getElem? (i := 2) rfl)) rfl, by decide, by decide, by decide +kernel⟩
theorem cv_X0_lawOf : CalV yX0_lawOf RX0 := ⟨wsT_in (tb_3 (List.mem_of_getElem? (i := 234) rfl)) rfl, wsT_in (tb_3 (List.mem_of_getElem? (i := 235) rfl)) rfl⟩
theorem cal_X0_letBy : Cal yX0_letBy cX0_letBy 4 none 1 := ⟨wsT_in (tb_4 (List.mem_of_getElem? (i := 74) rfl)) rfl, wsT_in (tb_1 (List.mem_of_getElem? (i := 2) rfl)) rfl, by decide, by decide, by decide +kernel⟩
theorem cv_X0_letBy : CalV yX0_letBy RX0 := ⟨wsT_in (tb_4 (List.mem_of_getElem? (i := 73) rfl)) rfl, wsT_in (List.mem_append_left _ (List.mem_of_getElem? (i := 4) rfl)) rfl⟩
theorem cal_X0_letOver : Cal yX0_letOver cX0_letOver 5 none 2 := ⟨wsT_in (tb_4 (List.mem_of_getElem? (i := 82) rfl)) rfl, wsT_in (tb_1 (List.mem_of_getElem? (i := 2) rfl)) rfl, by decide, by decide, by decide +kernel⟩
theorem cv_X0_letOver : CalV yX0_letOver RX0 := ⟨wsT_in (tb_4 (List.mem_of_getElem? (i := 81) rfl)) rfl, wsT_in (List.mem_append_left _ (List.mem_of_getElem? (i := 5) rfl)) rfl⟩
theorem cal_X0_lets : Cal yX0_lets cX0_lets 5 (some .boolean) 2 := ⟨wsT_in (tb_3 (List.mem_of_getElem? (i := 232) rfl)) rfl, wsT_in (tb_1 (List.mem_of_getElem? (i := 2) rfl)) rfl, by decide, by decide, by decide +kernel⟩
theorem cv_X0_lets : CalV yX0_lets RX0 := ⟨wsT_in (tb_3 (List.mem_of_getElem? (i := 230) rfl)) rfl, wsT_in (tb_3 (List.mem_of_getElem? (i := 231) rfl)) rfl⟩
theorem cal_X0_letsParcels : Cal yX0_letsParcels cX0_letsParcels 4 (some .boolean) 2 := ⟨wsT_in (tb_4 (List.mem_of_getElem? (i := 24) rfl)) rfl, wsT_in (tb_1 (List.mem_of_getElem? (i := 2) rfl)) rfl, by decide, by decide, by decide +kernel⟩
theorem cv_X0_letsParcels : CalV yX0_letsParcels RX0 := ⟨wsT_in (tb_4 (List.mem_of_getElem? (i := 23) rfl)) rfl, wsT_in (List.mem_append_left _ (List.mem_of_getElem? (i := 2) rfl)) rfl⟩
theorem cal_X0_loses : Cal yX0_loses cX0_loses 3 none 1 := ⟨wsT_in (tb_3 (List.mem_of_getElem? (i := 103) rfl)) rfl, wsT_in (tb_1 (List.mem_of_getElem? (i := 2) rfl)) rfl, by decide, by decide, by decide +kernel⟩
theorem cv_X0_loses : CalV yX0_loses RX0 := ⟨wsT_in (tb_3 (List.mem_of_getElem? (i := 101) rfl)) rfl, wsT_in (tb_3 (List.mem_of_getElem? (i := 102) rfl)) rfl⟩
theorem cal_X0_openStreets : Cal yX0_openStreets cX0_openStreets 2 none 0 := ⟨wsT_in (tb_4 (List.mem_of_getElem? (i := 66) rfl)) rfl, wsT_in (tb_1 (List.mem_of_getElem? (i := 2) rfl)) rfl, by decide, by decide, by decide +kernel⟩
theorem cv_X0_openStreets : CalV yX0_openStreets RX0 := ⟨wsT_in (tb_4 (List.mem_of_getElem? (i := 65) rfl)) rfl, wsT_in (List.mem_append_left _ (List.mem_of_getElem? (i := 3) rfl)) rfl⟩
theorem cal_X0_passHour : Cal yX0_passHour cX0_passHour 1 none 0 := ⟨wsT_in (tb_4 (List.mem_of_getElem? (i := 58) rfl)) rfl, wsT_in (tb_1 (List.mem_of_getElem? (i := 2) rfl)) rfl, by decide, by decide, by decide +kernel⟩
theorem cv_X0_passHour : CalV yX0_passHour RX0 := ⟨wsT_in (tb_4 (List.mem_of_getElem? (i := 56) rfl)) rfl, wsT_in (tb_4 (List.mem_of_getElem? (i := 57) rfl)) rfl⟩
theorem cal_X0_ride : Cal yX0_ride cX0_ride 8 (some .int) 4 := ⟨wsT_in (tb_5 (List.mem_of_getElem? (i := 208) rfl)) rfl, wsT_in (tb_1 (List.mem_of_getElem? (i := 2) rfl)) rfl, by decide, by decide, by decide +kernel⟩
theorem cv_X0_ride : CalV yX0_ride RX0 := ⟨wsT_in (tb_5 (List.mem_of_getElem? (i := 206) rfl)) rfl, wsT_in (tb_5 (List.mem_of_getElem? (i := 207) rfl)) rfl⟩
theorem cal_X0_serveWires : Cal yX0_serveWires cX0_serveWires 2 none 0 := ⟨wsT_in (tb_4 (List.mem_of_getElem? (i := 110) rfl)) rfl, wsT_in (tb_1 (List.mem_of_getElem? (i := 2) rfl)) rfl, by decide, by decide, by decide +kernel⟩
theorem cv_X0_serveWires : CalV yX0_serveWires RX0 := ⟨wsT_in (tb_4 (List.mem_of_getElem? (i := 109) rfl)) rfl, wsT_in (List.mem_append_left _ (List.mem_of_getElem? (i := 10) rfl)) rfl⟩
theorem cal_X0_sideOf : Cal yX0_sideOf cX0_sideOf 2 (some .int) 1 := ⟨wsT_in (tb_3 (List.mem_of_getElem? (i := 107) rfl)) rfl, wsT_in (tb_1 (List.mem_of_getElem? (i := 2) rfl)) rfl, by decide, by decide, by decide +kernel⟩
theorem cv_X0_sideOf : CalV yX0_sideOf RX0 := ⟨wsT_in (tb_3 (List.mem_of_getElem? (i := 105) rfl)) rfl, wsT_in (tb_3 (List.mem_of_getElem? (i := 106) rfl)) rfl⟩
theorem cal_X0_usesOf : Cal yX0_usesOf cX0_usesOf 4 (some .int) 1 := ⟨wsT_in (tb_5 (List.mem_of_getElem? (i := 188) rfl)) rfl, wsT_in (tb_1 (List.mem_of_getElem? (i := 2) rfl)) rfl, by decide, by decide, by decide +kernel⟩
theorem cv_X0_usesOf : CalV yX0_usesOf RX0 := ⟨wsT_in (tb_5 (List.mem_of_getElem? (i := 186) rfl)) rfl, wsT_in (tb_5 (List.mem_of_getElem? (i := 187) rfl)) rfl⟩
theorem cal_X0_visitors : Cal yX0_visitors cX0_visitors 3 (some .int) 0 := ⟨wsT_in (tb_7 (List.mem_of_getElem? (i := 6) rfl)) rfl, wsT_in (tb_1 (List.mem_of_getElem? (i := 2) rfl)) rfl, by decide, by decide, by decide +kernel⟩
theorem cv_X0_visitors : CalV yX0_visitors RX0 := ⟨wsT_in (tb_7 (List.mem_of_getElem? (i := 4) rfl)) rfl, wsT_in (tb_7 (List.mem_of_getElem? (i := 5) rfl)) rfl⟩
theorem cal_X0_visitsFrom : Cal yX0_visitsFrom cX0_visitsFrom 6 (some .int) 3 := ⟨wsT_in (tb_5 (List.mem_of_getElem? (i := 137) rfl)) rfl, wsT_in (tb_1 (List.mem_of_getElem? (i := 2) rfl)) rfl, by decide, by decide, by decide +kernel⟩
theorem cv_X0_visitsFrom : CalV yX0_visitsFrom RX0 := ⟨wsT_in (tb_5 (List.mem_of_getElem? (i := 135) rfl)) rfl, wsT_in (tb_5 (List.mem_of_getElem? (i := 136) rfl)) rfl⟩
theorem cal_X0_visitsOf : Cal yX0_visitsOf cX0_visitsOf 6 (some .int) 3 := ⟨wsT_in (tb_5 (List.mem_of_getElem? (i := 141) rfl)) rfl, wsT_in (tb_1 (List.mem_of_getElem? (i := 2) rfl)) rfl, by decide, by decide, by decide +kernel⟩
theorem cv_X0_visitsOf : CalV yX0_visitsOf RX0 := ⟨wsT_in (tb_5 (List.mem_of_getElem? (i := 140) rfl)) rfl, wsT_in (List.mem_append_left _ (List.mem_of_getElem? (i := 26) rfl)) rfl⟩
theorem cal_X0_waitingFor : Cal yX0_waitingFor cX0_waitingFor 2 (some .int) 1 := ⟨wsT_in (tb_3 (List.mem_of_getElem? (i := 154) rfl)) rfl, wsT_in (tb_1 (List.mem_of_getElem? (i := 2) rfl)) rfl, by decide, by decide, by decide +kernel⟩
theorem cv_X0_waitingFor : CalV yX0_waitingFor RX0 := ⟨wsT_in (tb_3 (List.mem_of_getElem? (i := 152) rfl)) rfl, wsT_in (tb_3 (List.mem_of_getElem? (i := 153) rfl)) rfl⟩
theorem cal_X0_whyNot : Cal yX0_whyNot cX0_whyNot 3 (some .int) 1 := ⟨wsT_in (tb_3 (List.mem_of_getElem? (i := 219) rfl)) rfl, wsT_in (tb_1 (List.mem_of_getElem? (i := 2) rfl)) rfl, by decide, by decide, by decide +kernel⟩
theorem cv_X0_whyNot : CalV yX0_whyNot RX0 := ⟨wsT_in (tb_3 (List.mem_of_getElem? (i := 217) rfl)) rfl, wsT_in (tb_3 (List.mem_of_getElem? (i := 218) rfl)) rfl⟩
theorem cal_X10_greatest : Cal yX10_greatest cX10_greatest 7 (some .int) 3 := ⟨wsT_in (tb_5 (List.mem_of_getElem? (i := 165) rfl)) rfl, wsT_in (tb_1 (List.mem_of_getElem? (i := 12) rfl)) rfl, by decide, by decide, by decide +kernel⟩
theorem cv_X10_greatest : CalV yX10_greatest RX10 := ⟨wsT_in (tb_5 (List.mem_of_getElem? (i := 163) rfl)) rfl, wsT_in (tb_5 (List.mem_of_getElem? (i := 164) rfl)) rfl⟩
theorem cal_X10_lay : Cal yX10_lay cX10_lay 6 none 3 := ⟨wsT_in (tb_5 (List.mem_of_getElem? (i := 169) rfl)) rfl, wsT_in (tb_1 (List.mem_of_getElem? (i := 12) rfl)) rfl, by decide, by decide, by decide +kernel⟩
theorem cv_X10_lay : CalV yX10_lay RX10 := ⟨wsT_in (tb_5 (List.mem_of_getElem? (i := 168) rfl)) rfl, wsT_in (List.mem_append_left _ (List.mem_of_getElem? (i := 27) rfl)) rfl⟩
theorem cal_X10_push : Cal yX10_push cX10_push 4 (some .int) 0 := ⟨wsT_in (tb_5 (List.mem_of_getElem? (i := 179) rfl)) rfl, wsT_in (tb_1 (List.mem_of_getElem? (i := 12) rfl)) rfl, by decide, by decide, by decide +kernel⟩
theorem cv_X10_push : CalV yX10_push RX10 := ⟨wsT_in (tb_5 (List.mem_of_getElem? (i := 178) rfl)) rfl, wsT_in (List.mem_append_left _ (List.mem_of_getElem? (i := 29) rfl)) rfl⟩
theorem cal_X10_reachDrain : Cal yX10_reachDrain cX10_reachDrain 5 (some .boolean) 0 := ⟨wsT_in (tb_5 (List.mem_of_getElem? (i := 174) rfl)) rfl, wsT_in (tb_1 (List.mem_of_getElem? (i := 12) rfl)) rfl, by decide, by decide, by decide +kernel⟩
theorem cv_X10_reachDrain : CalV yX10_reachDrain RX10 := ⟨wsT_in (tb_5 (List.mem_of_getElem? (i := 173) rfl)) rfl, wsT_in (List.mem_append_left _ (List.mem_of_getElem? (i := 28) rfl)) rfl⟩
theorem cal_X11_carryOver : Cal yX11_carryOver cX11_carryOver 2 none 2 := ⟨wsT_in (tb_6 (List.mem_of_getElem? (i := 180) rfl)) rfl, wsT_in (tb_1 (List.mem_of_getElem? (i := 1) rfl)) rfl, by decide, by decide, by decide +kernel⟩
theorem st_X11_carryOver : Cond.static yX11_carryOver ∈ wsT := wsT_in (tb_6 (List.mem_of_getElem? (i := 179) rfl)) rfl
theorem cal_X11_dayRows : Cal yX11_dayRows cX11_dayRows 3 (some .int) 1 := ⟨wsT_in (tb_6 (List.mem_of_getElem? (i := 203) rfl)) rfl, wsT_in (tb_1 (List.mem_of_getElem? (i := 1) rfl)) rfl, by decide, by decide, by decide +kernel⟩
theorem cv_X11_dayRows : CalV yX11_dayRows RX11 := ⟨wsT_in (tb_6 (List.mem_of_getElem? (i := 202) rfl)) rfl, wsT_in (List.mem_append_left _ (List.mem_of_getElem? (i := 40) rfl)) rfl⟩
theorem cal_X11_exchange : Cal yX11_exchange cX11_exchange 4 (some .int) 3 := ⟨wsT_in (tb_3 (List.mem_of_getElem? (i := 69) rfl)) rfl, wsT_in (tb_1 (List.mem_of_getElem? (i := 1) rfl)) rfl, by decide, by decide, by decide +kernel⟩
theorem st_X11_exchange : Cond.static yX11_exchange ∈ wsT := wsT_in (tb_3 (List.mem_of_getElem? (i := 68) rfl)) rfl
theorem cal_X11_firstOff : Cal yX11_firstOff cX11_firstOff 4 (some .int) 2 := ⟨wsT_in (tb_7 (List.mem_of_getElem? (i := 10) rfl)) rfl, wsT_in (tb_1 (List.mem_of_getElem? (i := 1) rfl)) rfl, by decide, by decide, by decide +kernel⟩
theorem cv_X11_firstOff : CalV yX11_firstOff RX11 := ⟨wsT_in (tb_7 (List.mem_of_getElem? (i := 9) rfl)) rfl, wsT_in (List.mem_append_left _ (List.mem_of_getElem? (i := 41) rfl)) rfl⟩
theorem cal_X11_isSide : Cal yX11_isSide cX11_isSide 1 (some .boolean) 1 := ⟨wsT_in (tb_3 (List.mem_of_getElem? (i := 49) rfl)) rfl, wsT_in (tb_1 (List.mem_of_getElem? (i := 1) rfl)) rfl, by decide, by decide, by decide +kernel⟩
theorem st_X11_isSide : Cond.static yX11_isSide ∈ wsT := wsT_in (tb_3 (List.mem_of_getElem? (i := 48) rfl)) rfl
theorem cal_X11_orderRows : Cal yX11_orderRows cX11_orderRows 6 (some .int) 1 := ⟨wsT_in (tb_6 (List.mem_of_getElem? (i := 199) rfl)) rfl, wsT_in (tb_1 (List.mem_of_getElem? (i := 1) rfl)) rfl, by decide, by decide, by decide +kernel⟩
theorem cv_X11_orderRows : CalV yX11_orderRows RX11 := ⟨wsT_in (tb_6 (List.mem_of_getElem? (i := 198) rfl)) rfl, wsT_in (List.mem_append_left _ (List.mem_of_getElem? (i := 39) rfl)) rfl⟩
theorem cal_X11_within : Cal yX11_within cX11_within 3 (some .boolean) 3 := ⟨wsT_in (tb_3 (List.mem_of_getElem? (i := 66) rfl)) rfl, wsT_in (tb_1 (List.mem_of_getElem? (i := 1) rfl)) rfl, by decide, by decide, by decide +kernel⟩
theorem st_X11_within : Cond.static yX11_within ∈ wsT := wsT_in (tb_3 (List.mem_of_getElem? (i := 65) rfl)) rfl
theorem cal_X12_alikeOf : Cal yX12_alikeOf cX12_alikeOf 5 (some .int) 2 := ⟨wsT_in (tb_9 (List.mem_of_getElem? (i := 97) rfl)) rfl, wsT_in (tb_1 (List.mem_of_getElem? (i := 13) rfl)) rfl, by decide, by decide, by decide +kernel⟩
theorem cv_X12_alikeOf : CalV yX12_alikeOf RX12 := ⟨wsT_in (tb_9 (List.mem_of_getElem? (i := 96) rfl)) rfl, wsT_in (List.mem_append_left _ (List.mem_of_getElem? (i := 99) rfl)) rfl⟩
theorem cal_X12_away : Cal yX12_away cX12_away 3 (some .int) 0 := ⟨wsT_in (tb_10 (List.mem_of_getElem? (i := 7) rfl)) rfl, wsT_in (tb_1 (List.mem_of_getElem? (i := 13) rfl)) rfl, by decide, by decide, by decide +kernel⟩
theorem cv_X12_away : CalV yX12_away RX12 := ⟨wsT_in (tb_10 (List.mem_of_getElem? (i := 6) rfl)) rfl, wsT_in (List.mem_append_left _ (List.mem_of_getElem? (i := 113) rfl)) rfl⟩
theorem cal_X12_becomes : Cal yX12_becomes cX12_becomes 4 (some .int) 2 := ⟨wsT_in (tb_7 (List.mem_of_getElem? (i := 181) rfl)) rfl, wsT_in (tb_1 (List.mem_of_getElem? (i := 13) rfl)) rfl, by decide, by decide, by decide +kernel⟩
theorem cv_X12_becomes : CalV yX12_becomes RX12 := ⟨wsT_in (tb_7 (List.mem_of_getElem? (i := 180) rfl)) rfl, wsT_in (List.mem_append_left _ (List.mem_of_getElem? (i := 44) rfl)) rfl⟩
theorem cal_X12_both : Cal yX12_both cX12_both 2 (some .boolean) 1 := ⟨wsT_in (tb_8 (List.mem_of_getElem? (i := 219) rfl)) rfl, wsT_in (tb_1 (List.mem_of_getElem? (i := 13) rfl)) rfl, by decide, by decide, by decide +kernel⟩
theorem cv_X12_both : CalV yX12_both RX12 := ⟨wsT_in (tb_8 (List.mem_of_getElem? (i := 218) rfl)) rfl, wsT_in (List.mem_append_left _ (List.mem_of_getElem? (i := 86) rfl)) rfl⟩
theorem cal_X12_calls : Cal yX12_calls cX12_calls 4 (some .int) 1 := ⟨wsT_in (tb_8 (List.mem_of_getElem? (i := 37) rfl)) rfl, wsT_in (tb_1 (List.mem_of_getElem? (i := 13) rfl)) rfl, by decide, by decide, by decide +kernel⟩
theorem cv_X12_calls : CalV yX12_calls RX12 := ⟨wsT_in (tb_8 (List.mem_of_getElem? (i := 36) rfl)) rfl, wsT_in (List.mem_append_left _ (List.mem_of_getElem? (i := 57) rfl)) rfl⟩
theorem cal_X12_cellAt : Cal yX12_cellAt cX12_cellAt 2 (some .int) 1 := ⟨wsT_in (tb_7 (List.mem_of_getElem? (i := 167) rfl)) rfl, wsT_in (tb_1 (List.mem_of_getElem? (i := 13) rfl)) rfl, by decide, by decide, by decide +kernel⟩
theorem cv_X12_cellAt : CalV yX12_cellAt RX12 := ⟨wsT_in (tb_7 (List.mem_of_getElem? (i := 166) rfl)) rfl, wsT_in (List.mem_append_left _ (List.mem_of_getElem? (i := 42) rfl)) rfl⟩
theorem cal_X12_come : Cal yX12_come cX12_come 5 none 0 := ⟨wsT_in (tb_8 (List.mem_of_getElem? (i := 138) rfl)) rfl, wsT_in (tb_1 (List.mem_of_getElem? (i := 13) rfl)) rfl, by decide, by decide, by decide +kernel⟩
theorem cv_X12_come : CalV yX12_come RX12 := ⟨wsT_in (tb_8 (List.mem_of_getElem? (i := 137) rfl)) rfl, wsT_in (List.mem_append_left _ (List.mem_of_getElem? (i := 70) rfl)) rfl⟩
theorem cal_X12_countsFor : Cal yX12_countsFor cX12_countsFor 7 (some .int) 2 := ⟨wsT_in (tb_8 (List.mem_of_getElem? (i := 102) rfl)) rfl, wsT_in (tb_1 (List.mem_of_getElem? (i := 13) rfl)) rfl, by decide, by decide, by decide +kernel⟩
theorem cv_X12_countsFor : CalV yX12_countsFor RX12 := ⟨wsT_in (tb_8 (List.mem_of_getElem? (i := 101) rfl)) rfl, wsT_in (List.mem_append_left _ (List.mem_of_getElem? (i := 66) rfl)) rfl⟩
theorem cal_X12_crosses : Cal yX12_crosses cX12_crosses 8 none 2 := ⟨wsT_in (tb_8 (List.mem_of_getElem? (i := 154) rfl)) rfl, wsT_in (tb_1 (List.mem_of_getElem? (i := 13) rfl)) rfl, by decide, by decide, by decide +kernel⟩
theorem cv_X12_crosses : CalV yX12_crosses RX12 := ⟨wsT_in (tb_8 (List.mem_of_getElem? (i := 153) rfl)) rfl, wsT_in (List.mem_append_left _ (List.mem_of_getElem? (i := 74) rfl)) rfl⟩
theorem cal_X12_day : Cal yX12_day cX12_day 1 (some .int) 0 := ⟨wsT_in (tb_8 (List.mem_of_getElem? (i := 90) rfl)) rfl, wsT_in (tb_1 (List.mem_of_getElem? (i := 13) rfl)) rfl, by decide, by decide, by decide +kernel⟩
theorem cv_X12_day : CalV yX12_day RX12 := ⟨wsT_in (tb_8 (List.mem_of_getElem? (i := 89) rfl)) rfl, wsT_in (List.mem_append_left _ (List.mem_of_getElem? (i := 63) rfl)) rfl⟩
theorem cal_X12_dueIs : Cal yX12_dueIs cX12_dueIs 3 none 2 := ⟨wsT_in (tb_9 (List.mem_of_getElem? (i := 234) rfl)) rfl, wsT_in (tb_1 (List.mem_of_getElem? (i := 13) rfl)) rfl, by decide, by decide, by decide +kernel⟩
theorem cv_X12_dueIs : CalV yX12_dueIs RX12 := ⟨wsT_in (tb_9 (List.mem_of_getElem? (i := 233) rfl)) rfl, wsT_in (List.mem_append_left _ (List.mem_of_getElem? (i := 110) rfl)) rfl⟩
theorem cal_X12_either : Cal yX12_either cX12_either 2 (some .boolean) 1 := ⟨wsT_in (tb_8 (List.mem_of_getElem? (i := 215) rfl)) rfl, wsT_in (tb_1 (List.mem_of_getElem? (i := 13) rfl)) rfl, by decide, by decide, by decide +kernel⟩
theorem cv_X12_either : CalV yX12_either RX12 := ⟨wsT_in (tb_8 (List.mem_of_getElem? (i := 214) rfl)) rfl, wsT_in (List.mem_append_left _ (List.mem_of_getElem? (i := 85) rfl)) rfl⟩
theorem cal_X12_figure : Cal yX12_figure cX12_figure 2 (some .int) 2 := ⟨wsT_in (tb_9 (List.mem_of_getElem? (i := 106) rfl)) rfl, wsT_in (tb_1 (List.mem_of_getElem? (i := 13) rfl)) rfl, by decide, by decide, by decide +kernel⟩
theorem st_X12_figure : Cond.static yX12_figure ∈ wsT := wsT_in (tb_9 (List.mem_of_getElem? (i := 105) rfl)) rfl
theorem cal_X12_findKin : Cal yX12_findKin cX12_findKin 5 none 0 := ⟨wsT_in (tb_8 (List.mem_of_getElem? (i := 59) rfl)) rfl, wsT_in (tb_1 (List.mem_of_getElem? (i := 13) rfl)) rfl, by decide, by decide, by decide +kernel⟩
theorem cv_X12_findKin : CalV yX12_findKin RX12 := ⟨wsT_in (tb_8 (List.mem_of_getElem? (i := 58) rfl)) rfl, wsT_in (List.mem_append_left _ (List.mem_of_getElem? (i := 58) rfl)) rfl⟩
theorem cal_X12_findOrder : Cal yX12_findOrder cX12_findOrder 3 (some .int) 2 := ⟨wsT_in (tb_9 (List.mem_of_getElem? (i := 209) rfl)) rfl, wsT_in (tb_1 (List.mem_of_getElem? (i := 13) rfl)) rfl, by decide, by decide, by decide +kernel⟩
theorem cv_X12_findOrder : CalV yX12_findOrder RX12 := ⟨wsT_in (tb_9 (List.mem_of_getElem? (i := 208) rfl)) rfl, wsT_in (List.mem_append_left _ (List.mem_of_getElem? (i := 107) rfl)) rfl⟩
theorem cal_X12_findPairs : Cal yX12_findPairs cX12_findPairs 8 (some .int) 0 := ⟨wsT_in (tb_9 (List.mem_of_getElem? (i := 114) rfl)) rfl, wsT_in (tb_1 (List.mem_of_getElem? (i := 13) rfl)) rfl, by decide, by decide, by decide +kernel⟩
theorem cv_X12_findPairs : CalV yX12_findPairs RX12 := ⟨wsT_in (tb_9 (List.mem_of_getElem? (i := 113) rfl)) rfl, wsT_in (List.mem_append_left _ (List.mem_of_getElem? (i := 100) rfl)) rfl⟩
theorem cal_X12_findWay : Cal yX12_findWay cX12_findWay 4 (some .boolean) 0 := ⟨wsT_in (tb_9 (List.mem_of_getElem? (i := 59) rfl)) rfl, wsT_in (tb_1 (List.mem_of_getElem? (i := 13) rfl)) rfl, by decide, by decide, by decide +kernel⟩
theorem cv_X12_findWay : CalV yX12_findWay RX12 := ⟨wsT_in (tb_9 (List.mem_of_getElem? (i := 58) rfl)) rfl, wsT_in (List.mem_append_left _ (List.mem_of_getElem? (i := 96) rfl)) rfl⟩
theorem cal_X12_firstAt : Cal yX12_firstAt cX12_firstAt 4 (some .int) 1 := ⟨wsT_in (tb_8 (List.mem_of_getElem? (i := 150) rfl)) rfl, wsT_in (tb_1 (List.mem_of_getElem? (i := 13) rfl)) rfl, by decide, by decide, by decide +kernel⟩
theorem cv_X12_firstAt : CalV yX12_firstAt RX12 := ⟨wsT_in (tb_8 (List.mem_of_getElem? (i := 149) rfl)) rfl, wsT_in (List.mem_append_left _ (List.mem_of_getElem? (i := 73) rfl)) rfl⟩
theorem cal_X12_fits : Cal yX12_fits cX12_fits 3 (some .boolean) 2 := ⟨wsT_in (tb_7 (List.mem_of_getElem? (i := 239) rfl)) rfl, wsT_in (tb_1 (List.mem_of_getElem? (i := 13) rfl)) rfl, by decide, by decide, by decide +kernel⟩
theorem cv_X12_fits : CalV yX12_fits RX12 := ⟨wsT_in (tb_7 (List.mem_of_getElem? (i := 238) rfl)) rfl, wsT_in (List.mem_append_left _ (List.mem_of_getElem? (i := 51) rfl)) rfl⟩
theorem cal_X12_flowOf : Cal yX12_flowOf cX12_flowOf 6 (some .int) 2 := ⟨wsT_in (tb_9 (List.mem_of_getElem? (i := 55) rfl)) rfl, wsT_in (tb_1 (List.mem_of_getElem? (i := 13) rfl)) rfl, by decide, by decide, by decide +kernel⟩
theorem cv_X12_flowOf : CalV yX12_flowOf RX12 := ⟨wsT_in (tb_9 (List.mem_of_getElem? (i := 54) rfl)) rfl, wsT_in (List.mem_append_left _ (List.mem_of_getElem? (i := 95) rfl)) rfl⟩
theorem cal_X12_goesHome : Cal yX12_goesHome cX12_goesHome 2 none 1 := ⟨wsT_in (tb_8 (List.mem_of_getElem? (i := 78) rfl)) rfl, wsT_in (tb_1 (List.mem_of_getElem? (i := 13) rfl)) rfl, by decide, by decide, by decide +kernel⟩
theorem cv_X12_goesHome : CalV yX12_goesHome RX12 := ⟨wsT_in (tb_8 (List.mem_of_getElem? (i := 77) rfl)) rfl, wsT_in (List.mem_append_left _ (List.mem_of_getElem? (i := 61) rfl)) rfl⟩
theorem cal_X12_halts : Cal yX12_halts cX12_halts 5 (some .boolean) 3 := ⟨wsT_in (tb_9 (List.mem_of_getElem? (i := 85) rfl)) rfl, wsT_in (tb_1 (List.mem_of_getElem? (i := 13) rfl)) rfl, by decide, by decide, by decide +kernel⟩
theorem cv_X12_halts : CalV yX12_halts RX12 := ⟨wsT_in (tb_9 (List.mem_of_getElem? (i := 84) rfl)) rfl, wsT_in (List.mem_append_left _ (List.mem_of_getElem? (i := 98) rfl)) rfl⟩
theorem cal_X12_hour : Cal yX12_hour cX12_hour 2 none 0 := ⟨wsT_in (tb_8 (List.mem_of_getElem? (i := 134) rfl)) rfl, wsT_in (tb_1 (List.mem_of_getElem? (i := 13) rfl)) rfl, by decide, by decide, by decide +kernel⟩
theorem cv_X12_hour : CalV yX12_hour RX12 := ⟨wsT_in (tb_8 (List.mem_of_getElem? (i := 133) rfl)) rfl, wsT_in (List.mem_append_left _ (List.mem_of_getElem? (i := 69) rfl)) rfl⟩
theorem cal_X12_isCell : Cal yX12_isCell cX12_isCell 2 (some .boolean) 1 := ⟨wsT_in (tb_7 (List.mem_of_getElem? (i := 175) rfl)) rfl, wsT_in (tb_1 (List.mem_of_getElem? (i := 13) rfl)) rfl, by decide, by decide, by decide +kernel⟩
theorem cv_X12_isCell : CalV yX12_isCell RX12 := ⟨wsT_in (tb_7 (List.mem_of_getElem? (i := 174) rfl)) rfl, wsT_in (List.mem_append_left _ (List.mem_of_getElem? (i := 43) rfl)) rfl⟩
theorem cal_X12_isDead : Cal yX12_isDead cX12_isDead 2 (some .boolean) 1 := ⟨wsT_in (tb_7 (List.mem_of_getElem? (i := 217) rfl)) rfl, wsT_in (tb_1 (List.mem_of_getElem? (i := 13) rfl)) rfl, by decide, by decide, by decide +kernel⟩
theorem cv_X12_isDead : CalV yX12_isDead RX12 := ⟨wsT_in (tb_7 (List.mem_of_getElem? (i := 216) rfl)) rfl, wsT_in (List.mem_append_left _ (List.mem_of_getElem? (i := 47) rfl)) rfl⟩
theorem cal_X12_isDigit : Cal yX12_isDigit cX12_isDigit 2 (some .boolean) 1 := ⟨wsT_in (tb_8 (List.mem_of_getElem? (i := 197) rfl)) rfl, wsT_in (tb_1 (List.mem_of_getElem? (i := 13) rfl)) rfl, by decide, by decide, by decide +kernel⟩
theorem cv_X12_isDigit : CalV yX12_isDigit RX12 := ⟨wsT_in (tb_8 (List.mem_of_getElem? (i := 196) rfl)) rfl, wsT_in (List.mem_append_left _ (List.mem_of_getElem? (i := 81) rfl)) rfl⟩
theorem cal_X12_isIn : Cal yX12_isIn cX12_isIn 6 (some .boolean) 3 := ⟨wsT_in (tb_7 (List.mem_of_getElem? (i := 161) rfl)) rfl, wsT_in (tb_1 (List.mem_of_getElem? (i := 13) rfl)) rfl, by decide, by decide, by decide +kernel⟩
theorem st_X12_isIn : Cond.static yX12_isIn ∈ wsT := wsT_in (tb_7 (List.mem_of_getElem? (i := 160) rfl)) rfl
theorem cal_X12_isLetter : Cal yX12_isLetter cX12_isLetter 2 (some .boolean) 1 := ⟨wsT_in (tb_8 (List.mem_of_getElem? (i := 191) rfl)) rfl, wsT_in (tb_1 (List.mem_of_getElem? (i := 13) rfl)) rfl, by decide, by decide, by decide +kernel⟩
theorem cv_X12_isLetter : CalV yX12_isLetter RX12 := ⟨wsT_in (tb_8 (List.mem_of_getElem? (i := 190) rfl)) rfl, wsT_in (List.mem_append_left _ (List.mem_of_getElem? (i := 80) rfl)) rfl⟩
theorem cal_X12_isName : Cal yX12_isName cX12_isName 2 (some .boolean) 2 := ⟨wsT_in (tb_9 (List.mem_of_getElem? (i := 2) rfl)) rfl, wsT_in (tb_1 (List.mem_of_getElem? (i := 13) rfl)) rfl, by decide, by decide, by decide +kernel⟩
theorem st_X12_isName : Cond.static yX12_isName ∈ wsT := wsT_in (tb_9 (List.mem_of_getElem? (i := 1) rfl)) rfl
theorem cal_X12_isNear : Cal yX12_isNear cX12_isNear 5 (some .boolean) 2 := ⟨wsT_in (tb_9 (List.mem_of_getElem? (i := 103) rfl)) rfl, wsT_in (tb_1 (List.mem_of_getElem? (i := 13) rfl)) rfl, by decide, by decide, by decide +kernel⟩
theorem st_X12_isNear : Cond.static yX12_isNear ∈ wsT := wsT_in (tb_9 (List.mem_of_getElem? (i := 102) rfl)) rfl
theorem cal_X12_isOf : Cal yX12_isOf cX12_isOf 3 (some .boolean) 2 := ⟨wsT_in (tb_8 (List.mem_of_getElem? (i := 21) rfl)) rfl, wsT_in (tb_1 (List.mem_of_getElem? (i := 13) rfl)) rfl, by decide, by decide, by decide +kernel⟩
theorem cv_X12_isOf : CalV yX12_isOf RX12 := ⟨wsT_in (tb_8 (List.mem_of_getElem? (i := 20) rfl)) rfl, wsT_in (List.mem_append_left _ (List.mem_of_getElem? (i := 54) rfl)) rfl⟩
theorem cal_X12_isOpenNow : Cal yX12_isOpenNow cX12_isOpenNow 5 (some .boolean) 1 := ⟨wsT_in (tb_8 (List.mem_of_getElem? (i := 142) rfl)) rfl, wsT_in (tb_1 (List.mem_of_getElem? (i := 13) rfl)) rfl, by decide, by decide, by decide +kernel⟩
theorem cv_X12_isOpenNow : CalV yX12_isOpenNow RX12 := ⟨wsT_in (tb_8 (List.mem_of_getElem? (i := 141) rfl)) rfl, wsT_in (List.mem_append_left _ (List.mem_of_getElem? (i := 71) rfl)) rfl⟩
theorem cal_X12_isPay : Cal yX12_isPay cX12_isPay 1 (some .boolean) 0 := ⟨wsT_in (tb_8 (List.mem_of_getElem? (i := 211) rfl)) rfl, wsT_in (tb_1 (List.mem_of_getElem? (i := 13) rfl)) rfl, by decide, by decide, by decide +kernel⟩
theorem cv_X12_isPay : CalV yX12_isPay RX12 := ⟨wsT_in (tb_8 (List.mem_of_getElem? (i := 210) rfl)) rfl, wsT_in (List.mem_append_left _ (List.mem_of_getElem? (i := 84) rfl)) rfl⟩
theorem cal_X12_isPerson : Cal yX12_isPerson cX12_isPerson 2 (some .boolean) 1 := ⟨wsT_in (tb_7 (List.mem_of_getElem? (i := 199) rfl)) rfl, wsT_in (tb_1 (List.mem_of_getElem? (i := 13) rfl)) rfl, by decide, by decide, by decide +kernel⟩
theorem cv_X12_isPerson : CalV yX12_isPerson RX12 := ⟨wsT_in (tb_7 (List.mem_of_getElem? (i := 198) rfl)) rfl, wsT_in (List.mem_append_left _ (List.mem_of_getElem? (i := 46) rfl)) rfl⟩
theorem cal_X12_isSide : Cal yX12_isSide cX12_isSide 1 (some .boolean) 1 := ⟨wsT_in (tb_7 (List.mem_of_getElem? (i := 158) rfl)) rfl, wsT_in (tb_1 (List.mem_of_getElem? (i := 13) rfl)) rfl, by decide, by decide, by decide +kernel⟩
theorem st_X12_isSide : Cond.static yX12_isSide ∈ wsT := wsT_in (tb_7 (List.mem_of_getElem? (i := 157) rfl)) rfl
theorem cal_X12_isSign : Cal yX12_isSign cX12_isSign 2 (some .boolean) 1 := ⟨wsT_in (tb_9 (List.mem_of_getElem? (i := 6) rfl)) rfl, wsT_in (tb_1 (List.mem_of_getElem? (i := 13) rfl)) rfl, by decide, by decide, by decide +kernel⟩
theorem cv_X12_isSign : CalV yX12_isSign RX12 := ⟨wsT_in (tb_9 (List.mem_of_getElem? (i := 5) rfl)) rfl, wsT_in (List.mem_append_left _ (List.mem_of_getElem? (i := 92) rfl)) rfl⟩
theorem cal_X12_isText : Cal yX12_isText cX12_isText 2 (some .boolean) 1 := ⟨wsT_in (tb_9 (List.mem_of_getElem? (i := 14) rfl)) rfl, wsT_in (tb_1 (List.mem_of_getElem? (i := 13) rfl)) rfl, by decide, by decide, by decide +kernel⟩
theorem cv_X12_isText : CalV yX12_isText RX12 := ⟨wsT_in (tb_9 (List.mem_of_getElem? (i := 13) rfl)) rfl, wsT_in (List.mem_append_left _ (List.mem_of_getElem? (i := 93) rfl)) rfl⟩
theorem cal_X12_isTie : Cal yX12_isTie cX12_isTie 2 (some .boolean) 1 := ⟨wsT_in (tb_8 (List.mem_of_getElem? (i := 25) rfl)) rfl, wsT_in (tb_1 (List.mem_of_getElem? (i := 13) rfl)) rfl, by decide, by decide, by decide +kernel⟩
theorem cv_X12_isTie : CalV yX12_isTie RX12 := ⟨wsT_in (tb_8 (List.mem_of_getElem? (i := 24) rfl)) rfl, wsT_in (List.mem_append_left _ (List.mem_of_getElem? (i := 55) rfl)) rfl⟩
theorem cal_X12_isWordAt : Cal yX12_isWordAt cX12_isWordAt 8 (some .boolean) 5 := ⟨wsT_in (tb_8 (List.mem_of_getElem? (i := 207) rfl)) rfl, wsT_in (tb_1 (List.mem_of_getElem? (i := 13) rfl)) rfl, by decide, by decide, by decide +kernel⟩
theorem cv_X12_isWordAt : CalV yX12_isWordAt RX12 := ⟨wsT_in (tb_8 (List.mem_of_getElem? (i := 206) rfl)) rfl, wsT_in (List.mem_append_left _ (List.mem_of_getElem? (i := 83) rfl)) rfl⟩
theorem cal_X12_joined : Cal yX12_joined cX12_joined 3 (some .int) 3 := ⟨wsT_in (tb_8 (List.mem_of_getElem? (i := 113) rfl)) rfl, wsT_in (tb_1 (List.mem_of_getElem? (i := 13) rfl)) rfl, by decide, by decide, by decide +kernel⟩
theorem st_X12_joined : Cond.static yX12_joined ∈ wsT := wsT_in (tb_8 (List.mem_of_getElem? (i := 112) rfl)) rfl
theorem cal_X12_key : Cal yX12_key cX12_key 1 (some .int) 0 := ⟨wsT_in (tb_8 (List.mem_of_getElem? (i := 203) rfl)) rfl, wsT_in (tb_1 (List.mem_of_getElem? (i := 13) rfl)) rfl, by decide, by decide, by decide +kernel⟩
theorem cv_X12_key : CalV yX12_key RX12 := ⟨wsT_in (tb_8 (List.mem_of_getElem? (i := 202) rfl)) rfl, wsT_in (List.mem_append_left _ (List.mem_of_getElem? (i := 82) rfl)) rfl⟩
theorem cal_X12_kinOf : Cal yX12_kinOf cX12_kinOf 4 (some .int) 2 := ⟨wsT_in (tb_8 (List.mem_of_getElem? (i := 66) rfl)) rfl, wsT_in (tb_1 (List.mem_of_getElem? (i := 13) rfl)) rfl, by decide, by decide, by decide +kernel⟩
theorem cv_X12_kinOf : CalV yX12_kinOf RX12 := ⟨wsT_in (tb_8 (List.mem_of_getElem? (i := 65) rfl)) rfl, wsT_in (List.mem_append_left _ (List.mem_of_getElem? (i := 59) rfl)) rfl⟩
theorem cal_X12_lackOf : Cal yX12_lackOf cX12_lackOf 5 (some .int) 2 := ⟨wsT_in (tb_9 (List.mem_of_getElem? (i := 68) rfl)) rfl, wsT_in (tb_1 (List.mem_of_getElem? (i := 13) rfl)) rfl, by decide, by decide, by decide +kernel⟩
theorem cv_X12_lackOf : CalV yX12_lackOf RX12 := ⟨wsT_in (tb_9 (List.mem_of_getElem? (i := 67) rfl)) rfl, wsT_in (List.mem_append_left _ (List.mem_of_getElem? (i := 97) rfl)) rfl⟩
theorem cal_X12_least : Cal yX12_least cX12_least 2 (some .int) 2 := ⟨wsT_in (tb_8 (List.mem_of_getElem? (i := 62) rfl)) rfl, wsT_in (tb_1 (List.mem_of_getElem? (i := 13) rfl)) rfl, by decide, by decide, by decide +kernel⟩
theorem st_X12_least : Cond.static yX12_least ∈ wsT := wsT_in (tb_8 (List.mem_of_getElem? (i := 61) rfl)) rfl
theorem cal_X12_lets : Cal yX12_lets cX12_lets 4 none 1 := ⟨wsT_in (tb_8 (List.mem_of_getElem? (i := 146) rfl)) rfl, wsT_in (tb_1 (List.mem_of_getElem? (i := 13) rfl)) rfl, by decide, by decide, by decide +kernel⟩
theorem cv_X12_lets : CalV yX12_lets RX12 := ⟨wsT_in (tb_8 (List.mem_of_getElem? (i := 145) rfl)) rfl, wsT_in (List.mem_append_left _ (List.mem_of_getElem? (i := 72) rfl)) rfl⟩
theorem cal_X12_letsVisit : Cal yX12_letsVisit cX12_letsVisit 5 (some .boolean) 3 := ⟨wsT_in (tb_8 (List.mem_of_getElem? (i := 98) rfl)) rfl, wsT_in (tb_1 (List.mem_of_getElem? (i := 13) rfl)) rfl, by decide, by decide, by decide +kernel⟩
theorem cv_X12_letsVisit : CalV yX12_letsVisit RX12 := ⟨wsT_in (tb_8 (List.mem_of_getElem? (i := 97) rfl)) rfl, wsT_in (List.mem_append_left _ (List.mem_of_getElem? (i := 65) rfl)) rfl⟩
theorem cal_X12_mayCount : Cal yX12_mayCount cX12_mayCount 5 (some .boolean) 2 := ⟨wsT_in (tb_9 (List.mem_of_getElem? (i := 157) rfl)) rfl, wsT_in (tb_1 (List.mem_of_getElem? (i := 13) rfl)) rfl, by decide, by decide, by decide +kernel⟩
theorem cv_X12_mayCount : CalV yX12_mayCount RX12 := ⟨wsT_in (tb_9 (List.mem_of_getElem? (i := 156) rfl)) rfl, wsT_in (List.mem_append_left _ (List.mem_of_getElem? (i := 103) rfl)) rfl⟩
theorem cal_X12_mayCross : Cal yX12_mayCross cX12_mayCross 8 (some .boolean) 2 := ⟨wsT_in (tb_8 (List.mem_of_getElem? (i := 94) rfl)) rfl, wsT_in (tb_1 (List.mem_of_getElem? (i := 13) rfl)) rfl, by decide, by decide, by decide +kernel⟩
theorem cv_X12_mayCross : CalV yX12_mayCross RX12 := ⟨wsT_in (tb_8 (List.mem_of_getElem? (i := 93) rfl)) rfl, wsT_in (List.mem_append_left _ (List.mem_of_getElem? (i := 64) rfl)) rfl⟩
theorem cal_X12_newTie : Cal yX12_newTie cX12_newTie 7 (some .int) 4 := ⟨wsT_in (tb_8 (List.mem_of_getElem? (i := 5) rfl)) rfl, wsT_in (tb_1 (List.mem_of_getElem? (i := 13) rfl)) rfl, by decide, by decide, by decide +kernel⟩
theorem cv_X12_newTie : CalV yX12_newTie RX12 := ⟨wsT_in (tb_8 (List.mem_of_getElem? (i := 4) rfl)) rfl, wsT_in (List.mem_append_left _ (List.mem_of_getElem? (i := 52) rfl)) rfl⟩
theorem cal_X12_next : Cal yX12_next cX12_next 3 none 0 := ⟨wsT_in (tb_8 (List.mem_of_getElem? (i := 187) rfl)) rfl, wsT_in (tb_1 (List.mem_of_getElem? (i := 13) rfl)) rfl, by decide, by decide, by decide +kernel⟩
theorem cv_X12_next : CalV yX12_next RX12 := ⟨wsT_in (tb_8 (List.mem_of_getElem? (i := 186) rfl)) rfl, wsT_in (List.mem_append_left _ (List.mem_of_getElem? (i := 79) rfl)) rfl⟩
theorem cal_X12_nextCall : Cal yX12_nextCall cX12_nextCall 5 (some .int) 1 := ⟨wsT_in (tb_8 (List.mem_of_getElem? (i := 166) rfl)) rfl, wsT_in (tb_1 (List.mem_of_getElem? (i := 13) rfl)) rfl, by decide, by decide, by decide +kernel⟩
theorem cv_X12_nextCall : CalV yX12_nextCall RX12 := ⟨wsT_in (tb_8 (List.mem_of_getElem? (i := 165) rfl)) rfl, wsT_in (List.mem_append_left _ (List.mem_of_getElem? (i := 77) rfl)) rfl⟩
theorem cal_X12_ones : Cal yX12_ones cX12_ones 3 (some .int) 1 := ⟨wsT_in (tb_9 (List.mem_of_getElem? (i := 195) rfl)) rfl, wsT_in (tb_1 (List.mem_of_getElem? (i := 13) rfl)) rfl, by decide, by decide, by decide +kernel⟩
theorem st_X12_ones : Cond.static yX12_ones ∈ wsT := wsT_in (tb_9 (List.mem_of_getElem? (i := 194) rfl)) rfl
theorem cal_X12_openFor : Cal yX12_openFor cX12_openFor 4 (some .int) 2 := ⟨wsT_in (tb_9 (List.mem_of_getElem? (i := 187) rfl)) rfl, wsT_in (tb_1 (List.mem_of_getElem? (i := 13) rfl)) rfl, by decide, by decide, by decide +kernel⟩
theorem cv_X12_openFor : CalV yX12_openFor RX12 := ⟨wsT_in (tb_9 (List.mem_of_getElem? (i := 186) rfl)) rfl, wsT_in (List.mem_append_left _ (List.mem_of_getElem? (i := 106) rfl)) rfl⟩
theorem cal_X12_orNone : Cal yX12_orNone cX12_orNone 1 (some .int) 1 := ⟨wsT_in (tb_7 (List.mem_of_getElem? (i := 203) rfl)) rfl, wsT_in (tb_1 (List.mem_of_getElem? (i := 13) rfl)) rfl, by decide, by decide, by decide +kernel⟩
theorem st_X12_orNone : Cond.static yX12_orNone ∈ wsT := wsT_in (tb_7 (List.mem_of_getElem? (i := 202) rfl)) rfl
theorem cal_X12_owedOf : Cal yX12_owedOf cX12_owedOf 10 (some .int) 1 := ⟨wsT_in (tb_9 (List.mem_of_getElem? (i := 161) rfl)) rfl, wsT_in (tb_1 (List.mem_of_getElem? (i := 13) rfl)) rfl, by decide, by decide, by decide +kernel⟩
theorem cv_X12_owedOf : CalV yX12_owedOf RX12 := ⟨wsT_in (tb_9 (List.mem_of_getElem? (i := 160) rfl)) rfl, wsT_in (List.mem_append_left _ (List.mem_of_getElem? (i := 104) rfl)) rfl⟩
theorem cal_X12_ownSide : Cal yX12_ownSide cX12_ownSide 2 (some .int) 1 := ⟨wsT_in (tb_7 (List.mem_of_getElem? (i := 226) rfl)) rfl, wsT_in (tb_1 (List.mem_of_getElem? (i := 13) rfl)) rfl, by decide, by decide, by decide +kernel⟩
theorem cv_X12_ownSide : CalV yX12_ownSide RX12 := ⟨wsT_in (tb_7 (List.mem_of_getElem? (i := 225) rfl)) rfl, wsT_in (List.mem_append_left _ (List.mem_of_getElem? (i := 49) rfl)) rfl⟩
theorem cal_X12_pairWorth : Cal yX12_pairWorth cX12_pairWorth 5 (some .int) 3 := ⟨wsT_in (tb_9 (List.mem_of_getElem? (i := 118) rfl)) rfl, wsT_in (tb_1 (List.mem_of_getElem? (i := 13) rfl)) rfl, by decide, by decide, by decide +kernel⟩
theorem cv_X12_pairWorth : CalV yX12_pairWorth RX12 := ⟨wsT_in (tb_9 (List.mem_of_getElem? (i := 117) rfl)) rfl, wsT_in (List.mem_append_left _ (List.mem_of_getElem? (i := 101) rfl)) rfl⟩
theorem cal_X12_parse : Cal yX12_parse cX12_parse 3 (some .int) 0 := ⟨wsT_in (tb_8 (List.mem_of_getElem? (i := 183) rfl)) rfl, wsT_in (tb_1 (List.mem_of_getElem? (i := 13) rfl)) rfl, by decide, by decide, by decide +kernel⟩
theorem cv_X12_parse : CalV yX12_parse RX12 := ⟨wsT_in (tb_8 (List.mem_of_getElem? (i := 182) rfl)) rfl, wsT_in (List.mem_append_left _ (List.mem_of_getElem? (i := 78) rfl)) rfl⟩
theorem cal_X12_part0 : Cal yX12_part0 cX12_part0 2 (some .boolean) 1 := ⟨wsT_in (tb_8 (List.mem_of_getElem? (i := 235) rfl)) rfl, wsT_in (tb_1 (List.mem_of_getElem? (i := 13) rfl)) rfl, by decide, by decide, by decide +kernel⟩
theorem cv_X12_part0 : CalV yX12_part0 RX12 := ⟨wsT_in (tb_8 (List.mem_of_getElem? (i := 234) rfl)) rfl, wsT_in (List.mem_append_left _ (List.mem_of_getElem? (i := 90) rfl)) rfl⟩
theorem cal_X12_personAt : Cal yX12_personAt cX12_personAt 2 (some .int) 1 := ⟨wsT_in (tb_7 (List.mem_of_getElem? (i := 191) rfl)) rfl, wsT_in (tb_1 (List.mem_of_getElem? (i := 13) rfl)) rfl, by decide, by decide, by decide +kernel⟩
theorem cv_X12_personAt : CalV yX12_personAt RX12 := ⟨wsT_in (tb_7 (List.mem_of_getElem? (i := 190) rfl)) rfl, wsT_in (List.mem_append_left _ (List.mem_of_getElem? (i := 45) rfl)) rfl⟩
theorem cal_X12_readOf : Cal yX12_readOf cX12_readOf 4 (some .int) 2 := ⟨wsT_in (tb_9 (List.mem_of_getElem? (i := 132) rfl)) rfl, wsT_in (tb_1 (List.mem_of_getElem? (i := 13) rfl)) rfl, by decide, by decide, by decide +kernel⟩
theorem cv_X12_readOf : CalV yX12_readOf RX12 := ⟨wsT_in (tb_9 (List.mem_of_getElem? (i := 131) rfl)) rfl, wsT_in (List.mem_append_left _ (List.mem_of_getElem? (i := 102) rfl)) rfl⟩
theorem cal_X12_reason : Cal yX12_reason cX12_reason 4 (some .int) 1 := ⟨wsT_in (tb_8 (List.mem_of_getElem? (i := 86) rfl)) rfl, wsT_in (tb_1 (List.mem_of_getElem? (i := 13) rfl)) rfl, by decide, by decide, by decide +kernel⟩
theorem cv_X12_reason : CalV yX12_reason RX12 := ⟨wsT_in (tb_8 (List.mem_of_getElem? (i := 85) rfl)) rfl, wsT_in (List.mem_append_left _ (List.mem_of_getElem? (i := 62) rfl)) rfl⟩
theorem cal_X12_returns : Cal yX12_returns cX12_returns 5 none 1 := ⟨wsT_in (tb_8 (List.mem_of_getElem? (i := 158) rfl)) rfl, wsT_in (tb_1 (List.mem_of_getElem? (i := 13) rfl)) rfl, by decide, by decide, by decide +kernel⟩
theorem cv_X12_returns : CalV yX12_returns RX12 := ⟨wsT_in (tb_8 (List.mem_of_getElem? (i := 157) rfl)) rfl, wsT_in (List.mem_append_left _ (List.mem_of_getElem? (i := 75) rfl)) rfl⟩
theorem cal_X12_rowsOfDays : Cal yX12_rowsOfDays cX12_rowsOfDays 3 (some .int) 1 := ⟨wsT_in (tb_9 (List.mem_of_getElem? (i := 238) rfl)) rfl, wsT_in (tb_1 (List.mem_of_getElem? (i := 13) rfl)) rfl, by decide, by decide, by decide +kernel⟩
theorem cv_X12_rowsOfDays : CalV yX12_rowsOfDays RX12 := ⟨wsT_in (tb_9 (List.mem_of_getElem? (i := 237) rfl)) rfl, wsT_in (List.mem_append_left _ (List.mem_of_getElem? (i := 111) rfl)) rfl⟩
theorem cal_X12_rowsOfOrder : Cal yX12_rowsOfOrder cX12_rowsOfOrder 5 (some .int) 1 := ⟨wsT_in (tb_9 (List.mem_of_getElem? (i := 230) rfl)) rfl, wsT_in (tb_1 (List.mem_of_getElem? (i := 13) rfl)) rfl, by decide, by decide, by decide +kernel⟩
theorem cv_X12_rowsOfOrder : CalV yX12_rowsOfOrder RX12 := ⟨wsT_in (tb_9 (List.mem_of_getElem? (i := 229) rfl)) rfl, wsT_in (List.mem_append_left _ (List.mem_of_getElem? (i := 109) rfl)) rfl⟩
theorem cal_X12_seek : Cal yX12_seek cX12_seek 10 none 6 := ⟨wsT_in (tb_9 (List.mem_of_getElem? (i := 213) rfl)) rfl, wsT_in (tb_1 (List.mem_of_getElem? (i := 13) rfl)) rfl, by decide, by decide, by decide +kernel⟩
theorem cv_X12_seek : CalV yX12_seek RX12 := ⟨wsT_in (tb_9 (List.mem_of_getElem? (i := 212) rfl)) rfl, wsT_in (List.mem_append_left _ (List.mem_of_getElem? (i := 108) rfl)) rfl⟩
theorem cal_X12_sendHome : Cal yX12_sendHome cX12_sendHome 3 none 1 := ⟨wsT_in (tb_8 (List.mem_of_getElem? (i := 74) rfl)) rfl, wsT_in (tb_1 (List.mem_of_getElem? (i := 13) rfl)) rfl, by decide, by decide, by decide +kernel⟩
theorem cv_X12_sendHome : CalV yX12_sendHome RX12 := ⟨wsT_in (tb_8 (List.mem_of_getElem? (i := 73) rfl)) rfl, wsT_in (List.mem_append_left _ (List.mem_of_getElem? (i := 60) rfl)) rfl⟩
theorem cal_X12_sideOf : Cal yX12_sideOf cX12_sideOf 2 (some .int) 1 := ⟨wsT_in (tb_7 (List.mem_of_getElem? (i := 230) rfl)) rfl, wsT_in (tb_1 (List.mem_of_getElem? (i := 13) rfl)) rfl, by decide, by decide, by decide +kernel⟩
theorem cv_X12_sideOf : CalV yX12_sideOf RX12 := ⟨wsT_in (tb_7 (List.mem_of_getElem? (i := 229) rfl)) rfl, wsT_in (List.mem_append_left _ (List.mem_of_getElem? (i := 50) rfl)) rfl⟩
theorem cal_X12_size : Cal yX12_size cX12_size 1 (some .int) 1 := ⟨wsT_in (tb_9 (List.mem_of_getElem? (i := 100) rfl)) rfl, wsT_in (tb_1 (List.mem_of_getElem? (i := 13) rfl)) rfl, by decide, by decide, by decide +kernel⟩
theorem st_X12_size : Cond.static yX12_size ∈ wsT := wsT_in (tb_9 (List.mem_of_getElem? (i := 99) rfl)) rfl
theorem cal_X12_speaks : Cal yX12_speaks cX12_speaks 8 none 1 := ⟨wsT_in (tb_8 (List.mem_of_getElem? (i := 162) rfl)) rfl, wsT_in (tb_1 (List.mem_of_getElem? (i := 13) rfl)) rfl, by decide, by decide, by decide +kernel⟩
theorem cv_X12_speaks : CalV yX12_speaks RX12 := ⟨wsT_in (tb_8 (List.mem_of_getElem? (i := 161) rfl)) rfl, wsT_in (List.mem_append_left _ (List.mem_of_getElem? (i := 76) rfl)) rfl⟩
theorem cal_X12_step : Cal yX12_step cX12_step 3 none 2 := ⟨wsT_in (tb_8 (List.mem_of_getElem? (i := 239) rfl)) rfl, wsT_in (tb_1 (List.mem_of_getElem? (i := 13) rfl)) rfl, by decide, by decide, by decide +kernel⟩
theorem cv_X12_step : CalV yX12_step RX12 := ⟨wsT_in (tb_8 (List.mem_of_getElem? (i := 238) rfl)) rfl, wsT_in (List.mem_append_left _ (List.mem_of_getElem? (i := 91) rfl)) rfl⟩
theorem cal_X12_sum : Cal yX12_sum cX12_sum 3 (some .boolean) 1 := ⟨wsT_in (tb_8 (List.mem_of_getElem? (i := 227) rfl)) rfl, wsT_in (tb_1 (List.mem_of_getElem? (i := 13) rfl)) rfl, by decide, by decide, by decide +kernel⟩
theorem cv_X12_sum : CalV yX12_sum RX12 := ⟨wsT_in (tb_8 (List.mem_of_getElem? (i := 226) rfl)) rfl, wsT_in (List.mem_append_left _ (List.mem_of_getElem? (i := 88) rfl)) rfl⟩
theorem cal_X12_term : Cal yX12_term cX12_term 3 (some .boolean) 1 := ⟨wsT_in (tb_8 (List.mem_of_getElem? (i := 231) rfl)) rfl, wsT_in (tb_1 (List.mem_of_getElem? (i := 13) rfl)) rfl, by decide, by decide, by decide +kernel⟩
theorem cv_X12_term : CalV yX12_term RX12 := ⟨wsT_in (tb_8 (List.mem_of_getElem? (i := 230) rfl)) rfl, wsT_in (List.mem_append_left _ (List.mem_of_getElem? (i := 89) rfl)) rfl⟩
theorem cal_X12_test : Cal yX12_test cX12_test 3 (some .boolean) 1 := ⟨wsT_in (tb_8 (List.mem_of_getElem? (i := 223) rfl)) rfl, wsT_in (tb_1 (List.mem_of_getElem? (i := 13) rfl)) rfl, by decide, by decide, by decide +kernel⟩
theorem cv_X12_test : CalV yX12_test RX12 := ⟨wsT_in (tb_8 (List.mem_of_getElem? (i := 222) rfl)) rfl, wsT_in (List.mem_append_left _ (List.mem_of_getElem? (i := 87) rfl)) rfl⟩
theorem cal_X12_textAt : Cal yX12_textAt cX12_textAt 2 (some .int) 1 := ⟨wsT_in (tb_8 (List.mem_of_getElem? (i := 106) rfl)) rfl, wsT_in (tb_1 (List.mem_of_getElem? (i := 13) rfl)) rfl, by decide, by decide, by decide +kernel⟩
theorem cv_X12_textAt : CalV yX12_textAt RX12 := ⟨wsT_in (tb_8 (List.mem_of_getElem? (i := 105) rfl)) rfl, wsT_in (List.mem_append_left _ (List.mem_of_getElem? (i := 67) rfl)) rfl⟩
theorem cal_X12_tieAt : Cal yX12_tieAt cX12_tieAt 2 (some .int) 1 := ⟨wsT_in (tb_8 (List.mem_of_getElem? (i := 9) rfl)) rfl, wsT_in (tb_1 (List.mem_of_getElem? (i := 13) rfl)) rfl, by decide, by decide, by decide +kernel⟩
theorem cv_X12_tieAt : CalV yX12_tieAt RX12 := ⟨wsT_in (tb_8 (List.mem_of_getElem? (i := 8) rfl)) rfl, wsT_in (List.mem_append_left _ (List.mem_of_getElem? (i := 53) rfl)) rfl⟩
theorem cal_X12_visitsOf : Cal yX12_visitsOf cX12_visitsOf 6 (some .int) 1 := ⟨wsT_in (tb_9 (List.mem_of_getElem? (i := 39) rfl)) rfl, wsT_in (tb_1 (List.mem_of_getElem? (i := 13) rfl)) rfl, by decide, by decide, by decide +kernel⟩
theorem cv_X12_visitsOf : CalV yX12_visitsOf RX12 := ⟨wsT_in (tb_9 (List.mem_of_getElem? (i := 38) rfl)) rfl, wsT_in (List.mem_append_left _ (List.mem_of_getElem? (i := 94) rfl)) rfl⟩
theorem cal_X12_waiters : Cal yX12_waiters cX12_waiters 3 (some .int) 0 := ⟨wsT_in (tb_10 (List.mem_of_getElem? (i := 3) rfl)) rfl, wsT_in (tb_1 (List.mem_of_getElem? (i := 13) rfl)) rfl, by decide, by decide, by decide +kernel⟩
theorem cv_X12_waiters : CalV yX12_waiters RX12 := ⟨wsT_in (tb_10 (List.mem_of_getElem? (i := 2) rfl)) rfl, wsT_in (List.mem_append_left _ (List.mem_of_getElem? (i := 112) rfl)) rfl⟩
theorem cal_X12_waiting0 : Cal yX12_waiting0 cX12_waiting0 4 (some .int) 1 := ⟨wsT_in (tb_8 (List.mem_of_getElem? (i := 33) rfl)) rfl, wsT_in (tb_1 (List.mem_of_getElem? (i := 13) rfl)) rfl, by decide, by decide, by decide +kernel⟩
theorem cv_X12_waiting0 : CalV yX12_waiting0 RX12 := ⟨wsT_in (tb_8 (List.mem_of_getElem? (i := 32) rfl)) rfl, wsT_in (List.mem_append_left _ (List.mem_of_getElem? (i := 56) rfl)) rfl⟩
theorem cal_X12_waitingOf : Cal yX12_waitingOf cX12_waitingOf 5 (some .int) 1 := ⟨wsT_in (tb_9 (List.mem_of_getElem? (i := 183) rfl)) rfl, wsT_in (tb_1 (List.mem_of_getElem? (i := 13) rfl)) rfl, by decide, by decide, by decide +kernel⟩
theorem cv_X12_waitingOf : CalV yX12_waitingOf RX12 := ⟨wsT_in (tb_9 (List.mem_of_getElem? (i := 182) rfl)) rfl, wsT_in (List.mem_append_left _ (List.mem_of_getElem? (i := 105) rfl)) rfl⟩
theorem cal_X12_waits : Cal yX12_waits cX12_waits 2 (some .boolean) 1 := ⟨wsT_in (tb_7 (List.mem_of_getElem? (i := 222) rfl)) rfl, wsT_in (tb_1 (List.mem_of_getElem? (i := 13) rfl)) rfl, by decide, by decide, by decide +kernel⟩
theorem cv_X12_waits : CalV yX12_waits RX12 := ⟨wsT_in (tb_7 (List.mem_of_getElem? (i := 221) rfl)) rfl, wsT_in (List.mem_append_left _ (List.mem_of_getElem? (i := 48) rfl)) rfl⟩
theorem cal_X12_worked : Cal yX12_worked cX12_worked 6 (some .int) 1 := ⟨wsT_in (tb_8 (List.mem_of_getElem? (i := 110) rfl)) rfl, wsT_in (tb_1 (List.mem_of_getElem? (i := 13) rfl)) rfl, by decide, by decide, by decide +kernel⟩
theorem cv_X12_worked : CalV yX12_worked RX12 := ⟨wsT_in (tb_8 (List.mem_of_getElem? (i := 109) rfl)) rfl, wsT_in (List.mem_append_left _ (List.mem_of_getElem? (i := 68) rfl)) rfl⟩
theorem cal_X1_addClause : Cal yX1_addClause cX1_addClause 4 (some .int) 3 := ⟨wsT_in (tb_6 (List.mem_of_getElem? (i := 157) rfl)) rfl, wsT_in (tb_1 (List.mem_of_getElem? (i := 9) rfl)) rfl, by decide, by decide, by decide +kernel⟩
theorem cv_X1_addClause : CalV yX1_addClause RX1 := ⟨wsT_in (tb_6 (List.mem_of_getElem? (i := 155) rfl)) rfl, wsT_in (tb_6 (List.mem_of_getElem? (i := 156) rfl)) rfl⟩
theorem cal_X1_agree : Cal yX1_agree cX1_agree 8 none 6 := ⟨wsT_in (tb_6 (List.mem_of_getElem? (i := 173) rfl)) rfl, wsT_in (tb_1 (List.mem_of_getElem? (i := 9) rfl)) rfl, by decide, by decide, by decide +kernel⟩
theorem cv_X1_agree : CalV yX1_agree RX1 := ⟨wsT_in (tb_6 (List.mem_of_getElem? (i := 172) rfl)) rfl, wsT_in (List.mem_append_left _ (List.mem_of_getElem? (i := 37) rfl)) rfl⟩
theorem cal_X1_become : Cal yX1_become cX1_become 2 none 1 := ⟨wsT_in (tb_7 (List.mem_of_getElem? (i := 2) rfl)) rfl, wsT_in (tb_1 (List.mem_of_getElem? (i := 9) rfl)) rfl, by decide, by decide, by decide +kernel⟩
theorem cv_X1_become : CalV yX1_become RX1 := ⟨wsT_in (tb_7 (List.mem_of_getElem? (i := 0) rfl)) rfl, wsT_in (tb_7 (List.mem_of_getElem? (i := 1) rfl)) rfl⟩
theorem cal_X1_seek : Cal yX1_seek cX1_seek 8 none 5 := ⟨wsT_in (tb_6 (List.mem_of_getElem? (i := 169) rfl)) rfl, wsT_in (tb_1 (List.mem_of_getElem? (i := 9) rfl)) rfl, by decide, by decide, by decide +kernel⟩
theorem cv_X1_seek : CalV yX1_seek RX1 := ⟨wsT_in (tb_6 (List.mem_of_getElem? (i := 168) rfl)) rfl, wsT_in (List.mem_append_left _ (List.mem_of_getElem? (i := 36) rfl)) rfl⟩
theorem cal_X1_settle : Cal yX1_settle cX1_settle 2 none 1 := ⟨wsT_in (tb_6 (List.mem_of_getElem? (i := 177) rfl)) rfl, wsT_in (tb_1 (List.mem_of_getElem? (i := 9) rfl)) rfl, by decide, by decide, by decide +kernel⟩
theorem cv_X1_settle : CalV yX1_settle RX1 := ⟨wsT_in (tb_6 (List.mem_of_getElem? (i := 176) rfl)) rfl, wsT_in (List.mem_append_left _ (List.mem_of_getElem? (i := 38) rfl)) rfl⟩
theorem cal_X1_soonest : Cal yX1_soonest cX1_soonest 4 (some .int) 3 := ⟨wsT_in (tb_6 (List.mem_of_getElem? (i := 165) rfl)) rfl, wsT_in (tb_1 (List.mem_of_getElem? (i := 9) rfl)) rfl, by decide, by decide, by decide +kernel⟩
theorem cv_X1_soonest : CalV yX1_soonest RX1 := ⟨wsT_in (tb_6 (List.mem_of_getElem? (i := 163) rfl)) rfl, wsT_in (tb_6 (List.mem_of_getElem? (i := 164) rfl)) rfl⟩
theorem cal_X2_become : Cal yX2_become cX2_become 2 none 1 := ⟨wsT_in (tb_6 (List.mem_of_getElem? (i := 237) rfl)) rfl, wsT_in (tb_1 (List.mem_of_getElem? (i := 8) rfl)) rfl, by decide, by decide, by decide +kernel⟩
theorem cv_X2_become : CalV yX2_become RX2 := ⟨wsT_in (tb_6 (List.mem_of_getElem? (i := 235) rfl)) rfl, wsT_in (tb_6 (List.mem_of_getElem? (i := 236) rfl)) rfl⟩
theorem cal_X2_bestSet : Cal yX2_bestSet cX2_bestSet 7 (some .int) 1 := ⟨wsT_in (tb_6 (List.mem_of_getElem? (i := 142) rfl)) rfl, wsT_in (tb_1 (List.mem_of_getElem? (i := 8) rfl)) rfl, by decide, by decide, by decide +kernel⟩
theorem cv_X2_bestSet : CalV yX2_bestSet RX2 := ⟨wsT_in (tb_6 (List.mem_of_getElem? (i := 140) rfl)) rfl, wsT_in (tb_6 (List.mem_of_getElem? (i := 141) rfl)) rfl⟩
theorem cal_X2_send : Cal yX2_send cX2_send 5 none 1 := ⟨wsT_in (tb_6 (List.mem_of_getElem? (i := 132) rfl)) rfl, wsT_in (tb_1 (List.mem_of_getElem? (i := 8) rfl)) rfl, by decide, by decide, by decide +kernel⟩
theorem cv_X2_send : CalV yX2_send RX2 := ⟨wsT_in (tb_6 (List.mem_of_getElem? (i := 131) rfl)) rfl, wsT_in (List.mem_append_left _ (List.mem_of_getElem? (i := 35) rfl)) rfl⟩
theorem cal_X2_waitOf : Cal yX2_waitOf cX2_waitOf 5 (some .int) 1 := ⟨wsT_in (tb_6 (List.mem_of_getElem? (i := 128) rfl)) rfl, wsT_in (tb_1 (List.mem_of_getElem? (i := 8) rfl)) rfl, by decide, by decide, by decide +kernel⟩
theorem cv_X2_waitOf : CalV yX2_waitOf RX2 := ⟨wsT_in (tb_6 (List.mem_of_getElem? (i := 126) rfl)) rfl, wsT_in (tb_6 (List.mem_of_getElem? (i := 127) rfl)) rfl⟩
theorem cal_X3_addFile : Cal yX3_addFile cX3_addFile 5 (some .int) 3 := ⟨wsT_in (tb_5 (List.mem_of_getElem? (i := 220) rfl)) rfl, wsT_in (tb_1 (List.mem_of_getElem? (i := 7) rfl)) rfl, by decide, by decide, by decide +kernel⟩
theorem cv_X3_addFile : CalV yX3_addFile RX3 := ⟨wsT_in (tb_5 (List.mem_of_getElem? (i := 218) rfl)) rfl, wsT_in (tb_5 (List.mem_of_getElem? (i := 219) rfl)) rfl⟩
theorem cal_X3_become : Cal yX3_become cX3_become 2 none 1 := ⟨wsT_in (tb_6 (List.mem_of_getElem? (i := 232) rfl)) rfl, wsT_in (tb_1 (List.mem_of_getElem? (i := 7) rfl)) rfl, by decide, by decide, by decide +kernel⟩
theorem cv_X3_become : CalV yX3_become RX3 := ⟨wsT_in (tb_6 (List.mem_of_getElem? (i := 230) rfl)) rfl, wsT_in (tb_6 (List.mem_of_getElem? (i := 231) rfl)) rfl⟩
theorem cal_X3_figure : Cal yX3_figure cX3_figure 2 (some .int) 2 := ⟨wsT_in (tb_6 (List.mem_of_getElem? (i := 0) rfl)) rfl, wsT_in (tb_1 (List.mem_of_getElem? (i := 7) rfl)) rfl, by decide, by decide, by decide +kernel⟩
theorem st_X3_figure : Cond.static yX3_figure ∈ wsT := wsT_in (tb_5 (List.mem_of_getElem? (i := 239) rfl)) rfl
theorem cal_X3_findPairs : Cal yX3_findPairs cX3_findPairs 4 none 0 := ⟨wsT_in (tb_6 (List.mem_of_getElem? (i := 8) rfl)) rfl, wsT_in (tb_1 (List.mem_of_getElem? (i := 7) rfl)) rfl, by decide, by decide, by decide +kernel⟩
theorem cv_X3_findPairs : CalV yX3_findPairs RX3 := ⟨wsT_in (tb_6 (List.mem_of_getElem? (i := 6) rfl)) rfl, wsT_in (tb_6 (List.mem_of_getElem? (i := 7) rfl)) rfl⟩
theorem cal_X3_has : Cal yX3_has cX3_has 3 (some .boolean) 2 := ⟨wsT_in (tb_5 (List.mem_of_getElem? (i := 228) rfl)) rfl, wsT_in (tb_1 (List.mem_of_getElem? (i := 7) rfl)) rfl, by decide, by decide, by decide +kernel⟩
theorem cv_X3_has : CalV yX3_has RX3 := ⟨wsT_in (tb_5 (List.mem_of_getElem? (i := 226) rfl)) rfl, wsT_in (tb_5 (List.mem_of_getElem? (i := 227) rfl)) rfl⟩
theorem cal_X3_leastPartner : Cal yX3_leastPartner cX3_leastPartner 6 (some .int) 2 := ⟨wsT_in (tb_6 (List.mem_of_getElem? (i := 31) rfl)) rfl, wsT_in (tb_1 (List.mem_of_getElem? (i := 7) rfl)) rfl, by decide, by decide, by decide +kernel⟩
theorem cv_X3_leastPartner : CalV yX3_leastPartner RX3 := ⟨wsT_in (tb_6 (List.mem_of_getElem? (i := 30) rfl)) rfl, wsT_in (List.mem_append_left _ (List.mem_of_getElem? (i := 33) rfl)) rfl⟩
theorem cal_X3_likeness : Cal yX3_likeness cX3_likeness 8 (some .int) 2 := ⟨wsT_in (tb_5 (List.mem_of_getElem? (i := 232) rfl)) rfl, wsT_in (tb_1 (List.mem_of_getElem? (i := 7) rfl)) rfl, by decide, by decide, by decide +kernel⟩
theorem cv_X3_likeness : CalV yX3_likeness RX3 := ⟨wsT_in (tb_5 (List.mem_of_getElem? (i := 230) rfl)) rfl, wsT_in (tb_5 (List.mem_of_getElem? (i := 231) rfl)) rfl⟩
theorem cal_X3_weigh : Cal yX3_weigh cX3_weigh 5 none 0 := ⟨wsT_in (tb_6 (List.mem_of_getElem? (i := 12) rfl)) rfl, wsT_in (tb_1 (List.mem_of_getElem? (i := 7) rfl)) rfl, by decide, by decide, by decide +kernel⟩
theorem cv_X3_weigh : CalV yX3_weigh RX3 := ⟨wsT_in (tb_6 (List.mem_of_getElem? (i := 11) rfl)) rfl, wsT_in (List.mem_append_left _ (List.mem_of_getElem? (i := 31) rfl)) rfl⟩
theorem cal_X3_weighPair : Cal yX3_weighPair cX3_weighPair 8 none 3 := ⟨wsT_in (tb_6 (List.mem_of_getElem? (i := 22) rfl)) rfl, wsT_in (tb_1 (List.mem_of_getElem? (i := 7) rfl)) rfl, by decide, by decide, by decide +kernel⟩
theorem cv_X3_weighPair : CalV yX3_weighPair RX3 := ⟨wsT_in (tb_6 (List.mem_of_getElem? (i := 21) rfl)) rfl, wsT_in (List.mem_append_left _ (List.mem_of_getElem? (i := 32) rfl)) rfl⟩
theorem cal_X3_worthOf : Cal yX3_worthOf cX3_worthOf 1 (some .int) 1 := ⟨wsT_in (tb_6 (List.mem_of_getElem? (i := 26) rfl)) rfl, wsT_in (tb_1 (List.mem_of_getElem? (i := 7) rfl)) rfl, by decide, by decide, by decide +kernel⟩
theorem st_X3_worthOf : Cond.static yX3_worthOf ∈ wsT := wsT_in (tb_6 (List.mem_of_getElem? (i := 25) rfl)) rfl
theorem cal_X4_addText : Cal yX4_addText cX4_addText 4 (some .int) 3 := ⟨wsT_in (tb_5 (List.mem_of_getElem? (i := 87) rfl)) rfl, wsT_in (tb_1 (List.mem_of_getElem? (i := 6) rfl)) rfl, by decide, by decide, by decide +kernel⟩
theorem cv_X4_addText : CalV yX4_addText RX4 := ⟨wsT_in (tb_5 (List.mem_of_getElem? (i := 85) rfl)) rfl, wsT_in (tb_5 (List.mem_of_getElem? (i := 86) rfl)) rfl⟩
theorem cal_X4_become : Cal yX4_become cX4_become 2 none 1 := ⟨wsT_in (tb_6 (List.mem_of_getElem? (i := 227) rfl)) rfl, wsT_in (tb_1 (List.mem_of_getElem? (i := 6) rfl)) rfl, by decide, by decide, by decide +kernel⟩
theorem cv_X4_become : CalV yX4_become RX4 := ⟨wsT_in (tb_6 (List.mem_of_getElem? (i := 225) rfl)) rfl, wsT_in (tb_6 (List.mem_of_getElem? (i := 226) rfl)) rfl⟩
theorem cal_X4_counting : Cal yX4_counting cX4_counting 6 (some .int) 3 := ⟨wsT_in (tb_4 (List.mem_of_getElem? (i := 0) rfl)) rfl, wsT_in (tb_1 (List.mem_of_getElem? (i := 6) rfl)) rfl, by decide, by decide, by decide +kernel⟩
theorem cv_X4_counting : CalV yX4_counting RX4 := ⟨wsT_in (tb_3 (List.mem_of_getElem? (i := 238) rfl)) rfl, wsT_in (tb_3 (List.mem_of_getElem? (i := 239) rfl)) rfl⟩
theorem cal_X4_differ : Cal yX4_differ cX4_differ 13 (some .int) 4 := ⟨wsT_in (tb_5 (List.mem_of_getElem? (i := 123) rfl)) rfl, wsT_in (tb_1 (List.mem_of_getElem? (i := 6) rfl)) rfl, by decide, by decide, by decide +kernel⟩
theorem cv_X4_differ : CalV yX4_differ RX4 := ⟨wsT_in (tb_5 (List.mem_of_getElem? (i := 121) rfl)) rfl, wsT_in (tb_5 (List.mem_of_getElem? (i := 122) rfl)) rfl⟩
theorem cal_X4_has : Cal yX4_has cX4_has 2 (some .boolean) 1 := ⟨wsT_in (tb_5 (List.mem_of_getElem? (i := 99) rfl)) rfl, wsT_in (tb_1 (List.mem_of_getElem? (i := 6) rfl)) rfl, by decide, by decide, by decide +kernel⟩
theorem cv_X4_has : CalV yX4_has RX4 := ⟨wsT_in (tb_5 (List.mem_of_getElem? (i := 97) rfl)) rfl, wsT_in (tb_5 (List.mem_of_getElem? (i := 98) rfl)) rfl⟩
theorem cal_X4_holdsOn : Cal yX4_holdsOn cX4_holdsOn 3 (some .boolean) 2 := ⟨wsT_in (tb_4 (List.mem_of_getElem? (i := 5) rfl)) rfl, wsT_in (tb_1 (List.mem_of_getElem? (i := 6) rfl)) rfl, by decide, by decide, by decide +kernel⟩
theorem cv_X4_holdsOn : CalV yX4_holdsOn RX4 := ⟨wsT_in (tb_4 (List.mem_of_getElem? (i := 4) rfl)) rfl, wsT_in (List.mem_append_left _ (List.mem_of_getElem? (i := 1) rfl)) rfl⟩
theorem cal_X4_mentions : Cal yX4_mentions cX4_mentions 4 (some .boolean) 2 := ⟨wsT_in (tb_5 (List.mem_of_getElem? (i := 127) rfl)) rfl, wsT_in (tb_1 (List.mem_of_getElem? (i := 6) rfl)) rfl, by decide, by decide, by decide +kernel⟩
theorem cv_X4_mentions : CalV yX4_mentions RX4 := ⟨wsT_in (tb_5 (List.mem_of_getElem? (i := 126) rfl)) rfl, wsT_in (List.mem_append_left _ (List.mem_of_getElem? (i := 25) rfl)) rfl⟩
theorem cal_X4_setNames : Cal yX4_setNames cX4_setNames 5 none 4 := ⟨wsT_in (tb_4 (List.mem_of_getElem? (i := 10) rfl)) rfl, wsT_in (tb_1 (List.mem_of_getElem? (i := 6) rfl)) rfl, by decide, by decide, by decide +kernel⟩
theorem cv_X4_setNames : CalV yX4_setNames RX4 := ⟨wsT_in (tb_4 (List.mem_of_getElem? (i := 8) rfl)) rfl, wsT_in (tb_4 (List.mem_of_getElem? (i := 9) rfl)) rfl⟩
theorem cal_X4_truth : Cal yX4_truth cX4_truth 1 (some .int) 1 := ⟨wsT_in (tb_4 (List.mem_of_getElem? (i := 17) rfl)) rfl, wsT_in (tb_1 (List.mem_of_getElem? (i := 6) rfl)) rfl, by decide, by decide, by decide +kernel⟩
theorem st_X4_truth : Cond.static yX4_truth ∈ wsT := wsT_in (tb_4 (List.mem_of_getElem? (i := 16) rfl)) rfl
theorem cal_X4_valueOf : Cal yX4_valueOf cX4_valueOf 6 (some .int) 1 := ⟨wsT_in (tb_4 (List.mem_of_getElem? (i := 14) rfl)) rfl, wsT_in (tb_1 (List.mem_of_getElem? (i := 6) rfl)) rfl, by decide, by decide, by decide +kernel⟩
theorem cv_X4_valueOf : CalV yX4_valueOf RX4 := ⟨wsT_in (tb_4 (List.mem_of_getElem? (i := 12) rfl)) rfl, wsT_in (tb_4 (List.mem_of_getElem? (i := 13) rfl)) rfl⟩
theorem cal_X4_worth : Cal yX4_worth cX4_worth 3 (some .int) 3 := ⟨wsT_in (tb_4 (List.mem_of_getElem? (i := 20) rfl)) rfl, wsT_in (tb_1 (List.mem_of_getElem? (i := 6) rfl)) rfl, by decide, by decide, by decide +kernel⟩
theorem st_X4_worth : Cond.static yX4_worth ∈ wsT := wsT_in (tb_4 (List.mem_of_getElem? (i := 19) rfl)) rfl
theorem cal_X5_agreed : Cal yX5_agreed cX5_agreed 9 (some .long) 3 := ⟨wsT_in (tb_6 (List.mem_of_getElem? (i := 95) rfl)) rfl, wsT_in (tb_1 (List.mem_of_getElem? (i := 11) rfl)) rfl, by decide, by decide, by decide +kernel⟩
theorem st_X5_agreed : Cond.static yX5_agreed ∈ wsT := wsT_in (tb_6 (List.mem_of_getElem? (i := 94) rfl)) rfl
theorem cal_X5_canCount : Cal yX5_canCount cX5_canCount 5 (some .boolean) 3 := ⟨wsT_in (tb_6 (List.mem_of_getElem? (i := 90) rfl)) rfl, wsT_in (tb_1 (List.mem_of_getElem? (i := 11) rfl)) rfl, by decide, by decide, by decide +kernel⟩
theorem cv_X5_canCount : CalV yX5_canCount RX5 := ⟨wsT_in (tb_6 (List.mem_of_getElem? (i := 89) rfl)) rfl, wsT_in (List.mem_append_left _ (List.mem_of_getElem? (i := 34) rfl)) rfl⟩
theorem cal_X5_finding : Cal yX5_finding cX5_finding 3 (some .int) 2 := ⟨wsT_in (tb_6 (List.mem_of_getElem? (i := 50) rfl)) rfl, wsT_in (tb_1 (List.mem_of_getElem? (i := 11) rfl)) rfl, by decide, by decide, by decide +kernel⟩
theorem cv_X5_finding : CalV yX5_finding RX5 := ⟨wsT_in (tb_6 (List.mem_of_getElem? (i := 48) rfl)) rfl, wsT_in (tb_6 (List.mem_of_getElem? (i := 49) rfl)) rfl⟩
theorem cal_X5_holds : Cal yX5_holds cX5_holds 4 (some .boolean) 3 := ⟨wsT_in (tb_6 (List.mem_of_getElem? (i := 72) rfl)) rfl, wsT_in (tb_1 (List.mem_of_getElem? (i := 11) rfl)) rfl, by decide, by decide, by decide +kernel⟩
theorem cv_X5_holds : CalV yX5_holds RX5 := ⟨wsT_in (tb_6 (List.mem_of_getElem? (i := 70) rfl)) rfl, wsT_in (tb_6 (List.mem_of_getElem? (i := 71) rfl)) rfl⟩
theorem cal_X5_lastTold : Cal yX5_lastTold cX5_lastTold 4 (some .int) 2 := ⟨wsT_in (tb_6 (List.mem_of_getElem? (i := 62) rfl)) rfl, wsT_in (tb_1 (List.mem_of_getElem? (i := 11) rfl)) rfl, by decide, by decide, by decide +kernel⟩
theorem cv_X5_lastTold : CalV yX5_lastTold RX5 := ⟨wsT_in (tb_6 (List.mem_of_getElem? (i := 60) rfl)) rfl, wsT_in (tb_6 (List.mem_of_getElem? (i := 61) rfl)) rfl⟩
theorem cal_X5_renew : Cal yX5_renew cX5_renew 4 (some .int) 3 := ⟨wsT_in (tb_6 (List.mem_of_getElem? (i := 41) rfl)) rfl, wsT_in (tb_1 (List.mem_of_getElem? (i := 11) rfl)) rfl, by decide, by decide, by decide +kernel⟩
theorem cv_X5_renew : CalV yX5_renew RX5 := ⟨wsT_in (tb_6 (List.mem_of_getElem? (i := 39) rfl)) rfl, wsT_in (tb_6 (List.mem_of_getElem? (i := 40) rfl)) rfl⟩
theorem cal_X5_sumOwed : Cal yX5_sumOwed cX5_sumOwed 5 (some .long) 2 := ⟨wsT_in (tb_6 (List.mem_of_getElem? (i := 86) rfl)) rfl, wsT_in (tb_1 (List.mem_of_getElem? (i := 11) rfl)) rfl, by decide, by decide, by decide +kernel⟩
theorem cv_X5_sumOwed : CalV yX5_sumOwed RX5 := ⟨wsT_in (tb_6 (List.mem_of_getElem? (i := 84) rfl)) rfl, wsT_in (tb_6 (List.mem_of_getElem? (i := 85) rfl)) rfl⟩
theorem cal_X6_addPerson : Cal yX6_addPerson cX6_addPerson 4 (some .int) 3 := ⟨wsT_in (tb_3 (List.mem_of_getElem? (i := 77) rfl)) rfl, wsT_in (tb_1 (List.mem_of_getElem? (i := 3) rfl)) rfl, by decide, by decide, by decide +kernel⟩
theorem cv_X6_addPerson : CalV yX6_addPerson RX6 := ⟨wsT_in (tb_3 (List.mem_of_getElem? (i := 75) rfl)) rfl, wsT_in (tb_3 (List.mem_of_getElem? (i := 76) rfl)) rfl⟩
theorem cal_X6_become : Cal yX6_become cX6_become 2 none 1 := ⟨wsT_in (tb_6 (List.mem_of_getElem? (i := 212) rfl)) rfl, wsT_in (tb_1 (List.mem_of_getElem? (i := 3) rfl)) rfl, by decide, by decide, by decide +kernel⟩
theorem cv_X6_become : CalV yX6_become RX6 := ⟨wsT_in (tb_6 (List.mem_of_getElem? (i := 210) rfl)) rfl, wsT_in (tb_6 (List.mem_of_getElem? (i := 211) rfl)) rfl⟩
theorem cal_X6_bury : Cal yX6_bury cX6_bury 3 none 2 := ⟨wsT_in (tb_3 (List.mem_of_getElem? (i := 111) rfl)) rfl, wsT_in (tb_1 (List.mem_of_getElem? (i := 3) rfl)) rfl, by decide, by decide, by decide +kernel⟩
theorem cv_X6_bury : CalV yX6_bury RX6 := ⟨wsT_in (tb_3 (List.mem_of_getElem? (i := 109) rfl)) rfl, wsT_in (tb_3 (List.mem_of_getElem? (i := 110) rfl)) rfl⟩
theorem cal_X6_firstAt : Cal yX6_firstAt cX6_firstAt 3 (some .int) 1 := ⟨wsT_in (tb_4 (List.mem_of_getElem? (i := 78) rfl)) rfl, wsT_in (tb_1 (List.mem_of_getElem? (i := 3) rfl)) rfl, by decide, by decide, by decide +kernel⟩
theorem cv_X6_firstAt : CalV yX6_firstAt RX6 := ⟨wsT_in (tb_4 (List.mem_of_getElem? (i := 76) rfl)) rfl, wsT_in (tb_4 (List.mem_of_getElem? (i := 77) rfl)) rfl⟩
theorem cal_X6_goHome : Cal yX6_goHome cX6_goHome 2 none 1 := ⟨wsT_in (tb_3 (List.mem_of_getElem? (i := 211) rfl)) rfl, wsT_in (tb_1 (List.mem_of_getElem? (i := 3) rfl)) rfl, by decide, by decide, by decide +kernel⟩
theorem cv_X6_goHome : CalV yX6_goHome RX6 := ⟨wsT_in (tb_3 (List.mem_of_getElem? (i := 209) rfl)) rfl, wsT_in (tb_3 (List.mem_of_getElem? (i := 210) rfl)) rfl⟩
theorem cal_X6_has : Cal yX6_has cX6_has 2 (some .boolean) 1 := ⟨wsT_in (tb_3 (List.mem_of_getElem? (i := 86) rfl)) rfl, wsT_in (tb_1 (List.mem_of_getElem? (i := 3) rfl)) rfl, by decide, by decide, by decide +kernel⟩
theorem cv_X6_has : CalV yX6_has RX6 := ⟨wsT_in (tb_3 (List.mem_of_getElem? (i := 84) rfl)) rfl, wsT_in (tb_3 (List.mem_of_getElem? (i := 85) rfl)) rfl⟩
theorem cal_X6_isDead : Cal yX6_isDead cX6_isDead 2 (some .boolean) 1 := ⟨wsT_in (tb_3 (List.mem_of_getElem? (i := 98) rfl)) rfl, wsT_in (tb_1 (List.mem_of_getElem? (i := 3) rfl)) rfl, by decide, by decide, by decide +kernel⟩
theorem cv_X6_isDead : CalV yX6_isDead RX6 := ⟨wsT_in (tb_3 (List.mem_of_getElem? (i := 96) rfl)) rfl, wsT_in (tb_3 (List.mem_of_getElem? (i := 97) rfl)) rfl⟩
theorem cal_X6_joinLine : Cal yX6_joinLine cX6_joinLine 4 none 3 := ⟨wsT_in (tb_4 (List.mem_of_getElem? (i := 32) rfl)) rfl, wsT_in (tb_1 (List.mem_of_getElem? (i := 3) rfl)) rfl, by decide, by decide, by decide +kernel⟩
theorem cv_X6_joinLine : CalV yX6_joinLine RX6 := ⟨wsT_in (tb_4 (List.mem_of_getElem? (i := 30) rfl)) rfl, wsT_in (tb_4 (List.mem_of_getElem? (i := 31) rfl)) rfl⟩
theorem cal_X6_learn : Cal yX6_learn cX6_learn 2 none 1 := ⟨wsT_in (tb_4 (List.mem_of_getElem? (i := 91) rfl)) rfl, wsT_in (tb_1 (List.mem_of_getElem? (i := 3) rfl)) rfl, by decide, by decide, by decide +kernel⟩
theorem cv_X6_learn : CalV yX6_learn RX6 := ⟨wsT_in (tb_4 (List.mem_of_getElem? (i := 89) rfl)) rfl, wsT_in (tb_4 (List.mem_of_getElem? (i := 90) rfl)) rfl⟩
theorem cal_X6_leaveLine : Cal yX6_leaveLine cX6_leaveLine 4 none 1 := ⟨wsT_in (tb_3 (List.mem_of_getElem? (i := 115) rfl)) rfl, wsT_in (tb_1 (List.mem_of_getElem? (i := 3) rfl)) rfl, by decide, by decide, by decide +kernel⟩
theorem cv_X6_leaveLine : CalV yX6_leaveLine RX6 := ⟨wsT_in (tb_3 (List.mem_of_getElem? (i := 113) rfl)) rfl, wsT_in (tb_3 (List.mem_of_getElem? (i := 114) rfl)) rfl⟩
theorem cal_X6_linedAt : Cal yX6_linedAt cX6_linedAt 4 (some .int) 1 := ⟨wsT_in (tb_3 (List.mem_of_getElem? (i := 158) rfl)) rfl, wsT_in (tb_1 (List.mem_of_getElem? (i := 3) rfl)) rfl, by decide, by decide, by decide +kernel⟩
theorem cv_X6_linedAt : CalV yX6_linedAt RX6 := ⟨wsT_in (tb_3 (List.mem_of_getElem? (i := 156) rfl)) rfl, wsT_in (tb_3 (List.mem_of_getElem? (i := 157) rfl)) rfl⟩
theorem cal_X7_addCall : Cal yX7_addCall cX7_addCall 4 none 3 := ⟨wsT_in (tb_4 (List.mem_of_getElem? (i := 49) rfl)) rfl, wsT_in (tb_1 (List.mem_of_getElem? (i := 5) rfl)) rfl, by decide, by decide, by decide +kernel⟩
theorem cv_X7_addCall : CalV yX7_addCall RX7 := ⟨wsT_in (tb_4 (List.mem_of_getElem? (i := 47) rfl)) rfl, wsT_in (tb_4 (List.mem_of_getElem? (i := 48) rfl)) rfl⟩
theorem cal_X7_addLetter : Cal yX7_addLetter cX7_addLetter 4 (some .int) 3 := ⟨wsT_in (tb_4 (List.mem_of_getElem? (i := 41) rfl)) rfl, wsT_in (tb_1 (List.mem_of_getElem? (i := 5) rfl)) rfl, by decide, by decide, by decide +kernel⟩
theorem cv_X7_addLetter : CalV yX7_addLetter RX7 := ⟨wsT_in (tb_4 (List.mem_of_getElem? (i := 39) rfl)) rfl, wsT_in (tb_4 (List.mem_of_getElem? (i := 40) rfl)) rfl⟩
theorem cal_X7_become : Cal yX7_become cX7_become 2 none 1 := ⟨wsT_in (tb_6 (List.mem_of_getElem? (i := 222) rfl)) rfl, wsT_in (tb_1 (List.mem_of_getElem? (i := 5) rfl)) rfl, by decide, by decide, by decide +kernel⟩
theorem cv_X7_become : CalV yX7_become RX7 := ⟨wsT_in (tb_6 (List.mem_of_getElem? (i := 220) rfl)) rfl, wsT_in (tb_6 (List.mem_of_getElem? (i := 221) rfl)) rfl⟩
theorem cal_X7_callsFor : Cal yX7_callsFor cX7_callsFor 4 (some .int) 1 := ⟨wsT_in (tb_3 (List.mem_of_getElem? (i := 162) rfl)) rfl, wsT_in (tb_1 (List.mem_of_getElem? (i := 5) rfl)) rfl, by decide, by decide, by decide +kernel⟩
theorem cv_X7_callsFor : CalV yX7_callsFor RX7 := ⟨wsT_in (tb_3 (List.mem_of_getElem? (i := 160) rfl)) rfl, wsT_in (tb_3 (List.mem_of_getElem? (i := 161) rfl)) rfl⟩
theorem cal_X7_deliver : Cal yX7_deliver cX7_deliver 5 none 2 := ⟨wsT_in (tb_4 (List.mem_of_getElem? (i := 62) rfl)) rfl, wsT_in (tb_1 (List.mem_of_getElem? (i := 5) rfl)) rfl, by decide, by decide, by decide +kernel⟩
theorem cv_X7_deliver : CalV yX7_deliver RX7 := ⟨wsT_in (tb_4 (List.mem_of_getElem? (i := 60) rfl)) rfl, wsT_in (tb_4 (List.mem_of_getElem? (i := 61) rfl)) rfl⟩
theorem cal_X7_dropCall : Cal yX7_dropCall cX7_dropCall 3 none 1 := ⟨wsT_in (tb_4 (List.mem_of_getElem? (i := 126) rfl)) rfl, wsT_in (tb_1 (List.mem_of_getElem? (i := 5) rfl)) rfl, by decide, by decide, by decide +kernel⟩
theorem cv_X7_dropCall : CalV yX7_dropCall RX7 := ⟨wsT_in (tb_4 (List.mem_of_getElem? (i := 125) rfl)) rfl, wsT_in (List.mem_append_left _ (List.mem_of_getElem? (i := 12) rfl)) rfl⟩
theorem cal_X7_foremost : Cal yX7_foremost cX7_foremost 4 (some .int) 1 := ⟨wsT_in (tb_4 (List.mem_of_getElem? (i := 118) rfl)) rfl, wsT_in (tb_1 (List.mem_of_getElem? (i := 5) rfl)) rfl, by decide, by decide, by decide +kernel⟩
theorem cv_X7_foremost : CalV yX7_foremost RX7 := ⟨wsT_in (tb_4 (List.mem_of_getElem? (i := 117) rfl)) rfl, wsT_in (List.mem_append_left _ (List.mem_of_getElem? (i := 11) rfl)) rfl⟩
theorem cal_X7_serve : Cal yX7_serve cX7_serve 8 none 3 := ⟨wsT_in (tb_4 (List.mem_of_getElem? (i := 114) rfl)) rfl, wsT_in (tb_1 (List.mem_of_getElem? (i := 5) rfl)) rfl, by decide, by decide, by decide +kernel⟩
theorem cv_X7_serve : CalV yX7_serve RX7 := ⟨wsT_in (tb_4 (List.mem_of_getElem? (i := 112) rfl)) rfl, wsT_in (tb_4 (List.mem_of_getElem? (i := 113) rfl)) rfl⟩
theorem cal_X8_add : Cal yX8_add cX8_add 3 none 1 := ⟨wsT_in (tb_4 (List.mem_of_getElem? (i := 135) rfl)) rfl, wsT_in (tb_1 (List.mem_of_getElem? (i := 10) rfl)) rfl, by decide, by decide, by decide +kernel⟩
theorem cv_X8_add : CalV yX8_add RX8 := ⟨wsT_in (tb_4 (List.mem_of_getElem? (i := 133) rfl)) rfl, wsT_in (tb_4 (List.mem_of_getElem? (i := 134) rfl)) rfl⟩
theorem cal_X8_addPart : Cal yX8_addPart cX8_addPart 2 (some .boolean) 1 := ⟨wsT_in (tb_4 (List.mem_of_getElem? (i := 231) rfl)) rfl, wsT_in (tb_1 (List.mem_of_getElem? (i := 10) rfl)) rfl, by decide, by decide, by decide +kernel⟩
theorem cv_X8_addPart : CalV yX8_addPart RX8 := ⟨wsT_in (tb_4 (List.mem_of_getElem? (i := 230) rfl)) rfl, wsT_in (List.mem_append_left _ (List.mem_of_getElem? (i := 18) rfl)) rfl⟩
theorem cal_X8_advance : Cal yX8_advance cX8_advance 3 none 0 := ⟨wsT_in (tb_4 (List.mem_of_getElem? (i := 151) rfl)) rfl, wsT_in (tb_1 (List.mem_of_getElem? (i := 10) rfl)) rfl, by decide, by decide, by decide +kernel⟩
theorem cv_X8_advance : CalV yX8_advance RX8 := ⟨wsT_in (tb_4 (List.mem_of_getElem? (i := 150) rfl)) rfl, wsT_in (List.mem_append_left _ (List.mem_of_getElem? (i := 13) rfl)) rfl⟩
theorem cal_X8_closeBracket : Cal yX8_closeBracket cX8_closeBracket 1 (some .boolean) 0 := ⟨wsT_in (tb_5 (List.mem_of_getElem? (i := 76) rfl)) rfl, wsT_in (tb_1 (List.mem_of_getElem? (i := 10) rfl)) rfl, by decide, by decide, by decide +kernel⟩
theorem cv_X8_closeBracket : CalV yX8_closeBracket RX8 := ⟨wsT_in (tb_5 (List.mem_of_getElem? (i := 75) rfl)) rfl, wsT_in (List.mem_append_left _ (List.mem_of_getElem? (i := 23) rfl)) rfl⟩
theorem cal_X8_emit : Cal yX8_emit cX8_emit 2 none 1 := ⟨wsT_in (tb_4 (List.mem_of_getElem? (i := 235) rfl)) rfl, wsT_in (tb_1 (List.mem_of_getElem? (i := 10) rfl)) rfl, by decide, by decide, by decide +kernel⟩
theorem cv_X8_emit : CalV yX8_emit RX8 := ⟨wsT_in (tb_4 (List.mem_of_getElem? (i := 234) rfl)) rfl, wsT_in (List.mem_append_left _ (List.mem_of_getElem? (i := 19) rfl)) rfl⟩
theorem cal_X8_hold : Cal yX8_hold cX8_hold 2 (some .boolean) 1 := ⟨wsT_in (tb_5 (List.mem_of_getElem? (i := 68) rfl)) rfl, wsT_in (tb_1 (List.mem_of_getElem? (i := 10) rfl)) rfl, by decide, by decide, by decide +kernel⟩
theorem cv_X8_hold : CalV yX8_hold RX8 := ⟨wsT_in (tb_5 (List.mem_of_getElem? (i := 67) rfl)) rfl, wsT_in (List.mem_append_left _ (List.mem_of_getElem? (i := 21) rfl)) rfl⟩
theorem cal_X8_isHere : Cal yX8_isHere cX8_isHere 3 (some .boolean) 1 := ⟨wsT_in (tb_4 (List.mem_of_getElem? (i := 170) rfl)) rfl, wsT_in (tb_1 (List.mem_of_getElem? (i := 10) rfl)) rfl, by decide, by decide, by decide +kernel⟩
theorem cv_X8_isHere : CalV yX8_isHere RX8 := ⟨wsT_in (tb_4 (List.mem_of_getElem? (i := 169) rfl)) rfl, wsT_in (List.mem_append_left _ (List.mem_of_getElem? (i := 15) rfl)) rfl⟩
theorem cal_X8_keyHere : Cal yX8_keyHere cX8_keyHere 2 (some .int) 0 := ⟨wsT_in (tb_4 (List.mem_of_getElem? (i := 158) rfl)) rfl, wsT_in (tb_1 (List.mem_of_getElem? (i := 10) rfl)) rfl, by decide, by decide, by decide +kernel⟩
theorem cv_X8_keyHere : CalV yX8_keyHere RX8 := ⟨wsT_in (tb_4 (List.mem_of_getElem? (i := 157) rfl)) rfl, wsT_in (List.mem_append_left _ (List.mem_of_getElem? (i := 14) rfl)) rfl⟩
theorem cal_X8_keyWord : Cal yX8_keyWord cX8_keyWord 1 (some (.object "java/lang/String")) 1 := ⟨wsT_in (tb_4 (List.mem_of_getElem? (i := 161) rfl)) rfl, wsT_in (tb_1 (List.mem_of_getElem? (i := 10) rfl)) rfl, by decide, by decide, by decide +kernel⟩
theorem st_X8_keyWord : Cond.static yX8_keyWord ∈ wsT := wsT_in (tb_4 (List.mem_of_getElem? (i := 160) rfl)) rfl
theorem cal_X8_namesOf : Cal yX8_namesOf cX8_namesOf 1 (some (.object "java/lang/String")) 1 := ⟨wsT_in (tb_5 (List.mem_of_getElem? (i := 2) rfl)) rfl, wsT_in (tb_1 (List.mem_of_getElem? (i := 10) rfl)) rfl, by decide, by decide, by decide +kernel⟩
theorem st_X8_namesOf : Cond.static yX8_namesOf ∈ wsT := wsT_in (tb_5 (List.mem_of_getElem? (i := 1) rfl)) rfl
theorem cal_X8_numberHere : Cal yX8_numberHere cX8_numberHere 3 (some .int) 0 := ⟨wsT_in (tb_4 (List.mem_of_getElem? (i := 227) rfl)) rfl, wsT_in (tb_1 (List.mem_of_getElem? (i := 10) rfl)) rfl, by decide, by decide, by decide +kernel⟩
theorem cv_X8_numberHere : CalV yX8_numberHere RX8 := ⟨wsT_in (tb_4 (List.mem_of_getElem? (i := 226) rfl)) rfl, wsT_in (List.mem_append_left _ (List.mem_of_getElem? (i := 17) rfl)) rfl⟩
theorem cal_X8_parse : Cal yX8_parse cX8_parse 2 (some .int) 0 := ⟨wsT_in (tb_4 (List.mem_of_getElem? (i := 147) rfl)) rfl, wsT_in (tb_1 (List.mem_of_getElem? (i := 10) rfl)) rfl, by decide, by decide, by decide +kernel⟩
theorem cv_X8_parse : CalV yX8_parse RX8 := ⟨wsT_in (tb_4 (List.mem_of_getElem? (i := 145) rfl)) rfl, wsT_in (tb_4 (List.mem_of_getElem? (i := 146) rfl)) rfl⟩
theorem cal_X8_release : Cal yX8_release cX8_release 3 (some .boolean) 1 := ⟨wsT_in (tb_5 (List.mem_of_getElem? (i := 80) rfl)) rfl, wsT_in (tb_1 (List.mem_of_getElem? (i := 10) rfl)) rfl, by decide, by decide, by decide +kernel⟩
theorem cv_X8_release : CalV yX8_release RX8 := ⟨wsT_in (tb_5 (List.mem_of_getElem? (i := 79) rfl)) rfl, wsT_in (List.mem_append_left _ (List.mem_of_getElem? (i := 24) rfl)) rfl⟩
theorem cal_X8_releaseNots : Cal yX8_releaseNots cX8_releaseNots 1 none 0 := ⟨wsT_in (tb_4 (List.mem_of_getElem? (i := 239) rfl)) rfl, wsT_in (tb_1 (List.mem_of_getElem? (i := 10) rfl)) rfl, by decide, by decide, by decide +kernel⟩
theorem cv_X8_releaseNots : CalV yX8_releaseNots RX8 := ⟨wsT_in (tb_4 (List.mem_of_getElem? (i := 238) rfl)) rfl, wsT_in (List.mem_append_left _ (List.mem_of_getElem? (i := 20) rfl)) rfl⟩
theorem cal_X8_sortOf : Cal yX8_sortOf cX8_sortOf 1 (some .int) 1 := ⟨wsT_in (tb_4 (List.mem_of_getElem? (i := 154) rfl)) rfl, wsT_in (tb_1 (List.mem_of_getElem? (i := 10) rfl)) rfl, by decide, by decide, by decide +kernel⟩
theorem st_X8_sortOf : Cond.static yX8_sortOf ∈ wsT := wsT_in (tb_4 (List.mem_of_getElem? (i := 153) rfl)) rfl
theorem cal_X8_takePart : Cal yX8_takePart cX8_takePart 2 (some .boolean) 0 := ⟨wsT_in (tb_4 (List.mem_of_getElem? (i := 223) rfl)) rfl, wsT_in (tb_1 (List.mem_of_getElem? (i := 10) rfl)) rfl, by decide, by decide, by decide +kernel⟩
theorem cv_X8_takePart : CalV yX8_takePart RX8 := ⟨wsT_in (tb_4 (List.mem_of_getElem? (i := 222) rfl)) rfl, wsT_in (List.mem_append_left _ (List.mem_of_getElem? (i := 16) rfl)) rfl⟩
theorem cal_X8_takeSign : Cal yX8_takeSign cX8_takeSign 2 (some .boolean) 0 := ⟨wsT_in (tb_5 (List.mem_of_getElem? (i := 72) rfl)) rfl, wsT_in (tb_1 (List.mem_of_getElem? (i := 10) rfl)) rfl, by decide, by decide, by decide +kernel⟩
theorem cv_X8_takeSign : CalV yX8_takeSign RX8 := ⟨wsT_in (tb_5 (List.mem_of_getElem? (i := 71) rfl)) rfl, wsT_in (List.mem_append_left _ (List.mem_of_getElem? (i := 22) rfl)) rfl⟩
theorem cal_X9_addStop : Cal yX9_addStop cX9_addStop 5 (some .int) 3 := ⟨wsT_in (tb_5 (List.mem_of_getElem? (i := 200) rfl)) rfl, wsT_in (tb_1 (List.mem_of_getElem? (i := 4) rfl)) rfl, by decide, by decide, by decide +kernel⟩
theorem cv_X9_addStop : CalV yX9_addStop RX9 := ⟨wsT_in (tb_5 (List.mem_of_getElem? (i := 198) rfl)) rfl, wsT_in (tb_5 (List.mem_of_getElem? (i := 199) rfl)) rfl⟩
theorem cal_X9_addTie : Cal yX9_addTie cX9_addTie 5 (some .int) 4 := ⟨wsT_in (tb_3 (List.mem_of_getElem? (i := 127) rfl)) rfl, wsT_in (tb_1 (List.mem_of_getElem? (i := 4) rfl)) rfl, by decide, by decide, by decide +kernel⟩
theorem cv_X9_addTie : CalV yX9_addTie RX9 := ⟨wsT_in (tb_3 (List.mem_of_getElem? (i := 125) rfl)) rfl, wsT_in (tb_3 (List.mem_of_getElem? (i := 126) rfl)) rfl⟩
theorem cal_X9_become : Cal yX9_become cX9_become 2 none 1 := ⟨wsT_in (tb_6 (List.mem_of_getElem? (i := 217) rfl)) rfl, wsT_in (tb_1 (List.mem_of_getElem? (i := 4) rfl)) rfl, by decide, by decide, by decide +kernel⟩
theorem cv_X9_become : CalV yX9_become RX9 := ⟨wsT_in (tb_6 (List.mem_of_getElem? (i := 215) rfl)) rfl, wsT_in (tb_6 (List.mem_of_getElem? (i := 216) rfl)) rfl⟩
theorem cal_X9_comeNearer : Cal yX9_comeNearer cX9_comeNearer 5 (some .boolean) 0 := ⟨wsT_in (tb_3 (List.mem_of_getElem? (i := 199) rfl)) rfl, wsT_in (tb_1 (List.mem_of_getElem? (i := 4) rfl)) rfl, by decide, by decide, by decide +kernel⟩
theorem cv_X9_comeNearer : CalV yX9_comeNearer RX9 := ⟨wsT_in (tb_3 (List.mem_of_getElem? (i := 198) rfl)) rfl, wsT_in (List.mem_append_left _ (List.mem_of_getElem? (i := 0) rfl)) rfl⟩
theorem cal_X9_findKin : Cal yX9_findKin cX9_findKin 4 none 1 := ⟨wsT_in (tb_3 (List.mem_of_getElem? (i := 192) rfl)) rfl, wsT_in (tb_1 (List.mem_of_getElem? (i := 4) rfl)) rfl, by decide, by decide, by decide +kernel⟩
theorem cv_X9_findKin : CalV yX9_findKin RX9 := ⟨wsT_in (tb_3 (List.mem_of_getElem? (i := 190) rfl)) rfl, wsT_in (tb_3 (List.mem_of_getElem? (i := 191) rfl)) rfl⟩
theorem cal_X9_fits : Cal yX9_fits cX9_fits 2 (some .boolean) 2 := ⟨wsT_in (tb_3 (List.mem_of_getElem? (i := 122) rfl)) rfl, wsT_in (tb_1 (List.mem_of_getElem? (i := 4) rfl)) rfl, by decide, by decide, by decide +kernel⟩
theorem st_X9_fits : Cond.static yX9_fits ∈ wsT := wsT_in (tb_3 (List.mem_of_getElem? (i := 121) rfl)) rfl
theorem cal_X9_has : Cal yX9_has cX9_has 2 (some .boolean) 1 := ⟨wsT_in (tb_3 (List.mem_of_getElem? (i := 145) rfl)) rfl, wsT_in (tb_1 (List.mem_of_getElem? (i := 4) rfl)) rfl, by decide, by decide, by decide +kernel⟩
theorem cv_X9_has : CalV yX9_has RX9 := ⟨wsT_in (tb_3 (List.mem_of_getElem? (i := 143) rfl)) rfl, wsT_in (tb_3 (List.mem_of_getElem? (i := 144) rfl)) rfl⟩
theorem cal_X9_isOf : Cal yX9_isOf cX9_isOf 3 (some .boolean) 2 := ⟨wsT_in (tb_3 (List.mem_of_getElem? (i := 141) rfl)) rfl, wsT_in (tb_1 (List.mem_of_getElem? (i := 4) rfl)) rfl, by decide, by decide, by decide +kernel⟩
theorem cv_X9_isOf : CalV yX9_isOf RX9 := ⟨wsT_in (tb_3 (List.mem_of_getElem? (i := 139) rfl)) rfl, wsT_in (tb_3 (List.mem_of_getElem? (i := 140) rfl)) rfl⟩
theorem cal_X9_isOpenAt : Cal yX9_isOpenAt cX9_isOpenAt 5 (some .boolean) 2 := ⟨wsT_in (tb_4 (List.mem_of_getElem? (i := 70) rfl)) rfl, wsT_in (tb_1 (List.mem_of_getElem? (i := 4) rfl)) rfl, by decide, by decide, by decide +kernel⟩
theorem cv_X9_isOpenAt : CalV yX9_isOpenAt RX9 := ⟨wsT_in (tb_4 (List.mem_of_getElem? (i := 68) rfl)) rfl, wsT_in (tb_4 (List.mem_of_getElem? (i := 69) rfl)) rfl⟩
theorem cal_X9_isUnder : Cal yX9_isUnder cX9_isUnder 4 (some .boolean) 2 := ⟨wsT_in (tb_3 (List.mem_of_getElem? (i := 169) rfl)) rfl, wsT_in (tb_1 (List.mem_of_getElem? (i := 4) rfl)) rfl, by decide, by decide, by decide +kernel⟩
theorem st_X9_isUnder : Cond.static yX9_isUnder ∈ wsT := wsT_in (tb_3 (List.mem_of_getElem? (i := 168) rfl)) rfl
theorem cal_X9_kinOf : Cal yX9_kinOf cX9_kinOf 3 (some .int) 2 := ⟨wsT_in (tb_3 (List.mem_of_getElem? (i := 188) rfl)) rfl, wsT_in (tb_1 (List.mem_of_getElem? (i := 4) rfl)) rfl, by decide, by decide, by decide +kernel⟩
theorem cv_X9_kinOf : CalV yX9_kinOf RX9 := ⟨wsT_in (tb_3 (List.mem_of_getElem? (i := 186) rfl)) rfl, wsT_in (tb_3 (List.mem_of_getElem? (i := 187) rfl)) rfl⟩
theorem cal_X9_openPasses : Cal yX9_openPasses cX9_openPasses 3 (some .int) 0 := ⟨wsT_in (tb_7 (List.mem_of_getElem? (i := 27) rfl)) rfl, wsT_in (tb_1 (List.mem_of_getElem? (i := 4) rfl)) rfl, by decide, by decide, by decide +kernel⟩
theorem cv_X9_openPasses : CalV yX9_openPasses RX9 := ⟨wsT_in (tb_7 (List.mem_of_getElem? (i := 25) rfl)) rfl, wsT_in (tb_7 (List.mem_of_getElem? (i := 26) rfl)) rfl⟩
