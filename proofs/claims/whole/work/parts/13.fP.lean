def rmX1_seek (d : Nat) : Room := { frames := 6 + 2 * d, cells := 0, slots := 0, locals := 100 + 60 * d }
def RcX1_seek (l : Launch) (G : Gx) (K : Kx) (b : Nat) (rc : Int → Int → Int → Int → Int → Mem → Option (Mem)) (d : Nat) : Prop := ∀ (x1 : Int) (x2 : Int) (x3 : Int) (x4 : Int) (x5 : Int) (M : Mem) (res : Mem), OkM M → okS [aR (b + 57), aI x1, aI x2, aI x3, aI x4, aI x5] → rc x1 x2 x3 x4 x5 M = some res → Ct l G K yX1_seek (wsM yX1_seek cX1_seek 8 none) (rmX1_seek d) [aR (b + 57), aI x1, aI x2, aI x3, aI x4, aI x5] M none res
def j_bitCount_0f7a4 (x0 : Int) (M : Mem) : Option (Int × Mem) :=
    nm (w32 (x0 - (bAnd (bUsh x0 1) 1431655765))) fun v1 =>
    nm (w32 ((bAnd v1 858993459) + (bAnd (bUsh v1 2) 858993459))) fun v2 =>
    nm (bAnd (w32 (v2 + (bUsh v2 4))) 252645135) fun v3 =>
    nm (w32 (v3 + (bUsh v3 8))) fun v4 =>
    nm (w32 (v4 + (bUsh v4 16))) fun v5 =>
    some (bAnd v5 63, M)
def rmJ6_bitCount_0f7a4 : Room := { frames := 0, cells := 0, slots := 0, locals := 0 }
def j_rangeCheck_23922 (x0 : Int) (x1 : Int) (x2 : Int) (M : Mem) : Option (Mem) :=
    if x2 < x1 then (
    none) else (
    if x1 < 0 then (
    none) else (
    if x0 < x2 then (
    none) else (
    some M)))
def rmJ7_rangeCheck_23922 : Room := { frames := 0, cells := 0, slots := 0, locals := 0 }
def lpJ7_fill_53178_5 (f0 : Nat) (n0 : Nat) (y1 : Int) (y3 : Int) : Nat → Int → Mem → Option (Mem)
  | 0, _, _ => none
  | n + 1, u2, M =>
    if u2 < y3 then (
    wrA M f0 n0 u2 y1 fun M2 =>
    nm (w32 (u2 + 1)) fun v3 =>
    lpJ7_fill_53178_5 f0 n0 y1 y3 n v3 M2) else (
    some M)
def j_fill_53178 (f0 : Nat) (n0 : Nat) (x1 : Int) (M : Mem) : Option (Mem) :=
    nm (((n0 : Nat) : Int)) fun v1 =>
    lpJ7_fill_53178_5 f0 n0 x1 v1 FU 0 M
def rmJ7_fill_53178 : Room := { frames := 0, cells := 0, slots := 0, locals := 0 }
def lpJ7_fill_fda19_10 (f0 : Nat) (n0 : Nat) (y2 : Int) (y3 : Int) : Nat → Int → Mem → Option (Mem)
  | 0, _, _ => none
  | n + 1, u4, M =>
    if u4 < y2 then (
    wrA M f0 n0 u4 y3 fun M2 =>
    nm (w32 (u4 + 1)) fun v3 =>
    lpJ7_fill_fda19_10 f0 n0 y2 y3 n v3 M2) else (
    some M)
def j_fill_fda19 (f0 : Nat) (n0 : Nat) (x1 : Int) (x2 : Int) (x3 : Int) (M : Mem) : Option (Mem) :=
    bnV (j_rangeCheck_23922 ((n0 : Nat) : Int) x1 x2 M) fun M1 =>
    lpJ7_fill_fda19_10 f0 n0 x2 x3 FU x1 M1
def rmJ7_fill_fda19 : Room := { frames := 1, cells := 0, slots := 0, locals := 22 }
def lpJ7_fillB_10 (b : Nat) (y2 : Int) (y3 : Int) : Nat → Int → Mem → Option (Mem)
  | 0, _, _ => none
  | n + 1, u4, M =>
    if u4 < y2 then (
    wrA M (b + 63) (M (b + 63) (-1)).toNat u4 y3 fun M2 =>
    nm (w32 (u4 + 1)) fun v3 =>
    lpJ7_fillB_10 b y2 y3 n v3 M2) else (
    some M)
def j_fillB (b : Nat) (x1 : Int) (x2 : Int) (x3 : Int) (M : Mem) : Option (Mem) :=
    bnV (j_rangeCheck_23922 ((M (b + 63) (-1)).toNat : Nat) x1 x2 M) fun M1 =>
    lpJ7_fillB_10 b x2 x3 FU x1 M1
def rmJ7_fillB : Room := { frames := 1, cells := 0, slots := 0, locals := 22 }
def j_coder_7d493 (w : Nat) (M : Mem) : Option (Int × Mem) :=
    some (0, M)
def rmJ0_coder_7d493 : Room := { frames := 0, cells := 0, slots := 0, locals := 0 }
def j_isLatin1_aae02 (w : Nat) (M : Mem) : Option (Int × Mem) :=
    some (1, M)
def rmJ0_isLatin1_aae02 : Room := { frames := 0, cells := 0, slots := 0, locals := 0 }
def j_length_8abf5 (w : Nat) (M : Mem) : Option (Int × Mem) :=
    bnI (j_coder_7d493 w M) fun v2 M1 =>
    some (bShr ((sLen.getD w 0 : Nat) : Int) v2, M1)
def rmJ0_length_8abf5 : Room := { frames := 1, cells := 0, slots := 0, locals := 20 }
def j_checkIndex_8e157 (x0 : Int) (x1 : Int) (M : Mem) : Option (Int × Mem) :=
    jn (fun  (M2 : Mem) =>
    none) fun j1 =>
    if x0 < 0 then (
    j1 M) else (
    if x0 < x1 then (
    some (x0, M)) else (
    j1 M))
def rmJ3_checkIndex_8e157 : Room := { frames := 0, cells := 0, slots := 0, locals := 0 }
def j_checkIndex_df160 (x0 : Int) (x1 : Int) (M : Mem) : Option (Mem) :=
    bnI (j_checkIndex_8e157 x0 x1 M) fun v3 M2 =>
    some M2
def rmJ0_checkIndex_df160 : Room := { frames := 1, cells := 0, slots := 0, locals := 22 }
def j_charAt_3b067 (w : Nat) (x1 : Int) (M : Mem) : Option (Int × Mem) :=
    bnV (j_checkIndex_df160 x1 ((sLen.getD w 0 : Nat) : Int) M) fun M1 =>
    rdS w x1 fun v2 =>
    if 0 ≤ bChr (bAnd v2 255) ∧ bChr (bAnd v2 255) < 65536 then some (bChr (bAnd v2 255), M1) else none
def rmJ1_charAt_3b067 : Room := { frames := 2, cells := 0, slots := 0, locals := 43 }
def j_charAt_5068e (w : Nat) (x1 : Int) (M : Mem) : Option (Int × Mem) :=
    bnI (j_isLatin1_aae02 w M) fun v2 M1 =>
    if v2 = 0 then (
    none) else (
    bnI (j_charAt_3b067 w x1 M1) fun v4 M3 =>
    if 0 ≤ v4 ∧ v4 < 65536 then some (v4, M3) else none)
def rmJ0_charAt_5068e : Room := { frames := 3, cells := 0, slots := 0, locals := 64 }
def j_canEncode_9a6ad (x0 : Int) (M : Mem) : Option (Int × Mem) :=
    if x0 < 0 then (
    some (0, M)) else (
    if 255 < x0 then (
    some (0, M)) else (
    some (1, M)))
def rmJ1_canEncode_9a6ad : Room := { frames := 0, cells := 0, slots := 0, locals := 0 }
def lpJ1_indexOfChar_4cfef_7 (w : Nat) (y3 : Int) (y4 : Int) : Nat → Int → Mem → Option (Int × Mem)
  | 0, _, _ => none
  | n + 1, u5, M =>
    if u5 < y3 then (
    rdS w u5 fun v2 =>
    if v2 = y4 then (
    some (u5, M)) else (
    nm (w32 (u5 + 1)) fun v3 =>
    lpJ1_indexOfChar_4cfef_7 w y3 y4 n v3 M)) else (
    some ((-1), M))
def j_indexOfChar_4cfef (w : Nat) (x1 : Int) (x2 : Int) (x3 : Int) (M : Mem) : Option (Int × Mem) :=
    nm (bByt x1) fun v1 =>
    lpJ1_indexOfChar_4cfef_7 w x3 v1 FU x2 M
def rmJ1_indexOfChar_4cfef : Room := { frames := 0, cells := 0, slots := 0, locals := 0 }
def j_indexOf_4cfef (w : Nat) (x1 : Int) (x2 : Int) (x3 : Int) (M : Mem) : Option (Int × Mem) :=
    bnI (j_canEncode_9a6ad x1 M) fun v2 M1 =>
    if v2 = 0 then (
    some ((-1), M1)) else (
    nm (zmax x2 0) fun v3 =>
    nm (zmin x3 ((sLen.getD w 0 : Nat) : Int)) fun v4 =>
    if v3 < v4 then (
    bnI (j_indexOfChar_4cfef w x1 v3 v4 M1) fun v6 M5 =>
    some (v6, M5)) else (
    some ((-1), M1)))
def rmJ1_indexOf_4cfef : Room := { frames := 2, cells := 0, slots := 0, locals := 60 }
def j_indexOf_7cf53 (w : Nat) (x1 : Int) (x2 : Int) (M : Mem) : Option (Int × Mem) :=
    bnI (j_isLatin1_aae02 w M) fun v2 M1 =>
    if v2 = 0 then (
    none) else (
    bnI (j_length_8abf5 w M1) fun v4 M3 =>
    bnI (j_indexOf_4cfef w x1 x2 v4 M3) fun v6 M5 =>
    some (v6, M5))
def rmJ0_indexOf_7cf53 : Room := { frames := 3, cells := 0, slots := 0, locals := 83 }
def j_indexOf_0f7a4 (w : Nat) (x1 : Int) (M : Mem) : Option (Int × Mem) :=
    bnI (j_indexOf_7cf53 w x1 0 M) fun v2 M1 =>
    some (v2, M1)
def rmJ0_indexOf_0f7a4 : Room := { frames := 4, cells := 0, slots := 0, locals := 105 }
def pTop_carryOver (f0 : Nat) (n0 : Nat) (f1 : Nat) (n1 : Nat) (M : Mem) : Option (Mem) :=
    cpA M f0 n0 0 f1 n1 0 (zmin ((n0 : Nat) : Int) ((n1 : Nat) : Int)) fun M1 =>
    some M1
def rmX11_carryOver : Room := { frames := 2, cells := 0, slots := 0, locals := 60 }
def pPersons_become (b : Nat) (c : Nat) (M : Mem) : Option (Mem) :=
    wrF M (b + 6) 0 (M (c + 6) 0) fun M1 =>
    bnV (pTop_carryOver (c + 7) 20 (b + 7) 20 M1) fun M2 =>
    bnV (pTop_carryOver (c + 8) 20 (b + 8) 20 M2) fun M3 =>
    bnV (pTop_carryOver (c + 9) 20 (b + 9) 20 M3) fun M4 =>
    bnV (pTop_carryOver (c + 10) 20 (b + 10) 20 M4) fun M5 =>
    bnV (pTop_carryOver (c + 11) 20 (b + 11) 20 M5) fun M6 =>
    bnV (pTop_carryOver (c + 12) 20 (b + 12) 20 M6) fun M7 =>
    bnV (pTop_carryOver (c + 13) 20 (b + 13) 20 M7) fun M8 =>
    wrF M8 (b + 6) 8 (M8 (c + 6) 8) fun M9 =>
    wrF M9 (b + 6) 9 (M9 (c + 6) 9) fun M10 =>
    bnV (pTop_carryOver (c + 14) 2 (b + 14) 2 M10) fun M11 =>
    some M11
def rmX6_become : Room := { frames := 3, cells := 0, slots := 0, locals := 81 }
def pTies_become (b : Nat) (c : Nat) (M : Mem) : Option (Mem) :=
    wrF M (b + 15) 0 (M (c + 15) 0) fun M1 =>
    bnV (pTop_carryOver (c + 16) 40 (b + 16) 40 M1) fun M2 =>
    bnV (pTop_carryOver (c + 17) 40 (b + 17) 40 M2) fun M3 =>
    bnV (pTop_carryOver (c + 18) 40 (b + 18) 40 M3) fun M4 =>
    bnV (pTop_carryOver (c + 19) 40 (b + 19) 40 M4) fun M5 =>
    bnV (pTop_carryOver (c + 20) 40 (b + 20) 40 M5) fun M6 =>
    bnV (pTop_carryOver (c + 21) 40 (b + 21) 40 M6) fun M7 =>
    bnV (pTop_carryOver (c + 22) 40 (b + 22) 40 M7) fun M8 =>
    bnV (pTop_carryOver (c + 23) 40 (b + 23) 40 M8) fun M9 =>
    bnV (pTop_carryOver (c + 24) 40 (b + 24) 40 M9) fun M10 =>
    bnV (pTop_carryOver (c + 25) 40 (b + 25) 40 M10) fun M11 =>
    bnV (pTop_carryOver (c + 26) 40 (b + 26) 40 M11) fun M12 =>
    bnV (pTop_carryOver (c + 27) 320 (b + 27) 320 M12) fun M13 =>
    bnV (pTop_carryOver (c + 28) 320 (b + 28) 320 M13) fun M14 =>
    some M14
def rmX9_become : Room := { frames := 3, cells := 0, slots := 0, locals := 81 }
def pPost_become (b : Nat) (c : Nat) (M : Mem) : Option (Mem) :=
    wrF M (b + 30) 0 (M (c + 30) 0) fun M1 =>
    bnV (pTop_carryOver (c + 31) 20 (b + 31) 20 M1) fun M2 =>
    bnV (pTop_carryOver (c + 32) 20 (b + 32) 20 M2) fun M3 =>
    bnV (pTop_carryOver (c + 33) 20 (b + 33) 20 M3) fun M4 =>
    wrF M4 (b + 30) 4 (M4 (c + 30) 4) fun M5 =>
    bnV (pTop_carryOver (c + 34) 20 (b + 34) 20 M5) fun M6 =>
    bnV (pTop_carryOver (c + 35) 20 (b + 35) 20 M6) fun M7 =>
    bnV (pTop_carryOver (c + 36) 20 (b + 36) 20 M7) fun M8 =>
    some M8
def rmX7_become : Room := { frames := 3, cells := 0, slots := 0, locals := 81 }
def pLaws_become (b : Nat) (c : Nat) (M : Mem) : Option (Mem) :=
    wrF M (b + 37) 0 (M (c + 37) 0) fun M1 =>
    bnV (pTop_carryOver (c + 38) 12 (b + 38) 12 M1) fun M2 =>
    bnV (pTop_carryOver (c + 39) 12 (b + 39) 12 M2) fun M3 =>
    bnV (pTop_carryOver (c + 40) 12 (b + 40) 12 M3) fun M4 =>
    bnV (pTop_carryOver (c + 41) 12 (b + 41) 12 M4) fun M5 =>
    bnV (pTop_carryOver (c + 42) 12 (b + 42) 12 M5) fun M6 =>
    bnV (pTop_carryOver (c + 43) 12 (b + 43) 12 M6) fun M7 =>
    bnV (pTop_carryOver (c + 44) 1152 (b + 44) 1152 M7) fun M8 =>
    some M8
def rmX4_become : Room := { frames := 3, cells := 0, slots := 0, locals := 81 }
def pFiles_become (b : Nat) (c : Nat) (M : Mem) : Option (Mem) :=
    bnV (pTop_carryOver (c + 48) 2 (b + 48) 2 M) fun M1 =>
    bnV (pTop_carryOver (c + 49) 20 (b + 49) 20 M1) fun M2 =>
    bnV (pTop_carryOver (c + 50) 20 (b + 50) 20 M2) fun M3 =>
    wrF M3 (b + 47) 5 0 fun M4 =>
    some M4
def rmX3_become : Room := { frames := 3, cells := 0, slots := 0, locals := 81 }
def pFeast_become (b : Nat) (c : Nat) (M : Mem) : Option (Mem) :=
    bnV (pTop_carryOver (c + 54) 104 (b + 54) 104 M) fun M1 =>
    some M1
def rmX2_become : Room := { frames := 3, cells := 0, slots := 0, locals := 81 }
def pClauses_become (b : Nat) (c : Nat) (M : Mem) : Option (Mem) :=
    wrF M (b + 57) 0 (M (c + 57) 0) fun M1 =>
    bnV (pTop_carryOver (c + 58) 7 (b + 58) 7 M1) fun M2 =>
    bnV (pTop_carryOver (c + 59) 7 (b + 59) 7 M2) fun M3 =>
    bnV (pTop_carryOver (c + 60) 7 (b + 60) 7 M3) fun M4 =>
    some M4
def rmX1_become : Room := { frames := 3, cells := 0, slots := 0, locals := 81 }
def pCity_become (b : Nat) (c : Nat) (M : Mem) : Option (Mem) :=
    wrF M b 0 (M c 0) fun M1 =>
    wrF M1 b 1 (M1 c 1) fun M2 =>
    bnV (pTop_carryOver (c + 1) 16 (b + 1) 16 M2) fun M3 =>
    bnV (pTop_carryOver (c + 2) 16 (b + 2) 16 M3) fun M4 =>
    bnV (pTop_carryOver (c + 3) 16 (b + 3) 16 M4) fun M5 =>
    bnV (pTop_carryOver (c + 4) 2 (b + 4) 2 M5) fun M6 =>
    bnV (pTop_carryOver (c + 5) 2 (b + 5) 2 M6) fun M7 =>
    bnV (pPersons_become b c M7) fun M8 =>
    bnV (pTies_become b c M8) fun M9 =>
    bnV (pPost_become b c M9) fun M10 =>
    bnV (pLaws_become b c M10) fun M11 =>
    bnV (pFiles_become b c M11) fun M12 =>
    bnV (pFeast_become b c M12) fun M13 =>
    bnV (pClauses_become b c M13) fun M14 =>
    some M14
def rmX0_become : Room := { frames := 4, cells := 0, slots := 0, locals := 102 }
def pCity_day (b : Nat) (M : Mem) : Option (Int × Mem) :=
    some (w32 (Int.tdiv (M b 0) 24), M)
def rmX0_day : Room := { frames := 0, cells := 0, slots := 0, locals := 0 }
def pCity_hasCell (b : Nat) (x1 : Int) (M : Mem) : Option (Int × Mem) :=
    if x1 < 0 then (
    some (0, M)) else (
    if x1 < M b 1 then (
    some (1, M)) else (
    some (0, M)))
def rmX0_hasCell : Room := { frames := 0, cells := 0, slots := 0, locals := 0 }
def pCity_addCell (b : Nat) (x1 : Int) (M : Mem) : Option (Int × Mem) :=
    wrA M (b + 1) 16 (M b 1) x1 fun M1 =>
    wrA M1 (b + 2) 16 (M1 b 1) 0 fun M2 =>
    wrA M2 (b + 3) 16 (M2 b 1) 0 fun M3 =>
    wrF M3 b 1 (w32 ((M3 b 1) + 1)) fun M4 =>
    some (M3 b 1, M4)
def rmX0_addCell : Room := { frames := 0, cells := 0, slots := 0, locals := 0 }
def pCity_sideOf (b : Nat) (x1 : Int) (M : Mem) : Option (Int × Mem) :=
    rdA (M (b + 7)) 20 x1 fun v1 =>
    rdA (M (b + 1)) 16 v1 fun v2 =>
    some (v2, M)
def rmX0_sideOf : Room := { frames := 0, cells := 0, slots := 0, locals := 0 }
def pCity_isAbroad (b : Nat) (x1 : Int) (M : Mem) : Option (Int × Mem) :=
    rdA (M (b + 10)) 20 x1 fun v1 =>
    if v1 = (-1000000005) then (
    some (0, M)) else (
    rdA (M (b + 1)) 16 v1 fun v2 =>
    bnI (pCity_sideOf b x1 M) fun v4 M3 =>
    if v2 = v4 then (
    some (0, M3)) else (
    some (1, M3)))
def rmX0_isAbroad : Room := { frames := 1, cells := 0, slots := 0, locals := 21 }
def lpX0_visitors_4 (b : Nat) : Nat → Int → Int → Mem → Option (Int × Mem)
  | 0, _, _, _ => none
  | n + 1, u1, u2, M =>
    if u2 < M (b + 6) 0 then (
    bnI (pCity_isAbroad b u2 M) fun v2 M1 =>
    jn (fun (p3 : Int) (M5 : Mem) =>
    nm (w32 (u2 + 1)) fun v6 =>
    lpX0_visitors_4 b n p3 v6 M5) fun j4 =>
    if v2 = 0 then (
    j4 u1 M1) else (
    nm (w32 (u1 + 1)) fun v7 =>
    j4 v7 M1)) else (
    some (u1, M))
def pCity_visitors (b : Nat) (M : Mem) : Option (Int × Mem) :=
    lpX0_visitors_4 b FU 0 0 M
def rmX0_visitors : Room := { frames := 2, cells := 0, slots := 0, locals := 43 }
def lpX0_usesOf_4 (b : Nat) (y1 : Int) : Nat → Int → Int → Mem → Option (Int × Mem)
  | 0, _, _, _ => none
  | n + 1, u2, u3, M =>
    if u3 < M b 1 then (
    rdA (M (b + 1)) 16 u3 fun v1 =>
    jn (fun (p2 : Int) (M4 : Mem) =>
    nm (w32 (u3 + 1)) fun v5 =>
    lpX0_usesOf_4 b y1 n p2 v5 M4) fun j3 =>
    if v1 = y1 then (
    rdA (M (b + 2)) 16 u3 fun v6 =>
    nm (w32 (u2 + v6)) fun v7 =>
    j3 v7 M) else (
    j3 u2 M)) else (
    some (u2, M))
def pCity_usesOf (b : Nat) (x1 : Int) (M : Mem) : Option (Int × Mem) :=
    lpX0_usesOf_4 b x1 FU 0 0 M
def rmX0_usesOf : Room := { frames := 0, cells := 0, slots := 0, locals := 0 }
def lpX6_linedAt_4 (b : Nat) (y1 : Int) : Nat → Int → Int → Mem → Option (Int × Mem)
  | 0, _, _, _ => none
  | n + 1, u2, u3, M =>
    if u3 < M (b + 6) 8 then (
    rdA (M (b + 13)) 20 u3 fun v1 =>
    rdA (M (b + 11)) 20 v1 fun v2 =>
    jn (fun (p3 : Int) (M5 : Mem) =>
    nm (w32 (u3 + 1)) fun v6 =>
    lpX6_linedAt_4 b y1 n p3 v6 M5) fun j4 =>
    if v2 = y1 then (
    nm (w32 (u2 + 1)) fun v7 =>
    j4 v7 M) else (
    j4 u2 M)) else (
    some (u2, M))
def pPersons_linedAt (b : Nat) (x1 : Int) (M : Mem) : Option (Int × Mem) :=
    lpX6_linedAt_4 b x1 FU 0 0 M
def rmX6_linedAt : Room := { frames := 0, cells := 0, slots := 0, locals := 0 }
def lpX7_callsFor_4 (b : Nat) (y1 : Int) : Nat → Int → Int → Mem → Option (Int × Mem)
  | 0, _, _, _ => none
  | n + 1, u2, u3, M =>
    if u3 < M (b + 30) 4 then (
    rdA (M (b + 34)) 20 u3 fun v1 =>
    jn (fun (p2 : Int) (M4 : Mem) =>
    nm (w32 (u3 + 1)) fun v5 =>
    lpX7_callsFor_4 b y1 n p2 v5 M4) fun j3 =>
    if v1 = y1 then (
    nm (w32 (u2 + 1)) fun v6 =>
    j3 v6 M) else (
    j3 u2 M)) else (
    some (u2, M))
def pPost_callsFor (b : Nat) (x1 : Int) (M : Mem) : Option (Int × Mem) :=
    lpX7_callsFor_4 b x1 FU 0 0 M
def rmX7_callsFor : Room := { frames := 0, cells := 0, slots := 0, locals := 0 }
def pCity_waitingFor (b : Nat) (x1 : Int) (M : Mem) : Option (Int × Mem) :=
    rdA (M (b + 16)) 40 x1 fun v1 =>
    if v1 = 1 then (
    bnI (pPersons_linedAt b x1 M) fun v6 M5 =>
    some (v6, M5)) else (
    rdA (M (b + 16)) 40 x1 fun v2 =>
    if v2 = 4 then (
    bnI (pPost_callsFor b x1 M) fun v4 M3 =>
    some (v4, M3)) else (
    some (0, M)))
def rmX0_waitingFor : Room := { frames := 1, cells := 0, slots := 0, locals := 23 }
def lpX6_leaveLine_4 (b : Nat) (y1 : Int) (k43 : Int → Mem → Option (Mem)) : Nat → Int → Int → Mem → Option (Mem)
  | 0, _, _, _ => none
  | n + 1, u2, u3, M =>
    if u3 < M (b + 6) 8 then (
    rdA (M (b + 13)) 20 u3 fun v1 =>
    jn (fun (p2 : Int) (M4 : Mem) =>
    nm (w32 (u3 + 1)) fun v5 =>
    lpX6_leaveLine_4 b y1 k43 n p2 v5 M4) fun j3 =>
    if v1 = y1 then (
    j3 u2 M) else (
    nm (w32 (u2 + 1)) fun v6 =>
    rdA (M (b + 13)) 20 u3 fun v7 =>
    wrA M (b + 13) 20 u2 v7 fun M8 =>
    j3 v6 M8)) else (
    k43 u2 M)
def pPersons_leaveLine (b : Nat) (x1 : Int) (M : Mem) : Option (Mem) :=
    lpX6_leaveLine_4 b x1 (fun v9 M10 =>
    wrF M10 (b + 6) 8 v9 fun M11 =>
    wrA M11 (b + 11) 20 x1 (-1000000005) fun M12 =>
    wrA M12 (b + 12) 20 x1 (-1000000005) fun M13 =>
    some M13) FU 0 0 M
def rmX6_leaveLine : Room := { frames := 0, cells := 0, slots := 0, locals := 0 }
def pPersons_bury (b : Nat) (x1 : Int) (x2 : Int) (M : Mem) : Option (Mem) :=
    bnV (pPersons_leaveLine b x1 M) fun M1 =>
    wrA M1 (b + 10) 20 x1 (-1000000005) fun M2 =>
    wrF M2 (b + 6) 9 (bOr (M2 (b + 6) 9) (bShl 1 x1)) fun M3 =>
    rdA (M3 (b + 14)) 2 x2 fun v4 =>
    wrA M3 (b + 14) 2 x2 (bOr v4 (bShl 1 x1)) fun M5 =>
    some M5
def rmX6_bury : Room := { frames := 1, cells := 0, slots := 0, locals := 23 }
def pCity_loses (b : Nat) (x1 : Int) (M : Mem) : Option (Mem) :=
    rdA (M (b + 10)) 20 x1 fun v1 =>
    jn (fun (p2 : Int) (M4 : Mem) =>
    bnV (pPersons_bury b x1 p2 M4) fun M5 =>
    some M5) fun j3 =>
    if v1 = (-1000000005) then (
    bnI (pCity_sideOf b x1 M) fun v8 M7 =>
    j3 v8 M7) else (
    rdA (M (b + 1)) 16 v1 fun v6 =>
    j3 v6 M)
def rmX0_loses : Room := { frames := 2, cells := 0, slots := 0, locals := 45 }
def pPersons_goHome (b : Nat) (x1 : Int) (M : Mem) : Option (Mem) :=
    bnV (pPersons_leaveLine b x1 M) fun M1 =>
    rdA (M1 (b + 7)) 20 x1 fun v2 =>
    wrA M1 (b + 10) 20 x1 v2 fun M3 =>
    some M3
def rmX6_goHome : Room := { frames := 1, cells := 0, slots := 0, locals := 23 }
def pCity_closePass (b : Nat) (x1 : Int) (x2 : Int) (M : Mem) : Option (Mem) :=
    rdA (M (b + 17)) 40 x1 fun v1 =>
    wrA M (b + 22) 40 x1 x2 fun M2 =>
    rdA (M2 (b + 12)) 20 v1 fun v3 =>
    if v3 = x1 then (
    bnV (pPersons_goHome b v1 M2) fun M4 =>
    some M4) else (
    some M2)
def rmX0_closePass : Room := { frames := 2, cells := 0, slots := 0, locals := 44 }
def lpX7_deliver_5 (b : Nat) (y1 : Int) (k98 : Int → Mem → Option (Mem)) : Nat → Int → Int → Mem → Option (Mem)
  | 0, _, _, _ => none
  | n + 1, u3, u4, M =>
    if u4 < M (b + 30) 0 then (
    rdA (M (b + 31)) 20 u4 fun v1 =>
    jn (fun (p2 : Int) (M4 : Mem) =>
    nm (w32 (u4 + 1)) fun v5 =>
    lpX7_deliver_5 b y1 k98 n p2 v5 M4) fun j3 =>
    if y1 < v1 then (
    rdA (M (b + 31)) 20 u4 fun v6 =>
    wrA M (b + 31) 20 u3 v6 fun M7 =>
    rdA (M7 (b + 32)) 20 u4 fun v8 =>
    wrA M7 (b + 32) 20 u3 v8 fun M9 =>
    rdA (M9 (b + 33)) 20 u4 fun v10 =>
    wrA M9 (b + 33) 20 u3 v10 fun M11 =>
    nm (w32 (u3 + 1)) fun v12 =>
    j3 v12 M11) else (
    rdA (M (b + 32)) 20 u4 fun v13 =>
    rdA (M (b + 14)) 2 v13 fun v14 =>
    rdA (M (b + 33)) 20 u4 fun v15 =>
    wrA M (b + 14) 2 v13 (bOr v14 v15) fun M16 =>
    j3 u3 M16)) else (
    k98 u3 M)
def pPost_deliver (b : Nat) (x1 : Int) (M : Mem) : Option (Mem) :=
    lpX7_deliver_5 b x1 (fun v17 M18 =>
    wrF M18 (b + 30) 0 v17 fun M19 =>
    some M19) FU 0 0 M
def rmX7_deliver : Room := { frames := 0, cells := 0, slots := 0, locals := 0 }
def pTies_isOpenAt (b : Nat) (x1 : Int) (x2 : Int) (M : Mem) : Option (Int × Mem) :=
    rdA (M (b + 20)) 40 x1 fun v1 =>
    rdA (M (b + 21)) 40 x1 fun v2 =>
    if v2 < v1 then (
    if x2 < v1 then (
    if v2 < x2 then (
    some (0, M)) else (
    some (1, M))) else (
    some (1, M))) else (
    if x2 < v1 then (
    some (0, M)) else (
    if v2 < x2 then (
    some (0, M)) else (
    some (1, M))))
def rmX9_isOpenAt : Room := { frames := 0, cells := 0, slots := 0, locals := 0 }
def lpX6_firstAt_2 (b : Nat) (y1 : Int) : Nat → Int → Mem → Option (Int × Mem)
  | 0, _, _ => none
  | n + 1, u2, M =>
    if u2 < M (b + 6) 8 then (
    rdA (M (b + 13)) 20 u2 fun v1 =>
    rdA (M (b + 11)) 20 v1 fun v2 =>
    if v2 = y1 then (
    rdA (M (b + 13)) 20 u2 fun v4 =>
    some (v4, M)) else (
    nm (w32 (u2 + 1)) fun v3 =>
    lpX6_firstAt_2 b y1 n v3 M)) else (
    some ((-1000000005), M))
def pPersons_firstAt (b : Nat) (x1 : Int) (M : Mem) : Option (Int × Mem) :=
    lpX6_firstAt_2 b x1 FU 0 M
def rmX6_firstAt : Room := { frames := 0, cells := 0, slots := 0, locals := 0 }
def pCity_farEnd (b : Nat) (x1 : Int) (x2 : Int) (M : Mem) : Option (Int × Mem) :=
    rdA (M (b + 17)) 40 x1 fun v1 =>
    rdA (M (b + 18)) 40 x1 fun v2 =>
    rdA (M (b + 1)) 16 v1 fun v3 =>
    if v3 = x2 then (
    some (v2, M)) else (
    rdA (M (b + 1)) 16 v2 fun v4 =>
    if v4 = x2 then (
    some (v1, M)) else (
    some (v2, M)))
def rmX0_farEnd : Room := { frames := 0, cells := 0, slots := 0, locals := 0 }
def pPersons_learn (b : Nat) (x1 : Int) (M : Mem) : Option (Mem) :=
    rdA (M (b + 14)) 2 x1 fun v1 =>
    rdA (M (b + 14)) 2 (w32 (1 - x1)) fun v2 =>
    wrA M (b + 14) 2 x1 (bOr v1 v2) fun M3 =>
    some M3
def rmX6_learn : Room := { frames := 0, cells := 0, slots := 0, locals := 0 }
def pTies_has (b : Nat) (x1 : Int) (M : Mem) : Option (Int × Mem) :=
    if x1 < 0 then (
    some (0, M)) else (
    if x1 < M (b + 15) 0 then (
    some (1, M)) else (
    some (0, M)))
def rmX9_has : Room := { frames := 0, cells := 0, slots := 0, locals := 0 }
def pCity_letOver (b : Nat) (x1 : Int) (x2 : Int) (M : Mem) : Option (Mem) :=
    bnI (pCity_sideOf b x1 M) fun v2 M1 =>
    rdA (M1 (b + 12)) 20 x1 fun v3 =>
    bnV (pPersons_leaveLine b x1 M1) fun M4 =>
    bnI (pCity_farEnd b x2 v2 M4) fun v6 M5 =>
    wrA M5 (b + 10) 20 x1 v6 fun M7 =>
    bnV (pPersons_learn b (w32 (1 - v2)) M7) fun M8 =>
    bnI (pTies_has b v3 M8) fun v10 M9 =>
    if v10 = 0 then (
    some M9) else (
    wrA M9 (b + 22) 40 v3 1 fun M11 =>
    rdA (M11 (b + 19)) 40 v3 fun v12 =>
    wrA M11 (b + 23) 40 v3 (w32 ((M11 b 0) + v12)) fun M13 =>
    some M13)
def rmX0_letOver : Room := { frames := 1, cells := 0, slots := 0, locals := 24 }
def lpX0_letBy_2 (b : Nat) (y1 : Int) : Nat → Int → Mem → Option (Mem)
  | 0, _, _ => none
  | n + 1, u2, M =>
    rdA (M (b + 19)) 40 y1 fun v1 =>
    if u2 < v1 then (
    bnI (pPersons_firstAt b y1 M) fun v3 M2 =>
    if v3 = (-1000000005) then (
    some M2) else (
    bnV (pCity_letOver b v3 y1 M2) fun M4 =>
    nm (w32 (u2 + 1)) fun v5 =>
    lpX0_letBy_2 b y1 n v5 M4)) else (
    some M)
def pCity_letBy (b : Nat) (x1 : Int) (M : Mem) : Option (Mem) :=
    lpX0_letBy_2 b x1 FU 0 M
def rmX0_letBy : Room := { frames := 2, cells := 0, slots := 0, locals := 48 }
def lpX0_openStreets_2 (b : Nat) : Nat → Int → Mem → Option (Mem)
  | 0, _, _ => none
  | n + 1, u1, M =>
    if u1 < M (b + 15) 0 then (
    rdA (M (b + 16)) 40 u1 fun v1 =>
    jn (fun  (M3 : Mem) =>
    nm (w32 (u1 + 1)) fun v4 =>
    lpX0_openStreets_2 b n v4 M3) fun j2 =>
    if v1 = 1 then (
    bnI (pTies_isOpenAt b u1 (w32 (Int.tmod (M b 0) 24)) M) fun v6 M5 =>
    if v6 = 0 then (
    j2 M5) else (
    bnV (pCity_letBy b u1 M5) fun M7 =>
    j2 M7)) else (
    j2 M)) else (
    some M)
def pCity_openStreets (b : Nat) (M : Mem) : Option (Mem) :=
    lpX0_openStreets_2 b FU 0 M
def rmX0_openStreets : Room := { frames := 3, cells := 0, slots := 0, locals := 71 }
def pPersons_isDead (b : Nat) (x1 : Int) (M : Mem) : Option (Int × Mem) :=
    if bAnd (bShr (M (b + 6) 9) x1) 1 = 1 then (
    some (1, M)) else (
    some (0, M))
def rmX6_isDead : Room := { frames := 0, cells := 0, slots := 0, locals := 0 }
def pCity_endStay (b : Nat) (x1 : Int) (M : Mem) : Option (Mem) :=
    rdA (M (b + 17)) 40 x1 fun v1 =>
    wrA M (b + 22) 40 x1 2 fun M2 =>
    bnI (pPersons_isDead b v1 M2) fun v4 M3 =>
    if v4 = 0 then (
    bnV (pPersons_goHome b v1 M3) fun M5 =>
    bnI (pCity_sideOf b v1 M5) fun v7 M6 =>
    bnV (pPersons_learn b v7 M6) fun M8 =>
    some M8) else (
    some M3)
def rmX0_endStay : Room := { frames := 2, cells := 0, slots := 0, locals := 44 }
def lpX0_endStays_2 (b : Nat) : Nat → Int → Mem → Option (Mem)
  | 0, _, _ => none
  | n + 1, u1, M =>
    if u1 < M (b + 15) 0 then (
    rdA (M (b + 16)) 40 u1 fun v1 =>
    jn (fun  (M3 : Mem) =>
    nm (w32 (u1 + 1)) fun v4 =>
    lpX0_endStays_2 b n v4 M3) fun j2 =>
    if v1 = 6 then (
    rdA (M (b + 22)) 40 u1 fun v5 =>
    if v5 = 1 then (
    rdA (M (b + 23)) 40 u1 fun v6 =>
    if M b 0 < v6 then (
    j2 M) else (
    bnV (pCity_endStay b u1 M) fun M7 =>
    j2 M7)) else (
    j2 M)) else (
    j2 M)) else (
    some M)
def pCity_endStays (b : Nat) (M : Mem) : Option (Mem) :=
    lpX0_endStays_2 b FU 0 M
def rmX0_endStays : Room := { frames := 3, cells := 0, slots := 0, locals := 66 }
def lpX0_endPasses_2 (b : Nat) : Nat → Int → Mem → Option (Mem)
  | 0, _, _ => none
  | n + 1, u1, M =>
    if u1 < M (b + 15) 0 then (
    rdA (M (b + 16)) 40 u1 fun v1 =>
    jn (fun  (M3 : Mem) =>
    nm (w32 (u1 + 1)) fun v4 =>
    lpX0_endPasses_2 b n v4 M3) fun j2 =>
    if v1 = 6 then (
    rdA (M (b + 22)) 40 u1 fun v5 =>
    if v5 = 0 then (
    rdA (M (b + 21)) 40 u1 fun v6 =>
    bnI (pCity_day b M) fun v8 M7 =>
    if v6 < v8 then (
    bnV (pCity_closePass b u1 2 M7) fun M9 =>
    j2 M9) else (
    j2 M7)) else (
    j2 M)) else (
    j2 M)) else (
    some M)
def pCity_endPasses (b : Nat) (M : Mem) : Option (Mem) :=
    lpX0_endPasses_2 b FU 0 M
def rmX0_endPasses : Room := { frames := 3, cells := 0, slots := 0, locals := 67 }
def lpX7_foremost_5 (b : Nat) (y1 : Int) : Nat → Int → Int → Mem → Option (Int × Mem)
  | 0, _, _, _ => none
  | n + 1, u2, u3, M =>
    if u3 < M (b + 30) 4 then (
    rdA (M (b + 34)) 20 u3 fun v1 =>
    jn (fun (p2 : Int) (M4 : Mem) =>
    nm (w32 (u3 + 1)) fun v5 =>
    lpX7_foremost_5 b y1 n p2 v5 M4) fun j3 =>
    if v1 = y1 then (
    jn (fun  (M7 : Mem) =>
    j3 u3 M7) fun j6 =>
    if u2 = (-1000000005) then (
    j6 M) else (
    rdA (M (b + 35)) 20 u3 fun v8 =>
    rdA (M (b + 35)) 20 u2 fun v9 =>
    if v9 < v8 then (
    j6 M) else (
    j3 u2 M))) else (
    j3 u2 M)) else (
    some (u2, M))
def pPost_foremost (b : Nat) (x1 : Int) (M : Mem) : Option (Int × Mem) :=
    lpX7_foremost_5 b x1 FU (-1000000005) 0 M
def rmX7_foremost : Room := { frames := 0, cells := 0, slots := 0, locals := 0 }
def lpX7_dropCall_2 (b : Nat) (k60 : Mem → Option (Mem)) : Nat → Int → Mem → Option (Mem)
  | 0, _, _ => none
  | n + 1, u2, M =>
    if u2 < w32 ((M (b + 30) 4) - 1) then (
    rdA (M (b + 34)) 20 (w32 (u2 + 1)) fun v1 =>
    wrA M (b + 34) 20 u2 v1 fun M2 =>
    rdA (M2 (b + 35)) 20 (w32 (u2 + 1)) fun v3 =>
    wrA M2 (b + 35) 20 u2 v3 fun M4 =>
    rdA (M4 (b + 36)) 20 (w32 (u2 + 1)) fun v5 =>
    wrA M4 (b + 36) 20 u2 v5 fun M6 =>
    nm (w32 (u2 + 1)) fun v7 =>
    lpX7_dropCall_2 b k60 n v7 M6) else (
    k60 M)
def pPost_dropCall (b : Nat) (x1 : Int) (M : Mem) : Option (Mem) :=
    lpX7_dropCall_2 b (fun M8 =>
    wrF M8 (b + 30) 4 (w32 ((M8 (b + 30) 4) - 1)) fun M9 =>
    some M9) FU x1 M
def rmX7_dropCall : Room := { frames := 0, cells := 0, slots := 0, locals := 0 }
def lpX7_serve_6 (b : Nat) (y1 : Int) : Nat → Int → Int → Mem → Option (Mem)
  | 0, _, _, _ => none
  | n + 1, u4, u5, M =>
    if u5 < 20 then (
    if 0 < u4 then (
    bnI (pPost_foremost b y1 M) fun v2 M1 =>
    if v2 = (-1000000005) then (
    some M1) else (
    rdA (M1 (b + 36)) 20 v2 fun v3 =>
    nm (zmin u4 v3) fun v4 =>
    nm (w32 (u4 - v4)) fun v5 =>
    rdA (M1 (b + 36)) 20 v2 fun v6 =>
    wrA M1 (b + 36) 20 v2 (w32 (v6 - v4)) fun M7 =>
    rdA (M7 (b + 36)) 20 v2 fun v8 =>
    jn (fun  (M10 : Mem) =>
    nm (w32 (u5 + 1)) fun v11 =>
    lpX7_serve_6 b y1 n v5 v11 M10) fun j9 =>
    if v8 = 0 then (
    bnV (pPost_dropCall b v2 M7) fun M12 =>
    bnV (pPersons_learn b 0 M12) fun M13 =>
    bnV (pPersons_learn b 1 M13) fun M14 =>
    j9 M14) else (
    j9 M7))) else (
    some M)) else (
    some M)
def pPost_serve (b : Nat) (x1 : Int) (x2 : Int) (M : Mem) : Option (Mem) :=
    lpX7_serve_6 b x1 FU x2 0 M
def rmX7_serve : Room := { frames := 2, cells := 0, slots := 0, locals := 60 }
def lpX0_serveWires_2 (b : Nat) : Nat → Int → Mem → Option (Mem)
  | 0, _, _ => none
  | n + 1, u1, M =>
    if u1 < M (b + 15) 0 then (
    rdA (M (b + 16)) 40 u1 fun v1 =>
    jn (fun  (M3 : Mem) =>
    nm (w32 (u1 + 1)) fun v4 =>
    lpX0_serveWires_2 b n v4 M3) fun j2 =>
    if v1 = 4 then (
    rdA (M (b + 19)) 40 u1 fun v5 =>
    bnV (pPost_serve b u1 v5 M) fun M6 =>
    j2 M6) else (
    j2 M)) else (
    some M)
def pCity_serveWires (b : Nat) (M : Mem) : Option (Mem) :=
    lpX0_serveWires_2 b FU 0 M
def rmX0_serveWires : Room := { frames := 3, cells := 0, slots := 0, locals := 87 }
def pCity_passHour (b : Nat) (M : Mem) : Option (Mem) :=
    bnV (pPost_deliver b (M b 0) M) fun M1 =>
    bnV (pCity_openStreets b M1) fun M2 =>
    bnV (pCity_endStays b M2) fun M3 =>
    bnV (pCity_endPasses b M3) fun M4 =>
    bnV (pCity_serveWires b M4) fun M5 =>
    wrF M5 b 0 (w32 ((M5 b 0) + 1)) fun M6 =>
    some M6
def rmX0_passHour : Room := { frames := 4, cells := 0, slots := 0, locals := 108 }
def pLaws_holdsOn (b : Nat) (x1 : Int) (x2 : Int) (M : Mem) : Option (Int × Mem) :=
    rdA (M (b + 40)) 12 x1 fun v1 =>
    if x2 < v1 then (
    some (0, M)) else (
    rdA (M (b + 41)) 12 x1 fun v2 =>
    if v2 = (-1000000005) then (
    some (1, M)) else (
    rdA (M (b + 41)) 12 x1 fun v3 =>
    if x2 < v3 then (
    some (1, M)) else (
    some (0, M))))
def rmX4_holdsOn : Room := { frames := 0, cells := 0, slots := 0, locals := 0 }
def lpX4_counting_7 (b : Nat) (y1 : Int) (y2 : Int) (y3 : Int) : Nat → Int → Int → Mem → Option (Int × Mem)
  | 0, _, _, _ => none
  | n + 1, u4, u5, M =>
    if u5 < M (b + 37) 0 then (
    rdA (M (b + 39)) 12 u5 fun v1 =>
    jn (fun (p2 : Int) (M4 : Mem) =>
    nm (w32 (u5 + 1)) fun v5 =>
    lpX4_counting_7 b y1 y2 y3 n p2 v5 M4) fun j3 =>
    if v1 = y1 then (
    rdA (M (b + 38)) 12 u5 fun v6 =>
    if v6 = y2 then (
    bnI (pLaws_holdsOn b u5 y3 M) fun v8 M7 =>
    if v8 = 0 then (
    j3 u4 M7) else (
    jn (fun  (M10 : Mem) =>
    j3 u5 M10) fun j9 =>
    if u4 = (-1000000005) then (
    j9 M7) else (
    rdA (M7 (b + 40)) 12 u5 fun v11 =>
    rdA (M7 (b + 40)) 12 u4 fun v12 =>
    if v11 < v12 then (
    j3 u4 M7) else (
    j9 M7)))) else (
    j3 u4 M)) else (
    j3 u4 M)) else (
    some (u4, M))
def pLaws_counting (b : Nat) (x1 : Int) (x2 : Int) (x3 : Int) (M : Mem) : Option (Int × Mem) :=
    lpX4_counting_7 b x1 x2 x3 FU (-1000000005) 0 M
def rmX4_counting : Room := { frames := 1, cells := 0, slots := 0, locals := 22 }
def pCity_lawOf (b : Nat) (x1 : Int) (x2 : Int) (M : Mem) : Option (Int × Mem) :=
    bnI (pCity_day b M) fun v2 M1 =>
    bnI (pLaws_counting b x1 x2 v2 M1) fun v4 M3 =>
    some (v4, M3)
def rmX0_lawOf : Room := { frames := 2, cells := 0, slots := 0, locals := 47 }
def pTop_within (x0 : Int) (x1 : Int) (x2 : Int) (M : Mem) : Option (Int × Mem) :=
    if x0 < x1 then (
    some (0, M)) else (
    if x2 < x0 then (
    some (0, M)) else (
    some (1, M)))
def rmX11_within : Room := { frames := 0, cells := 0, slots := 0, locals := 0 }
def lpX9_comeNearer_4 (b : Nat) : Nat → Int → Int → Mem → Option (Int × Mem)
  | 0, _, _, _ => none
  | n + 1, u1, u2, M =>
    if u2 < M (b + 15) 0 then (
    rdA (M (b + 16)) 40 u2 fun v1 =>
    jn (fun (p2 : Int) (M4 : Mem) =>
    nm (w32 (u2 + 1)) fun v5 =>
    lpX9_comeNearer_4 b n p2 v5 M4) fun j3 =>
    if v1 = 5 then (
    rdA (M (b + 17)) 40 u2 fun v6 =>
    rdA (M (b + 18)) 40 u2 fun v7 =>
    rdA (M (b + 29)) 20 v6 fun v8 =>
    rdA (M (b + 19)) 40 u2 fun v9 =>
    rdA (M (b + 29)) 20 v7 fun v10 =>
    if w32 (v8 + v9) < v10 then (
    rdA (M (b + 29)) 20 v6 fun v17 =>
    rdA (M (b + 19)) 40 u2 fun v18 =>
    wrA M (b + 29) 20 v7 (w32 (v17 + v18)) fun M19 =>
    j3 1 M19) else (
    rdA (M (b + 29)) 20 v7 fun v11 =>
    rdA (M (b + 19)) 40 u2 fun v12 =>
    rdA (M (b + 29)) 20 v6 fun v13 =>
    if w32 (v11 + v12) < v13 then (
    rdA (M (b + 29)) 20 v7 fun v14 =>
    rdA (M (b + 19)) 40 u2 fun v15 =>
    wrA M (b + 29) 20 v6 (w32 (v14 + v15)) fun M16 =>
    j3 1 M16) else (
    j3 u1 M))) else (
    j3 u1 M)) else (
    if u1 = 0 ∨ u1 = 1 then some (u1, M) else none)
def pTies_comeNearer (b : Nat) (M : Mem) : Option (Int × Mem) :=
    lpX9_comeNearer_4 b FU 0 0 M
def rmX9_comeNearer : Room := { frames := 0, cells := 0, slots := 0, locals := 0 }
def lpX9_findKin_20 (b : Nat) (k41 : Mem → Option (Mem)) : Nat → Int → Int → Mem → Option (Mem)
  | 0, _, _, _ => none
  | n + 1, u2, u3, M =>
    if u3 < 20 then (
    if u2 = 0 then (
    k41 M) else (
    bnI (pTies_comeNearer b M) fun v4 M3 =>
    nm (w32 (u3 + 1)) fun v5 =>
    lpX9_findKin_20 b k41 n v4 v5 M3)) else (
    k41 M)
def lpX9_findKin_43 (b : Nat) : Nat → Int → Mem → Option (Mem)
  | 0, _, _ => none
  | n + 1, u3, M =>
    if u3 < 20 then (
    rdA (M (b + 29)) 20 u3 fun v7 =>
    jn (fun  (M9 : Mem) =>
    nm (w32 (u3 + 1)) fun v10 =>
    lpX9_findKin_43 b n v10 M9) fun j8 =>
    if v7 = 10 then (
    wrA M (b + 29) 20 u3 0 fun M11 =>
    j8 M11) else (
    j8 M)) else (
    some M)
def pTies_findKin (b : Nat) (x1 : Int) (M : Mem) : Option (Mem) :=
    bnV (j_fill_53178 (b + 29) 20 10 M) fun M1 =>
    wrA M1 (b + 29) 20 x1 0 fun M2 =>
    lpX9_findKin_20 b (fun M6 =>
    lpX9_findKin_43 b FU 0 M6) FU 1 0 M2
def rmX9_findKin : Room := { frames := 1, cells := 0, slots := 0, locals := 24 }
def pTies_kinOf (b : Nat) (x1 : Int) (x2 : Int) (M : Mem) : Option (Int × Mem) :=
    bnV (pTies_findKin b x1 M) fun M1 =>
    rdA (M1 (b + 29)) 20 x2 fun v2 =>
    some (v2, M1)
def rmX9_kinOf : Room := { frames := 2, cells := 0, slots := 0, locals := 47 }
def pLaws_setNames (b : Nat) (x1 : Int) (x2 : Int) (x3 : Int) (x4 : Int) (M : Mem) : Option (Mem) :=
    wrA M (b + 45) 4 0 x1 fun M1 =>
    wrA M1 (b + 45) 4 1 x2 fun M2 =>
    wrA M2 (b + 45) 4 2 x3 fun M3 =>
    wrA M3 (b + 45) 4 3 x4 fun M4 =>
    some M4
def rmX4_setNames : Room := { frames := 0, cells := 0, slots := 0, locals := 0 }
def pLaws_truth (x0 : Int) (M : Mem) : Option (Int × Mem) :=
    if x0 = 0 then (
    some (0, M)) else (
    some (1, M))
def rmX4_truth : Room := { frames := 0, cells := 0, slots := 0, locals := 0 }
def pLaws_worth (x0 : Int) (x1 : Int) (x2 : Int) (M : Mem) : Option (Int × Mem) :=
    if x0 = 0 then (
    jn (fun (p1 : Int) (M3 : Mem) =>
    bnI (pLaws_truth p1 M3) fun v5 M4 =>
    some (v5, M4)) fun j2 =>
    jn (fun  (M7 : Mem) =>
    j2 1 M7) fun j6 =>
    if x1 = 0 then (
    if x2 = 0 then (
    j2 0 M) else (
    j6 M)) else (
    j6 M)) else (
    if x0 = 1 then (
    jn (fun (p9 : Int) (M11 : Mem) =>
    bnI (pLaws_truth p9 M11) fun v13 M12 =>
    some (v13, M12)) fun j10 =>
    jn (fun  (M15 : Mem) =>
    j10 0 M15) fun j14 =>
    if x1 = 0 then (
    j14 M) else (
    if x2 = 0 then (
    j14 M) else (
    j10 1 M))) else (
    if x0 = 2 then (
    jn (fun (p17 : Int) (M19 : Mem) =>
    bnI (pLaws_truth p17 M19) fun v21 M20 =>
    some (v21, M20)) fun j18 =>
    if x1 < x2 then (
    j18 1 M) else (
    j18 0 M)) else (
    if x0 = 3 then (
    jn (fun (p23 : Int) (M25 : Mem) =>
    bnI (pLaws_truth p23 M25) fun v27 M26 =>
    some (v27, M26)) fun j24 =>
    if x1 = x2 then (
    j24 1 M) else (
    j24 0 M)) else (
    if x0 = 4 then (
    jn (fun (p29 : Int) (M31 : Mem) =>
    bnI (pLaws_truth p29 M31) fun v33 M32 =>
    some (v33, M32)) fun j30 =>
    if x2 < x1 then (
    j30 1 M) else (
    j30 0 M)) else (
    if x0 = 5 then (
    some (w32 (x1 + x2), M)) else (
    if x0 = 6 then (
    some (w32 (x1 - x2), M)) else (
    if x0 = 7 then (
    some (w32 (x1 * x2), M)) else (
    if x2 = 0 then (
    some (0, M)) else (
    if x2 = 0 then none else
    some (w32 (Int.tdiv x1 x2), M))))))))))
def rmX4_worth : Room := { frames := 1, cells := 0, slots := 0, locals := 20 }
def lpX4_valueOf_10 (b : Nat) (y1 : Int) (y3 : Int) : Nat → Int → Int → Mem → Option (Int × Mem)
  | 0, _, _, _ => none
  | n + 1, u2, u4, M =>
    rdA (M (b + 43)) 12 y1 fun v2 =>
    if u4 < w32 (y3 + v2) then (
    rdA (M (b + 44)) 1152 u4 fun v4 =>
    jn (fun (p5 : Int) (M7 : Mem) =>
    nm (w32 (u4 + 1)) fun v8 =>
    lpX4_valueOf_10 b y1 y3 n p5 v8 M7) fun j6 =>
    if v4 < 20000 then (
    if u2 < 96 then (
    nm (w32 (u2 + 1)) fun v22 =>
    jn (fun (p23 : Int) (M25 : Mem) =>
    wrA M25 (b + 46) 96 u2 p23 fun M26 =>
    j6 v22 M26) fun j24 =>
    if v4 < 10000 then (
    j24 v4 M) else (
    rdA (M (b + 45)) 4 (w32 (v4 - 10000)) fun v27 =>
    j24 v27 M)) else (
    j6 u2 M)) else (
    if v4 = 20009 then (
    if 0 < u2 then (
    rdA (M (b + 46)) 96 (w32 (u2 - 1)) fun v15 =>
    jn (fun (p16 : Int) (M18 : Mem) =>
    bnI (pLaws_truth p16 M18) fun v20 M19 =>
    wrA M19 (b + 46) 96 (w32 (u2 - 1)) v20 fun M21 =>
    j6 u2 M21) fun j17 =>
    if v15 = 0 then (
    j17 1 M) else (
    j17 0 M)) else (
    j6 u2 M)) else (
    if 1 < u2 then (
    nm (w32 (u2 + (-1))) fun v9 =>
    rdA (M (b + 46)) 96 (w32 (v9 - 1)) fun v10 =>
    rdA (M (b + 46)) 96 v9 fun v11 =>
    bnI (pLaws_worth (w32 (v4 - 20000)) v10 v11 M) fun v13 M12 =>
    wrA M12 (b + 46) 96 (w32 (v9 - 1)) v13 fun M14 =>
    j6 v9 M14) else (
    j6 u2 M)))) else (
    rdA (M (b + 46)) 96 0 fun v3 =>
    some (v3, M))
def pLaws_valueOf (b : Nat) (x1 : Int) (M : Mem) : Option (Int × Mem) :=
    nm (w32 (x1 * 96)) fun v1 =>
    lpX4_valueOf_10 b x1 v1 FU 0 v1 M
def rmX4_valueOf : Room := { frames := 2, cells := 0, slots := 0, locals := 42 }
def lpX0_letsParcels_2 (b : Nat) (y1 : Int) (y2 : Int) : Nat → Int → Mem → Option (Int × Mem)
  | 0, _, _ => none
  | n + 1, u3, M =>
    if u3 < M (b + 15) 0 then (
    rdA (M (b + 16)) 40 u3 fun v1 =>
    jn (fun  (M3 : Mem) =>
    nm (w32 (u3 + 1)) fun v4 =>
    lpX0_letsParcels_2 b y1 y2 n v4 M3) fun j2 =>
    if v1 = 7 then (
    rdA (M (b + 25)) 40 u3 fun v5 =>
    if v5 = y1 then (
    if y2 = (-1000000005) then (
    some (0, M)) else (
    rdA (M (b + 19)) 40 u3 fun v6 =>
    rdA (M (b + 24)) 40 u3 fun v7 =>
    rdA (M (b + 17)) 40 y1 fun v8 =>
    rdA (M (b + 8)) 20 v8 fun v9 =>
    bnV (pLaws_setNames b v6 v7 v9 0 M) fun M10 =>
    bnI (pLaws_valueOf b y2 M10) fun v12 M11 =>
    if v12 = 0 then (
    some (0, M11)) else (
    j2 M11))) else (
    j2 M)) else (
    j2 M)) else (
    some (1, M))
def pCity_letsParcels (b : Nat) (x1 : Int) (x2 : Int) (M : Mem) : Option (Int × Mem) :=
    lpX0_letsParcels_2 b x1 x2 FU 0 M
def rmX0_letsParcels : Room := { frames := 3, cells := 0, slots := 0, locals := 67 }
def pCity_lets (b : Nat) (x1 : Int) (x2 : Int) (M : Mem) : Option (Int × Mem) :=
    rdA (M (b + 17)) 40 x1 fun v1 =>
    bnI (pCity_lawOf b x2 0 M) fun v3 M2 =>
    if v3 = (-1000000005) then (
    some (0, M2)) else (
    rdA (M2 (b + 8)) 20 v1 fun v4 =>
    rdA (M2 (b + 9)) 20 v1 fun v5 =>
    rdA (M2 (b + 18)) 40 x1 fun v6 =>
    bnI (pTies_kinOf b v1 v6 M2) fun v8 M7 =>
    bnI (pCity_day b M7) fun v10 M9 =>
    bnV (pLaws_setNames b v4 v5 v8 (w32 (Int.tmod v10 7)) M9) fun M11 =>
    bnI (pLaws_valueOf b v3 M11) fun v13 M12 =>
    if v13 = 0 then (
    some (0, M12)) else (
    bnI (pCity_lawOf b x2 1 M12) fun v15 M14 =>
    bnI (pCity_letsParcels b x1 v15 M14) fun v17 M16 =>
    if v17 = 0 then (
    some (0, M16)) else (
    some (1, M16))))
def rmX0_lets : Room := { frames := 4, cells := 0, slots := 0, locals := 90 }
def pCity_whyNot (b : Nat) (x1 : Int) (M : Mem) : Option (Int × Mem) :=
    rdA (M (b + 17)) 40 x1 fun v1 =>
    rdA (M (b + 10)) 20 v1 fun v2 =>
    if v2 = (-1000000005) then (
    some (1, M)) else (
    bnI (pCity_isAbroad b v1 M) fun v4 M3 =>
    if v4 = 0 then (
    rdA (M3 (b + 22)) 40 x1 fun v5 =>
    if v5 = 0 then (
    bnI (pCity_day b M3) fun v7 M6 =>
    rdA (M6 (b + 20)) 40 x1 fun v8 =>
    rdA (M6 (b + 21)) 40 x1 fun v9 =>
    bnI (pTop_within v7 v8 v9 M6) fun v11 M10 =>
    if v11 = 0 then (
    some (3, M10)) else (
    bnI (pCity_lets b x1 0 M10) fun v13 M12 =>
    if v13 = 0 then (
    some (4, M12)) else (
    bnI (pCity_lets b x1 1 M12) fun v15 M14 =>
    if v15 = 0 then (
    some (5, M14)) else (
    some (0, M14))))) else (
    some (2, M3))) else (
    some (1, M3)))
def rmX0_whyNot : Room := { frames := 5, cells := 0, slots := 0, locals := 114 }
def lpX0_visitsOf_14 (b : Nat) (y1 : Int) (y2 : Int) (y3 : Int) : Nat → Int → Int → Mem → Option (Int × Mem)
  | 0, _, _, _ => none
  | n + 1, u4, u5, M =>
    if u5 < M (b + 6) 0 then (
    bnI (pPersons_isDead b u5 M) fun v3 M2 =>
    jn (fun (p4 : Int) (M6 : Mem) =>
    nm (w32 (u5 + 1)) fun v7 =>
    lpX0_visitsOf_14 b y1 y2 y3 n p4 v7 M6) fun j5 =>
    if v3 = 0 then (
    bnI (pCity_sideOf b u5 M2) fun v9 M8 =>
    bnI (pCity_sideOf b y1 M8) fun v11 M10 =>
    if v9 = v11 then (
    j5 u4 M10) else (
    rdA (M10 (b + 8)) 20 y1 fun v12 =>
    rdA (M10 (b + 9)) 20 y1 fun v13 =>
    rdA (M10 (b + 29)) 20 u5 fun v14 =>
    bnI (pCity_day b M10) fun v16 M15 =>
    bnV (pLaws_setNames b v12 v13 v14 (w32 (Int.tmod v16 7)) M15) fun M17 =>
    bnI (pLaws_valueOf b y2 M17) fun v19 M18 =>
    if v19 = 0 then (
    j5 u4 M18) else (
    bnI (pLaws_valueOf b y3 M18) fun v21 M20 =>
    if v21 = 0 then (
    j5 u4 M20) else (
    nm (w32 (u4 + 1)) fun v22 =>
    j5 v22 M20)))) else (
    j5 u4 M2)) else (
    some (u4, M))
def pCity_visitsOf (b : Nat) (x1 : Int) (x2 : Int) (x3 : Int) (M : Mem) : Option (Int × Mem) :=
    bnV (pTies_findKin b x1 M) fun M1 =>
    lpX0_visitsOf_14 b x1 x2 x3 FU 0 0 M1
def rmX0_visitsOf : Room := { frames := 3, cells := 0, slots := 0, locals := 67 }
def lpX0_visitsFrom_20 (b : Nat) (y1 : Int) (y2 : Int) (y3 : Int) : Nat → Int → Int → Mem → Option (Int × Mem)
  | 0, _, _, _ => none
  | n + 1, u4, u5, M =>
    if u5 < M (b + 6) 0 then (
    bnI (pPersons_isDead b u5 M) fun v2 M1 =>
    jn (fun (p3 : Int) (M5 : Mem) =>
    nm (w32 (u5 + 1)) fun v6 =>
    lpX0_visitsFrom_20 b y1 y2 y3 n p3 v6 M5) fun j4 =>
    if v2 = 0 then (
    bnI (pCity_sideOf b u5 M1) fun v8 M7 =>
    if v8 = y1 then (
    bnI (pCity_visitsOf b u5 y2 y3 M7) fun v10 M9 =>
    nm (w32 (u4 + v10)) fun v11 =>
    j4 v11 M9) else (
    j4 u4 M7)) else (
    j4 u4 M1)) else (
    some (u4, M))
def pCity_visitsFrom (b : Nat) (x1 : Int) (x2 : Int) (x3 : Int) (M : Mem) : Option (Int × Mem) :=
    if x2 = (-1000000005) then (
    some (0, M)) else (
    if x3 = (-1000000005) then (
    some (0, M)) else (
    lpX0_visitsFrom_20 b x1 x2 x3 FU 0 0 M))
def rmX0_visitsFrom : Room := { frames := 4, cells := 0, slots := 0, locals := 92 }
def pCity_allVisits (b : Nat) (x1 : Int) (x2 : Int) (M : Mem) : Option (Int × Mem) :=
    bnI (pCity_visitsFrom b 0 x1 x2 M) fun v2 M1 =>
    bnI (pCity_visitsFrom b 1 x1 x2 M1) fun v4 M3 =>
    some (w32 (v2 + v4), M3)
def rmX0_allVisits : Room := { frames := 5, cells := 0, slots := 0, locals := 117 }
def pCity_haltsAt (b : Nat) (x1 : Int) (x2 : Int) (x3 : Int) (M : Mem) : Option (Int × Mem) :=
    rdA (M (b + 27)) 320 (w32 ((w32 (x1 * 8)) + x2)) fun v1 =>
    rdA (M (b + 1)) 16 v1 fun v2 =>
    bnI (pCity_lawOf b v2 2 M) fun v4 M3 =>
    if v4 = (-1000000005) then (
    some (1, M3)) else (
    bnV (pLaws_setNames b x2 v2 (w32 (Int.tmod (w32 ((M3 b 0) + (w32 (Int.tdiv x3 60)))) 24)) 0 M3) fun M5 =>
    bnI (pLaws_valueOf b v4 M5) fun v7 M6 =>
    if v7 = 0 then (
    some (0, M6)) else (
    some (1, M6)))
def rmX0_haltsAt : Room := { frames := 3, cells := 0, slots := 0, locals := 69 }
def lpX0_ride_6 (b : Nat) (y1 : Int) (y2 : Int) (y3 : Int) (y4 : Int) (k66 : Int → Mem → Option (Int × Mem)) : Nat → Int → Int → Mem → Option (Int × Mem)
  | 0, _, _, _ => none
  | n + 1, u5, u6, M =>
    if u6 < y3 then (
    bnI (pCity_haltsAt b y1 u6 (w32 (y2 + u5)) M) fun v2 M1 =>
    jn (fun (p3 : Int) (M5 : Mem) =>
    rdA (M5 (b + 28)) 320 (w32 ((w32 ((w32 (y1 * 8)) + u6)) + 1)) fun v6 =>
    nm (w32 (p3 + v6)) fun v7 =>
    nm (w32 (u6 + 1)) fun v8 =>
    lpX0_ride_6 b y1 y2 y3 y4 k66 n v7 v8 M5) fun j4 =>
    if 0 < u6 then (
    if v2 = 0 then (
    j4 u5 M1) else (
    nm (w32 (u5 + 2)) fun v9 =>
    j4 v9 M1)) else (
    j4 u5 M1)) else (
    k66 u5 M)
def pCity_ride (b : Nat) (x1 : Int) (x2 : Int) (x3 : Int) (x4 : Int) (M : Mem) : Option (Int × Mem) :=
    lpX0_ride_6 b x1 x2 x3 x4 (fun v10 M11 =>
    if x4 = 0 then (
    some (v10, M11)) else (
    bnI (pCity_haltsAt b x1 x3 (w32 (x2 + v10)) M11) fun v13 M12 =>
    if v13 = 0 then (
    some (0, M12)) else (
    some (1, M12)))) FU 0 0 M
def rmX0_ride : Room := { frames := 4, cells := 0, slots := 0, locals := 94 }
def pClauses_addClause (b : Nat) (x1 : Int) (x2 : Int) (x3 : Int) (M : Mem) : Option (Int × Mem) :=
    wrA M (b + 58) 7 (M (b + 57) 0) x1 fun M1 =>
    wrA M1 (b + 59) 7 (M1 (b + 57) 0) x2 fun M2 =>
    wrA M2 (b + 60) 7 (M2 (b + 57) 0) x3 fun M3 =>
    wrF M3 (b + 57) 0 (w32 ((M3 (b + 57) 0) + 1)) fun M4 =>
    some (M3 (b + 57) 0, M4)
def rmX1_addClause : Room := { frames := 0, cells := 0, slots := 0, locals := 0 }
def pClauses_settle (b : Nat) (x1 : Int) (M : Mem) : Option (Mem) :=
    jn (fun  (M2 : Mem) =>
    wrF M2 (b + 57) 5 x1 fun M3 =>
    bnV (pTop_carryOver (b + 62) 7 (b + 61) 7 M3) fun M4 =>
    some M4) fun j1 =>
    if M (b + 57) 5 = 0 then (
    j1 M) else (
    if x1 < M (b + 57) 5 then (
    j1 M) else (
    some M))
def rmX1_settle : Room := { frames := 3, cells := 0, slots := 0, locals := 81 }
def pClauses_agree (rc : Int → Int → Int → Int → Int → Mem → Option (Mem)) (b : Nat) (x1 : Int) (x2 : Int) (x3 : Int) (x4 : Int) (x5 : Int) (x6 : Int) (M : Mem) : Option (Mem) :=
    wrF M (b + 57) 9 (w32 ((M (b + 57) 9) - 1)) fun M1 =>
    wrA M1 (b + 62) 7 x2 x1 fun M2 =>
    rdA (M2 (b + 60)) 7 x1 fun v3 =>
    nm (w32 (x6 + v3)) fun v4 =>
    if v4 < M2 (b + 57) 7 then (
    rdA (M2 (b + 58)) 7 x1 fun v5 =>
    rdA (M2 (b + 59)) 7 x1 fun v6 =>
    bnV (rc (w32 (x2 + 1)) (bOr x3 (bShl 1 x1)) (w32 (x4 + v5)) (w32 (x5 + v6)) v4 M2) fun M7 =>
    some M7) else (
    bnV (pClauses_settle b (w32 (x2 + 1)) M2) fun M8 =>
    some M8)
def rmX1_agree (d : Nat) : Room := { frames := 7 + 2 * d, cells := 0, slots := 0, locals := 130 + 60 * d }
theorem rk_X1_agree_X1_seek {d : Nat} : RmOk (rmX1_agree d) (rmX1_seek d) 8 := ⟨show 6 + 2 * d + 1 ≤ 7 + 2 * d by omega, show 8 + (8 + 11) + (100 + 60 * d) ≤ 130 + 60 * d by omega⟩
theorem rk_X1_agree_X1_settle {d : Nat} : RmOk (rmX1_agree d) rmX1_settle 2 := ⟨show 3 + 1 ≤ 7 + 2 * d by omega, show 8 + (2 + 11) + (81) ≤ 130 + 60 * d by omega⟩
def lpX1_seek_12 (rc : Int → Int → Int → Int → Int → Mem → Option (Mem)) (b : Nat) (y1 : Int) (y2 : Int) (y3 : Int) (y4 : Int) (y5 : Int) : Nat → Int → Mem → Option (Mem)
  | 0, _, _ => none
  | n + 1, u6, M =>
    if u6 < M (b + 57) 0 then (
    if M (b + 57) 9 < 0 then (
    some M) else (
    jn (fun (p1 : Int) (M3 : Mem) =>
    jn (fun  (M5 : Mem) =>
    nm (w32 (u6 + 1)) fun v6 =>
    lpX1_seek_12 rc b y1 y2 y3 y4 y5 n v6 M5) fun j4 =>
    if p1 = 0 then (
    j4 M3) else (
    rdA (M3 (b + 58)) 7 u6 fun v7 =>
    if w32 (y3 + v7) < M3 (b + 57) 8 then (
    j4 M3) else (
    rdA (M3 (b + 59)) 7 u6 fun v8 =>
    if w32 (y4 + v8) < M3 (b + 57) 8 then (
    j4 M3) else (
    bnV (pClauses_agree rc b u6 y1 y2 y3 y4 y5 M3) fun M9 =>
    j4 M9)))) fun j2 =>
    if bAnd (bShr y2 u6) 1 = 0 then (
    j2 1 M) else (
    j2 0 M))) else (
    some M)
def pClauses_seekb (rc : Int → Int → Int → Int → Int → Mem → Option (Mem)) (b : Nat) (x1 : Int) (x2 : Int) (x3 : Int) (x4 : Int) (x5 : Int) (M : Mem) : Option (Mem) :=
    if x1 < M (b + 57) 0 then (
    lpX1_seek_12 rc b x1 x2 x3 x4 x5 FU 0 M) else (
    some M)
def pClauses_seek : Nat → Nat → Int → Int → Int → Int → Int → Mem → Option (Mem)
  | 0, _, _, _, _, _, _, _ => none
  | d + 1, b, x1, x2, x3, x4, x5, M => pClauses_seekb (fun x1 x2 x3 x4 x5 M => pClauses_seek d b x1 x2 x3 x4 x5 M) b x1 x2 x3 x4 x5 M
theorem rk_X1_seek_X1_agree {d : Nat} : RmOk (rmX1_seek (d + 1)) (rmX1_agree d) 8 := ⟨show 7 + 2 * d + 1 ≤ 6 + 2 * (d + 1) by omega, show 8 + (8 + 11) + (130 + 60 * d) ≤ 100 + 60 * (d + 1) by omega⟩
def pClauses_soonest (b : Nat) (x1 : Int) (x2 : Int) (x3 : Int) (M : Mem) : Option (Int × Mem) :=
    wrF M (b + 57) 7 x1 fun M1 =>
    wrF M1 (b + 57) 8 (w32 (-x3)) fun M2 =>
    wrF M2 (b + 57) 9 x2 fun M3 =>
    wrF M3 (b + 57) 5 0 fun M4 =>
    bnV (pClauses_seek 9 b 0 0 0 0 0 M4) fun M5 =>
    if M5 (b + 57) 9 < 0 then (
    some ((-1000000004), M5)) else (
    if M5 (b + 57) 5 = 0 then (
    some ((-1000000002), M5)) else (
    some (M5 (b + 57) 5, M5)))
def rmX1_soonest : Room := { frames := 25, cells := 0, slots := 0, locals := 667 }
def lpX2_send_5 (b : Nat) (y1 : Int) : Nat → Int → Int → Mem → Option (Mem)
  | 0, _, _, _ => none
  | n + 1, u2, u3, M =>
    if u3 < 0 then (
    some M) else (
    nm (w32 (Int.tmod u3 8)) fun v1 =>
    jn (fun (p2 : Int) (M4 : Mem) =>
    wrA M4 (b + 55) 8 v1 p2 fun M5 =>
    nm (w32 (u3 + (-1))) fun v6 =>
    lpX2_send_5 b y1 n p2 v6 M5) fun j3 =>
    if bAnd (bShr y1 v1) 1 = 1 then (
    j3 v1 M) else (
    j3 u2 M))
def pFeast_send (b : Nat) (x1 : Int) (M : Mem) : Option (Mem) :=
    lpX2_send_5 b x1 FU 0 15 M
def rmX2_send : Room := { frames := 0, cells := 0, slots := 0, locals := 0 }
def lpX2_waitOf_26 (b : Nat) (y2 : Int) (y3 : Int) (k66 : Mem → Option (Int × Mem)) : Nat → Int → Mem → Option (Int × Mem)
  | 0, _, _ => none
  | n + 1, u4, M =>
    if u4 < 8 then (
    rdA (M (b + 55)) 8 u4 fun v3 =>
    rdA (M (b + 56)) 8 v3 fun v4 =>
    rdA (M (b + 54)) 104 (w32 ((w32 (u4 * 13)) + y3)) fun v5 =>
    wrA M (b + 56) 8 v3 (w32 (v4 + v5)) fun M6 =>
    nm (w32 (u4 + 1)) fun v7 =>
    lpX2_waitOf_26 b y2 y3 k66 n v7 M6) else (
    k66 M)
def lpX2_waitOf_69 (b : Nat) (y3 : Int) (k124 : Int → Mem → Option (Int × Mem)) : Nat → Int → Int → Mem → Option (Int × Mem)
  | 0, _, _, _ => none
  | n + 1, u2, u4, M =>
    if u4 < 8 then (
    rdA (M (b + 56)) 8 u4 fun v9 =>
    rdA (M (b + 54)) 104 (w32 ((w32 (u4 * 13)) + 12)) fun v10 =>
    wrA M (b + 56) 8 u4 (zmax 0 (w32 (v9 - v10))) fun M11 =>
    rdA (M11 (b + 56)) 8 u4 fun v12 =>
    nm (w32 (u2 + v12)) fun v13 =>
    nm (w32 (u4 + 1)) fun v14 =>
    lpX2_waitOf_69 b y3 k124 n v13 v14 M11) else (
    k124 u2 M)
def lpX2_waitOf_17 (b : Nat) : Nat → Int → Int → Mem → Option (Int × Mem)
  | 0, _, _, _ => none
  | n + 1, u2, u3, M =>
    if u3 < 12 then (
    lpX2_waitOf_26 b u2 u3 (fun M8 =>
    lpX2_waitOf_69 b u3 (fun v15 M16 =>
    nm (w32 (u3 + 1)) fun v17 =>
    lpX2_waitOf_17 b n v15 v17 M16) FU u2 0 M8) FU 0 M) else (
    some (u2, M))
def pFeast_waitOf (b : Nat) (x1 : Int) (M : Mem) : Option (Int × Mem) :=
    bnV (pFeast_send b x1 M) fun M1 =>
    bnV (j_fill_53178 (b + 56) 8 0 M1) fun M2 =>
    lpX2_waitOf_17 b FU 0 0 M2
def rmX2_waitOf : Room := { frames := 2, cells := 0, slots := 0, locals := 60 }
def lpX2_bestSet_7 (b : Nat) (y1 : Int) : Nat → Int → Int → Int → Mem → Option (Int × Mem)
  | 0, _, _, _, _ => none
  | n + 1, u2, u3, u4, M =>
    if u4 < 256 then (
    bnI (j_bitCount_0f7a4 u4 M) fun v2 M1 =>
    jn (fun (p3 : Int) (p4 : Int) (M6 : Mem) =>
    nm (w32 (u4 + 1)) fun v7 =>
    lpX2_bestSet_7 b y1 n p3 p4 v7 M6) fun j5 =>
    if y1 < v2 then (
    j5 u2 u3 M1) else (
    bnI (pFeast_waitOf b u4 M1) fun v9 M8 =>
    jn (fun (p10 : Int) (M12 : Mem) =>
    jn (fun  (M14 : Mem) =>
    j5 u4 v9 M14) fun j13 =>
    if u2 = 0 then (
    j13 M12) else (
    if p10 = 0 then (
    j5 u2 u3 M12) else (
    j13 M12))) fun j11 =>
    jn (fun  (M16 : Mem) =>
    j11 1 M16) fun j15 =>
    if v9 < u3 then (
    j15 M8) else (
    jn (fun  (M18 : Mem) =>
    j11 0 M18) fun j17 =>
    if v9 = u3 then (
    bnI (j_bitCount_0f7a4 u4 M8) fun v20 M19 =>
    bnI (j_bitCount_0f7a4 u2 M19) fun v22 M21 =>
    if v20 < v22 then (
    j15 M21) else (
    j17 M21)) else (
    j17 M8)))) else (
    some (u2, M))
def pFeast_bestSet (b : Nat) (x1 : Int) (M : Mem) : Option (Int × Mem) :=
    lpX2_bestSet_7 b x1 FU 0 0 1 M
def rmX2_bestSet : Room := { frames := 3, cells := 0, slots := 0, locals := 84 }
def pFiles_has (b : Nat) (x1 : Int) (x2 : Int) (M : Mem) : Option (Int × Mem) :=
    if x2 < 0 then (
    some (0, M)) else (
    rdA (M (b + 48)) 2 x1 fun v1 =>
    if x2 < v1 then (
    some (1, M)) else (
    some (0, M)))
def rmX3_has : Room := { frames := 0, cells := 0, slots := 0, locals := 0 }
def pFiles_addFile (b : Nat) (x1 : Int) (x2 : Int) (x3 : Int) (M : Mem) : Option (Int × Mem) :=
    rdA (M (b + 48)) 2 x1 fun v1 =>
    nm (w32 ((w32 (x1 * 10)) + v1)) fun v2 =>
    wrA M (b + 49) 20 v2 x2 fun M3 =>
    wrA M3 (b + 50) 20 v2 x3 fun M4 =>
    wrF M4 (b + 47) 5 0 fun M5 =>
    rdA (M5 (b + 48)) 2 x1 fun v6 =>
    wrA M5 (b + 48) 2 x1 (w32 (v6 + 1)) fun M7 =>
    some (v6, M7)
def rmX3_addFile : Room := { frames := 0, cells := 0, slots := 0, locals := 0 }
def pFiles_figure (x0 : Int) (x1 : Int) (M : Mem) : Option (Int × Mem) :=
    rdT 1 x1 fun v1 =>
    if v1 = 0 then none else
    some (w32 (Int.tmod (w32 (Int.tdiv x0 v1)) 10), M)
def rmX3_figure : Room := { frames := 0, cells := 0, slots := 0, locals := 0 }
def lpX3_likeness_60 (b : Nat) (y3 : Int) (y4 : Int) (k101 : Int → Int → Mem → Option (Int × Mem)) : Nat → Int → Int → Int → Mem → Option (Int × Mem)
  | 0, _, _, _, _ => none
  | n + 1, u5, u6, u7, M =>
    if u7 < 4 then (
    bnI (pFiles_figure y3 u7 M) fun v6 M5 =>
    bnI (pFiles_figure y4 u7 M5) fun v8 M7 =>
    jn (fun (p9 : Int) (p10 : Int) (M12 : Mem) =>
    nm (w32 (u7 + 1)) fun v13 =>
    lpX3_likeness_60 b y3 y4 k101 n p9 p10 v13 M12) fun j11 =>
    if v6 = v8 then (
    j11 u5 u6 M7) else (
    nm (w32 (u5 + 1)) fun v14 =>
    j11 v14 u7 M7)) else (
    k101 u5 u6 M)
def pFiles_likeness (b : Nat) (x1 : Int) (x2 : Int) (M : Mem) : Option (Int × Mem) :=
    rdA (M (b + 50)) 20 x1 fun v1 =>
    rdA (M (b + 50)) 20 (w32 (10 + x2)) fun v2 =>
    if 1 < zabs (w32 (v1 - v2)) then (
    some (0, M)) else (
    rdA (M (b + 49)) 20 x1 fun v3 =>
    rdA (M (b + 49)) 20 (w32 (10 + x2)) fun v4 =>
    if v3 = v4 then (
    some (2, M)) else (
    lpX3_likeness_60 b v3 v4 (fun v15 v16 M17 =>
    if v15 = 1 then (
    some (1, M17)) else (
    if 2 < v15 then (
    some (0, M17)) else (
    if v16 = 0 then (
    some (0, M17)) else (
    bnI (pFiles_figure v3 v16 M17) fun v19 M18 =>
    bnI (pFiles_figure v4 (w32 (v16 - 1)) M18) fun v21 M20 =>
    if v19 = v21 then (
    bnI (pFiles_figure v3 (w32 (v16 - 1)) M20) fun v23 M22 =>
    bnI (pFiles_figure v4 v16 M22) fun v25 M24 =>
    if v23 = v25 then (
    some (1, M24)) else (
    some (0, M24))) else (
    some (0, M20)))))) FU 0 0 0 M))
def rmX3_likeness : Room := { frames := 2, cells := 0, slots := 0, locals := 60 }
def pFiles_worthOf (x0 : Int) (M : Mem) : Option (Int × Mem) :=
    if x0 = 2 then (
    some (100, M)) else (
    some (x0, M))
def rmX3_worthOf : Room := { frames := 0, cells := 0, slots := 0, locals := 0 }
def lpX3_weighPair_25 (b : Nat) (y1 : Int) (y3 : Int) (y4 : Int) (y5 : Int) : Nat → Int → Mem → Option (Mem)
  | 0, _, _ => none
  | n + 1, u6, M =>
    if u6 < y3 then (
    jn (fun  (M7 : Mem) =>
    nm (w32 (u6 + 1)) fun v8 =>
    lpX3_weighPair_25 b y1 y3 y4 y5 n v8 M7) fun j6 =>
    if bAnd u6 y5 = 0 then (
    rdA (M (b + 63)) (M (b + 63) (-1)).toNat (w32 ((w32 ((w32 (y1 + 1)) * y3)) + (bOr u6 y5))) fun v9 =>
    nm (w32 (y4 + v9)) fun v10 =>
    rdA (M (b + 63)) (M (b + 63) (-1)).toNat (w32 ((w32 (y1 * y3)) + u6)) fun v11 =>
    if v11 < v10 then (
    wrA M (b + 63) (M (b + 63) (-1)).toNat (w32 ((w32 (y1 * y3)) + u6)) v10 fun M12 =>
    j6 M12) else (
    j6 M)) else (
    j6 M)) else (
    some M)
def pFiles_weighPair (b : Nat) (x1 : Int) (x2 : Int) (x3 : Int) (M : Mem) : Option (Mem) :=
    bnI (pFiles_likeness b x1 x2 M) fun v2 M1 =>
    bnI (pFiles_worthOf v2 M1) fun v4 M3 =>
    if v4 = 0 then (
    some M3) else (
    nm (bShl 1 x2) fun v5 =>
    lpX3_weighPair_25 b x1 x3 v4 v5 FU 0 M3)
def rmX3_weighPair : Room := { frames := 3, cells := 0, slots := 0, locals := 87 }
def lpX3_weigh_69 (b : Nat) (y1 : Int) (y3 : Int) (k105 : Mem → Option (Mem)) : Nat → Int → Mem → Option (Mem)
  | 0, _, _ => none
  | n + 1, u4, M =>
    if u4 < y1 then (
    rdA (M (b + 63)) (M (b + 63) (-1)).toNat (w32 ((w32 ((w32 (y3 + 1)) * y1)) + u4)) fun v11 =>
    wrA M (b + 63) (M (b + 63) (-1)).toNat (w32 ((w32 (y3 * y1)) + u4)) v11 fun M12 =>
    nm (w32 (u4 + 1)) fun v13 =>
    lpX3_weigh_69 b y1 y3 k105 n v13 M12) else (
    k105 M)
def lpX3_weigh_108 (b : Nat) (y1 : Int) (y3 : Int) (k133 : Mem → Option (Mem)) : Nat → Int → Mem → Option (Mem)
  | 0, _, _ => none
  | n + 1, u4, M =>
    rdA (M (b + 48)) 2 1 fun v15 =>
    if u4 < v15 then (
    bnV (pFiles_weighPair b y3 u4 y1 M) fun M16 =>
    nm (w32 (u4 + 1)) fun v17 =>
    lpX3_weigh_108 b y1 y3 k133 n v17 M16) else (
    k133 M)
def lpX3_weigh_62 (b : Nat) (y1 : Int) : Nat → Int → Mem → Option (Mem)
  | 0, _, _ => none
  | n + 1, u3, M =>
    if u3 < 0 then (
    some M) else (
    lpX3_weigh_69 b y1 u3 (fun M14 =>
    lpX3_weigh_108 b y1 u3 (fun M18 =>
    nm (w32 (u3 + (-1))) fun v19 =>
    lpX3_weigh_62 b y1 n v19 M18) FU 0 M14) FU 0 M)
def pFiles_weigh (b : Nat) (M : Mem) : Option (Mem) :=
    rdA (M (b + 48)) 2 1 fun v1 =>
    nm (bShl 1 v1) fun v2 =>
    rdA (M (b + 48)) 2 0 fun v3 =>
    nm (w32 ((w32 (v3 + 1)) * v2)) fun v4 =>
    jn (fun  (M6 : Mem) =>
    rdA (M6 (b + 48)) 2 0 fun v7 =>
    bnV (j_fillB b (w32 (v7 * v2)) v4 0 M6) fun M8 =>
    rdA (M8 (b + 48)) 2 0 fun v9 =>
    nm (w32 (v9 - 1)) fun v10 =>
    lpX3_weigh_62 b v2 FU v10 M8) fun j5 =>
    if ((M (b + 63) (-1)).toNat : Nat) < v4 then (
    nwB M b v4 fun M20 =>
    j5 M20) else (
    j5 M)
def rmX3_weigh : Room := { frames := 4, cells := 1, slots := 11264, locals := 114 }
def lpX3_leastPartner_12 (b : Nat) (y1 : Int) (y2 : Int) (y3 : Int) : Nat → Int → Mem → Option (Int × Mem)
  | 0, _, _ => none
  | n + 1, u4, M =>
    rdA (M (b + 48)) 2 1 fun v3 =>
    if u4 < v3 then (
    bnI (pFiles_likeness b y1 u4 M) fun v5 M4 =>
    bnI (pFiles_worthOf v5 M4) fun v7 M6 =>
    jn (fun  (M9 : Mem) =>
    nm (w32 (u4 + 1)) fun v10 =>
    lpX3_leastPartner_12 b y1 y2 y3 n v10 M9) fun j8 =>
    if v7 = 0 then (
    j8 M6) else (
    if bAnd (bShr y2 u4) 1 = 1 then (
    j8 M6) else (
    rdA (M6 (b + 63)) (M6 (b + 63) (-1)).toNat (w32 ((w32 ((w32 (y1 + 1)) * y3)) + (bOr y2 (bShl 1 u4)))) fun v11 =>
    rdA (M6 (b + 63)) (M6 (b + 63) (-1)).toNat (w32 ((w32 (y1 * y3)) + y2)) fun v12 =>
    if w32 (v7 + v11) = v12 then (
    some (u4, M6)) else (
    j8 M6)))) else (
    some ((-1000000005), M))
def pFiles_leastPartner (b : Nat) (x1 : Int) (x2 : Int) (M : Mem) : Option (Int × Mem) :=
    rdA (M (b + 48)) 2 1 fun v1 =>
    nm (bShl 1 v1) fun v2 =>
    lpX3_leastPartner_12 b x1 x2 v2 FU 0 M
def rmX3_leastPartner : Room := { frames := 3, cells := 0, slots := 0, locals := 87 }
def lpX3_findPairs_24 (b : Nat) (k84 : Mem → Option (Mem)) : Nat → Int → Int → Mem → Option (Mem)
  | 0, _, _, _ => none
  | n + 1, u1, u2, M =>
    rdA (M (b + 48)) 2 0 fun v3 =>
    if u2 < v3 then (
    bnI (pFiles_leastPartner b u2 u1 M) fun v5 M4 =>
    wrA M4 (b + 52) 10 u2 v5 fun M6 =>
    jn (fun (p7 : Int) (M9 : Mem) =>
    nm (w32 (u2 + 1)) fun v10 =>
    lpX3_findPairs_24 b k84 n p7 v10 M9) fun j8 =>
    if v5 = (-1000000005) then (
    j8 u1 M6) else (
    bnI (pFiles_likeness b u2 v5 M6) fun v12 M11 =>
    rdA (M11 (b + 51)) 3 v12 fun v13 =>
    wrA M11 (b + 51) 3 v12 (w32 (v13 + 1)) fun M14 =>
    nm (bOr u1 (bShl 1 v5)) fun v15 =>
    j8 v15 M14)) else (
    k84 M)
def pFiles_findPairs (b : Nat) (M : Mem) : Option (Mem) :=
    if M (b + 47) 5 = 0 then (
    bnV (pFiles_weigh b M) fun M1 =>
    bnV (j_fill_53178 (b + 51) 3 0 M1) fun M2 =>
    lpX3_findPairs_24 b (fun M16 =>
    wrF M16 (b + 47) 5 1 fun M17 =>
    some M17) FU 0 0 M2) else (
    some M)
def rmX3_findPairs : Room := { frames := 5, cells := 1, slots := 11264, locals := 138 }
def pLaws_has (b : Nat) (x1 : Int) (M : Mem) : Option (Int × Mem) :=
    if x1 < 0 then (
    some (0, M)) else (
    if x1 < M (b + 37) 0 then (
    some (1, M)) else (
    some (0, M)))
def rmX4_has : Room := { frames := 0, cells := 0, slots := 0, locals := 0 }
def pLaws_addText (b : Nat) (x2 : Int) (x3 : Int) (M : Mem) : Option (Int × Mem) :=
    wrA M (b + 38) 12 (M (b + 37) 0) (M 1 2) fun M1 =>
    wrA M1 (b + 39) 12 (M1 (b + 37) 0) x2 fun M2 =>
    wrA M2 (b + 40) 12 (M2 (b + 37) 0) x3 fun M3 =>
    wrA M3 (b + 41) 12 (M3 (b + 37) 0) (-1000000005) fun M4 =>
    wrA M4 (b + 42) 12 (M4 (b + 37) 0) (M4 1 3) fun M5 =>
    wrA M5 (b + 43) 12 (M5 (b + 37) 0) (M5 1 4) fun M6 =>
    cpA M6 3 96 0 (b + 44) 1152 (w32 ((M6 (b + 37) 0) * 96)) (M6 1 4) fun M7 =>
    wrF M7 (b + 37) 0 (w32 ((M7 (b + 37) 0) + 1)) fun M8 =>
    some (M7 (b + 37) 0, M8)
def rmX4_addText : Room := { frames := 2, cells := 0, slots := 0, locals := 60 }
def lpX4_mentions_2 (b : Nat) (y1 : Int) (y2 : Int) : Nat → Int → Mem → Option (Int × Mem)
  | 0, _, _ => none
  | n + 1, u3, M =>
    rdA (M (b + 43)) 12 y1 fun v1 =>
    if u3 < v1 then (
    rdA (M (b + 44)) 1152 (w32 ((w32 (y1 * 96)) + u3)) fun v2 =>
    if v2 = w32 (10000 + y2) then (
    some (1, M)) else (
    nm (w32 (u3 + 1)) fun v3 =>
    lpX4_mentions_2 b y1 y2 n v3 M)) else (
    some (0, M))
def pLaws_mentions (b : Nat) (x1 : Int) (x2 : Int) (M : Mem) : Option (Int × Mem) :=
    lpX4_mentions_2 b x1 x2 FU 0 M
def rmX4_mentions : Room := { frames := 0, cells := 0, slots := 0, locals := 0 }
def lpX4_differ_83 (b : Nat) (y1 : Int) (y2 : Int) (y3 : Int) (y4 : Int) (y5 : Int) (y6 : Int) (y7 : Int) (k199 : Int → Mem → Option (Int × Mem)) (k175 : Int → Int → Int → Mem → Option (Int × Mem)) : Nat → Int → Int → Mem → Option (Int × Mem)
  | 0, _, _, _ => none
  | n + 1, u8, u9, M =>
    if u9 < w32 ((w32 (y5 * y6)) * y7) then (
    if y7 = 0 then none else
    nm (w32 (Int.tmod u9 y7)) fun v17 =>
    if y7 = 0 then none else
    if y6 = 0 then none else
    nm (w32 (Int.tmod (w32 (Int.tdiv u9 y7)) y6)) fun v20 =>
    if y7 = 0 then none else
    if y6 = 0 then none else
    nm (w32 (Int.tdiv (w32 (Int.tdiv u9 y7)) y6)) fun v23 =>
    bnV (pLaws_setNames b v23 v20 v17 (w32 (Int.tmod y4 7)) M) fun M24 =>
    bnI (pLaws_valueOf b y1 M24) fun v26 M25 =>
    jn (fun (p27 : Int) (M29 : Mem) =>
    bnI (pLaws_valueOf b y2 M29) fun v31 M30 =>
    jn (fun (p32 : Int) (M34 : Mem) =>
    jn (fun (p35 : Int) (M37 : Mem) =>
    nm (w32 (u9 + 1)) fun v38 =>
    lpX4_differ_83 b y1 y2 y3 y4 y5 y6 y7 k199 k175 n p35 v38 M37) fun j36 =>
    if p27 = p32 then (
    j36 u8 M34) else (
    if y3 = 1 then (
    k175 v17 v20 v23 M34) else (
    nm (w32 (u8 + 1)) fun v39 =>
    j36 v39 M34))) fun j33 =>
    if v31 = 0 then (
    j33 1 M30) else (
    j33 0 M30)) fun j28 =>
    if v26 = 0 then (
    j28 1 M25) else (
    j28 0 M25)) else (
    k199 u8 M)
def pLaws_differ (b : Nat) (x1 : Int) (x2 : Int) (x3 : Int) (x4 : Int) (M : Mem) : Option (Int × Mem) :=
    bnI (pLaws_mentions b x1 0 M) fun v2 M1 =>
    jn (fun (p3 : Int) (M5 : Mem) =>
    bnI (pLaws_mentions b x1 1 M5) fun v7 M6 =>
    jn (fun (p8 : Int) (M10 : Mem) =>
    bnI (pLaws_mentions b x1 2 M10) fun v12 M11 =>
    jn (fun (p13 : Int) (M15 : Mem) =>
    lpX4_differ_83 b x1 x2 x3 x4 p3 p8 p13 (fun v40 M41 =>
    if x3 = 1 then (
    some ((-1000000005), M41)) else (
    if p3 = 0 then none else
    if p8 = 0 then none else
    if p13 = 0 then none else
    some (w32 ((w32 ((w32 (v40 * (w32 (Int.tdiv 100 p3)))) * (w32 (Int.tdiv 4 p8)))) * (w32 (Int.tdiv 10 p13))), M41))) (fun v45 v46 v47 M48 =>
    some (w32 ((w32 ((w32 (100 * v47)) + (w32 (10 * v46)))) + v45), M48)) FU 0 0 M15) fun j14 =>
    jn (fun  (M50 : Mem) =>
    j14 10 M50) fun j49 =>
    if v12 = 0 then (
    bnI (pLaws_mentions b x2 2 M11) fun v52 M51 =>
    if v52 = 0 then (
    j14 1 M51) else (
    j49 M51)) else (
    j49 M11)) fun j9 =>
    jn (fun  (M54 : Mem) =>
    j9 4 M54) fun j53 =>
    if v7 = 0 then (
    bnI (pLaws_mentions b x2 1 M6) fun v56 M55 =>
    if v56 = 0 then (
    j9 1 M55) else (
    j53 M55)) else (
    j53 M6)) fun j4 =>
    jn (fun  (M58 : Mem) =>
    j4 100 M58) fun j57 =>
    if v2 = 0 then (
    bnI (pLaws_mentions b x2 0 M1) fun v60 M59 =>
    if v60 = 0 then (
    j4 1 M59) else (
    j57 M59)) else (
    j57 M1)
def rmX4_differ : Room := { frames := 3, cells := 0, slots := 0, locals := 67 }
def pMeters_renew (x1 : Int) (x2 : Int) (x3 : Int) (M : Mem) : Option (Int × Mem) :=
    wrA M 6 2 x1 x2 fun M1 =>
    wrA M1 7 2 x1 x3 fun M2 =>
    bnV (j_fill_fda19 8 60 (w32 (x1 * 30)) (w32 ((w32 (x1 * 30)) + 30)) 0 M2) fun M3 =>
    some (x3, M3)
def rmX5_renew : Room := { frames := 2, cells := 0, slots := 0, locals := 46 }
def pMeters_finding (x1 : Int) (x2 : Int) (M : Mem) : Option (Int × Mem) :=
    rdA (M 6) 2 x1 fun v1 =>
    if v1 < 0 then (
    some ((-1000000011), M)) else (
    if x2 < 0 then (
    some ((-1000000013), M)) else (
    rdA (M 7) 2 x1 fun v2 =>
    if x2 < v2 then (
    some (0, M)) else (
    some ((-1000000013), M))))
def rmX5_finding : Room := { frames := 0, cells := 0, slots := 0, locals := 0 }
def pMeters_holds (x1 : Int) (x2 : Int) (x3 : Int) (M : Mem) : Option (Int × Mem) :=
    if x3 < 0 then (
    some (0, M)) else (
    if x2 < 0 then (
    some (0, M)) else (
    rdA (M 7) 2 x1 fun v1 =>
    if v1 < x3 then (
    some (0, M)) else (
    rdA (M 7) 2 x1 fun v2 =>
    if w32 (v2 - x3) < x2 then (
    some (0, M)) else (
    some (1, M)))))
def rmX5_holds : Room := { frames := 0, cells := 0, slots := 0, locals := 0 }
def lpX5_lastTold_2 (y1 : Int) : Nat → Int → Mem → Option (Int × Mem)
  | 0, _, _ => none
  | n + 1, u3, M =>
    if u3 < 0 then (
    some (u3, M)) else (
    rdA (M 8) 60 (w32 ((w32 (y1 * 30)) + u3)) fun v1 =>
    if v1 = (-1000000005) then (
    nm (w32 (u3 + (-1))) fun v2 =>
    lpX5_lastTold_2 y1 n v2 M) else (
    some (u3, M)))
def pMeters_lastTold (x1 : Int) (x2 : Int) (M : Mem) : Option (Int × Mem) :=
    lpX5_lastTold_2 x1 FU x2 M
def rmX5_lastTold : Room := { frames := 0, cells := 0, slots := 0, locals := 0 }
def pMeters_canCount (b : Nat) (x1 : Int) (x2 : Int) (M : Mem) : Option (Int × Mem) :=
    rdA (M (b + 4)) 2 x1 fun v1 =>
    jn (fun  (M3 : Mem) =>
    bnI (pMeters_finding x1 x2 M3) fun v5 M4 =>
    if v5 = 0 then (
    bnI (pMeters_lastTold x1 x2 M4) fun v7 M6 =>
    if v7 < 0 then (
    some (0, M6)) else (
    some (1, M6))) else (
    some (0, M4))) fun j2 =>
    if v1 = (-1000000005) then (
    j2 M) else (
    if x2 < v1 then (
    j2 M) else (
    some (0, M)))
def rmX5_canCount : Room := { frames := 1, cells := 0, slots := 0, locals := 23 }
def pMeters_agreed (x0 : Int) (x2 : Int) (x4 : Int) (M : Mem) : Option (Int × Mem) :=
    nm (zmin x0 x2) fun v1 =>
    nm (zmaxL x0 x2) fun v2 =>
    if 0 < cmpZ (w64 ((w64 (v2 - v1)) * 100)) (w64 (x4 * (zab64 v1))) then (
    some (v1, M)) else (
    some (w64 (Int.tdiv (w64 (v1 + v2)) 2), M))
def rmX5_agreed : Room := { frames := 2, cells := 0, slots := 0, locals := 60 }
def pMeters_sumOwed (b : Nat) (x1 : Int) (M : Mem) : Option (Int × Mem) :=
    bnI (pMeters_canCount b 0 x1 M) fun v2 M1 =>
    bnI (pMeters_canCount b 1 x1 M1) fun v4 M3 =>
    jn (fun  (M6 : Mem) =>
    if v2 = 0 then (
    if v4 = 0 then (
    some (4000000000, M6)) else (
    bnI (pMeters_lastTold 1 x1 M6) fun v8 M7 =>
    rdA (M7 8) 60 (w32 (30 + v8)) fun v9 =>
    some (v9, M7))) else (
    bnI (pMeters_lastTold 0 x1 M6) fun v11 M10 =>
    rdA (M10 8) 60 v11 fun v12 =>
    some (v12, M10))) fun j5 =>
    if v2 = 0 then (
    j5 M3) else (
    if v4 = 0 then (
    j5 M3) else (
    bnI (pMeters_lastTold 0 x1 M3) fun v14 M13 =>
    rdA (M13 8) 60 v14 fun v15 =>
    bnI (pMeters_lastTold 1 x1 M13) fun v17 M16 =>
    rdA (M16 8) 60 (w32 (30 + v17)) fun v18 =>
    rdA (M16 (b + 5)) 2 0 fun v19 =>
    bnI (pMeters_agreed v15 v18 v19 M16) fun v21 M20 =>
    some (v21, M20)))
def rmX5_sumOwed : Room := { frames := 3, cells := 0, slots := 0, locals := 88 }
def pPersons_has (b : Nat) (x1 : Int) (M : Mem) : Option (Int × Mem) :=
    if x1 < 0 then (
    some (0, M)) else (
    if x1 < M (b + 6) 0 then (
    some (1, M)) else (
    some (0, M)))
def rmX6_has : Room := { frames := 0, cells := 0, slots := 0, locals := 0 }
def pPersons_addPerson (b : Nat) (x1 : Int) (x2 : Int) (x3 : Int) (M : Mem) : Option (Int × Mem) :=
    wrA M (b + 7) 20 (M (b + 6) 0) x1 fun M1 =>
    wrA M1 (b + 8) 20 (M1 (b + 6) 0) x2 fun M2 =>
    wrA M2 (b + 9) 20 (M2 (b + 6) 0) x3 fun M3 =>
    wrA M3 (b + 10) 20 (M3 (b + 6) 0) x1 fun M4 =>
    wrA M4 (b + 11) 20 (M4 (b + 6) 0) (-1000000005) fun M5 =>
    wrA M5 (b + 12) 20 (M5 (b + 6) 0) (-1000000005) fun M6 =>
    wrF M6 (b + 6) 0 (w32 ((M6 (b + 6) 0) + 1)) fun M7 =>
    some (M6 (b + 6) 0, M7)
def rmX6_addPerson : Room := { frames := 0, cells := 0, slots := 0, locals := 0 }
def pPersons_joinLine (b : Nat) (x1 : Int) (x2 : Int) (x3 : Int) (M : Mem) : Option (Mem) :=
    if M (b + 6) 8 < 20 then (
    wrA M (b + 10) 20 x1 (-1000000005) fun M1 =>
    wrA M1 (b + 11) 20 x1 x2 fun M2 =>
    wrA M2 (b + 12) 20 x1 x3 fun M3 =>
    wrF M3 (b + 6) 8 (w32 ((M3 (b + 6) 8) + 1)) fun M4 =>
    wrA M4 (b + 13) 20 (M3 (b + 6) 8) x1 fun M5 =>
    some M5) else (
    some M)
def rmX6_joinLine : Room := { frames := 0, cells := 0, slots := 0, locals := 0 }
def pPost_addLetter (b : Nat) (x1 : Int) (x2 : Int) (x3 : Int) (M : Mem) : Option (Int × Mem) :=
    wrA M (b + 31) 20 (M (b + 30) 0) x1 fun M1 =>
    wrA M1 (b + 32) 20 (M1 (b + 30) 0) x2 fun M2 =>
    wrA M2 (b + 33) 20 (M2 (b + 30) 0) x3 fun M3 =>
    wrF M3 (b + 30) 0 (w32 ((M3 (b + 30) 0) + 1)) fun M4 =>
    some (w32 ((M3 (b + 30) 0) + 1), M4)
def rmX7_addLetter : Room := { frames := 0, cells := 0, slots := 0, locals := 0 }
def pPost_addCall (b : Nat) (x1 : Int) (x2 : Int) (x3 : Int) (M : Mem) : Option (Mem) :=
    wrA M (b + 34) 20 (M (b + 30) 4) x1 fun M1 =>
    wrA M1 (b + 35) 20 (M1 (b + 30) 4) x2 fun M2 =>
    wrA M2 (b + 36) 20 (M2 (b + 30) 4) x3 fun M3 =>
    wrF M3 (b + 30) 4 (w32 ((M3 (b + 30) 4) + 1)) fun M4 =>
    some M4
def rmX7_addCall : Room := { frames := 0, cells := 0, slots := 0, locals := 0 }
def lpX8_add_3 (y1 : Int) : Nat → Int → Mem → Option (Mem)
  | 0, _, _ => none
  | n + 1, u2, M =>
    if u2 < 0 then (
    some M) else (
    jn (fun  (M2 : Mem) =>
    nm (w32 (u2 + (-8))) fun v3 =>
    lpX8_add_3 y1 n v3 M2) fun j1 =>
    if M 1 0 < 96 then (
    wrF M 1 0 (w32 ((M 1 0) + 1)) fun M4 =>
    wrA M4 2 96 (M 1 0) (bAnd (bShr y1 u2) 255) fun M5 =>
    j1 M5) else (
    j1 M))
def pTape_add (x1 : Int) (M : Mem) : Option (Mem) :=
    lpX8_add_3 x1 FU 24 M
def rmX8_add : Room := { frames := 0, cells := 0, slots := 0, locals := 0 }
def pTape_sortOf (x0 : Int) (M : Mem) : Option (Int × Mem) :=
    jn (fun  (M2 : Mem) =>
    if x0 < 48 then (
    some (1, M2)) else (
    if 57 < x0 then (
    some (1, M2)) else (
    some (3, M2)))) fun j1 =>
    if x0 < 97 then (
    j1 M) else (
    if 122 < x0 then (
    j1 M) else (
    some (2, M)))
def rmX8_sortOf : Room := { frames := 0, cells := 0, slots := 0, locals := 0 }
def lpX8_advance_35 (y1 : Int) (y2 : Int) (k73 : Mem → Option (Mem)) : Nat → Mem → Option (Mem)
  | 0, _ => none
  | n + 1, M =>
    if M 1 6 < M 1 0 then (
    rdA (M 2) 96 (M 1 6) fun v6 =>
    if v6 = 32 then (
    wrF M 1 6 (w32 ((M 1 6) + 1)) fun M7 =>
    lpX8_advance_35 y1 y2 k73 n M7) else (
    k73 M)) else (
    k73 M)
def lpX8_advance_133 (y1 : Int) (y2 : Int) (k176 : Mem → Option (Mem)) : Nat → Mem → Option (Mem)
  | 0, _ => none
  | n + 1, M =>
    if M 1 7 < M 1 0 then (
    rdA (M 2) 96 (M 1 7) fun v16 =>
    bnI (pTape_sortOf v16 M) fun v18 M17 =>
    if v18 = M17 1 8 then (
    wrF M17 1 7 (w32 ((M17 1 7) + 1)) fun M19 =>
    lpX8_advance_133 y1 y2 k176 n M19) else (
    k176 M17)) else (
    k176 M)
def pTape_advance (M : Mem) : Option (Mem) :=
    jn (fun (p1 : Int) (M3 : Mem) =>
    nm (M3 1 7) fun v4 =>
    wrF M3 1 6 (M3 1 7) fun M5 =>
    lpX8_advance_35 p1 v4 (fun M8 =>
    wrF M8 1 7 (M8 1 6) fun M9 =>
    wrF M9 1 8 0 fun M10 =>
    if M10 1 6 < M10 1 0 then (
    rdA (M10 2) 96 (M10 1 6) fun v11 =>
    bnI (pTape_sortOf v11 M10) fun v13 M12 =>
    wrF M12 1 8 v13 fun M14 =>
    wrF M14 1 7 (w32 ((M14 1 7) + 1)) fun M15 =>
    if M15 1 8 = 1 then (
    some M15) else (
    lpX8_advance_133 p1 v4 (fun M20 =>
    if p1 = 0 then (
    some M20) else (
    if M20 1 6 = v4 then (
    wrF M20 1 8 4 fun M21 =>
    some M21) else (
    some M20))) FU M15)) else (
    some M10)) FU M5) fun j2 =>
    jn (fun  (M23 : Mem) =>
    j2 1 M23) fun j22 =>
    if M 1 8 = 2 then (
    j22 M) else (
    if M 1 8 = 3 then (
    j22 M) else (
    j2 0 M))
def rmX8_advance : Room := { frames := 1, cells := 0, slots := 0, locals := 20 }
def pTape_keyWord (x0 : Int) (M : Mem) : Option (Nat × Mem) :=
    if x0 = 0 then (
    some (0, M)) else (
    if x0 = 1 then (
    some (1, M)) else (
    if x0 = 2 then (
    some (2, M)) else (
    if x0 = 3 then (
    some (3, M)) else (
    some (4, M)))))
def rmX8_keyWord : Room := { frames := 0, cells := 0, slots := 0, locals := 0 }
def lpX8_isHere_20 (w : Nat) : Nat → Int → Mem → Option (Int × Mem)
  | 0, _, _ => none
  | n + 1, u2, M =>
    bnI (j_length_8abf5 w M) fun v4 M3 =>
    if u2 < v4 then (
    bnI (j_charAt_5068e w u2 M3) fun v6 M5 =>
    rdA (M5 2) 96 (w32 ((M5 1 6) + u2)) fun v7 =>
    if v6 = v7 then (
    nm (w32 (u2 + 1)) fun v8 =>
    lpX8_isHere_20 w n v8 M5) else (
    some (0, M5))) else (
    some (1, M3))
def pTape_isHere (w : Nat) (M : Mem) : Option (Int × Mem) :=
    bnI (j_length_8abf5 w M) fun v2 M1 =>
    if v2 = w32 ((M1 1 7) - (M1 1 6)) then (
    lpX8_isHere_20 w FU 0 M1) else (
    some (0, M1))
def rmX8_isHere : Room := { frames := 4, cells := 0, slots := 0, locals := 85 }
def lpX8_keyHere_2 : Nat → Int → Mem → Option (Int × Mem)
  | 0, _, _ => none
  | n + 1, u1, M =>
    if 4 < u1 then (
    some ((-1000000005), M)) else (
    jn (fun  (M2 : Mem) =>
    nm (w32 (u1 + 1)) fun v3 =>
    lpX8_keyHere_2 n v3 M2) fun j1 =>
    if M 1 8 = 2 then (
    bnS (pTape_keyWord u1 M) fun t5 M4 =>
    bnI (pTape_isHere t5 M4) fun v7 M6 =>
    if v7 = 0 then (
    j1 M6) else (
    some (u1, M6))) else (
    j1 M))
def pTape_keyHere (M : Mem) : Option (Int × Mem) :=
    lpX8_keyHere_2 FU 0 M
def rmX8_keyHere : Room := { frames := 5, cells := 0, slots := 0, locals := 107 }
def lpX8_numberHere_7 : Nat → Int → Int → Mem → Option (Int × Mem)
  | 0, _, _, _ => none
  | n + 1, u1, u2, M =>
    if u2 < M 1 7 then (
    rdA (M 2) 96 u2 fun v2 =>
    nm (w32 ((w32 ((w32 (10 * u1)) + v2)) - 48)) fun v3 =>
    nm (w32 (u2 + 1)) fun v4 =>
    lpX8_numberHere_7 n v3 v4 M) else (
    some (u1, M))
def pTape_numberHere (M : Mem) : Option (Int × Mem) :=
    nm (M 1 6) fun v1 =>
    lpX8_numberHere_7 FU 0 v1 M
def rmX8_numberHere : Room := { frames := 0, cells := 0, slots := 0, locals := 0 }
def pTape_emit (x1 : Int) (M : Mem) : Option (Mem) :=
    if M 1 4 < 96 then (
    wrF M 1 4 (w32 ((M 1 4) + 1)) fun M1 =>
    wrA M1 3 96 (M 1 4) x1 fun M2 =>
    some M2) else (
    some M)
def rmX8_emit : Room := { frames := 0, cells := 0, slots := 0, locals := 0 }
def lpX8_releaseNots_0 : Nat → Mem → Option (Mem)
  | 0, _ => none
  | n + 1, M =>
    if 0 < M 1 10 then (
    rdA (M 4) 96 (w32 ((M 1 10) - 1)) fun v1 =>
    if v1 = 20009 then (
    bnV (pTape_emit 20009 M) fun M2 =>
    wrF M2 1 10 (w32 ((M2 1 10) - 1)) fun M3 =>
    wrF M3 1 12 (w32 ((M3 1 12) - 1)) fun M4 =>
    lpX8_releaseNots_0 n M4) else (
    some M)) else (
    some M)
def pTape_releaseNots (M : Mem) : Option (Mem) :=
    lpX8_releaseNots_0 FU M
def rmX8_releaseNots : Room := { frames := 1, cells := 0, slots := 0, locals := 21 }
def pTape_addPart (x1 : Int) (M : Mem) : Option (Int × Mem) :=
    wrF M 1 3 (w32 ((M 1 3) + 1)) fun M1 =>
    wrF M1 1 13 0 fun M2 =>
    bnV (pTape_emit x1 M2) fun M3 =>
    bnV (pTape_releaseNots M3) fun M4 =>
    some (1, M4)
def rmX8_addPart : Room := { frames := 2, cells := 0, slots := 0, locals := 41 }
def pTape_namesOf (x0 : Int) (M : Mem) : Option (Nat × Mem) :=
    if x0 = 0 then (
    some (5, M)) else (
    if x0 = 1 then (
    some (6, M)) else (
    if x0 = 2 then (
    some (7, M)) else (
    if x0 = 3 then (
    some (8, M)) else (
    some (9, M)))))
def rmX8_namesOf : Room := { frames := 0, cells := 0, slots := 0, locals := 0 }
def pTape_hold (x1 : Int) (M : Mem) : Option (Int × Mem) :=
    if M 1 10 < 96 then (
    wrF M 1 10 (w32 ((M 1 10) + 1)) fun M1 =>
    wrA M1 4 96 (M 1 10) x1 fun M2 =>
    some (1, M2)) else (
    some (1, M))
def rmX8_hold : Room := { frames := 0, cells := 0, slots := 0, locals := 0 }
def pTape_takePart (M : Mem) : Option (Int × Mem) :=
    if M 1 8 = 3 then (
    if 4 < w32 ((M 1 7) - (M 1 6)) then (
    some (0, M)) else (
    bnI (pTape_numberHere M) fun v22 M21 =>
    bnI (pTape_addPart v22 M21) fun v24 M23 =>
    if v24 = 0 then (
    some (0, M23)) else (
    some (1, M23)))) else (
    if M 1 8 = 2 then (
    jn (fun (p11 : Int) (M13 : Mem) =>
    if p11 < 0 then (
    some (0, M13)) else (
    bnI (pTape_addPart (w32 (10000 + p11)) M13) fun v15 M14 =>
    if v15 = 0 then (
    some (0, M14)) else (
    some (1, M14)))) fun j12 =>
    if w32 ((M 1 7) - (M 1 6)) = 1 then (
    bnS (pTape_namesOf (M 1 2) M) fun t17 M16 =>
    rdA (M16 2) 96 (M16 1 6) fun v18 =>
    bnI (j_indexOf_0f7a4 t17 (bChr v18) M16) fun v20 M19 =>
    j12 v20 M19) else (
    j12 (-1) M)) else (
    if M 1 8 = 1 then (
    rdA (M 2) 96 (M 1 6) fun v1 =>
    jn (fun  (M3 : Mem) =>
    rdA (M3 2) 96 (M3 1 6) fun v4 =>
    if v4 = 40 then (
    if M3 1 11 < 8 then (
    wrF M3 1 11 (w32 ((M3 1 11) + 1)) fun M5 =>
    bnI (pTape_hold 20010 M5) fun v7 M6 =>
    if v7 = 0 ∨ v7 = 1 then some (v7, M6) else none) else (
    some (0, M3))) else (
    some (0, M3))) fun j2 =>
    if v1 = 33 then (
    if M 1 12 < 8 then (
    wrF M 1 12 (w32 ((M 1 12) + 1)) fun M8 =>
    bnI (pTape_hold 20009 M8) fun v10 M9 =>
    if v10 = 0 ∨ v10 = 1 then some (v10, M9) else none) else (
    j2 M)) else (
    j2 M)) else (
    some (0, M))))
def rmX8_takePart : Room := { frames := 5, cells := 0, slots := 0, locals := 126 }
def lpX8_release_0 (y1 : Int) : Nat → Mem → Option (Int × Mem)
  | 0, _ => none
  | n + 1, M =>
    if 0 < M 1 10 then (
    rdA (M 4) 96 (w32 ((M 1 10) - 1)) fun v1 =>
    if v1 = 20010 then (
    some (1, M)) else (
    rdA (M 4) 96 (w32 ((M 1 10) - 1)) fun v2 =>
    rdT 2 (w32 (v2 - 20000)) fun v3 =>
    if v3 < y1 then (
    some (1, M)) else (
    jn (fun  (M5 : Mem) =>
    rdA (M5 4) 96 (w32 ((M5 1 10) - 1)) fun v6 =>
    bnV (pTape_emit v6 M5) fun M7 =>
    wrF M7 1 10 (w32 ((M7 1 10) - 1)) fun M8 =>
    lpX8_release_0 y1 n M8) fun j4 =>
    if v3 = 3 then (
    if y1 = 3 then (
    some (0, M)) else (
    j4 M)) else (
    j4 M)))) else (
    some (1, M))
def pTape_release (x1 : Int) (M : Mem) : Option (Int × Mem) :=
    lpX8_release_0 x1 FU M
def rmX8_release : Room := { frames := 1, cells := 0, slots := 0, locals := 21 }
def pTape_closeBracket (M : Mem) : Option (Int × Mem) :=
    if M 1 11 = 0 then (
    some (0, M)) else (
    bnI (pTape_release 0 M) fun v2 M1 =>
    wrF M1 1 11 (w32 ((M1 1 11) - 1)) fun M3 =>
    jn (fun  (M5 : Mem) =>
    bnV (pTape_releaseNots M5) fun M6 =>
    some (1, M6)) fun j4 =>
    if 0 < M3 1 10 then (
    wrF M3 1 10 (w32 ((M3 1 10) - 1)) fun M7 =>
    j4 M7) else (
    j4 M3))
def rmX8_closeBracket : Room := { frames := 2, cells := 0, slots := 0, locals := 43 }
def pTape_takeSign (M : Mem) : Option (Int × Mem) :=
    if M 1 8 = 1 then (
    rdA (M 2) 96 (M 1 6) fun v1 =>
    if v1 = 41 then (
    bnI (pTape_closeBracket M) fun v12 M11 =>
    if v12 = 0 ∨ v12 = 1 then some (v12, M11) else none) else (
    rdA (M 2) 96 (M 1 6) fun v2 =>
    bnI (j_indexOf_0f7a4 10 (bChr v2) M) fun v4 M3 =>
    if v4 < 0 then (
    some (0, M3)) else (
    rdT 2 v4 fun v5 =>
    bnI (pTape_release v5 M3) fun v7 M6 =>
    if v7 = 0 then (
    some (0, M6)) else (
    wrF M6 1 13 1 fun M8 =>
    bnI (pTape_hold (w32 (20000 + v4)) M8) fun v10 M9 =>
    if v10 = 0 ∨ v10 = 1 then some (v10, M9) else none)))) else (
    some (0, M))
def rmX8_takeSign : Room := { frames := 5, cells := 0, slots := 0, locals := 126 }
def lpX8_parse_68 (k137 : Mem → Option (Int × Mem)) (k99 : Mem → Option (Int × Mem)) : Nat → Int → Mem → Option (Int × Mem)
  | 0, _, _ => none
  | n + 1, u1, M =>
    if 96 < u1 then (
    k137 M) else (
    bnV (pTape_advance M) fun M17 =>
    jn (fun  (M19 : Mem) =>
    jn (fun  (M21 : Mem) =>
    nm (w32 (u1 + 1)) fun v22 =>
    lpX8_parse_68 k137 k99 n v22 M21) fun j20 =>
    if M19 1 13 = 0 then (
    bnI (pTape_takeSign M19) fun v24 M23 =>
    if v24 = 0 then (
    some (M23 1 6, M23)) else (
    j20 M23)) else (
    bnI (pTape_takePart M19) fun v26 M25 =>
    if v26 = 0 then (
    some (M25 1 6, M25)) else (
    j20 M25))) fun j18 =>
    if M17 1 8 = 0 then (
    if M17 1 13 = 0 then (
    if M17 1 11 = 0 then (
    k99 M17) else (
    j18 M17)) else (
    j18 M17)) else (
    j18 M17))
def pTape_parse (M : Mem) : Option (Int × Mem) :=
    wrF M 1 7 0 fun M1 =>
    wrF M1 1 8 0 fun M2 =>
    wrF M2 1 3 0 fun M3 =>
    wrF M3 1 4 0 fun M4 =>
    wrF M4 1 10 0 fun M5 =>
    wrF M5 1 11 0 fun M6 =>
    wrF M6 1 12 0 fun M7 =>
    wrF M7 1 13 1 fun M8 =>
    bnV (pTape_advance M8) fun M9 =>
    bnI (pTape_keyHere M9) fun v11 M10 =>
    wrF M10 1 2 v11 fun M12 =>
    if M12 1 2 = (-1000000005) then (
    some (M12 1 6, M12)) else (
    jn (fun  (M14 : Mem) =>
    bnI (pTape_release 0 M14) fun v16 M15 =>
    some ((-1000000005), M15)) fun j13 =>
    lpX8_parse_68 (fun M27 =>
    j13 M27) (fun M28 =>
    j13 M28) FU 0 M12)
def rmX8_parse : Room := { frames := 6, cells := 0, slots := 0, locals := 147 }
def pTies_isOf (b : Nat) (x1 : Int) (x2 : Int) (M : Mem) : Option (Int × Mem) :=
    bnI (pTies_has b x1 M) fun v2 M1 =>
    if v2 = 0 then (
    some (0, M1)) else (
    rdA (M1 (b + 16)) 40 x1 fun v3 =>
    if v3 = x2 then (
    some (1, M1)) else (
    some (0, M1)))
def rmX9_isOf : Room := { frames := 1, cells := 0, slots := 0, locals := 21 }
def pTies_fits (x0 : Int) (x1 : Int) (M : Mem) : Option (Int × Mem) :=
    if x0 = 1 then (
    bnI (pTop_within x1 0 9 M) fun v2 M1 =>
    if v2 = 0 ∨ v2 = 1 then some (v2, M1) else none) else (
    if x0 = 2 then (
    if x1 = 0 then (
    some (1, M)) else (
    some (0, M))) else (
    if x0 = 3 then (
    bnI (pTop_within x1 0 9999 M) fun v6 M5 =>
    if v6 = 0 ∨ v6 = 1 then some (v6, M5) else none) else (
    if x0 = 4 then (
    bnI (pTop_within x1 0 60 M) fun v9 M8 =>
    if v9 = 0 ∨ v9 = 1 then some (v9, M8) else none) else (
    if x0 = 5 then (
    bnI (pTop_within x1 1 9 M) fun v12 M11 =>
    if v12 = 0 ∨ v12 = 1 then some (v12, M11) else none) else (
    if x1 = 0 then (
    some (1, M)) else (
    some (0, M)))))))
def rmX9_fits : Room := { frames := 1, cells := 0, slots := 0, locals := 22 }
def lpX9_isUnder_4 (y1 : Int) : Nat → Int → Int → Mem → Option (Int × Mem)
  | 0, _, _, _ => none
  | n + 1, u2, u3, M =>
    if u3 < 8 then (
    if u2 < 0 then (
    some (0, M)) else (
    if u2 = y1 then (
    some (1, M)) else (
    rdT 0 u2 fun v1 =>
    nm (w32 (u3 + 1)) fun v2 =>
    lpX9_isUnder_4 y1 n v1 v2 M))) else (
    some (0, M))
def pTies_isUnder (x0 : Int) (x1 : Int) (M : Mem) : Option (Int × Mem) :=
    lpX9_isUnder_4 x1 FU x0 0 M
def rmX9_isUnder : Room := { frames := 0, cells := 0, slots := 0, locals := 0 }
def pTies_addTie (b : Nat) (x1 : Int) (x2 : Int) (x3 : Int) (x4 : Int) (M : Mem) : Option (Int × Mem) :=
    wrA M (b + 16) 40 (M (b + 15) 0) x1 fun M1 =>
    wrA M1 (b + 17) 40 (M1 (b + 15) 0) x2 fun M2 =>
    wrA M2 (b + 18) 40 (M2 (b + 15) 0) x3 fun M3 =>
    wrA M3 (b + 19) 40 (M3 (b + 15) 0) x4 fun M4 =>
    wrA M4 (b + 20) 40 (M4 (b + 15) 0) 0 fun M5 =>
    jn (fun (p6 : Int) (M8 : Mem) =>
    wrA M8 (b + 21) 40 (M5 (b + 15) 0) p6 fun M9 =>
    wrA M9 (b + 22) 40 (M9 (b + 15) 0) 0 fun M10 =>
    wrA M10 (b + 23) 40 (M10 (b + 15) 0) 0 fun M11 =>
    wrA M11 (b + 24) 40 (M11 (b + 15) 0) 0 fun M12 =>
    wrA M12 (b + 25) 40 (M12 (b + 15) 0) (-1000000005) fun M13 =>
    wrA M13 (b + 26) 40 (M13 (b + 15) 0) 0 fun M14 =>
    wrF M14 (b + 15) 0 (w32 ((M14 (b + 15) 0) + 1)) fun M15 =>
    some (M14 (b + 15) 0, M15)) fun j7 =>
    if x1 = 1 then (
    j7 23 M5) else (
    j7 0 M5)
def rmX9_addTie : Room := { frames := 0, cells := 0, slots := 0, locals := 0 }
def pTies_addStop (b : Nat) (x1 : Int) (x2 : Int) (x3 : Int) (M : Mem) : Option (Int × Mem) :=
    rdA (M (b + 26)) 40 x1 fun v1 =>
    nm (w32 ((w32 (x1 * 8)) + v1)) fun v2 =>
    wrA M (b + 27) 320 v2 x2 fun M3 =>
    wrA M3 (b + 28) 320 v2 x3 fun M4 =>
    rdA (M4 (b + 26)) 40 x1 fun v5 =>
    wrA M4 (b + 26) 40 x1 (w32 (v5 + 1)) fun M6 =>
    some (w32 (v5 + 1), M6)
def rmX9_addStop : Room := { frames := 0, cells := 0, slots := 0, locals := 0 }
def lpX9_openPasses_4 (b : Nat) : Nat → Int → Int → Mem → Option (Int × Mem)
  | 0, _, _, _ => none
  | n + 1, u1, u2, M =>
    if u2 < M (b + 15) 0 then (
    rdA (M (b + 16)) 40 u2 fun v1 =>
    jn (fun (p2 : Int) (M4 : Mem) =>
    nm (w32 (u2 + 1)) fun v5 =>
    lpX9_openPasses_4 b n p2 v5 M4) fun j3 =>
    if v1 = 6 then (
    rdA (M (b + 22)) 40 u2 fun v6 =>
    if v6 = 0 then (
    nm (w32 (u1 + 1)) fun v7 =>
    j3 v7 M) else (
    j3 u1 M)) else (
    j3 u1 M)) else (
    some (u1, M))
def pTies_openPasses (b : Nat) (M : Mem) : Option (Int × Mem) :=
    lpX9_openPasses_4 b FU 0 0 M
def rmX9_openPasses : Room := { frames := 0, cells := 0, slots := 0, locals := 0 }
def lpX10_lay_11 (b : Nat) (y2 : Int) (y3 : Int) (k79 : Mem → Option (Mem)) : Nat → Int → Mem → Option (Mem)
  | 0, _, _ => none
  | n + 1, u4, M =>
    if u4 < M b 1 then (
    rdA (M (b + 3)) 16 u4 fun v2 =>
    wrA M 10 324 (w32 (288 + u4)) v2 fun M3 =>
    rdA (M3 (b + 1)) 16 u4 fun v4 =>
    jn (fun  (M6 : Mem) =>
    nm (w32 (u4 + 1)) fun v7 =>
    lpX10_lay_11 b y2 y3 k79 n v7 M6) fun j5 =>
    if bAnd (bShr y2 v4) 1 = 1 then (
    rdA (M3 (b + 2)) 16 u4 fun v8 =>
    wrA M3 10 324 (w32 ((w32 (u4 * 18)) + 17)) v8 fun M9 =>
    j5 M9) else (
    j5 M3)) else (
    k79 M)
def lpX10_lay_88 (b : Nat) (y3 : Int) : Nat → Int → Mem → Option (Mem)
  | 0, _, _ => none
  | n + 1, u5, M =>
    if u5 < M (b + 15) 0 then (
    rdA (M (b + 16)) 40 u5 fun v11 =>
    jn (fun  (M13 : Mem) =>
    nm (w32 (u5 + 1)) fun v14 =>
    lpX10_lay_88 b y3 n v14 M13) fun j12 =>
    if v11 = 3 then (
    if u5 = y3 then (
    j12 M) else (
    rdA (M (b + 17)) 40 u5 fun v15 =>
    rdA (M (b + 18)) 40 u5 fun v16 =>
    rdA (M 10) 324 (w32 ((w32 (v15 * 18)) + v16)) fun v17 =>
    rdA (M (b + 19)) 40 u5 fun v18 =>
    wrA M 10 324 (w32 ((w32 (v15 * 18)) + v16)) (w32 (v17 + v18)) fun M19 =>
    rdA (M19 (b + 18)) 40 u5 fun v20 =>
    rdA (M19 (b + 17)) 40 u5 fun v21 =>
    rdA (M19 10) 324 (w32 ((w32 (v20 * 18)) + v21)) fun v22 =>
    rdA (M19 (b + 19)) 40 u5 fun v23 =>
    wrA M19 10 324 (w32 ((w32 (v20 * 18)) + v21)) (w32 (v22 + v23)) fun M24 =>
    j12 M24)) else (
    j12 M)) else (
    some M)
def pWater_lay (b : Nat) (x2 : Int) (x3 : Int) (M : Mem) : Option (Mem) :=
    bnV (j_fill_53178 10 324 0 M) fun M1 =>
    lpX10_lay_11 b x2 x3 (fun M10 =>
    lpX10_lay_88 b x3 FU 0 M10) FU 0 M1
def rmX10_lay : Room := { frames := 1, cells := 0, slots := 0, locals := 23 }
def lpX10_reachDrain_51 (y2 : Int) (y3 : Int) (k113 : Int → Mem → Option (Int × Mem)) : Nat → Int → Int → Mem → Option (Int × Mem)
  | 0, _, _, _ => none
  | n + 1, u1, u4, M =>
    if u4 < 18 then (
    rdA (M 11) 18 u4 fun v5 =>
    jn (fun (p6 : Int) (M8 : Mem) =>
    nm (w32 (u4 + 1)) fun v9 =>
    lpX10_reachDrain_51 y2 y3 k113 n p6 v9 M8) fun j7 =>
    if v5 = (-1000000005) then (
    rdA (M 10) 324 (w32 ((w32 (y3 * 18)) + u4)) fun v10 =>
    if v10 = 0 then (
    j7 u1 M) else (
    wrA M 11 18 u4 y3 fun M11 =>
    nm (w32 (u1 + 1)) fun v12 =>
    wrA M11 12 18 u1 u4 fun M13 =>
    j7 v12 M13)) else (
    j7 u1 M)) else (
    k113 u1 M)
def lpX10_reachDrain_30 (k119 : Mem → Option (Int × Mem)) : Nat → Int → Int → Mem → Option (Int × Mem)
  | 0, _, _, _ => none
  | n + 1, u1, u2, M =>
    if u2 < u1 then (
    if u2 < 18 then (
    rdA (M 12) 18 u2 fun v4 =>
    lpX10_reachDrain_51 u2 v4 (fun v14 M15 =>
    nm (w32 (u2 + 1)) fun v16 =>
    lpX10_reachDrain_30 k119 n v14 v16 M15) FU u1 0 M) else (
    k119 M)) else (
    k119 M)
def pWater_reachDrain (M : Mem) : Option (Int × Mem) :=
    bnV (j_fill_53178 11 18 (-1000000005) M) fun M1 =>
    wrA M1 11 18 16 16 fun M2 =>
    wrA M2 12 18 0 16 fun M3 =>
    lpX10_reachDrain_30 (fun M17 =>
    rdA (M17 11) 18 17 fun v18 =>
    if v18 = (-1000000005) then (
    some (0, M17)) else (
    some (1, M17))) FU 1 0 M3
def rmX10_reachDrain : Room := { frames := 1, cells := 0, slots := 0, locals := 23 }
def lpX10_push_9 (k55 : Int → Mem → Option (Int × Mem)) : Nat → Int → Int → Int → Mem → Option (Int × Mem)
  | 0, _, _, _, _ => none
  | n + 1, u1, u2, u3, M =>
    if u3 < 18 then (
    if u2 = 16 then (
    k55 u1 M) else (
    rdA (M 11) 18 u2 fun v1 =>
    rdA (M 10) 324 (w32 ((w32 (v1 * 18)) + u2)) fun v2 =>
    nm (zmin u1 v2) fun v3 =>
    rdA (M 11) 18 u2 fun v4 =>
    nm (w32 (u3 + 1)) fun v5 =>
    lpX10_push_9 k55 n v3 v4 v5 M)) else (
    k55 u1 M)
def lpX10_push_60 (y1 : Int) : Nat → Int → Int → Mem → Option (Int × Mem)
  | 0, _, _, _ => none
  | n + 1, u2, u3, M =>
    if u3 < 18 then (
    if u2 = 16 then (
    some (y1, M)) else (
    rdA (M 11) 18 u2 fun v8 =>
    rdA (M 10) 324 (w32 ((w32 (v8 * 18)) + u2)) fun v9 =>
    wrA M 10 324 (w32 ((w32 (v8 * 18)) + u2)) (w32 (v9 - y1)) fun M10 =>
    rdA (M10 11) 18 u2 fun v11 =>
    rdA (M10 10) 324 (w32 ((w32 (u2 * 18)) + v11)) fun v12 =>
    wrA M10 10 324 (w32 ((w32 (u2 * 18)) + v11)) (w32 (v12 + y1)) fun M13 =>
    rdA (M13 11) 18 u2 fun v14 =>
    nm (w32 (u3 + 1)) fun v15 =>
    lpX10_push_60 y1 n v14 v15 M13)) else (
    some (y1, M))
def pWater_push (M : Mem) : Option (Int × Mem) :=
    lpX10_push_9 (fun v6 M7 =>
    lpX10_push_60 v6 FU 17 0 M7) FU 16000 17 0 M
def rmX10_push : Room := { frames := 2, cells := 0, slots := 0, locals := 60 }
def lpX10_greatest_13 (b : Nat) : Nat → Int → Int → Mem → Option (Int × Mem)
  | 0, _, _, _ => none
  | n + 1, u4, u5, M =>
    if u5 < 16000 then (
    bnI (pWater_reachDrain M) fun v3 M2 =>
    jn (fun (p4 : Int) (M6 : Mem) =>
    if p4 = 0 then (
    some (u4, M6)) else (
    nm (w32 (u4 + p4)) fun v7 =>
    nm (w32 (u5 + 1)) fun v8 =>
    lpX10_greatest_13 b n v7 v8 M6)) fun j5 =>
    if v3 = 0 then (
    j5 0 M2) else (
    bnI (pWater_push M2) fun v10 M9 =>
    j5 v10 M9)) else (
    some (u4, M))
def pWater_greatest (b : Nat) (x2 : Int) (x3 : Int) (M : Mem) : Option (Int × Mem) :=
    bnV (pWater_lay b x2 x3 M) fun M1 =>
    lpX10_greatest_13 b FU 0 0 M1
def rmX10_greatest : Room := { frames := 3, cells := 0, slots := 0, locals := 83 }
def pTop_isSide (x0 : Int) (M : Mem) : Option (Int × Mem) :=
    if x0 = 0 then (
    some (1, M)) else (
    if x0 = 1 then (
    some (1, M)) else (
    some (0, M)))
def rmX11_isSide : Room := { frames := 0, cells := 0, slots := 0, locals := 0 }
def pTop_cell (x1 : Int) (M : Mem) : Option (Int × Mem) :=
    bnI (pTop_isSide x1 M) fun v2 M1 =>
    if v2 = 0 then (
    some ((-1000000001), M1)) else (
    if M1 100 1 = 16 then (
    some ((-1000000003), M1)) else (
    bnI (pCity_addCell 100 x1 M1) fun v4 M3 =>
    some (v4, M3)))
def rmX11_cell : Room := { frames := 1, cells := 0, slots := 0, locals := 21 }
def pTop_exchange (f0 : Nat) (n0 : Nat) (x1 : Int) (x2 : Int) (M : Mem) : Option (Int × Mem) :=
    rdA (M f0) n0 x1 fun v1 =>
    wrA M f0 n0 x1 x2 fun M2 =>
    some (v1, M2)
def rmX11_exchange : Room := { frames := 0, cells := 0, slots := 0, locals := 0 }
def pTop_water (x1 : Int) (x2 : Int) (x3 : Int) (M : Mem) : Option (Int × Mem) :=
    bnI (pCity_hasCell 100 x1 M) fun v2 M1 =>
    if v2 = 0 then (
    some ((-1000000001), M1)) else (
    bnI (pTop_within x2 0 1 M1) fun v4 M3 =>
    if v4 = 0 then (
    some ((-1000000001), M3)) else (
    jn (fun (p5 : Int) (M7 : Mem) =>
    bnI (pTop_within x3 0 p5 M7) fun v9 M8 =>
    if v9 = 0 then (
    some ((-1000000001), M8)) else (
    if x2 = 0 then (
    bnI (pTop_exchange (100 + 2) 16 x1 x3 M8) fun v13 M12 =>
    some (v13, M12)) else (
    bnI (pTop_exchange (100 + 3) 16 x1 x3 M8) fun v11 M10 =>
    some (v11, M10)))) fun j6 =>
    if x2 = 0 then (
    j6 999 M3) else (
    j6 9999 M3)))
def rmX11_water : Room := { frames := 1, cells := 0, slots := 0, locals := 23 }
def pTop_person (x1 : Int) (x2 : Int) (x3 : Int) (M : Mem) : Option (Int × Mem) :=
    bnI (pCity_hasCell 100 x1 M) fun v2 M1 =>
    if v2 = 0 then (
    some ((-1000000001), M1)) else (
    bnI (pTop_within x2 0 99 M1) fun v4 M3 =>
    if v4 = 0 then (
    some ((-1000000001), M3)) else (
    bnI (pTop_within x3 0 3 M3) fun v6 M5 =>
    if v6 = 0 then (
    some ((-1000000001), M5)) else (
    if M5 (100 + 6) 0 = 20 then (
    some ((-1000000003), M5)) else (
    bnI (pPersons_addPerson 100 x1 x2 x3 M5) fun v8 M7 =>
    some (v8, M7)))))
def rmX11_person : Room := { frames := 1, cells := 0, slots := 0, locals := 23 }
def pTop_is (x1 : Int) (x2 : Int) (M : Mem) : Option (Int × Mem) :=
    bnI (pPersons_has 100 x1 M) fun v2 M1 =>
    if v2 = 0 then (
    some ((-1000000001), M1)) else (
    if x2 = 0 then (
    rdA (M1 (100 + 7)) 20 x1 fun v3 =>
    some (v3, M1)) else (
    if x2 = 1 then (
    rdA (M1 (100 + 8)) 20 x1 fun v5 =>
    some (v5, M1)) else (
    if x2 = 2 then (
    rdA (M1 (100 + 9)) 20 x1 fun v7 =>
    some (v7, M1)) else (
    if x2 = 3 then (
    rdA (M1 (100 + 10)) 20 x1 fun v9 =>
    some (v9, M1)) else (
    if x2 = 4 then (
    rdA (M1 (100 + 11)) 20 x1 fun v11 =>
    some (v11, M1)) else (
    if x2 = 5 then (
    some (bAnd (bShr (M1 (100 + 6) 9) x1) 1, M1)) else (
    if x2 = 6 then (
    rdA (M1 (100 + 14)) 2 0 fun v14 =>
    some (bAnd (bShr v14 x1) 1, M1)) else (
    if x2 = 7 then (
    rdA (M1 (100 + 14)) 2 1 fun v16 =>
    some (bAnd (bShr v16 x1) 1, M1)) else (
    some ((-1000000001), M1))))))))))
def rmX11_is : Room := { frames := 1, cells := 0, slots := 0, locals := 21 }
def pTop_be (x1 : Int) (x2 : Int) (x3 : Int) (M : Mem) : Option (Int × Mem) :=
    bnI (pPersons_has 100 x1 M) fun v2 M1 =>
    if v2 = 0 then (
    some ((-1000000001), M1)) else (
    bnI (pTop_within x2 1 2 M1) fun v4 M3 =>
    if v4 = 0 then (
    some ((-1000000001), M3)) else (
    jn (fun (p5 : Int) (M7 : Mem) =>
    bnI (pTop_within x3 0 p5 M7) fun v9 M8 =>
    if v9 = 0 then (
    some ((-1000000001), M8)) else (
    if x2 = 1 then (
    bnI (pTop_exchange (100 + 8) 20 x1 x3 M8) fun v13 M12 =>
    some (v13, M12)) else (
    bnI (pTop_exchange (100 + 9) 20 x1 x3 M8) fun v11 M10 =>
    some (v11, M10)))) fun j6 =>
    if x2 = 1 then (
    j6 99 M3) else (
    j6 3 M3)))
def rmX11_be : Room := { frames := 1, cells := 0, slots := 0, locals := 23 }
def pTop_die (x1 : Int) (M : Mem) : Option (Int × Mem) :=
    bnI (pPersons_has 100 x1 M) fun v2 M1 =>
    if v2 = 0 then (
    some ((-1000000001), M1)) else (
    bnI (pPersons_isDead 100 x1 M1) fun v4 M3 =>
    if v4 = 0 then (
    bnV (pCity_loses 100 x1 M3) fun M5 =>
    some (1, M5)) else (
    some ((-1000000002), M3)))
def rmX11_die : Room := { frames := 3, cells := 0, slots := 0, locals := 67 }
def pTop_tie (x1 : Int) (x2 : Int) (x3 : Int) (x4 : Int) (M : Mem) : Option (Int × Mem) :=
    bnI (pTop_within x1 0 5 M) fun v2 M1 =>
    if v2 = 0 then (
    some ((-1000000001), M1)) else (
    if x2 = x3 then (
    some ((-1000000001), M1)) else (
    bnI (pTies_fits x1 x4 M1) fun v4 M3 =>
    if v4 = 0 then (
    some ((-1000000001), M3)) else (
    jn (fun (p5 : Int) (M7 : Mem) =>
    if p5 = 0 then (
    some ((-1000000001), M7)) else (
    if M7 (100 + 15) 0 = 40 then (
    some ((-1000000003), M7)) else (
    bnI (pTies_addTie 100 x1 x2 x3 x4 M7) fun v9 M8 =>
    some (v9, M8)))) fun j6 =>
    if x1 = 5 then (
    bnI (pPersons_has 100 x2 M3) fun v17 M16 =>
    jn (fun  (M19 : Mem) =>
    j6 0 M19) fun j18 =>
    if v17 = 0 then (
    j18 M16) else (
    bnI (pPersons_has 100 x3 M16) fun v21 M20 =>
    if v21 = 0 then (
    j18 M20) else (
    j6 1 M20))) else (
    bnI (pCity_hasCell 100 x2 M3) fun v11 M10 =>
    jn (fun  (M13 : Mem) =>
    j6 0 M13) fun j12 =>
    if v11 = 0 then (
    j12 M10) else (
    bnI (pCity_hasCell 100 x3 M10) fun v15 M14 =>
    if v15 = 0 then (
    j12 M14) else (
    j6 1 M14))))))
def rmX11_tie : Room := { frames := 2, cells := 0, slots := 0, locals := 43 }
def pTop_pass (x1 : Int) (x2 : Int) (x3 : Int) (x4 : Int) (M : Mem) : Option (Int × Mem) :=
    bnI (pPersons_has 100 x1 M) fun v2 M1 =>
    if v2 = 0 then (
    some ((-1000000001), M1)) else (
    bnI (pPersons_has 100 x2 M1) fun v4 M3 =>
    if v4 = 0 then (
    some ((-1000000001), M3)) else (
    bnI (pCity_sideOf 100 x1 M3) fun v6 M5 =>
    bnI (pCity_sideOf 100 x2 M5) fun v8 M7 =>
    if v6 = v8 then (
    some ((-1000000001), M7)) else (
    bnI (pTop_within x3 1 99 M7) fun v10 M9 =>
    if v10 = 0 then (
    some ((-1000000001), M9)) else (
    if x4 < 0 then (
    some ((-1000000001), M9)) else (
    nm (w32 (Int.tdiv x4 1000)) fun v11 =>
    nm (w32 (Int.tmod x4 1000)) fun v12 =>
    if 416 < v11 then (
    some ((-1000000001), M9)) else (
    if 416 < v12 then (
    some ((-1000000001), M9)) else (
    if v12 < v11 then (
    some ((-1000000001), M9)) else (
    if M9 (100 + 15) 0 = 40 then (
    some ((-1000000003), M9)) else (
    bnI (pTies_addTie 100 6 x1 x2 x3 M9) fun v14 M13 =>
    wrA M13 (100 + 20) 40 v14 v11 fun M15 =>
    wrA M15 (100 + 21) 40 v14 v12 fun M16 =>
    some (v14, M16))))))))))
def rmX11_pass : Room := { frames := 1, cells := 0, slots := 0, locals := 24 }
def pTop_parcel (x1 : Int) (x2 : Int) (x3 : Int) (M : Mem) : Option (Int × Mem) :=
    bnI (pTies_isOf 100 x1 6 M) fun v2 M1 =>
    if v2 = 0 then (
    some ((-1000000001), M1)) else (
    bnI (pTop_within x2 1 99 M1) fun v4 M3 =>
    if v4 = 0 then (
    some ((-1000000001), M3)) else (
    bnI (pTop_within x3 0 7 M3) fun v6 M5 =>
    if v6 = 0 then (
    some ((-1000000001), M5)) else (
    rdA (M5 (100 + 22)) 40 x1 fun v7 =>
    if v7 = 0 then (
    if M5 (100 + 15) 0 = 40 then (
    some ((-1000000003), M5)) else (
    rdA (M5 (100 + 17)) 40 x1 fun v8 =>
    rdA (M5 (100 + 18)) 40 x1 fun v9 =>
    bnI (pTies_addTie 100 7 v8 v9 x2 M5) fun v11 M10 =>
    wrA M10 (100 + 24) 40 v11 x3 fun M12 =>
    wrA M12 (100 + 25) 40 v11 x1 fun M13 =>
    some (v11, M13))) else (
    some ((-1000000002), M5)))))
def rmX11_parcel : Room := { frames := 2, cells := 0, slots := 0, locals := 43 }
def pTop_told (x1 : Int) (x2 : Int) (M : Mem) : Option (Int × Mem) :=
    bnI (pTies_has 100 x1 M) fun v2 M1 =>
    if v2 = 0 then (
    some ((-1000000001), M1)) else (
    if x2 = 0 then (
    rdA (M1 (100 + 16)) 40 x1 fun v3 =>
    some (v3, M1)) else (
    if x2 = 1 then (
    rdA (M1 (100 + 17)) 40 x1 fun v5 =>
    some (v5, M1)) else (
    if x2 = 2 then (
    rdA (M1 (100 + 18)) 40 x1 fun v7 =>
    some (v7, M1)) else (
    if x2 = 3 then (
    rdA (M1 (100 + 19)) 40 x1 fun v9 =>
    some (v9, M1)) else (
    if x2 = 4 then (
    rdA (M1 (100 + 20)) 40 x1 fun v11 =>
    some (v11, M1)) else (
    if x2 = 5 then (
    rdA (M1 (100 + 21)) 40 x1 fun v13 =>
    some (v13, M1)) else (
    if x2 = 6 then (
    rdA (M1 (100 + 22)) 40 x1 fun v15 =>
    some (v15, M1)) else (
    if x2 = 7 then (
    rdA (M1 (100 + 24)) 40 x1 fun v17 =>
    some (v17, M1)) else (
    if x2 = 8 then (
    rdA (M1 (100 + 25)) 40 x1 fun v19 =>
    some (v19, M1)) else (
    if x2 = 9 then (
    bnI (pCity_waitingFor 100 x1 M1) fun v22 M21 =>
    some (v22, M21)) else (
    some ((-1000000001), M1))))))))))))
def rmX11_told : Room := { frames := 2, cells := 0, slots := 0, locals := 44 }
def pTop_as (x1 : Int) (x2 : Int) (M : Mem) : Option (Int × Mem) :=
    bnI (pTies_has 100 x1 M) fun v2 M1 =>
    if v2 = 0 then (
    some ((-1000000001), M1)) else (
    bnI (pTop_within x2 0 7 M1) fun v4 M3 =>
    if v4 = 0 then (
    some ((-1000000001), M3)) else (
    rdA (M3 (100 + 16)) 40 x1 fun v5 =>
    bnI (pTies_isUnder v5 x2 M3) fun v7 M6 =>
    if v7 = 0 then (
    some ((-1000000012), M6)) else (
    rdA (M6 (100 + 19)) 40 x1 fun v8 =>
    some (v8, M6))))
def rmX11_as : Room := { frames := 1, cells := 0, slots := 0, locals := 23 }
def pTop_change (x1 : Int) (x2 : Int) (M : Mem) : Option (Int × Mem) :=
    bnI (pTies_has 100 x1 M) fun v2 M1 =>
    if v2 = 0 then (
    some ((-1000000001), M1)) else (
    rdA (M1 (100 + 16)) 40 x1 fun v3 =>
    jn (fun  (M5 : Mem) =>
    bnI (pTies_fits v3 x2 M5) fun v7 M6 =>
    if v7 = 0 then (
    some ((-1000000001), M6)) else (
    bnI (pTop_exchange (100 + 19) 40 x1 x2 M6) fun v9 M8 =>
    some (v9, M8))) fun j4 =>
    if v3 = 1 then (
    j4 M1) else (
    if v3 = 3 then (
    j4 M1) else (
    if v3 = 4 then (
    j4 M1) else (
    if v3 = 5 then (
    j4 M1) else (
    some ((-1000000012), M1))))))
def rmX11_change : Room := { frames := 2, cells := 0, slots := 0, locals := 43 }
def pTop_gate (x1 : Int) (x2 : Int) (x3 : Int) (M : Mem) : Option (Int × Mem) :=
    bnI (pTies_has 100 x1 M) fun v2 M1 =>
    if v2 = 0 then (
    some ((-1000000001), M1)) else (
    bnI (pTop_within x2 0 23 M1) fun v4 M3 =>
    if v4 = 0 then (
    some ((-1000000001), M3)) else (
    bnI (pTop_within x3 0 23 M3) fun v6 M5 =>
    if v6 = 0 then (
    some ((-1000000001), M5)) else (
    rdA (M5 (100 + 16)) 40 x1 fun v7 =>
    if v7 = 1 then (
    wrA M5 (100 + 20) 40 x1 x2 fun M8 =>
    wrA M8 (100 + 21) 40 x1 x3 fun M9 =>
    some (1, M9)) else (
    some ((-1000000012), M5)))))
def rmX11_gate : Room := { frames := 1, cells := 0, slots := 0, locals := 22 }
def pTop_kinship (x1 : Int) (x2 : Int) (M : Mem) : Option (Int × Mem) :=
    bnI (pPersons_has 100 x1 M) fun v2 M1 =>
    if v2 = 0 then (
    some ((-1000000001), M1)) else (
    bnI (pPersons_has 100 x2 M1) fun v4 M3 =>
    if v4 = 0 then (
    some ((-1000000001), M3)) else (
    if x1 = x2 then (
    some ((-1000000001), M3)) else (
    bnI (pTies_kinOf 100 x1 x2 M3) fun v6 M5 =>
    some (v6, M5))))
def rmX11_kinship : Room := { frames := 3, cells := 0, slots := 0, locals := 69 }
def pTop_take (x1 : Int) (M : Mem) : Option (Int × Mem) :=
    bnI (pTies_isOf 100 x1 6 M) fun v2 M1 =>
    if v2 = 0 then (
    some ((-1000000001), M1)) else (
    rdA (M1 (100 + 22)) 40 x1 fun v3 =>
    if v3 = 0 then (
    bnV (pCity_closePass 100 x1 3 M1) fun M4 =>
    some (1, M4)) else (
    some ((-1000000002), M1)))
def rmX11_take : Room := { frames := 3, cells := 0, slots := 0, locals := 67 }
def pTop_why (x1 : Int) (M : Mem) : Option (Int × Mem) :=
    bnI (pTies_isOf 100 x1 6 M) fun v2 M1 =>
    if v2 = 0 then (
    some ((-1000000001), M1)) else (
    bnI (pCity_whyNot 100 x1 M1) fun v4 M3 =>
    some (v4, M3))
def rmX11_why : Room := { frames := 6, cells := 0, slots := 0, locals := 136 }
def pTop_ask (x1 : Int) (x2 : Int) (M : Mem) : Option (Int × Mem) :=
    bnI (pTies_isOf 100 x1 6 M) fun v2 M1 =>
    if v2 = 0 then (
    some ((-1000000001), M1)) else (
    bnI (pTies_isOf 100 x2 1 M1) fun v4 M3 =>
    if v4 = 0 then (
    some ((-1000000001), M3)) else (
    bnI (pCity_whyNot 100 x1 M3) fun v6 M5 =>
    if v6 = 0 then (
    rdA (M5 (100 + 17)) 40 x1 fun v7 =>
    bnV (pPersons_joinLine 100 v7 x2 x1 M5) fun M8 =>
    bnI (pPersons_linedAt 100 x2 M8) fun v10 M9 =>
    some (v10, M9)) else (
    some ((-1000000002), M5))))
def rmX11_ask : Room := { frames := 6, cells := 0, slots := 0, locals := 136 }
def pTop_letter (x1 : Int) (x2 : Int) (M : Mem) : Option (Int × Mem) :=
    bnI (pTop_isSide x1 M) fun v2 M1 =>
    if v2 = 0 then (
    some ((-1000000001), M1)) else (
    bnI (pTop_within x2 1 99 M1) fun v4 M3 =>
    if v4 = 0 then (
    some ((-1000000001), M3)) else (
    if M3 (100 + 30) 0 = 20 then (
    some ((-1000000003), M3)) else (
    rdA (M3 (100 + 14)) 2 x1 fun v5 =>
    bnI (pPost_addLetter 100 (w32 ((M3 100 0) + x2)) (w32 (1 - x1)) v5 M3) fun v7 M6 =>
    some (v7, M6))))
def rmX11_letter : Room := { frames := 1, cells := 0, slots := 0, locals := 23 }
def pTop_call (x1 : Int) (x2 : Int) (x3 : Int) (M : Mem) : Option (Int × Mem) :=
    bnI (pTies_isOf 100 x1 4 M) fun v2 M1 =>
    if v2 = 0 then (
    some ((-1000000001), M1)) else (
    bnI (pTop_within x2 0 9 M1) fun v4 M3 =>
    if v4 = 0 then (
    some ((-1000000001), M3)) else (
    bnI (pTop_within x3 1 99 M3) fun v6 M5 =>
    if v6 = 0 then (
    some ((-1000000001), M5)) else (
    if M5 (100 + 30) 4 = 20 then (
    some ((-1000000003), M5)) else (
    bnV (pPost_addCall 100 x1 x2 x3 M5) fun M7 =>
    bnI (pPost_callsFor 100 x1 M7) fun v9 M8 =>
    some (v9, M8)))))
def rmX11_call : Room := { frames := 2, cells := 0, slots := 0, locals := 43 }
def lpX11_run_33 (y1 : Int) : Nat → Int → Mem → Option (Int × Mem)
  | 0, _, _ => none
  | n + 1, u2, M =>
    if u2 < y1 then (
    bnV (pCity_passHour 100 M) fun M3 =>
    nm (w32 (u2 + 1)) fun v4 =>
    lpX11_run_33 y1 n v4 M3) else (
    some (M 100 0, M))
def pTop_run (x1 : Int) (M : Mem) : Option (Int × Mem) :=
    bnI (pTop_within x1 1 100 M) fun v2 M1 =>
    if v2 = 0 then (
    some ((-1000000001), M1)) else (
    if 9999 < w32 ((M1 100 0) + x1) then (
    some ((-1000000003), M1)) else (
    lpX11_run_33 x1 FU 0 M1))
def rmX11_run : Room := { frames := 5, cells := 0, slots := 0, locals := 128 }
def pTop_feed (x1 : Int) (x2 : Int) (x3 : Int) (M : Mem) : Option (Int × Mem) :=
    if 96 < w32 ((M 1 0) + 12) then (
    some ((-1000000003), M)) else (
    bnV (pTape_add x1 M) fun M1 =>
    bnV (pTape_add x2 M1) fun M2 =>
    bnV (pTape_add x3 M2) fun M3 =>
    some (M3 1 0, M3))
def rmX11_feed : Room := { frames := 1, cells := 0, slots := 0, locals := 22 }
def pTop_trim (x1 : Int) (M : Mem) : Option (Int × Mem) :=
    bnI (pTop_within x1 0 (M 1 0) M) fun v2 M1 =>
    if v2 = 0 then (
    some ((-1000000001), M1)) else (
    wrF M1 1 0 x1 fun M3 =>
    some (x1, M3))
def rmX11_trim : Room := { frames := 1, cells := 0, slots := 0, locals := 22 }
def pTop_text (x1 : Int) (x2 : Int) (M : Mem) : Option (Int × Mem) :=
    bnI (pTop_isSide x1 M) fun v2 M1 =>
    jn (fun (p3 : Int) (M5 : Mem) =>
    wrF M5 1 0 0 fun M6 =>
    if p3 = (-1000000001) then (
    some ((-1000000001), M6)) else (
    if p3 < 0 then (
    if M6 (100 + 37) 0 = 12 then (
    some ((-1000000003), M6)) else (
    bnI (pLaws_addText 100 x1 x2 M6) fun v8 M7 =>
    some (v8, M7))) else (
    some (w32 ((-100) - p3), M6)))) fun j4 =>
    jn (fun  (M10 : Mem) =>
    j4 (-1000000001) M10) fun j9 =>
    if v2 = 0 then (
    j9 M1) else (
    bnI (pTop_within x2 0 416 M1) fun v12 M11 =>
    if v12 = 0 then (
    j9 M11) else (
    bnI (pTape_parse M11) fun v14 M13 =>
    j4 v14 M13))
def rmX11_text : Room := { frames := 7, cells := 0, slots := 0, locals := 168 }
def pTop_of (x1 : Int) (x2 : Int) (M : Mem) : Option (Int × Mem) :=
    bnI (pLaws_has 100 x1 M) fun v2 M1 =>
    if v2 = 0 then (
    some ((-1000000001), M1)) else (
    if x2 = 0 then (
    rdA (M1 (100 + 38)) 12 x1 fun v3 =>
    some (v3, M1)) else (
    if x2 = 1 then (
    rdA (M1 (100 + 39)) 12 x1 fun v5 =>
    some (v5, M1)) else (
    if x2 = 2 then (
    rdA (M1 (100 + 40)) 12 x1 fun v7 =>
    some (v7, M1)) else (
    if x2 = 3 then (
    rdA (M1 (100 + 41)) 12 x1 fun v9 =>
    some (v9, M1)) else (
    if x2 = 4 then (
    rdA (M1 (100 + 42)) 12 x1 fun v11 =>
    some (v11, M1)) else (
    some ((-1000000001), M1)))))))
def rmX11_of : Room := { frames := 1, cells := 0, slots := 0, locals := 21 }
def pTop_strike (x1 : Int) (M : Mem) : Option (Int × Mem) :=
    bnI (pLaws_has 100 x1 M) fun v2 M1 =>
    if v2 = 0 then (
    some ((-1000000001), M1)) else (
    rdA (M1 (100 + 41)) 12 x1 fun v3 =>
    if v3 = (-1000000005) then (
    bnI (pCity_day 100 M1) fun v5 M4 =>
    wrA M4 (100 + 41) 12 x1 (w32 (v5 + 1)) fun M6 =>
    some (1, M6)) else (
    some ((-1000000002), M1)))
def rmX11_strike : Room := { frames := 1, cells := 0, slots := 0, locals := 21 }
def pTop_counts (x1 : Int) (x2 : Int) (M : Mem) : Option (Int × Mem) :=
    bnI (pTop_isSide x1 M) fun v2 M1 =>
    if v2 = 0 then (
    some ((-1000000001), M1)) else (
    bnI (pTop_within x2 0 4 M1) fun v4 M3 =>
    if v4 = 0 then (
    some ((-1000000001), M3)) else (
    bnI (pCity_lawOf 100 x1 x2 M3) fun v6 M5 =>
    some (v6, M5)))
def rmX11_counts : Room := { frames := 3, cells := 0, slots := 0, locals := 69 }
def pTop_may (x1 : Int) (x2 : Int) (M : Mem) : Option (Int × Mem) :=
    bnI (pTies_isOf 100 x1 6 M) fun v2 M1 =>
    if v2 = 0 then (
    some ((-1000000001), M1)) else (
    bnI (pTop_isSide x2 M1) fun v4 M3 =>
    if v4 = 0 then (
    some ((-1000000001), M3)) else (
    bnI (pCity_lets 100 x1 x2 M3) fun v6 M5 =>
    if v6 = 0 then (
    some (0, M5)) else (
    some (1, M5))))
def rmX11_may : Room := { frames := 5, cells := 0, slots := 0, locals := 114 }
def pTop_unlike (x1 : Int) (x2 : Int) (x3 : Int) (M : Mem) : Option (Int × Mem) :=
    bnI (pLaws_has 100 x1 M) fun v2 M1 =>
    if v2 = 0 then (
    some ((-1000000001), M1)) else (
    bnI (pLaws_has 100 x2 M1) fun v4 M3 =>
    if v4 = 0 then (
    some ((-1000000001), M3)) else (
    bnI (pTop_within x3 0 1 M3) fun v6 M5 =>
    if v6 = 0 then (
    some ((-1000000001), M5)) else (
    rdA (M5 (100 + 38)) 12 x1 fun v7 =>
    if v7 = 0 then (
    rdA (M5 (100 + 38)) 12 x2 fun v8 =>
    if v8 = 0 then (
    bnI (pCity_day 100 M5) fun v10 M9 =>
    bnI (pLaws_differ 100 x1 x2 x3 v10 M9) fun v12 M11 =>
    some (v12, M11)) else (
    some ((-1000000012), M5))) else (
    some ((-1000000012), M5)))))
def rmX11_unlike : Room := { frames := 4, cells := 0, slots := 0, locals := 99 }
def pTop_visits (x1 : Int) (M : Mem) : Option (Int × Mem) :=
    bnI (pTop_isSide x1 M) fun v2 M1 =>
    if v2 = 0 then (
    some ((-1000000001), M1)) else (
    bnI (pCity_lawOf 100 0 0 M1) fun v4 M3 =>
    bnI (pCity_lawOf 100 1 0 M3) fun v6 M5 =>
    bnI (pCity_visitsFrom 100 x1 v4 v6 M5) fun v8 M7 =>
    some (v8, M7))
def rmX11_visits : Room := { frames := 5, cells := 0, slots := 0, locals := 117 }
def pTop_changed (x1 : Int) (M : Mem) : Option (Int × Mem) :=
    bnI (pLaws_has 100 x1 M) fun v2 M1 =>
    if v2 = 0 then (
    some ((-1000000001), M1)) else (
    rdA (M1 (100 + 38)) 12 x1 fun v3 =>
    if v3 = 0 then (
    bnI (pCity_lawOf 100 0 0 M1) fun v5 M4 =>
    bnI (pCity_lawOf 100 1 0 M4) fun v7 M6 =>
    rdA (M6 (100 + 39)) 12 x1 fun v8 =>
    jn (fun (p9 : Int) (M11 : Mem) =>
    jn (fun (p12 : Int) (M14 : Mem) =>
    jn (fun (p15 : Int) (M17 : Mem) =>
    bnI (pCity_allVisits 100 p12 p15 M17) fun v19 M18 =>
    bnI (pCity_allVisits 100 v5 v7 M18) fun v21 M20 =>
    some (w32 (v19 - v21), M20)) fun j16 =>
    if p9 = 0 then (
    j16 x1 M14) else (
    j16 v7 M14)) fun j13 =>
    if p9 = 0 then (
    j13 v5 M11) else (
    j13 x1 M11)) fun j10 =>
    if v8 = 0 then (
    j10 1 M6) else (
    j10 0 M6)) else (
    some ((-1000000012), M1)))
def rmX11_changed : Room := { frames := 6, cells := 0, slots := 0, locals := 139 }
def pTop_house (x1 : Int) (x2 : Int) (x3 : Int) (x4 : Int) (M : Mem) : Option (Int × Mem) :=
    bnI (pTop_isSide x1 M) fun v2 M1 =>
    if v2 = 0 then (
    some ((-1000000001), M1)) else (
    bnI (pTop_within x2 0 99 M1) fun v4 M3 =>
    if v4 = 0 then (
    some ((-1000000001), M3)) else (
    bnI (pTop_within x3 0 99 M3) fun v6 M5 =>
    if v6 = 0 then (
    some ((-1000000001), M5)) else (
    bnI (pTop_within x4 0 99 M5) fun v8 M7 =>
    if v8 = 0 then (
    some ((-1000000001), M7)) else (
    bnI (pCity_lawOf 100 x1 3 M7) fun v10 M9 =>
    if v10 = (-1000000005) then (
    some (x1, M9)) else (
    bnV (pLaws_setNames 100 (w32 ((w32 (Int.tdiv x2 10)) - (w32 (Int.tmod x2 10)))) (w32 ((w32 (Int.tdiv x3 10)) - (w32 (Int.tmod x3 10)))) (w32 ((w32 (Int.tdiv x4 10)) - (w32 (Int.tmod x4 10)))) 0 M9) fun M11 =>
    bnI (pLaws_valueOf 100 v10 M11) fun v13 M12 =>
    if v13 = 0 then (
    some (x1, M12)) else (
    if 0 < v13 then (
    some (0, M12)) else (
    some (1, M12))))))))
def rmX11_house : Room := { frames := 3, cells := 0, slots := 0, locals := 69 }
def pTop_flow (x1 : Int) (M : Mem) : Option (Int × Mem) :=
    bnI (pTop_within x1 1 3 M) fun v2 M1 =>
    if v2 = 0 then (
    some ((-1000000001), M1)) else (
    bnI (pWater_greatest 100 x1 (-1000000005) M1) fun v4 M3 =>
    some (v4, M3))
def rmX11_flow : Room := { frames := 4, cells := 0, slots := 0, locals := 109 }
def pTop_lack (x1 : Int) (M : Mem) : Option (Int × Mem) :=
    bnI (pTop_isSide x1 M) fun v2 M1 =>
    if v2 = 0 then (
    some ((-1000000001), M1)) else (
    bnI (pCity_usesOf 100 x1 M1) fun v4 M3 =>
    bnI (pWater_greatest 100 (bShl 1 x1) (-1000000005) M3) fun v6 M5 =>
    some (w32 (v4 - v6), M5))
def rmX11_lack : Room := { frames := 4, cells := 0, slots := 0, locals := 109 }
def pTop_need (x1 : Int) (x2 : Int) (M : Mem) : Option (Int × Mem) :=
    bnI (pTies_has 100 x1 M) fun v2 M1 =>
    if v2 = 0 then (
    some ((-1000000001), M1)) else (
    bnI (pTop_isSide x2 M1) fun v4 M3 =>
    if v4 = 0 then (
    some ((-1000000001), M3)) else (
    rdA (M3 (100 + 16)) 40 x1 fun v5 =>
    if v5 = 3 then (
    bnI (pWater_greatest 100 (bShl 1 x2) (-1000000005) M3) fun v7 M6 =>
    bnI (pWater_greatest 100 (bShl 1 x2) x1 M6) fun v9 M8 =>
    some (w32 (v7 - v9), M8)) else (
    some ((-1000000012), M3))))
def rmX11_need : Room := { frames := 4, cells := 0, slots := 0, locals := 109 }
def pTop_stop (x1 : Int) (x2 : Int) (x3 : Int) (M : Mem) : Option (Int × Mem) :=
    bnI (pTies_has 100 x1 M) fun v2 M1 =>
    if v2 = 0 then (
    some ((-1000000001), M1)) else (
    bnI (pCity_hasCell 100 x2 M1) fun v4 M3 =>
    if v4 = 0 then (
    some ((-1000000001), M3)) else (
    bnI (pTop_within x3 0 59 M3) fun v6 M5 =>
    if v6 = 0 then (
    some ((-1000000001), M5)) else (
    rdA (M5 (100 + 16)) 40 x1 fun v7 =>
    if v7 = 2 then (
    rdA (M5 (100 + 26)) 40 x1 fun v8 =>
    if v8 = 8 then (
    some ((-1000000003), M5)) else (
    bnI (pTies_addStop 100 x1 x2 x3 M5) fun v10 M9 =>
    some (v10, M9))) else (
    some ((-1000000012), M5)))))
def rmX11_stop : Room := { frames := 1, cells := 0, slots := 0, locals := 24 }
def pTop_train (x1 : Int) (x2 : Int) (x3 : Int) (x4 : Int) (M : Mem) : Option (Int × Mem) :=
    bnI (pTies_has 100 x1 M) fun v2 M1 =>
    if v2 = 0 then (
    some ((-1000000001), M1)) else (
    bnI (pTop_within x2 0 59 M1) fun v4 M3 =>
    if v4 = 0 then (
    some ((-1000000001), M3)) else (
    bnI (pTop_within x4 0 1 M3) fun v6 M5 =>
    if v6 = 0 then (
    some ((-1000000001), M5)) else (
    rdA (M5 (100 + 16)) 40 x1 fun v7 =>
    if v7 = 2 then (
    rdA (M5 (100 + 26)) 40 x1 fun v8 =>
    bnI (pTop_within x3 0 (w32 (v8 - 1)) M5) fun v10 M9 =>
    if v10 = 0 then (
    some ((-1000000005), M9)) else (
    bnI (pCity_ride 100 x1 x2 x3 x4 M9) fun v12 M11 =>
    some (v12, M11))) else (
    some ((-1000000012), M5)))))
def rmX11_train : Room := { frames := 5, cells := 0, slots := 0, locals := 121 }
def pTop_file (x1 : Int) (x2 : Int) (x3 : Int) (M : Mem) : Option (Int × Mem) :=
    bnI (pTop_isSide x1 M) fun v2 M1 =>
    if v2 = 0 then (
    some ((-1000000001), M1)) else (
    bnI (pTop_within x2 0 9999 M1) fun v4 M3 =>
    if v4 = 0 then (
    some ((-1000000001), M3)) else (
    bnI (pTop_within x3 0 99 M3) fun v6 M5 =>
    if v6 = 0 then (
    some ((-1000000001), M5)) else (
    rdA (M5 (100 + 48)) 2 x1 fun v7 =>
    if v7 = 10 then (
    some ((-1000000003), M5)) else (
    bnI (pFiles_addFile 100 x1 x2 x3 M5) fun v9 M8 =>
    some (v9, M8)))))
def rmX11_file : Room := { frames := 1, cells := 0, slots := 0, locals := 24 }
def pTop_alike (x1 : Int) (x2 : Int) (M : Mem) : Option (Int × Mem) :=
    bnI (pFiles_has 100 0 x1 M) fun v2 M1 =>
    if v2 = 0 then (
    some ((-1000000001), M1)) else (
    bnI (pFiles_has 100 1 x2 M1) fun v4 M3 =>
    if v4 = 0 then (
    some ((-1000000001), M3)) else (
    bnI (pFiles_likeness 100 x1 x2 M3) fun v6 M5 =>
    some (v6, M5)))
def rmX11_alike : Room := { frames := 3, cells := 0, slots := 0, locals := 87 }
def pTop_pairing (x1 : Int) (M : Mem) : Option (Int × Mem) :=
    rdA (M (100 + 48)) 2 0 fun v1 =>
    bnI (pTop_within x1 0 (w32 (1 + v1)) M) fun v3 M2 =>
    if v3 = 0 then (
    some ((-1000000001), M2)) else (
    bnV (pFiles_findPairs 100 M2) fun M4 =>
    if x1 < 2 then (
    rdA (M4 (100 + 51)) 3 (w32 (2 - x1)) fun v6 =>
    some (v6, M4)) else (
    rdA (M4 (100 + 52)) 10 (w32 (x1 - 2)) fun v5 =>
    some (v5, M4)))
def rmX11_pairing : Room := { frames := 6, cells := 1, slots := 11264, locals := 161 }
def pTop_meter (x1 : Int) (x2 : Int) (x3 : Int) (M : Mem) : Option (Int × Mem) :=
    bnI (pTop_isSide x1 M) fun v2 M1 =>
    if v2 = 0 then (
    some ((-1000000001), M1)) else (
    bnI (pTop_within x2 (-1) 1 M1) fun v4 M3 =>
    if v4 = 0 then (
    some ((-1000000001), M3)) else (
    jn (fun  (M6 : Mem) =>
    jn (fun  (M8 : Mem) =>
    jn (fun (p9 : Int) (M11 : Mem) =>
    bnI (pMeters_renew x1 x2 p9 M11) fun v13 M12 =>
    some (v13, M12)) fun j10 =>
    if x2 < 0 then (
    j10 0 M8) else (
    j10 x3 M8)) fun j7 =>
    if x2 < 0 then (
    j7 M6) else (
    if x3 < 0 then (
    some ((-1000000014), M6)) else (
    j7 M6))) fun j5 =>
    if x2 < 0 then (
    j5 M3) else (
    if 30 < x3 then (
    some ((-1000000001), M3)) else (
    j5 M3))))
def rmX11_meter : Room := { frames := 3, cells := 0, slots := 0, locals := 69 }
def pTop_put (x1 : Int) (x2 : Int) (x3 : Int) (M : Mem) : Option (Int × Mem) :=
    bnI (pTop_isSide x1 M) fun v2 M1 =>
    if v2 = 0 then (
    some ((-1000000001), M1)) else (
    bnI (pMeters_finding x1 x2 M1) fun v4 M3 =>
    if v4 = 0 then (
    rdA (M3 6) 2 x1 fun v5 =>
    jn (fun (p6 : Int) (M8 : Mem) =>
    jn (fun  (M10 : Mem) =>
    jn (fun  (M12 : Mem) =>
    wrA M12 8 60 (w32 ((w32 (x1 * 30)) + x2)) x3 fun M13 =>
    some (1, M13)) fun j11 =>
    if p6 = 0 then (
    if x3 = (-1000000005) then (
    j11 M10) else (
    bnI (pTop_within x3 (-100000) 100000 M10) fun v15 M14 =>
    if v15 = 0 then (
    some ((-1000000001), M14)) else (
    j11 M14))) else (
    j11 M10)) fun j9 =>
    if p6 = 0 then (
    j9 M8) else (
    if x3 = (-1000000005) then (
    some ((-1000000012), M8)) else (
    j9 M8))) fun j7 =>
    if v5 = 0 then (
    j7 1 M3) else (
    j7 0 M3)) else (
    some (v4, M3)))
def rmX11_put : Room := { frames := 1, cells := 0, slots := 0, locals := 22 }
def pTop_read (x1 : Int) (x2 : Int) (M : Mem) : Option (Int × Mem) :=
    bnI (pTop_isSide x1 M) fun v2 M1 =>
    if v2 = 0 then (
    some ((-1000000001), M1)) else (
    bnI (pMeters_finding x1 x2 M1) fun v4 M3 =>
    if v4 = 0 then (
    bnI (pMeters_lastTold x1 x2 M3) fun v6 M5 =>
    if v6 < 0 then (
    some ((-1000000012), M5)) else (
    rdA (M5 8) 60 (w32 ((w32 (x1 * 30)) + v6)) fun v7 =>
    some (v7, M5))) else (
    some (v4, M3)))
def rmX11_read : Room := { frames := 1, cells := 0, slots := 0, locals := 23 }
def pTop_copy (x1 : Int) (x2 : Int) (x3 : Int) (x4 : Int) (x5 : Int) (M : Mem) : Option (Int × Mem) :=
    bnI (pTop_isSide x1 M) fun v2 M1 =>
    if v2 = 0 then (
    some ((-1000000001), M1)) else (
    bnI (pTop_isSide x3 M1) fun v4 M3 =>
    if v4 = 0 then (
    some ((-1000000001), M3)) else (
    rdA (M3 6) 2 x1 fun v5 =>
    if v5 < 0 then (
    some ((-1000000011), M3)) else (
    rdA (M3 6) 2 x3 fun v6 =>
    if v6 < 0 then (
    some ((-1000000011), M3)) else (
    rdA (M3 6) 2 x1 fun v7 =>
    rdA (M3 6) 2 x3 fun v8 =>
    if v7 = v8 then (
    bnI (pMeters_holds x1 x2 x5 M3) fun v10 M9 =>
    if v10 = 0 then (
    some ((-1000000013), M9)) else (
    bnI (pMeters_holds x3 x4 x5 M9) fun v12 M11 =>
    if v12 = 0 then (
    some ((-1000000013), M11)) else (
    cpA M11 8 60 (w32 ((w32 (x1 * 30)) + x2)) 8 60 (w32 ((w32 (x3 * 30)) + x4)) x5 fun M13 =>
    some (x5, M13)))) else (
    some ((-1000000012), M3))))))
def rmX11_copy : Room := { frames := 2, cells := 0, slots := 0, locals := 60 }
def pTop_wrong (x1 : Int) (x2 : Int) (M : Mem) : Option (Int × Mem) :=
    bnI (pTop_isSide x1 M) fun v2 M1 =>
    if v2 = 0 then (
    some ((-1000000001), M1)) else (
    jn (fun  (M4 : Mem) =>
    bnI (pTop_exchange (100 + 4) 2 x1 x2 M4) fun v6 M5 =>
    some (v6, M5)) fun j3 =>
    if x2 = (-1000000005) then (
    j3 M1) else (
    bnI (pTop_within x2 0 29 M1) fun v8 M7 =>
    if v8 = 0 then (
    some ((-1000000001), M7)) else (
    j3 M7)))
def rmX11_wrong : Room := { frames := 1, cells := 0, slots := 0, locals := 23 }
def pTop_owed (x1 : Int) (M : Mem) : Option (Int × Mem) :=
    bnI (pTop_within x1 0 29 M) fun v2 M1 =>
    if v2 = 0 then (
    some ((-1000000001), M1)) else (
    bnI (pMeters_sumOwed 100 x1 M1) fun v4 M3 =>
    if cmpZ v4 4000000000 = 0 then (
    some ((-1000000005), M3)) else (
    some (w32 v4, M3)))
def rmX11_owed : Room := { frames := 4, cells := 0, slots := 0, locals := 112 }
def pTop_coin (x1 : Int) (x2 : Int) (M : Mem) : Option (Int × Mem) :=
    bnI (pTop_isSide x1 M) fun v2 M1 =>
    if v2 = 0 then (
    some ((-1000000001), M1)) else (
    bnI (pTop_within x2 0 29 M1) fun v4 M3 =>
    if v4 = 0 then (
    some ((-1000000001), M3)) else (
    bnI (pMeters_sumOwed 100 x2 M3) fun v6 M5 =>
    if cmpZ v6 4000000000 = 0 then (
    some ((-1000000005), M5)) else (
    bnI (pCity_lawOf 100 x1 4 M5) fun v8 M7 =>
    if v8 = (-1000000005) then (
    some (0, M7)) else (
    bnV (pLaws_setNames 100 (w32 v6) 0 0 0 M7) fun M9 =>
    bnI (pLaws_valueOf 100 v8 M9) fun v11 M10 =>
    some (v11, M10)))))
def rmX11_coin : Room := { frames := 4, cells := 0, slots := 0, locals := 112 }
def pTop_rule (x1 : Int) (x2 : Int) (M : Mem) : Option (Int × Mem) :=
    bnI (pTop_within x1 0 1 M) fun v2 M1 =>
    if v2 = 0 then (
    some ((-1000000001), M1)) else (
    jn (fun (p3 : Int) (M5 : Mem) =>
    bnI (pTop_within x2 0 p3 M5) fun v7 M6 =>
    if v7 = 0 then (
    some ((-1000000001), M6)) else (
    bnI (pTop_exchange (100 + 5) 2 x1 x2 M6) fun v9 M8 =>
    some (v9, M8))) fun j4 =>
    if x1 = 0 then (
    j4 100 M1) else (
    j4 999 M1))
def rmX11_rule : Room := { frames := 1, cells := 0, slots := 0, locals := 23 }
def pTop_feast (x1 : Int) (x2 : Int) (x3 : Int) (M : Mem) : Option (Int × Mem) :=
    bnI (pTop_within x1 0 7 M) fun v2 M1 =>
    if v2 = 0 then (
    some ((-1000000001), M1)) else (
    bnI (pTop_within x2 0 12 M1) fun v4 M3 =>
    if v4 = 0 then (
    some ((-1000000001), M3)) else (
    bnI (pTop_within x3 0 99 M3) fun v6 M5 =>
    if v6 = 0 then (
    some ((-1000000001), M5)) else (
    bnI (pTop_exchange (100 + 54) 104 (w32 ((w32 (x1 * 13)) + x2)) x3 M5) fun v8 M7 =>
    some (v8, M7))))
def rmX11_feast : Room := { frames := 1, cells := 0, slots := 0, locals := 23 }
def pTop_waiting (x1 : Int) (M : Mem) : Option (Int × Mem) :=
    bnI (pTop_within x1 1 255 M) fun v2 M1 =>
    if v2 = 0 then (
    some ((-1000000001), M1)) else (
    bnI (pFeast_waitOf 100 x1 M1) fun v4 M3 =>
    some (v4, M3))
def rmX11_waiting : Room := { frames := 3, cells := 0, slots := 0, locals := 84 }
def pTop_gates (x1 : Int) (M : Mem) : Option (Int × Mem) :=
    bnI (pTop_within x1 1 8 M) fun v2 M1 =>
    if v2 = 0 then (
    some ((-1000000001), M1)) else (
    bnI (pFeast_bestSet 100 x1 M1) fun v4 M3 =>
    some (v4, M3))
def rmX11_gates : Room := { frames := 4, cells := 0, slots := 0, locals := 110 }
def pTop_clause (x1 : Int) (x2 : Int) (x3 : Int) (M : Mem) : Option (Int × Mem) :=
    bnI (pTop_within x1 (-99) 99 M) fun v2 M1 =>
    if v2 = 0 then (
    some ((-1000000001), M1)) else (
    bnI (pTop_within x2 (-99) 99 M1) fun v4 M3 =>
    if v4 = 0 then (
    some ((-1000000001), M3)) else (
    bnI (pTop_within x3 0 99 M3) fun v6 M5 =>
    if v6 = 0 then (
    some ((-1000000001), M5)) else (
    if M5 (100 + 57) 0 = 7 then (
    some ((-1000000003), M5)) else (
    bnI (pClauses_addClause 100 x1 x2 x3 M5) fun v8 M7 =>
    some (v8, M7)))))
def rmX11_clause : Room := { frames := 1, cells := 0, slots := 0, locals := 23 }
def pTop_plan (x1 : Int) (x2 : Int) (M : Mem) : Option (Int × Mem) :=
    bnI (pTop_within x1 1 999 M) fun v2 M1 =>
    if v2 = 0 then (
    some ((-1000000001), M1)) else (
    bnI (pTop_within x2 1 20000 M1) fun v4 M3 =>
    if v4 = 0 then (
    some ((-1000000001), M3)) else (
    rdA (M3 (100 + 5)) 2 1 fun v5 =>
    bnI (pClauses_soonest 100 x1 x2 v5 M3) fun v7 M6 =>
    some (v7, M6)))
def rmX11_plan : Room := { frames := 26, cells := 0, slots := 0, locals := 690 }
def pTop_planned (x1 : Int) (x2 : Int) (M : Mem) : Option (Int × Mem) :=
    bnI (pTop_within x1 1 999 M) fun v2 M1 =>
    if v2 = 0 then (
    some ((-1000000001), M1)) else (
    if x2 < 0 then (
    some ((-1000000001), M1)) else (
    rdA (M1 (100 + 5)) 2 1 fun v3 =>
    bnI (pClauses_soonest 100 x1 20000 v3 M1) fun v5 M4 =>
    if v5 < 0 then (
    some (v5, M4)) else (
    if x2 < v5 then (
    rdA (M4 (100 + 61)) 7 x2 fun v6 =>
    some (v6, M4)) else (
    some ((-1000000005), M4)))))
def rmX11_planned : Room := { frames := 26, cells := 0, slots := 0, locals := 690 }
def pTop_tell (x1 : Int) (M : Mem) : Option (Int × Mem) :=
    if M 0 8 = 60 then (
    some ((-1000000003), M)) else (
    wrF M 0 8 (w32 ((M 0 8) + 1)) fun M1 =>
    wrA M1 13 60 (M 0 8) x1 fun M2 =>
    some (M2 0 8, M2))
def rmX11_tell : Room := { frames := 0, cells := 0, slots := 0, locals := 0 }
def lpX11_orderRows_29 (y2 : Int) (k95 : Mem → Option (Int × Mem)) : Nat → Int → Int → Mem → Option (Int × Mem)
  | 0, _, _, _ => none
  | n + 1, u3, u4, M =>
    if u4 < y2 then (
    rdA (M (100 + 61)) 7 u4 fun v4 =>
    rdA (M (100 + 60)) 7 v4 fun v5 =>
    nm (w32 (u3 + v5)) fun v6 =>
    wrA M 14 60 (w32 (2 * u4)) v4 fun M7 =>
    wrA M7 14 60 (w32 ((w32 (2 * u4)) + 1)) v6 fun M8 =>
    nm (w32 (u4 + 1)) fun v9 =>
    lpX11_orderRows_29 y2 k95 n v6 v9 M8) else (
    k95 M)
def pTop_orderRows (x1 : Int) (M : Mem) : Option (Int × Mem) :=
    rdA (M (100 + 5)) 2 1 fun v1 =>
    bnI (pClauses_soonest 100 x1 20000 v1 M) fun v3 M2 =>
    lpX11_orderRows_29 v3 (fun M10 =>
    if v3 < 0 then (
    some (v3, M10)) else (
    some (w32 (2 * v3), M10))) FU 0 0 M2
def rmX11_orderRows : Room := { frames := 26, cells := 0, slots := 0, locals := 690 }
def lpX11_dayRows_23 (y1 : Int) : Nat → Int → Mem → Option (Int × Mem)
  | 0, _, _ => none
  | n + 1, u2, M =>
    if u2 < y1 then (
    bnV (pCity_passHour 300 M) fun M2 =>
    wrA M2 14 60 (w32 (2 * u2)) (M2 (300 + 6) 8) fun M3 =>
    bnI (pCity_visitors 300 M3) fun v5 M4 =>
    wrA M4 14 60 (w32 ((w32 (2 * u2)) + 1)) v5 fun M6 =>
    nm (w32 (u2 + 1)) fun v7 =>
    lpX11_dayRows_23 y1 n v7 M6) else (
    some (w32 (2 * y1), M))
def pTop_dayRows (x1 : Int) (M : Mem) : Option (Int × Mem) :=
    if M 0 3 = 0 then (
    some ((-1000000002), M)) else (
    bnV (pCity_become 300 200 M) fun M1 =>
    lpX11_dayRows_23 x1 FU 0 M1)
def rmX11_dayRows : Room := { frames := 5, cells := 0, slots := 0, locals := 128 }
def lpX11_firstOff_2 (y1 : Int) (y2 : Int) (k37 : Mem → Option (Int × Mem)) : Nat → Int → Mem → Option (Int × Mem)
  | 0, _, _ => none
  | n + 1, u3, M =>
    if u3 < y1 then (
    if u3 < y2 then (
    rdA (M 13) 60 u3 fun v1 =>
    rdA (M 14) 60 u3 fun v2 =>
    if v1 = v2 then (
    nm (w32 (u3 + 1)) fun v3 =>
    lpX11_firstOff_2 y1 y2 k37 n v3 M) else (
    some (w32 (1 + u3), M))) else (
    k37 M)) else (
    k37 M)
def pTop_firstOff (x1 : Int) (x2 : Int) (M : Mem) : Option (Int × Mem) :=
    lpX11_firstOff_2 x1 x2 (fun M4 =>
    if x1 = x2 then (
    some (0, M4)) else (
    some (w32 (1 + (zmin x1 x2)), M4))) FU 0 M
def rmX11_firstOff : Room := { frames := 2, cells := 0, slots := 0, locals := 60 }
def pTop_check (x1 : Int) (x2 : Int) (M : Mem) : Option (Int × Mem) :=
    nm (M 0 8) fun v1 =>
    wrF M 0 8 0 fun M2 =>
    bnI (pTop_within x1 0 1 M2) fun v4 M3 =>
    if v4 = 0 then (
    some ((-1000000001), M3)) else (
    jn (fun (p5 : Int) (M7 : Mem) =>
    bnI (pTop_within x2 1 p5 M7) fun v9 M8 =>
    if v9 = 0 then (
    some ((-1000000001), M8)) else (
    jn (fun (p10 : Int) (M12 : Mem) =>
    if p10 < 0 then (
    some (p10, M12)) else (
    bnI (pTop_firstOff v1 p10 M12) fun v14 M13 =>
    some (v14, M13))) fun j11 =>
    if x1 = 0 then (
    bnI (pTop_orderRows x2 M8) fun v18 M17 =>
    j11 v18 M17) else (
    bnI (pTop_dayRows x2 M8) fun v16 M15 =>
    j11 v16 M15))) fun j6 =>
    if x1 = 0 then (
    j6 999 M3) else (
    j6 24 M3))
def rmX11_check : Room := { frames := 27, cells := 0, slots := 0, locals := 715 }
def pTop_keep (M : Mem) : Option (Int × Mem) :=
    bnV (pCity_become 200 100 M) fun M1 =>
    wrF M1 0 3 1 fun M2 =>
    some (M2 100 0, M2)
def rmX11_keep : Room := { frames := 5, cells := 0, slots := 0, locals := 123 }
def pTop_back (M : Mem) : Option (Int × Mem) :=
    if M 0 3 = 0 then (
    some ((-1000000002), M)) else (
    bnV (pCity_become 100 200 M) fun M1 =>
    some (M1 100 0, M1))
def rmX11_back : Room := { frames := 5, cells := 0, slots := 0, locals := 123 }
def pTop_count (x1 : Int) (M : Mem) : Option (Int × Mem) :=
    if x1 = 0 then (
    some (M 100 1, M)) else (
    if x1 = 1 then (
    some (M (100 + 6) 0, M)) else (
    if x1 = 2 then (
    bnI (j_bitCount_0f7a4 (M (100 + 6) 9) M) fun v4 M3 =>
    some (v4, M3)) else (
    if x1 = 3 then (
    some (M (100 + 6) 8, M)) else (
    if x1 = 4 then (
    some (M (100 + 15) 0, M)) else (
    if x1 = 5 then (
    bnI (pTies_openPasses 100 M) fun v9 M8 =>
    some (v9, M8)) else (
    if x1 = 6 then (
    some (M (100 + 37) 0, M)) else (
    if x1 = 7 then (
    some (M (100 + 30) 0, M)) else (
    if x1 = 8 then (
    some (M (100 + 30) 4, M)) else (
    if x1 = 9 then (
    some (M (100 + 57) 0, M)) else (
    if x1 = 10 then (
    some (M 0 8, M)) else (
    if x1 = 11 then (
    some (M 1 0, M)) else (
    if x1 = 12 then (
    some (M 100 0, M)) else (
    if x1 = 13 then (
    rdA (M (100 + 48)) 2 0 fun v18 =>
    some (v18, M)) else (
    if x1 = 14 then (
    rdA (M (100 + 48)) 2 1 fun v20 =>
    some (v20, M)) else (
    some ((-1000000001), M))))))))))))))))
def rmX11_count : Room := { frames := 1, cells := 0, slots := 0, locals := 22 }
