def rmX12_seek (d : Nat) : Room := { frames := 5 + 1 * d, cells := 0, slots := 0, locals := 100 + 40 * d }
def RcX12_seek (l : Launch) (G : Gx) (K : Kx) (rc : Int → Int → Int → Int → Int → Int → Mem → Option (Mem)) (d : Nat) : Prop := ∀ (x1 : Int) (x2 : Int) (x3 : Int) (x4 : Int) (x5 : Int) (x6 : Int) (M : Mem) (res : Mem), OkM M → okS [aR 0, aI x1, aI x2, aI x3, aI x4, aI x5, aI x6] → rc x1 x2 x3 x4 x5 x6 M = some res → Ct l G K yX12_seek (wsM yX12_seek cX12_seek 10 none) (rmX12_seek d) [aR 0, aI x1, aI x2, aI x3, aI x4, aI x5, aI x6] M none res
def rmX12_part0 (d : Nat) : Room := { frames := 10 + 8 * d, cells := 0, slots := 0, locals := 300 + 250 * d }
def RcX12_part0 (l : Launch) (G : Gx) (K : Kx) (rc : Int → Mem → Option (Int × Mem)) (d : Nat) : Prop := ∀ (x1 : Int) (M : Mem) (res : Int × Mem), OkM M → okS [aR 0, aI x1] → rc x1 M = some res → Ct l G K yX12_part0 (wsM yX12_part0 cX12_part0 2 (some .boolean)) (rmX12_part0 d) [aR 0, aI x1] M (some (aI res.1)) res.2
def rM_isIn (x0 : Int) (x2 : Int) (x4 : Int) (M : Mem) : Option (Int × Mem) :=
    if cmpZ x0 x2 < 0 then (
    some (0, M)) else (
    if 0 < cmpZ x0 x4 then (
    some (0, M)) else (
    some (1, M)))
def rmX12_isIn : Room := { frames := 0, cells := 0, slots := 0, locals := 0 }
def rM_isLetter (x1 : Int) (M : Mem) : Option (Int × Mem) :=
    if x1 < M 0 9 then (
    rdA (M 8) 96 x1 fun v1 =>
    bnI (rM_isIn v1 97 122 M) fun v3 M2 =>
    if v3 = 0 then (
    some (0, M2)) else (
    some (1, M2))) else (
    some (0, M))
def rmX12_isLetter : Room := { frames := 1, cells := 0, slots := 0, locals := 25 }
def rM_isDigit (x1 : Int) (M : Mem) : Option (Int × Mem) :=
    if x1 < M 0 9 then (
    rdA (M 8) 96 x1 fun v1 =>
    bnI (rM_isIn v1 48 57 M) fun v3 M2 =>
    if v3 = 0 then (
    some (0, M2)) else (
    some (1, M2))) else (
    some (0, M))
def rmX12_isDigit : Room := { frames := 1, cells := 0, slots := 0, locals := 25 }
def lpX12_next_34 (y1 : Int) (y2 : Int) (k72 : Mem → Option (Mem)) : Nat → Mem → Option (Mem)
  | 0, _ => none
  | n + 1, M =>
    if M 0 11 < M 0 9 then (
    rdA (M 8) 96 (M 0 11) fun v5 =>
    if v5 = 32 then (
    wrF M 0 11 (w32 ((M 0 11) + 1)) fun M6 =>
    lpX12_next_34 y1 y2 k72 n M6) else (
    k72 M)) else (
    k72 M)
def lpX12_next_214 (y1 : Int) (k282 : Mem → Option (Mem)) : Nat → Mem → Option (Mem)
  | 0, _ => none
  | n + 1, M =>
    bnI (rM_isDigit (M 0 11) M) fun v22 M21 =>
    if v22 = 0 then (
    k282 M21) else (
    jn (fun (p23 : Int) (M25 : Mem) =>
    wrF M25 0 13 p23 fun M26 =>
    wrF M26 0 11 (w32 ((M26 0 11) + 1)) fun M27 =>
    lpX12_next_214 y1 k282 n M27) fun j24 =>
    if w32 ((M21 0 11) - (M21 0 10)) < 4 then (
    rdA (M21 8) 96 (M21 0 11) fun v28 =>
    j24 (w32 ((w32 ((w32 (10 * (M21 0 13))) + v28)) - 48)) M21) else (
    j24 (M21 0 13) M21))
def lpX12_next_128 (y1 : Int) (k152 : Mem → Option (Mem)) : Nat → Mem → Option (Mem)
  | 0, _ => none
  | n + 1, M =>
    bnI (rM_isLetter (M 0 11) M) fun v35 M34 =>
    if v35 = 0 then (
    k152 M34) else (
    wrF M34 0 11 (w32 ((M34 0 11) + 1)) fun M36 =>
    lpX12_next_128 y1 k152 n M36)
def rM_next (M : Mem) : Option (Mem) :=
    jn (fun (p1 : Int) (M3 : Mem) =>
    nm (M3 0 11) fun v4 =>
    lpX12_next_34 p1 v4 (fun M7 =>
    jn (fun (p8 : Int) (M10 : Mem) =>
    wrF M10 0 10 (M10 0 11) fun M11 =>
    if M11 0 10 = M11 0 9 then (
    wrF M11 0 12 0 fun M47 =>
    some M47) else (
    bnI (rM_isLetter (M11 0 10) M11) fun v13 M12 =>
    if v13 = 0 then (
    bnI (rM_isDigit (M12 0 10) M12) fun v15 M14 =>
    if v15 = 0 then (
    wrF M14 0 12 3 fun M16 =>
    rdA (M16 8) 96 (M16 0 10) fun v17 =>
    wrF M16 0 14 v17 fun M18 =>
    wrF M18 0 11 (w32 ((M18 0 11) + 1)) fun M19 =>
    some M19) else (
    wrF M14 0 13 0 fun M20 =>
    lpX12_next_214 p8 (fun M29 =>
    jn (fun (p30 : Int) (M32 : Mem) =>
    wrF M32 0 12 p30 fun M33 =>
    some M33) fun j31 =>
    if p8 = 0 then (
    if 4 < w32 ((M29 0 11) - (M29 0 10)) then (
    j31 4 M29) else (
    j31 2 M29)) else (
    j31 4 M29)) FU M20)) else (
    lpX12_next_128 p8 (fun M37 =>
    jn (fun (p38 : Int) (M40 : Mem) =>
    wrF M40 0 12 p38 fun M41 =>
    jn (fun (p42 : Int) (M44 : Mem) =>
    wrF M44 0 14 p42 fun M45 =>
    some M45) fun j43 =>
    if w32 ((M41 0 11) - (M41 0 10)) = 1 then (
    rdA (M41 8) 96 (M41 0 10) fun v46 =>
    j43 v46 M41) else (
    j43 0 M41)) fun j39 =>
    if p8 = 0 then (
    j39 1 M37) else (
    j39 4 M37)) FU M12))) fun j9 =>
    jn (fun (M49 : Mem) =>
    j9 0 M49) fun j48 =>
    if p1 = 0 then (
    j48 M7) else (
    if v4 = M7 0 11 then (
    j9 1 M7) else (
    j48 M7))) FU M3) fun j2 =>
    jn (fun  (M51 : Mem) =>
    j2 0 M51) fun j50 =>
    if 0 < M 0 11 then (
    jn (fun  (M53 : Mem) =>
    j2 1 M53) fun j52 =>
    if M 0 12 = 1 then (
    j52 M) else (
    if M 0 12 = 2 then (
    j52 M) else (
    j50 M))) else (
    j50 M)
def rmX12_next : Room := { frames := 2, cells := 0, slots := 0, locals := 46 }
def rM_isSign (x1 : Int) (M : Mem) : Option (Int × Mem) :=
    if M 0 12 = 3 then (
    if M 0 14 = x1 then (
    some (1, M)) else (
    some (0, M))) else (
    some (0, M))
def rmX12_isSign : Room := { frames := 0, cells := 0, slots := 0, locals := 0 }
def rM_isName (x0 : Int) (x1 : Int) (M : Mem) : Option (Int × Mem) :=
    if x0 = 0 then (
    if x1 = 97 then (
    some (1, M)) else (
    if x1 = 112 then (
    some (1, M)) else (
    if x1 = 107 then (
    some (1, M)) else (
    if x1 = 100 then (
    some (1, M)) else (
    some (0, M)))))) else (
    if x0 = 1 then (
    if x1 = 119 then (
    some (1, M)) else (
    if x1 = 120 then (
    some (1, M)) else (
    if x1 = 97 then (
    some (1, M)) else (
    some (0, M))))) else (
    if x0 = 2 then (
    if x1 = 105 then (
    some (1, M)) else (
    if x1 = 115 then (
    some (1, M)) else (
    if x1 = 104 then (
    some (1, M)) else (
    some (0, M))))) else (
    if x0 = 3 then (
    if x1 = 100 then (
    some (1, M)) else (
    if x1 = 102 then (
    some (1, M)) else (
    if x1 = 112 then (
    some (1, M)) else (
    some (0, M))))) else (
    if x1 = 110 then (
    some (1, M)) else (
    some (0, M))))))
def rmX12_isName : Room := { frames := 0, cells := 0, slots := 0, locals := 0 }
def rM_step (x1 : Int) (x2 : Int) (M : Mem) : Option (Mem) :=
    wrA M 1 4210 (w32 ((M 0 18) + (w32 (2 * (M 0 17))))) x1 fun M1 =>
    wrA M1 1 4210 (w32 ((w32 ((M1 0 18) + (w32 (2 * (M1 0 17))))) + 1)) x2 fun M2 =>
    wrF M2 0 17 (w32 ((M2 0 17) + 1)) fun M3 =>
    some M3
def rmX12_step : Room := { frames := 0, cells := 0, slots := 0, locals := 0 }
def rM_orNone (x0 : Int) (M : Mem) : Option (Int × Mem) :=
    if x0 < 0 then (
    some ((-1000000005), M)) else (
    some (x0, M))
def rmX12_orNone : Room := { frames := 0, cells := 0, slots := 0, locals := 0 }
def rM_least (x0 : Int) (x1 : Int) (M : Mem) : Option (Int × Mem) :=
    if x0 < x1 then (
    some (x0, M)) else (
    some (x1, M))
def rmX12_least : Room := { frames := 0, cells := 0, slots := 0, locals := 0 }
def rM_size (x0 : Int) (M : Mem) : Option (Int × Mem) :=
    if x0 < 0 then (
    some (w32 (-x0), M)) else (
    some (x0, M))
def rmX12_size : Room := { frames := 0, cells := 0, slots := 0, locals := 0 }
def rM_becomes (x1 : Int) (x2 : Int) (M : Mem) : Option (Int × Mem) :=
    rdA (M 1) 4210 x1 fun v1 =>
    wrA M 1 4210 x1 x2 fun M2 =>
    some (v1, M2)
def rmX12_becomes : Room := { frames := 0, cells := 0, slots := 0, locals := 0 }
def rM_cellAt (x1 : Int) (M : Mem) : Option (Int × Mem) :=
    some (w32 (20 + (w32 (3 * x1))), M)
def rmX12_cellAt : Room := { frames := 0, cells := 0, slots := 0, locals := 0 }
def rM_personAt (x1 : Int) (M : Mem) : Option (Int × Mem) :=
    some (w32 (70 + (w32 (8 * x1))), M)
def rmX12_personAt : Room := { frames := 0, cells := 0, slots := 0, locals := 0 }
def rM_tieAt (x1 : Int) (M : Mem) : Option (Int × Mem) :=
    some (w32 (230 + (w32 (10 * x1))), M)
def rmX12_tieAt : Room := { frames := 0, cells := 0, slots := 0, locals := 0 }
def rM_textAt (x1 : Int) (M : Mem) : Option (Int × Mem) :=
    some (w32 (1310 + (w32 (200 * x1))), M)
def rmX12_textAt : Room := { frames := 0, cells := 0, slots := 0, locals := 0 }
def rM_isCell (x1 : Int) (M : Mem) : Option (Int × Mem) :=
    rdA (M 1) 4210 1 fun v1 =>
    bnI (rM_isIn x1 0 (w32 (v1 - 1)) M) fun v3 M2 =>
    if v3 = 0 ∨ v3 = 1 then some (v3, M2) else none
def rmX12_isCell : Room := { frames := 1, cells := 0, slots := 0, locals := 25 }
def rM_isPerson (x1 : Int) (M : Mem) : Option (Int × Mem) :=
    rdA (M 1) 4210 2 fun v1 =>
    bnI (rM_isIn x1 0 (w32 (v1 - 1)) M) fun v3 M2 =>
    if v3 = 0 ∨ v3 = 1 then some (v3, M2) else none
def rmX12_isPerson : Room := { frames := 1, cells := 0, slots := 0, locals := 25 }
def rM_isTie (x1 : Int) (M : Mem) : Option (Int × Mem) :=
    rdA (M 1) 4210 3 fun v1 =>
    bnI (rM_isIn x1 0 (w32 (v1 - 1)) M) fun v3 M2 =>
    if v3 = 0 ∨ v3 = 1 then some (v3, M2) else none
def rmX12_isTie : Room := { frames := 1, cells := 0, slots := 0, locals := 25 }
def rM_isText (x1 : Int) (M : Mem) : Option (Int × Mem) :=
    rdA (M 1) 4210 4 fun v1 =>
    bnI (rM_isIn x1 0 (w32 (v1 - 1)) M) fun v3 M2 =>
    if v3 = 0 ∨ v3 = 1 then some (v3, M2) else none
def rmX12_isText : Room := { frames := 1, cells := 0, slots := 0, locals := 25 }
def rM_isSide (x0 : Int) (M : Mem) : Option (Int × Mem) :=
    bnI (rM_isIn x0 0 1 M) fun v2 M1 =>
    if v2 = 0 ∨ v2 = 1 then some (v2, M1) else none
def rmX12_isSide : Room := { frames := 1, cells := 0, slots := 0, locals := 25 }
def rM_isOf (x1 : Int) (x2 : Int) (M : Mem) : Option (Int × Mem) :=
    bnI (rM_isTie x1 M) fun v2 M1 =>
    if v2 = 0 then (
    some (0, M1)) else (
    bnI (rM_tieAt x1 M1) fun v4 M3 =>
    rdA (M3 1) 4210 v4 fun v5 =>
    if v5 = x2 then (
    some (1, M3)) else (
    some (0, M3)))
def rmX12_isOf : Room := { frames := 2, cells := 0, slots := 0, locals := 46 }
def rM_sideOf (x1 : Int) (M : Mem) : Option (Int × Mem) :=
    bnI (rM_cellAt x1 M) fun v2 M1 =>
    rdA (M1 1) 4210 (w32 (v2 + 0)) fun v3 =>
    some (v3, M1)
def rmX12_sideOf : Room := { frames := 1, cells := 0, slots := 0, locals := 21 }
def rM_ownSide (x1 : Int) (M : Mem) : Option (Int × Mem) :=
    bnI (rM_personAt x1 M) fun v2 M1 =>
    rdA (M1 1) 4210 (w32 (v2 + 0)) fun v3 =>
    bnI (rM_sideOf v3 M1) fun v5 M4 =>
    some (v5, M4)
def rmX12_ownSide : Room := { frames := 2, cells := 0, slots := 0, locals := 42 }
def rM_isDead (x1 : Int) (M : Mem) : Option (Int × Mem) :=
    bnI (rM_personAt x1 M) fun v2 M1 =>
    rdA (M1 1) 4210 (w32 (v2 + 7)) fun v3 =>
    if v3 = 1 then (
    some (1, M1)) else (
    some (0, M1))
def rmX12_isDead : Room := { frames := 1, cells := 0, slots := 0, locals := 21 }
def rM_waits (x1 : Int) (M : Mem) : Option (Int × Mem) :=
    bnI (rM_personAt x1 M) fun v2 M1 =>
    rdA (M1 1) 4210 (w32 (v2 + 4)) fun v3 =>
    if v3 < 0 then (
    some (0, M1)) else (
    some (1, M1))
def rmX12_waits : Room := { frames := 1, cells := 0, slots := 0, locals := 21 }
def rM_day (M : Mem) : Option (Int × Mem) :=
    rdA (M 1) 4210 0 fun v1 =>
    some (w32 (Int.tdiv v1 24), M)
def rmX12_day : Room := { frames := 0, cells := 0, slots := 0, locals := 0 }
def rM_cell (x1 : Int) (M : Mem) : Option (Int × Mem) :=
    bnI (rM_isSide x1 M) fun v2 M1 =>
    if v2 = 0 then (
    some ((-1000000001), M1)) else (
    rdA (M1 1) 4210 1 fun v3 =>
    if v3 = 16 then (
    some ((-1000000003), M1)) else (
    rdA (M1 1) 4210 1 fun v4 =>
    bnI (rM_cellAt v4 M1) fun v6 M5 =>
    wrA M5 1 4210 (w32 (v6 + 0)) x1 fun M7 =>
    wrA M7 1 4210 (w32 (v6 + 1)) 0 fun M8 =>
    wrA M8 1 4210 (w32 (v6 + 2)) 0 fun M9 =>
    rdA (M9 1) 4210 1 fun v10 =>
    wrA M9 1 4210 1 (w32 (v10 + 1)) fun M11 =>
    rdA (M11 1) 4210 1 fun v12 =>
    some (w32 (v12 - 1), M11)))
def rmX12_cell : Room := { frames := 2, cells := 0, slots := 0, locals := 45 }
def rM_water (x1 : Int) (x2 : Int) (x3 : Int) (M : Mem) : Option (Int × Mem) :=
    bnI (rM_isCell x1 M) fun v2 M1 =>
    if v2 = 0 then (
    some ((-1000000001), M1)) else (
    bnI (rM_isIn x2 0 1 M1) fun v4 M3 =>
    if v4 = 0 then (
    some ((-1000000001), M3)) else (
    jn (fun (p5 : Int) (M7 : Mem) =>
    bnI (rM_isIn x3 0 p5 M7) fun v9 M8 =>
    if v9 = 0 then (
    some ((-1000000001), M8)) else (
    bnI (rM_cellAt x1 M8) fun v11 M10 =>
    bnI (rM_becomes (w32 ((w32 (v11 + 1)) + x2)) x3 M10) fun v13 M12 =>
    some (v13, M12))) fun j6 =>
    if x2 = 0 then (
    j6 999 M3) else (
    j6 9999 M3)))
def rmX12_water : Room := { frames := 2, cells := 0, slots := 0, locals := 46 }
def rM_person (x1 : Int) (x2 : Int) (x3 : Int) (M : Mem) : Option (Int × Mem) :=
    bnI (rM_isCell x1 M) fun v2 M1 =>
    if v2 = 0 then (
    some ((-1000000001), M1)) else (
    bnI (rM_isIn x2 0 99 M1) fun v4 M3 =>
    if v4 = 0 then (
    some ((-1000000001), M3)) else (
    bnI (rM_isIn x3 0 3 M3) fun v6 M5 =>
    if v6 = 0 then (
    some ((-1000000001), M5)) else (
    rdA (M5 1) 4210 2 fun v7 =>
    if v7 = 20 then (
    some ((-1000000003), M5)) else (
    rdA (M5 1) 4210 2 fun v8 =>
    bnI (rM_personAt v8 M5) fun v10 M9 =>
    wrA M9 1 4210 (w32 (v10 + 0)) x1 fun M11 =>
    wrA M11 1 4210 (w32 (v10 + 1)) x2 fun M12 =>
    wrA M12 1 4210 (w32 (v10 + 2)) x3 fun M13 =>
    wrA M13 1 4210 (w32 (v10 + 3)) x1 fun M14 =>
    wrA M14 1 4210 (w32 (v10 + 4)) (-1) fun M15 =>
    wrA M15 1 4210 (w32 (v10 + 5)) (-1) fun M16 =>
    wrA M16 1 4210 (w32 (v10 + 6)) 0 fun M17 =>
    wrA M17 1 4210 (w32 (v10 + 7)) 0 fun M18 =>
    rdA (M18 1) 4210 2 fun v19 =>
    wrA M18 1 4210 2 (w32 (v19 + 1)) fun M20 =>
    rdA (M20 1) 4210 2 fun v21 =>
    some (w32 (v21 - 1), M20)))))
def rmX12_person : Room := { frames := 2, cells := 0, slots := 0, locals := 46 }
def rM_is (x1 : Int) (x2 : Int) (M : Mem) : Option (Int × Mem) :=
    bnI (rM_isPerson x1 M) fun v2 M1 =>
    if v2 = 0 then (
    some ((-1000000001), M1)) else (
    bnI (rM_isIn x2 0 7 M1) fun v4 M3 =>
    if v4 = 0 then (
    some ((-1000000001), M3)) else (
    bnI (rM_personAt x1 M3) fun v6 M5 =>
    if x2 = 3 then (
    rdA (M5 1) 4210 (w32 (v6 + 3)) fun v7 =>
    bnI (rM_orNone v7 M5) fun v9 M8 =>
    some (v9, M8)) else (
    if x2 = 4 then (
    rdA (M5 1) 4210 (w32 (v6 + 4)) fun v11 =>
    bnI (rM_orNone v11 M5) fun v13 M12 =>
    some (v13, M12)) else (
    if x2 = 5 then (
    rdA (M5 1) 4210 (w32 (v6 + 7)) fun v15 =>
    some (v15, M5)) else (
    if x2 = 6 then (
    rdA (M5 1) 4210 (w32 ((w32 (15 + x2)) - 6)) fun v17 =>
    some (bAnd (bShr v17 x1) 1, M5)) else (
    if x2 = 7 then (
    rdA (M5 1) 4210 (w32 ((w32 (15 + x2)) - 6)) fun v19 =>
    some (bAnd (bShr v19 x1) 1, M5)) else (
    rdA (M5 1) 4210 (w32 (v6 + x2)) fun v21 =>
    some (v21, M5))))))))
def rmX12_is : Room := { frames := 2, cells := 0, slots := 0, locals := 46 }
def rM_be (x1 : Int) (x2 : Int) (x3 : Int) (M : Mem) : Option (Int × Mem) :=
    bnI (rM_isPerson x1 M) fun v2 M1 =>
    if v2 = 0 then (
    some ((-1000000001), M1)) else (
    bnI (rM_isIn x2 1 2 M1) fun v4 M3 =>
    if v4 = 0 then (
    some ((-1000000001), M3)) else (
    jn (fun (p5 : Int) (M7 : Mem) =>
    bnI (rM_isIn x3 0 p5 M7) fun v9 M8 =>
    if v9 = 0 then (
    some ((-1000000001), M8)) else (
    bnI (rM_personAt x1 M8) fun v11 M10 =>
    bnI (rM_becomes (w32 (v11 + x2)) x3 M10) fun v13 M12 =>
    some (v13, M12))) fun j6 =>
    if x2 = 1 then (
    j6 99 M3) else (
    j6 3 M3)))
def rmX12_be : Room := { frames := 2, cells := 0, slots := 0, locals := 46 }
def rM_die (x1 : Int) (M : Mem) : Option (Int × Mem) :=
    bnI (rM_isPerson x1 M) fun v2 M1 =>
    if v2 = 0 then (
    some ((-1000000001), M1)) else (
    bnI (rM_isDead x1 M1) fun v4 M3 =>
    if v4 = 0 then (
    bnI (rM_personAt x1 M3) fun v6 M5 =>
    bnI (rM_waits x1 M5) fun v8 M7 =>
    jn (fun (p9 : Int) (M11 : Mem) =>
    rdA (M11 1) 4210 (w32 (15 + p9)) fun v12 =>
    wrA M11 1 4210 (w32 (15 + p9)) (bOr v12 (bShl 1 x1)) fun M13 =>
    wrA M13 1 4210 (w32 (v6 + 7)) 1 fun M14 =>
    wrA M14 1 4210 (w32 (v6 + 3)) (-1) fun M15 =>
    wrA M15 1 4210 (w32 (v6 + 4)) (-1) fun M16 =>
    wrA M16 1 4210 (w32 (v6 + 5)) (-1) fun M17 =>
    some (1, M17)) fun j10 =>
    if v8 = 0 then (
    rdA (M7 1) 4210 (w32 (v6 + 3)) fun v18 =>
    bnI (rM_sideOf v18 M7) fun v20 M19 =>
    j10 v20 M19) else (
    bnI (rM_ownSide x1 M7) fun v22 M21 =>
    j10 v22 M21)) else (
    some ((-1000000002), M3)))
def rmX12_die : Room := { frames := 3, cells := 0, slots := 0, locals := 63 }
def rM_fits (x1 : Int) (x2 : Int) (M : Mem) : Option (Int × Mem) :=
    if x1 = 1 then (
    bnI (rM_isIn x2 0 9 M) fun v2 M1 =>
    if v2 = 0 ∨ v2 = 1 then some (v2, M1) else none) else (
    if x1 = 2 then (
    if x2 = 0 then (
    some (1, M)) else (
    some (0, M))) else (
    if x1 = 3 then (
    bnI (rM_isIn x2 0 9999 M) fun v6 M5 =>
    if v6 = 0 ∨ v6 = 1 then some (v6, M5) else none) else (
    if x1 = 4 then (
    bnI (rM_isIn x2 0 60 M) fun v9 M8 =>
    if v9 = 0 ∨ v9 = 1 then some (v9, M8) else none) else (
    if x1 = 5 then (
    bnI (rM_isIn x2 1 9 M) fun v12 M11 =>
    if v12 = 0 ∨ v12 = 1 then some (v12, M11) else none) else (
    if x2 = 0 then (
    some (1, M)) else (
    some (0, M)))))))
def rmX12_fits : Room := { frames := 1, cells := 0, slots := 0, locals := 25 }
def lpX12_newTie_15 (y1 : Int) (y2 : Int) (y3 : Int) (y4 : Int) (y5 : Int) (k39 : Mem → Option (Int × Mem)) : Nat → Int → Mem → Option (Int × Mem)
  | 0, _, _ => none
  | n + 1, u6, M =>
    if u6 < 10 then (
    wrA M 1 4210 (w32 (y5 + u6)) 0 fun M4 =>
    nm (w32 (u6 + 1)) fun v5 =>
    lpX12_newTie_15 y1 y2 y3 y4 y5 k39 n v5 M4) else (
    k39 M)
def rM_newTie (x1 : Int) (x2 : Int) (x3 : Int) (x4 : Int) (M : Mem) : Option (Int × Mem) :=
    rdA (M 1) 4210 3 fun v1 =>
    bnI (rM_tieAt v1 M) fun v3 M2 =>
    lpX12_newTie_15 x1 x2 x3 x4 v3 (fun M6 =>
    wrA M6 1 4210 v3 x1 fun M7 =>
    wrA M7 1 4210 (w32 (v3 + 1)) x2 fun M8 =>
    wrA M8 1 4210 (w32 (v3 + 2)) x3 fun M9 =>
    wrA M9 1 4210 (w32 (v3 + 3)) x4 fun M10 =>
    jn (fun (p11 : Int) (M13 : Mem) =>
    wrA M13 1 4210 (w32 (v3 + 5)) p11 fun M14 =>
    wrA M14 1 4210 (w32 (v3 + 8)) (-1) fun M15 =>
    rdA (M15 1) 4210 3 fun v16 =>
    wrA M15 1 4210 (w32 (630 + (w32 (17 * v16)))) 0 fun M17 =>
    rdA (M17 1) 4210 3 fun v18 =>
    wrA M17 1 4210 3 (w32 (v18 + 1)) fun M19 =>
    rdA (M19 1) 4210 3 fun v20 =>
    some (w32 (v20 - 1), M19)) fun j12 =>
    if x1 = 1 then (
    j12 23 M10) else (
    j12 0 M10)) FU 0 M2
def rmX12_newTie : Room := { frames := 1, cells := 0, slots := 0, locals := 21 }
def rM_tie (x1 : Int) (x2 : Int) (x3 : Int) (x4 : Int) (M : Mem) : Option (Int × Mem) :=
    bnI (rM_isIn x1 0 5 M) fun v2 M1 =>
    jn (fun (p3 : Int) (M5 : Mem) =>
    if p3 = 0 then (
    some ((-1000000001), M5)) else (
    bnI (rM_fits x1 x4 M5) fun v7 M6 =>
    if v7 = 0 then (
    some ((-1000000001), M6)) else (
    rdA (M6 1) 4210 3 fun v8 =>
    if v8 = 40 then (
    some ((-1000000003), M6)) else (
    bnI (rM_newTie x1 x2 x3 x4 M6) fun v10 M9 =>
    some (v10, M9))))) fun j4 =>
    jn (fun  (M12 : Mem) =>
    j4 0 M12) fun j11 =>
    if v2 = 0 then (
    j11 M1) else (
    if x2 = x3 then (
    j11 M1) else (
    jn (fun  (M14 : Mem) =>
    j4 1 M14) fun j13 =>
    if x1 = 5 then (
    bnI (rM_isPerson x2 M1) fun v20 M19 =>
    if v20 = 0 then (
    j11 M19) else (
    bnI (rM_isPerson x3 M19) fun v22 M21 =>
    if v22 = 0 then (
    j11 M21) else (
    j13 M21))) else (
    bnI (rM_isCell x2 M1) fun v16 M15 =>
    if v16 = 0 then (
    j11 M15) else (
    bnI (rM_isCell x3 M15) fun v18 M17 =>
    if v18 = 0 then (
    j11 M17) else (
    j13 M17)))))
def rmX12_tie : Room := { frames := 2, cells := 0, slots := 0, locals := 47 }
def rM_pass (x1 : Int) (x2 : Int) (x3 : Int) (x4 : Int) (M : Mem) : Option (Int × Mem) :=
    bnI (rM_isPerson x1 M) fun v2 M1 =>
    jn (fun (p3 : Int) (M5 : Mem) =>
    if p3 = 0 then (
    some ((-1000000001), M5)) else (
    if w32 (Int.tmod x4 1000) < w32 (Int.tdiv x4 1000) then (
    some ((-1000000001), M5)) else (
    if 416 < w32 (Int.tmod x4 1000) then (
    some ((-1000000001), M5)) else (
    bnI (rM_ownSide x1 M5) fun v7 M6 =>
    bnI (rM_ownSide x2 M6) fun v9 M8 =>
    if v7 = v9 then (
    some ((-1000000001), M8)) else (
    rdA (M8 1) 4210 3 fun v10 =>
    if v10 = 40 then (
    some ((-1000000003), M8)) else (
    bnI (rM_newTie 6 x1 x2 x3 M8) fun v12 M11 =>
    bnI (rM_tieAt v12 M11) fun v14 M13 =>
    wrA M13 1 4210 (w32 (v14 + 4)) (w32 (Int.tdiv x4 1000)) fun M15 =>
    bnI (rM_tieAt v12 M15) fun v17 M16 =>
    wrA M16 1 4210 (w32 (v17 + 5)) (w32 (Int.tmod x4 1000)) fun M18 =>
    some (v12, M18))))))) fun j4 =>
    jn (fun  (M20 : Mem) =>
    j4 0 M20) fun j19 =>
    if v2 = 0 then (
    j19 M1) else (
    bnI (rM_isPerson x2 M1) fun v22 M21 =>
    if v22 = 0 then (
    j19 M21) else (
    bnI (rM_isIn x3 1 99 M21) fun v24 M23 =>
    if v24 = 0 then (
    j19 M23) else (
    if x4 < 0 then (
    j19 M23) else (
    j4 1 M23))))
def rmX12_pass : Room := { frames := 3, cells := 0, slots := 0, locals := 63 }
def rM_parcel (x1 : Int) (x2 : Int) (x3 : Int) (M : Mem) : Option (Int × Mem) :=
    bnI (rM_isOf x1 6 M) fun v2 M1 =>
    if v2 = 0 then (
    some ((-1000000001), M1)) else (
    bnI (rM_isIn x2 1 99 M1) fun v4 M3 =>
    if v4 = 0 then (
    some ((-1000000001), M3)) else (
    bnI (rM_isIn x3 0 7 M3) fun v6 M5 =>
    if v6 = 0 then (
    some ((-1000000001), M5)) else (
    bnI (rM_tieAt x1 M5) fun v8 M7 =>
    rdA (M7 1) 4210 (w32 (v8 + 6)) fun v9 =>
    if v9 = 0 then (
    rdA (M7 1) 4210 3 fun v10 =>
    if v10 = 40 then (
    some ((-1000000003), M7)) else (
    bnI (rM_tieAt x1 M7) fun v12 M11 =>
    rdA (M11 1) 4210 (w32 (v12 + 1)) fun v13 =>
    bnI (rM_tieAt x1 M11) fun v15 M14 =>
    rdA (M14 1) 4210 (w32 (v15 + 2)) fun v16 =>
    bnI (rM_newTie 7 v13 v16 x2 M14) fun v18 M17 =>
    bnI (rM_tieAt v18 M17) fun v20 M19 =>
    wrA M19 1 4210 (w32 (v20 + 7)) x3 fun M21 =>
    bnI (rM_tieAt v18 M21) fun v23 M22 =>
    wrA M22 1 4210 (w32 (v23 + 8)) x1 fun M24 =>
    some (v18, M24))) else (
    some ((-1000000002), M7)))))
def rmX12_parcel : Room := { frames := 3, cells := 0, slots := 0, locals := 68 }
def lpX12_waiting0_4 (y1 : Int) : Nat → Int → Int → Mem → Option (Int × Mem)
  | 0, _, _, _ => none
  | n + 1, u2, u3, M =>
    rdA (M 1) 4210 2 fun v1 =>
    if u3 < v1 then (
    bnI (rM_personAt u3 M) fun v3 M2 =>
    rdA (M2 1) 4210 (w32 (v3 + 4)) fun v4 =>
    jn (fun (p5 : Int) (M7 : Mem) =>
    nm (w32 (u2 + p5)) fun v8 =>
    nm (w32 (u3 + 1)) fun v9 =>
    lpX12_waiting0_4 y1 n v8 v9 M7) fun j6 =>
    if v4 = y1 then (
    j6 1 M2) else (
    j6 0 M2)) else (
    some (u2, M))
def rM_waiting0 (x1 : Int) (M : Mem) : Option (Int × Mem) :=
    lpX12_waiting0_4 x1 FU 0 0 M
def rmX12_waiting0 : Room := { frames := 1, cells := 0, slots := 0, locals := 21 }
def lpX12_calls_4 (y1 : Int) : Nat → Int → Int → Mem → Option (Int × Mem)
  | 0, _, _, _ => none
  | n + 1, u2, u3, M =>
    rdA (M 1) 4210 6 fun v1 =>
    if u3 < v1 then (
    rdA (M 1) 4210 (w32 (3770 + (w32 (3 * u3)))) fun v2 =>
    jn (fun (p3 : Int) (M5 : Mem) =>
    nm (w32 (u2 + p3)) fun v6 =>
    nm (w32 (u3 + 1)) fun v7 =>
    lpX12_calls_4 y1 n v6 v7 M5) fun j4 =>
    if v2 = y1 then (
    j4 1 M) else (
    j4 0 M)) else (
    some (u2, M))
def rM_calls (x1 : Int) (M : Mem) : Option (Int × Mem) :=
    lpX12_calls_4 x1 FU 0 0 M
def rmX12_calls : Room := { frames := 0, cells := 0, slots := 0, locals := 0 }
def rM_told (x1 : Int) (x2 : Int) (M : Mem) : Option (Int × Mem) :=
    bnI (rM_isTie x1 M) fun v2 M1 =>
    if v2 = 0 then (
    some ((-1000000001), M1)) else (
    bnI (rM_isIn x2 0 9 M1) fun v4 M3 =>
    if v4 = 0 then (
    some ((-1000000001), M3)) else (
    bnI (rM_tieAt x1 M3) fun v6 M5 =>
    rdA (M5 1) 4210 v6 fun v7 =>
    if x2 = 9 then (
    if v7 = 1 then (
    bnI (rM_waiting0 x1 M5) fun v19 M18 =>
    some (v19, M18)) else (
    if v7 = 4 then (
    bnI (rM_calls x1 M5) fun v17 M16 =>
    some (v17, M16)) else (
    some (0, M5)))) else (
    if x2 = 8 then (
    bnI (rM_tieAt x1 M5) fun v12 M11 =>
    rdA (M11 1) 4210 (w32 (v12 + 8)) fun v13 =>
    bnI (rM_orNone v13 M11) fun v15 M14 =>
    some (v15, M14)) else (
    bnI (rM_tieAt x1 M5) fun v9 M8 =>
    rdA (M8 1) 4210 (w32 (v9 + x2)) fun v10 =>
    some (v10, M8)))))
def rmX12_told : Room := { frames := 2, cells := 0, slots := 0, locals := 46 }
def rM_as (x1 : Int) (x2 : Int) (M : Mem) : Option (Int × Mem) :=
    bnI (rM_isTie x1 M) fun v2 M1 =>
    if v2 = 0 then (
    some ((-1000000001), M1)) else (
    bnI (rM_isIn x2 0 7 M1) fun v4 M3 =>
    if v4 = 0 then (
    some ((-1000000001), M3)) else (
    bnI (rM_tieAt x1 M3) fun v6 M5 =>
    rdA (M5 1) 4210 v6 fun v7 =>
    jn (fun (p8 : Int) (M10 : Mem) =>
    if p8 = 0 then (
    some ((-1000000012), M10)) else (
    bnI (rM_tieAt x1 M10) fun v12 M11 =>
    rdA (M11 1) 4210 (w32 (v12 + 3)) fun v13 =>
    some (v13, M11))) fun j9 =>
    jn (fun  (M15 : Mem) =>
    j9 1 M15) fun j14 =>
    if x2 = 0 then (
    j14 M5) else (
    if x2 = v7 then (
    j14 M5) else (
    jn (fun  (M17 : Mem) =>
    jn (fun  (M19 : Mem) =>
    jn (fun  (M21 : Mem) =>
    j9 0 M21) fun j20 =>
    if x2 = 6 then (
    if v7 = 7 then (
    j14 M19) else (
    j20 M19)) else (
    j20 M19)) fun j18 =>
    if x2 = 5 then (
    if v7 < 6 then (
    j18 M17) else (
    j14 M17)) else (
    j18 M17)) fun j16 =>
    if x2 = 3 then (
    if v7 = 4 then (
    j14 M5) else (
    j16 M5)) else (
    j16 M5)))))
def rmX12_as : Room := { frames := 2, cells := 0, slots := 0, locals := 46 }
def rM_change (x1 : Int) (x2 : Int) (M : Mem) : Option (Int × Mem) :=
    bnI (rM_isTie x1 M) fun v2 M1 =>
    if v2 = 0 then (
    some ((-1000000001), M1)) else (
    bnI (rM_tieAt x1 M1) fun v4 M3 =>
    rdA (M3 1) 4210 v4 fun v5 =>
    if v5 = 0 then (
    some ((-1000000012), M3)) else (
    if v5 = 2 then (
    some ((-1000000012), M3)) else (
    if 5 < v5 then (
    some ((-1000000012), M3)) else (
    bnI (rM_fits v5 x2 M3) fun v7 M6 =>
    if v7 = 0 then (
    some ((-1000000001), M6)) else (
    bnI (rM_tieAt x1 M6) fun v9 M8 =>
    bnI (rM_becomes (w32 (v9 + 3)) x2 M8) fun v11 M10 =>
    some (v11, M10))))))
def rmX12_change : Room := { frames := 2, cells := 0, slots := 0, locals := 47 }
def rM_gate (x1 : Int) (x2 : Int) (x3 : Int) (M : Mem) : Option (Int × Mem) :=
    bnI (rM_isTie x1 M) fun v2 M1 =>
    if v2 = 0 then (
    some ((-1000000001), M1)) else (
    bnI (rM_isIn x2 0 23 M1) fun v4 M3 =>
    if v4 = 0 then (
    some ((-1000000001), M3)) else (
    bnI (rM_isIn x3 0 23 M3) fun v6 M5 =>
    if v6 = 0 then (
    some ((-1000000001), M5)) else (
    bnI (rM_tieAt x1 M5) fun v8 M7 =>
    rdA (M7 1) 4210 v8 fun v9 =>
    if v9 = 1 then (
    bnI (rM_tieAt x1 M7) fun v11 M10 =>
    wrA M10 1 4210 (w32 (v11 + 4)) x2 fun M12 =>
    bnI (rM_tieAt x1 M12) fun v14 M13 =>
    wrA M13 1 4210 (w32 (v14 + 5)) x3 fun M15 =>
    some (1, M15)) else (
    some ((-1000000012), M7)))))
def rmX12_gate : Room := { frames := 2, cells := 0, slots := 0, locals := 46 }
def lpX12_findKin_9 (y1 : Int) (k42 : Mem → Option (Mem)) : Nat → Int → Mem → Option (Mem)
  | 0, _, _ => none
  | n + 1, u2, M =>
    if u2 < 400 then (
    jn (fun (p2 : Int) (M4 : Mem) =>
    wrA M4 7 400 u2 p2 fun M5 =>
    nm (w32 (u2 + 1)) fun v6 =>
    lpX12_findKin_9 y1 k42 n v6 M5) fun j3 =>
    if w32 (Int.tmod u2 21) = 0 then (
    j3 0 M) else (
    j3 1000 M)) else (
    k42 M)
def lpX12_findKin_44 (y1 : Int) (k164 : Mem → Option (Mem)) : Nat → Int → Mem → Option (Mem)
  | 0, _, _ => none
  | n + 1, u2, M =>
    rdA (M 1) 4210 3 fun v8 =>
    if u2 < v8 then (
    bnI (rM_tieAt u2 M) fun v10 M9 =>
    rdA (M9 1) 4210 v10 fun v11 =>
    jn (fun  (M13 : Mem) =>
    nm (w32 (u2 + 1)) fun v14 =>
    lpX12_findKin_44 y1 k164 n v14 M13) fun j12 =>
    if v11 = 5 then (
    bnI (rM_tieAt u2 M9) fun v16 M15 =>
    rdA (M15 1) 4210 (w32 (v16 + 1)) fun v17 =>
    bnI (rM_tieAt u2 M15) fun v19 M18 =>
    rdA (M18 1) 4210 (w32 (v19 + 2)) fun v20 =>
    rdA (M18 7) 400 (w32 ((w32 (20 * v17)) + v20)) fun v21 =>
    bnI (rM_tieAt u2 M18) fun v23 M22 =>
    rdA (M22 1) 4210 (w32 (v23 + 3)) fun v24 =>
    bnI (rM_least v21 v24 M22) fun v26 M25 =>
    wrA M25 7 400 (w32 ((w32 (20 * v17)) + v20)) v26 fun M27 =>
    rdA (M27 7) 400 (w32 ((w32 (20 * v17)) + v20)) fun v28 =>
    wrA M27 7 400 (w32 ((w32 (20 * v20)) + v17)) v28 fun M29 =>
    j12 M29) else (
    j12 M9)) else (
    k164 M)
def lpX12_findKin_181 (y1 : Int) (y2 : Int) (y3 : Int) (k244 : Mem → Option (Mem)) : Nat → Int → Mem → Option (Mem)
  | 0, _, _ => none
  | n + 1, u4, M =>
    if u4 < y1 then (
    rdA (M 7) 400 (w32 ((w32 (20 * y3)) + u4)) fun v31 =>
    rdA (M 7) 400 (w32 ((w32 (20 * y3)) + y2)) fun v32 =>
    rdA (M 7) 400 (w32 ((w32 (20 * y2)) + u4)) fun v33 =>
    bnI (rM_least v31 (w32 (v32 + v33)) M) fun v35 M34 =>
    wrA M34 7 400 (w32 ((w32 (20 * y3)) + u4)) v35 fun M36 =>
    nm (w32 (u4 + 1)) fun v37 =>
    lpX12_findKin_181 y1 y2 y3 k244 n v37 M36) else (
    k244 M)
def lpX12_findKin_173 (y1 : Int) (y2 : Int) (k250 : Mem → Option (Mem)) : Nat → Int → Mem → Option (Mem)
  | 0, _, _ => none
  | n + 1, u3, M =>
    if u3 < y1 then (
    lpX12_findKin_181 y1 y2 u3 (fun M38 =>
    nm (w32 (u3 + 1)) fun v39 =>
    lpX12_findKin_173 y1 y2 k250 n v39 M38) FU 0 M) else (
    k250 M)
def lpX12_findKin_166 (y1 : Int) : Nat → Int → Mem → Option (Mem)
  | 0, _, _ => none
  | n + 1, u2, M =>
    if u2 < y1 then (
    lpX12_findKin_173 y1 u2 (fun M40 =>
    nm (w32 (u2 + 1)) fun v41 =>
    lpX12_findKin_166 y1 n v41 M40) FU 0 M) else (
    some M)
def rM_findKin (M : Mem) : Option (Mem) :=
    rdA (M 1) 4210 2 fun v1 =>
    lpX12_findKin_9 v1 (fun M7 =>
    lpX12_findKin_44 v1 (fun M30 =>
    lpX12_findKin_166 v1 FU 0 M30) FU 0 M7) FU 0 M
def rmX12_findKin : Room := { frames := 1, cells := 0, slots := 0, locals := 21 }
def rM_kinOf (x1 : Int) (x2 : Int) (M : Mem) : Option (Int × Mem) :=
    rdA (M 7) 400 (w32 ((w32 (20 * x1)) + x2)) fun v1 =>
    if 9 < v1 then (
    some (0, M)) else (
    some (v1, M))
def rmX12_kinOf : Room := { frames := 0, cells := 0, slots := 0, locals := 0 }
def rM_kinship (x1 : Int) (x2 : Int) (M : Mem) : Option (Int × Mem) :=
    bnI (rM_isPerson x1 M) fun v2 M1 =>
    if v2 = 0 then (
    some ((-1000000001), M1)) else (
    bnI (rM_isPerson x2 M1) fun v4 M3 =>
    if v4 = 0 then (
    some ((-1000000001), M3)) else (
    if x1 = x2 then (
    some ((-1000000001), M3)) else (
    bnV (rM_findKin M3) fun M5 =>
    bnI (rM_kinOf x1 x2 M5) fun v7 M6 =>
    some (v7, M6))))
def rmX12_kinship : Room := { frames := 2, cells := 0, slots := 0, locals := 46 }
def rM_goesHome (x1 : Int) (M : Mem) : Option (Mem) :=
    bnI (rM_personAt x1 M) fun v2 M1 =>
    bnI (rM_personAt x1 M1) fun v4 M3 =>
    rdA (M3 1) 4210 (w32 (v4 + 0)) fun v5 =>
    wrA M3 1 4210 (w32 (v2 + 3)) v5 fun M6 =>
    bnI (rM_personAt x1 M6) fun v8 M7 =>
    wrA M7 1 4210 (w32 (v8 + 4)) (-1) fun M9 =>
    bnI (rM_personAt x1 M9) fun v11 M10 =>
    wrA M10 1 4210 (w32 (v11 + 5)) (-1) fun M12 =>
    some M12
def rmX12_goesHome : Room := { frames := 1, cells := 0, slots := 0, locals := 21 }
def lpX12_sendHome_2 (y1 : Int) : Nat → Int → Mem → Option (Mem)
  | 0, _, _ => none
  | n + 1, u2, M =>
    rdA (M 1) 4210 2 fun v1 =>
    if u2 < v1 then (
    bnI (rM_waits u2 M) fun v3 M2 =>
    jn (fun  (M5 : Mem) =>
    nm (w32 (u2 + 1)) fun v6 =>
    lpX12_sendHome_2 y1 n v6 M5) fun j4 =>
    if v3 = 0 then (
    j4 M2) else (
    bnI (rM_personAt u2 M2) fun v8 M7 =>
    rdA (M7 1) 4210 (w32 (v8 + 5)) fun v9 =>
    if v9 = y1 then (
    bnV (rM_goesHome u2 M7) fun M10 =>
    j4 M10) else (
    j4 M7))) else (
    some M)
def rM_sendHome (x1 : Int) (M : Mem) : Option (Mem) :=
    lpX12_sendHome_2 x1 FU 0 M
def rmX12_sendHome : Room := { frames := 2, cells := 0, slots := 0, locals := 42 }
def rM_take (x1 : Int) (M : Mem) : Option (Int × Mem) :=
    bnI (rM_isOf x1 6 M) fun v2 M1 =>
    if v2 = 0 then (
    some ((-1000000001), M1)) else (
    bnI (rM_tieAt x1 M1) fun v4 M3 =>
    rdA (M3 1) 4210 (w32 (v4 + 6)) fun v5 =>
    if v5 = 0 then (
    bnI (rM_tieAt x1 M3) fun v7 M6 =>
    wrA M6 1 4210 (w32 (v7 + 6)) 3 fun M8 =>
    bnV (rM_sendHome x1 M8) fun M9 =>
    some (1, M9)) else (
    some ((-1000000002), M3)))
def rmX12_take : Room := { frames := 3, cells := 0, slots := 0, locals := 68 }
def lpX12_countsFor_5 (y1 : Int) (y2 : Int) (k147 : Int → Mem → Option (Int × Mem)) : Nat → Int → Int → Mem → Option (Int × Mem)
  | 0, _, _, _ => none
  | n + 1, u3, u4, M =>
    rdA (M 1) 4210 4 fun v1 =>
    if u4 < v1 then (
    bnI (rM_textAt u4 M) fun v3 M2 =>
    rdA (M2 1) 4210 (w32 (v3 + 0)) fun v4 =>
    jn (fun (p5 : Int) (M7 : Mem) =>
    jn (fun (p8 : Int) (M10 : Mem) =>
    nm (w32 (u4 + 1)) fun v11 =>
    lpX12_countsFor_5 y1 y2 k147 n p8 v11 M10) fun j9 =>
    jn (fun  (M13 : Mem) =>
    j9 u3 M13) fun j12 =>
    if p5 = 0 then (
    j12 M7) else (
    jn (fun  (M15 : Mem) =>
    j9 u4 M15) fun j14 =>
    if u3 < 0 then (
    j14 M7) else (
    rdA (M7 1) 4210 (w32 (v3 + 2)) fun v16 =>
    bnI (rM_textAt u3 M7) fun v18 M17 =>
    rdA (M17 1) 4210 (w32 (v18 + 2)) fun v19 =>
    if v16 < v19 then (
    j12 M17) else (
    j14 M17)))) fun j6 =>
    jn (fun  (M21 : Mem) =>
    j6 0 M21) fun j20 =>
    if v4 = y2 then (
    rdA (M2 1) 4210 (w32 (v3 + 1)) fun v22 =>
    if v22 = y1 then (
    rdA (M2 1) 4210 (w32 (v3 + 2)) fun v23 =>
    bnI (rM_day M2) fun v25 M24 =>
    if v25 < v23 then (
    j20 M24) else (
    rdA (M24 1) 4210 (w32 (v3 + 3)) fun v26 =>
    jn (fun  (M28 : Mem) =>
    j6 1 M28) fun j27 =>
    if v26 < 0 then (
    j27 M24) else (
    rdA (M24 1) 4210 (w32 (v3 + 3)) fun v29 =>
    bnI (rM_day M24) fun v31 M30 =>
    if v31 < v29 then (
    j27 M30) else (
    j20 M30)))) else (
    j20 M2)) else (
    j20 M2)) else (
    k147 u3 M)
def rM_countsFor (x1 : Int) (x2 : Int) (M : Mem) : Option (Int × Mem) :=
    lpX12_countsFor_5 x1 x2 (fun v32 M33 =>
    jn (fun (p34 : Int) (M36 : Mem) =>
    if p34 = 0 then (
    some (v32, M36)) else (
    some (M36 0 20, M36))) fun j35 =>
    jn (fun (M38 : Mem) =>
    j35 0 M38) fun j37 =>
    if M33 0 20 < 0 then (
    j37 M33) else (
    if x2 = 0 then (
    bnI (rM_textAt (M33 0 20) M33) fun v40 M39 =>
    rdA (M39 1) 4210 (w32 (v40 + 1)) fun v41 =>
    if v41 = x1 then (
    j35 1 M39) else (
    j37 M39)) else (
    j37 M33))) FU (-1) 0 M
def rmX12_countsFor : Room := { frames := 1, cells := 0, slots := 0, locals := 21 }
def rM_joined (x0 : Int) (x1 : Int) (x2 : Int) (M : Mem) : Option (Int × Mem) :=
    if x0 = 38 then (
    if x1 = 0 then (
    some (0, M)) else (
    if x2 = 0 then (
    some (0, M)) else (
    some (1, M)))) else (
    if x0 = 39 then (
    if x1 = 0 then (
    if x2 = 0 then (
    some (0, M)) else (
    some (1, M))) else (
    some (1, M))) else (
    if x0 = 40 then (
    if x1 = 0 then (
    if x2 = 0 then (
    some (0, M)) else (
    some (1, M))) else (
    some (1, M))) else (
    if x0 = 41 then (
    if x1 = 0 then (
    if x2 = 0 then (
    some (0, M)) else (
    some (1, M))) else (
    some (1, M))) else (
    if x0 = 42 then (
    some (w32 (x1 * x2), M)) else (
    if x0 = 43 then (
    some (w32 (x1 + x2), M)) else (
    if x0 = 44 then (
    if x1 = 0 then (
    if x2 = 0 then (
    some (0, M)) else (
    some (1, M))) else (
    some (1, M))) else (
    if x0 = 45 then (
    some (w32 (x1 - x2), M)) else (
    if x0 = 46 then (
    if x1 = 0 then (
    if x2 = 0 then (
    some (0, M)) else (
    some (1, M))) else (
    some (1, M))) else (
    if x0 = 47 then (
    if x2 = 0 then (
    some (0, M)) else (
    if x2 = (-1) then (
    some (w32 (-x1), M)) else (
    if x2 = 0 then none else
    some (w32 (Int.tdiv x1 x2), M)))) else (
    if x0 = 48 then (
    if x1 = 0 then (
    if x2 = 0 then (
    some (0, M)) else (
    some (1, M))) else (
    some (1, M))) else (
    if x0 = 49 then (
    if x1 = 0 then (
    if x2 = 0 then (
    some (0, M)) else (
    some (1, M))) else (
    some (1, M))) else (
    if x0 = 50 then (
    if x1 = 0 then (
    if x2 = 0 then (
    some (0, M)) else (
    some (1, M))) else (
    some (1, M))) else (
    if x0 = 51 then (
    if x1 = 0 then (
    if x2 = 0 then (
    some (0, M)) else (
    some (1, M))) else (
    some (1, M))) else (
    if x0 = 52 then (
    if x1 = 0 then (
    if x2 = 0 then (
    some (0, M)) else (
    some (1, M))) else (
    some (1, M))) else (
    if x0 = 53 then (
    if x1 = 0 then (
    if x2 = 0 then (
    some (0, M)) else (
    some (1, M))) else (
    some (1, M))) else (
    if x0 = 54 then (
    if x1 = 0 then (
    if x2 = 0 then (
    some (0, M)) else (
    some (1, M))) else (
    some (1, M))) else (
    if x0 = 55 then (
    if x1 = 0 then (
    if x2 = 0 then (
    some (0, M)) else (
    some (1, M))) else (
    some (1, M))) else (
    if x0 = 56 then (
    if x1 = 0 then (
    if x2 = 0 then (
    some (0, M)) else (
    some (1, M))) else (
    some (1, M))) else (
    if x0 = 57 then (
    if x1 = 0 then (
    if x2 = 0 then (
    some (0, M)) else (
    some (1, M))) else (
    some (1, M))) else (
    if x0 = 58 then (
    if x1 = 0 then (
    if x2 = 0 then (
    some (0, M)) else (
    some (1, M))) else (
    some (1, M))) else (
    if x0 = 59 then (
    if x1 = 0 then (
    if x2 = 0 then (
    some (0, M)) else (
    some (1, M))) else (
    some (1, M))) else (
    if x0 = 60 then (
    if x1 < x2 then (
    some (1, M)) else (
    some (0, M))) else (
    if x0 = 61 then (
    if x1 = x2 then (
    some (1, M)) else (
    some (0, M))) else (
    if x0 = 62 then (
    if x2 < x1 then (
    some (1, M)) else (
    some (0, M))) else (
    if x1 = 0 then (
    if x2 = 0 then (
    some (0, M)) else (
    some (1, M))) else (
    some (1, M)))))))))))))))))))))))))))
def rmX12_joined : Room := { frames := 0, cells := 0, slots := 0, locals := 0 }
def lpX12_worked_4 (y1 : Int) : Nat → Int → Int → Mem → Option (Int × Mem)
  | 0, _, _, _ => none
  | n + 1, u2, u3, M =>
    bnI (rM_textAt y1 M) fun v2 M1 =>
    rdA (M1 1) 4210 (w32 (v2 + 5)) fun v3 =>
    if u3 < v3 then (
    bnI (rM_textAt y1 M1) fun v6 M5 =>
    rdA (M5 1) 4210 (w32 ((w32 (v6 + 6)) + (w32 (2 * u3)))) fun v7 =>
    bnI (rM_textAt y1 M5) fun v9 M8 =>
    rdA (M8 1) 4210 (w32 ((w32 ((w32 (v9 + 6)) + (w32 (2 * u3)))) + 1)) fun v10 =>
    jn (fun (p11 : Int) (M13 : Mem) =>
    nm (w32 (u3 + 1)) fun v14 =>
    lpX12_worked_4 y1 n p11 v14 M13) fun j12 =>
    if v7 = 2 then (
    if v10 = 33 then (
    rdA (M8 10) 100 (w32 (u2 - 1)) fun v21 =>
    jn (fun (p22 : Int) (M24 : Mem) =>
    wrA M24 10 100 (w32 (u2 - 1)) p22 fun M25 =>
    j12 u2 M25) fun j23 =>
    if v21 = 0 then (
    j23 1 M8) else (
    j23 0 M8)) else (
    nm (w32 (u2 + (-1))) fun v15 =>
    rdA (M8 10) 100 (w32 (v15 - 1)) fun v16 =>
    rdA (M8 10) 100 v15 fun v17 =>
    bnI (rM_joined v10 v16 v17 M8) fun v19 M18 =>
    wrA M18 10 100 (w32 (v15 - 1)) v19 fun M20 =>
    j12 v15 M20)) else (
    jn (fun (p26 : Int) (M28 : Mem) =>
    wrA M28 10 100 u2 p26 fun M29 =>
    nm (w32 (u2 + 1)) fun v30 =>
    j12 v30 M29) fun j27 =>
    if v7 = 0 then (
    j27 v10 M8) else (
    rdA (M8 9) 128 v10 fun v31 =>
    j27 v31 M8))) else (
    rdA (M1 10) 100 0 fun v4 =>
    some (v4, M1))
def rM_worked (x1 : Int) (M : Mem) : Option (Int × Mem) :=
    lpX12_worked_4 x1 FU 0 0 M
def rmX12_worked : Room := { frames := 1, cells := 0, slots := 0, locals := 22 }
def rM_letsVisit (x1 : Int) (x2 : Int) (x3 : Int) (M : Mem) : Option (Int × Mem) :=
    bnI (rM_countsFor x1 0 M) fun v2 M1 =>
    bnI (rM_personAt x2 M1) fun v4 M3 =>
    rdA (M3 1) 4210 (w32 (v4 + 1)) fun v5 =>
    wrA M3 9 128 97 v5 fun M6 =>
    bnI (rM_personAt x2 M6) fun v8 M7 =>
    rdA (M7 1) 4210 (w32 (v8 + 2)) fun v9 =>
    wrA M7 9 128 112 v9 fun M10 =>
    bnI (rM_kinOf x2 x3 M10) fun v12 M11 =>
    wrA M11 9 128 107 v12 fun M13 =>
    bnI (rM_day M13) fun v15 M14 =>
    wrA M14 9 128 100 (w32 (Int.tmod v15 7)) fun M16 =>
    if v2 < 0 then (
    some (0, M16)) else (
    bnI (rM_worked v2 M16) fun v18 M17 =>
    if v18 = 0 then (
    some (0, M17)) else (
    some (1, M17)))
def rmX12_letsVisit : Room := { frames := 2, cells := 0, slots := 0, locals := 47 }
def lpX12_mayCross_48 (y1 : Int) (y3 : Int) (y5 : Int) : Nat → Int → Int → Mem → Option (Int × Mem)
  | 0, _, _, _ => none
  | n + 1, u4, u6, M =>
    rdA (M 1) 4210 3 fun v12 =>
    if u6 < v12 then (
    bnI (rM_tieAt u6 M) fun v14 M13 =>
    rdA (M13 1) 4210 v14 fun v15 =>
    jn (fun (p16 : Int) (M18 : Mem) =>
    nm (w32 (u6 + 1)) fun v19 =>
    lpX12_mayCross_48 y1 y3 y5 n p16 v19 M18) fun j17 =>
    if v15 = 7 then (
    rdA (M13 1) 4210 (w32 (v14 + 8)) fun v20 =>
    if v20 = y1 then (
    rdA (M13 1) 4210 (w32 (v14 + 3)) fun v21 =>
    wrA M13 9 128 119 v21 fun M22 =>
    rdA (M22 1) 4210 (w32 (v14 + 7)) fun v23 =>
    wrA M22 9 128 120 v23 fun M24 =>
    bnI (rM_personAt y3 M24) fun v26 M25 =>
    rdA (M25 1) 4210 (w32 (v26 + 1)) fun v27 =>
    wrA M25 9 128 97 v27 fun M28 =>
    jn (fun (p29 : Int) (M31 : Mem) =>
    j17 p29 M31) fun j30 =>
    jn (fun  (M33 : Mem) =>
    j30 0 M33) fun j32 =>
    if u4 = 0 then (
    j32 M28) else (
    if y5 < 0 then (
    j32 M28) else (
    bnI (rM_worked y5 M28) fun v35 M34 =>
    if v35 = 0 then (
    j32 M34) else (
    j30 1 M34)))) else (
    j17 u4 M13)) else (
    j17 u4 M13)) else (
    if u4 = 0 ∨ u4 = 1 then some (u4, M) else none)
def rM_mayCross (x1 : Int) (x2 : Int) (M : Mem) : Option (Int × Mem) :=
    bnV (rM_findKin M) fun M1 =>
    bnI (rM_tieAt x1 M1) fun v3 M2 =>
    rdA (M2 1) 4210 (w32 (v3 + 1)) fun v4 =>
    bnI (rM_tieAt x1 M2) fun v6 M5 =>
    rdA (M5 1) 4210 (w32 (v6 + 2)) fun v7 =>
    bnI (rM_letsVisit x2 v4 v7 M5) fun v9 M8 =>
    bnI (rM_countsFor x2 1 M8) fun v11 M10 =>
    lpX12_mayCross_48 x1 v4 v11 FU v9 0 M10
def rmX12_mayCross : Room := { frames := 3, cells := 0, slots := 0, locals := 71 }
def rM_reason (x1 : Int) (M : Mem) : Option (Int × Mem) :=
    bnI (rM_tieAt x1 M) fun v2 M1 =>
    rdA (M1 1) 4210 (w32 (v2 + 1)) fun v3 =>
    bnI (rM_personAt v3 M1) fun v5 M4 =>
    rdA (M4 1) 4210 (w32 (v5 + 3)) fun v6 =>
    if v6 < 0 then (
    some (1, M4)) else (
    bnI (rM_personAt v3 M4) fun v8 M7 =>
    rdA (M7 1) 4210 (w32 (v8 + 3)) fun v9 =>
    bnI (rM_sideOf v9 M7) fun v11 M10 =>
    bnI (rM_ownSide v3 M10) fun v13 M12 =>
    if v11 = v13 then (
    rdA (M12 1) 4210 (w32 (v2 + 6)) fun v14 =>
    if v14 = 0 then (
    bnI (rM_day M12) fun v16 M15 =>
    rdA (M15 1) 4210 (w32 (v2 + 4)) fun v17 =>
    rdA (M15 1) 4210 (w32 (v2 + 5)) fun v18 =>
    bnI (rM_isIn v16 v17 v18 M15) fun v20 M19 =>
    if v20 = 0 then (
    some (3, M19)) else (
    bnI (rM_mayCross x1 0 M19) fun v22 M21 =>
    if v22 = 0 then (
    some (4, M21)) else (
    bnI (rM_mayCross x1 1 M21) fun v24 M23 =>
    if v24 = 0 then (
    some (5, M23)) else (
    some (0, M23))))) else (
    some (2, M12))) else (
    some (1, M12)))
def rmX12_reason : Room := { frames := 4, cells := 0, slots := 0, locals := 98 }
def rM_why (x1 : Int) (M : Mem) : Option (Int × Mem) :=
    bnI (rM_isOf x1 6 M) fun v2 M1 =>
    if v2 = 0 then (
    some ((-1000000001), M1)) else (
    bnI (rM_reason x1 M1) fun v4 M3 =>
    some (v4, M3))
def rmX12_why : Room := { frames := 5, cells := 0, slots := 0, locals := 121 }
def rM_ask (x1 : Int) (x2 : Int) (M : Mem) : Option (Int × Mem) :=
    bnI (rM_isOf x1 6 M) fun v2 M1 =>
    if v2 = 0 then (
    some ((-1000000001), M1)) else (
    bnI (rM_isOf x2 1 M1) fun v4 M3 =>
    if v4 = 0 then (
    some ((-1000000001), M3)) else (
    bnI (rM_reason x1 M3) fun v6 M5 =>
    if v6 = 0 then (
    bnI (rM_tieAt x1 M5) fun v8 M7 =>
    rdA (M7 1) 4210 (w32 (v8 + 1)) fun v9 =>
    bnI (rM_personAt v9 M7) fun v11 M10 =>
    wrA M10 1 4210 (w32 (v11 + 3)) (-1) fun M12 =>
    wrA M12 1 4210 (w32 (v11 + 4)) x2 fun M13 =>
    wrA M13 1 4210 (w32 (v11 + 5)) x1 fun M14 =>
    rdA (M14 1) 4210 10 fun v15 =>
    wrA M14 1 4210 (w32 (v11 + 6)) v15 fun M16 =>
    rdA (M16 1) 4210 10 fun v17 =>
    wrA M16 1 4210 10 (w32 (v17 + 1)) fun M18 =>
    bnI (rM_waiting0 x2 M18) fun v20 M19 =>
    some (v20, M19)) else (
    some ((-1000000002), M5))))
def rmX12_ask : Room := { frames := 5, cells := 0, slots := 0, locals := 121 }
def rM_letter (x1 : Int) (x2 : Int) (M : Mem) : Option (Int × Mem) :=
    bnI (rM_isSide x1 M) fun v2 M1 =>
    if v2 = 0 then (
    some ((-1000000001), M1)) else (
    bnI (rM_isIn x2 1 99 M1) fun v4 M3 =>
    if v4 = 0 then (
    some ((-1000000001), M3)) else (
    rdA (M3 1) 4210 5 fun v5 =>
    if v5 = 20 then (
    some ((-1000000003), M3)) else (
    rdA (M3 1) 4210 5 fun v6 =>
    nm (w32 (3710 + (w32 (3 * v6)))) fun v7 =>
    wrA M3 1 4210 v7 (w32 (1 - x1)) fun M8 =>
    rdA (M8 1) 4210 0 fun v9 =>
    wrA M8 1 4210 (w32 (v7 + 1)) (w32 (v9 + x2)) fun M10 =>
    rdA (M10 1) 4210 (w32 (15 + x1)) fun v11 =>
    wrA M10 1 4210 (w32 (v7 + 2)) v11 fun M12 =>
    rdA (M12 1) 4210 5 fun v13 =>
    wrA M12 1 4210 5 (w32 (v13 + 1)) fun M14 =>
    rdA (M14 1) 4210 5 fun v15 =>
    some (v15, M14))))
def rmX12_letter : Room := { frames := 2, cells := 0, slots := 0, locals := 45 }
def rM_call (x1 : Int) (x2 : Int) (x3 : Int) (M : Mem) : Option (Int × Mem) :=
    bnI (rM_isOf x1 4 M) fun v2 M1 =>
    if v2 = 0 then (
    some ((-1000000001), M1)) else (
    bnI (rM_isIn x2 0 9 M1) fun v4 M3 =>
    if v4 = 0 then (
    some ((-1000000001), M3)) else (
    bnI (rM_isIn x3 1 99 M3) fun v6 M5 =>
    if v6 = 0 then (
    some ((-1000000001), M5)) else (
    rdA (M5 1) 4210 6 fun v7 =>
    if v7 = 20 then (
    some ((-1000000003), M5)) else (
    rdA (M5 1) 4210 6 fun v8 =>
    nm (w32 (3770 + (w32 (3 * v8)))) fun v9 =>
    wrA M5 1 4210 v9 x1 fun M10 =>
    wrA M10 1 4210 (w32 (v9 + 1)) x2 fun M11 =>
    wrA M11 1 4210 (w32 (v9 + 2)) x3 fun M12 =>
    rdA (M12 1) 4210 6 fun v13 =>
    wrA M12 1 4210 6 (w32 (v13 + 1)) fun M14 =>
    bnI (rM_calls x1 M14) fun v16 M15 =>
    some (v16, M15)))))
def rmX12_call : Room := { frames := 3, cells := 0, slots := 0, locals := 68 }
def lpX12_come_70 (y1 : Int) (y2 : Int) (y3 : Int) (k106 : Mem → Option (Mem)) : Nat → Int → Mem → Option (Mem)
  | 0, _, _ => none
  | n + 1, u4, M =>
    if u4 < 3 then (
    rdA (M 1) 4210 (w32 (y3 + u4)) fun v9 =>
    wrA M 1 4210 (w32 ((w32 (3710 + (w32 (3 * y1)))) + u4)) v9 fun M10 =>
    nm (w32 (u4 + 1)) fun v11 =>
    lpX12_come_70 y1 y2 y3 k106 n v11 M10) else (
    k106 M)
def lpX12_come_4 (k115 : Int → Mem → Option (Mem)) : Nat → Int → Int → Mem → Option (Mem)
  | 0, _, _, _ => none
  | n + 1, u1, u2, M =>
    rdA (M 1) 4210 5 fun v1 =>
    if u2 < v1 then (
    nm (w32 (3710 + (w32 (3 * u2)))) fun v2 =>
    rdA (M 1) 4210 (w32 (v2 + 1)) fun v3 =>
    rdA (M 1) 4210 0 fun v4 =>
    jn (fun (p5 : Int) (M7 : Mem) =>
    nm (w32 (u2 + 1)) fun v8 =>
    lpX12_come_4 k115 n p5 v8 M7) fun j6 =>
    if v4 < v3 then (
    lpX12_come_70 u1 u2 v2 (fun M12 =>
    nm (w32 (u1 + 1)) fun v13 =>
    j6 v13 M12) FU 0 M) else (
    rdA (M 1) 4210 v2 fun v14 =>
    rdA (M 1) 4210 (w32 (15 + v14)) fun v15 =>
    rdA (M 1) 4210 (w32 (v2 + 2)) fun v16 =>
    wrA M 1 4210 (w32 (15 + v14)) (bOr v15 v16) fun M17 =>
    j6 u1 M17)) else (
    k115 u1 M)
def rM_come (M : Mem) : Option (Mem) :=
    lpX12_come_4 (fun v18 M19 =>
    wrA M19 1 4210 5 v18 fun M20 =>
    some M20) FU 0 0 M
def rmX12_come : Room := { frames := 0, cells := 0, slots := 0, locals := 0 }
def rM_isOpenNow (x1 : Int) (M : Mem) : Option (Int × Mem) :=
    rdA (M 1) 4210 0 fun v1 =>
    nm (w32 (Int.tmod v1 24)) fun v2 =>
    bnI (rM_tieAt x1 M) fun v4 M3 =>
    rdA (M3 1) 4210 (w32 (v4 + 4)) fun v5 =>
    bnI (rM_tieAt x1 M3) fun v7 M6 =>
    rdA (M6 1) 4210 (w32 (v7 + 5)) fun v8 =>
    if v8 < v5 then (
    if v2 < v5 then (
    if v8 < v2 then (
    some (0, M6)) else (
    some (1, M6))) else (
    some (1, M6))) else (
    bnI (rM_isIn v2 v5 v8 M6) fun v10 M9 =>
    if v10 = 0 ∨ v10 = 1 then some (v10, M9) else none)
def rmX12_isOpenNow : Room := { frames := 1, cells := 0, slots := 0, locals := 25 }
def lpX12_firstAt_4 (y1 : Int) : Nat → Int → Int → Mem → Option (Int × Mem)
  | 0, _, _, _ => none
  | n + 1, u2, u3, M =>
    rdA (M 1) 4210 2 fun v1 =>
    if u3 < v1 then (
    bnI (rM_personAt u3 M) fun v3 M2 =>
    rdA (M2 1) 4210 (w32 (v3 + 4)) fun v4 =>
    jn (fun (p5 : Int) (M7 : Mem) =>
    nm (w32 (u3 + 1)) fun v8 =>
    lpX12_firstAt_4 y1 n p5 v8 M7) fun j6 =>
    if v4 = y1 then (
    jn (fun  (M10 : Mem) =>
    j6 u3 M10) fun j9 =>
    if u2 < 0 then (
    j9 M2) else (
    bnI (rM_personAt u3 M2) fun v12 M11 =>
    rdA (M11 1) 4210 (w32 (v12 + 6)) fun v13 =>
    bnI (rM_personAt u2 M11) fun v15 M14 =>
    rdA (M14 1) 4210 (w32 (v15 + 6)) fun v16 =>
    if v13 < v16 then (
    j9 M14) else (
    j6 u2 M14))) else (
    j6 u2 M2)) else (
    some (u2, M))
def rM_firstAt (x1 : Int) (M : Mem) : Option (Int × Mem) :=
    lpX12_firstAt_4 x1 FU (-1) 0 M
def rmX12_firstAt : Room := { frames := 1, cells := 0, slots := 0, locals := 21 }
def rM_crosses (x1 : Int) (x2 : Int) (M : Mem) : Option (Mem) :=
    bnI (rM_personAt x1 M) fun v2 M1 =>
    bnI (rM_ownSide x1 M1) fun v4 M3 =>
    bnI (rM_tieAt x2 M3) fun v6 M5 =>
    rdA (M5 1) 4210 (w32 (v6 + 1)) fun v7 =>
    bnI (rM_tieAt x2 M5) fun v9 M8 =>
    rdA (M8 1) 4210 (w32 (v9 + 2)) fun v10 =>
    rdA (M8 1) 4210 (w32 (v2 + 5)) fun v11 =>
    bnI (rM_tieAt v11 M8) fun v13 M12 =>
    bnI (rM_sideOf v7 M12) fun v15 M14 =>
    jn (fun (p16 : Int) (M18 : Mem) =>
    wrA M18 1 4210 (w32 (v2 + 3)) p16 fun M19 =>
    wrA M19 1 4210 (w32 (v2 + 4)) (-1) fun M20 =>
    wrA M20 1 4210 (w32 (v2 + 5)) (-1) fun M21 =>
    wrA M21 1 4210 (w32 (v13 + 6)) 1 fun M22 =>
    rdA (M22 1) 4210 0 fun v23 =>
    rdA (M22 1) 4210 (w32 (v13 + 3)) fun v24 =>
    wrA M22 1 4210 (w32 (v13 + 9)) (w32 (v23 + v24)) fun M25 =>
    rdA (M25 1) 4210 (w32 (16 - v4)) fun v26 =>
    rdA (M25 1) 4210 (w32 (15 + v4)) fun v27 =>
    wrA M25 1 4210 (w32 (16 - v4)) (bOr v26 v27) fun M28 =>
    some M28) fun j17 =>
    jn (fun  (M30 : Mem) =>
    j17 v10 M30) fun j29 =>
    if v15 = v4 then (
    j29 M14) else (
    bnI (rM_sideOf v10 M14) fun v32 M31 =>
    if v32 = v4 then (
    j17 v7 M31) else (
    j29 M31))
def rmX12_crosses : Room := { frames := 3, cells := 0, slots := 0, locals := 63 }
def lpX12_lets_2 (y1 : Int) : Nat → Int → Mem → Option (Mem)
  | 0, _, _ => none
  | n + 1, u2, M =>
    bnI (rM_tieAt y1 M) fun v2 M1 =>
    rdA (M1 1) 4210 (w32 (v2 + 3)) fun v3 =>
    if u2 < v3 then (
    bnI (rM_firstAt y1 M1) fun v5 M4 =>
    jn (fun  (M7 : Mem) =>
    nm (w32 (u2 + 1)) fun v8 =>
    lpX12_lets_2 y1 n v8 M7) fun j6 =>
    if v5 < 0 then (
    j6 M4) else (
    bnV (rM_crosses v5 y1 M4) fun M9 =>
    j6 M9)) else (
    some M1)
def rM_lets (x1 : Int) (M : Mem) : Option (Mem) :=
    lpX12_lets_2 x1 FU 0 M
def rmX12_lets : Room := { frames := 4, cells := 0, slots := 0, locals := 90 }
def rM_returns (x1 : Int) (M : Mem) : Option (Mem) :=
    bnI (rM_tieAt x1 M) fun v2 M1 =>
    rdA (M1 1) 4210 (w32 (v2 + 1)) fun v3 =>
    wrA M1 1 4210 (w32 (v2 + 6)) 2 fun M4 =>
    bnI (rM_isDead v3 M4) fun v6 M5 =>
    if v6 = 0 then (
    bnV (rM_goesHome v3 M5) fun M7 =>
    bnI (rM_ownSide v3 M7) fun v9 M8 =>
    rdA (M8 1) 4210 (w32 (15 + v9)) fun v10 =>
    rdA (M8 1) 4210 (w32 (16 - v9)) fun v11 =>
    wrA M8 1 4210 (w32 (15 + v9)) (bOr v10 v11) fun M12 =>
    some M12) else (
    some M5)
def rmX12_returns : Room := { frames := 3, cells := 0, slots := 0, locals := 63 }
def lpX12_nextCall_4 (y1 : Int) : Nat → Int → Int → Mem → Option (Int × Mem)
  | 0, _, _, _ => none
  | n + 1, u2, u3, M =>
    rdA (M 1) 4210 6 fun v1 =>
    if u3 < v1 then (
    rdA (M 1) 4210 (w32 (3770 + (w32 (3 * u3)))) fun v2 =>
    jn (fun (p3 : Int) (M5 : Mem) =>
    jn (fun (p6 : Int) (M8 : Mem) =>
    nm (w32 (u3 + 1)) fun v9 =>
    lpX12_nextCall_4 y1 n p6 v9 M8) fun j7 =>
    jn (fun  (M11 : Mem) =>
    j7 u2 M11) fun j10 =>
    if p3 = 0 then (
    j10 M5) else (
    jn (fun  (M13 : Mem) =>
    j7 u3 M13) fun j12 =>
    if u2 < 0 then (
    j12 M5) else (
    rdA (M5 1) 4210 (w32 ((w32 (3770 + (w32 (3 * u3)))) + 1)) fun v14 =>
    rdA (M5 1) 4210 (w32 ((w32 (3770 + (w32 (3 * u2)))) + 1)) fun v15 =>
    if v15 < v14 then (
    j12 M5) else (
    j10 M5)))) fun j4 =>
    jn (fun  (M17 : Mem) =>
    j4 0 M17) fun j16 =>
    if v2 = y1 then (
    rdA (M 1) 4210 (w32 ((w32 (3770 + (w32 (3 * u3)))) + 2)) fun v18 =>
    if 0 < v18 then (
    j4 1 M) else (
    j16 M)) else (
    j16 M)) else (
    some (u2, M))
def rM_nextCall (x1 : Int) (M : Mem) : Option (Int × Mem) :=
    lpX12_nextCall_4 x1 FU (-1) 0 M
def rmX12_nextCall : Room := { frames := 0, cells := 0, slots := 0, locals := 0 }
def lpX12_speaks_19 (y1 : Int) (k131 : Mem → Option (Mem)) : Nat → Int → Int → Mem → Option (Mem)
  | 0, _, _, _ => none
  | n + 1, u2, u3, M =>
    if u3 < 0 then (
    k131 M) else (
    if 0 < u2 then (
    rdA (M 1) 4210 (w32 ((w32 (3770 + (w32 (3 * u3)))) + 2)) fun v6 =>
    bnI (rM_least u2 v6 M) fun v8 M7 =>
    nm (w32 (u2 - v8)) fun v9 =>
    rdA (M7 1) 4210 (w32 ((w32 (3770 + (w32 (3 * u3)))) + 2)) fun v10 =>
    wrA M7 1 4210 (w32 ((w32 (3770 + (w32 (3 * u3)))) + 2)) (w32 (v10 - v8)) fun M11 =>
    rdA (M11 1) 4210 (w32 ((w32 (3770 + (w32 (3 * u3)))) + 2)) fun v12 =>
    jn (fun  (M14 : Mem) =>
    bnI (rM_nextCall y1 M14) fun v16 M15 =>
    lpX12_speaks_19 y1 k131 n v9 v16 M15) fun j13 =>
    if v12 = 0 then (
    rdA (M11 1) 4210 15 fun v17 =>
    rdA (M11 1) 4210 16 fun v18 =>
    wrA M11 1 4210 15 (bOr v17 v18) fun M19 =>
    rdA (M19 1) 4210 16 fun v20 =>
    rdA (M19 1) 4210 15 fun v21 =>
    wrA M19 1 4210 16 (bOr v20 v21) fun M22 =>
    j13 M22) else (
    j13 M11)) else (
    k131 M))
def lpX12_speaks_177 (y4 : Int) (y5 : Int) (y6 : Int) (k226 : Mem → Option (Mem)) : Nat → Int → Mem → Option (Mem)
  | 0, _, _ => none
  | n + 1, u7, M =>
    if u7 < 3 then (
    if y6 = 0 then (
    rdA (M 1) 4210 (w32 ((w32 (3770 + (w32 (3 * y5)))) + u7)) fun v29 =>
    wrA M 1 4210 (w32 ((w32 (3770 + (w32 (3 * y4)))) + u7)) v29 fun M30 =>
    nm (w32 (u7 + 1)) fun v31 =>
    lpX12_speaks_177 y4 y5 y6 k226 n v31 M30) else (
    k226 M)) else (
    k226 M)
def lpX12_speaks_137 (k247 : Int → Mem → Option (Mem)) : Nat → Int → Int → Mem → Option (Mem)
  | 0, _, _, _ => none
  | n + 1, u4, u5, M =>
    rdA (M 1) 4210 6 fun v24 =>
    if u5 < v24 then (
    rdA (M 1) 4210 (w32 ((w32 (3770 + (w32 (3 * u5)))) + 2)) fun v25 =>
    jn (fun (p26 : Int) (M28 : Mem) =>
    lpX12_speaks_177 u4 u5 p26 (fun M32 =>
    jn (fun (p33 : Int) (M35 : Mem) =>
    nm (w32 (u4 + p33)) fun v36 =>
    nm (w32 (u5 + 1)) fun v37 =>
    lpX12_speaks_137 k247 n v36 v37 M35) fun j34 =>
    if p26 = 0 then (
    j34 1 M32) else (
    j34 0 M32)) FU 0 M28) fun j27 =>
    if v25 = 0 then (
    j27 1 M) else (
    j27 0 M)) else (
    k247 u4 M)
def rM_speaks (x1 : Int) (M : Mem) : Option (Mem) :=
    bnI (rM_tieAt x1 M) fun v2 M1 =>
    rdA (M1 1) 4210 (w32 (v2 + 3)) fun v3 =>
    bnI (rM_nextCall x1 M1) fun v5 M4 =>
    lpX12_speaks_19 x1 (fun M23 =>
    lpX12_speaks_137 (fun v38 M39 =>
    wrA M39 1 4210 6 v38 fun M40 =>
    some M40) FU 0 0 M23) FU v3 v5 M4
def rmX12_speaks : Room := { frames := 1, cells := 0, slots := 0, locals := 24 }
def lpX12_hour_6 (k49 : Mem → Option (Mem)) : Nat → Int → Mem → Option (Mem)
  | 0, _, _ => none
  | n + 1, u1, M =>
    rdA (M 1) 4210 3 fun v2 =>
    if u1 < v2 then (
    bnI (rM_tieAt u1 M) fun v4 M3 =>
    rdA (M3 1) 4210 v4 fun v5 =>
    jn (fun  (M7 : Mem) =>
    nm (w32 (u1 + 1)) fun v8 =>
    lpX12_hour_6 k49 n v8 M7) fun j6 =>
    if v5 = 1 then (
    bnI (rM_isOpenNow u1 M3) fun v10 M9 =>
    if v10 = 0 then (
    j6 M9) else (
    bnV (rM_lets u1 M9) fun M11 =>
    j6 M11)) else (
    j6 M3)) else (
    k49 M)
def lpX12_hour_51 (k126 : Mem → Option (Mem)) : Nat → Int → Mem → Option (Mem)
  | 0, _, _ => none
  | n + 1, u1, M =>
    rdA (M 1) 4210 3 fun v13 =>
    if u1 < v13 then (
    bnI (rM_tieAt u1 M) fun v15 M14 =>
    rdA (M14 1) 4210 v15 fun v16 =>
    jn (fun  (M18 : Mem) =>
    nm (w32 (u1 + 1)) fun v19 =>
    lpX12_hour_51 k126 n v19 M18) fun j17 =>
    if v16 = 6 then (
    bnI (rM_tieAt u1 M14) fun v21 M20 =>
    rdA (M20 1) 4210 (w32 (v21 + 6)) fun v22 =>
    if v22 = 1 then (
    bnI (rM_tieAt u1 M20) fun v24 M23 =>
    rdA (M23 1) 4210 (w32 (v24 + 9)) fun v25 =>
    rdA (M23 1) 4210 0 fun v26 =>
    if v26 < v25 then (
    j17 M23) else (
    bnV (rM_returns u1 M23) fun M27 =>
    j17 M27)) else (
    j17 M20)) else (
    j17 M14)) else (
    k126 M)
def lpX12_hour_128 (k213 : Mem → Option (Mem)) : Nat → Int → Mem → Option (Mem)
  | 0, _, _ => none
  | n + 1, u1, M =>
    rdA (M 1) 4210 3 fun v29 =>
    if u1 < v29 then (
    bnI (rM_tieAt u1 M) fun v31 M30 =>
    rdA (M30 1) 4210 v31 fun v32 =>
    jn (fun  (M34 : Mem) =>
    nm (w32 (u1 + 1)) fun v35 =>
    lpX12_hour_128 k213 n v35 M34) fun j33 =>
    if v32 = 6 then (
    bnI (rM_tieAt u1 M30) fun v37 M36 =>
    rdA (M36 1) 4210 (w32 (v37 + 6)) fun v38 =>
    if v38 = 0 then (
    bnI (rM_tieAt u1 M36) fun v40 M39 =>
    rdA (M39 1) 4210 (w32 (v40 + 5)) fun v41 =>
    bnI (rM_day M39) fun v43 M42 =>
    if v41 < v43 then (
    bnI (rM_tieAt u1 M42) fun v45 M44 =>
    wrA M44 1 4210 (w32 (v45 + 6)) 2 fun M46 =>
    bnV (rM_sendHome u1 M46) fun M47 =>
    j33 M47) else (
    j33 M42)) else (
    j33 M36)) else (
    j33 M30)) else (
    k213 M)
def lpX12_hour_215 (k250 : Mem → Option (Mem)) : Nat → Int → Mem → Option (Mem)
  | 0, _, _ => none
  | n + 1, u1, M =>
    rdA (M 1) 4210 3 fun v49 =>
    if u1 < v49 then (
    bnI (rM_tieAt u1 M) fun v51 M50 =>
    rdA (M50 1) 4210 v51 fun v52 =>
    jn (fun  (M54 : Mem) =>
    nm (w32 (u1 + 1)) fun v55 =>
    lpX12_hour_215 k250 n v55 M54) fun j53 =>
    if v52 = 4 then (
    bnV (rM_speaks u1 M50) fun M56 =>
    j53 M56) else (
    j53 M50)) else (
    k250 M)
def rM_hour (M : Mem) : Option (Mem) :=
    bnV (rM_come M) fun M1 =>
    lpX12_hour_6 (fun M12 =>
    lpX12_hour_51 (fun M28 =>
    lpX12_hour_128 (fun M48 =>
    lpX12_hour_215 (fun M57 =>
    rdA (M57 1) 4210 0 fun v58 =>
    wrA M57 1 4210 0 (w32 (v58 + 1)) fun M59 =>
    some M59) FU 0 M48) FU 0 M28) FU 0 M12) FU 0 M1
def rmX12_hour : Room := { frames := 5, cells := 0, slots := 0, locals := 113 }
def lpX12_run_34 (y1 : Int) : Nat → Int → Mem → Option (Int × Mem)
  | 0, _, _ => none
  | n + 1, u2, M =>
    if u2 < y1 then (
    bnV (rM_hour M) fun M5 =>
    nm (w32 (u2 + 1)) fun v6 =>
    lpX12_run_34 y1 n v6 M5) else (
    rdA (M 1) 4210 0 fun v4 =>
    some (v4, M))
def rM_run (x1 : Int) (M : Mem) : Option (Int × Mem) :=
    bnI (rM_isIn x1 1 100 M) fun v2 M1 =>
    if v2 = 0 then (
    some ((-1000000001), M1)) else (
    rdA (M1 1) 4210 0 fun v3 =>
    if 9999 < w32 (v3 + x1) then (
    some ((-1000000003), M1)) else (
    lpX12_run_34 x1 FU 0 M1))
def rmX12_run : Room := { frames := 6, cells := 0, slots := 0, locals := 134 }
def lpX12_feed_18 (y1 : Int) (y2 : Int) (y3 : Int) : Nat → Int → Mem → Option (Int × Mem)
  | 0, _, _ => none
  | n + 1, u4, M =>
    if u4 < 12 then (
    jn (fun (p1 : Int) (M3 : Mem) =>
    wrA M3 8 96 (M3 0 9) (bAnd (bShr p1 (w32 (24 - (w32 (8 * (w32 (Int.tmod u4 4))))))) 255) fun M4 =>
    wrF M4 0 9 (w32 ((M4 0 9) + 1)) fun M5 =>
    nm (w32 (u4 + 1)) fun v6 =>
    lpX12_feed_18 y1 y2 y3 n v6 M5) fun j2 =>
    if u4 < 4 then (
    j2 y1 M) else (
    if u4 < 8 then (
    j2 y2 M) else (
    j2 y3 M))) else (
    some (M 0 9, M))
def rM_feed (x1 : Int) (x2 : Int) (x3 : Int) (M : Mem) : Option (Int × Mem) :=
    if 96 < w32 ((M 0 9) + 12) then (
    some ((-1000000003), M)) else (
    lpX12_feed_18 x1 x2 x3 FU 0 M)
def rmX12_feed : Room := { frames := 0, cells := 0, slots := 0, locals := 0 }
def rM_trim (x1 : Int) (M : Mem) : Option (Int × Mem) :=
    bnI (rM_isIn x1 0 (M 0 9) M) fun v2 M1 =>
    if v2 = 0 then (
    some ((-1000000001), M1)) else (
    wrF M1 0 9 x1 fun M3 =>
    some (x1, M3))
def rmX12_trim : Room := { frames := 1, cells := 0, slots := 0, locals := 25 }
def rM_isWordAt (x1 : Int) (x2 : Int) (x3 : Int) (x4 : Int) (x5 : Int) (M : Mem) : Option (Int × Mem) :=
    jn (fun (p1 : Int) (M3 : Mem) =>
    jn (fun (p4 : Int) (M6 : Mem) =>
    if p4 = 0 then (
    some (0, M6)) else (
    if x5 = 0 then (
    some (1, M6)) else (
    rdA (M6 8) 96 (w32 ((M6 0 10) + 4)) fun v7 =>
    if v7 = x5 then (
    some (1, M6)) else (
    some (0, M6))))) fun j5 =>
    jn (fun  (M9 : Mem) =>
    j5 0 M9) fun j8 =>
    if M3 0 12 = 1 then (
    if w32 ((M3 0 11) - (M3 0 10)) = p1 then (
    rdA (M3 8) 96 (M3 0 10) fun v10 =>
    if v10 = x1 then (
    rdA (M3 8) 96 (w32 ((M3 0 10) + 1)) fun v11 =>
    if v11 = x2 then (
    rdA (M3 8) 96 (w32 ((M3 0 10) + 2)) fun v12 =>
    if v12 = x3 then (
    rdA (M3 8) 96 (w32 ((M3 0 10) + 3)) fun v13 =>
    if v13 = x4 then (
    j5 1 M3) else (
    j8 M3)) else (
    j8 M3)) else (
    j8 M3)) else (
    j8 M3)) else (
    j8 M3)) else (
    j8 M3)) fun j2 =>
    if x5 = 0 then (
    j2 4 M) else (
    j2 5 M)
def rmX12_isWordAt : Room := { frames := 0, cells := 0, slots := 0, locals := 0 }
def rM_isPay (M : Mem) : Option (Int × Mem) :=
    if M 0 12 = 1 then (
    if w32 ((M 0 11) - (M 0 10)) = 3 then (
    rdA (M 8) 96 (M 0 10) fun v1 =>
    if v1 = 112 then (
    rdA (M 8) 96 (w32 ((M 0 10) + 1)) fun v2 =>
    if v2 = 97 then (
    rdA (M 8) 96 (w32 ((M 0 10) + 2)) fun v3 =>
    if v3 = 121 then (
    some (1, M)) else (
    some (0, M))) else (
    some (0, M))) else (
    some (0, M))) else (
    some (0, M))) else (
    some (0, M))
def rmX12_isPay : Room := { frames := 0, cells := 0, slots := 0, locals := 0 }
def rM_key (M : Mem) : Option (Int × Mem) :=
    bnI (rM_isWordAt 99 114 111 115 115 M) fun v2 M1 =>
    if v2 = 0 then (
    bnI (rM_isWordAt 99 97 114 114 121 M1) fun v4 M3 =>
    if v4 = 0 then (
    bnI (rM_isWordAt 104 97 108 116 0 M3) fun v6 M5 =>
    if v6 = 0 then (
    bnI (rM_isWordAt 104 111 117 115 101 M5) fun v8 M7 =>
    if v8 = 0 then (
    bnI (rM_isPay M7) fun v10 M9 =>
    if v10 = 0 then (
    some ((-1), M9)) else (
    some (4, M9))) else (
    some (3, M7))) else (
    some (2, M5))) else (
    some (1, M3))) else (
    some (0, M1))
def rmX12_key : Room := { frames := 1, cells := 0, slots := 0, locals := 27 }
def rM_of (x1 : Int) (x2 : Int) (M : Mem) : Option (Int × Mem) :=
    bnI (rM_isText x1 M) fun v2 M1 =>
    if v2 = 0 then (
    some ((-1000000001), M1)) else (
    bnI (rM_isIn x2 0 4 M1) fun v4 M3 =>
    if v4 = 0 then (
    some ((-1000000001), M3)) else (
    bnI (rM_textAt x1 M3) fun v6 M5 =>
    rdA (M5 1) 4210 (w32 (v6 + x2)) fun v7 =>
    if x2 = 3 then (
    bnI (rM_orNone v7 M5) fun v9 M8 =>
    some (v9, M8)) else (
    some (v7, M5))))
def rmX12_of : Room := { frames := 2, cells := 0, slots := 0, locals := 46 }
def rM_strike (x1 : Int) (M : Mem) : Option (Int × Mem) :=
    bnI (rM_isText x1 M) fun v2 M1 =>
    if v2 = 0 then (
    some ((-1000000001), M1)) else (
    bnI (rM_textAt x1 M1) fun v4 M3 =>
    rdA (M3 1) 4210 (w32 (v4 + 3)) fun v5 =>
    if v5 < 0 then (
    bnI (rM_textAt x1 M3) fun v7 M6 =>
    bnI (rM_day M6) fun v9 M8 =>
    wrA M8 1 4210 (w32 (v7 + 3)) (w32 (v9 + 1)) fun M10 =>
    some (1, M10)) else (
    some ((-1000000002), M3)))
def rmX12_strike : Room := { frames := 2, cells := 0, slots := 0, locals := 46 }
def rM_counts (x1 : Int) (x2 : Int) (M : Mem) : Option (Int × Mem) :=
    bnI (rM_isSide x1 M) fun v2 M1 =>
    if v2 = 0 then (
    some ((-1000000001), M1)) else (
    bnI (rM_isIn x2 0 4 M1) fun v4 M3 =>
    if v4 = 0 then (
    some ((-1000000001), M3)) else (
    bnI (rM_countsFor x1 x2 M3) fun v6 M5 =>
    bnI (rM_orNone v6 M5) fun v8 M7 =>
    some (v8, M7)))
def rmX12_counts : Room := { frames := 2, cells := 0, slots := 0, locals := 47 }
def rM_may (x1 : Int) (x2 : Int) (M : Mem) : Option (Int × Mem) :=
    bnI (rM_isOf x1 6 M) fun v2 M1 =>
    if v2 = 0 then (
    some ((-1000000001), M1)) else (
    bnI (rM_isSide x2 M1) fun v4 M3 =>
    if v4 = 0 then (
    some ((-1000000001), M3)) else (
    bnI (rM_mayCross x1 x2 M3) fun v6 M5 =>
    if v6 = 0 then (
    some (0, M5)) else (
    some (1, M5))))
def rmX12_may : Room := { frames := 4, cells := 0, slots := 0, locals := 98 }
def lpX12_unlike_86 (y1 : Int) (y2 : Int) (y3 : Int) (k200 : Int → Int → Mem → Option (Int × Mem)) : Nat → Int → Int → Int → Mem → Option (Int × Mem)
  | 0, _, _, _, _ => none
  | n + 1, u4, u5, u6, M =>
    if u6 < 4000 then (
    wrA M 9 128 97 (w32 (Int.tdiv u6 40)) fun M16 =>
    wrA M16 9 128 112 (w32 (Int.tmod (w32 (Int.tdiv u6 10)) 4)) fun M17 =>
    wrA M17 9 128 107 (w32 (Int.tmod u6 10)) fun M18 =>
    bnI (rM_worked y1 M18) fun v20 M19 =>
    jn (fun (p21 : Int) (M23 : Mem) =>
    bnI (rM_worked y2 M23) fun v25 M24 =>
    jn (fun (p26 : Int) (M28 : Mem) =>
    jn (fun (p29 : Int) (p30 : Int) (M32 : Mem) =>
    nm (w32 (u6 + 1)) fun v33 =>
    lpX12_unlike_86 y1 y2 y3 k200 n p29 p30 v33 M32) fun j31 =>
    if p21 = p26 then (
    j31 u4 u5 M28) else (
    jn (fun (p34 : Int) (M36 : Mem) =>
    nm (w32 (u4 + 1)) fun v37 =>
    j31 v37 p34 M36) fun j35 =>
    if u4 = 0 then (
    j35 (w32 ((w32 (100 * (w32 (Int.tdiv u6 40)))) + (w32 (Int.tmod u6 40)))) M28) else (
    j35 u5 M28))) fun j27 =>
    if v25 = 0 then (
    j27 0 M24) else (
    j27 1 M24)) fun j22 =>
    if v20 = 0 then (
    j22 0 M19) else (
    j22 1 M19)) else (
    k200 u4 u5 M)
def rM_unlike (x1 : Int) (x2 : Int) (x3 : Int) (M : Mem) : Option (Int × Mem) :=
    bnI (rM_isText x1 M) fun v2 M1 =>
    if v2 = 0 then (
    some ((-1000000001), M1)) else (
    bnI (rM_isText x2 M1) fun v4 M3 =>
    if v4 = 0 then (
    some ((-1000000001), M3)) else (
    bnI (rM_isIn x3 0 1 M3) fun v6 M5 =>
    if v6 = 0 then (
    some ((-1000000001), M5)) else (
    bnI (rM_textAt x1 M5) fun v8 M7 =>
    rdA (M7 1) 4210 (w32 (v8 + 0)) fun v9 =>
    if v9 = 0 then (
    bnI (rM_textAt x2 M7) fun v11 M10 =>
    rdA (M10 1) 4210 (w32 (v11 + 0)) fun v12 =>
    if v12 = 0 then (
    bnI (rM_day M10) fun v14 M13 =>
    wrA M13 9 128 100 (w32 (Int.tmod v14 7)) fun M15 =>
    lpX12_unlike_86 x1 x2 x3 (fun v38 v39 M40 =>
    if x3 = 0 then (
    some (v38, M40)) else (
    some (v39, M40))) FU 0 (-1000000005) 0 M15) else (
    some ((-1000000012), M10))) else (
    some ((-1000000012), M7)))))
def rmX12_unlike : Room := { frames := 2, cells := 0, slots := 0, locals := 47 }
def lpX12_visitsOf_17 (y1 : Int) (y3 : Int) (k112 : Int → Mem → Option (Int × Mem)) : Nat → Int → Int → Mem → Option (Int × Mem)
  | 0, _, _, _ => none
  | n + 1, u2, u4, M =>
    rdA (M 1) 4210 2 fun v2 =>
    if u4 < v2 then (
    bnI (rM_isDead y3 M) fun v4 M3 =>
    jn (fun (p5 : Int) (M7 : Mem) =>
    jn (fun (p8 : Int) (M10 : Mem) =>
    nm (w32 (u2 + p8)) fun v11 =>
    nm (w32 (u4 + 1)) fun v12 =>
    lpX12_visitsOf_17 y1 y3 k112 n v11 v12 M10) fun j9 =>
    jn (fun  (M14 : Mem) =>
    j9 0 M14) fun j13 =>
    if p5 = 0 then (
    j13 M7) else (
    bnI (rM_letsVisit 0 y3 u4 M7) fun v16 M15 =>
    if v16 = 0 then (
    j13 M15) else (
    bnI (rM_letsVisit 1 y3 u4 M15) fun v18 M17 =>
    if v18 = 0 then (
    j13 M17) else (
    j9 1 M17)))) fun j6 =>
    jn (fun  (M20 : Mem) =>
    j6 0 M20) fun j19 =>
    if v4 = 0 then (
    bnI (rM_isDead u4 M3) fun v22 M21 =>
    if v22 = 0 then (
    bnI (rM_ownSide y3 M21) fun v24 M23 =>
    if v24 = y1 then (
    bnI (rM_ownSide u4 M23) fun v26 M25 =>
    if v26 = y1 then (
    j19 M25) else (
    j6 1 M25)) else (
    j19 M23)) else (
    j19 M21)) else (
    j19 M3)) else (
    k112 u2 M)
def lpX12_visitsOf_4 (y1 : Int) : Nat → Int → Int → Mem → Option (Int × Mem)
  | 0, _, _, _ => none
  | n + 1, u2, u3, M =>
    rdA (M 1) 4210 2 fun v1 =>
    if u3 < v1 then (
    lpX12_visitsOf_17 y1 u3 (fun v27 M28 =>
    nm (w32 (u3 + 1)) fun v29 =>
    lpX12_visitsOf_4 y1 n v27 v29 M28) FU u2 0 M) else (
    some (u2, M))
def rM_visitsOf (x1 : Int) (M : Mem) : Option (Int × Mem) :=
    lpX12_visitsOf_4 x1 FU 0 0 M
def rmX12_visitsOf : Room := { frames := 3, cells := 0, slots := 0, locals := 71 }
def rM_visits (x1 : Int) (M : Mem) : Option (Int × Mem) :=
    bnI (rM_isSide x1 M) fun v2 M1 =>
    if v2 = 0 then (
    some ((-1000000001), M1)) else (
    bnV (rM_findKin M1) fun M3 =>
    bnI (rM_visitsOf x1 M3) fun v5 M4 =>
    some (v5, M4))
def rmX12_visits : Room := { frames := 4, cells := 0, slots := 0, locals := 96 }
def rM_changed (x1 : Int) (M : Mem) : Option (Int × Mem) :=
    bnI (rM_isText x1 M) fun v2 M1 =>
    if v2 = 0 then (
    some ((-1000000001), M1)) else (
    bnI (rM_textAt x1 M1) fun v4 M3 =>
    rdA (M3 1) 4210 (w32 (v4 + 0)) fun v5 =>
    if v5 = 0 then (
    bnV (rM_findKin M3) fun M6 =>
    bnI (rM_visitsOf 0 M6) fun v8 M7 =>
    bnI (rM_visitsOf 1 M7) fun v10 M9 =>
    nm (w32 (v8 + v10)) fun v11 =>
    wrF M9 0 20 x1 fun M12 =>
    bnI (rM_visitsOf 0 M12) fun v14 M13 =>
    bnI (rM_visitsOf 1 M13) fun v16 M15 =>
    nm (w32 (v14 + v16)) fun v17 =>
    wrF M15 0 20 (-1) fun M18 =>
    some (w32 (v17 - v11), M18)) else (
    some ((-1000000012), M3)))
def rmX12_changed : Room := { frames := 4, cells := 0, slots := 0, locals := 96 }
def rM_house (x1 : Int) (x2 : Int) (x3 : Int) (x4 : Int) (M : Mem) : Option (Int × Mem) :=
    bnI (rM_isSide x1 M) fun v2 M1 =>
    if v2 = 0 then (
    some ((-1000000001), M1)) else (
    bnI (rM_isIn x2 0 99 M1) fun v4 M3 =>
    if v4 = 0 then (
    some ((-1000000001), M3)) else (
    bnI (rM_isIn x3 0 99 M3) fun v6 M5 =>
    if v6 = 0 then (
    some ((-1000000001), M5)) else (
    bnI (rM_isIn x4 0 99 M5) fun v8 M7 =>
    if v8 = 0 then (
    some ((-1000000001), M7)) else (
    bnI (rM_countsFor x1 3 M7) fun v10 M9 =>
    wrA M9 9 128 100 (w32 ((w32 (Int.tdiv x2 10)) - (w32 (Int.tmod x2 10)))) fun M11 =>
    wrA M11 9 128 102 (w32 ((w32 (Int.tdiv x3 10)) - (w32 (Int.tmod x3 10)))) fun M12 =>
    wrA M12 9 128 112 (w32 ((w32 (Int.tdiv x4 10)) - (w32 (Int.tmod x4 10)))) fun M13 =>
    jn (fun (p14 : Int) (M16 : Mem) =>
    if 0 < p14 then (
    some (0, M16)) else (
    if p14 < 0 then (
    some (1, M16)) else (
    some (x1, M16)))) fun j15 =>
    if v10 < 0 then (
    j15 0 M13) else (
    bnI (rM_worked v10 M13) fun v18 M17 =>
    j15 v18 M17)))))
def rmX12_house : Room := { frames := 2, cells := 0, slots := 0, locals := 47 }
def lpX12_findWay_2 (k21 : Mem → Option (Int × Mem)) : Nat → Int → Mem → Option (Int × Mem)
  | 0, _, _ => none
  | n + 1, u1, M =>
    if u1 < 18 then (
    wrA M 12 18 u1 (-1) fun M1 =>
    nm (w32 (u1 + 1)) fun v2 =>
    lpX12_findWay_2 k21 n v2 M1) else (
    k21 M)
def lpX12_findWay_49 (y2 : Int) (k111 : Int → Mem → Option (Int × Mem)) : Nat → Int → Int → Mem → Option (Int × Mem)
  | 0, _, _, _ => none
  | n + 1, u1, u3, M =>
    if u3 < 18 then (
    rdA (M 12) 18 u3 fun v6 =>
    jn (fun (p7 : Int) (M9 : Mem) =>
    nm (w32 (u3 + 1)) fun v10 =>
    lpX12_findWay_49 y2 k111 n p7 v10 M9) fun j8 =>
    if v6 < 0 then (
    rdA (M 13) 18 y2 fun v11 =>
    rdA (M 11) 324 (w32 ((w32 (18 * v11)) + u3)) fun v12 =>
    if 0 < v12 then (
    rdA (M 13) 18 y2 fun v13 =>
    wrA M 12 18 u3 v13 fun M14 =>
    wrA M14 13 18 u1 u3 fun M15 =>
    nm (w32 (u1 + 1)) fun v16 =>
    j8 v16 M15) else (
    j8 u1 M)) else (
    j8 u1 M)) else (
    k111 u1 M)
def lpX12_findWay_42 (k117 : Mem → Option (Int × Mem)) : Nat → Int → Int → Mem → Option (Int × Mem)
  | 0, _, _, _ => none
  | n + 1, u1, u2, M =>
    if u2 < u1 then (
    lpX12_findWay_49 u2 (fun v17 M18 =>
    nm (w32 (u2 + 1)) fun v19 =>
    lpX12_findWay_42 k117 n v17 v19 M18) FU u1 0 M) else (
    k117 M)
def rM_findWay (M : Mem) : Option (Int × Mem) :=
    lpX12_findWay_2 (fun M3 =>
    wrA M3 12 18 16 16 fun M4 =>
    wrA M4 13 18 0 16 fun M5 =>
    lpX12_findWay_42 (fun M20 =>
    rdA (M20 12) 18 17 fun v21 =>
    if v21 < 0 then (
    some (0, M20)) else (
    some (1, M20))) FU 1 0 M5) FU 0 M
def rmX12_findWay : Room := { frames := 0, cells := 0, slots := 0, locals := 0 }
def lpX12_flowOf_2 (y1 : Int) (y2 : Int) (k22 : Mem → Option (Int × Mem)) : Nat → Int → Mem → Option (Int × Mem)
  | 0, _, _ => none
  | n + 1, u3, M =>
    if u3 < 324 then (
    wrA M 11 324 u3 0 fun M1 =>
    nm (w32 (u3 + 1)) fun v2 =>
    lpX12_flowOf_2 y1 y2 k22 n v2 M1) else (
    k22 M)
def lpX12_flowOf_24 (y1 : Int) (y2 : Int) (k103 : Mem → Option (Int × Mem)) : Nat → Int → Mem → Option (Int × Mem)
  | 0, _, _ => none
  | n + 1, u3, M =>
    rdA (M 1) 4210 1 fun v4 =>
    if u3 < v4 then (
    bnI (rM_cellAt u3 M) fun v6 M5 =>
    rdA (M5 1) 4210 (w32 (v6 + 2)) fun v7 =>
    wrA M5 11 324 (w32 (288 + u3)) v7 fun M8 =>
    bnI (rM_sideOf u3 M8) fun v10 M9 =>
    jn (fun (p11 : Int) (M13 : Mem) =>
    wrA M13 11 324 (w32 ((w32 (18 * u3)) + 17)) p11 fun M14 =>
    nm (w32 (u3 + 1)) fun v15 =>
    lpX12_flowOf_24 y1 y2 k103 n v15 M14) fun j12 =>
    if bAnd (bShr y1 v10) 1 = 1 then (
    bnI (rM_cellAt u3 M9) fun v17 M16 =>
    rdA (M16 1) 4210 (w32 (v17 + 1)) fun v18 =>
    j12 v18 M16) else (
    j12 0 M9)) else (
    k103 M)
def lpX12_flowOf_105 (y2 : Int) (k222 : Mem → Option (Int × Mem)) : Nat → Int → Mem → Option (Int × Mem)
  | 0, _, _ => none
  | n + 1, u3, M =>
    rdA (M 1) 4210 3 fun v20 =>
    if u3 < v20 then (
    bnI (rM_tieAt u3 M) fun v22 M21 =>
    rdA (M21 1) 4210 v22 fun v23 =>
    jn (fun  (M25 : Mem) =>
    nm (w32 (u3 + 1)) fun v26 =>
    lpX12_flowOf_105 y2 k222 n v26 M25) fun j24 =>
    if v23 = 3 then (
    if u3 = y2 then (
    j24 M21) else (
    rdA (M21 1) 4210 (w32 (v22 + 1)) fun v27 =>
    rdA (M21 1) 4210 (w32 (v22 + 2)) fun v28 =>
    rdA (M21 11) 324 (w32 ((w32 (18 * v27)) + v28)) fun v29 =>
    rdA (M21 1) 4210 (w32 (v22 + 3)) fun v30 =>
    wrA M21 11 324 (w32 ((w32 (18 * v27)) + v28)) (w32 (v29 + v30)) fun M31 =>
    rdA (M31 1) 4210 (w32 (v22 + 2)) fun v32 =>
    rdA (M31 1) 4210 (w32 (v22 + 1)) fun v33 =>
    rdA (M31 11) 324 (w32 ((w32 (18 * v32)) + v33)) fun v34 =>
    rdA (M31 1) 4210 (w32 (v22 + 3)) fun v35 =>
    wrA M31 11 324 (w32 ((w32 (18 * v32)) + v33)) (w32 (v34 + v35)) fun M36 =>
    j24 M36)) else (
    j24 M21)) else (
    k222 M)
def lpX12_flowOf_240 (y3 : Int) (k284 : Int → Mem → Option (Int × Mem)) : Nat → Int → Int → Mem → Option (Int × Mem)
  | 0, _, _, _ => none
  | n + 1, u4, u5, M =>
    if u5 = 16 then (
    k284 u4 M) else (
    rdA (M 12) 18 u5 fun v40 =>
    rdA (M 11) 324 (w32 ((w32 (18 * v40)) + u5)) fun v41 =>
    bnI (rM_least u4 v41 M) fun v43 M42 =>
    rdA (M42 12) 18 u5 fun v44 =>
    lpX12_flowOf_240 y3 k284 n v43 v44 M42)
def lpX12_flowOf_288 (y3 : Int) (y4 : Int) (k353 : Mem → Option (Int × Mem)) : Nat → Int → Mem → Option (Int × Mem)
  | 0, _, _ => none
  | n + 1, u5, M =>
    if u5 = 16 then (
    k353 M) else (
    rdA (M 12) 18 u5 fun v47 =>
    rdA (M 11) 324 (w32 ((w32 (18 * v47)) + u5)) fun v48 =>
    wrA M 11 324 (w32 ((w32 (18 * v47)) + u5)) (w32 (v48 - y4)) fun M49 =>
    rdA (M49 12) 18 u5 fun v50 =>
    rdA (M49 11) 324 (w32 ((w32 (18 * u5)) + v50)) fun v51 =>
    wrA M49 11 324 (w32 ((w32 (18 * u5)) + v50)) (w32 (v51 + y4)) fun M52 =>
    rdA (M52 12) 18 u5 fun v53 =>
    lpX12_flowOf_288 y3 y4 k353 n v53 M52)
def lpX12_flowOf_224 : Nat → Int → Mem → Option (Int × Mem)
  | 0, _, _ => none
  | n + 1, u3, M =>
    bnI (rM_findWay M) fun v39 M38 =>
    if v39 = 0 then (
    some (u3, M38)) else (
    lpX12_flowOf_240 u3 (fun v45 M46 =>
    lpX12_flowOf_288 u3 v45 (fun M54 =>
    nm (w32 (u3 + v45)) fun v55 =>
    lpX12_flowOf_224 n v55 M54) FU 17 M46) FU 1000000 17 M38)
def rM_flowOf (x1 : Int) (x2 : Int) (M : Mem) : Option (Int × Mem) :=
    lpX12_flowOf_2 x1 x2 (fun M3 =>
    lpX12_flowOf_24 x1 x2 (fun M19 =>
    lpX12_flowOf_105 x2 (fun M37 =>
    lpX12_flowOf_224 FU 0 M37) FU 0 M19) FU 0 M3) FU 0 M
def rmX12_flowOf : Room := { frames := 2, cells := 0, slots := 0, locals := 42 }
def rM_flow (x1 : Int) (M : Mem) : Option (Int × Mem) :=
    bnI (rM_isIn x1 1 3 M) fun v2 M1 =>
    if v2 = 0 then (
    some ((-1000000001), M1)) else (
    bnI (rM_flowOf x1 (-1) M1) fun v4 M3 =>
    some (v4, M3))
def rmX12_flow : Room := { frames := 3, cells := 0, slots := 0, locals := 67 }
def lpX12_lackOf_5 (y1 : Int) (y2 : Int) (k52 : Int → Mem → Option (Int × Mem)) : Nat → Int → Int → Mem → Option (Int × Mem)
  | 0, _, _, _ => none
  | n + 1, u3, u4, M =>
    rdA (M 1) 4210 1 fun v1 =>
    if u4 < v1 then (
    bnI (rM_sideOf u4 M) fun v3 M2 =>
    jn (fun (p4 : Int) (M6 : Mem) =>
    nm (w32 (u3 + p4)) fun v7 =>
    nm (w32 (u4 + 1)) fun v8 =>
    lpX12_lackOf_5 y1 y2 k52 n v7 v8 M6) fun j5 =>
    if v3 = y1 then (
    bnI (rM_cellAt u4 M2) fun v10 M9 =>
    rdA (M9 1) 4210 (w32 (v10 + 1)) fun v11 =>
    j5 v11 M9) else (
    j5 0 M2)) else (
    k52 u3 M)
def rM_lackOf (x1 : Int) (x2 : Int) (M : Mem) : Option (Int × Mem) :=
    lpX12_lackOf_5 x1 x2 (fun v12 M13 =>
    bnI (rM_flowOf (bShl 1 x1) x2 M13) fun v15 M14 =>
    some (w32 (v12 - v15), M14)) FU 0 0 M
def rmX12_lackOf : Room := { frames := 3, cells := 0, slots := 0, locals := 67 }
def rM_lack (x1 : Int) (M : Mem) : Option (Int × Mem) :=
    bnI (rM_isSide x1 M) fun v2 M1 =>
    if v2 = 0 then (
    some ((-1000000001), M1)) else (
    bnI (rM_lackOf x1 (-1) M1) fun v4 M3 =>
    some (v4, M3))
def rmX12_lack : Room := { frames := 4, cells := 0, slots := 0, locals := 91 }
def rM_need (x1 : Int) (x2 : Int) (M : Mem) : Option (Int × Mem) :=
    bnI (rM_isTie x1 M) fun v2 M1 =>
    if v2 = 0 then (
    some ((-1000000001), M1)) else (
    bnI (rM_isSide x2 M1) fun v4 M3 =>
    if v4 = 0 then (
    some ((-1000000001), M3)) else (
    bnI (rM_tieAt x1 M3) fun v6 M5 =>
    rdA (M5 1) 4210 v6 fun v7 =>
    if v7 = 3 then (
    bnI (rM_lackOf x2 x1 M5) fun v9 M8 =>
    bnI (rM_lackOf x2 (-1) M8) fun v11 M10 =>
    some (w32 (v9 - v11), M10)) else (
    some ((-1000000012), M5))))
def rmX12_need : Room := { frames := 4, cells := 0, slots := 0, locals := 91 }
def rM_stop (x1 : Int) (x2 : Int) (x3 : Int) (M : Mem) : Option (Int × Mem) :=
    bnI (rM_isTie x1 M) fun v2 M1 =>
    if v2 = 0 then (
    some ((-1000000001), M1)) else (
    bnI (rM_isCell x2 M1) fun v4 M3 =>
    if v4 = 0 then (
    some ((-1000000001), M3)) else (
    bnI (rM_isIn x3 0 59 M3) fun v6 M5 =>
    if v6 = 0 then (
    some ((-1000000001), M5)) else (
    bnI (rM_tieAt x1 M5) fun v8 M7 =>
    rdA (M7 1) 4210 v8 fun v9 =>
    if v9 = 2 then (
    nm (w32 (630 + (w32 (17 * x1)))) fun v10 =>
    rdA (M7 1) 4210 v10 fun v11 =>
    if v11 = 8 then (
    some ((-1000000003), M7)) else (
    rdA (M7 1) 4210 v10 fun v12 =>
    wrA M7 1 4210 (w32 ((w32 (v10 + 1)) + (w32 (2 * v12)))) x2 fun M13 =>
    rdA (M13 1) 4210 v10 fun v14 =>
    wrA M13 1 4210 (w32 ((w32 (v10 + 2)) + (w32 (2 * v14)))) x3 fun M15 =>
    rdA (M15 1) 4210 v10 fun v16 =>
    wrA M15 1 4210 v10 (w32 (v16 + 1)) fun M17 =>
    rdA (M17 1) 4210 v10 fun v18 =>
    some (v18, M17))) else (
    some ((-1000000012), M7)))))
def rmX12_stop : Room := { frames := 2, cells := 0, slots := 0, locals := 46 }
def rM_halts (x1 : Int) (x2 : Int) (x3 : Int) (M : Mem) : Option (Int × Mem) :=
    bnI (rM_sideOf x1 M) fun v2 M1 =>
    bnI (rM_countsFor v2 2 M1) fun v4 M3 =>
    wrA M3 9 128 105 x2 fun M5 =>
    bnI (rM_sideOf x1 M5) fun v7 M6 =>
    wrA M6 9 128 115 v7 fun M8 =>
    rdA (M8 1) 4210 0 fun v9 =>
    wrA M8 9 128 104 (w32 (Int.tmod (w32 (Int.tdiv (w32 ((w32 (v9 * 60)) + x3)) 60)) 24)) fun M10 =>
    if v4 < 0 then (
    some (1, M10)) else (
    bnI (rM_worked v4 M10) fun v12 M11 =>
    if v12 = 0 then (
    some (0, M11)) else (
    some (1, M11)))
def rmX12_halts : Room := { frames := 2, cells := 0, slots := 0, locals := 47 }
def lpX12_train_92 (y2 : Int) (y3 : Int) (y4 : Int) (y5 : Int) (k179 : Int → Int → Mem → Option (Int × Mem)) : Nat → Int → Int → Int → Mem → Option (Int × Mem)
  | 0, _, _, _, _ => none
  | n + 1, u6, u7, u8, M =>
    if y3 < u8 then (
    k179 u6 u7 M) else (
    jn (fun (p14 : Int) (M16 : Mem) =>
    nm (w32 (u6 + p14)) fun v17 =>
    jn (fun (p18 : Int) (M20 : Mem) =>
    nm (w32 (v17 + p18)) fun v21 =>
    rdA (M20 1) 4210 (w32 ((w32 (y5 + 1)) + (w32 (2 * u8)))) fun v22 =>
    bnI (rM_halts v22 u8 (w32 (y2 + v21)) M20) fun v24 M23 =>
    nm (w32 (u8 + 1)) fun v25 =>
    lpX12_train_92 y2 y3 y4 y5 k179 n v21 v24 v25 M23) fun j19 =>
    if 0 < u8 then (
    rdA (M16 1) 4210 (w32 ((w32 (y5 + 2)) + (w32 (2 * u8)))) fun v26 =>
    j19 v26 M16) else (
    j19 0 M16)) fun j15 =>
    jn (fun  (M28 : Mem) =>
    j15 0 M28) fun j27 =>
    if 1 < u8 then (
    if u7 = 0 then (
    j27 M) else (
    j15 2 M)) else (
    j27 M))
def rM_train (x1 : Int) (x2 : Int) (x3 : Int) (x4 : Int) (M : Mem) : Option (Int × Mem) :=
    bnI (rM_isTie x1 M) fun v2 M1 =>
    if v2 = 0 then (
    some ((-1000000001), M1)) else (
    bnI (rM_isIn x2 0 59 M1) fun v4 M3 =>
    if v4 = 0 then (
    some ((-1000000001), M3)) else (
    bnI (rM_isIn x4 0 1 M3) fun v6 M5 =>
    if v6 = 0 then (
    some ((-1000000001), M5)) else (
    bnI (rM_tieAt x1 M5) fun v8 M7 =>
    rdA (M7 1) 4210 v8 fun v9 =>
    if v9 = 2 then (
    nm (w32 (630 + (w32 (17 * x1)))) fun v10 =>
    rdA (M7 1) 4210 v10 fun v11 =>
    bnI (rM_isIn x3 0 (w32 (v11 - 1)) M7) fun v13 M12 =>
    if v13 = 0 then (
    some ((-1000000005), M12)) else (
    lpX12_train_92 x2 x3 x4 v10 (fun v29 v30 M31 =>
    if x4 = 0 then (
    some (v29, M31)) else (
    if v30 = 0 then (
    some (0, M31)) else (
    some (1, M31)))) FU 0 0 0 M12)) else (
    some ((-1000000012), M7)))))
def rmX12_train : Room := { frames := 3, cells := 0, slots := 0, locals := 71 }
def rM_file (x1 : Int) (x2 : Int) (x3 : Int) (M : Mem) : Option (Int × Mem) :=
    bnI (rM_isSide x1 M) fun v2 M1 =>
    if v2 = 0 then (
    some ((-1000000001), M1)) else (
    bnI (rM_isIn x2 0 9999 M1) fun v4 M3 =>
    if v4 = 0 then (
    some ((-1000000001), M3)) else (
    bnI (rM_isIn x3 0 99 M3) fun v6 M5 =>
    if v6 = 0 then (
    some ((-1000000001), M5)) else (
    rdA (M5 1) 4210 (w32 (8 + x1)) fun v7 =>
    if v7 = 10 then (
    some ((-1000000003), M5)) else (
    wrA M5 1 4210 (w32 ((w32 (3860 + (w32 (20 * x1)))) + (w32 (2 * v7)))) x2 fun M8 =>
    wrA M8 1 4210 (w32 ((w32 ((w32 (3860 + (w32 (20 * x1)))) + (w32 (2 * v7)))) + 1)) x3 fun M9 =>
    rdA (M9 1) 4210 (w32 (8 + x1)) fun v10 =>
    wrA M9 1 4210 (w32 (8 + x1)) (w32 (v10 + 1)) fun M11 =>
    some (v7, M11)))))
def rmX12_file : Room := { frames := 2, cells := 0, slots := 0, locals := 45 }
def rM_figure (x0 : Int) (x1 : Int) (M : Mem) : Option (Int × Mem) :=
    if x1 = 0 then (
    some (w32 (Int.tdiv x0 1000), M)) else (
    if x1 = 1 then (
    some (w32 (Int.tmod (w32 (Int.tdiv x0 100)) 10), M)) else (
    if x1 = 2 then (
    some (w32 (Int.tmod (w32 (Int.tdiv x0 10)) 10), M)) else (
    some (w32 (Int.tmod x0 10), M))))
def rmX12_figure : Room := { frames := 0, cells := 0, slots := 0, locals := 0 }
def lpX12_isNear_7 (y0 : Int) (y1 : Int) (k40 : Int → Int → Mem → Option (Int × Mem)) : Nat → Int → Int → Int → Mem → Option (Int × Mem)
  | 0, _, _, _, _ => none
  | n + 1, u2, u3, u4, M =>
    if u4 < 4 then (
    bnI (rM_figure y0 u4 M) fun v2 M1 =>
    bnI (rM_figure y1 u4 M1) fun v4 M3 =>
    jn (fun (p5 : Int) (p6 : Int) (M8 : Mem) =>
    nm (w32 (u4 + 1)) fun v9 =>
    lpX12_isNear_7 y0 y1 k40 n p5 p6 v9 M8) fun j7 =>
    if v2 = v4 then (
    j7 u2 u3 M3) else (
    nm (w32 (u2 + 1)) fun v10 =>
    j7 v10 u4 M3)) else (
    k40 u2 u3 M)
def rM_isNear (x0 : Int) (x1 : Int) (M : Mem) : Option (Int × Mem) :=
    lpX12_isNear_7 x0 x1 (fun v11 v12 M13 =>
    jn (fun (p14 : Int) (M16 : Mem) =>
    if v11 = 1 then (
    some (1, M16)) else (
    if p14 = 0 then (
    some (0, M16)) else (
    some (1, M16)))) fun j15 =>
    jn (fun (M18 : Mem) =>
    j15 0 M18) fun j17 =>
    if v11 = 2 then (
    bnI (rM_figure x0 v12 M13) fun v20 M19 =>
    bnI (rM_figure x1 (w32 (v12 - 1)) M19) fun v22 M21 =>
    if v20 = v22 then (
    bnI (rM_figure x0 (w32 (v12 - 1)) M21) fun v24 M23 =>
    bnI (rM_figure x1 v12 M23) fun v26 M25 =>
    if v24 = v26 then (
    j15 1 M25) else (
    j17 M25)) else (
    j17 M21)) else (
    j17 M13)) FU 0 0 0 M
def rmX12_isNear : Room := { frames := 1, cells := 0, slots := 0, locals := 21 }
def rM_alikeOf (x1 : Int) (x2 : Int) (M : Mem) : Option (Int × Mem) :=
    nm (w32 (3860 + (w32 (2 * x1)))) fun v1 =>
    nm (w32 (3880 + (w32 (2 * x2)))) fun v2 =>
    rdA (M 1) 4210 (w32 (v1 + 1)) fun v3 =>
    rdA (M 1) 4210 (w32 (v2 + 1)) fun v4 =>
    bnI (rM_size (w32 (v3 - v4)) M) fun v6 M5 =>
    if 1 < v6 then (
    some (0, M5)) else (
    rdA (M5 1) 4210 v1 fun v7 =>
    rdA (M5 1) 4210 v2 fun v8 =>
    if v7 = v8 then (
    some (2, M5)) else (
    rdA (M5 1) 4210 v1 fun v9 =>
    rdA (M5 1) 4210 v2 fun v10 =>
    bnI (rM_isNear v9 v10 M5) fun v12 M11 =>
    if v12 = 0 then (
    some (0, M11)) else (
    some (1, M11))))
def rmX12_alikeOf : Room := { frames := 2, cells := 0, slots := 0, locals := 45 }
def rM_alike (x1 : Int) (x2 : Int) (M : Mem) : Option (Int × Mem) :=
    rdA (M 1) 4210 8 fun v1 =>
    bnI (rM_isIn x1 0 (w32 (v1 - 1)) M) fun v3 M2 =>
    if v3 = 0 then (
    some ((-1000000001), M2)) else (
    rdA (M2 1) 4210 9 fun v4 =>
    bnI (rM_isIn x2 0 (w32 (v4 - 1)) M2) fun v6 M5 =>
    if v6 = 0 then (
    some ((-1000000001), M5)) else (
    bnI (rM_alikeOf x1 x2 M5) fun v8 M7 =>
    some (v8, M7)))
def rmX12_alike : Room := { frames := 3, cells := 0, slots := 0, locals := 69 }
def rM_pairWorth (x1 : Int) (x2 : Int) (x3 : Int) (M : Mem) : Option (Int × Mem) :=
    bnI (rM_alikeOf x1 x2 M) fun v2 M1 =>
    if v2 = 0 then (
    some ((-1), M1)) else (
    if bAnd (bShr x3 x2) 1 = 1 then (
    some ((-1), M1)) else (
    jn (fun (p3 : Int) (M5 : Mem) =>
    rdA (M5 14) 11264 (w32 ((w32 (1024 * (w32 (x1 + 1)))) + (bOr x3 (bShl 1 x2)))) fun v6 =>
    some (w32 (p3 + v6), M5)) fun j4 =>
    if v2 = 2 then (
    j4 100 M1) else (
    j4 1 M1)))
def rmX12_pairWorth : Room := { frames := 3, cells := 0, slots := 0, locals := 69 }
def lpX12_findPairs_18 (y1 : Int) (y2 : Int) (k44 : Mem → Option (Int × Mem)) : Nat → Int → Mem → Option (Int × Mem)
  | 0, _, _ => none
  | n + 1, u3, M =>
    if u3 < bShl 1 y2 then (
    wrA M 14 11264 (w32 ((w32 (1024 * y1)) + u3)) 0 fun M3 =>
    nm (w32 (u3 + 1)) fun v4 =>
    lpX12_findPairs_18 y1 y2 k44 n v4 M3) else (
    k44 M)
def lpX12_findPairs_83 (y1 : Int) (y2 : Int) (y3 : Int) (y4 : Int) (k122 : Int → Mem → Option (Int × Mem)) : Nat → Int → Int → Mem → Option (Int × Mem)
  | 0, _, _, _ => none
  | n + 1, u5, u6, M =>
    if u6 < y2 then (
    bnI (rM_pairWorth y3 u6 y4 M) fun v9 M8 =>
    jn (fun (p10 : Int) (M12 : Mem) =>
    nm (w32 (u6 + 1)) fun v13 =>
    lpX12_findPairs_83 y1 y2 y3 y4 k122 n p10 v13 M12) fun j11 =>
    if u5 < v9 then (
    j11 v9 M8) else (
    j11 u5 M8)) else (
    k122 u5 M)
def lpX12_findPairs_55 (y1 : Int) (y2 : Int) (y3 : Int) (k143 : Mem → Option (Int × Mem)) : Nat → Int → Mem → Option (Int × Mem)
  | 0, _, _ => none
  | n + 1, u4, M =>
    if u4 < bShl 1 y2 then (
    rdA (M 14) 11264 (w32 ((w32 (1024 * (w32 (y3 + 1)))) + u4)) fun v7 =>
    lpX12_findPairs_83 y1 y2 y3 u4 (fun v14 M15 =>
    wrA M15 14 11264 (w32 ((w32 (1024 * y3)) + u4)) v14 fun M16 =>
    nm (w32 (u4 + 1)) fun v17 =>
    lpX12_findPairs_55 y1 y2 y3 k143 n v17 M16) FU v7 0 M) else (
    k143 M)
def lpX12_findPairs_48 (y1 : Int) (y2 : Int) (k149 : Mem → Option (Int × Mem)) : Nat → Int → Mem → Option (Int × Mem)
  | 0, _, _ => none
  | n + 1, u3, M =>
    if u3 < 0 then (
    k149 M) else (
    lpX12_findPairs_55 y1 y2 u3 (fun M18 =>
    nm (w32 (u3 + (-1))) fun v19 =>
    lpX12_findPairs_48 y1 y2 k149 n v19 M18) FU 0 M)
def lpX12_findPairs_163 (y1 : Int) (y2 : Int) (y3 : Int) (y4 : Int) (k200 : Int → Mem → Option (Int × Mem)) : Nat → Int → Mem → Option (Int × Mem)
  | 0, _, _ => none
  | n + 1, u5, M =>
    if u5 < y2 then (
    bnI (rM_pairWorth y4 u5 y3 M) fun v23 M22 =>
    rdA (M22 14) 11264 (w32 ((w32 (1024 * y4)) + y3)) fun v24 =>
    if v23 = v24 then (
    k200 u5 M22) else (
    nm (w32 (u5 + 1)) fun v25 =>
    lpX12_findPairs_163 y1 y2 y3 y4 k200 n v25 M22)) else (
    k200 u5 M)
def lpX12_findPairs_154 (y1 : Int) (y2 : Int) : Nat → Int → Int → Mem → Option (Int × Mem)
  | 0, _, _, _ => none
  | n + 1, u3, u4, M =>
    if u4 < y1 then (
    lpX12_findPairs_163 y1 y2 u3 u4 (fun v26 M27 =>
    jn (fun (p28 : Int) (M30 : Mem) =>
    wrA M30 15 10 u4 p28 fun M31 =>
    jn (fun (p32 : Int) (M34 : Mem) =>
    nm (bOr u3 p32) fun v35 =>
    nm (w32 (u4 + 1)) fun v36 =>
    lpX12_findPairs_154 y1 y2 n v35 v36 M34) fun j33 =>
    if v26 < y2 then (
    j33 (bShl 1 v26) M31) else (
    j33 0 M31)) fun j29 =>
    if v26 < y2 then (
    j29 v26 M27) else (
    j29 (-1000000005) M27)) FU 0 M) else (
    rdA (M 14) 11264 0 fun v21 =>
    some (v21, M))
def rM_findPairs (M : Mem) : Option (Int × Mem) :=
    rdA (M 1) 4210 8 fun v1 =>
    rdA (M 1) 4210 9 fun v2 =>
    lpX12_findPairs_18 v1 v2 (fun M5 =>
    nm (w32 (v1 - 1)) fun v6 =>
    lpX12_findPairs_48 v1 v2 (fun M20 =>
    lpX12_findPairs_154 v1 v2 FU 0 0 M20) FU v6 M5) FU 0 M
def rmX12_findPairs : Room := { frames := 4, cells := 0, slots := 0, locals := 93 }
def rM_pairing (x1 : Int) (M : Mem) : Option (Int × Mem) :=
    rdA (M 1) 4210 8 fun v1 =>
    bnI (rM_isIn x1 0 (w32 (v1 + 1)) M) fun v3 M2 =>
    if v3 = 0 then (
    some ((-1000000001), M2)) else (
    bnI (rM_findPairs M2) fun v5 M4 =>
    if x1 = 0 then (
    some (w32 (Int.tdiv v5 100), M4)) else (
    if x1 = 1 then (
    some (w32 (Int.tmod v5 100), M4)) else (
    rdA (M4 15) 10 (w32 (x1 - 2)) fun v6 =>
    some (v6, M4))))
def rmX12_pairing : Room := { frames := 5, cells := 0, slots := 0, locals := 120 }
def lpX12_meter_69 (y1 : Int) : Nat → Int → Mem → Option (Int × Mem)
  | 0, _, _ => none
  | n + 1, u4, M =>
    if u4 < 30 then (
    wrA M 6 60 (w32 ((w32 (30 * y1)) + u4)) 0 fun M15 =>
    nm (w32 (u4 + 1)) fun v16 =>
    lpX12_meter_69 y1 n v16 M15) else (
    rdA (M 5) 2 y1 fun v14 =>
    some (v14, M))
def rM_meter (x1 : Int) (x2 : Int) (x3 : Int) (M : Mem) : Option (Int × Mem) :=
    bnI (rM_isSide x1 M) fun v2 M1 =>
    if v2 = 0 then (
    some ((-1000000001), M1)) else (
    bnI (rM_isIn x2 (-1) 1 M1) fun v4 M3 =>
    if v4 = 0 then (
    some ((-1000000001), M3)) else (
    jn (fun  (M6 : Mem) =>
    jn (fun  (M8 : Mem) =>
    wrA M8 4 2 x1 x2 fun M9 =>
    jn (fun (p10 : Int) (M12 : Mem) =>
    wrA M12 5 2 x1 p10 fun M13 =>
    lpX12_meter_69 x1 FU 0 M13) fun j11 =>
    if x2 < 0 then (
    j11 0 M9) else (
    j11 x3 M9)) fun j7 =>
    if x2 < 0 then (
    j7 M6) else (
    if x3 < 0 then (
    some ((-1000000014), M6)) else (
    j7 M6))) fun j5 =>
    if x2 < 0 then (
    j5 M3) else (
    if 30 < x3 then (
    some ((-1000000001), M3)) else (
    j5 M3))))
def rmX12_meter : Room := { frames := 2, cells := 0, slots := 0, locals := 45 }
def lpX12_readOf_37 (y1 : Int) (k63 : Int → Mem → Option (Int × Mem)) : Nat → Int → Mem → Option (Int × Mem)
  | 0, _, _ => none
  | n + 1, u3, M =>
    if u3 < 0 then (
    k63 u3 M) else (
    rdA (M 6) 60 (w32 ((w32 (30 * y1)) + u3)) fun v5 =>
    if v5 = (-1000000005) then (
    nm (w32 (u3 + (-1))) fun v6 =>
    lpX12_readOf_37 y1 k63 n v6 M) else (
    k63 u3 M))
def rM_readOf (x1 : Int) (x2 : Int) (M : Mem) : Option (Int × Mem) :=
    rdA (M 4) 2 x1 fun v1 =>
    if v1 < 0 then (
    some ((-1000000011), M)) else (
    rdA (M 5) 2 x1 fun v2 =>
    bnI (rM_isIn x2 0 (w32 (v2 - 1)) M) fun v4 M3 =>
    if v4 = 0 then (
    some ((-1000000013), M3)) else (
    lpX12_readOf_37 x1 (fun v7 M8 =>
    if v7 < 0 then (
    some ((-1000000012), M8)) else (
    rdA (M8 6) 60 (w32 ((w32 (30 * x1)) + v7)) fun v9 =>
    some (v9, M8))) FU x2 M3))
def rmX12_readOf : Room := { frames := 1, cells := 0, slots := 0, locals := 25 }
def rM_read (x1 : Int) (x2 : Int) (M : Mem) : Option (Int × Mem) :=
    bnI (rM_isSide x1 M) fun v2 M1 =>
    if v2 = 0 then (
    some ((-1000000001), M1)) else (
    bnI (rM_readOf x1 x2 M1) fun v4 M3 =>
    some (v4, M3))
def rmX12_read : Room := { frames := 2, cells := 0, slots := 0, locals := 48 }
def rM_put (x1 : Int) (x2 : Int) (x3 : Int) (M : Mem) : Option (Int × Mem) :=
    bnI (rM_isSide x1 M) fun v2 M1 =>
    if v2 = 0 then (
    some ((-1000000001), M1)) else (
    rdA (M1 4) 2 x1 fun v3 =>
    if v3 < 0 then (
    some ((-1000000011), M1)) else (
    rdA (M1 5) 2 x1 fun v4 =>
    bnI (rM_isIn x2 0 (w32 (v4 - 1)) M1) fun v6 M5 =>
    if v6 = 0 then (
    some ((-1000000013), M5)) else (
    rdA (M5 4) 2 x1 fun v7 =>
    jn (fun  (M9 : Mem) =>
    rdA (M9 4) 2 x1 fun v10 =>
    jn (fun  (M12 : Mem) =>
    wrA M12 6 60 (w32 ((w32 (30 * x1)) + x2)) x3 fun M13 =>
    some (1, M13)) fun j11 =>
    if v10 = 1 then (
    if x3 = (-1000000005) then (
    j11 M9) else (
    bnI (rM_isIn x3 (-100000) 100000 M9) fun v15 M14 =>
    if v15 = 0 then (
    some ((-1000000001), M14)) else (
    j11 M14))) else (
    j11 M9)) fun j8 =>
    if v7 = 0 then (
    if x3 = (-1000000005) then (
    some ((-1000000012), M5)) else (
    j8 M5)) else (
    j8 M5))))
def rmX12_put : Room := { frames := 2, cells := 0, slots := 0, locals := 45 }
def lpX12_copy_113 (y1 : Int) (y2 : Int) (y3 : Int) (y4 : Int) (y5 : Int) (k147 : Mem → Option (Int × Mem)) : Nat → Int → Mem → Option (Int × Mem)
  | 0, _, _ => none
  | n + 1, u6, M =>
    if u6 < y5 then (
    rdA (M 6) 60 (w32 ((w32 ((w32 (30 * y1)) + y2)) + u6)) fun v11 =>
    wrA M 16 30 u6 v11 fun M12 =>
    nm (w32 (u6 + 1)) fun v13 =>
    lpX12_copy_113 y1 y2 y3 y4 y5 k147 n v13 M12) else (
    k147 M)
def lpX12_copy_150 (y3 : Int) (y4 : Int) (y5 : Int) : Nat → Int → Mem → Option (Int × Mem)
  | 0, _, _ => none
  | n + 1, u6, M =>
    if u6 < y5 then (
    rdA (M 16) 30 u6 fun v15 =>
    wrA M 6 60 (w32 ((w32 ((w32 (30 * y3)) + y4)) + u6)) v15 fun M16 =>
    nm (w32 (u6 + 1)) fun v17 =>
    lpX12_copy_150 y3 y4 y5 n v17 M16) else (
    some (y5, M))
def rM_copy (x1 : Int) (x2 : Int) (x3 : Int) (x4 : Int) (x5 : Int) (M : Mem) : Option (Int × Mem) :=
    bnI (rM_isSide x1 M) fun v2 M1 =>
    if v2 = 0 then (
    some ((-1000000001), M1)) else (
    bnI (rM_isSide x3 M1) fun v4 M3 =>
    if v4 = 0 then (
    some ((-1000000001), M3)) else (
    rdA (M3 4) 2 x1 fun v5 =>
    if v5 < 0 then (
    some ((-1000000011), M3)) else (
    rdA (M3 4) 2 x3 fun v6 =>
    if v6 < 0 then (
    some ((-1000000011), M3)) else (
    rdA (M3 4) 2 x1 fun v7 =>
    rdA (M3 4) 2 x3 fun v8 =>
    if v7 = v8 then (
    if x2 < 0 then (
    some ((-1000000013), M3)) else (
    if x4 < 0 then (
    some ((-1000000013), M3)) else (
    if x5 < 0 then (
    some ((-1000000013), M3)) else (
    rdA (M3 5) 2 x1 fun v9 =>
    if 0 < cmpZ (w64 (x2 + x5)) v9 then (
    some ((-1000000013), M3)) else (
    rdA (M3 5) 2 x3 fun v10 =>
    if 0 < cmpZ (w64 (x4 + x5)) v10 then (
    some ((-1000000013), M3)) else (
    lpX12_copy_113 x1 x2 x3 x4 x5 (fun M14 =>
    lpX12_copy_150 x3 x4 x5 FU 0 M14) FU 0 M3)))))) else (
    some ((-1000000012), M3))))))
def rmX12_copy : Room := { frames := 2, cells := 0, slots := 0, locals := 45 }
def rM_wrong (x1 : Int) (x2 : Int) (M : Mem) : Option (Int × Mem) :=
    bnI (rM_isSide x1 M) fun v2 M1 =>
    if v2 = 0 then (
    some ((-1000000001), M1)) else (
    jn (fun  (M4 : Mem) =>
    jn (fun (p5 : Int) (M7 : Mem) =>
    bnI (rM_becomes (w32 (13 + x1)) p5 M7) fun v9 M8 =>
    bnI (rM_orNone v9 M8) fun v11 M10 =>
    some (v11, M10)) fun j6 =>
    if x2 = (-1000000005) then (
    j6 (-1) M4) else (
    j6 x2 M4)) fun j3 =>
    if x2 = (-1000000005) then (
    j3 M1) else (
    bnI (rM_isIn x2 0 29 M1) fun v13 M12 =>
    if v13 = 0 then (
    some ((-1000000001), M12)) else (
    j3 M12)))
def rmX12_wrong : Room := { frames := 2, cells := 0, slots := 0, locals := 45 }
def lpX12_mayCount_61 (y1 : Int) (k89 : Int → Mem → Option (Int × Mem)) : Nat → Int → Mem → Option (Int × Mem)
  | 0, _, _ => none
  | n + 1, u4, M =>
    if u4 < 0 then (
    k89 u4 M) else (
    rdA (M 6) 60 (w32 ((w32 (30 * y1)) + u4)) fun v8 =>
    if v8 = (-1000000005) then (
    nm (w32 (u4 + (-1))) fun v9 =>
    lpX12_mayCount_61 y1 k89 n v9 M) else (
    k89 u4 M))
def rM_mayCount (x1 : Int) (x2 : Int) (M : Mem) : Option (Int × Mem) :=
    rdA (M 4) 2 x1 fun v1 =>
    jn (fun (p2 : Int) (M4 : Mem) =>
    jn (fun (p5 : Int) (M7 : Mem) =>
    lpX12_mayCount_61 x1 (fun v10 M11 =>
    if v10 < 0 then (
    some (0, M11)) else (
    some (1, M11))) FU p5 M7) fun j6 =>
    if p2 = 0 then (
    j6 (-1) M4) else (
    j6 x2 M4)) fun j3 =>
    jn (fun  (M13 : Mem) =>
    j3 0 M13) fun j12 =>
    if v1 < 0 then (
    j12 M) else (
    rdA (M 5) 2 x1 fun v14 =>
    if x2 < v14 then (
    rdA (M 1) 4210 (w32 (13 + x1)) fun v15 =>
    jn (fun  (M17 : Mem) =>
    j3 1 M17) fun j16 =>
    if v15 < 0 then (
    j16 M) else (
    rdA (M 1) 4210 (w32 (13 + x1)) fun v18 =>
    if x2 < v18 then (
    j16 M) else (
    j12 M))) else (
    j12 M))
def rmX12_mayCount : Room := { frames := 0, cells := 0, slots := 0, locals := 0 }
def rM_owedOf (x1 : Int) (M : Mem) : Option (Int × Mem) :=
    bnI (rM_readOf 0 x1 M) fun v2 M1 =>
    bnI (rM_readOf 1 x1 M1) fun v4 M3 =>
    bnI (rM_mayCount 0 x1 M3) fun v6 M5 =>
    if v6 = 0 then (
    some (w32 v4, M5)) else (
    bnI (rM_mayCount 1 x1 M5) fun v8 M7 =>
    if v8 = 0 then (
    some (w32 v2, M7)) else (
    jn (fun (p9 : Int) (M11 : Mem) =>
    jn (fun (p12 : Int) (M14 : Mem) =>
    rdA (M14 1) 4210 11 fun v15 =>
    jn (fun (p16 : Int) (M18 : Mem) =>
    if 0 < cmpZ (w64 (p12 * 100)) (w64 (v15 * p16)) then (
    some (w32 p9, M18)) else (
    some (w32 (w64 (Int.tdiv (w64 (v2 + v4)) 2)), M18))) fun j17 =>
    if cmpZ p9 0 < 0 then (
    j17 (w64 (-p9)) M14) else (
    j17 p9 M14)) fun j13 =>
    if cmpZ v2 v4 < 0 then (
    j13 (w64 (v4 - v2)) M11) else (
    j13 (w64 (v2 - v4)) M11)) fun j10 =>
    if cmpZ v2 v4 < 0 then (
    j10 v2 M7) else (
    j10 v4 M7)))
def rmX12_owedOf : Room := { frames := 2, cells := 0, slots := 0, locals := 48 }
def rM_owed (x1 : Int) (M : Mem) : Option (Int × Mem) :=
    bnI (rM_isIn x1 0 29 M) fun v2 M1 =>
    if v2 = 0 then (
    some ((-1000000001), M1)) else (
    bnI (rM_mayCount 0 x1 M1) fun v4 M3 =>
    jn (fun  (M6 : Mem) =>
    bnI (rM_owedOf x1 M6) fun v8 M7 =>
    some (v8, M7)) fun j5 =>
    if v4 = 0 then (
    bnI (rM_mayCount 1 x1 M3) fun v10 M9 =>
    if v10 = 0 then (
    some ((-1000000005), M9)) else (
    j5 M9)) else (
    j5 M3))
def rmX12_owed : Room := { frames := 3, cells := 0, slots := 0, locals := 77 }
def rM_coin (x1 : Int) (x2 : Int) (M : Mem) : Option (Int × Mem) :=
    bnI (rM_isSide x1 M) fun v2 M1 =>
    if v2 = 0 then (
    some ((-1000000001), M1)) else (
    bnI (rM_isIn x2 0 29 M1) fun v4 M3 =>
    if v4 = 0 then (
    some ((-1000000001), M3)) else (
    bnI (rM_mayCount 0 x2 M3) fun v6 M5 =>
    jn (fun  (M8 : Mem) =>
    bnI (rM_countsFor x1 4 M8) fun v10 M9 =>
    bnI (rM_owedOf x2 M9) fun v12 M11 =>
    wrA M11 9 128 110 v12 fun M13 =>
    if v10 < 0 then (
    some (0, M13)) else (
    bnI (rM_worked v10 M13) fun v15 M14 =>
    some (v15, M14))) fun j7 =>
    if v6 = 0 then (
    bnI (rM_mayCount 1 x2 M5) fun v17 M16 =>
    if v17 = 0 then (
    some ((-1000000005), M16)) else (
    j7 M16)) else (
    j7 M5)))
def rmX12_coin : Room := { frames := 3, cells := 0, slots := 0, locals := 77 }
def rM_rule (x1 : Int) (x2 : Int) (M : Mem) : Option (Int × Mem) :=
    bnI (rM_isIn x1 0 1 M) fun v2 M1 =>
    if v2 = 0 then (
    some ((-1000000001), M1)) else (
    jn (fun (p3 : Int) (M5 : Mem) =>
    bnI (rM_isIn x2 0 p3 M5) fun v7 M6 =>
    if v7 = 0 then (
    some ((-1000000001), M6)) else (
    bnI (rM_becomes (w32 (11 + x1)) x2 M6) fun v9 M8 =>
    some (v9, M8))) fun j4 =>
    if x1 = 0 then (
    j4 100 M1) else (
    j4 999 M1))
def rmX12_rule : Room := { frames := 1, cells := 0, slots := 0, locals := 25 }
def rM_feast (x1 : Int) (x2 : Int) (x3 : Int) (M : Mem) : Option (Int × Mem) :=
    bnI (rM_isIn x1 0 7 M) fun v2 M1 =>
    if v2 = 0 then (
    some ((-1000000001), M1)) else (
    bnI (rM_isIn x2 0 12 M1) fun v4 M3 =>
    if v4 = 0 then (
    some ((-1000000001), M3)) else (
    bnI (rM_isIn x3 0 99 M3) fun v6 M5 =>
    if v6 = 0 then (
    some ((-1000000001), M5)) else (
    bnI (rM_becomes (w32 ((w32 (3900 + (w32 (13 * x1)))) + x2)) x3 M5) fun v8 M7 =>
    some (v8, M7))))
def rmX12_feast : Room := { frames := 1, cells := 0, slots := 0, locals := 25 }
def lpX12_openFor_2 (y2 : Int) : Nat → Int → Mem → Option (Int × Mem)
  | 0, _, _ => none
  | n + 1, u3, M =>
    if bAnd (bShr y2 u3) 1 = 0 then (
    nm (w32 (Int.tmod (w32 (u3 + 1)) 8)) fun v1 =>
    lpX12_openFor_2 y2 n v1 M) else (
    some (u3, M))
def rM_openFor (x1 : Int) (x2 : Int) (M : Mem) : Option (Int × Mem) :=
    lpX12_openFor_2 x2 FU x1 M
def rmX12_openFor : Room := { frames := 0, cells := 0, slots := 0, locals := 0 }
def lpX12_waitingOf_2 (y1 : Int) (k21 : Mem → Option (Int × Mem)) : Nat → Int → Mem → Option (Int × Mem)
  | 0, _, _ => none
  | n + 1, u2, M =>
    if u2 < 8 then (
    wrA M 17 8 u2 0 fun M1 =>
    nm (w32 (u2 + 1)) fun v2 =>
    lpX12_waitingOf_2 y1 k21 n v2 M1) else (
    k21 M)
def lpX12_waitingOf_34 (y1 : Int) (y2 : Int) (y3 : Int) (k78 : Mem → Option (Int × Mem)) : Nat → Int → Mem → Option (Int × Mem)
  | 0, _, _ => none
  | n + 1, u4, M =>
    if u4 < 8 then (
    bnI (rM_openFor u4 y1 M) fun v5 M4 =>
    rdA (M4 17) 8 v5 fun v6 =>
    rdA (M4 1) 4210 (w32 ((w32 (3900 + (w32 (13 * u4)))) + y3)) fun v7 =>
    wrA M4 17 8 v5 (w32 (v6 + v7)) fun M8 =>
    nm (w32 (u4 + 1)) fun v9 =>
    lpX12_waitingOf_34 y1 y2 y3 k78 n v9 M8) else (
    k78 M)
def lpX12_waitingOf_81 (y1 : Int) (y3 : Int) (k141 : Int → Mem → Option (Int × Mem)) : Nat → Int → Int → Mem → Option (Int × Mem)
  | 0, _, _, _ => none
  | n + 1, u2, u4, M =>
    if u4 < 8 then (
    rdA (M 17) 8 u4 fun v11 =>
    rdA (M 17) 8 u4 fun v12 =>
    rdA (M 1) 4210 (w32 ((w32 (3900 + (w32 (13 * u4)))) + 12)) fun v13 =>
    bnI (rM_least v12 v13 M) fun v15 M14 =>
    wrA M14 17 8 u4 (w32 (v11 - v15)) fun M16 =>
    rdA (M16 17) 8 u4 fun v17 =>
    nm (w32 (u2 + v17)) fun v18 =>
    nm (w32 (u4 + 1)) fun v19 =>
    lpX12_waitingOf_81 y1 y3 k141 n v18 v19 M16) else (
    k141 u2 M)
def lpX12_waitingOf_25 (y1 : Int) : Nat → Int → Int → Mem → Option (Int × Mem)
  | 0, _, _, _ => none
  | n + 1, u2, u3, M =>
    if u3 < 12 then (
    lpX12_waitingOf_34 y1 u2 u3 (fun M10 =>
    lpX12_waitingOf_81 y1 u3 (fun v20 M21 =>
    nm (w32 (u3 + 1)) fun v22 =>
    lpX12_waitingOf_25 y1 n v20 v22 M21) FU u2 0 M10) FU 0 M) else (
    some (u2, M))
def rM_waitingOf (x1 : Int) (M : Mem) : Option (Int × Mem) :=
    lpX12_waitingOf_2 x1 (fun M3 =>
    lpX12_waitingOf_25 x1 FU 0 0 M3) FU 0 M
def rmX12_waitingOf : Room := { frames := 1, cells := 0, slots := 0, locals := 23 }
def rM_waiting (x1 : Int) (M : Mem) : Option (Int × Mem) :=
    bnI (rM_isIn x1 1 255 M) fun v2 M1 =>
    if v2 = 0 then (
    some ((-1000000001), M1)) else (
    bnI (rM_waitingOf x1 M1) fun v4 M3 =>
    some (v4, M3))
def rmX12_waiting : Room := { frames := 2, cells := 0, slots := 0, locals := 47 }
def lpX12_ones_4 (y0 : Int) : Nat → Int → Int → Mem → Option (Int × Mem)
  | 0, _, _, _ => none
  | n + 1, u1, u2, M =>
    if u2 < 8 then (
    nm (w32 (u1 + (bAnd (bShr y0 u2) 1))) fun v1 =>
    nm (w32 (u2 + 1)) fun v2 =>
    lpX12_ones_4 y0 n v1 v2 M) else (
    some (u1, M))
def rM_ones (x0 : Int) (M : Mem) : Option (Int × Mem) :=
    lpX12_ones_4 x0 FU 0 0 M
def rmX12_ones : Room := { frames := 0, cells := 0, slots := 0, locals := 0 }
def lpX12_gates_26 (y1 : Int) : Nat → Int → Int → Int → Mem → Option (Int × Mem)
  | 0, _, _, _, _ => none
  | n + 1, u2, u3, u4, M =>
    if u4 < 256 then (
    bnI (rM_ones u4 M) fun v6 M5 =>
    jn (fun (p7 : Int) (M9 : Mem) =>
    jn (fun (p10 : Int) (p11 : Int) (M13 : Mem) =>
    nm (w32 (u4 + 1)) fun v14 =>
    lpX12_gates_26 y1 n p10 p11 v14 M13) fun j12 =>
    jn (fun  (M16 : Mem) =>
    j12 u4 p7 M16) fun j15 =>
    if p7 < u3 then (
    j15 M9) else (
    if p7 = u3 then (
    bnI (rM_ones u4 M9) fun v18 M17 =>
    bnI (rM_ones u2 M17) fun v20 M19 =>
    if v18 < v20 then (
    j15 M19) else (
    j12 u2 u3 M19)) else (
    j12 u2 u3 M9))) fun j8 =>
    if y1 < v6 then (
    j8 (w32 (u3 + 1)) M5) else (
    bnI (rM_waitingOf u4 M5) fun v22 M21 =>
    j8 v22 M21)) else (
    some (u2, M))
def rM_gates (x1 : Int) (M : Mem) : Option (Int × Mem) :=
    bnI (rM_isIn x1 1 8 M) fun v2 M1 =>
    if v2 = 0 then (
    some ((-1000000001), M1)) else (
    bnI (rM_waitingOf 1 M1) fun v4 M3 =>
    lpX12_gates_26 x1 FU 1 v4 2 M3)
def rmX12_gates : Room := { frames := 2, cells := 0, slots := 0, locals := 47 }
def rM_clause (x1 : Int) (x2 : Int) (x3 : Int) (M : Mem) : Option (Int × Mem) :=
    bnI (rM_isIn x1 (-99) 99 M) fun v2 M1 =>
    if v2 = 0 then (
    some ((-1000000001), M1)) else (
    bnI (rM_isIn x2 (-99) 99 M1) fun v4 M3 =>
    if v4 = 0 then (
    some ((-1000000001), M3)) else (
    bnI (rM_isIn x3 0 99 M3) fun v6 M5 =>
    if v6 = 0 then (
    some ((-1000000001), M5)) else (
    rdA (M5 1) 4210 7 fun v7 =>
    if v7 = 7 then (
    some ((-1000000003), M5)) else (
    rdA (M5 1) 4210 7 fun v8 =>
    nm (w32 (3830 + (w32 (3 * v8)))) fun v9 =>
    wrA M5 1 4210 v9 x1 fun M10 =>
    wrA M10 1 4210 (w32 (v9 + 1)) x2 fun M11 =>
    wrA M11 1 4210 (w32 (v9 + 2)) x3 fun M12 =>
    rdA (M12 1) 4210 7 fun v13 =>
    wrA M12 1 4210 7 (w32 (v13 + 1)) fun M14 =>
    rdA (M14 1) 4210 7 fun v15 =>
    some (w32 (v15 - 1), M14)))))
def rmX12_clause : Room := { frames := 1, cells := 0, slots := 0, locals := 25 }
def lpX12_seek_59 (rc : Int → Int → Int → Int → Int → Int → Mem → Option (Mem)) (y1 : Int) (y2 : Int) (y3 : Int) (y4 : Int) (y5 : Int) (y6 : Int) : Nat → Int → Mem → Option (Mem)
  | 0, _, _ => none
  | n + 1, u7, M =>
    rdA (M 1) 4210 7 fun v1 =>
    if u7 < v1 then (
    if M 0 34 = 0 then (
    nm (w32 (3830 + (w32 (3 * u7)))) fun v2 =>
    jn (fun (p3 : Int) (M5 : Mem) =>
    jn (fun  (M7 : Mem) =>
    nm (w32 (u7 + 1)) fun v8 =>
    lpX12_seek_59 rc y1 y2 y3 y4 y5 y6 n v8 M7) fun j6 =>
    if p3 = 0 then (
    j6 M5) else (
    jn (fun (p9 : Int) (M11 : Mem) =>
    wrZ M11 0 34 p9 fun M12 =>
    if M12 0 34 = 0 then (
    wrF M12 0 33 (w32 ((M12 0 33) - 1)) fun M13 =>
    wrA M13 18 8 y2 u7 fun M14 =>
    rdA (M14 1) 4210 v2 fun v15 =>
    rdA (M14 1) 4210 (w32 (v2 + 1)) fun v16 =>
    rdA (M14 1) 4210 (w32 (v2 + 2)) fun v17 =>
    bnV (rc y1 (w32 (y2 + 1)) (bOr y3 (bShl 1 u7)) (w32 (y4 + v15)) (w32 (y5 + v16)) (w32 (y6 + v17)) M14) fun M18 =>
    j6 M18) else (
    j6 M12)) fun j10 =>
    if M5 0 33 = 0 then (
    j10 1 M5) else (
    j10 0 M5))) fun j4 =>
    jn (fun  (M20 : Mem) =>
    j4 0 M20) fun j19 =>
    if bAnd (bShr y3 u7) 1 = 0 then (
    rdA (M 1) 4210 v2 fun v21 =>
    rdA (M 1) 4210 12 fun v22 =>
    if w32 (y4 + v21) < w32 (-v22) then (
    j19 M) else (
    rdA (M 1) 4210 (w32 (v2 + 1)) fun v23 =>
    rdA (M 1) 4210 12 fun v24 =>
    if w32 (y5 + v23) < w32 (-v24) then (
    j19 M) else (
    j4 1 M))) else (
    j19 M)) else (
    some M)) else (
    some M)
def lpX12_seek_29 (rc : Int → Int → Int → Int → Int → Int → Mem → Option (Mem)) (y2 : Int) : Nat → Int → Mem → Option (Mem)
  | 0, _, _ => none
  | n + 1, u7, M =>
    if u7 < y2 then (
    rdA (M 18) 8 u7 fun v28 =>
    wrA M 19 8 u7 v28 fun M29 =>
    nm (w32 (u7 + 1)) fun v30 =>
    lpX12_seek_29 rc y2 n v30 M29) else (
    some M)
def rM_seekb (rc : Int → Int → Int → Int → Int → Int → Mem → Option (Mem)) (x1 : Int) (x2 : Int) (x3 : Int) (x4 : Int) (x5 : Int) (x6 : Int) (M : Mem) : Option (Mem) :=
    if x6 < x1 then (
    lpX12_seek_59 rc x1 x2 x3 x4 x5 x6 FU 0 M) else (
    jn (fun  (M26 : Mem) =>
    wrF M26 0 32 x2 fun M27 =>
    lpX12_seek_29 rc x2 FU 0 M27) fun j25 =>
    if M 0 32 < 0 then (
    j25 M) else (
    if x2 < M 0 32 then (
    j25 M) else (
    some M)))
def rM_seek : Nat → Int → Int → Int → Int → Int → Int → Mem → Option (Mem)
  | 0, _, _, _, _, _, _, _ => none
  | d + 1, x1, x2, x3, x4, x5, x6, M => rM_seekb (fun x1 x2 x3 x4 x5 x6 M => rM_seek d x1 x2 x3 x4 x5 x6 M) x1 x2 x3 x4 x5 x6 M
theorem rk_X12_seek_X12_seek {d : Nat} : RmOk (rmX12_seek (d + 1)) (rmX12_seek d) 10 := ⟨show 5 + 1 * d + 1 ≤ 5 + 1 * (d + 1) by omega, show 8 + (10 + 11) + (100 + 40 * d) ≤ 100 + 40 * (d + 1) by omega⟩
def rM_findOrder (x1 : Int) (x2 : Int) (M : Mem) : Option (Int × Mem) :=
    wrF M 0 32 (-1) fun M1 =>
    wrF M1 0 33 x2 fun M2 =>
    wrF M2 0 34 0 fun M3 =>
    bnV (rM_seek 9 x1 0 0 0 0 0 M3) fun M4 =>
    if M4 0 34 = 0 then (
    if M4 0 32 < 0 then (
    some ((-1000000002), M4)) else (
    some (M4 0 32, M4))) else (
    some ((-1000000004), M4))
def rmX12_findOrder : Room := { frames := 15, cells := 0, slots := 0, locals := 489 }
def rM_plan (x1 : Int) (x2 : Int) (M : Mem) : Option (Int × Mem) :=
    bnI (rM_isIn x1 1 999 M) fun v2 M1 =>
    if v2 = 0 then (
    some ((-1000000001), M1)) else (
    bnI (rM_isIn x2 1 20000 M1) fun v4 M3 =>
    if v4 = 0 then (
    some ((-1000000001), M3)) else (
    bnI (rM_findOrder x1 x2 M3) fun v6 M5 =>
    some (v6, M5)))
def rmX12_plan : Room := { frames := 16, cells := 0, slots := 0, locals := 511 }
def rM_planned (x1 : Int) (x2 : Int) (M : Mem) : Option (Int × Mem) :=
    bnI (rM_isIn x1 1 999 M) fun v2 M1 =>
    if v2 = 0 then (
    some ((-1000000001), M1)) else (
    if x2 < 0 then (
    some ((-1000000001), M1)) else (
    bnI (rM_findOrder x1 20000 M1) fun v4 M3 =>
    if v4 < 0 then (
    some (v4, M3)) else (
    if x2 < v4 then (
    rdA (M3 19) 8 x2 fun v5 =>
    some (v5, M3)) else (
    some ((-1000000005), M3)))))
def rmX12_planned : Room := { frames := 16, cells := 0, slots := 0, locals := 511 }
def rM_tell (x1 : Int) (M : Mem) : Option (Int × Mem) :=
    if M 0 36 = 60 then (
    some ((-1000000003), M)) else (
    wrA M 20 60 (M 0 36) x1 fun M1 =>
    wrF M1 0 36 (w32 ((M1 0 36) + 1)) fun M2 =>
    some (M2 0 36, M2))
def rmX12_tell : Room := { frames := 0, cells := 0, slots := 0, locals := 0 }
def rM_dueIs (x1 : Int) (x2 : Int) (M : Mem) : Option (Mem) :=
    wrA M 21 60 (M 0 38) x1 fun M1 =>
    wrA M1 21 60 (w32 ((M1 0 38) + 1)) x2 fun M2 =>
    wrF M2 0 38 (w32 ((M2 0 38) + 2)) fun M3 =>
    some M3
def rmX12_dueIs : Room := { frames := 0, cells := 0, slots := 0, locals := 0 }
def lpX12_rowsOfOrder_29 (y2 : Int) (k76 : Mem → Option (Int × Mem)) : Nat → Int → Int → Mem → Option (Int × Mem)
  | 0, _, _, _ => none
  | n + 1, u3, u4, M =>
    if u4 < y2 then (
    rdA (M 19) 8 u4 fun v5 =>
    rdA (M 1) 4210 (w32 ((w32 (3830 + (w32 (3 * v5)))) + 2)) fun v6 =>
    nm (w32 (u3 + v6)) fun v7 =>
    rdA (M 19) 8 u4 fun v8 =>
    bnV (rM_dueIs v8 v7 M) fun M9 =>
    nm (w32 (u4 + 1)) fun v10 =>
    lpX12_rowsOfOrder_29 y2 k76 n v7 v10 M9) else (
    k76 M)
def rM_rowsOfOrder (x1 : Int) (M : Mem) : Option (Int × Mem) :=
    bnI (rM_isIn x1 1 999 M) fun v2 M1 =>
    if v2 = 0 then (
    some ((-1000000001), M1)) else (
    bnI (rM_findOrder x1 20000 M1) fun v4 M3 =>
    lpX12_rowsOfOrder_29 v4 (fun M11 =>
    if v4 < 0 then (
    some (v4, M11)) else (
    some (0, M11))) FU 0 0 M3)
def rmX12_rowsOfOrder : Room := { frames := 16, cells := 0, slots := 0, locals := 511 }
def lpX12_waiters_4 : Nat → Int → Int → Mem → Option (Int × Mem)
  | 0, _, _, _ => none
  | n + 1, u1, u2, M =>
    rdA (M 1) 4210 2 fun v1 =>
    if u2 < v1 then (
    bnI (rM_waits u2 M) fun v3 M2 =>
    jn (fun (p4 : Int) (M6 : Mem) =>
    nm (w32 (u1 + p4)) fun v7 =>
    nm (w32 (u2 + 1)) fun v8 =>
    lpX12_waiters_4 n v7 v8 M6) fun j5 =>
    if v3 = 0 then (
    j5 0 M2) else (
    j5 1 M2)) else (
    some (u1, M))
def rM_waiters (M : Mem) : Option (Int × Mem) :=
    lpX12_waiters_4 FU 0 0 M
def rmX12_waiters : Room := { frames := 2, cells := 0, slots := 0, locals := 42 }
def lpX12_away_4 : Nat → Int → Int → Mem → Option (Int × Mem)
  | 0, _, _, _ => none
  | n + 1, u1, u2, M =>
    rdA (M 1) 4210 2 fun v1 =>
    if u2 < v1 then (
    bnI (rM_personAt u2 M) fun v3 M2 =>
    rdA (M2 1) 4210 (w32 (v3 + 3)) fun v4 =>
    jn (fun (p5 : Int) (M7 : Mem) =>
    nm (w32 (u1 + p5)) fun v8 =>
    nm (w32 (u2 + 1)) fun v9 =>
    lpX12_away_4 n v8 v9 M7) fun j6 =>
    jn (fun  (M11 : Mem) =>
    j6 0 M11) fun j10 =>
    if v4 < 0 then (
    j10 M2) else (
    bnI (rM_personAt u2 M2) fun v13 M12 =>
    rdA (M12 1) 4210 (w32 (v13 + 3)) fun v14 =>
    bnI (rM_sideOf v14 M12) fun v16 M15 =>
    bnI (rM_ownSide u2 M15) fun v18 M17 =>
    if v16 = v18 then (
    j10 M17) else (
    j6 1 M17))) else (
    some (u1, M))
def rM_away (M : Mem) : Option (Int × Mem) :=
    lpX12_away_4 FU 0 0 M
def rmX12_away : Room := { frames := 3, cells := 0, slots := 0, locals := 63 }
def lpX12_rowsOfDays_27 (y1 : Int) (k64 : Mem → Option (Int × Mem)) : Nat → Int → Mem → Option (Int × Mem)
  | 0, _, _ => none
  | n + 1, u2, M =>
    if u2 < 4210 then (
    rdA (M 1) 4210 u2 fun v3 =>
    wrA M 3 4210 u2 v3 fun M4 =>
    rdA (M4 2) 4210 u2 fun v5 =>
    wrA M4 1 4210 u2 v5 fun M6 =>
    nm (w32 (u2 + 1)) fun v7 =>
    lpX12_rowsOfDays_27 y1 k64 n v7 M6) else (
    k64 M)
def lpX12_rowsOfDays_66 (y1 : Int) (k93 : Mem → Option (Int × Mem)) : Nat → Int → Mem → Option (Int × Mem)
  | 0, _, _ => none
  | n + 1, u2, M =>
    if u2 < y1 then (
    bnV (rM_hour M) fun M9 =>
    bnI (rM_waiters M9) fun v11 M10 =>
    bnI (rM_away M10) fun v13 M12 =>
    bnV (rM_dueIs v11 v13 M12) fun M14 =>
    nm (w32 (u2 + 1)) fun v15 =>
    lpX12_rowsOfDays_66 y1 k93 n v15 M14) else (
    k93 M)
def lpX12_rowsOfDays_95 : Nat → Int → Mem → Option (Int × Mem)
  | 0, _, _ => none
  | n + 1, u2, M =>
    if u2 < 4210 then (
    rdA (M 3) 4210 u2 fun v17 =>
    wrA M 1 4210 u2 v17 fun M18 =>
    nm (w32 (u2 + 1)) fun v19 =>
    lpX12_rowsOfDays_95 n v19 M18) else (
    some (0, M))
def rM_rowsOfDays (x1 : Int) (M : Mem) : Option (Int × Mem) :=
    bnI (rM_isIn x1 1 24 M) fun v2 M1 =>
    if v2 = 0 then (
    some ((-1000000001), M1)) else (
    if M1 0 3 = 0 then (
    some ((-1000000002), M1)) else (
    lpX12_rowsOfDays_27 x1 (fun M8 =>
    lpX12_rowsOfDays_66 x1 (fun M16 =>
    lpX12_rowsOfDays_95 FU 0 M16) FU 0 M8) FU 0 M1))
def rmX12_rowsOfDays : Room := { frames := 6, cells := 0, slots := 0, locals := 134 }
def lpX12_check_55 (y3 : Int) (k93 : Int → Mem → Option (Int × Mem)) : Nat → Int → Mem → Option (Int × Mem)
  | 0, _, _ => none
  | n + 1, u5, M =>
    if u5 < y3 then (
    if u5 < M 0 38 then (
    rdA (M 20) 60 u5 fun v7 =>
    rdA (M 21) 60 u5 fun v8 =>
    if v7 = v8 then (
    nm (w32 (u5 + 1)) fun v9 =>
    lpX12_check_55 y3 k93 n v9 M) else (
    k93 u5 M)) else (
    k93 u5 M)) else (
    k93 u5 M)
def rM_check (x1 : Int) (x2 : Int) (M : Mem) : Option (Int × Mem) :=
    nm (M 0 36) fun v1 =>
    wrF M 0 36 0 fun M2 =>
    wrF M2 0 38 0 fun M3 =>
    jn (fun (p4 : Int) (M6 : Mem) =>
    if p4 = 0 then (
    lpX12_check_55 v1 (fun v10 M11 =>
    if v10 = v1 then (
    if v10 = M11 0 38 then (
    some (0, M11)) else (
    some (w32 (1 + v10), M11))) else (
    some (w32 (1 + v10), M11))) FU 0 M6) else (
    some (p4, M6))) fun j5 =>
    if x1 = 0 then (
    bnI (rM_rowsOfOrder x2 M3) fun v15 M14 =>
    j5 v15 M14) else (
    if x1 = 1 then (
    bnI (rM_rowsOfDays x2 M3) fun v13 M12 =>
    j5 v13 M12) else (
    j5 (-1000000001) M3))
def rmX12_check : Room := { frames := 17, cells := 0, slots := 0, locals := 535 }
def lpX12_keep_7 : Nat → Int → Mem → Option (Int × Mem)
  | 0, _, _ => none
  | n + 1, u1, M =>
    if u1 < 4210 then (
    rdA (M 1) 4210 u1 fun v3 =>
    wrA M 2 4210 u1 v3 fun M4 =>
    nm (w32 (u1 + 1)) fun v5 =>
    lpX12_keep_7 n v5 M4) else (
    rdA (M 1) 4210 0 fun v2 =>
    some (v2, M))
def rM_keep (M : Mem) : Option (Int × Mem) :=
    wrF M 0 3 1 fun M1 =>
    lpX12_keep_7 FU 0 M1
def rmX12_keep : Room := { frames := 0, cells := 0, slots := 0, locals := 0 }
def lpX12_back_12 : Nat → Int → Mem → Option (Int × Mem)
  | 0, _, _ => none
  | n + 1, u1, M =>
    if u1 < 4210 then (
    rdA (M 2) 4210 u1 fun v2 =>
    wrA M 1 4210 u1 v2 fun M3 =>
    nm (w32 (u1 + 1)) fun v4 =>
    lpX12_back_12 n v4 M3) else (
    rdA (M 1) 4210 0 fun v1 =>
    some (v1, M))
def rM_back (M : Mem) : Option (Int × Mem) :=
    if M 0 3 = 0 then (
    some ((-1000000002), M)) else (
    lpX12_back_12 FU 0 M)
def rmX12_back : Room := { frames := 0, cells := 0, slots := 0, locals := 0 }
def lpX12_count_92 : Nat → Int → Int → Mem → Option (Int × Mem)
  | 0, _, _, _ => none
  | n + 1, u2, u3, M =>
    rdA (M 1) 4210 2 fun v5 =>
    if u3 < v5 then (
    bnI (rM_isDead u3 M) fun v7 M6 =>
    jn (fun (p8 : Int) (M10 : Mem) =>
    nm (w32 (u2 + p8)) fun v11 =>
    nm (w32 (u3 + 1)) fun v12 =>
    lpX12_count_92 n v11 v12 M10) fun j9 =>
    if v7 = 0 then (
    j9 0 M6) else (
    j9 1 M6)) else (
    some (u2, M))
def lpX12_count_140 : Nat → Int → Int → Mem → Option (Int × Mem)
  | 0, _, _, _ => none
  | n + 1, u2, u3, M =>
    rdA (M 1) 4210 3 fun v19 =>
    if u3 < v19 then (
    bnI (rM_tieAt u3 M) fun v21 M20 =>
    rdA (M20 1) 4210 v21 fun v22 =>
    jn (fun (p23 : Int) (M25 : Mem) =>
    nm (w32 (u2 + p23)) fun v26 =>
    nm (w32 (u3 + 1)) fun v27 =>
    lpX12_count_140 n v26 v27 M25) fun j24 =>
    jn (fun  (M29 : Mem) =>
    j24 0 M29) fun j28 =>
    if v22 = 6 then (
    bnI (rM_tieAt u3 M20) fun v31 M30 =>
    rdA (M30 1) 4210 (w32 (v31 + 6)) fun v32 =>
    if v32 = 0 then (
    j24 1 M30) else (
    j28 M30)) else (
    j28 M20)) else (
    some (u2, M))
def rM_count (x1 : Int) (M : Mem) : Option (Int × Mem) :=
    if x1 = 0 then (
    rdA (M 1) 4210 1 fun v1 =>
    some (v1, M)) else (
    if x1 = 1 then (
    rdA (M 1) 4210 2 fun v3 =>
    some (v3, M)) else (
    if x1 = 2 then (
    lpX12_count_92 FU 0 0 M) else (
    if x1 = 3 then (
    bnI (rM_waiters M) fun v15 M14 =>
    some (v15, M14)) else (
    if x1 = 4 then (
    rdA (M 1) 4210 3 fun v17 =>
    some (v17, M)) else (
    if x1 = 5 then (
    lpX12_count_140 FU 0 0 M) else (
    if x1 = 6 then (
    rdA (M 1) 4210 4 fun v34 =>
    some (v34, M)) else (
    if x1 = 7 then (
    rdA (M 1) 4210 5 fun v36 =>
    some (v36, M)) else (
    if x1 = 8 then (
    rdA (M 1) 4210 6 fun v38 =>
    some (v38, M)) else (
    if x1 = 9 then (
    rdA (M 1) 4210 7 fun v40 =>
    some (v40, M)) else (
    if x1 = 10 then (
    some (M 0 36, M)) else (
    if x1 = 11 then (
    some (M 0 9, M)) else (
    if x1 = 12 then (
    rdA (M 1) 4210 0 fun v44 =>
    some (v44, M)) else (
    if x1 = 13 then (
    rdA (M 1) 4210 (w32 ((w32 (8 + x1)) - 13)) fun v46 =>
    some (v46, M)) else (
    if x1 = 14 then (
    rdA (M 1) 4210 (w32 ((w32 (8 + x1)) - 13)) fun v48 =>
    some (v48, M)) else (
    some ((-1000000001), M))))))))))))))))
def rmX12_count : Room := { frames := 3, cells := 0, slots := 0, locals := 64 }
def lpX12_term_10 (rc : Int → Mem → Option (Int × Mem)) (y1 : Int) : Nat → Mem → Option (Int × Mem)
  | 0, _ => none
  | n + 1, M =>
    bnI (rM_isSign 42 M) fun v4 M3 =>
    jn (fun  (M6 : Mem) =>
    nm (M6 0 14) fun v7 =>
    bnV (rM_next M6) fun M8 =>
    bnI (rc y1 M8) fun v10 M9 =>
    if v10 = 0 then (
    some (0, M9)) else (
    bnV (rM_step 2 v7 M9) fun M11 =>
    lpX12_term_10 rc y1 n M11)) fun j5 =>
    if v4 = 0 then (
    bnI (rM_isSign 47 M3) fun v13 M12 =>
    if v13 = 0 then (
    some (1, M12)) else (
    j5 M12)) else (
    j5 M3)
def rM_term (rc : Int → Mem → Option (Int × Mem)) (x1 : Int) (M : Mem) : Option (Int × Mem) :=
    bnI (rc x1 M) fun v2 M1 =>
    if v2 = 0 then (
    some (0, M1)) else (
    lpX12_term_10 rc x1 FU M1)
def rmX12_term (d : Nat) : Room := { frames := 11 + 8 * d, cells := 0, slots := 0, locals := 330 + 250 * d }
theorem rk_X12_term_X12_isSign {d : Nat} : RmOk (rmX12_term d) rmX12_isSign 2 := ⟨show 0 + 1 ≤ 11 + 8 * d by omega, show 8 + (2 + 11) + (0) ≤ 330 + 250 * d by omega⟩
theorem rk_X12_term_X12_next {d : Nat} : RmOk (rmX12_term d) rmX12_next 3 := ⟨show 2 + 1 ≤ 11 + 8 * d by omega, show 8 + (3 + 11) + (46) ≤ 330 + 250 * d by omega⟩
theorem rk_X12_term_X12_part0 {d : Nat} : RmOk (rmX12_term d) (rmX12_part0 d) 2 := ⟨show 10 + 8 * d + 1 ≤ 11 + 8 * d by omega, show 8 + (2 + 11) + (300 + 250 * d) ≤ 330 + 250 * d by omega⟩
theorem rk_X12_term_X12_step {d : Nat} : RmOk (rmX12_term d) rmX12_step 3 := ⟨show 0 + 1 ≤ 11 + 8 * d by omega, show 8 + (3 + 11) + (0) ≤ 330 + 250 * d by omega⟩
def lpX12_sum_10 (rc : Int → Mem → Option (Int × Mem)) (y1 : Int) : Nat → Mem → Option (Int × Mem)
  | 0, _ => none
  | n + 1, M =>
    bnI (rM_isSign 43 M) fun v4 M3 =>
    jn (fun  (M6 : Mem) =>
    nm (M6 0 14) fun v7 =>
    bnV (rM_next M6) fun M8 =>
    bnI (rM_term rc y1 M8) fun v10 M9 =>
    if v10 = 0 then (
    some (0, M9)) else (
    bnV (rM_step 2 v7 M9) fun M11 =>
    lpX12_sum_10 rc y1 n M11)) fun j5 =>
    if v4 = 0 then (
    bnI (rM_isSign 45 M3) fun v13 M12 =>
    if v13 = 0 then (
    some (1, M12)) else (
    j5 M12)) else (
    j5 M3)
def rM_sum (rc : Int → Mem → Option (Int × Mem)) (x1 : Int) (M : Mem) : Option (Int × Mem) :=
    bnI (rM_term rc x1 M) fun v2 M1 =>
    if v2 = 0 then (
    some (0, M1)) else (
    lpX12_sum_10 rc x1 FU M1)
def rmX12_sum (d : Nat) : Room := { frames := 12 + 8 * d, cells := 0, slots := 0, locals := 360 + 250 * d }
theorem rk_X12_sum_X12_isSign {d : Nat} : RmOk (rmX12_sum d) rmX12_isSign 2 := ⟨show 0 + 1 ≤ 12 + 8 * d by omega, show 8 + (2 + 11) + (0) ≤ 360 + 250 * d by omega⟩
theorem rk_X12_sum_X12_next {d : Nat} : RmOk (rmX12_sum d) rmX12_next 3 := ⟨show 2 + 1 ≤ 12 + 8 * d by omega, show 8 + (3 + 11) + (46) ≤ 360 + 250 * d by omega⟩
theorem rk_X12_sum_X12_step {d : Nat} : RmOk (rmX12_sum d) rmX12_step 3 := ⟨show 0 + 1 ≤ 12 + 8 * d by omega, show 8 + (3 + 11) + (0) ≤ 360 + 250 * d by omega⟩
theorem rk_X12_sum_X12_term {d : Nat} : RmOk (rmX12_sum d) (rmX12_term d) 3 := ⟨show 11 + 8 * d + 1 ≤ 12 + 8 * d by omega, show 8 + (3 + 11) + (330 + 250 * d) ≤ 360 + 250 * d by omega⟩
def rM_test (rc : Int → Mem → Option (Int × Mem)) (x1 : Int) (M : Mem) : Option (Int × Mem) :=
    bnI (rM_sum rc x1 M) fun v2 M1 =>
    if v2 = 0 then (
    some (0, M1)) else (
    bnI (rM_isSign 60 M1) fun v4 M3 =>
    jn (fun  (M6 : Mem) =>
    nm (M6 0 14) fun v7 =>
    bnV (rM_next M6) fun M8 =>
    bnI (rM_sum rc x1 M8) fun v10 M9 =>
    if v10 = 0 then (
    some (0, M9)) else (
    bnV (rM_step 2 v7 M9) fun M11 =>
    some (1, M11))) fun j5 =>
    if v4 = 0 then (
    bnI (rM_isSign 61 M3) fun v13 M12 =>
    if v13 = 0 then (
    bnI (rM_isSign 62 M12) fun v15 M14 =>
    if v15 = 0 then (
    some (1, M14)) else (
    j5 M14)) else (
    j5 M12)) else (
    j5 M3))
def rmX12_test (d : Nat) : Room := { frames := 13 + 8 * d, cells := 0, slots := 0, locals := 390 + 250 * d }
theorem rk_X12_test_X12_isSign {d : Nat} : RmOk (rmX12_test d) rmX12_isSign 2 := ⟨show 0 + 1 ≤ 13 + 8 * d by omega, show 8 + (2 + 11) + (0) ≤ 390 + 250 * d by omega⟩
theorem rk_X12_test_X12_next {d : Nat} : RmOk (rmX12_test d) rmX12_next 3 := ⟨show 2 + 1 ≤ 13 + 8 * d by omega, show 8 + (3 + 11) + (46) ≤ 390 + 250 * d by omega⟩
theorem rk_X12_test_X12_step {d : Nat} : RmOk (rmX12_test d) rmX12_step 3 := ⟨show 0 + 1 ≤ 13 + 8 * d by omega, show 8 + (3 + 11) + (0) ≤ 390 + 250 * d by omega⟩
theorem rk_X12_test_X12_sum {d : Nat} : RmOk (rmX12_test d) (rmX12_sum d) 3 := ⟨show 12 + 8 * d + 1 ≤ 13 + 8 * d by omega, show 8 + (3 + 11) + (360 + 250 * d) ≤ 390 + 250 * d by omega⟩
def lpX12_both_10 (rc : Int → Mem → Option (Int × Mem)) (y1 : Int) : Nat → Mem → Option (Int × Mem)
  | 0, _ => none
  | n + 1, M =>
    bnI (rM_isSign 38 M) fun v4 M3 =>
    if v4 = 0 then (
    some (1, M3)) else (
    bnV (rM_next M3) fun M5 =>
    bnI (rM_test rc y1 M5) fun v7 M6 =>
    if v7 = 0 then (
    some (0, M6)) else (
    bnV (rM_step 2 38 M6) fun M8 =>
    lpX12_both_10 rc y1 n M8))
def rM_both (rc : Int → Mem → Option (Int × Mem)) (x1 : Int) (M : Mem) : Option (Int × Mem) :=
    bnI (rM_test rc x1 M) fun v2 M1 =>
    if v2 = 0 then (
    some (0, M1)) else (
    lpX12_both_10 rc x1 FU M1)
def rmX12_both (d : Nat) : Room := { frames := 14 + 8 * d, cells := 0, slots := 0, locals := 420 + 250 * d }
theorem rk_X12_both_X12_isSign {d : Nat} : RmOk (rmX12_both d) rmX12_isSign 2 := ⟨show 0 + 1 ≤ 14 + 8 * d by omega, show 8 + (2 + 11) + (0) ≤ 420 + 250 * d by omega⟩
theorem rk_X12_both_X12_next {d : Nat} : RmOk (rmX12_both d) rmX12_next 3 := ⟨show 2 + 1 ≤ 14 + 8 * d by omega, show 8 + (3 + 11) + (46) ≤ 420 + 250 * d by omega⟩
theorem rk_X12_both_X12_step {d : Nat} : RmOk (rmX12_both d) rmX12_step 3 := ⟨show 0 + 1 ≤ 14 + 8 * d by omega, show 8 + (3 + 11) + (0) ≤ 420 + 250 * d by omega⟩
theorem rk_X12_both_X12_test {d : Nat} : RmOk (rmX12_both d) (rmX12_test d) 3 := ⟨show 13 + 8 * d + 1 ≤ 14 + 8 * d by omega, show 8 + (3 + 11) + (390 + 250 * d) ≤ 420 + 250 * d by omega⟩
def lpX12_either_10 (rc : Int → Mem → Option (Int × Mem)) (y1 : Int) : Nat → Mem → Option (Int × Mem)
  | 0, _ => none
  | n + 1, M =>
    bnI (rM_isSign 124 M) fun v4 M3 =>
    if v4 = 0 then (
    some (1, M3)) else (
    bnV (rM_next M3) fun M5 =>
    bnI (rM_both rc y1 M5) fun v7 M6 =>
    if v7 = 0 then (
    some (0, M6)) else (
    bnV (rM_step 2 124 M6) fun M8 =>
    lpX12_either_10 rc y1 n M8))
def rM_either (rc : Int → Mem → Option (Int × Mem)) (x1 : Int) (M : Mem) : Option (Int × Mem) :=
    bnI (rM_both rc x1 M) fun v2 M1 =>
    if v2 = 0 then (
    some (0, M1)) else (
    lpX12_either_10 rc x1 FU M1)
def rmX12_either (d : Nat) : Room := { frames := 15 + 8 * d, cells := 0, slots := 0, locals := 450 + 250 * d }
theorem rk_X12_either_X12_both {d : Nat} : RmOk (rmX12_either d) (rmX12_both d) 2 := ⟨show 14 + 8 * d + 1 ≤ 15 + 8 * d by omega, show 8 + (2 + 11) + (420 + 250 * d) ≤ 450 + 250 * d by omega⟩
theorem rk_X12_either_X12_isSign {d : Nat} : RmOk (rmX12_either d) rmX12_isSign 2 := ⟨show 0 + 1 ≤ 15 + 8 * d by omega, show 8 + (2 + 11) + (0) ≤ 450 + 250 * d by omega⟩
theorem rk_X12_either_X12_next {d : Nat} : RmOk (rmX12_either d) rmX12_next 3 := ⟨show 2 + 1 ≤ 15 + 8 * d by omega, show 8 + (3 + 11) + (46) ≤ 450 + 250 * d by omega⟩
theorem rk_X12_either_X12_step {d : Nat} : RmOk (rmX12_either d) rmX12_step 3 := ⟨show 0 + 1 ≤ 15 + 8 * d by omega, show 8 + (3 + 11) + (0) ≤ 450 + 250 * d by omega⟩
def rM_part0b (rc : Int → Mem → Option (Int × Mem)) (x1 : Int) (M : Mem) : Option (Int × Mem) :=
    if M 0 12 = 2 then (
    bnV (rM_step 0 (M 0 13) M) fun M28 =>
    wrF M28 0 19 (w32 ((M28 0 19) + 1)) fun M29 =>
    bnV (rM_next M29) fun M30 =>
    some (1, M30)) else (
    jn (fun  (M2 : Mem) =>
    bnI (rM_isSign 33 M2) fun v4 M3 =>
    jn (fun  (M6 : Mem) =>
    bnI (rM_isSign 40 M6) fun v8 M7 =>
    if v8 = 0 then (
    some (0, M7)) else (
    if M7 0 15 = 8 then (
    some (0, M7)) else (
    wrF M7 0 15 (w32 ((M7 0 15) + 1)) fun M9 =>
    bnV (rM_next M9) fun M10 =>
    bnI (rM_either rc x1 M10) fun v12 M11 =>
    if v12 = 0 then (
    some (0, M11)) else (
    bnI (rM_isSign 41 M11) fun v14 M13 =>
    if v14 = 0 then (
    some (0, M13)) else (
    wrF M13 0 15 (w32 ((M13 0 15) - 1)) fun M15 =>
    bnV (rM_next M15) fun M16 =>
    some (1, M16)))))) fun j5 =>
    if v4 = 0 then (
    j5 M3) else (
    if M3 0 16 < 8 then (
    wrF M3 0 16 (w32 ((M3 0 16) + 1)) fun M17 =>
    bnV (rM_next M17) fun M18 =>
    bnI (rc x1 M18) fun v20 M19 =>
    if v20 = 0 then (
    some (0, M19)) else (
    wrF M19 0 16 (w32 ((M19 0 16) - 1)) fun M21 =>
    bnV (rM_step 2 33 M21) fun M22 =>
    some (1, M22))) else (
    j5 M3))) fun j1 =>
    if M 0 12 = 1 then (
    if M 0 14 = 0 then (
    j1 M) else (
    bnI (rM_isName x1 (M 0 14) M) fun v24 M23 =>
    if v24 = 0 then (
    j1 M23) else (
    bnV (rM_step 1 (M23 0 14) M23) fun M25 =>
    wrF M25 0 19 (w32 ((M25 0 19) + 1)) fun M26 =>
    bnV (rM_next M26) fun M27 =>
    some (1, M27)))) else (
    j1 M))
def rM_part0 : Nat → Int → Mem → Option (Int × Mem)
  | 0, _, _ => none
  | d + 1, x1, M => rM_part0b (fun x1 M => rM_part0 d x1 M) x1 M
theorem rk_X12_part0_X12_either {d : Nat} : RmOk (rmX12_part0 (d + 1)) (rmX12_either d) 2 := ⟨show 15 + 8 * d + 1 ≤ 10 + 8 * (d + 1) by omega, show 8 + (2 + 11) + (450 + 250 * d) ≤ 300 + 250 * (d + 1) by omega⟩
theorem rk_X12_part0_X12_isName {d : Nat} : RmOk (rmX12_part0 (d + 1)) rmX12_isName 2 := ⟨show 0 + 1 ≤ 10 + 8 * (d + 1) by omega, show 8 + (2 + 11) + (0) ≤ 300 + 250 * (d + 1) by omega⟩
theorem rk_X12_part0_X12_isSign {d : Nat} : RmOk (rmX12_part0 (d + 1)) rmX12_isSign 2 := ⟨show 0 + 1 ≤ 10 + 8 * (d + 1) by omega, show 8 + (2 + 11) + (0) ≤ 300 + 250 * (d + 1) by omega⟩
theorem rk_X12_part0_X12_next {d : Nat} : RmOk (rmX12_part0 (d + 1)) rmX12_next 3 := ⟨show 2 + 1 ≤ 10 + 8 * (d + 1) by omega, show 8 + (3 + 11) + (46) ≤ 300 + 250 * (d + 1) by omega⟩
theorem rk_X12_part0_X12_part0 {d : Nat} : RmOk (rmX12_part0 (d + 1)) (rmX12_part0 d) 2 := ⟨show 10 + 8 * d + 1 ≤ 10 + 8 * (d + 1) by omega, show 8 + (2 + 11) + (300 + 250 * d) ≤ 300 + 250 * (d + 1) by omega⟩
theorem rk_X12_part0_X12_step {d : Nat} : RmOk (rmX12_part0 (d + 1)) rmX12_step 3 := ⟨show 0 + 1 ≤ 10 + 8 * (d + 1) by omega, show 8 + (3 + 11) + (0) ≤ 300 + 250 * (d + 1) by omega⟩
def rM_parse (M : Mem) : Option (Int × Mem) :=
    wrF M 0 11 0 fun M1 =>
    wrF M1 0 12 3 fun M2 =>
    wrF M2 0 15 0 fun M3 =>
    wrF M3 0 16 0 fun M4 =>
    wrF M4 0 17 0 fun M5 =>
    wrF M5 0 19 0 fun M6 =>
    rdA (M6 1) 4210 4 fun v7 =>
    jn (fun (p8 : Int) (M10 : Mem) =>
    wrF M10 0 18 p8 fun M11 =>
    bnV (rM_next M11) fun M12 =>
    bnI (rM_key M12) fun v14 M13 =>
    jn (fun (p15 : Int) (M17 : Mem) =>
    jn (fun (p18 : Int) (M20 : Mem) =>
    wrF M20 0 9 0 fun M21 =>
    if p18 = 0 then (
    some ((-1), M21)) else (
    some (v14, M21))) fun j19 =>
    if p15 = 0 then (
    j19 p15 M17) else (
    bnV (rM_next M17) fun M22 =>
    bnI (rM_either (rM_part0 20) v14 M22) fun v24 M23 =>
    jn (fun (p25 : Int) (M27 : Mem) =>
    j19 p25 M27) fun j26 =>
    jn (fun  (M29 : Mem) =>
    j26 0 M29) fun j28 =>
    if v24 = 0 then (
    j28 M23) else (
    if M23 0 12 = 0 then (
    j26 1 M23) else (
    j28 M23)))) fun j16 =>
    if v14 < 0 then (
    j16 0 M13) else (
    j16 1 M13)) fun j9 =>
    if v7 < 12 then (
    rdA (M6 1) 4210 4 fun v30 =>
    bnI (rM_textAt v30 M6) fun v32 M31 =>
    j9 (w32 (v32 + 6)) M31) else (
    j9 4010 M6)
def rmX12_parse : Room := { frames := 176, cells := 0, slots := 0, locals := 5471 }
def rM_text (x1 : Int) (x2 : Int) (M : Mem) : Option (Int × Mem) :=
    bnI (rM_isSide x1 M) fun v2 M1 =>
    jn (fun (p3 : Int) (M5 : Mem) =>
    bnI (rM_parse M5) fun v7 M6 =>
    if p3 = 0 then (
    some ((-1000000001), M6)) else (
    if v7 < 0 then (
    some (w32 ((-100) - (M6 0 10)), M6)) else (
    rdA (M6 1) 4210 4 fun v8 =>
    if v8 = 12 then (
    some ((-1000000003), M6)) else (
    rdA (M6 1) 4210 4 fun v9 =>
    bnI (rM_textAt v9 M6) fun v11 M10 =>
    wrA M10 1 4210 (w32 (v11 + 0)) v7 fun M12 =>
    wrA M12 1 4210 (w32 (v11 + 1)) x1 fun M13 =>
    wrA M13 1 4210 (w32 (v11 + 2)) x2 fun M14 =>
    wrA M14 1 4210 (w32 (v11 + 3)) (-1) fun M15 =>
    wrA M15 1 4210 (w32 (v11 + 4)) (M15 0 19) fun M16 =>
    wrA M16 1 4210 (w32 (v11 + 5)) (M16 0 17) fun M17 =>
    rdA (M17 1) 4210 4 fun v18 =>
    wrA M17 1 4210 4 (w32 (v18 + 1)) fun M19 =>
    rdA (M19 1) 4210 4 fun v20 =>
    some (w32 (v20 - 1), M19))))) fun j4 =>
    jn (fun  (M22 : Mem) =>
    j4 0 M22) fun j21 =>
    if v2 = 0 then (
    j21 M1) else (
    bnI (rM_isIn x2 0 416 M1) fun v24 M23 =>
    if v24 = 0 then (
    j21 M23) else (
    j4 1 M23))
def rmX12_text : Room := { frames := 177, cells := 0, slots := 0, locals := 5493 }
