def rM_isIn (x0 : Int) (x2 : Int) (x4 : Int) (M : Mem) : Option (Int × Mem) :=
    if cmpZ x0 x2 < 0 then (
    some (0, M)) else (
    if 0 < cmpZ x0 x4 then (
    some (0, M)) else (
    some (1, M)))
def rmX12_isIn : Room := { frames := 0, cells := 0, slots := 0, locals := 0 }
def rM_orNone (x0 : Int) (M : Mem) : Option (Int × Mem) :=
    if x0 < 0 then (
    some ((-1000000005), M)) else (
    some (x0, M))
def rmX12_orNone : Room := { frames := 0, cells := 0, slots := 0, locals := 0 }
def rM_least (x0 : Int) (x1 : Int) (M : Mem) : Option (Int × Mem) :=
    if x0 < x1 then (
    some (x0, M)) else (
    some (x1, M))
def rmX12_least : Room := { frames := 0, cells := 0, slots := 0, locals := 0 }
def rM_size (x0 : Int) (M : Mem) : Option (Int × Mem) :=
    if x0 < 0 then (
    some (w32 (-x0), M)) else (
    some (x0, M))
def rmX12_size : Room := { frames := 0, cells := 0, slots := 0, locals := 0 }
def rM_becomes (x1 : Int) (x2 : Int) (M : Mem) : Option (Int × Mem) :=
    rdA (M 1) 4210 x1 fun v1 =>
    wrA M 1 4210 x1 x2 fun M2 =>
    some (v1, M2)
def rmX12_becomes : Room := { frames := 0, cells := 0, slots := 0, locals := 0 }
def rM_cellAt (x1 : Int) (M : Mem) : Option (Int × Mem) :=
    some (w32 (20 + (w32 (3 * x1))), M)
def rmX12_cellAt : Room := { frames := 0, cells := 0, slots := 0, locals := 0 }
def rM_personAt (x1 : Int) (M : Mem) : Option (Int × Mem) :=
    some (w32 (70 + (w32 (8 * x1))), M)
def rmX12_personAt : Room := { frames := 0, cells := 0, slots := 0, locals := 0 }
def rM_tieAt (x1 : Int) (M : Mem) : Option (Int × Mem) :=
    some (w32 (230 + (w32 (10 * x1))), M)
def rmX12_tieAt : Room := { frames := 0, cells := 0, slots := 0, locals := 0 }
def rM_textAt (x1 : Int) (M : Mem) : Option (Int × Mem) :=
    some (w32 (1310 + (w32 (200 * x1))), M)
def rmX12_textAt : Room := { frames := 0, cells := 0, slots := 0, locals := 0 }
def rM_isCell (x1 : Int) (M : Mem) : Option (Int × Mem) :=
    rdA (M 1) 4210 1 fun v1 =>
    bnI (rM_isIn x1 0 (w32 (v1 - 1)) M) fun v3 M2 =>
    if v3 = 0 ∨ v3 = 1 then some (v3, M2) else none
def rmX12_isCell : Room := { frames := 1, cells := 0, slots := 0, locals := 25 }
def rM_isPerson (x1 : Int) (M : Mem) : Option (Int × Mem) :=
    rdA (M 1) 4210 2 fun v1 =>
    bnI (rM_isIn x1 0 (w32 (v1 - 1)) M) fun v3 M2 =>
    if v3 = 0 ∨ v3 = 1 then some (v3, M2) else none
def rmX12_isPerson : Room := { frames := 1, cells := 0, slots := 0, locals := 25 }
def rM_isTie (x1 : Int) (M : Mem) : Option (Int × Mem) :=
    rdA (M 1) 4210 3 fun v1 =>
    bnI (rM_isIn x1 0 (w32 (v1 - 1)) M) fun v3 M2 =>
    if v3 = 0 ∨ v3 = 1 then some (v3, M2) else none
def rmX12_isTie : Room := { frames := 1, cells := 0, slots := 0, locals := 25 }
def rM_isText (x1 : Int) (M : Mem) : Option (Int × Mem) :=
    rdA (M 1) 4210 4 fun v1 =>
    bnI (rM_isIn x1 0 (w32 (v1 - 1)) M) fun v3 M2 =>
    if v3 = 0 ∨ v3 = 1 then some (v3, M2) else none
def rmX12_isText : Room := { frames := 1, cells := 0, slots := 0, locals := 25 }
def rM_isSide (x0 : Int) (M : Mem) : Option (Int × Mem) :=
    bnI (rM_isIn x0 0 1 M) fun v2 M1 =>
    if v2 = 0 ∨ v2 = 1 then some (v2, M1) else none
def rmX12_isSide : Room := { frames := 1, cells := 0, slots := 0, locals := 25 }
def rM_isOf (x1 : Int) (x2 : Int) (M : Mem) : Option (Int × Mem) :=
    bnI (rM_isTie x1 M) fun v2 M1 =>
    if v2 = 0 then (
    some (0, M1)) else (
    bnI (rM_tieAt x1 M1) fun v4 M3 =>
    rdA (M3 1) 4210 v4 fun v5 =>
    if v5 = x2 then (
    some (1, M3)) else (
    some (0, M3)))
def rmX12_isOf : Room := { frames := 2, cells := 0, slots := 0, locals := 46 }
def rM_sideOf (x1 : Int) (M : Mem) : Option (Int × Mem) :=
    bnI (rM_cellAt x1 M) fun v2 M1 =>
    rdA (M1 1) 4210 (w32 (v2 + 0)) fun v3 =>
    some (v3, M1)
def rmX12_sideOf : Room := { frames := 1, cells := 0, slots := 0, locals := 21 }
def rM_ownSide (x1 : Int) (M : Mem) : Option (Int × Mem) :=
    bnI (rM_personAt x1 M) fun v2 M1 =>
    rdA (M1 1) 4210 (w32 (v2 + 0)) fun v3 =>
    bnI (rM_sideOf v3 M1) fun v5 M4 =>
    some (v5, M4)
def rmX12_ownSide : Room := { frames := 2, cells := 0, slots := 0, locals := 42 }
def rM_isDead (x1 : Int) (M : Mem) : Option (Int × Mem) :=
    bnI (rM_personAt x1 M) fun v2 M1 =>
    rdA (M1 1) 4210 (w32 (v2 + 7)) fun v3 =>
    if v3 = 1 then (
    some (1, M1)) else (
    some (0, M1))
def rmX12_isDead : Room := { frames := 1, cells := 0, slots := 0, locals := 21 }
def rM_waits (x1 : Int) (M : Mem) : Option (Int × Mem) :=
    bnI (rM_personAt x1 M) fun v2 M1 =>
    rdA (M1 1) 4210 (w32 (v2 + 4)) fun v3 =>
    if v3 < 0 then (
    some (0, M1)) else (
    some (1, M1))
def rmX12_waits : Room := { frames := 1, cells := 0, slots := 0, locals := 21 }
def rM_day (M : Mem) : Option (Int × Mem) :=
    rdA (M 1) 4210 0 fun v1 =>
    some (w32 (v1.tdiv 24), M)
def rmX12_day : Room := { frames := 0, cells := 0, slots := 0, locals := 0 }
def rM_cell (x1 : Int) (M : Mem) : Option (Int × Mem) :=
    bnI (rM_isSide x1 M) fun v2 M1 =>
    if v2 = 0 then (
    some ((-1000000001), M1)) else (
    rdA (M1 1) 4210 1 fun v3 =>
    if v3 = 16 then (
    some ((-1000000003), M1)) else (
    rdA (M1 1) 4210 1 fun v4 =>
    bnI (rM_cellAt v4 M1) fun v6 M5 =>
    wrA M5 1 4210 (w32 (v6 + 0)) x1 fun M7 =>
    wrA M7 1 4210 (w32 (v6 + 1)) 0 fun M8 =>
    wrA M8 1 4210 (w32 (v6 + 2)) 0 fun M9 =>
    rdA (M9 1) 4210 1 fun v10 =>
    wrA M9 1 4210 1 (w32 (v10 + 1)) fun M11 =>
    rdA (M11 1) 4210 1 fun v12 =>
    some (w32 (v12 - 1), M11)))
def rmX12_cell : Room := { frames := 2, cells := 0, slots := 0, locals := 45 }
def rM_water (x1 : Int) (x2 : Int) (x3 : Int) (M : Mem) : Option (Int × Mem) :=
    bnI (rM_isCell x1 M) fun v2 M1 =>
    if v2 = 0 then (
    some ((-1000000001), M1)) else (
    bnI (rM_isIn x2 0 1 M1) fun v4 M3 =>
    if v4 = 0 then (
    some ((-1000000001), M3)) else (
    jn (fun (p5 : Int) (M7 : Mem) =>
    bnI (rM_isIn x3 0 p5 M7) fun v9 M8 =>
    if v9 = 0 then (
    some ((-1000000001), M8)) else (
    bnI (rM_cellAt x1 M8) fun v11 M10 =>
    bnI (rM_becomes (w32 ((w32 (v11 + 1)) + x2)) x3 M10) fun v13 M12 =>
    some (v13, M12))) fun j6 =>
    if x2 = 0 then (
    j6 999 M3) else (
    j6 9999 M3)))
def rmX12_water : Room := { frames := 2, cells := 0, slots := 0, locals := 46 }
def rM_person (x1 : Int) (x2 : Int) (x3 : Int) (M : Mem) : Option (Int × Mem) :=
    bnI (rM_isCell x1 M) fun v2 M1 =>
    if v2 = 0 then (
    some ((-1000000001), M1)) else (
    bnI (rM_isIn x2 0 99 M1) fun v4 M3 =>
    if v4 = 0 then (
    some ((-1000000001), M3)) else (
    bnI (rM_isIn x3 0 3 M3) fun v6 M5 =>
    if v6 = 0 then (
    some ((-1000000001), M5)) else (
    rdA (M5 1) 4210 2 fun v7 =>
    if v7 = 20 then (
    some ((-1000000003), M5)) else (
    rdA (M5 1) 4210 2 fun v8 =>
    bnI (rM_personAt v8 M5) fun v10 M9 =>
    wrA M9 1 4210 (w32 (v10 + 0)) x1 fun M11 =>
    wrA M11 1 4210 (w32 (v10 + 1)) x2 fun M12 =>
    wrA M12 1 4210 (w32 (v10 + 2)) x3 fun M13 =>
    wrA M13 1 4210 (w32 (v10 + 3)) x1 fun M14 =>
    wrA M14 1 4210 (w32 (v10 + 4)) (-1) fun M15 =>
    wrA M15 1 4210 (w32 (v10 + 5)) (-1) fun M16 =>
    wrA M16 1 4210 (w32 (v10 + 6)) 0 fun M17 =>
    wrA M17 1 4210 (w32 (v10 + 7)) 0 fun M18 =>
    rdA (M18 1) 4210 2 fun v19 =>
    wrA M18 1 4210 2 (w32 (v19 + 1)) fun M20 =>
    rdA (M20 1) 4210 2 fun v21 =>
    some (w32 (v21 - 1), M20)))))
def rmX12_person : Room := { frames := 2, cells := 0, slots := 0, locals := 46 }
def rM_is (x1 : Int) (x2 : Int) (M : Mem) : Option (Int × Mem) :=
    bnI (rM_isPerson x1 M) fun v2 M1 =>
    if v2 = 0 then (
    some ((-1000000001), M1)) else (
    bnI (rM_isIn x2 0 7 M1) fun v4 M3 =>
    if v4 = 0 then (
    some ((-1000000001), M3)) else (
    bnI (rM_personAt x1 M3) fun v6 M5 =>
    if x2 = 3 then (
    rdA (M5 1) 4210 (w32 (v6 + 3)) fun v7 =>
    bnI (rM_orNone v7 M5) fun v9 M8 =>
    some (v9, M8)) else (
    if x2 = 4 then (
    rdA (M5 1) 4210 (w32 (v6 + 4)) fun v11 =>
    bnI (rM_orNone v11 M5) fun v13 M12 =>
    some (v13, M12)) else (
    if x2 = 5 then (
    rdA (M5 1) 4210 (w32 (v6 + 7)) fun v15 =>
    some (v15, M5)) else (
    if x2 = 6 then (
    rdA (M5 1) 4210 (w32 ((w32 (15 + x2)) - 6)) fun v17 =>
    some (bAnd (bShr v17 x1) 1, M5)) else (
    if x2 = 7 then (
    rdA (M5 1) 4210 (w32 ((w32 (15 + x2)) - 6)) fun v19 =>
    some (bAnd (bShr v19 x1) 1, M5)) else (
    rdA (M5 1) 4210 (w32 (v6 + x2)) fun v21 =>
    some (v21, M5))))))))
def rmX12_is : Room := { frames := 2, cells := 0, slots := 0, locals := 46 }
def rM_be (x1 : Int) (x2 : Int) (x3 : Int) (M : Mem) : Option (Int × Mem) :=
    bnI (rM_isPerson x1 M) fun v2 M1 =>
    if v2 = 0 then (
    some ((-1000000001), M1)) else (
    bnI (rM_isIn x2 1 2 M1) fun v4 M3 =>
    if v4 = 0 then (
    some ((-1000000001), M3)) else (
    jn (fun (p5 : Int) (M7 : Mem) =>
    bnI (rM_isIn x3 0 p5 M7) fun v9 M8 =>
    if v9 = 0 then (
    some ((-1000000001), M8)) else (
    bnI (rM_personAt x1 M8) fun v11 M10 =>
    bnI (rM_becomes (w32 (v11 + x2)) x3 M10) fun v13 M12 =>
    some (v13, M12))) fun j6 =>
    if x2 = 1 then (
    j6 99 M3) else (
    j6 3 M3)))
def rmX12_be : Room := { frames := 2, cells := 0, slots := 0, locals := 46 }
def rM_die (x1 : Int) (M : Mem) : Option (Int × Mem) :=
    bnI (rM_isPerson x1 M) fun v2 M1 =>
    if v2 = 0 then (
    some ((-1000000001), M1)) else (
    bnI (rM_isDead x1 M1) fun v4 M3 =>
    if v4 = 0 then (
    bnI (rM_personAt x1 M3) fun v6 M5 =>
    bnI (rM_waits x1 M5) fun v8 M7 =>
    jn (fun (p9 : Int) (M11 : Mem) =>
    rdA (M11 1) 4210 (w32 (15 + p9)) fun v12 =>
    wrA M11 1 4210 (w32 (15 + p9)) (bOr v12 (bShl 1 x1)) fun M13 =>
    wrA M13 1 4210 (w32 (v6 + 7)) 1 fun M14 =>
    wrA M14 1 4210 (w32 (v6 + 3)) (-1) fun M15 =>
    wrA M15 1 4210 (w32 (v6 + 4)) (-1) fun M16 =>
    wrA M16 1 4210 (w32 (v6 + 5)) (-1) fun M17 =>
    some (1, M17)) fun j10 =>
    if v8 = 0 then (
    rdA (M7 1) 4210 (w32 (v6 + 3)) fun v18 =>
    bnI (rM_sideOf v18 M7) fun v20 M19 =>
    j10 v20 M19) else (
    bnI (rM_ownSide x1 M7) fun v22 M21 =>
    j10 v22 M21)) else (
    some ((-1000000002), M3)))
def rmX12_die : Room := { frames := 3, cells := 0, slots := 0, locals := 63 }
def rM_fits (x1 : Int) (x2 : Int) (M : Mem) : Option (Int × Mem) :=
    if x1 = 1 then (
    bnI (rM_isIn x2 0 9 M) fun v2 M1 =>
    if v2 = 0 ∨ v2 = 1 then some (v2, M1) else none) else (
    if x1 = 2 then (
    if x2 = 0 then (
    some (1, M)) else (
    some (0, M))) else (
    if x1 = 3 then (
    bnI (rM_isIn x2 0 9999 M) fun v6 M5 =>
    if v6 = 0 ∨ v6 = 1 then some (v6, M5) else none) else (
    if x1 = 4 then (
    bnI (rM_isIn x2 0 60 M) fun v9 M8 =>
    if v9 = 0 ∨ v9 = 1 then some (v9, M8) else none) else (
    if x1 = 5 then (
    bnI (rM_isIn x2 1 9 M) fun v12 M11 =>
    if v12 = 0 ∨ v12 = 1 then some (v12, M11) else none) else (
    if x2 = 0 then (
    some (1, M)) else (
    some (0, M)))))))
def rmX12_fits : Room := { frames := 1, cells := 0, slots := 0, locals := 25 }
def lpX12_newTie_15 (y1 : Int) (y2 : Int) (y3 : Int) (y4 : Int) (y5 : Int) (k39 : Mem → Option (Int × Mem)) : Nat → Int → Mem → Option (Int × Mem)
  | 0, _, _ => none
  | n + 1, u6, M =>
    if u6 < 10 then (
    wrA M 1 4210 (w32 (y5 + u6)) 0 fun M4 =>
    nm (w32 (u6 + 1)) fun v5 =>
    lpX12_newTie_15 y1 y2 y3 y4 y5 k39 n v5 M4) else (
    k39 M)
def rM_newTie (x1 : Int) (x2 : Int) (x3 : Int) (x4 : Int) (M : Mem) : Option (Int × Mem) :=
    rdA (M 1) 4210 3 fun v1 =>
    bnI (rM_tieAt v1 M) fun v3 M2 =>
    lpX12_newTie_15 x1 x2 x3 x4 v3 (fun M6 =>
    wrA M6 1 4210 v3 x1 fun M7 =>
    wrA M7 1 4210 (w32 (v3 + 1)) x2 fun M8 =>
    wrA M8 1 4210 (w32 (v3 + 2)) x3 fun M9 =>
    wrA M9 1 4210 (w32 (v3 + 3)) x4 fun M10 =>
    jn (fun (p11 : Int) (M13 : Mem) =>
    wrA M13 1 4210 (w32 (v3 + 5)) p11 fun M14 =>
    wrA M14 1 4210 (w32 (v3 + 8)) (-1) fun M15 =>
    rdA (M15 1) 4210 3 fun v16 =>
    wrA M15 1 4210 (w32 (630 + (w32 (17 * v16)))) 0 fun M17 =>
    rdA (M17 1) 4210 3 fun v18 =>
    wrA M17 1 4210 3 (w32 (v18 + 1)) fun M19 =>
    rdA (M19 1) 4210 3 fun v20 =>
    some (w32 (v20 - 1), M19)) fun j12 =>
    if x1 = 1 then (
    j12 23 M10) else (
    j12 0 M10)) FU 0 M2
def rmX12_newTie : Room := { frames := 1, cells := 0, slots := 0, locals := 21 }
def rM_tie (x1 : Int) (x2 : Int) (x3 : Int) (x4 : Int) (M : Mem) : Option (Int × Mem) :=
    bnI (rM_isIn x1 0 5 M) fun v2 M1 =>
    jn (fun (p3 : Int) (M5 : Mem) =>
    if p3 = 0 then (
    some ((-1000000001), M5)) else (
    bnI (rM_fits x1 x4 M5) fun v7 M6 =>
    if v7 = 0 then (
    some ((-1000000001), M6)) else (
    rdA (M6 1) 4210 3 fun v8 =>
    if v8 = 40 then (
    some ((-1000000003), M6)) else (
    bnI (rM_newTie x1 x2 x3 x4 M6) fun v10 M9 =>
    some (v10, M9))))) fun j4 =>
    jn (fun  (M12 : Mem) =>
    j4 0 M12) fun j11 =>
    if v2 = 0 then (
    j11 M1) else (
    if x2 = x3 then (
    j11 M1) else (
    jn (fun  (M14 : Mem) =>
    j4 1 M14) fun j13 =>
    if x1 = 5 then (
    bnI (rM_isPerson x2 M1) fun v20 M19 =>
    if v20 = 0 then (
    j11 M19) else (
    bnI (rM_isPerson x3 M19) fun v22 M21 =>
    if v22 = 0 then (
    j11 M21) else (
    j13 M21))) else (
    bnI (rM_isCell x2 M1) fun v16 M15 =>
    if v16 = 0 then (
    j11 M15) else (
    bnI (rM_isCell x3 M15) fun v18 M17 =>
    if v18 = 0 then (
    j11 M17) else (
    j13 M17)))))
def rmX12_tie : Room := { frames := 2, cells := 0, slots := 0, locals := 47 }
def rM_pass (x1 : Int) (x2 : Int) (x3 : Int) (x4 : Int) (M : Mem) : Option (Int × Mem) :=
    bnI (rM_isPerson x1 M) fun v2 M1 =>
    jn (fun (p3 : Int) (M5 : Mem) =>
    if p3 = 0 then (
    some ((-1000000001), M5)) else (
    if w32 (x4.tmod 1000) < w32 (x4.tdiv 1000) then (
    some ((-1000000001), M5)) else (
    if 416 < w32 (x4.tmod 1000) then (
    some ((-1000000001), M5)) else (
    bnI (rM_ownSide x1 M5) fun v7 M6 =>
    bnI (rM_ownSide x2 M6) fun v9 M8 =>
    if v7 = v9 then (
    some ((-1000000001), M8)) else (
    rdA (M8 1) 4210 3 fun v10 =>
    if v10 = 40 then (
    some ((-1000000003), M8)) else (
    bnI (rM_newTie 6 x1 x2 x3 M8) fun v12 M11 =>
    bnI (rM_tieAt v12 M11) fun v14 M13 =>
    wrA M13 1 4210 (w32 (v14 + 4)) (w32 (x4.tdiv 1000)) fun M15 =>
    bnI (rM_tieAt v12 M15) fun v17 M16 =>
    wrA M16 1 4210 (w32 (v17 + 5)) (w32 (x4.tmod 1000)) fun M18 =>
    some (v12, M18))))))) fun j4 =>
    jn (fun  (M20 : Mem) =>
    j4 0 M20) fun j19 =>
    if v2 = 0 then (
    j19 M1) else (
    bnI (rM_isPerson x2 M1) fun v22 M21 =>
    if v22 = 0 then (
    j19 M21) else (
    bnI (rM_isIn x3 1 99 M21) fun v24 M23 =>
    if v24 = 0 then (
    j19 M23) else (
    if x4 < 0 then (
    j19 M23) else (
    j4 1 M23))))
def rmX12_pass : Room := { frames := 3, cells := 0, slots := 0, locals := 63 }
