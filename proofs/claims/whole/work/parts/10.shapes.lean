/-! What each cell is: of the class (cities from 100, 200, 300 on), of the reference. -/
def cityShp (b : Nat) : Nat → Shp
  | 0 => .inr (0, [fI, fI, fR (b + 1), fR (b + 2), fR (b + 3), fR (b + 4), fR (b + 5), fR (b + 6), fR (b + 15), fR (b + 30), fR (b + 37), fR (b + 47), fR (b + 53), fR (b + 57)])
  | 1 => .inl 16
  | 2 => .inl 16
  | 3 => .inl 16
  | 4 => .inl 2
  | 5 => .inl 2
  | 6 => .inr (6, [fI, fR (b + 7), fR (b + 8), fR (b + 9), fR (b + 10), fR (b + 11), fR (b + 12), fR (b + 13), fI, fI, fR (b + 14)])
  | 7 => .inl 20
  | 8 => .inl 20
  | 9 => .inl 20
  | 10 => .inl 20
  | 11 => .inl 20
  | 12 => .inl 20
  | 13 => .inl 20
  | 14 => .inl 2
  | 15 => .inr (9, [fI, fR (b + 16), fR (b + 17), fR (b + 18), fR (b + 19), fR (b + 20), fR (b + 21), fR (b + 22), fR (b + 23), fR (b + 24), fR (b + 25), fR (b + 26), fR (b + 27), fR (b + 28), fR (b + 29)])
  | 16 => .inl 40
  | 17 => .inl 40
  | 18 => .inl 40
  | 19 => .inl 40
  | 20 => .inl 40
  | 21 => .inl 40
  | 22 => .inl 40
  | 23 => .inl 40
  | 24 => .inl 40
  | 25 => .inl 40
  | 26 => .inl 40
  | 27 => .inl 320
  | 28 => .inl 320
  | 29 => .inl 20
  | 30 => .inr (7, [fI, fR (b + 31), fR (b + 32), fR (b + 33), fI, fR (b + 34), fR (b + 35), fR (b + 36)])
  | 31 => .inl 20
  | 32 => .inl 20
  | 33 => .inl 20
  | 34 => .inl 20
  | 35 => .inl 20
  | 36 => .inl 20
  | 37 => .inr (4, [fI, fR (b + 38), fR (b + 39), fR (b + 40), fR (b + 41), fR (b + 42), fR (b + 43), fR (b + 44), fR (b + 45), fR (b + 46)])
  | 38 => .inl 12
  | 39 => .inl 12
  | 40 => .inl 12
  | 41 => .inl 12
  | 42 => .inl 12
  | 43 => .inl 12
  | 44 => .inl 1152
  | 45 => .inl 4
  | 46 => .inl 96
  | 47 => .inr (3, [fR (b + 48), fR (b + 49), fR (b + 50), fR (b + 51), fR (b + 52), fI, fB b])
  | 48 => .inl 2
  | 49 => .inl 20
  | 50 => .inl 20
  | 51 => .inl 3
  | 52 => .inl 10
  | 53 => .inr (2, [fR (b + 54), fR (b + 55), fR (b + 56)])
  | 54 => .inl 104
  | 55 => .inl 8
  | 56 => .inl 8
  | 57 => .inr (1, [fI, fR (b + 58), fR (b + 59), fR (b + 60), fR (b + 61), fI, fR (b + 62), fI, fI, fI])
  | 58 => .inl 7
  | 59 => .inl 7
  | 60 => .inl 7
  | 61 => .inl 7
  | 62 => .inl 7
  | _ => .inl 0
def topShp : Nat → Shp
  | 0 => .inr (11, [fR 100, fR 200, fR 300, fI, fR 1, fR 5, fR 9, fR 13, fI, fR 14])
  | 1 => .inr (8, [fI, fR 2, fI, fI, fI, fR 3, fI, fI, fI, fR 4, fI, fI, fI, fI])
  | 2 => .inl 96
  | 3 => .inl 96
  | 4 => .inl 96
  | 5 => .inr (5, [fR 6, fR 7, fR 8])
  | 6 => .inl 2
  | 7 => .inl 2
  | 8 => .inl 60
  | 9 => .inr (10, [fR 10, fR 11, fR 12])
  | 10 => .inl 324
  | 11 => .inl 18
  | 12 => .inl 18
  | 13 => .inl 60
  | 14 => .inl 60
  | _ => .inl 0
def modShp : Nat → Shp
  | 0 => .inr (12, [fR 1, fR 2, fR 3, fI, fR 4, fR 5, fR 6, fR 7, fR 8, fI, fI, fI, fI, fI, fI, fI, fI, fI, fI, fI, fI, fR 9, fR 10, fR 11, fR 12, fR 13, fR 14, fR 15, fR 16, fR 17, fR 18, fR 19, fI, fI, fI, fR 20, fI, fR 21, fI])
  | 1 => .inl 4210
  | 2 => .inl 4210
  | 3 => .inl 4210
  | 4 => .inl 2
  | 5 => .inl 2
  | 6 => .inl 60
  | 7 => .inl 400
  | 8 => .inl 96
  | 9 => .inl 128
  | 10 => .inl 100
  | 11 => .inl 324
  | 12 => .inl 18
  | 13 => .inl 18
  | 14 => .inl 11264
  | 15 => .inl 10
  | 16 => .inl 30
  | 17 => .inl 8
  | 18 => .inl 8
  | 19 => .inl 8
  | 20 => .inl 60
  | 21 => .inl 60
  | _ => .inl 0
def shpP (id : Nat) : Shp := match id / 100 with
  | 0 => topShp id
  | 1 => cityShp 100 (id - 100)
  | 2 => cityShp 200 (id - 200)
  | _ => cityShp 300 (id - 300)
def idsP : List Nat := List.range 15 ++ ((List.range 63).map (100 + ·) ++ ((List.range 63).map (200 + ·) ++ (List.range 63).map (300 + ·)))
def kP : Kx := (idsP, [100, 200, 300], shpP)
def kR : Kx := (List.range 22, [], modShp)
theorem kP_ok : KOk kP := ⟨by decide +kernel, by decide +kernel, by decide +kernel⟩
theorem kR_ok : KOk kR := ⟨by decide +kernel, by decide +kernel, by decide +kernel⟩
def isC (b : Nat) : Prop := b = 100 ∨ b = 200 ∨ b = 300
theorem isC_100 : isC 100 := Or.inl rfl
theorem isC_200 : isC 200 := Or.inr (Or.inl rfl)
theorem isC_300 : isC 300 := Or.inr (Or.inr rfl)
def FU : Nat := 1000000
theorem shP_of {X : Xc} {id : Nat} {s : Shp} (hX : xK X = kP) (h1 : id ∈ idsP) (h2 : shpP id = s) : Sh X id s := ⟨by rw [hX]; exact h1, by rw [hX]; exact h2⟩
theorem shR_of {X : Xc} {id : Nat} {s : Shp} (hX : xK X = kR) (h1 : id ∈ List.range 22) (h2 : modShp id = s) : Sh X id s := ⟨by rw [hX]; exact h1, by rw [hX]; exact h2⟩
theorem inBa {X : Xc} {b : Nat} (hX : xK X = kP) (hb : isC b) : b ∈ (xK X).2.1 := by
  rw [hX]
  rcases hb with rfl | rfl | rfl <;> decide
theorem shP_0 {X : Xc} (hX : xK X = kP) {b : Nat} (hb : isC b) : Sh X (b) (.inr (0, [fI, fI, fR (b + 1), fR (b + 2), fR (b + 3), fR (b + 4), fR (b + 5), fR (b + 6), fR (b + 15), fR (b + 30), fR (b + 37), fR (b + 47), fR (b + 53), fR (b + 57)])) := by
  rcases hb with rfl | rfl | rfl <;> exact shP_of hX (by decide +kernel) rfl
theorem shP_1 {X : Xc} (hX : xK X = kP) {b : Nat} (hb : isC b) : Sh X (b + 1) (.inl 16) := by
  rcases hb with rfl | rfl | rfl <;> exact shP_of hX (by decide +kernel) rfl
theorem shP_2 {X : Xc} (hX : xK X = kP) {b : Nat} (hb : isC b) : Sh X (b + 2) (.inl 16) := by
  rcases hb with rfl | rfl | rfl <;> exact shP_of hX (by decide +kernel) rfl
theorem shP_3 {X : Xc} (hX : xK X = kP) {b : Nat} (hb : isC b) : Sh X (b + 3) (.inl 16) := by
  rcases hb with rfl | rfl | rfl <;> exact shP_of hX (by decide +kernel) rfl
theorem shP_4 {X : Xc} (hX : xK X = kP) {b : Nat} (hb : isC b) : Sh X (b + 4) (.inl 2) := by
  rcases hb with rfl | rfl | rfl <;> exact shP_of hX (by decide +kernel) rfl
theorem shP_5 {X : Xc} (hX : xK X = kP) {b : Nat} (hb : isC b) : Sh X (b + 5) (.inl 2) := by
  rcases hb with rfl | rfl | rfl <;> exact shP_of hX (by decide +kernel) rfl
theorem shP_6 {X : Xc} (hX : xK X = kP) {b : Nat} (hb : isC b) : Sh X (b + 6) (.inr (6, [fI, fR (b + 7), fR (b + 8), fR (b + 9), fR (b + 10), fR (b + 11), fR (b + 12), fR (b + 13), fI, fI, fR (b + 14)])) := by
  rcases hb with rfl | rfl | rfl <;> exact shP_of hX (by decide +kernel) rfl
theorem shP_7 {X : Xc} (hX : xK X = kP) {b : Nat} (hb : isC b) : Sh X (b + 7) (.inl 20) := by
  rcases hb with rfl | rfl | rfl <;> exact shP_of hX (by decide +kernel) rfl
theorem shP_8 {X : Xc} (hX : xK X = kP) {b : Nat} (hb : isC b) : Sh X (b + 8) (.inl 20) := by
  rcases hb with rfl | rfl | rfl <;> exact shP_of hX (by decide +kernel) rfl
theorem shP_9 {X : Xc} (hX : xK X = kP) {b : Nat} (hb : isC b) : Sh X (b + 9) (.inl 20) := by
  rcases hb with rfl | rfl | rfl <;> exact shP_of hX (by decide +kernel) rfl
theorem shP_10 {X : Xc} (hX : xK X = kP) {b : Nat} (hb : isC b) : Sh X (b + 10) (.inl 20) := by
  rcases hb with rfl | rfl | rfl <;> exact shP_of hX (by decide +kernel) rfl
theorem shP_11 {X : Xc} (hX : xK X = kP) {b : Nat} (hb : isC b) : Sh X (b + 11) (.inl 20) := by
  rcases hb with rfl | rfl | rfl <;> exact shP_of hX (by decide +kernel) rfl
theorem shP_12 {X : Xc} (hX : xK X = kP) {b : Nat} (hb : isC b) : Sh X (b + 12) (.inl 20) := by
  rcases hb with rfl | rfl | rfl <;> exact shP_of hX (by decide +kernel) rfl
theorem shP_13 {X : Xc} (hX : xK X = kP) {b : Nat} (hb : isC b) : Sh X (b + 13) (.inl 20) := by
  rcases hb with rfl | rfl | rfl <;> exact shP_of hX (by decide +kernel) rfl
theorem shP_14 {X : Xc} (hX : xK X = kP) {b : Nat} (hb : isC b) : Sh X (b + 14) (.inl 2) := by
  rcases hb with rfl | rfl | rfl <;> exact shP_of hX (by decide +kernel) rfl
theorem shP_15 {X : Xc} (hX : xK X = kP) {b : Nat} (hb : isC b) : Sh X (b + 15) (.inr (9, [fI, fR (b + 16), fR (b + 17), fR (b + 18), fR (b + 19), fR (b + 20), fR (b + 21), fR (b + 22), fR (b + 23), fR (b + 24), fR (b + 25), fR (b + 26), fR (b + 27), fR (b + 28), fR (b + 29)])) := by
  rcases hb with rfl | rfl | rfl <;> exact shP_of hX (by decide +kernel) rfl
theorem shP_16 {X : Xc} (hX : xK X = kP) {b : Nat} (hb : isC b) : Sh X (b + 16) (.inl 40) := by
  rcases hb with rfl | rfl | rfl <;> exact shP_of hX (by decide +kernel) rfl
theorem shP_17 {X : Xc} (hX : xK X = kP) {b : Nat} (hb : isC b) : Sh X (b + 17) (.inl 40) := by
  rcases hb with rfl | rfl | rfl <;> exact shP_of hX (by decide +kernel) rfl
theorem shP_18 {X : Xc} (hX : xK X = kP) {b : Nat} (hb : isC b) : Sh X (b + 18) (.inl 40) := by
  rcases hb with rfl | rfl | rfl <;> exact shP_of hX (by decide +kernel) rfl
theorem shP_19 {X : Xc} (hX : xK X = kP) {b : Nat} (hb : isC b) : Sh X (b + 19) (.inl 40) := by
  rcases hb with rfl | rfl | rfl <;> exact shP_of hX (by decide +kernel) rfl
theorem shP_20 {X : Xc} (hX : xK X = kP) {b : Nat} (hb : isC b) : Sh X (b + 20) (.inl 40) := by
  rcases hb with rfl | rfl | rfl <;> exact shP_of hX (by decide +kernel) rfl
theorem shP_21 {X : Xc} (hX : xK X = kP) {b : Nat} (hb : isC b) : Sh X (b + 21) (.inl 40) := by
  rcases hb with rfl | rfl | rfl <;> exact shP_of hX (by decide +kernel) rfl
theorem shP_22 {X : Xc} (hX : xK X = kP) {b : Nat} (hb : isC b) : Sh X (b + 22) (.inl 40) := by
  rcases hb with rfl | rfl | rfl <;> exact shP_of hX (by decide +kernel) rfl
theorem shP_23 {X : Xc} (hX : xK X = kP) {b : Nat} (hb : isC b) : Sh X (b + 23) (.inl 40) := by
  rcases hb with rfl | rfl | rfl <;> exact shP_of hX (by decide +kernel) rfl
theorem shP_24 {X : Xc} (hX : xK X = kP) {b : Nat} (hb : isC b) : Sh X (b + 24) (.inl 40) := by
  rcases hb with rfl | rfl | rfl <;> exact shP_of hX (by decide +kernel) rfl
theorem shP_25 {X : Xc} (hX : xK X = kP) {b : Nat} (hb : isC b) : Sh X (b + 25) (.inl 40) := by
  rcases hb with rfl | rfl | rfl <;> exact shP_of hX (by decide +kernel) rfl
theorem shP_26 {X : Xc} (hX : xK X = kP) {b : Nat} (hb : isC b) : Sh X (b + 26) (.inl 40) := by
  rcases hb with rfl | rfl | rfl <;> exact shP_of hX (by decide +kernel) rfl
theorem shP_27 {X : Xc} (hX : xK X = kP) {b : Nat} (hb : isC b) : Sh X (b + 27) (.inl 320) := by
  rcases hb with rfl | rfl | rfl <;> exact shP_of hX (by decide +kernel) rfl
theorem shP_28 {X : Xc} (hX : xK X = kP) {b : Nat} (hb : isC b) : Sh X (b + 28) (.inl 320) := by
  rcases hb with rfl | rfl | rfl <;> exact shP_of hX (by decide +kernel) rfl
theorem shP_29 {X : Xc} (hX : xK X = kP) {b : Nat} (hb : isC b) : Sh X (b + 29) (.inl 20) := by
  rcases hb with rfl | rfl | rfl <;> exact shP_of hX (by decide +kernel) rfl
theorem shP_30 {X : Xc} (hX : xK X = kP) {b : Nat} (hb : isC b) : Sh X (b + 30) (.inr (7, [fI, fR (b + 31), fR (b + 32), fR (b + 33), fI, fR (b + 34), fR (b + 35), fR (b + 36)])) := by
  rcases hb with rfl | rfl | rfl <;> exact shP_of hX (by decide +kernel) rfl
theorem shP_31 {X : Xc} (hX : xK X = kP) {b : Nat} (hb : isC b) : Sh X (b + 31) (.inl 20) := by
  rcases hb with rfl | rfl | rfl <;> exact shP_of hX (by decide +kernel) rfl
theorem shP_32 {X : Xc} (hX : xK X = kP) {b : Nat} (hb : isC b) : Sh X (b + 32) (.inl 20) := by
  rcases hb with rfl | rfl | rfl <;> exact shP_of hX (by decide +kernel) rfl
theorem shP_33 {X : Xc} (hX : xK X = kP) {b : Nat} (hb : isC b) : Sh X (b + 33) (.inl 20) := by
  rcases hb with rfl | rfl | rfl <;> exact shP_of hX (by decide +kernel) rfl
theorem shP_34 {X : Xc} (hX : xK X = kP) {b : Nat} (hb : isC b) : Sh X (b + 34) (.inl 20) := by
  rcases hb with rfl | rfl | rfl <;> exact shP_of hX (by decide +kernel) rfl
theorem shP_35 {X : Xc} (hX : xK X = kP) {b : Nat} (hb : isC b) : Sh X (b + 35) (.inl 20) := by
  rcases hb with rfl | rfl | rfl <;> exact shP_of hX (by decide +kernel) rfl
theorem shP_36 {X : Xc} (hX : xK X = kP) {b : Nat} (hb : isC b) : Sh X (b + 36) (.inl 20) := by
  rcases hb with rfl | rfl | rfl <;> exact shP_of hX (by decide +kernel) rfl
theorem shP_37 {X : Xc} (hX : xK X = kP) {b : Nat} (hb : isC b) : Sh X (b + 37) (.inr (4, [fI, fR (b + 38), fR (b + 39), fR (b + 40), fR (b + 41), fR (b + 42), fR (b + 43), fR (b + 44), fR (b + 45), fR (b + 46)])) := by
  rcases hb with rfl | rfl | rfl <;> exact shP_of hX (by decide +kernel) rfl
theorem shP_38 {X : Xc} (hX : xK X = kP) {b : Nat} (hb : isC b) : Sh X (b + 38) (.inl 12) := by
  rcases hb with rfl | rfl | rfl <;> exact shP_of hX (by decide +kernel) rfl
theorem shP_39 {X : Xc} (hX : xK X = kP) {b : Nat} (hb : isC b) : Sh X (b + 39) (.inl 12) := by
  rcases hb with rfl | rfl | rfl <;> exact shP_of hX (by decide +kernel) rfl
theorem shP_40 {X : Xc} (hX : xK X = kP) {b : Nat} (hb : isC b) : Sh X (b + 40) (.inl 12) := by
  rcases hb with rfl | rfl | rfl <;> exact shP_of hX (by decide +kernel) rfl
theorem shP_41 {X : Xc} (hX : xK X = kP) {b : Nat} (hb : isC b) : Sh X (b + 41) (.inl 12) := by
  rcases hb with rfl | rfl | rfl <;> exact shP_of hX (by decide +kernel) rfl
theorem shP_42 {X : Xc} (hX : xK X = kP) {b : Nat} (hb : isC b) : Sh X (b + 42) (.inl 12) := by
  rcases hb with rfl | rfl | rfl <;> exact shP_of hX (by decide +kernel) rfl
theorem shP_43 {X : Xc} (hX : xK X = kP) {b : Nat} (hb : isC b) : Sh X (b + 43) (.inl 12) := by
  rcases hb with rfl | rfl | rfl <;> exact shP_of hX (by decide +kernel) rfl
theorem shP_44 {X : Xc} (hX : xK X = kP) {b : Nat} (hb : isC b) : Sh X (b + 44) (.inl 1152) := by
  rcases hb with rfl | rfl | rfl <;> exact shP_of hX (by decide +kernel) rfl
theorem shP_45 {X : Xc} (hX : xK X = kP) {b : Nat} (hb : isC b) : Sh X (b + 45) (.inl 4) := by
  rcases hb with rfl | rfl | rfl <;> exact shP_of hX (by decide +kernel) rfl
theorem shP_46 {X : Xc} (hX : xK X = kP) {b : Nat} (hb : isC b) : Sh X (b + 46) (.inl 96) := by
  rcases hb with rfl | rfl | rfl <;> exact shP_of hX (by decide +kernel) rfl
theorem shP_47 {X : Xc} (hX : xK X = kP) {b : Nat} (hb : isC b) : Sh X (b + 47) (.inr (3, [fR (b + 48), fR (b + 49), fR (b + 50), fR (b + 51), fR (b + 52), fI, fB b])) := by
  rcases hb with rfl | rfl | rfl <;> exact shP_of hX (by decide +kernel) rfl
theorem shP_48 {X : Xc} (hX : xK X = kP) {b : Nat} (hb : isC b) : Sh X (b + 48) (.inl 2) := by
  rcases hb with rfl | rfl | rfl <;> exact shP_of hX (by decide +kernel) rfl
theorem shP_49 {X : Xc} (hX : xK X = kP) {b : Nat} (hb : isC b) : Sh X (b + 49) (.inl 20) := by
  rcases hb with rfl | rfl | rfl <;> exact shP_of hX (by decide +kernel) rfl
theorem shP_50 {X : Xc} (hX : xK X = kP) {b : Nat} (hb : isC b) : Sh X (b + 50) (.inl 20) := by
  rcases hb with rfl | rfl | rfl <;> exact shP_of hX (by decide +kernel) rfl
theorem shP_51 {X : Xc} (hX : xK X = kP) {b : Nat} (hb : isC b) : Sh X (b + 51) (.inl 3) := by
  rcases hb with rfl | rfl | rfl <;> exact shP_of hX (by decide +kernel) rfl
theorem shP_52 {X : Xc} (hX : xK X = kP) {b : Nat} (hb : isC b) : Sh X (b + 52) (.inl 10) := by
  rcases hb with rfl | rfl | rfl <;> exact shP_of hX (by decide +kernel) rfl
theorem shP_53 {X : Xc} (hX : xK X = kP) {b : Nat} (hb : isC b) : Sh X (b + 53) (.inr (2, [fR (b + 54), fR (b + 55), fR (b + 56)])) := by
  rcases hb with rfl | rfl | rfl <;> exact shP_of hX (by decide +kernel) rfl
theorem shP_54 {X : Xc} (hX : xK X = kP) {b : Nat} (hb : isC b) : Sh X (b + 54) (.inl 104) := by
  rcases hb with rfl | rfl | rfl <;> exact shP_of hX (by decide +kernel) rfl
theorem shP_55 {X : Xc} (hX : xK X = kP) {b : Nat} (hb : isC b) : Sh X (b + 55) (.inl 8) := by
  rcases hb with rfl | rfl | rfl <;> exact shP_of hX (by decide +kernel) rfl
theorem shP_56 {X : Xc} (hX : xK X = kP) {b : Nat} (hb : isC b) : Sh X (b + 56) (.inl 8) := by
  rcases hb with rfl | rfl | rfl <;> exact shP_of hX (by decide +kernel) rfl
theorem shP_57 {X : Xc} (hX : xK X = kP) {b : Nat} (hb : isC b) : Sh X (b + 57) (.inr (1, [fI, fR (b + 58), fR (b + 59), fR (b + 60), fR (b + 61), fI, fR (b + 62), fI, fI, fI])) := by
  rcases hb with rfl | rfl | rfl <;> exact shP_of hX (by decide +kernel) rfl
theorem shP_58 {X : Xc} (hX : xK X = kP) {b : Nat} (hb : isC b) : Sh X (b + 58) (.inl 7) := by
  rcases hb with rfl | rfl | rfl <;> exact shP_of hX (by decide +kernel) rfl
theorem shP_59 {X : Xc} (hX : xK X = kP) {b : Nat} (hb : isC b) : Sh X (b + 59) (.inl 7) := by
  rcases hb with rfl | rfl | rfl <;> exact shP_of hX (by decide +kernel) rfl
theorem shP_60 {X : Xc} (hX : xK X = kP) {b : Nat} (hb : isC b) : Sh X (b + 60) (.inl 7) := by
  rcases hb with rfl | rfl | rfl <;> exact shP_of hX (by decide +kernel) rfl
theorem shP_61 {X : Xc} (hX : xK X = kP) {b : Nat} (hb : isC b) : Sh X (b + 61) (.inl 7) := by
  rcases hb with rfl | rfl | rfl <;> exact shP_of hX (by decide +kernel) rfl
theorem shP_62 {X : Xc} (hX : xK X = kP) {b : Nat} (hb : isC b) : Sh X (b + 62) (.inl 7) := by
  rcases hb with rfl | rfl | rfl <;> exact shP_of hX (by decide +kernel) rfl
theorem shT_0 {X : Xc} (hX : xK X = kP) : Sh X 0 (.inr (11, [fR 100, fR 200, fR 300, fI, fR 1, fR 5, fR 9, fR 13, fI, fR 14])) := shP_of hX (by decide +kernel) rfl
theorem shT_1 {X : Xc} (hX : xK X = kP) : Sh X 1 (.inr (8, [fI, fR 2, fI, fI, fI, fR 3, fI, fI, fI, fR 4, fI, fI, fI, fI])) := shP_of hX (by decide +kernel) rfl
theorem shT_2 {X : Xc} (hX : xK X = kP) : Sh X 2 (.inl 96) := shP_of hX (by decide +kernel) rfl
theorem shT_3 {X : Xc} (hX : xK X = kP) : Sh X 3 (.inl 96) := shP_of hX (by decide +kernel) rfl
theorem shT_4 {X : Xc} (hX : xK X = kP) : Sh X 4 (.inl 96) := shP_of hX (by decide +kernel) rfl
theorem shT_5 {X : Xc} (hX : xK X = kP) : Sh X 5 (.inr (5, [fR 6, fR 7, fR 8])) := shP_of hX (by decide +kernel) rfl
theorem shT_6 {X : Xc} (hX : xK X = kP) : Sh X 6 (.inl 2) := shP_of hX (by decide +kernel) rfl
theorem shT_7 {X : Xc} (hX : xK X = kP) : Sh X 7 (.inl 2) := shP_of hX (by decide +kernel) rfl
theorem shT_8 {X : Xc} (hX : xK X = kP) : Sh X 8 (.inl 60) := shP_of hX (by decide +kernel) rfl
theorem shT_9 {X : Xc} (hX : xK X = kP) : Sh X 9 (.inr (10, [fR 10, fR 11, fR 12])) := shP_of hX (by decide +kernel) rfl
theorem shT_10 {X : Xc} (hX : xK X = kP) : Sh X 10 (.inl 324) := shP_of hX (by decide +kernel) rfl
theorem shT_11 {X : Xc} (hX : xK X = kP) : Sh X 11 (.inl 18) := shP_of hX (by decide +kernel) rfl
theorem shT_12 {X : Xc} (hX : xK X = kP) : Sh X 12 (.inl 18) := shP_of hX (by decide +kernel) rfl
theorem shT_13 {X : Xc} (hX : xK X = kP) : Sh X 13 (.inl 60) := shP_of hX (by decide +kernel) rfl
theorem shT_14 {X : Xc} (hX : xK X = kP) : Sh X 14 (.inl 60) := shP_of hX (by decide +kernel) rfl
theorem shR_0 {X : Xc} (hX : xK X = kR) : Sh X 0 (.inr (12, [fR 1, fR 2, fR 3, fI, fR 4, fR 5, fR 6, fR 7, fR 8, fI, fI, fI, fI, fI, fI, fI, fI, fI, fI, fI, fI, fR 9, fR 10, fR 11, fR 12, fR 13, fR 14, fR 15, fR 16, fR 17, fR 18, fR 19, fI, fI, fI, fR 20, fI, fR 21, fI])) := shR_of hX (by decide +kernel) rfl
theorem shR_1 {X : Xc} (hX : xK X = kR) : Sh X 1 (.inl 4210) := shR_of hX (by decide +kernel) rfl
theorem shR_2 {X : Xc} (hX : xK X = kR) : Sh X 2 (.inl 4210) := shR_of hX (by decide +kernel) rfl
theorem shR_3 {X : Xc} (hX : xK X = kR) : Sh X 3 (.inl 4210) := shR_of hX (by decide +kernel) rfl
theorem shR_4 {X : Xc} (hX : xK X = kR) : Sh X 4 (.inl 2) := shR_of hX (by decide +kernel) rfl
theorem shR_5 {X : Xc} (hX : xK X = kR) : Sh X 5 (.inl 2) := shR_of hX (by decide +kernel) rfl
theorem shR_6 {X : Xc} (hX : xK X = kR) : Sh X 6 (.inl 60) := shR_of hX (by decide +kernel) rfl
theorem shR_7 {X : Xc} (hX : xK X = kR) : Sh X 7 (.inl 400) := shR_of hX (by decide +kernel) rfl
theorem shR_8 {X : Xc} (hX : xK X = kR) : Sh X 8 (.inl 96) := shR_of hX (by decide +kernel) rfl
theorem shR_9 {X : Xc} (hX : xK X = kR) : Sh X 9 (.inl 128) := shR_of hX (by decide +kernel) rfl
theorem shR_10 {X : Xc} (hX : xK X = kR) : Sh X 10 (.inl 100) := shR_of hX (by decide +kernel) rfl
theorem shR_11 {X : Xc} (hX : xK X = kR) : Sh X 11 (.inl 324) := shR_of hX (by decide +kernel) rfl
theorem shR_12 {X : Xc} (hX : xK X = kR) : Sh X 12 (.inl 18) := shR_of hX (by decide +kernel) rfl
theorem shR_13 {X : Xc} (hX : xK X = kR) : Sh X 13 (.inl 18) := shR_of hX (by decide +kernel) rfl
theorem shR_14 {X : Xc} (hX : xK X = kR) : Sh X 14 (.inl 11264) := shR_of hX (by decide +kernel) rfl
theorem shR_15 {X : Xc} (hX : xK X = kR) : Sh X 15 (.inl 10) := shR_of hX (by decide +kernel) rfl
theorem shR_16 {X : Xc} (hX : xK X = kR) : Sh X 16 (.inl 30) := shR_of hX (by decide +kernel) rfl
theorem shR_17 {X : Xc} (hX : xK X = kR) : Sh X 17 (.inl 8) := shR_of hX (by decide +kernel) rfl
theorem shR_18 {X : Xc} (hX : xK X = kR) : Sh X 18 (.inl 8) := shR_of hX (by decide +kernel) rfl
theorem shR_19 {X : Xc} (hX : xK X = kR) : Sh X 19 (.inl 8) := shR_of hX (by decide +kernel) rfl
theorem shR_20 {X : Xc} (hX : xK X = kR) : Sh X 20 (.inl 60) := shR_of hX (by decide +kernel) rfl
theorem shR_21 {X : Xc} (hX : xK X = kR) : Sh X 21 (.inl 60) := shR_of hX (by decide +kernel) rfl
theorem tb_1 {w : Cond} (h : w ∈ tables_1_1) : w ∈ lw_tbl := List.mem_append_right _ (List.mem_append_left _ h)
theorem tb_2 {w : Cond} (h : w ∈ tables_1_2) : w ∈ lw_tbl := List.mem_append_right _ (List.mem_append_right _ (List.mem_append_left _ h))
theorem tb_3 {w : Cond} (h : w ∈ tables_1_3) : w ∈ lw_tbl := List.mem_append_right _ (List.mem_append_right _ (List.mem_append_right _ (List.mem_append_left _ h)))
theorem tb_4 {w : Cond} (h : w ∈ tables_1_4) : w ∈ lw_tbl := List.mem_append_right _ (List.mem_append_right _ (List.mem_append_right _ (List.mem_append_right _ (List.mem_append_left _ h))))
theorem tb_5 {w : Cond} (h : w ∈ tables_1_5) : w ∈ lw_tbl := List.mem_append_right _ (List.mem_append_right _ (List.mem_append_right _ (List.mem_append_right _ (List.mem_append_right _ (List.mem_append_left _ h)))))
theorem tb_6 {w : Cond} (h : w ∈ tables_1_6) : w ∈ lw_tbl := List.mem_append_right _ (List.mem_append_right _ (List.mem_append_right _ (List.mem_append_right _ (List.mem_append_right _ (List.mem_append_right _ (List.mem_append_left _ h))))))
theorem tb_7 {w : Cond} (h : w ∈ tables_1_7) : w ∈ lw_tbl := List.mem_append_right _ (List.mem_append_right _ (List.mem_append_right _ (List.mem_append_right _ (List.mem_append_right _ (List.mem_append_right _ (List.mem_append_right _ (List.mem_append_left _ h)))))))
theorem tb_8 {w : Cond} (h : w ∈ tables_1_8) : w ∈ lw_tbl := List.mem_append_right _ (List.mem_append_right _ (List.mem_append_right _ (List.mem_append_right _ (List.mem_append_right _ (List.mem_append_right _ (List.mem_append_right _ (List.mem_append_right _ (List.mem_append_left _ h))))))))
theorem tb_9 {w : Cond} (h : w ∈ tables_1_9) : w ∈ lw_tbl := List.mem_append_right _ (List.mem_append_right _ (List.mem_append_right _ (List.mem_append_right _ (List.mem_append_right _ (List.mem_append_right _ (List.mem_append_right _ (List.mem_append_right _ (List.mem_append_right _ (List.mem_append_left _ h)))))))))
theorem tb_10 {w : Cond} (h : w ∈ tables_1_10) : w ∈ lw_tbl := List.mem_append_right _ (List.mem_append_right _ (List.mem_append_right _ (List.mem_append_right _ (List.mem_append_right _ (List.mem_append_right _ (List.mem_append_right _ (List.mem_append_right _ (List.mem_append_right _ (List.mem_append_right _ (h))))))))))
theorem ly_X0_0 : u_lay RX0 TX0 0 ∈ wsT := wsT_in (tb_2 (List.mem_of_getElem? (i := 135) (by decide +kernel))) (by decide +kernel)
theorem ly_X0_1 : u_lay RX0 TX0 1 ∈ wsT := wsT_in (tb_2 (List.mem_of_getElem? (i := 137) (by decide +kernel))) (by decide +kernel)
theorem ly_X0_2 : u_lay RX0 TX0 2 ∈ wsT := wsT_in (tb_2 (List.mem_of_getElem? (i := 139) (by decide +kernel))) (by decide +kernel)
theorem ly_X0_3 : u_lay RX0 TX0 3 ∈ wsT := wsT_in (tb_2 (List.mem_of_getElem? (i := 141) (by decide +kernel))) (by decide +kernel)
theorem ly_X0_4 : u_lay RX0 TX0 4 ∈ wsT := wsT_in (tb_2 (List.mem_of_getElem? (i := 143) (by decide +kernel))) (by decide +kernel)
theorem ly_X0_5 : u_lay RX0 TX0 5 ∈ wsT := wsT_in (tb_2 (List.mem_of_getElem? (i := 145) (by decide +kernel))) (by decide +kernel)
theorem ly_X0_6 : u_lay RX0 TX0 6 ∈ wsT := wsT_in (tb_2 (List.mem_of_getElem? (i := 147) (by decide +kernel))) (by decide +kernel)
theorem ly_X0_7 : u_lay RX0 TX0 7 ∈ wsT := wsT_in (tb_2 (List.mem_of_getElem? (i := 149) (by decide +kernel))) (by decide +kernel)
theorem ly_X0_8 : u_lay RX0 TX0 8 ∈ wsT := wsT_in (tb_2 (List.mem_of_getElem? (i := 151) (by decide +kernel))) (by decide +kernel)
theorem ly_X0_9 : u_lay RX0 TX0 9 ∈ wsT := wsT_in (tb_2 (List.mem_of_getElem? (i := 153) (by decide +kernel))) (by decide +kernel)
theorem ly_X0_10 : u_lay RX0 TX0 10 ∈ wsT := wsT_in (tb_2 (List.mem_of_getElem? (i := 155) (by decide +kernel))) (by decide +kernel)
theorem ly_X0_11 : u_lay RX0 TX0 11 ∈ wsT := wsT_in (tb_2 (List.mem_of_getElem? (i := 157) (by decide +kernel))) (by decide +kernel)
theorem ly_X0_12 : u_lay RX0 TX0 12 ∈ wsT := wsT_in (tb_2 (List.mem_of_getElem? (i := 159) (by decide +kernel))) (by decide +kernel)
theorem ly_X0_13 : u_lay RX0 TX0 13 ∈ wsT := wsT_in (tb_2 (List.mem_of_getElem? (i := 161) (by decide +kernel))) (by decide +kernel)
theorem kX0 : Kl 0 RX0 TX0 14 tyX0 := by
  refine ⟨rfl, fun w hw => ?_, tyX0_ok, nmX0⟩
  obtain ⟨k, hk, rfl⟩ := List.mem_map.mp hw
  have hk := List.mem_range.mp hk
  match k, hk with
  | 0, _ => exact ly_X0_0
  | 1, _ => exact ly_X0_1
  | 2, _ => exact ly_X0_2
  | 3, _ => exact ly_X0_3
  | 4, _ => exact ly_X0_4
  | 5, _ => exact ly_X0_5
  | 6, _ => exact ly_X0_6
  | 7, _ => exact ly_X0_7
  | 8, _ => exact ly_X0_8
  | 9, _ => exact ly_X0_9
  | 10, _ => exact ly_X0_10
  | 11, _ => exact ly_X0_11
  | 12, _ => exact ly_X0_12
  | 13, _ => exact ly_X0_13
  | k + 14, h => exact absurd h (by omega)
theorem ly_X1_0 : u_lay RX1 TX1 0 ∈ wsT := wsT_in (tb_2 (List.mem_of_getElem? (i := 80) (by decide +kernel))) (by decide +kernel)
theorem ly_X1_1 : u_lay RX1 TX1 1 ∈ wsT := wsT_in (tb_2 (List.mem_of_getElem? (i := 82) (by decide +kernel))) (by decide +kernel)
theorem ly_X1_2 : u_lay RX1 TX1 2 ∈ wsT := wsT_in (tb_2 (List.mem_of_getElem? (i := 84) (by decide +kernel))) (by decide +kernel)
theorem ly_X1_3 : u_lay RX1 TX1 3 ∈ wsT := wsT_in (tb_2 (List.mem_of_getElem? (i := 86) (by decide +kernel))) (by decide +kernel)
theorem ly_X1_4 : u_lay RX1 TX1 4 ∈ wsT := wsT_in (tb_2 (List.mem_of_getElem? (i := 88) (by decide +kernel))) (by decide +kernel)
theorem ly_X1_5 : u_lay RX1 TX1 5 ∈ wsT := wsT_in (tb_2 (List.mem_of_getElem? (i := 90) (by decide +kernel))) (by decide +kernel)
theorem ly_X1_6 : u_lay RX1 TX1 6 ∈ wsT := wsT_in (tb_2 (List.mem_of_getElem? (i := 92) (by decide +kernel))) (by decide +kernel)
theorem ly_X1_7 : u_lay RX1 TX1 7 ∈ wsT := wsT_in (tb_2 (List.mem_of_getElem? (i := 94) (by decide +kernel))) (by decide +kernel)
theorem ly_X1_8 : u_lay RX1 TX1 8 ∈ wsT := wsT_in (tb_2 (List.mem_of_getElem? (i := 96) (by decide +kernel))) (by decide +kernel)
theorem ly_X1_9 : u_lay RX1 TX1 9 ∈ wsT := wsT_in (tb_2 (List.mem_of_getElem? (i := 98) (by decide +kernel))) (by decide +kernel)
theorem kX1 : Kl 1 RX1 TX1 10 tyX1 := by
  refine ⟨rfl, fun w hw => ?_, tyX1_ok, nmX1⟩
  obtain ⟨k, hk, rfl⟩ := List.mem_map.mp hw
  have hk := List.mem_range.mp hk
  match k, hk with
  | 0, _ => exact ly_X1_0
  | 1, _ => exact ly_X1_1
  | 2, _ => exact ly_X1_2
  | 3, _ => exact ly_X1_3
  | 4, _ => exact ly_X1_4
  | 5, _ => exact ly_X1_5
  | 6, _ => exact ly_X1_6
  | 7, _ => exact ly_X1_7
  | 8, _ => exact ly_X1_8
  | 9, _ => exact ly_X1_9
  | k + 10, h => exact absurd h (by omega)
theorem ly_X2_0 : u_lay RX2 TX2 0 ∈ wsT := wsT_in (tb_2 (List.mem_of_getElem? (i := 54) (by decide +kernel))) (by decide +kernel)
theorem ly_X2_1 : u_lay RX2 TX2 1 ∈ wsT := wsT_in (tb_2 (List.mem_of_getElem? (i := 56) (by decide +kernel))) (by decide +kernel)
theorem ly_X2_2 : u_lay RX2 TX2 2 ∈ wsT := wsT_in (tb_2 (List.mem_of_getElem? (i := 58) (by decide +kernel))) (by decide +kernel)
theorem kX2 : Kl 2 RX2 TX2 3 tyX2 := by
  refine ⟨rfl, fun w hw => ?_, tyX2_ok, nmX2⟩
  obtain ⟨k, hk, rfl⟩ := List.mem_map.mp hw
  have hk := List.mem_range.mp hk
  match k, hk with
  | 0, _ => exact ly_X2_0
  | 1, _ => exact ly_X2_1
  | 2, _ => exact ly_X2_2
  | k + 3, h => exact absurd h (by omega)
theorem ly_X3_0 : u_lay RX3 TX3 0 ∈ wsT := wsT_in (tb_2 (List.mem_of_getElem? (i := 29) (by decide +kernel))) (by decide +kernel)
theorem ly_X3_1 : u_lay RX3 TX3 1 ∈ wsT := wsT_in (tb_2 (List.mem_of_getElem? (i := 31) (by decide +kernel))) (by decide +kernel)
theorem ly_X3_2 : u_lay RX3 TX3 2 ∈ wsT := wsT_in (tb_2 (List.mem_of_getElem? (i := 33) (by decide +kernel))) (by decide +kernel)
theorem ly_X3_3 : u_lay RX3 TX3 3 ∈ wsT := wsT_in (tb_2 (List.mem_of_getElem? (i := 35) (by decide +kernel))) (by decide +kernel)
theorem ly_X3_4 : u_lay RX3 TX3 4 ∈ wsT := wsT_in (tb_2 (List.mem_of_getElem? (i := 37) (by decide +kernel))) (by decide +kernel)
theorem ly_X3_5 : u_lay RX3 TX3 5 ∈ wsT := wsT_in (tb_2 (List.mem_of_getElem? (i := 39) (by decide +kernel))) (by decide +kernel)
theorem ly_X3_6 : u_lay RX3 TX3 6 ∈ wsT := wsT_in (tb_2 (List.mem_of_getElem? (i := 41) (by decide +kernel))) (by decide +kernel)
theorem kX3 : Kl 3 RX3 TX3 7 tyX3 := by
  refine ⟨rfl, fun w hw => ?_, tyX3_ok, nmX3⟩
  obtain ⟨k, hk, rfl⟩ := List.mem_map.mp hw
  have hk := List.mem_range.mp hk
  match k, hk with
  | 0, _ => exact ly_X3_0
  | 1, _ => exact ly_X3_1
  | 2, _ => exact ly_X3_2
  | 3, _ => exact ly_X3_3
  | 4, _ => exact ly_X3_4
  | 5, _ => exact ly_X3_5
  | 6, _ => exact ly_X3_6
  | k + 7, h => exact absurd h (by omega)
theorem ly_X4_0 : u_lay RX4 TX4 0 ∈ wsT := wsT_in (tb_1 (List.mem_of_getElem? (i := 232) (by decide +kernel))) (by decide +kernel)
theorem ly_X4_1 : u_lay RX4 TX4 1 ∈ wsT := wsT_in (tb_1 (List.mem_of_getElem? (i := 234) (by decide +kernel))) (by decide +kernel)
theorem ly_X4_2 : u_lay RX4 TX4 2 ∈ wsT := wsT_in (tb_1 (List.mem_of_getElem? (i := 236) (by decide +kernel))) (by decide +kernel)
theorem ly_X4_3 : u_lay RX4 TX4 3 ∈ wsT := wsT_in (tb_1 (List.mem_of_getElem? (i := 238) (by decide +kernel))) (by decide +kernel)
theorem ly_X4_4 : u_lay RX4 TX4 4 ∈ wsT := wsT_in (tb_2 (List.mem_of_getElem? (i := 0) (by decide +kernel))) (by decide +kernel)
theorem ly_X4_5 : u_lay RX4 TX4 5 ∈ wsT := wsT_in (tb_2 (List.mem_of_getElem? (i := 2) (by decide +kernel))) (by decide +kernel)
theorem ly_X4_6 : u_lay RX4 TX4 6 ∈ wsT := wsT_in (tb_2 (List.mem_of_getElem? (i := 4) (by decide +kernel))) (by decide +kernel)
theorem ly_X4_7 : u_lay RX4 TX4 7 ∈ wsT := wsT_in (tb_2 (List.mem_of_getElem? (i := 6) (by decide +kernel))) (by decide +kernel)
theorem ly_X4_8 : u_lay RX4 TX4 8 ∈ wsT := wsT_in (tb_2 (List.mem_of_getElem? (i := 8) (by decide +kernel))) (by decide +kernel)
theorem ly_X4_9 : u_lay RX4 TX4 9 ∈ wsT := wsT_in (tb_2 (List.mem_of_getElem? (i := 10) (by decide +kernel))) (by decide +kernel)
theorem kX4 : Kl 4 RX4 TX4 10 tyX4 := by
  refine ⟨rfl, fun w hw => ?_, tyX4_ok, nmX4⟩
  obtain ⟨k, hk, rfl⟩ := List.mem_map.mp hw
  have hk := List.mem_range.mp hk
  match k, hk with
  | 0, _ => exact ly_X4_0
  | 1, _ => exact ly_X4_1
  | 2, _ => exact ly_X4_2
  | 3, _ => exact ly_X4_3
  | 4, _ => exact ly_X4_4
  | 5, _ => exact ly_X4_5
  | 6, _ => exact ly_X4_6
  | 7, _ => exact ly_X4_7
  | 8, _ => exact ly_X4_8
  | 9, _ => exact ly_X4_9
  | k + 10, h => exact absurd h (by omega)
theorem ly_X5_0 : u_lay RX5 TX5 0 ∈ wsT := wsT_in (tb_2 (List.mem_of_getElem? (i := 229) (by decide +kernel))) (by decide +kernel)
theorem ly_X5_1 : u_lay RX5 TX5 1 ∈ wsT := wsT_in (tb_2 (List.mem_of_getElem? (i := 231) (by decide +kernel))) (by decide +kernel)
theorem ly_X5_2 : u_lay RX5 TX5 2 ∈ wsT := wsT_in (tb_2 (List.mem_of_getElem? (i := 233) (by decide +kernel))) (by decide +kernel)
theorem kX5 : Kl 5 RX5 TX5 3 tyX5 := by
  refine ⟨rfl, fun w hw => ?_, tyX5_ok, nmX5⟩
  obtain ⟨k, hk, rfl⟩ := List.mem_map.mp hw
  have hk := List.mem_range.mp hk
  match k, hk with
  | 0, _ => exact ly_X5_0
  | 1, _ => exact ly_X5_1
  | 2, _ => exact ly_X5_2
  | k + 3, h => exact absurd h (by omega)
theorem ly_X6_0 : u_lay RX6 TX6 0 ∈ wsT := wsT_in (tb_1 (List.mem_of_getElem? (i := 71) (by decide +kernel))) (by decide +kernel)
theorem ly_X6_1 : u_lay RX6 TX6 1 ∈ wsT := wsT_in (tb_1 (List.mem_of_getElem? (i := 73) (by decide +kernel))) (by decide +kernel)
theorem ly_X6_2 : u_lay RX6 TX6 2 ∈ wsT := wsT_in (tb_1 (List.mem_of_getElem? (i := 75) (by decide +kernel))) (by decide +kernel)
theorem ly_X6_3 : u_lay RX6 TX6 3 ∈ wsT := wsT_in (tb_1 (List.mem_of_getElem? (i := 77) (by decide +kernel))) (by decide +kernel)
theorem ly_X6_4 : u_lay RX6 TX6 4 ∈ wsT := wsT_in (tb_1 (List.mem_of_getElem? (i := 79) (by decide +kernel))) (by decide +kernel)
theorem ly_X6_5 : u_lay RX6 TX6 5 ∈ wsT := wsT_in (tb_1 (List.mem_of_getElem? (i := 81) (by decide +kernel))) (by decide +kernel)
theorem ly_X6_6 : u_lay RX6 TX6 6 ∈ wsT := wsT_in (tb_1 (List.mem_of_getElem? (i := 83) (by decide +kernel))) (by decide +kernel)
theorem ly_X6_7 : u_lay RX6 TX6 7 ∈ wsT := wsT_in (tb_1 (List.mem_of_getElem? (i := 85) (by decide +kernel))) (by decide +kernel)
theorem ly_X6_8 : u_lay RX6 TX6 8 ∈ wsT := wsT_in (tb_1 (List.mem_of_getElem? (i := 87) (by decide +kernel))) (by decide +kernel)
theorem ly_X6_9 : u_lay RX6 TX6 9 ∈ wsT := wsT_in (tb_1 (List.mem_of_getElem? (i := 89) (by decide +kernel))) (by decide +kernel)
theorem ly_X6_10 : u_lay RX6 TX6 10 ∈ wsT := wsT_in (tb_1 (List.mem_of_getElem? (i := 91) (by decide +kernel))) (by decide +kernel)
theorem kX6 : Kl 6 RX6 TX6 11 tyX6 := by
  refine ⟨rfl, fun w hw => ?_, tyX6_ok, nmX6⟩
  obtain ⟨k, hk, rfl⟩ := List.mem_map.mp hw
  have hk := List.mem_range.mp hk
  match k, hk with
  | 0, _ => exact ly_X6_0
  | 1, _ => exact ly_X6_1
  | 2, _ => exact ly_X6_2
  | 3, _ => exact ly_X6_3
  | 4, _ => exact ly_X6_4
  | 5, _ => exact ly_X6_5
  | 6, _ => exact ly_X6_6
  | 7, _ => exact ly_X6_7
  | 8, _ => exact ly_X6_8
  | 9, _ => exact ly_X6_9
  | 10, _ => exact ly_X6_10
  | k + 11, h => exact absurd h (by omega)
theorem ly_X7_0 : u_lay RX7 TX7 0 ∈ wsT := wsT_in (tb_1 (List.mem_of_getElem? (i := 193) (by decide +kernel))) (by decide +kernel)
theorem ly_X7_1 : u_lay RX7 TX7 1 ∈ wsT := wsT_in (tb_1 (List.mem_of_getElem? (i := 195) (by decide +kernel))) (by decide +kernel)
theorem ly_X7_2 : u_lay RX7 TX7 2 ∈ wsT := wsT_in (tb_1 (List.mem_of_getElem? (i := 197) (by decide +kernel))) (by decide +kernel)
theorem ly_X7_3 : u_lay RX7 TX7 3 ∈ wsT := wsT_in (tb_1 (List.mem_of_getElem? (i := 199) (by decide +kernel))) (by decide +kernel)
theorem ly_X7_4 : u_lay RX7 TX7 4 ∈ wsT := wsT_in (tb_1 (List.mem_of_getElem? (i := 201) (by decide +kernel))) (by decide +kernel)
theorem ly_X7_5 : u_lay RX7 TX7 5 ∈ wsT := wsT_in (tb_1 (List.mem_of_getElem? (i := 203) (by decide +kernel))) (by decide +kernel)
theorem ly_X7_6 : u_lay RX7 TX7 6 ∈ wsT := wsT_in (tb_1 (List.mem_of_getElem? (i := 205) (by decide +kernel))) (by decide +kernel)
theorem ly_X7_7 : u_lay RX7 TX7 7 ∈ wsT := wsT_in (tb_1 (List.mem_of_getElem? (i := 207) (by decide +kernel))) (by decide +kernel)
theorem kX7 : Kl 7 RX7 TX7 8 tyX7 := by
  refine ⟨rfl, fun w hw => ?_, tyX7_ok, nmX7⟩
  obtain ⟨k, hk, rfl⟩ := List.mem_map.mp hw
  have hk := List.mem_range.mp hk
  match k, hk with
  | 0, _ => exact ly_X7_0
  | 1, _ => exact ly_X7_1
  | 2, _ => exact ly_X7_2
  | 3, _ => exact ly_X7_3
  | 4, _ => exact ly_X7_4
  | 5, _ => exact ly_X7_5
  | 6, _ => exact ly_X7_6
  | 7, _ => exact ly_X7_7
  | k + 8, h => exact absurd h (by omega)
theorem ly_X8_0 : u_lay RX8 TX8 0 ∈ wsT := wsT_in (tb_2 (List.mem_of_getElem? (i := 189) (by decide +kernel))) (by decide +kernel)
theorem ly_X8_1 : u_lay RX8 TX8 1 ∈ wsT := wsT_in (tb_2 (List.mem_of_getElem? (i := 191) (by decide +kernel))) (by decide +kernel)
theorem ly_X8_2 : u_lay RX8 TX8 2 ∈ wsT := wsT_in (tb_2 (List.mem_of_getElem? (i := 193) (by decide +kernel))) (by decide +kernel)
theorem ly_X8_3 : u_lay RX8 TX8 3 ∈ wsT := wsT_in (tb_2 (List.mem_of_getElem? (i := 195) (by decide +kernel))) (by decide +kernel)
theorem ly_X8_4 : u_lay RX8 TX8 4 ∈ wsT := wsT_in (tb_2 (List.mem_of_getElem? (i := 197) (by decide +kernel))) (by decide +kernel)
theorem ly_X8_5 : u_lay RX8 TX8 5 ∈ wsT := wsT_in (tb_2 (List.mem_of_getElem? (i := 199) (by decide +kernel))) (by decide +kernel)
theorem ly_X8_6 : u_lay RX8 TX8 6 ∈ wsT := wsT_in (tb_2 (List.mem_of_getElem? (i := 201) (by decide +kernel))) (by decide +kernel)
theorem ly_X8_7 : u_lay RX8 TX8 7 ∈ wsT := wsT_in (tb_2 (List.mem_of_getElem? (i := 203) (by decide +kernel))) (by decide +kernel)
theorem ly_X8_8 : u_lay RX8 TX8 8 ∈ wsT := wsT_in (tb_2 (List.mem_of_getElem? (i := 205) (by decide +kernel))) (by decide +kernel)
theorem ly_X8_9 : u_lay RX8 TX8 9 ∈ wsT := wsT_in (tb_2 (List.mem_of_getElem? (i := 207) (by decide +kernel))) (by decide +kernel)
theorem ly_X8_10 : u_lay RX8 TX8 10 ∈ wsT := wsT_in (tb_2 (List.mem_of_getElem? (i := 209) (by decide +kernel))) (by decide +kernel)
theorem ly_X8_11 : u_lay RX8 TX8 11 ∈ wsT := wsT_in (tb_2 (List.mem_of_getElem? (i := 211) (by decide +kernel))) (by decide +kernel)
theorem ly_X8_12 : u_lay RX8 TX8 12 ∈ wsT := wsT_in (tb_2 (List.mem_of_getElem? (i := 213) (by decide +kernel))) (by decide +kernel)
theorem ly_X8_13 : u_lay RX8 TX8 13 ∈ wsT := wsT_in (tb_2 (List.mem_of_getElem? (i := 215) (by decide +kernel))) (by decide +kernel)
theorem kX8 : Kl 8 RX8 TX8 14 tyX8 := by
  refine ⟨rfl, fun w hw => ?_, tyX8_ok, nmX8⟩
  obtain ⟨k, hk, rfl⟩ := List.mem_map.mp hw
  have hk := List.mem_range.mp hk
  match k, hk with
  | 0, _ => exact ly_X8_0
  | 1, _ => exact ly_X8_1
  | 2, _ => exact ly_X8_2
  | 3, _ => exact ly_X8_3
  | 4, _ => exact ly_X8_4
  | 5, _ => exact ly_X8_5
  | 6, _ => exact ly_X8_6
  | 7, _ => exact ly_X8_7
  | 8, _ => exact ly_X8_8
  | 9, _ => exact ly_X8_9
  | 10, _ => exact ly_X8_10
  | 11, _ => exact ly_X8_11
  | 12, _ => exact ly_X8_12
  | 13, _ => exact ly_X8_13
  | k + 14, h => exact absurd h (by omega)
theorem ly_X9_0 : u_lay RX9 TX9 0 ∈ wsT := wsT_in (tb_1 (List.mem_of_getElem? (i := 146) (by decide +kernel))) (by decide +kernel)
theorem ly_X9_1 : u_lay RX9 TX9 1 ∈ wsT := wsT_in (tb_1 (List.mem_of_getElem? (i := 148) (by decide +kernel))) (by decide +kernel)
theorem ly_X9_2 : u_lay RX9 TX9 2 ∈ wsT := wsT_in (tb_1 (List.mem_of_getElem? (i := 150) (by decide +kernel))) (by decide +kernel)
theorem ly_X9_3 : u_lay RX9 TX9 3 ∈ wsT := wsT_in (tb_1 (List.mem_of_getElem? (i := 152) (by decide +kernel))) (by decide +kernel)
theorem ly_X9_4 : u_lay RX9 TX9 4 ∈ wsT := wsT_in (tb_1 (List.mem_of_getElem? (i := 154) (by decide +kernel))) (by decide +kernel)
theorem ly_X9_5 : u_lay RX9 TX9 5 ∈ wsT := wsT_in (tb_1 (List.mem_of_getElem? (i := 156) (by decide +kernel))) (by decide +kernel)
theorem ly_X9_6 : u_lay RX9 TX9 6 ∈ wsT := wsT_in (tb_1 (List.mem_of_getElem? (i := 158) (by decide +kernel))) (by decide +kernel)
theorem ly_X9_7 : u_lay RX9 TX9 7 ∈ wsT := wsT_in (tb_1 (List.mem_of_getElem? (i := 160) (by decide +kernel))) (by decide +kernel)
theorem ly_X9_8 : u_lay RX9 TX9 8 ∈ wsT := wsT_in (tb_1 (List.mem_of_getElem? (i := 162) (by decide +kernel))) (by decide +kernel)
theorem ly_X9_9 : u_lay RX9 TX9 9 ∈ wsT := wsT_in (tb_1 (List.mem_of_getElem? (i := 164) (by decide +kernel))) (by decide +kernel)
theorem ly_X9_10 : u_lay RX9 TX9 10 ∈ wsT := wsT_in (tb_1 (List.mem_of_getElem? (i := 166) (by decide +kernel))) (by decide +kernel)
theorem ly_X9_11 : u_lay RX9 TX9 11 ∈ wsT := wsT_in (tb_1 (List.mem_of_getElem? (i := 168) (by decide +kernel))) (by decide +kernel)
theorem ly_X9_12 : u_lay RX9 TX9 12 ∈ wsT := wsT_in (tb_1 (List.mem_of_getElem? (i := 170) (by decide +kernel))) (by decide +kernel)
theorem ly_X9_13 : u_lay RX9 TX9 13 ∈ wsT := wsT_in (tb_1 (List.mem_of_getElem? (i := 172) (by decide +kernel))) (by decide +kernel)
theorem ly_X9_14 : u_lay RX9 TX9 14 ∈ wsT := wsT_in (tb_1 (List.mem_of_getElem? (i := 174) (by decide +kernel))) (by decide +kernel)
theorem kX9 : Kl 9 RX9 TX9 15 tyX9 := by
  refine ⟨rfl, fun w hw => ?_, tyX9_ok, nmX9⟩
  obtain ⟨k, hk, rfl⟩ := List.mem_map.mp hw
  have hk := List.mem_range.mp hk
  match k, hk with
  | 0, _ => exact ly_X9_0
  | 1, _ => exact ly_X9_1
  | 2, _ => exact ly_X9_2
  | 3, _ => exact ly_X9_3
  | 4, _ => exact ly_X9_4
  | 5, _ => exact ly_X9_5
  | 6, _ => exact ly_X9_6
  | 7, _ => exact ly_X9_7
  | 8, _ => exact ly_X9_8
  | 9, _ => exact ly_X9_9
  | 10, _ => exact ly_X9_10
  | 11, _ => exact ly_X9_11
  | 12, _ => exact ly_X9_12
  | 13, _ => exact ly_X9_13
  | 14, _ => exact ly_X9_14
  | k + 15, h => exact absurd h (by omega)
theorem ly_X10_0 : u_lay RX10 TX10 0 ∈ wsT := wsT_in (tb_3 (List.mem_of_getElem? (i := 5) (by decide +kernel))) (by decide +kernel)
theorem ly_X10_1 : u_lay RX10 TX10 1 ∈ wsT := wsT_in (tb_3 (List.mem_of_getElem? (i := 7) (by decide +kernel))) (by decide +kernel)
theorem ly_X10_2 : u_lay RX10 TX10 2 ∈ wsT := wsT_in (tb_3 (List.mem_of_getElem? (i := 9) (by decide +kernel))) (by decide +kernel)
theorem kX10 : Kl 10 RX10 TX10 3 tyX10 := by
  refine ⟨rfl, fun w hw => ?_, tyX10_ok, nmX10⟩
  obtain ⟨k, hk, rfl⟩ := List.mem_map.mp hw
  have hk := List.mem_range.mp hk
  match k, hk with
  | 0, _ => exact ly_X10_0
  | 1, _ => exact ly_X10_1
  | 2, _ => exact ly_X10_2
  | k + 3, h => exact absurd h (by omega)
theorem ly_X11_0 : u_lay RX11 TX11 0 ∈ wsT := wsT_in (tb_3 (List.mem_of_getElem? (i := 22) (by decide +kernel))) (by decide +kernel)
theorem ly_X11_1 : u_lay RX11 TX11 1 ∈ wsT := wsT_in (tb_3 (List.mem_of_getElem? (i := 24) (by decide +kernel))) (by decide +kernel)
theorem ly_X11_2 : u_lay RX11 TX11 2 ∈ wsT := wsT_in (tb_3 (List.mem_of_getElem? (i := 26) (by decide +kernel))) (by decide +kernel)
theorem ly_X11_3 : u_lay RX11 TX11 3 ∈ wsT := wsT_in (tb_3 (List.mem_of_getElem? (i := 28) (by decide +kernel))) (by decide +kernel)
theorem ly_X11_4 : u_lay RX11 TX11 4 ∈ wsT := wsT_in (tb_3 (List.mem_of_getElem? (i := 30) (by decide +kernel))) (by decide +kernel)
theorem ly_X11_5 : u_lay RX11 TX11 5 ∈ wsT := wsT_in (tb_3 (List.mem_of_getElem? (i := 32) (by decide +kernel))) (by decide +kernel)
theorem ly_X11_6 : u_lay RX11 TX11 6 ∈ wsT := wsT_in (tb_3 (List.mem_of_getElem? (i := 34) (by decide +kernel))) (by decide +kernel)
theorem ly_X11_7 : u_lay RX11 TX11 7 ∈ wsT := wsT_in (tb_3 (List.mem_of_getElem? (i := 36) (by decide +kernel))) (by decide +kernel)
theorem ly_X11_8 : u_lay RX11 TX11 8 ∈ wsT := wsT_in (tb_3 (List.mem_of_getElem? (i := 38) (by decide +kernel))) (by decide +kernel)
theorem ly_X11_9 : u_lay RX11 TX11 9 ∈ wsT := wsT_in (tb_3 (List.mem_of_getElem? (i := 40) (by decide +kernel))) (by decide +kernel)
theorem kX11 : Kl 11 RX11 TX11 10 tyX11 := by
  refine ⟨rfl, fun w hw => ?_, tyX11_ok, nmX11⟩
  obtain ⟨k, hk, rfl⟩ := List.mem_map.mp hw
  have hk := List.mem_range.mp hk
  match k, hk with
  | 0, _ => exact ly_X11_0
  | 1, _ => exact ly_X11_1
  | 2, _ => exact ly_X11_2
  | 3, _ => exact ly_X11_3
  | 4, _ => exact ly_X11_4
  | 5, _ => exact ly_X11_5
  | 6, _ => exact ly_X11_6
  | 7, _ => exact ly_X11_7
  | 8, _ => exact ly_X11_8
  | 9, _ => exact ly_X11_9
  | k + 10, h => exact absurd h (by omega)
theorem ly_X12_0 : u_lay RX12 TX12 0 ∈ wsT := wsT_in (tb_7 (List.mem_of_getElem? (i := 73) (by decide +kernel))) (by decide +kernel)
theorem ly_X12_1 : u_lay RX12 TX12 1 ∈ wsT := wsT_in (tb_7 (List.mem_of_getElem? (i := 75) (by decide +kernel))) (by decide +kernel)
theorem ly_X12_2 : u_lay RX12 TX12 2 ∈ wsT := wsT_in (tb_7 (List.mem_of_getElem? (i := 77) (by decide +kernel))) (by decide +kernel)
theorem ly_X12_3 : u_lay RX12 TX12 3 ∈ wsT := wsT_in (tb_7 (List.mem_of_getElem? (i := 79) (by decide +kernel))) (by decide +kernel)
theorem ly_X12_4 : u_lay RX12 TX12 4 ∈ wsT := wsT_in (tb_7 (List.mem_of_getElem? (i := 81) (by decide +kernel))) (by decide +kernel)
theorem ly_X12_5 : u_lay RX12 TX12 5 ∈ wsT := wsT_in (tb_7 (List.mem_of_getElem? (i := 83) (by decide +kernel))) (by decide +kernel)
theorem ly_X12_6 : u_lay RX12 TX12 6 ∈ wsT := wsT_in (tb_7 (List.mem_of_getElem? (i := 85) (by decide +kernel))) (by decide +kernel)
theorem ly_X12_7 : u_lay RX12 TX12 7 ∈ wsT := wsT_in (tb_7 (List.mem_of_getElem? (i := 87) (by decide +kernel))) (by decide +kernel)
theorem ly_X12_8 : u_lay RX12 TX12 8 ∈ wsT := wsT_in (tb_7 (List.mem_of_getElem? (i := 89) (by decide +kernel))) (by decide +kernel)
theorem ly_X12_9 : u_lay RX12 TX12 9 ∈ wsT := wsT_in (tb_7 (List.mem_of_getElem? (i := 91) (by decide +kernel))) (by decide +kernel)
theorem ly_X12_10 : u_lay RX12 TX12 10 ∈ wsT := wsT_in (tb_7 (List.mem_of_getElem? (i := 93) (by decide +kernel))) (by decide +kernel)
theorem ly_X12_11 : u_lay RX12 TX12 11 ∈ wsT := wsT_in (tb_7 (List.mem_of_getElem? (i := 95) (by decide +kernel))) (by decide +kernel)
theorem ly_X12_12 : u_lay RX12 TX12 12 ∈ wsT := wsT_in (tb_7 (List.mem_of_getElem? (i := 97) (by decide +kernel))) (by decide +kernel)
theorem ly_X12_13 : u_lay RX12 TX12 13 ∈ wsT := wsT_in (tb_7 (List.mem_of_getElem? (i := 99) (by decide +kernel))) (by decide +kernel)
theorem ly_X12_14 : u_lay RX12 TX12 14 ∈ wsT := wsT_in (tb_7 (List.mem_of_getElem? (i := 101) (by decide +kernel))) (by decide +kernel)
theorem ly_X12_15 : u_lay RX12 TX12 15 ∈ wsT := wsT_in (tb_7 (List.mem_of_getElem? (i := 103) (by decide +kernel))) (by decide +kernel)
theorem ly_X12_16 : u_lay RX12 TX12 16 ∈ wsT := wsT_in (tb_7 (List.mem_of_getElem? (i := 105) (by decide +kernel))) (by decide +kernel)
theorem ly_X12_17 : u_lay RX12 TX12 17 ∈ wsT := wsT_in (tb_7 (List.mem_of_getElem? (i := 107) (by decide +kernel))) (by decide +kernel)
theorem ly_X12_18 : u_lay RX12 TX12 18 ∈ wsT := wsT_in (tb_7 (List.mem_of_getElem? (i := 109) (by decide +kernel))) (by decide +kernel)
theorem ly_X12_19 : u_lay RX12 TX12 19 ∈ wsT := wsT_in (tb_7 (List.mem_of_getElem? (i := 111) (by decide +kernel))) (by decide +kernel)
theorem ly_X12_20 : u_lay RX12 TX12 20 ∈ wsT := wsT_in (tb_7 (List.mem_of_getElem? (i := 113) (by decide +kernel))) (by decide +kernel)
theorem ly_X12_21 : u_lay RX12 TX12 21 ∈ wsT := wsT_in (tb_7 (List.mem_of_getElem? (i := 115) (by decide +kernel))) (by decide +kernel)
theorem ly_X12_22 : u_lay RX12 TX12 22 ∈ wsT := wsT_in (tb_7 (List.mem_of_getElem? (i := 117) (by decide +kernel))) (by decide +kernel)
theorem ly_X12_23 : u_lay RX12 TX12 23 ∈ wsT := wsT_in (tb_7 (List.mem_of_getElem? (i := 119) (by decide +kernel))) (by decide +kernel)
theorem ly_X12_24 : u_lay RX12 TX12 24 ∈ wsT := wsT_in (tb_7 (List.mem_of_getElem? (i := 121) (by decide +kernel))) (by decide +kernel)
theorem ly_X12_25 : u_lay RX12 TX12 25 ∈ wsT := wsT_in (tb_7 (List.mem_of_getElem? (i := 123) (by decide +kernel))) (by decide +kernel)
theorem ly_X12_26 : u_lay RX12 TX12 26 ∈ wsT := wsT_in (tb_7 (List.mem_of_getElem? (i := 125) (by decide +kernel))) (by decide +kernel)
theorem ly_X12_27 : u_lay RX12 TX12 27 ∈ wsT := wsT_in (tb_7 (List.mem_of_getElem? (i := 127) (by decide +kernel))) (by decide +kernel)
theorem ly_X12_28 : u_lay RX12 TX12 28 ∈ wsT := wsT_in (tb_7 (List.mem_of_getElem? (i := 129) (by decide +kernel))) (by decide +kernel)
theorem ly_X12_29 : u_lay RX12 TX12 29 ∈ wsT := wsT_in (tb_7 (List.mem_of_getElem? (i := 131) (by decide +kernel))) (by decide +kernel)
theorem ly_X12_30 : u_lay RX12 TX12 30 ∈ wsT := wsT_in (tb_7 (List.mem_of_getElem? (i := 133) (by decide +kernel))) (by decide +kernel)
theorem ly_X12_31 : u_lay RX12 TX12 31 ∈ wsT := wsT_in (tb_7 (List.mem_of_getElem? (i := 135) (by decide +kernel))) (by decide +kernel)
theorem ly_X12_32 : u_lay RX12 TX12 32 ∈ wsT := wsT_in (tb_7 (List.mem_of_getElem? (i := 137) (by decide +kernel))) (by decide +kernel)
theorem ly_X12_33 : u_lay RX12 TX12 33 ∈ wsT := wsT_in (tb_7 (List.mem_of_getElem? (i := 139) (by decide +kernel))) (by decide +kernel)
theorem ly_X12_34 : u_lay RX12 TX12 34 ∈ wsT := wsT_in (tb_7 (List.mem_of_getElem? (i := 141) (by decide +kernel))) (by decide +kernel)
theorem ly_X12_35 : u_lay RX12 TX12 35 ∈ wsT := wsT_in (tb_7 (List.mem_of_getElem? (i := 143) (by decide +kernel))) (by decide +kernel)
theorem ly_X12_36 : u_lay RX12 TX12 36 ∈ wsT := wsT_in (tb_7 (List.mem_of_getElem? (i := 145) (by decide +kernel))) (by decide +kernel)
theorem ly_X12_37 : u_lay RX12 TX12 37 ∈ wsT := wsT_in (tb_7 (List.mem_of_getElem? (i := 147) (by decide +kernel))) (by decide +kernel)
theorem ly_X12_38 : u_lay RX12 TX12 38 ∈ wsT := wsT_in (tb_7 (List.mem_of_getElem? (i := 149) (by decide +kernel))) (by decide +kernel)
theorem kX12 : Kl 12 RX12 TX12 39 tyX12 := by
  refine ⟨rfl, fun w hw => ?_, tyX12_ok, nmX12⟩
  obtain ⟨k, hk, rfl⟩ := List.mem_map.mp hw
  have hk := List.mem_range.mp hk
  match k, hk with
  | 0, _ => exact ly_X12_0
  | 1, _ => exact ly_X12_1
  | 2, _ => exact ly_X12_2
  | 3, _ => exact ly_X12_3
  | 4, _ => exact ly_X12_4
  | 5, _ => exact ly_X12_5
  | 6, _ => exact ly_X12_6
  | 7, _ => exact ly_X12_7
  | 8, _ => exact ly_X12_8
  | 9, _ => exact ly_X12_9
  | 10, _ => exact ly_X12_10
  | 11, _ => exact ly_X12_11
  | 12, _ => exact ly_X12_12
  | 13, _ => exact ly_X12_13
  | 14, _ => exact ly_X12_14
  | 15, _ => exact ly_X12_15
  | 16, _ => exact ly_X12_16
  | 17, _ => exact ly_X12_17
  | 18, _ => exact ly_X12_18
  | 19, _ => exact ly_X12_19
  | 20, _ => exact ly_X12_20
  | 21, _ => exact ly_X12_21
  | 22, _ => exact ly_X12_22
  | 23, _ => exact ly_X12_23
  | 24, _ => exact ly_X12_24
  | 25, _ => exact ly_X12_25
  | 26, _ => exact ly_X12_26
  | 27, _ => exact ly_X12_27
  | 28, _ => exact ly_X12_28
  | 29, _ => exact ly_X12_29
  | 30, _ => exact ly_X12_30
  | 31, _ => exact ly_X12_31
  | 32, _ => exact ly_X12_32
  | 33, _ => exact ly_X12_33
  | 34, _ => exact ly_X12_34
  | 35, _ => exact ly_X12_35
  | 36, _ => exact ly_X12_36
  | 37, _ => exact ly_X12_37
  | 38, _ => exact ly_X12_38
  | k + 39, h => exact absurd h (by omega)
