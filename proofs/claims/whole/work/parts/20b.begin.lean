/-! The first memories. -/
def MP0 : Mem := fun a j => match a with
  | 1 => if j = 13 then 1 else 0
  | 6 => if 0 ≤ j ∧ j < 2 then -1 else 0
  | 104 => if 0 ≤ j ∧ j < 2 then -1000000005 else 0
  | 204 => if 0 ≤ j ∧ j < 2 then -1000000005 else 0
  | 304 => if 0 ≤ j ∧ j < 2 then -1000000005 else 0
  | 105 => if j = 0 then 10 else 0
  | 205 => if j = 0 then 10 else 0
  | 305 => if j = 0 then 10 else 0
  | 163 => if j = -1 then 1 else 0
  | 263 => if j = -1 then 1 else 0
  | 363 => if j = -1 then 1 else 0
  | _ => 0
def MR0 : Mem := fun a j => match a with
  | 0 => if j = 20 then -1 else 0
  | 1 => if j = 11 then 10 else if j = 13 then -1 else if j = 14 then -1 else 0
  | 4 => if 0 ≤ j ∧ j < 2 then -1 else 0
  | _ => 0
abbrev tC : Type := (Nat → Nat) × (Nat × (Nat → Nat)) × (Nat × (Nat → Nat)) × (Nat × (Nat → Nat)) × (Nat × (Nat → Nat)) × (Nat × (Nat → Nat)) × (Nat × (Nat → Nat)) × (Nat × (Nat → Nat))
abbrev tT : Type := (Nat → Nat) × (Nat × tC) × (Nat × tC) × (Nat × tC) × (Nat × (Nat → Nat)) × (Nat × (Nat → Nat)) × (Nat × (Nat → Nat))
def gdC (q : Nat × tC) : Nat → Nat
  | 0 => q.1
  | 1 => q.2.1 0
  | 2 => q.2.1 1
  | 3 => q.2.1 2
  | 4 => q.2.1 3
  | 5 => q.2.1 4
  | 6 => q.2.2.1.1
  | 7 => q.2.2.1.2 0
  | 8 => q.2.2.1.2 1
  | 9 => q.2.2.1.2 2
  | 10 => q.2.2.1.2 3
  | 11 => q.2.2.1.2 4
  | 12 => q.2.2.1.2 5
  | 13 => q.2.2.1.2 6
  | 14 => q.2.2.1.2 7
  | 15 => q.2.2.2.1.1
  | 16 => q.2.2.2.1.2 0
  | 17 => q.2.2.2.1.2 1
  | 18 => q.2.2.2.1.2 2
  | 19 => q.2.2.2.1.2 3
  | 20 => q.2.2.2.1.2 4
  | 21 => q.2.2.2.1.2 5
  | 22 => q.2.2.2.1.2 6
  | 23 => q.2.2.2.1.2 7
  | 24 => q.2.2.2.1.2 8
  | 25 => q.2.2.2.1.2 9
  | 26 => q.2.2.2.1.2 10
  | 27 => q.2.2.2.1.2 11
  | 28 => q.2.2.2.1.2 12
  | 29 => q.2.2.2.1.2 13
  | 30 => q.2.2.2.2.1.1
  | 31 => q.2.2.2.2.1.2 0
  | 32 => q.2.2.2.2.1.2 1
  | 33 => q.2.2.2.2.1.2 2
  | 34 => q.2.2.2.2.1.2 3
  | 35 => q.2.2.2.2.1.2 4
  | 36 => q.2.2.2.2.1.2 5
  | 37 => q.2.2.2.2.2.1.1
  | 38 => q.2.2.2.2.2.1.2 0
  | 39 => q.2.2.2.2.2.1.2 1
  | 40 => q.2.2.2.2.2.1.2 2
  | 41 => q.2.2.2.2.2.1.2 3
  | 42 => q.2.2.2.2.2.1.2 4
  | 43 => q.2.2.2.2.2.1.2 5
  | 44 => q.2.2.2.2.2.1.2 6
  | 45 => q.2.2.2.2.2.1.2 7
  | 46 => q.2.2.2.2.2.1.2 8
  | 47 => q.2.2.2.2.2.2.1.1
  | 48 => q.2.2.2.2.2.2.1.2 0
  | 49 => q.2.2.2.2.2.2.1.2 1
  | 50 => q.2.2.2.2.2.2.1.2 2
  | 51 => q.2.2.2.2.2.2.1.2 3
  | 52 => q.2.2.2.2.2.2.1.2 4
  | 53 => q.2.2.2.2.2.2.2.1.1
  | 54 => q.2.2.2.2.2.2.2.1.2 0
  | 55 => q.2.2.2.2.2.2.2.1.2 1
  | 56 => q.2.2.2.2.2.2.2.1.2 2
  | 57 => q.2.2.2.2.2.2.2.2.1
  | k => q.2.2.2.2.2.2.2.2.2 (k - 58)
def gdT (h : Nat) (q : tT) : Nat → Nat
  | 0 => h
  | 1 => q.2.2.2.2.1.1
  | 2 => q.2.2.2.2.1.2 0
  | 3 => q.2.2.2.2.1.2 1
  | 4 => q.2.2.2.2.1.2 2
  | 5 => q.2.2.2.2.2.1.1
  | 6 => q.2.2.2.2.2.1.2 0
  | 7 => q.2.2.2.2.2.1.2 1
  | 8 => q.2.2.2.2.2.1.2 2
  | 9 => q.2.2.2.2.2.2.1
  | 10 => q.2.2.2.2.2.2.2 0
  | 11 => q.2.2.2.2.2.2.2 1
  | 12 => q.2.2.2.2.2.2.2 2
  | 13 => q.1 0
  | _ => q.1 1
def gdN (g : Nat → Nat) (h : Nat) (q : tT) (h2 : Nat) (q2 : Nat → Nat) (id : Nat) : Nat :=
  if 9000 ≤ id then g id else if 1000 ≤ id then (if (id - 1000) / 2 = 0 then h2 else q2 ((id - 1000) / 2 - 1)) else match id / 100 with
  | 0 => gdT h q id
  | 1 => gdC q.2.1 (id - 100)
  | 2 => gdC q.2.2.1 (id - 200)
  | _ => gdC q.2.2.2.1 (id - 300)
def baN (q : tT) (b : Nat) : Nat := match b / 100 with
  | 1 => q.2.1.2.2.2.2.2.2.1.2 5
  | 2 => q.2.2.1.2.2.2.2.2.2.1.2 5
  | _ => q.2.2.2.1.2.2.2.2.2.2.1.2 5
def GN (G : Gx) (h : Nat) (q : tT) (h2 : Nat) (q2 : Nat → Nat) : Gx := (G.1, G.2.1, gdN (gd G) h q h2 q2, G.2.2.2.1, [], [], G.2.2.2.2.2.2)
/-- the law's cells, in the order of their making -/
def idC (b : Nat) : List Nat := (List.range 53).map (b + ·) ++ (List.range 10).map (b + 53 + ·)
def cl1 (G : Gx) (ba : Nat → Nat) (M : Mem) (id : Nat) : Nat × va_E := (gd G id, cellE (gA G) (gd G) ba M id (kL.2.2 id))
def clC (G : Gx) (ba : Nat → Nat) (M : Mem) (b : Nat) : va_W := (List.range 53).map (fun o => cl1 G ba M (b + o)) ++ (ba b, cellB (gA G) M b) :: (List.range 10).map (fun o => cl1 G ba M (b + 53 + o))
def clA (G : Gx) (ba : Nat → Nat) (M : Mem) : va_W := (cl1 G ba M 0 :: (clC G ba M 100 ++ (clC G ba M 200 ++ (clC G ba M 300 ++ (List.range 14).map (fun o => cl1 G ba M (o + 1)))))) ++ (List.range 22).map (fun i => cl1 G ba M (1000 + 2 * i))
theorem ofI_if {c : Prop} [Decidable c] {x y : Int} : Int32.ofInt (if c then x else y) = if c then Int32.ofInt x else Int32.ofInt y := by split <;> rfl
theorem row_u2 {f : Nat → Int} {x y : Int32} (h0 : Int32.ofInt (f 0) = x) (h1 : Int32.ofInt (f 1) = y) (h : ∀ j, 2 ≤ j → f j = 0) : (upd (upd (fun _ => 0) 0 x) 1 y) = fun j => Int32.ofInt (f j) := by
  funext j
  match j with
  | 0 => exact h0.symm
  | 1 => exact h1.symm
  | j + 2 =>
    rw [h (j + 2) (by omega)]
    rfl
theorem row_u3 {f : Nat → Int} {x y z : Int32} (h0 : Int32.ofInt (f 11) = x) (h1 : Int32.ofInt (f 13) = y) (h2 : Int32.ofInt (f 14) = z) (h : ∀ j, j ≠ 11 → j ≠ 13 → j ≠ 14 → f j = 0) : (upd (upd (upd (fun _ => 0) 11 x) 13 y) 14 z) = fun j => Int32.ofInt (f j) := by
  funext j
  by_cases e0 : j = 11
  · subst e0; exact h0.symm
  · by_cases e1 : j = 13
    · subst e1; exact h1.symm
    · by_cases e2 : j = 14
      · subst e2; exact h2.symm
      · rw [h j e0 e1 e2]
        show (if j = 14 then z else if j = 13 then y else if j = 11 then x else 0) = _
        rw [if_neg e2, if_neg e1, if_neg e0]
        rfl
section Eqs
variable (G : Gx) (h : Nat) (q : tT) (h2 : Nat) (q2 : Nat → Nat)
theorem c6_100 : psX6 G q.2.1.2.2.1.1 q.2.1.2.2.1.2 = (List.range 9).map (fun o => cl1 (GN G h q h2 q2) (baN q) (mix MP0 MR0) (100 + 6 + o)) := rfl
theorem c9_100 : psX9 G q.2.1.2.2.2.1.1 q.2.1.2.2.2.1.2 = (List.range 15).map (fun o => cl1 (GN G h q h2 q2) (baN q) (mix MP0 MR0) (100 + 15 + o)) := rfl
theorem c7_100 : psX7 G q.2.1.2.2.2.2.1.1 q.2.1.2.2.2.2.1.2 = (List.range 7).map (fun o => cl1 (GN G h q h2 q2) (baN q) (mix MP0 MR0) (100 + 30 + o)) := rfl
theorem c4_100 : psX4 G q.2.1.2.2.2.2.2.1.1 q.2.1.2.2.2.2.2.1.2 = (List.range 10).map (fun o => cl1 (GN G h q h2 q2) (baN q) (mix MP0 MR0) (100 + 37 + o)) := rfl
theorem c2_100 : psX2 G q.2.1.2.2.2.2.2.2.2.1.1 q.2.1.2.2.2.2.2.2.2.1.2 = (List.range 4).map (fun o => cl1 (GN G h q h2 q2) (baN q) (mix MP0 MR0) (100 + 53 + o)) := rfl
theorem c1_100 : psX1 G q.2.1.2.2.2.2.2.2.2.2.1 q.2.1.2.2.2.2.2.2.2.2.2 = (List.range 6).map (fun o => cl1 (GN G h q h2 q2) (baN q) (mix MP0 MR0) (100 + 57 + o)) := rfl
theorem c3_100 : psX3 G q.2.1.2.2.2.2.2.2.1.1 q.2.1.2.2.2.2.2.2.1.2 = (List.range 6).map (fun o => cl1 (GN G h q h2 q2) (baN q) (mix MP0 MR0) (100 + 47 + o)) ++ [(baN q 100, cellB (gA G) (mix MP0 MR0) 100)] := rfl
theorem c6_200 : psX6 G q.2.2.1.2.2.1.1 q.2.2.1.2.2.1.2 = (List.range 9).map (fun o => cl1 (GN G h q h2 q2) (baN q) (mix MP0 MR0) (200 + 6 + o)) := rfl
theorem c9_200 : psX9 G q.2.2.1.2.2.2.1.1 q.2.2.1.2.2.2.1.2 = (List.range 15).map (fun o => cl1 (GN G h q h2 q2) (baN q) (mix MP0 MR0) (200 + 15 + o)) := rfl
theorem c7_200 : psX7 G q.2.2.1.2.2.2.2.1.1 q.2.2.1.2.2.2.2.1.2 = (List.range 7).map (fun o => cl1 (GN G h q h2 q2) (baN q) (mix MP0 MR0) (200 + 30 + o)) := rfl
theorem c4_200 : psX4 G q.2.2.1.2.2.2.2.2.1.1 q.2.2.1.2.2.2.2.2.1.2 = (List.range 10).map (fun o => cl1 (GN G h q h2 q2) (baN q) (mix MP0 MR0) (200 + 37 + o)) := rfl
theorem c2_200 : psX2 G q.2.2.1.2.2.2.2.2.2.2.1.1 q.2.2.1.2.2.2.2.2.2.2.1.2 = (List.range 4).map (fun o => cl1 (GN G h q h2 q2) (baN q) (mix MP0 MR0) (200 + 53 + o)) := rfl
theorem c1_200 : psX1 G q.2.2.1.2.2.2.2.2.2.2.2.1 q.2.2.1.2.2.2.2.2.2.2.2.2 = (List.range 6).map (fun o => cl1 (GN G h q h2 q2) (baN q) (mix MP0 MR0) (200 + 57 + o)) := rfl
theorem c3_200 : psX3 G q.2.2.1.2.2.2.2.2.2.1.1 q.2.2.1.2.2.2.2.2.2.1.2 = (List.range 6).map (fun o => cl1 (GN G h q h2 q2) (baN q) (mix MP0 MR0) (200 + 47 + o)) ++ [(baN q 200, cellB (gA G) (mix MP0 MR0) 200)] := rfl
theorem c6_300 : psX6 G q.2.2.2.1.2.2.1.1 q.2.2.2.1.2.2.1.2 = (List.range 9).map (fun o => cl1 (GN G h q h2 q2) (baN q) (mix MP0 MR0) (300 + 6 + o)) := rfl
theorem c9_300 : psX9 G q.2.2.2.1.2.2.2.1.1 q.2.2.2.1.2.2.2.1.2 = (List.range 15).map (fun o => cl1 (GN G h q h2 q2) (baN q) (mix MP0 MR0) (300 + 15 + o)) := rfl
theorem c7_300 : psX7 G q.2.2.2.1.2.2.2.2.1.1 q.2.2.2.1.2.2.2.2.1.2 = (List.range 7).map (fun o => cl1 (GN G h q h2 q2) (baN q) (mix MP0 MR0) (300 + 30 + o)) := rfl
theorem c4_300 : psX4 G q.2.2.2.1.2.2.2.2.2.1.1 q.2.2.2.1.2.2.2.2.2.1.2 = (List.range 10).map (fun o => cl1 (GN G h q h2 q2) (baN q) (mix MP0 MR0) (300 + 37 + o)) := rfl
theorem c2_300 : psX2 G q.2.2.2.1.2.2.2.2.2.2.2.1.1 q.2.2.2.1.2.2.2.2.2.2.2.1.2 = (List.range 4).map (fun o => cl1 (GN G h q h2 q2) (baN q) (mix MP0 MR0) (300 + 53 + o)) := rfl
theorem c1_300 : psX1 G q.2.2.2.1.2.2.2.2.2.2.2.2.1 q.2.2.2.1.2.2.2.2.2.2.2.2.2 = (List.range 6).map (fun o => cl1 (GN G h q h2 q2) (baN q) (mix MP0 MR0) (300 + 57 + o)) := rfl
theorem c3_300 : psX3 G q.2.2.2.1.2.2.2.2.2.2.1.1 q.2.2.2.1.2.2.2.2.2.2.1.2 = (List.range 6).map (fun o => cl1 (GN G h q h2 q2) (baN q) (mix MP0 MR0) (300 + 47 + o)) ++ [(baN q 300, cellB (gA G) (mix MP0 MR0) 300)] := rfl
theorem c0_100 : psX0 G q.2.1.1 q.2.1.2 = clC (GN G h q h2 q2) (baN q) (mix MP0 MR0) 100 := by
  have e1 : (upd (upd (fun _ => (0 : Int32)) 0 (-1000000005)) 1 (-1000000005)) = fun j : Nat => Int32.ofInt (mix MP0 MR0 104 (j : Int)) := row_u2 rfl rfl (fun j hj => by show (if (0 : Int) ≤ j ∧ (j : Int) < 2 then (-1000000005 : Int) else 0) = 0; rw [if_neg (by omega)])
  have e2 : (upd (upd (fun _ => (0 : Int32)) 0 10) 1 0) = fun j : Nat => Int32.ofInt (mix MP0 MR0 105 (j : Int)) := row_u2 rfl rfl (fun j hj => by show (if (j : Int) = 0 then (10 : Int) else 0) = 0; rw [if_neg (by omega)])
  unfold psX0
  rw [e1, e2, c6_100 G h q h2 q2, c9_100 G h q h2 q2, c7_100 G h q h2 q2, c4_100 G h q h2 q2, c3_100 G h q h2 q2, c2_100 G h q h2 q2, c1_100 G h q h2 q2]
  rfl
theorem c0_200 : psX0 G q.2.2.1.1 q.2.2.1.2 = clC (GN G h q h2 q2) (baN q) (mix MP0 MR0) 200 := by
  have e1 : (upd (upd (fun _ => (0 : Int32)) 0 (-1000000005)) 1 (-1000000005)) = fun j : Nat => Int32.ofInt (mix MP0 MR0 204 (j : Int)) := row_u2 rfl rfl (fun j hj => by show (if (0 : Int) ≤ j ∧ (j : Int) < 2 then (-1000000005 : Int) else 0) = 0; rw [if_neg (by omega)])
  have e2 : (upd (upd (fun _ => (0 : Int32)) 0 10) 1 0) = fun j : Nat => Int32.ofInt (mix MP0 MR0 205 (j : Int)) := row_u2 rfl rfl (fun j hj => by show (if (j : Int) = 0 then (10 : Int) else 0) = 0; rw [if_neg (by omega)])
  unfold psX0
  rw [e1, e2, c6_200 G h q h2 q2, c9_200 G h q h2 q2, c7_200 G h q h2 q2, c4_200 G h q h2 q2, c3_200 G h q h2 q2, c2_200 G h q h2 q2, c1_200 G h q h2 q2]
  rfl
theorem c0_300 : psX0 G q.2.2.2.1.1 q.2.2.2.1.2 = clC (GN G h q h2 q2) (baN q) (mix MP0 MR0) 300 := by
  have e1 : (upd (upd (fun _ => (0 : Int32)) 0 (-1000000005)) 1 (-1000000005)) = fun j : Nat => Int32.ofInt (mix MP0 MR0 304 (j : Int)) := row_u2 rfl rfl (fun j hj => by show (if (0 : Int) ≤ j ∧ (j : Int) < 2 then (-1000000005 : Int) else 0) = 0; rw [if_neg (by omega)])
  have e2 : (upd (upd (fun _ => (0 : Int32)) 0 10) 1 0) = fun j : Nat => Int32.ofInt (mix MP0 MR0 305 (j : Int)) := row_u2 rfl rfl (fun j hj => by show (if (j : Int) = 0 then (10 : Int) else 0) = 0; rw [if_neg (by omega)])
  unfold psX0
  rw [e1, e2, c6_300 G h q h2 q2, c9_300 G h q h2 q2, c7_300 G h q h2 q2, c4_300 G h q h2 q2, c3_300 G h q h2 q2, c2_300 G h q h2 q2, c1_300 G h q h2 q2]
  rfl
theorem cA_eq : psX11 G h q ++ psX12 G h2 q2 = clA (GN G h q h2 q2) (baN q) (mix MP0 MR0) := by
  have e1 : (upd (upd (fun _ => (0 : Int32)) 0 (-1)) 1 (-1)) = fun j : Nat => Int32.ofInt (mix MP0 MR0 6 (j : Int)) := row_u2 rfl rfl (fun j hj => by show (if (0 : Int) ≤ j ∧ (j : Int) < 2 then (-1 : Int) else 0) = 0; rw [if_neg (by omega)])
  have e2 : (upd (upd (fun _ => (0 : Int32)) 0 (-1)) 1 (-1)) = fun j : Nat => Int32.ofInt (mix MP0 MR0 1008 (j : Int)) := row_u2 rfl rfl (fun j hj => by show (if (0 : Int) ≤ j ∧ (j : Int) < 2 then (-1 : Int) else 0) = 0; rw [if_neg (by omega)])
  have e3 : (upd (upd (upd (fun _ => (0 : Int32)) 11 10) 13 (-1)) 14 (-1)) = fun j : Nat => Int32.ofInt (mix MP0 MR0 1002 (j : Int)) := row_u3 rfl rfl rfl (fun j h1 h2 h3 => by show (if (j : Int) = 11 then (10 : Int) else if (j : Int) = 13 then -1 else if (j : Int) = 14 then -1 else 0) = 0; rw [if_neg (by omega), if_neg (by omega), if_neg (by omega)])
  have f5 : psX5 G q.2.2.2.2.2.1.1 q.2.2.2.2.2.1.2 = (List.range 4).map (fun o => cl1 (GN G h q h2 q2) (baN q) (mix MP0 MR0) (o + 5)) := by
    unfold psX5
    rw [e1]
    rfl
  have f12 : psX12 G h2 q2 = (List.range 22).map (fun i => cl1 (GN G h q h2 q2) (baN q) (mix MP0 MR0) (1000 + 2 * i)) := by
    unfold psX12
    rw [e2, e3]
    rfl
  have f8 : psX8 G q.2.2.2.2.1.1 q.2.2.2.2.1.2 = (List.range 4).map (fun o => cl1 (GN G h q h2 q2) (baN q) (mix MP0 MR0) (o + 1)) := rfl
  have f10 : psX10 G q.2.2.2.2.2.2.1 q.2.2.2.2.2.2.2 = (List.range 4).map (fun o => cl1 (GN G h q h2 q2) (baN q) (mix MP0 MR0) (o + 9)) := rfl
  unfold psX11 clA
  rw [c0_100 G h q h2 q2, c0_200 G h q h2 q2, c0_300 G h q h2 q2, f5, f8, f10, f12]
  rfl
def isN : List Nat := [207, 208, 209, 210, 211, 212, 213, 214, 215, 216, 217, 218, 219, 220, 221, 222, 223, 224, 225, 226, 227, 228, 0, 193, 194, 195, 196, 197, 198, 199, 200, 201, 202, 203, 204, 205, 206, 1, 2, 3, 4, 5, 6, 7, 8, 9, 10, 11, 12, 13, 14, 15, 16, 17, 18, 19, 20, 21, 22, 23, 24, 25, 26, 27, 28, 29, 30, 31, 32, 33, 34, 35, 36, 37, 38, 39, 40, 41, 42, 43, 44, 45, 46, 47, 48, 49, 50, 51, 52, 53, 55, 56, 57, 58, 59, 60, 61, 62, 63, 64, 65, 66, 67, 68, 69, 70, 71, 72, 73, 74, 75, 76, 77, 78, 79, 80, 81, 82, 83, 84, 85, 86, 87, 88, 89, 90, 91, 92, 93, 94, 95, 96, 97, 98, 99, 100, 101, 102, 103, 104, 105, 106, 107, 108, 109, 110, 111, 112, 113, 114, 115, 116, 117, 119, 120, 121, 122, 123, 124, 125, 126, 127, 128, 129, 130, 131, 132, 133, 134, 135, 136, 137, 138, 139, 140, 141, 142, 143, 144, 145, 146, 147, 148, 149, 150, 151, 152, 153, 154, 155, 156, 157, 158, 159, 160, 161, 162, 163, 164, 165, 166, 167, 168, 169, 170, 171, 172, 173, 174, 175, 176, 177, 178, 179, 180, 181, 183, 184, 185, 186, 187, 188, 189, 190, 191, 192, 54, 118, 182]
set_option maxRecDepth 100000 in
theorem isN_map {G : Gx} (h1 : G.2.2.2.2.1 = []) (h2 : G.2.2.2.2.2.1 = []) (ba : Nat → Nat) (M : Mem) : isN.map (fun i => (clA G ba M)[i]?) = (wsl G kL ba M).map some := by
  unfold wsl
  rw [h1, h2]
  rfl
theorem fm_of {α β : Type} {f : α → Option β} : ∀ {l : List α} {r : List β}, l.map f = r.map some → l.filterMap f = r
  | [], r, h => by cases r with | nil => rfl | cons _ _ => cases h
  | a :: l, [], h => by cases h
  | a :: l, b :: r, h => by
    rw [List.map_cons, List.map_cons, List.cons.injEq] at h
    rw [List.filterMap_cons, h.1, fm_of h.2]
end Eqs
