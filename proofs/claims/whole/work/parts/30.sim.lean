/-! The pure side: rows for stepping, and the relation of the class's memory and the reference's. -/
section PureRows
variable {α : Type}
theorem rd_ok {f : Int → Int} {n : Nat} {x : Int} {k : Int → Option α} (h1 : 0 ≤ x) (h2 : x < (n : Int)) : rdA f n x k = k (f x) := if_pos ⟨h1, h2⟩
theorem wr_ok {M : Mem} {id n : Nat} {x v : Int} {k : Mem → Option α} (h1 : 0 ≤ x) (h2 : x < (n : Int)) : wrA M id n x v k = k (upM M id x v) := if_pos ⟨h1, h2⟩
theorem wf_ok {M : Mem} {id : Nat} {j v : Int} {k : Mem → Option α} : wrF M id j v k = k (upM M id j v) := rfl
theorem nm_ok {v : Int} {k : Int → α} : nm v k = k v := rfl
theorem jn_ok {β : Type} {k : β} {body : β → α} : jn k body = body k := rfl
theorem bI_ok {q : Int × Mem} {k : Int → Mem → Option α} : bnI (some q) k = k q.1 q.2 := rfl
theorem bV_ok {M : Mem} {k : Mem → Option α} : bnV (some M) k = k M := rfl
theorem up_eq {M : Mem} {k a : Nat} {i j v : Int} (h1 : a = k) (h2 : j = i) : upM M k i v a j = v := if_pos ⟨h1, h2⟩
theorem up_nk {M : Mem} {k a : Nat} {i j v : Int} (h : ¬ a = k) : upM M k i v a j = M a j := if_neg fun q => h q.1
theorem up_ni {M : Mem} {k a : Nat} {i j v : Int} (h : ¬ j = i) : upM M k i v a j = M a j := if_neg fun q => h q.2
theorem up_row {M : Mem} {k a : Nat} {i v : Int} (h : ¬ a = k) : upM M k i v a = M a := funext fun _ => up_nk h
theorem up_if {M : Mem} {k a : Nat} {i j v : Int} (h : a = k) : upM M k i v a j = if j = i then v else M a j := by
  subst h
  unfold upM
  simp
theorem if_p {c : Prop} [Decidable c] {A B : α} (h : c) : (if c then A else B) = A := if_pos h
theorem if_n {c : Prop} [Decidable c] {A B : α} (h : ¬ c) : (if c then A else B) = B := if_neg h
theorem ex_bI {c : Option (Int × Mem)} {r : Int} {M' : Mem} {k : Int → Mem → Option α} (h : c = some (r, M')) : bnI c k = k r M' := by rw [h]; rfl
theorem ex_bV {c : Option Mem} {M' : Mem} {k : Mem → Option α} (h : c = some M') : bnV c k = k M' := by rw [h]; rfl
end PureRows
/-- both answer, and alike, and what holds then -/
def Ag (Q : Mem → Mem → Prop) (A B : Option (Int × Mem)) : Prop := ∃ (r : Int) (P R : Mem), A = some (r, P) ∧ B = some (r, R) ∧ Q P R
theorem ag_ret {Q : Mem → Mem → Prop} {P R : Mem} {v w : Int} (h : Q P R) (e : v = w) : Ag Q (some (v, P)) (some (w, R)) := ⟨v, P, R, rfl, by rw [e], h⟩
theorem ag_ret' {Q : Mem → Mem → Prop} {P R : Mem} {v : Int} (h : Q P R) : Ag Q (some (v, P)) (some (v, R)) := ⟨v, P, R, rfl, rfl, h⟩
theorem ag_bI {Q Q' : Mem → Mem → Prop} {A B : Option (Int × Mem)} {k k' : Int → Mem → Option (Int × Mem)} (h : Ag Q' A B) (hk : ∀ r P R, Q' P R → Ag Q (k r P) (k' r R)) : Ag Q (bnI A k) (bnI B k') := by
  obtain ⟨r, P, R, e1, e2, h⟩ := h
  rw [e1, e2]
  exact hk r P R h
theorem Ag.mono {Q Q' : Mem → Mem → Prop} {A B : Option (Int × Mem)} (h : Ag Q' A B) (hk : ∀ P R, Q' P R → Q P R) : Ag Q A B := by
  obtain ⟨r, P, R, e1, e2, h⟩ := h
  exact ⟨r, P, R, e1, e2, hk P R h⟩
/-- both go on, and what holds then -/
def Av (Q : Mem → Mem → Prop) (A B : Option Mem) : Prop := ∃ (P R : Mem), A = some P ∧ B = some R ∧ Q P R
theorem av_ret {Q : Mem → Mem → Prop} {P R : Mem} (h : Q P R) : Av Q (some P) (some R) := ⟨P, R, rfl, rfl, h⟩
theorem av_bV {Q Q' : Mem → Mem → Prop} {A B : Option Mem} {k k' : Mem → Option Mem} (h : Av Q' A B) (hk : ∀ P R, Q' P R → Av Q (k P) (k' R)) : Av Q (bnV A k) (bnV B k') := by
  obtain ⟨P, R, e1, e2, h⟩ := h
  rw [e1, e2]
  exact hk P R h
theorem ag_bV {Q Q' : Mem → Mem → Prop} {A B : Option Mem} {k k' : Mem → Option (Int × Mem)} (h : Av Q' A B) (hk : ∀ P R, Q' P R → Ag Q (k P) (k' R)) : Ag Q (bnV A k) (bnV B k') := by
  obtain ⟨P, R, e1, e2, h⟩ := h
  rw [e1, e2]
  exact hk P R h
def oN (v : Int) : Int := if v < 0 then -1000000005 else v
theorem oN_neg {v : Int} (h : v < 0) : oN v = -1000000005 := if_pos h
theorem oN_pos {v : Int} (h : 0 ≤ v) : oN v = v := if_neg (by omega)
/-- rows' lengths of a city's cells (objects: their fields) -/
def cl : Nat → Int
  | 0 => 2
  | 1 => 16
  | 2 => 16
  | 3 => 16
  | 4 => 2
  | 5 => 2
  | 6 => 10
  | 14 => 2
  | 15 => 1
  | 27 => 320
  | 28 => 320
  | 30 => 5
  | 37 => 1
  | 38 => 12
  | 39 => 12
  | 40 => 12
  | 41 => 12
  | 42 => 12
  | 43 => 12
  | 44 => 1152
  | 48 => 2
  | 49 => 20
  | 50 => 20
  | 54 => 104
  | 57 => 1
  | 58 => 7
  | 59 => 7
  | 60 => 7
  | k => if k ≤ 13 then 20 else if k ≤ 26 then 40 else 20
/-- two memories hold the same in rows lo .. hi of two cities -/
def eqM (lo hi : Nat) (M : Mem) (b : Nat) (M' : Mem) (b' : Nat) : Prop := ∀ k, lo ≤ k → k ≤ hi → ∀ i, 0 ≤ i → i < cl k → M' (b' + k) i = M (b + k) i
/-- the rows of a city that tell something -/
def rlv (k : Nat) : Prop := k ≤ 28 ∨ (30 ≤ k ∧ k ≤ 44) ∨ (48 ≤ k ∧ k ≤ 50) ∨ k = 54 ∨ (57 ≤ k ∧ k ≤ 60)
def eqC (M : Mem) (b : Nat) (M' : Mem) (b' : Nat) : Prop := ∀ k, rlv k → ∀ i, 0 ≤ i → i < cl k → M' (b' + k) i = M (b + k) i
def eqS (lo hi : Int) (s s' : Int → Int) : Prop := ∀ j, lo ≤ j → j < hi → s' j = s j
theorem eqM.sub {lo hi lo' hi' : Nat} {M M' : Mem} {b b' : Nat} (h : eqM lo hi M b M' b') (h1 : lo ≤ lo') (h2 : hi' ≤ hi) : eqM lo' hi' M b M' b' := fun k a1 a2 => h k (by omega) (by omega)
theorem eqC.sub {lo hi : Nat} {M M' : Mem} {b b' : Nat} (h : eqC M b M' b') (hk : ∀ k, lo ≤ k → k ≤ hi → rlv k) : eqM lo hi M b M' b' := fun k a1 a2 => h k (hk k a1 a2)
theorem eqS.sub {lo hi lo' hi' : Int} {s s' : Int → Int} (h : eqS lo hi s s') (h1 : lo ≤ lo') (h2 : hi' ≤ hi) : eqS lo' hi' s s' := fun j a1 a2 => h j (by omega) (by omega)
/-- hour, cells -/
def gC (M : Mem) (b : Nat) (s : Int → Int) : Prop := M b 0 = s 0 ∧ 0 ≤ s 0 ∧ M b 1 = s 1 ∧ 0 ≤ s 1 ∧ s 1 ≤ 16 ∧
  ∀ i, 0 ≤ i → i < s 1 → M (b + 1) i = s (20 + 3 * i) ∧ 0 ≤ s (20 + 3 * i) ∧ s (20 + 3 * i) ≤ 1 ∧ M (b + 2) i = s (21 + 3 * i) ∧ 0 ≤ s (21 + 3 * i) ∧ s (21 + 3 * i) ≤ 999 ∧ M (b + 3) i = s (22 + 3 * i) ∧ 0 ≤ s (22 + 3 * i) ∧ s (22 + 3 * i) ≤ 9999
/-- false from, rules -/
def gR5 (M : Mem) (b : Nat) (s : Int → Int) : Prop := (∀ k, 0 ≤ k → k < 2 → M (b + 4) k = oN (s (13 + k)) ∧ -1 ≤ s (13 + k) ∧ s (13 + k) < 30) ∧ M (b + 5) 0 = s 11 ∧ 0 ≤ s 11 ∧ s 11 ≤ 100 ∧ M (b + 5) 1 = s 12 ∧ 0 ≤ s 12 ∧ s 12 ≤ 999
/-- persons: nc cells there are -/
def gPe (nc : Int) (M : Mem) (b : Nat) (s : Int → Int) : Prop := M (b + 6) 0 = s 2 ∧ 0 ≤ s 2 ∧ s 2 ≤ 20 ∧ 0 ≤ M (b + 6) 9 ∧ M (b + 6) 9 < 2 ^ (s 2).toNat ∧ M (b + 14) 0 = s 15 ∧ M (b + 14) 1 = s 16 ∧ 0 ≤ s 15 ∧ s 15 < 1048576 ∧ 0 ≤ s 16 ∧ s 16 < 1048576 ∧
  ∀ i, 0 ≤ i → i < s 2 → M (b + 7) i = s (70 + 8 * i) ∧ 0 ≤ s (70 + 8 * i) ∧ s (70 + 8 * i) < nc ∧ M (b + 8) i = s (71 + 8 * i) ∧ 0 ≤ s (71 + 8 * i) ∧ s (71 + 8 * i) ≤ 99 ∧ M (b + 9) i = s (72 + 8 * i) ∧ 0 ≤ s (72 + 8 * i) ∧ s (72 + 8 * i) ≤ 3 ∧
    M (b + 10) i = oN (s (73 + 8 * i)) ∧ -1 ≤ s (73 + 8 * i) ∧ s (73 + 8 * i) < nc ∧ M (b + 11) i = oN (s (74 + 8 * i)) ∧ -1 ≤ s (74 + 8 * i) ∧ M (b + 12) i = oN (s (75 + 8 * i)) ∧ -1 ≤ s (75 + 8 * i) ∧ (0 ≤ s (74 + 8 * i) ↔ 0 ≤ s (75 + 8 * i)) ∧
    bAnd (bShr (M (b + 6) 9) i) 1 = s (77 + 8 * i) ∧ 0 ≤ s (77 + 8 * i) ∧ s (77 + 8 * i) ≤ 1 ∧
    (s (77 + 8 * i) = 1 → s (73 + 8 * i) = -1 ∧ s (74 + 8 * i) = -1) ∧ (0 ≤ s (73 + 8 * i) → s (74 + 8 * i) = -1) ∧ (s (77 + 8 * i) = 0 → s (73 + 8 * i) = -1 → 0 ≤ s (74 + 8 * i))
/-- who waits, in what order: N calls there were so far -/
def gL (N : Int) (M : Mem) (b : Nat) (s : Int → Int) : Prop := 0 ≤ M (b + 6) 8 ∧ M (b + 6) 8 ≤ 20 ∧ 0 ≤ s 10 ∧ s 10 ≤ N ∧
  (∀ k, 0 ≤ k → k < M (b + 6) 8 → 0 ≤ M (b + 13) k ∧ M (b + 13) k < s 2 ∧ 0 ≤ s (74 + 8 * M (b + 13) k) ∧ s (76 + 8 * M (b + 13) k) < s 10) ∧
  (∀ k k', 0 ≤ k → k < k' → k' < M (b + 6) 8 → s (76 + 8 * M (b + 13) k) < s (76 + 8 * M (b + 13) k')) ∧
  (∀ p, 0 ≤ p → p < s 2 → 0 ≤ s (74 + 8 * p) → ∃ k, 0 ≤ k ∧ k < M (b + 6) 8 ∧ M (b + 13) k = p)
/-- with which pass one waits -/
def gW (s : Int → Int) : Prop := ∀ p, 0 ≤ p → p < s 2 → 0 ≤ s (75 + 8 * p) → s (75 + 8 * p) < s 3 ∧ s (230 + 10 * s (75 + 8 * p)) = 6 ∧ s (231 + 10 * s (75 + 8 * p)) = p
/-- ties -/
def gT (nc np : Int) (M : Mem) (b : Nat) (s : Int → Int) : Prop := M (b + 15) 0 = s 3 ∧ 0 ≤ s 3 ∧ s 3 ≤ 40 ∧
  ∀ i, 0 ≤ i → i < s 3 → M (b + 16) i = s (230 + 10 * i) ∧ 0 ≤ s (230 + 10 * i) ∧ s (230 + 10 * i) ≤ 7 ∧ M (b + 17) i = s (231 + 10 * i) ∧ M (b + 18) i = s (232 + 10 * i) ∧ M (b + 19) i = s (233 + 10 * i) ∧ M (b + 20) i = s (234 + 10 * i) ∧ M (b + 21) i = s (235 + 10 * i) ∧ M (b + 22) i = s (236 + 10 * i) ∧ M (b + 24) i = s (237 + 10 * i) ∧ M (b + 25) i = oN (s (238 + 10 * i)) ∧ -1 ≤ s (238 + 10 * i) ∧ M (b + 23) i = s (239 + 10 * i) ∧
    0 ≤ s (231 + 10 * i) ∧ 0 ≤ s (232 + 10 * i) ∧ s (231 + 10 * i) ≠ s (232 + 10 * i) ∧ (s (230 + 10 * i) < 5 → s (231 + 10 * i) < nc ∧ s (232 + 10 * i) < nc) ∧ (5 ≤ s (230 + 10 * i) → s (231 + 10 * i) < np ∧ s (232 + 10 * i) < np) ∧
    0 ≤ s (233 + 10 * i) ∧ s (233 + 10 * i) ≤ 9999 ∧ (s (230 + 10 * i) = 5 → 1 ≤ s (233 + 10 * i) ∧ s (233 + 10 * i) ≤ 9) ∧ 0 ≤ s (237 + 10 * i) ∧ s (237 + 10 * i) ≤ 7
/-- stops -/
def gS (nc : Int) (M : Mem) (b : Nat) (s : Int → Int) : Prop := ∀ i, 0 ≤ i → i < s 3 → M (b + 26) i = s (630 + 17 * i) ∧ 0 ≤ s (630 + 17 * i) ∧ s (630 + 17 * i) ≤ 8 ∧
  ∀ j, 0 ≤ j → j < s (630 + 17 * i) → M (b + 27) (8 * i + j) = s (631 + 17 * i + 2 * j) ∧ 0 ≤ s (631 + 17 * i + 2 * j) ∧ s (631 + 17 * i + 2 * j) < nc ∧ M (b + 28) (8 * i + j) = s (632 + 17 * i + 2 * j) ∧ 0 ≤ s (632 + 17 * i + 2 * j) ∧ s (632 + 17 * i + 2 * j) ≤ 59
/-- letters -/
def gE (M : Mem) (b : Nat) (s : Int → Int) : Prop := M (b + 30) 0 = s 5 ∧ 0 ≤ s 5 ∧ s 5 ≤ 20 ∧
  ∀ i, 0 ≤ i → i < s 5 → M (b + 32) i = s (3710 + 3 * i) ∧ 0 ≤ s (3710 + 3 * i) ∧ s (3710 + 3 * i) ≤ 1 ∧ M (b + 31) i = s (3711 + 3 * i) ∧ M (b + 33) i = s (3712 + 3 * i) ∧ 0 ≤ s (3712 + 3 * i) ∧ s (3712 + 3 * i) < 1048576
/-- calls -/
def gA6 (M : Mem) (b : Nat) (s : Int → Int) : Prop := M (b + 30) 4 = s 6 ∧ 0 ≤ s 6 ∧ s 6 ≤ 20 ∧
  ∀ i, 0 ≤ i → i < s 6 → M (b + 34) i = s (3770 + 3 * i) ∧ M (b + 35) i = s (3771 + 3 * i) ∧ M (b + 36) i = s (3772 + 3 * i) ∧ 1 ≤ s (3772 + 3 * i) ∧ s (3772 + 3 * i) ≤ 99
/-- the letter of a key's name -/
def nl (key slot : Int) : Int := if key = 0 then (if slot = 0 then 97 else if slot = 1 then 112 else if slot = 2 then 107 else 100) else if key = 1 then (if slot = 0 then 119 else if slot = 1 then 120 else 97) else if key = 2 then (if slot = 0 then 105 else if slot = 1 then 115 else 104) else if key = 3 then (if slot = 0 then 100 else if slot = 1 then 102 else 112) else 110
def nn (key : Int) : Int := if key = 0 then 4 else if key = 4 then 1 else 3
def sg (k : Int) : Int := if k = 0 then 124 else if k = 1 then 38 else if k = 2 then 60 else if k = 3 then 61 else if k = 4 then 62 else if k = 5 then 43 else if k = 6 then 45 else if k = 7 then 42 else 47
/-- a word of the class's code and a step of the reference's -/
def wR (key w a v : Int) : Prop := (a = 0 ∧ w = v ∧ 0 ≤ v ∧ v ≤ 9999) ∨ (a = 1 ∧ 10000 ≤ w ∧ w < 10000 + nn key ∧ v = nl key (w - 10000)) ∨ (a = 2 ∧ w = 20009 ∧ v = 33) ∨ (a = 2 ∧ 20000 ≤ w ∧ w ≤ 20008 ∧ v = sg (w - 20000))
/-- how many values lie on the stack behind n words -/
def dp (f : Int → Int) : Nat → Int
  | 0 => 0
  | n + 1 => if f n < 20000 then dp f n + 1 else if f n = 20009 then dp f n else dp f n - 1
def okD (f : Int → Int) (n : Int) : Prop := 1 ≤ n ∧ n ≤ 96 ∧ (∀ j : Nat, (j : Int) < n → 20000 ≤ f j → (f j = 20009 ∧ 1 ≤ dp f j) ∨ 2 ≤ dp f j) ∧ dp f n.toNat = 1
/-- texts -/
def gX (M : Mem) (b : Nat) (s : Int → Int) : Prop := M (b + 37) 0 = s 4 ∧ 0 ≤ s 4 ∧ s 4 ≤ 12 ∧
  ∀ i, 0 ≤ i → i < s 4 → M (b + 38) i = s (1310 + 200 * i) ∧ 0 ≤ s (1310 + 200 * i) ∧ s (1310 + 200 * i) ≤ 4 ∧ M (b + 39) i = s (1311 + 200 * i) ∧ 0 ≤ s (1311 + 200 * i) ∧ s (1311 + 200 * i) ≤ 1 ∧ M (b + 40) i = s (1312 + 200 * i) ∧ M (b + 41) i = oN (s (1313 + 200 * i)) ∧ -1 ≤ s (1313 + 200 * i) ∧ M (b + 42) i = s (1314 + 200 * i) ∧ M (b + 43) i = s (1315 + 200 * i) ∧ 1 ≤ s (1315 + 200 * i) ∧ s (1315 + 200 * i) ≤ 96 ∧
    (∀ j, 0 ≤ j → j < s (1315 + 200 * i) → wR (s (1310 + 200 * i)) (M (b + 44) (96 * i + j)) (s (1316 + 200 * i + 2 * j)) (s (1317 + 200 * i + 2 * j))) ∧ okD (fun j => M (b + 44) (96 * i + j)) (s (1315 + 200 * i))
/-- files -/
def gF7 (M : Mem) (b : Nat) (s : Int → Int) : Prop := ∀ k, 0 ≤ k → k < 2 → M (b + 48) k = s (8 + k) ∧ 0 ≤ s (8 + k) ∧ s (8 + k) ≤ 10 ∧
  ∀ i, 0 ≤ i → i < s (8 + k) → M (b + 49) (10 * k + i) = s (3860 + 20 * k + 2 * i) ∧ 0 ≤ s (3860 + 20 * k + 2 * i) ∧ s (3860 + 20 * k + 2 * i) ≤ 9999 ∧ M (b + 50) (10 * k + i) = s (3861 + 20 * k + 2 * i) ∧ 0 ≤ s (3861 + 20 * k + 2 * i) ∧ s (3861 + 20 * k + 2 * i) ≤ 99
/-- feast -/
def gF8 (M : Mem) (b : Nat) (s : Int → Int) : Prop := ∀ j, 0 ≤ j → j < 104 → M (b + 54) j = s (3900 + j) ∧ 0 ≤ s (3900 + j) ∧ s (3900 + j) ≤ 99
/-- clauses -/
def gK (M : Mem) (b : Nat) (s : Int → Int) : Prop := M (b + 57) 0 = s 7 ∧ 0 ≤ s 7 ∧ s 7 ≤ 7 ∧
  ∀ i, 0 ≤ i → i < s 7 → M (b + 58) i = s (3830 + 3 * i) ∧ -99 ≤ s (3830 + 3 * i) ∧ s (3830 + 3 * i) ≤ 99 ∧ M (b + 59) i = s (3831 + 3 * i) ∧ -99 ≤ s (3831 + 3 * i) ∧ s (3831 + 3 * i) ≤ 99 ∧ M (b + 60) i = s (3832 + 3 * i) ∧ 0 ≤ s (3832 + 3 * i) ∧ s (3832 + 3 * i) ≤ 99
