/-! The whole relation; what small methods answer. -/
def PairOk (P : Mem) : Prop := ∃ M0 M1 : Mem, eqM 48 50 P 100 M0 100 ∧ M0 147 5 = 0 ∧ 0 ≤ M0 163 (-1) ∧ pFiles_findPairs 100 M0 = some M1 ∧ (∀ i, 0 ≤ i → i < 3 → P 151 i = M1 151 i) ∧ (∀ i, 0 ≤ i → i < 10 → P 152 i = M1 152 i)
/-- what is not of cities: image or none, tape, numbers told, meters -/
def Rst (P R : Mem) : Prop := P 0 3 = R 0 3 ∧ (R 0 3 = 0 ∨ R 0 3 = 1) ∧ P 1 0 = R 0 9 ∧ 0 ≤ R 0 9 ∧ R 0 9 ≤ 96 ∧ (∀ i, 0 ≤ i → i < R 0 9 → P 2 i = R 8 i ∧ 0 ≤ R 8 i ∧ R 8 i ≤ 255) ∧
  P 0 8 = R 0 36 ∧ 0 ≤ R 0 36 ∧ R 0 36 ≤ 60 ∧ (∀ i, 0 ≤ i → i < R 0 36 → P 13 i = R 20 i) ∧
  (∀ k, 0 ≤ k → k < 2 → P 6 k = R 4 k ∧ -1 ≤ R 4 k ∧ R 4 k ≤ 1 ∧ P 7 k = R 5 k ∧ 0 ≤ R 5 k ∧ R 5 k ≤ 30) ∧ (∀ i, 0 ≤ i → i < 60 → P 8 i = R 6 i ∧ -2147483648 ≤ R 6 i ∧ R 6 i ≤ 2147483647) ∧ R 0 20 = -1
def FdOk (P : Mem) : Prop := 0 ≤ P 163 (-1) ∧ (P 147 5 = 0 ∨ (P 147 5 = 1 ∧ PairOk P))
def Sim (N : Int) (P R : Mem) : Prop := Cty N P 100 (R 1) ∧ R 1 0 ≤ 9999 ∧ (R 0 3 = 1 → Cty N P 200 (R 2) ∧ R 2 0 ≤ 9999) ∧ Rst P R ∧ FdOk P
/-- nothing that tells something has changed, but in the city now -/
def kpP (P P2 : Mem) : Prop := (∀ j, j = 3 ∨ j = 8 → P2 0 j = P 0 j) ∧ P2 1 0 = P 1 0 ∧ (∀ a i, a = 2 ∨ a = 6 ∨ a = 7 ∨ a = 8 ∨ a = 13 ∨ (200 ≤ a ∧ a ≤ 260) → P2 a i = P a i)
def kpR (R R2 : Mem) : Prop := (∀ j, j = 3 ∨ j = 9 ∨ j = 20 ∨ j = 36 → R2 0 j = R 0 j) ∧ (∀ a i, a = 2 ∨ a = 4 ∨ a = 5 ∨ a = 6 ∨ a = 8 ∨ a = 20 → R2 a i = R a i)
def kpF (P P2 : Mem) : Prop := P2 163 (-1) = P 163 (-1) ∧ P2 147 5 = P 147 5 ∧ (∀ a i, 148 ≤ a → a ≤ 152 → P2 a i = P a i)
theorem Rst.kp {P R P2 R2 : Mem} (h : Rst P R) (hP : kpP P P2) (hR : kpR R R2) : Rst P2 R2 := by
  obtain ⟨p1, p2, p3⟩ := hP
  obtain ⟨r1, r2⟩ := hR
  have e1 := p1 3 (by omega)
  have e2 := p1 8 (by omega)
  have e3 := r1 3 (by omega)
  have e4 := r1 9 (by omega)
  have e5 := r1 20 (by omega)
  have e6 := r1 36 (by omega)
  have f1 := fun i => p3 2 i (by omega)
  have f2 := fun i => p3 6 i (by omega)
  have f3 := fun i => p3 7 i (by omega)
  have f4 := fun i => p3 8 i (by omega)
  have f5 := fun i => p3 13 i (by omega)
  have g1 := fun i => r2 4 i (by omega)
  have g2 := fun i => r2 5 i (by omega)
  have g3 := fun i => r2 6 i (by omega)
  have g4 := fun i => r2 8 i (by omega)
  have g5 := fun i => r2 20 i (by omega)
  unfold Rst
  simp only [e1, e2, e3, e4, e5, e6, f1, f2, f3, f4, f5, g1, g2, g3, g4, g5, p2]
  exact h
theorem PairOk.kp {P P2 : Mem} (h : PairOk P) (hF : ∀ a i, 148 ≤ a → a ≤ 152 → P2 a i = P a i) : PairOk P2 := by
  obtain ⟨M0, M1, a1, a2, a3, a4, a5, a6⟩ := h
  refine ⟨M0, M1, fun k k0 k1 i i0 i1 => ?_, a2, a3, a4, fun i i0 i1 => ?_, fun i i0 i1 => ?_⟩
  · rw [hF (100 + k) i (by omega) (by omega)]
    exact a1 k k0 k1 i i0 i1
  · rw [hF 151 i (by omega) (by omega)]
    exact a5 i i0 i1
  · rw [hF 152 i (by omega) (by omega)]
    exact a6 i i0 i1
theorem FdOk.kp {P P2 : Mem} (h : FdOk P) (hF : kpF P P2) : FdOk P2 := by
  obtain ⟨h1, h2⟩ := h
  obtain ⟨f1, f2, f3⟩ := hF
  refine ⟨by rw [f1]; exact h1, ?_⟩
  rw [f2]
  rcases h2 with h2 | ⟨h2, h3⟩
  · exact .inl h2
  · exact .inr ⟨h2, h3.kp f3⟩
/-- a call that changes the city now alone (and what tells nothing) -/
theorem Sim.now {N N2 : Int} {P R P2 R2 : Mem} (h : Sim N P R) (hN : N ≤ N2) (hC : Cty N2 P2 100 (R2 1)) (h9 : R2 1 0 ≤ 9999) (hP : kpP P P2) (hR : kpR R R2) (hF : kpF P P2) : Sim N2 P2 R2 := by
  obtain ⟨h1, h2, h3, h4, h5⟩ := h
  refine ⟨hC, h9, fun q => ?_, h4.kp hP hR, h5.kp hF⟩
  rw [hR.1 3 (by omega)] at q
  obtain ⟨q1, q2⟩ := h3 q
  refine ⟨q1.cg hN (fun k hk i _ _ => hP.2.2 (200 + k) i (by unfold rlv at hk; omega)) (fun j _ _ => hR.2 2 j (by omega)), by rw [hR.2 2 0 (by omega)]; exact q2⟩
theorem Sim.up {N N2 : Int} {P R : Mem} (h : Sim N P R) (hN : N ≤ N2) : Sim N2 P R :=
  h.now hN (h.1.cg hN (fun _ _ _ _ _ => rfl) (fun _ _ _ => rfl)) h.2.1 ⟨fun _ _ => rfl, rfl, fun _ _ _ => rfl⟩ ⟨fun _ _ => rfl, fun _ _ _ => rfl⟩ ⟨rfl, rfl, fun _ _ _ _ => rfl⟩
/-- a call that changes nothing that tells something -/
theorem Sim.idle {N N2 : Int} {P R P2 R2 : Mem} (h : Sim N P R) (hN : N ≤ N2) (hC : eqC P 100 P2 100) (hs : eqS 0 4010 (R 1) (R2 1)) (hP : kpP P P2) (hR : kpR R R2) (hF : kpF P P2) : Sim N2 P2 R2 :=
  h.now hN (h.1.cg hN hC hs) (by rw [hs 0 (by omega) (by omega)]; exact h.2.1) hP hR hF
section Acc
variable {N : Int} {P R : Mem}
theorem Sim.c0 (h : Sim N P R) : P 100 0 = R 1 0 ∧ 0 ≤ R 1 0 ∧ R 1 0 ≤ 9999 ∧ P 100 1 = R 1 1 ∧ 0 ≤ R 1 1 ∧ R 1 1 ≤ 16 := ⟨h.1.1.1, h.1.1.2.1, h.2.1, h.1.1.2.2.1, h.1.1.2.2.2.1, h.1.1.2.2.2.2.1⟩
theorem Sim.cell (h : Sim N P R) {i : Int} (h0 : 0 ≤ i) (h1 : i < R 1 1) : P 101 i = R 1 (20 + 3 * i) ∧ 0 ≤ R 1 (20 + 3 * i) ∧ R 1 (20 + 3 * i) ≤ 1 ∧ P 102 i = R 1 (21 + 3 * i) ∧ 0 ≤ R 1 (21 + 3 * i) ∧ R 1 (21 + 3 * i) ≤ 999 ∧ P 103 i = R 1 (22 + 3 * i) ∧ 0 ≤ R 1 (22 + 3 * i) ∧ R 1 (22 + 3 * i) ≤ 9999 := h.1.1.2.2.2.2.2 i h0 h1
theorem Sim.rls (h : Sim N P R) : P 105 0 = R 1 11 ∧ 0 ≤ R 1 11 ∧ R 1 11 ≤ 100 ∧ P 105 1 = R 1 12 ∧ 0 ≤ R 1 12 ∧ R 1 12 ≤ 999 := h.1.2.1.2
theorem Sim.fls (h : Sim N P R) {k : Int} (h0 : 0 ≤ k) (h1 : k < 2) : P 104 k = oN (R 1 (13 + k)) ∧ -1 ≤ R 1 (13 + k) ∧ R 1 (13 + k) < 30 := h.1.2.1.1 k h0 h1
theorem Sim.p0 (h : Sim N P R) : P 106 0 = R 1 2 ∧ 0 ≤ R 1 2 ∧ R 1 2 ≤ 20 ∧ 0 ≤ P 106 9 ∧ P 106 9 < 2 ^ (R 1 2).toNat ∧ P 114 0 = R 1 15 ∧ P 114 1 = R 1 16 ∧ 0 ≤ R 1 15 ∧ R 1 15 < 1048576 ∧ 0 ≤ R 1 16 ∧ R 1 16 < 1048576 := by
  obtain ⟨a1, a2, a3, a4, a5, a6, a7, a8, a9, a10, a11, _⟩ := h.1.2.2.1
  exact ⟨a1, a2, a3, a4, a5, a6, a7, a8, a9, a10, a11⟩
theorem Sim.prs (h : Sim N P R) {i : Int} (h0 : 0 ≤ i) (h1 : i < R 1 2) : P 107 i = R 1 (70 + 8 * i) ∧ 0 ≤ R 1 (70 + 8 * i) ∧ R 1 (70 + 8 * i) < R 1 1 ∧ P 108 i = R 1 (71 + 8 * i) ∧ 0 ≤ R 1 (71 + 8 * i) ∧ R 1 (71 + 8 * i) ≤ 99 ∧ P 109 i = R 1 (72 + 8 * i) ∧ 0 ≤ R 1 (72 + 8 * i) ∧ R 1 (72 + 8 * i) ≤ 3 ∧
    P 110 i = oN (R 1 (73 + 8 * i)) ∧ -1 ≤ R 1 (73 + 8 * i) ∧ R 1 (73 + 8 * i) < R 1 1 ∧ P 111 i = oN (R 1 (74 + 8 * i)) ∧ -1 ≤ R 1 (74 + 8 * i) ∧ P 112 i = oN (R 1 (75 + 8 * i)) ∧ -1 ≤ R 1 (75 + 8 * i) ∧ (0 ≤ R 1 (74 + 8 * i) ↔ 0 ≤ R 1 (75 + 8 * i)) ∧
    bAnd (bShr (P 106 9) i) 1 = R 1 (77 + 8 * i) ∧ 0 ≤ R 1 (77 + 8 * i) ∧ R 1 (77 + 8 * i) ≤ 1 ∧
    (R 1 (77 + 8 * i) = 1 → R 1 (73 + 8 * i) = -1 ∧ R 1 (74 + 8 * i) = -1) ∧ (0 ≤ R 1 (73 + 8 * i) → R 1 (74 + 8 * i) = -1) ∧ (R 1 (77 + 8 * i) = 0 → R 1 (73 + 8 * i) = -1 → 0 ≤ R 1 (74 + 8 * i)) := h.1.2.2.1.2.2.2.2.2.2.2.2.2.2.2 i h0 h1
theorem Sim.t0 (h : Sim N P R) : P 115 0 = R 1 3 ∧ 0 ≤ R 1 3 ∧ R 1 3 ≤ 40 := by
  obtain ⟨a1, a2, a3, _⟩ := h.1.2.2.2.2.2.1
  exact ⟨a1, a2, a3⟩
theorem Sim.tie (h : Sim N P R) {i : Int} (h0 : 0 ≤ i) (h1 : i < R 1 3) : P 116 i = R 1 (230 + 10 * i) ∧ 0 ≤ R 1 (230 + 10 * i) ∧ R 1 (230 + 10 * i) ≤ 7 ∧ P 117 i = R 1 (231 + 10 * i) ∧ P 118 i = R 1 (232 + 10 * i) ∧ P 119 i = R 1 (233 + 10 * i) ∧ P 120 i = R 1 (234 + 10 * i) ∧ P 121 i = R 1 (235 + 10 * i) ∧ P 122 i = R 1 (236 + 10 * i) ∧ P 124 i = R 1 (237 + 10 * i) ∧ P 125 i = oN (R 1 (238 + 10 * i)) ∧ -1 ≤ R 1 (238 + 10 * i) ∧ P 123 i = R 1 (239 + 10 * i) ∧
    0 ≤ R 1 (231 + 10 * i) ∧ 0 ≤ R 1 (232 + 10 * i) ∧ R 1 (231 + 10 * i) ≠ R 1 (232 + 10 * i) ∧ (R 1 (230 + 10 * i) < 5 → R 1 (231 + 10 * i) < R 1 1 ∧ R 1 (232 + 10 * i) < R 1 1) ∧ (5 ≤ R 1 (230 + 10 * i) → R 1 (231 + 10 * i) < R 1 2 ∧ R 1 (232 + 10 * i) < R 1 2) ∧
    0 ≤ R 1 (233 + 10 * i) ∧ R 1 (233 + 10 * i) ≤ 9999 ∧ (R 1 (230 + 10 * i) = 5 → 1 ≤ R 1 (233 + 10 * i) ∧ R 1 (233 + 10 * i) ≤ 9) ∧ 0 ≤ R 1 (237 + 10 * i) ∧ R 1 (237 + 10 * i) ≤ 7 := h.1.2.2.2.2.2.1.2.2.2 i h0 h1
end Acc
/-! small methods -/
section Ev
variable {α : Type} {M : Mem} {b : Nat}
theorem ite_bz {c : Prop} [Decidable c] {A B : α} : (if (if c then (1 : Int) else 0) = 0 then A else B) = if c then B else A := by
  by_cases h : c <;> simp [h]
theorem ite_bz1 {c : Prop} [Decidable c] {A B : α} : (if (if c then (1 : Int) else 0) = 0 ∨ (if c then (1 : Int) else 0) = 1 then A else B) = A := by
  by_cases h : c <;> simp [h]
theorem ev_isSide {x : Int} : pTop_isSide x M = some (if 0 ≤ x ∧ x ≤ 1 then 1 else 0, M) := by
  unfold pTop_isSide
  repeat' split
  all_goals first | rfl | (exfalso; omega)
theorem ev_within {x y z : Int} : pTop_within x y z M = some (if y ≤ x ∧ x ≤ z then 1 else 0, M) := by
  unfold pTop_within
  repeat' split
  all_goals first | rfl | (exfalso; omega)
theorem ev_hasCell {x : Int} : pCity_hasCell b x M = some (if 0 ≤ x ∧ x < M b 1 then 1 else 0, M) := by
  unfold pCity_hasCell
  repeat' split
  all_goals first | rfl | (exfalso; omega)
theorem ev_hasP {x : Int} : pPersons_has b x M = some (if 0 ≤ x ∧ x < M (b + 6) 0 then 1 else 0, M) := by
  unfold pPersons_has
  repeat' split
  all_goals first | rfl | (exfalso; omega)
theorem ev_hasT {x : Int} : pTies_has b x M = some (if 0 ≤ x ∧ x < M (b + 15) 0 then 1 else 0, M) := by
  unfold pTies_has
  repeat' split
  all_goals first | rfl | (exfalso; omega)
theorem ev_hasX {x : Int} : pLaws_has b x M = some (if 0 ≤ x ∧ x < M (b + 37) 0 then 1 else 0, M) := by
  unfold pLaws_has
  repeat' split
  all_goals first | rfl | (exfalso; omega)
theorem ev_isOf {x k : Int} (h : M (b + 15) 0 ≤ 40) : pTies_isOf b x k M = some (if 0 ≤ x ∧ x < M (b + 15) 0 ∧ M (b + 16) x = k then 1 else 0, M) := by
  unfold pTies_isOf
  rw [ev_hasT, bI_ok]
  simp only [ite_bz]
  by_cases c : 0 ≤ x ∧ x < M (b + 15) 0
  · rw [if_pos c, rd_ok c.1 (by omega)]
    repeat' split
    all_goals first | rfl | (exfalso; omega)
  · rw [if_neg c, if_neg (by omega)]
theorem ev_fits {k x : Int} : pTies_fits k x M = some (if (if k = 1 then 0 ≤ x ∧ x ≤ 9 else if k = 3 then 0 ≤ x ∧ x ≤ 9999 else if k = 4 then 0 ≤ x ∧ x ≤ 60 else if k = 5 then 1 ≤ x ∧ x ≤ 9 else x = 0) then 1 else 0, M) := by
  unfold pTies_fits
  simp only [ev_within, bI_ok, ite_bz1]
  repeat' split
  all_goals first | rfl | (exfalso; omega)
theorem ev_isIn {x y z : Int} : rM_isIn x y z M = some (if y ≤ x ∧ x ≤ z then 1 else 0, M) := by
  unfold rM_isIn cmpZ
  repeat' split
  all_goals first | rfl | (exfalso; omega)
theorem ev_isSideR {x : Int} : rM_isSide x M = some (if 0 ≤ x ∧ x ≤ 1 then 1 else 0, M) := by
  unfold rM_isSide
  simp only [ev_isIn, bI_ok, ite_bz1]
theorem ev_isCell {x : Int} (h0 : 0 ≤ M 1 1) (h1 : M 1 1 ≤ 16) : rM_isCell x M = some (if 0 ≤ x ∧ x < M 1 1 then 1 else 0, M) := by
  unfold rM_isCell
  rw [rd_ok (by omega) (by omega), w32_id (by omega) (by omega)]
  simp only [ev_isIn, bI_ok, ite_bz1]
  simp only [Int.le_sub_one_iff]
theorem ev_isPerson {x : Int} (h0 : 0 ≤ M 1 2) (h1 : M 1 2 ≤ 20) : rM_isPerson x M = some (if 0 ≤ x ∧ x < M 1 2 then 1 else 0, M) := by
  unfold rM_isPerson
  rw [rd_ok (by omega) (by omega), w32_id (by omega) (by omega)]
  simp only [ev_isIn, bI_ok, ite_bz1]
  simp only [Int.le_sub_one_iff]
theorem ev_isTie {x : Int} (h0 : 0 ≤ M 1 3) (h1 : M 1 3 ≤ 40) : rM_isTie x M = some (if 0 ≤ x ∧ x < M 1 3 then 1 else 0, M) := by
  unfold rM_isTie
  rw [rd_ok (by omega) (by omega), w32_id (by omega) (by omega)]
  simp only [ev_isIn, bI_ok, ite_bz1]
  simp only [Int.le_sub_one_iff]
theorem ev_isText {x : Int} (h0 : 0 ≤ M 1 4) (h1 : M 1 4 ≤ 12) : rM_isText x M = some (if 0 ≤ x ∧ x < M 1 4 then 1 else 0, M) := by
  unfold rM_isText
  rw [rd_ok (by omega) (by omega), w32_id (by omega) (by omega)]
  simp only [ev_isIn, bI_ok, ite_bz1]
  simp only [Int.le_sub_one_iff]
theorem ev_cellAt {x : Int} (h0 : -100 ≤ x) (h1 : x ≤ 1000) : rM_cellAt x M = some (20 + 3 * x, M) := by
  unfold rM_cellAt
  simp (disch := omega) only [w32_id]
theorem ev_personAt {x : Int} (h0 : -100 ≤ x) (h1 : x ≤ 1000) : rM_personAt x M = some (70 + 8 * x, M) := by
  unfold rM_personAt
  simp (disch := omega) only [w32_id]
theorem ev_tieAt {x : Int} (h0 : -100 ≤ x) (h1 : x ≤ 1000) : rM_tieAt x M = some (230 + 10 * x, M) := by
  unfold rM_tieAt
  simp (disch := omega) only [w32_id]
theorem ev_textAt {x : Int} (h0 : -100 ≤ x) (h1 : x ≤ 1000) : rM_textAt x M = some (1310 + 200 * x, M) := by
  unfold rM_textAt
  simp (disch := omega) only [w32_id]
theorem ev_isOfR {x k : Int} (h0 : 0 ≤ M 1 3) (h1 : M 1 3 ≤ 40) : rM_isOf x k M = some (if 0 ≤ x ∧ x < M 1 3 ∧ M 1 (230 + 10 * x) = k then 1 else 0, M) := by
  unfold rM_isOf
  rw [ev_isTie h0 h1, bI_ok]
  simp only [ite_bz]
  by_cases c : 0 ≤ x ∧ x < M 1 3
  · rw [if_pos c, ev_tieAt (by omega) (by omega), bI_ok]
    simp only
    rw [rd_ok (by omega) (by omega)]
    repeat' split
    all_goals first | rfl | (exfalso; omega)
  · rw [if_neg c, if_neg (by omega)]
theorem ev_fitsR {k x : Int} : rM_fits k x M = some (if (if k = 1 then 0 ≤ x ∧ x ≤ 9 else if k = 3 then 0 ≤ x ∧ x ≤ 9999 else if k = 4 then 0 ≤ x ∧ x ≤ 60 else if k = 5 then 1 ≤ x ∧ x ≤ 9 else x = 0) then 1 else 0, M) := by
  unfold rM_fits
  simp only [ev_isIn, bI_ok, ite_bz1]
  repeat' split
  all_goals first | rfl | (exfalso; omega)
theorem ev_orNone {x : Int} : rM_orNone x M = some (oN x, M) := by
  unfold rM_orNone oN
  repeat' split
  all_goals first | rfl | (exfalso; omega)
theorem ev_least {x y : Int} : rM_least x y M = some (if x < y then x else y, M) := by
  unfold rM_least
  repeat' split
  all_goals first | rfl | (exfalso; omega)
theorem ev_becomes {x v : Int} (h0 : 0 ≤ x) (h1 : x < 4210) : rM_becomes x v M = some (M 1 x, upM M 1 x v) := by
  unfold rM_becomes
  rw [rd_ok h0 (by omega), wr_ok h0 (by omega)]
theorem ev_exchange {f n : Nat} {x v : Int} (h0 : 0 ≤ x) (h1 : x < (n : Int)) : pTop_exchange f n x v M = some (M f x, upM M f x v) := by
  unfold pTop_exchange
  rw [rd_ok h0 h1, wr_ok h0 h1]
theorem td24 {x : Int} (h : 0 ≤ x) : Int.tdiv x 24 = x / 24 := Int.tdiv_eq_ediv_of_nonneg h
theorem tm_nn {x y : Int} (h : 0 ≤ x) : Int.tmod x y = x % y := Int.tmod_eq_emod_of_nonneg h
theorem td_nn {x y : Int} (h : 0 ≤ x) : Int.tdiv x y = x / y := Int.tdiv_eq_ediv_of_nonneg h
theorem ev_day (h0 : 0 ≤ M b 0) (h1 : M b 0 ≤ 20000) : pCity_day b M = some (M b 0 / 24, M) := by
  unfold pCity_day
  rw [td24 h0, w32_id (by omega) (by omega)]
theorem ev_dayR (h0 : 0 ≤ M 1 0) (h1 : M 1 0 ≤ 20000) : rM_day M = some (M 1 0 / 24, M) := by
  unfold rM_day
  rw [rd_ok (by omega) (by omega), td24 h0, w32_id (by omega) (by omega)]
end Ev
