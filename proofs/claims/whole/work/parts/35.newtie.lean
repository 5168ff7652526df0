/-! Rows filled; a new tie. -/
def zr (M : Mem) (k : Nat) (lo hi v : Int) : Mem := fun a j => if a = k ∧ lo ≤ j ∧ j < hi then v else M a j
theorem zr_in {M : Mem} {k a : Nat} {lo hi v j : Int} (h : a = k) (h1 : lo ≤ j) (h2 : j < hi) : zr M k lo hi v a j = v := if_pos ⟨h, h1, h2⟩
theorem zr_nk {M : Mem} {k a : Nat} {lo hi v j : Int} (h : ¬ a = k) : zr M k lo hi v a j = M a j := if_neg fun q => h q.1
theorem zr_no {M : Mem} {k a : Nat} {lo hi v j : Int} (h : ¬ (lo ≤ j ∧ j < hi)) : zr M k lo hi v a j = M a j := if_neg fun q => h q.2
theorem zr_nil {M : Mem} {k : Nat} {lo hi v : Int} (h : hi ≤ lo) : zr M k lo hi v = M := by
  funext a j
  exact if_neg (by omega)
theorem zr_cons {M : Mem} {k : Nat} {lo hi v : Int} (h : lo < hi) : zr (upM M k lo v) k (lo + 1) hi v = zr M k lo hi v := by
  funext a j
  unfold zr upM
  by_cases e : a = k
  · subst e
    by_cases e1 : j = lo
    · subst e1
      rw [if_neg (by omega), if_pos ⟨rfl, rfl⟩, if_pos (by omega)]
    · by_cases e2 : lo ≤ j ∧ j < hi
      · rw [if_pos (by omega), if_pos (by omega)]
      · rw [if_neg (by omega), if_neg (by omega), if_neg (by omega)]
  · rw [if_neg (by omega), if_neg (by omega), if_neg (by omega)]
theorem fill_lp {f0 n0 : Nat} {y1 y3 : Int} (h3 : y3 ≤ n0) (hn : n0 ≤ 100000) : ∀ (n : Nat) (u : Int) (M : Mem), 0 ≤ u → (y3 - u).toNat < n → lpJ7_fill_53178_5 f0 n0 y1 y3 n u M = some (zr M f0 u y3 y1)
  | 0, u, M, h0, hf => by omega
  | n + 1, u, M, h0, hf => by
    unfold lpJ7_fill_53178_5
    by_cases c : u < y3
    · rw [if_pos c, wr_ok h0 (by omega), nm_ok, w32_id (by omega) (by omega), fill_lp h3 hn n (u + 1) _ (by omega) (by omega), zr_cons c]
    · rw [if_neg c, zr_nil (by omega)]
theorem ev_fill {f0 n0 : Nat} {x : Int} {M : Mem} (hn : n0 ≤ 100000) : j_fill_53178 f0 n0 x M = some (zr M f0 0 n0 x) := by
  unfold j_fill_53178
  rw [nm_ok]
  exact fill_lp (by omega) hn FU 0 M (by omega) (by unfold FU; omega)
theorem fill2_lp {f0 n0 : Nat} {y2 y3 : Int} (h3 : y2 ≤ n0) (hn : n0 ≤ 100000) : ∀ (n : Nat) (u : Int) (M : Mem), 0 ≤ u → (y2 - u).toNat < n → lpJ7_fill_fda19_10 f0 n0 y2 y3 n u M = some (zr M f0 u y2 y3)
  | 0, u, M, h0, hf => by omega
  | n + 1, u, M, h0, hf => by
    unfold lpJ7_fill_fda19_10
    by_cases c : u < y2
    · rw [if_pos c, wr_ok h0 (by omega), nm_ok, w32_id (by omega) (by omega), fill2_lp h3 hn n (u + 1) _ (by omega) (by omega), zr_cons c]
    · rw [if_neg c, zr_nil (by omega)]
theorem ev_fill2 {f0 n0 : Nat} {lo hi x : Int} {M : Mem} (hn : n0 ≤ 100000) (h0 : 0 ≤ lo) (h1 : lo ≤ hi) (h2 : hi ≤ n0) : j_fill_fda19 f0 n0 lo hi x M = some (zr M f0 lo hi x) := by
  unfold j_fill_fda19 j_rangeCheck_23922
  rw [if_neg (by omega), if_neg (by omega), if_neg (by omega), bV_ok]
  exact fill2_lp h2 hn FU lo M h0 (by unfold FU; omega)
theorem newTie_lp {y1 y2 y3 y4 y5 : Int} {k : Mem → Option (Int × Mem)} (h5 : 0 ≤ y5) (h6 : y5 ≤ 4200) : ∀ (n : Nat) (u : Int) (M : Mem), 0 ≤ u → (10 - u).toNat < n → u ≤ 10 → lpX12_newTie_15 y1 y2 y3 y4 y5 k n u M = k (zr M 1 (y5 + u) (y5 + 10) 0)
  | 0, u, M, h0, hf, _ => by omega
  | n + 1, u, M, h0, hf, hu => by
    unfold lpX12_newTie_15
    by_cases c : u < 10
    · rw [if_pos c, w32_id (by omega) (by omega), wr_ok (by omega) (by omega), nm_ok, w32_id (by omega) (by omega), newTie_lp h5 h6 n (u + 1) _ (by omega) (by omega) (by omega), show y5 + (u + 1) = y5 + u + 1 by omega, zr_cons (by omega)]
    · rw [if_neg c, zr_nil (by omega)]
theorem Sim.newT {N N2 : Int} {P R : Mem} (h : Sim N P R) (hN : N ≤ N2) {P2 R2 : Mem} {kd x y c fr to st sf of en : Int} (hn : R 1 3 < 40) (v0 : 0 ≤ kd) (v1 : kd ≤ 7) (v2 : 0 ≤ x) (v3 : 0 ≤ y) (v4 : x ≠ y) (v5 : kd < 5 → x < R 1 1 ∧ y < R 1 1) (v6 : 5 ≤ kd → x < R 1 2 ∧ y < R 1 2) (v7 : 0 ≤ c) (v8 : c ≤ 9999) (v9 : kd = 5 → 1 ≤ c ∧ c ≤ 9) (v10 : 0 ≤ sf) (v11 : sf ≤ 7) (v12 : -1 ≤ of)
    (a116 : P2 116 (R 1 3) = kd) (a117 : P2 117 (R 1 3) = x) (a118 : P2 118 (R 1 3) = y) (a119 : P2 119 (R 1 3) = c) (a120 : P2 120 (R 1 3) = fr) (a121 : P2 121 (R 1 3) = to) (a122 : P2 122 (R 1 3) = st) (a124 : P2 124 (R 1 3) = sf) (a125 : P2 125 (R 1 3) = oN of) (a123 : P2 123 (R 1 3) = en) (a15 : P2 115 0 = R 1 3 + 1) (a26 : P2 126 (R 1 3) = 0) (hPo : ∀ a i, ¬ (a = 115 ∧ i = 0) → ¬ (116 ≤ a ∧ a ≤ 126 ∧ i = R 1 3) → P2 a i = P a i)
    (b230 : R2 1 (230 + 10 * R 1 3) = kd) (b231 : R2 1 (231 + 10 * R 1 3) = x) (b232 : R2 1 (232 + 10 * R 1 3) = y) (b233 : R2 1 (233 + 10 * R 1 3) = c) (b234 : R2 1 (234 + 10 * R 1 3) = fr) (b235 : R2 1 (235 + 10 * R 1 3) = to) (b236 : R2 1 (236 + 10 * R 1 3) = st) (b237 : R2 1 (237 + 10 * R 1 3) = sf) (b238 : R2 1 (238 + 10 * R 1 3) = of) (b239 : R2 1 (239 + 10 * R 1 3) = en) (b3 : R2 1 3 = R 1 3 + 1) (b630 : R2 1 (630 + 17 * R 1 3) = 0) (hRo : ∀ a i, ¬ (a = 1 ∧ (i = 3 ∨ (230 + 10 * R 1 3 ≤ i ∧ i < 240 + 10 * R 1 3) ∨ i = 630 + 17 * R 1 3)) → R2 a i = R a i) : Sim N2 P2 R2 := by
  obtain ⟨c1, c2, c3, c4, c5, c6⟩ := h.c0
  obtain ⟨p1, p2, p3, p4, p5, p6, p7, p8, p9, p10, p11⟩ := h.p0
  obtain ⟨t1, t2, t3⟩ := h.t0
  have x3 := h.1.2.2.2.2.2.2.2.2.2.1.2.2.1
  have x2 := h.1.2.2.2.2.2.2.2.2.2.1.2.1
  obtain ⟨hC, hR5, hP, hL, hW, hT, hS, hE, hA, hX, hF, hG, hK⟩ := h.1
  have e1 : R2 1 1 = R 1 1 := hRo _ _ (by omega)
  have e2 : R2 1 2 = R 1 2 := hRo _ _ (by omega)
  have e0 : R2 1 0 = R 1 0 := hRo _ _ (by omega)
  refine h.now hN ⟨hC.cg (fun k k0 k1 i i0 i1 => hPo _ _ (by omega) (by omega)) (fun j j0 j1 => hRo _ _ (by omega)) (fun j j0 j1 => hRo _ _ (by omega)), hR5.cg (fun k k0 k1 i i0 i1 => hPo _ _ (by omega) (by omega)) (fun j j0 j1 => hRo _ _ (by omega)), hP.cg (by omega) (fun k k0 k1 i i0 i1 => hPo _ _ (by omega) (by omega)) (fun j j0 j1 => hRo _ _ (by omega)) (fun j j0 j1 => hRo _ _ (by omega)) (fun j j0 j1 => hRo _ _ (by omega)), hL.cg hN hP.2.2.1 (fun k k0 k1 i i0 i1 => hPo _ _ (by omega) (by omega)) (fun k k0 k1 i i0 i1 => hPo _ _ (by omega) (by omega)) (fun j j0 j1 => hRo _ _ (by omega)) (fun j j0 j1 => hRo _ _ (by omega)) (fun i i0 i1 => ⟨hRo _ _ (by omega), hRo _ _ (by omega)⟩), hW.cg hP.2.2.1 hT.2.2.1 (by omega) (fun j j0 j1 => hRo _ _ (by omega)) (fun i i0 i1 => hRo _ _ (by omega)) (fun i i0 i1 => ⟨hRo _ _ (by omega), hRo _ _ (by omega)⟩), ?_, ?_, hE.cg (hPo _ _ (by omega) (by omega)) (fun k k0 k1 i i0 i1 => hPo _ _ (by omega) (by omega)) (fun j j0 j1 => hRo _ _ (by omega)) (fun j j0 j1 => hRo _ _ (by omega)), hA.cg (hPo _ _ (by omega) (by omega)) (fun k k0 k1 i i0 i1 => hPo _ _ (by omega) (by omega)) (fun j j0 j1 => hRo _ _ (by omega)) (fun j j0 j1 => hRo _ _ (by omega)), hX.cg (fun k k0 k1 i i0 i1 => hPo _ _ (by omega) (by omega)) (fun j j0 j1 => hRo _ _ (by omega)) (fun j j0 j1 => hRo _ _ (by omega)), hF.cg (fun k k0 k1 i i0 i1 => hPo _ _ (by omega) (by omega)) (fun j j0 j1 => hRo _ _ (by omega)) (fun j j0 j1 => hRo _ _ (by omega)), hG.cg (fun k k0 k1 i i0 i1 => hPo _ _ (by omega) (by omega)) (fun j j0 j1 => hRo _ _ (by omega)), hK.cg (fun k k0 k1 i i0 i1 => hPo _ _ (by omega) (by omega)) (fun j j0 j1 => hRo _ _ (by omega)) (fun j j0 j1 => hRo _ _ (by omega))⟩ (by omega) ⟨fun j hj => hPo _ _ (by omega) (by omega), hPo _ _ (by omega) (by omega), fun a i ha => hPo _ _ (by omega) (by omega)⟩ ⟨fun j hj => hRo _ _ (by omega), fun a i ha => hRo _ _ (by omega)⟩ ⟨hPo _ _ (by omega) (by omega), hPo _ _ (by omega) (by omega), fun a i u0 u1 => hPo _ _ (by omega) (by omega)⟩
  · rw [e1, e2]
    refine ⟨by rw [b3]; exact a15, by omega, by omega, fun i i0 i1 => ?_⟩
    rw [b3] at i1
    by_cases e : i = R 1 3
    · subst e
      simp only [Nat.reduceAdd, a116, a117, a118, a119, a120, a121, a122, a123, a124, a125, b230, b231, b232, b233, b234, b235, b236, b237, b238, b239, true_and]
      exact ⟨v0, v1, v12, v2, v3, v4, v5, v6, v7, v8, v9, v10, v11⟩
    · have q := h.tie i0 (by omega)
      simp only [Nat.reduceAdd]
      rw [hPo 116 i (by omega) (by omega), hPo 117 i (by omega) (by omega), hPo 118 i (by omega) (by omega), hPo 119 i (by omega) (by omega), hPo 120 i (by omega) (by omega), hPo 121 i (by omega) (by omega), hPo 122 i (by omega) (by omega), hPo 123 i (by omega) (by omega), hPo 124 i (by omega) (by omega), hPo 125 i (by omega) (by omega), hRo 1 (230 + 10 * i) (by omega), hRo 1 (231 + 10 * i) (by omega), hRo 1 (232 + 10 * i) (by omega), hRo 1 (233 + 10 * i) (by omega), hRo 1 (234 + 10 * i) (by omega), hRo 1 (235 + 10 * i) (by omega), hRo 1 (236 + 10 * i) (by omega), hRo 1 (237 + 10 * i) (by omega), hRo 1 (238 + 10 * i) (by omega), hRo 1 (239 + 10 * i) (by omega)]
      exact q
  · intro i i0 i1
    rw [b3] at i1
    by_cases e : i = R 1 3
    · subst e
      refine ⟨by rw [b630]; exact a26, by omega, by omega, fun j j0 j1 => ?_⟩
      omega
    · obtain ⟨d1, d2, d3, d4⟩ := hS i i0 (by omega)
      have q := hRo 1 (630 + 17 * i) (by omega)
      rw [q, e1, hPo _ i (by omega) (by omega)]
      refine ⟨d1, d2, d3, fun j j0 j1 => ?_⟩
      rw [hPo (100 + 27) _ (by omega) (by omega), hPo (100 + 28) _ (by omega) (by omega), hRo 1 (631 + 17 * i + 2 * j) (by omega), hRo 1 (632 + 17 * i + 2 * j) (by omega)]
      exact d4 j j0 j1
