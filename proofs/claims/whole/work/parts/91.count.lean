/-! Call: count; who waits and who is away, in any city. -/
theorem cz_all {f : Int → Bool} : ∀ {n : Nat}, (∀ i : Int, 0 ≤ i → i < n → f i = true) → cz f n = n
  | 0, _ => rfl
  | n + 1, h => by
    unfold cz
    rw [if_pos (h n (by omega) (by omega)), cz_all (f := f) (n := n) (fun i i0 i1 => h i i0 (by omega))]
    omega
theorem lined_w {N : Int} {M : Mem} {b : Nat} {s : Int → Int} (hL : gL N M b s) : cz (fun p => decide (0 ≤ s (74 + 8 * p))) (s 2).toNat = M (b + 6) 8 := by
  have ee := line_cnt hL (g := fun p => decide (0 ≤ s (74 + 8 * p))) (fun p _ _ q => of_decide_eq_true q)
  obtain ⟨l1, l2, l3, l4, l5, _⟩ := hL
  rw [← ee, cz_all (fun i i0 i1 => decide_eq_true (l5 i i0 (by omega)).2.2.1)]
  omega
theorem ev_waitsR {M : Mem} {p : Int} (p0 : 0 ≤ p) (p1 : p < 20) : rM_waits p M = some (if 0 ≤ M 1 (74 + 8 * p) then 1 else 0, M) := by
  unfold rM_waits
  rw [ev_personAt (by omega) (by omega), bI_k, w32_id (z := 70 + 8 * p + 4) (by omega) (by omega), rd_ok (by omega) (by omega), show 70 + 8 * p + 4 = 74 + 8 * p by omega]
  repeat' split
  all_goals first | rfl | (exfalso; omega)
theorem waiters_lp {R : Mem} (l1 : 0 ≤ R 1 2) (l2 : R 1 2 ≤ 20) : ∀ (fu : Nat) (u : Int), 0 ≤ u → u ≤ R 1 2 → (R 1 2 - u).toNat < fu → lpX12_waiters_4 fu (cz (fun p => decide (0 ≤ R 1 (74 + 8 * p))) u.toNat) u R = some (cz (fun p => decide (0 ≤ R 1 (74 + 8 * p))) (R 1 2).toNat, R)
  | 0, u, u0, h1, h2 => by omega
  | fu + 1, u, u0, h1, h2 => by
    have bd := cz_bd (f := fun p => decide (0 ≤ R 1 (74 + 8 * p))) (n := u.toNat)
    rw [lpX12_waiters_4, rd_ok (by omega) (by omega)]
    by_cases c : u < R 1 2
    · have ih := waiters_lp l1 l2 fu (u + 1) (by omega) (by omega) (by omega)
      rw [cz_step u0] at ih
      rw [if_pos c, ev_waitsR u0 (by omega), bI_k]
      simp only [jn_ok, nm_ok, ite_bz]
      by_cases d : 0 ≤ R 1 (74 + 8 * u)
      · rw [if_pos (decide_eq_true d)] at ih
        rw [if_pos d, w32_id (by omega) (by omega), w32_id (by omega) (by omega)]
        exact ih
      · rw [if_neg (by simpa using d)] at ih
        rw [if_neg d, w32_id (by omega) (by omega), w32_id (by omega) (by omega)]
        exact ih
    · rw [if_neg c, show (R 1 2).toNat = u.toNat by omega]
theorem ev_waitersR {R : Mem} (l1 : 0 ≤ R 1 2) (l2 : R 1 2 ≤ 20) : rM_waiters R = some (cz (fun p => decide (0 ≤ R 1 (74 + 8 * p))) (R 1 2).toNat, R) := waiters_lp l1 l2 FU 0 (by omega) l1 (by unfold FU; omega)
def awy (s : Int → Int) (p : Int) : Bool := decide (0 ≤ s (73 + 8 * p) ∧ ¬ s (20 + 3 * s (73 + 8 * p)) = s (20 + 3 * s (70 + 8 * p)))
theorem ev_abroad {N : Int} {b : Nat} {M R : Mem} {p : Int} (h : Cty N M b (R 1)) (p0 : 0 ≤ p) (p1 : p < R 1 2) : pCity_isAbroad b p M = some (if awy (R 1) p then 1 else 0, M) := by
  obtain ⟨q1, q2, q3, _, _, _, _, _, _, q4, q5, q6, _⟩ := h.2.2.1.2.2.2.2.2.2.2.2.2.2.2 p p0 p1
  have z20 := h.2.2.1.2.2.1
  have z16 := h.1.2.2.2.2.1
  have hh := h.1.2.2.2.2.2 _ q2 q3
  unfold pCity_isAbroad awy
  rw [rd_ok p0 (by omega), q4]
  by_cases c : 0 ≤ R 1 (73 + 8 * p)
  · have ha := h.1.2.2.2.2.2 _ c q6
    rw [oN_pos c, if_neg (by omega), rd_ok c (by omega), ha.1, ev_sideP p0 (by omega) (by omega) (by omega), bI_k, q1, hh.1]
    by_cases d : R 1 (20 + 3 * R 1 (73 + 8 * p)) = R 1 (20 + 3 * R 1 (70 + 8 * p))
    · rw [if_pos d, if_neg (by simp [d])]
    · rw [if_neg d, if_pos (decide_eq_true ⟨c, d⟩)]
  · rw [oN_neg (by omega), if_pos rfl, if_neg (by simp only [decide_eq_true_eq]; omega)]
theorem visitors_lp {N : Int} {b : Nat} {M R : Mem} (h : Cty N M b (R 1)) : ∀ (fu : Nat) (u : Int), 0 ≤ u → u ≤ R 1 2 → (R 1 2 - u).toNat < fu → lpX0_visitors_4 b fu (cz (awy (R 1)) u.toNat) u M = some (cz (awy (R 1)) (R 1 2).toNat, M)
  | 0, u, u0, h1, h2 => by omega
  | fu + 1, u, u0, h1, h2 => by
    have bd := cz_bd (f := awy (R 1)) (n := u.toNat)
    have z20 := h.2.2.1.2.2.1
    have zn := h.2.2.1.1
    rw [lpX0_visitors_4]
    by_cases c : u < R 1 2
    · have ih := visitors_lp h fu (u + 1) (by omega) (by omega) (by omega)
      rw [cz_step u0] at ih
      rw [zn, if_pos c, ev_abroad h u0 c, bI_k]
      simp only [jn_ok, nm_ok, ite_bz]
      by_cases d : awy (R 1) u = true
      · rw [if_pos d] at ih
        rw [if_pos d, w32_id (by omega) (by omega), w32_id (by omega) (by omega)]
        exact ih
      · rw [if_neg d, Int.add_zero] at ih
        rw [if_neg d, w32_id (by omega) (by omega)]
        exact ih
    · rw [zn, if_neg c, show (R 1 2).toNat = u.toNat by omega]
theorem away_lp {N : Int} {b : Nat} {M R : Mem} (h : Cty N M b (R 1)) : ∀ (fu : Nat) (u : Int), 0 ≤ u → u ≤ R 1 2 → (R 1 2 - u).toNat < fu → lpX12_away_4 fu (cz (awy (R 1)) u.toNat) u R = some (cz (awy (R 1)) (R 1 2).toNat, R)
  | 0, u, u0, h1, h2 => by omega
  | fu + 1, u, u0, h1, h2 => by
    have bd := cz_bd (f := awy (R 1)) (n := u.toNat)
    have z20 := h.2.2.1.2.2.1
    have z16 := h.1.2.2.2.2.1
    rw [lpX12_away_4, rd_ok (by omega) (by omega)]
    by_cases c : u < R 1 2
    · obtain ⟨q1, q2, q3, _, _, _, _, _, _, q4, q5, q6, _⟩ := h.2.2.1.2.2.2.2.2.2.2.2.2.2.2 u u0 c
      have ih := away_lp h fu (u + 1) (by omega) (by omega) (by omega)
      rw [cz_step u0] at ih
      rw [if_pos c, ev_personAt (by omega) (by omega), bI_k]
      simp only [jn_ok, nm_ok]
      rw [w32_id (z := 70 + 8 * u + 3) (by omega) (by omega), rd_ok (by omega) (by omega), show 70 + 8 * u + 3 = 73 + 8 * u by omega]
      by_cases d : 0 ≤ R 1 (73 + 8 * u)
      · rw [if_neg (by omega), ev_personAt (by omega) (by omega), bI_k, w32_id (z := 70 + 8 * u + 3) (by omega) (by omega), rd_ok (x := 70 + 8 * u + 3) (by omega) (by omega), show 70 + 8 * u + 3 = 73 + 8 * u by omega, ev_sideR d (by omega), bI_k, ev_ownR u0 (by omega) q2 (by omega), bI_k]
        by_cases dd : R 1 (20 + 3 * R 1 (73 + 8 * u)) = R 1 (20 + 3 * R 1 (70 + 8 * u))
        · rw [if_neg (by unfold awy; simp [dd])] at ih
          rw [if_pos dd, w32_id (by omega) (by omega), w32_id (by omega) (by omega)]
          exact ih
        · rw [if_pos (show awy (R 1) u = true from decide_eq_true ⟨d, dd⟩)] at ih
          rw [if_neg dd, w32_id (by omega) (by omega), w32_id (by omega) (by omega)]
          exact ih
      · rw [if_neg (by unfold awy; simp only [decide_eq_true_eq]; omega)] at ih
        rw [if_pos (by omega), w32_id (by omega) (by omega), w32_id (by omega) (by omega)]
        exact ih
    · rw [if_neg c, show (R 1 2).toNat = u.toNat by omega]
theorem dead_lp {R : Mem} (l1 : 0 ≤ R 1 2) (l2 : R 1 2 ≤ 20) (hv : ∀ p, 0 ≤ p → p < R 1 2 → R 1 (77 + 8 * p) = 0 ∨ R 1 (77 + 8 * p) = 1) : ∀ (fu : Nat) (u : Int), 0 ≤ u → u ≤ R 1 2 → (R 1 2 - u).toNat < fu → lpX12_count_92 fu (cz (fun p => decide (R 1 (77 + 8 * p) = 1)) u.toNat) u R = some (cz (fun p => decide (R 1 (77 + 8 * p) = 1)) (R 1 2).toNat, R)
  | 0, u, u0, h1, h2 => by omega
  | fu + 1, u, u0, h1, h2 => by
    have bd := cz_bd (f := fun p => decide (R 1 (77 + 8 * p) = 1)) (n := u.toNat)
    rw [lpX12_count_92, rd_ok (by omega) (by omega)]
    by_cases c : u < R 1 2
    · have ih := dead_lp l1 l2 hv fu (u + 1) (by omega) (by omega) (by omega)
      rw [cz_step u0] at ih
      rw [if_pos c, ev_deadR u0 (by omega) (hv u u0 c), bI_k]
      simp only [jn_ok, nm_ok]
      by_cases d : R 1 (77 + 8 * u) = 1
      · rw [if_pos (decide_eq_true d)] at ih
        rw [if_neg (by omega), w32_id (by omega) (by omega), w32_id (by omega) (by omega)]
        exact ih
      · rw [if_neg (by simpa using d)] at ih
        have := hv u u0 c
        rw [if_pos (by omega), w32_id (by omega) (by omega), w32_id (by omega) (by omega)]
        exact ih
    · rw [if_neg c, show (R 1 2).toNat = u.toNat by omega]
theorem openp_lp {N : Int} {P R : Mem} (h : Sim N P R) : ∀ (fu : Nat) (u w : Int), 0 ≤ u → u ≤ R 1 3 → (R 1 3 - u).toNat < fu → 0 ≤ w → w ≤ u → ∃ v, lpX9_openPasses_4 100 fu w u P = some (v, P) ∧ lpX12_count_140 fu w u R = some (v, R)
  | 0, u, w, u0, h1, h2, _, _ => by omega
  | fu + 1, u, w, u0, h1, h2, w0, w1 => by
    obtain ⟨t1, t2, t3⟩ := h.t0
    rw [lpX9_openPasses_4, lpX12_count_140, rd_ok (x := 3) (by omega) (by omega), show P (100 + 15) 0 = R 1 3 from t1]
    by_cases c : u < R 1 3
    · obtain ⟨q1, _, _, _, _, _, _, _, q2, _⟩ := h.tie u0 c
      have ih := fun w => openp_lp h fu (u + 1) w (by omega) (by omega) (by omega)
      rw [if_pos c, if_pos c, rd_ok u0 (by omega), ev_tieAt (by omega) (by omega), bI_k, show P (100 + 16) u = R 1 (230 + 10 * u) from q1]
      simp only [jn_ok, nm_ok]
      rw [rd_ok (x := 230 + 10 * u) (by omega) (by omega), w32_id (z := u + 1) (by omega) (by omega)]
      by_cases d : R 1 (230 + 10 * u) = 6
      · rw [if_pos d, if_pos d, rd_ok u0 (by omega), show P (100 + 22) u = R 1 (236 + 10 * u) from q2, ev_tieAt (by omega) (by omega), bI_k, w32_id (z := 230 + 10 * u + 6) (by omega) (by omega), rd_ok (x := 230 + 10 * u + 6) (by omega) (by omega), show 230 + 10 * u + 6 = 236 + 10 * u by omega]
        by_cases dd : R 1 (236 + 10 * u) = 0
        · rw [if_pos dd, if_pos dd, w32_id (z := w + 1) (by omega) (by omega)]
          exact ih _ (by omega) (by omega)
        · rw [if_neg dd, if_neg dd, w32_id (z := w + 0) (by omega) (by omega), Int.add_zero]
          exact ih _ (by omega) (by omega)
      · rw [if_neg d, if_neg d, w32_id (z := w + 0) (by omega) (by omega), Int.add_zero]
        exact ih _ (by omega) (by omega)
    · rw [if_neg c, if_neg c]
      exact ⟨w, rfl, rfl⟩
theorem s_count {N N2 : Int} {P R : Mem} (h : Sim N P R) (hN : N ≤ N2) {x : Int} : O2 (Qa (Sim N2)) (pTop_count x P) (rM_count x R) := by
  have hu := h.up hN
  obtain ⟨c1, c2, c3, c4, c5, c6⟩ := h.c0
  obtain ⟨p1, p2, p3, p4, p5, p6, p7, p8, p9, p10, p11⟩ := h.p0
  obtain ⟨r1, r2, r3, r4, r5, r6, r7, r8, r9, _⟩ := h.2.2.2.1
  unfold pTop_count rM_count
  by_cases v : x = 0
  · rw [if_pos v, if_pos v, rd_ok (by omega) (by omega)]
    exact o2_r c4 hu
  rw [if_neg v, if_neg v]
  by_cases v : x = 1
  · rw [if_pos v, if_pos v, rd_ok (by omega) (by omega)]
    exact o2_r p1 hu
  rw [if_neg v, if_neg v]
  by_cases v : x = 2
  · rw [if_pos v, if_pos v]
    have d0 : 2 ^ (R 1 2).toNat ≤ 2 ^ 20 := Nat.pow_le_pow_right (by omega) (by omega)
    have d2 : ((2 ^ (R 1 2).toNat : Nat) : Int) = (2 : Int) ^ (R 1 2).toNat := by simp
    have d1 : (2 : Int) ^ (R 1 2).toNat ≤ 1048576 := by omega
    have hb := dead_lp p2 p3 (fun p p0 p1 => by have := (h.prs p0 p1).2.2.2.2.2.2.2.2.2.2.2.2.2.2.2.2.2.2; omega) FU 0 (by omega) p2 (by unfold FU; omega)
    rw [show P (100 + 6) 9 = P 106 9 from rfl, ev_bitC p4 (by omega), bI_k]
    refine ⟨_, _, rfl, hb, ?_, hu⟩
    show cz (tb (P 106 9)) 24 = _
    have hi := cz_hi (n := (R 1 2).toNat) p4 p5 (24 - (R 1 2).toNat)
    rw [show (R 1 2).toNat + (24 - (R 1 2).toNat) = 24 by omega] at hi
    rw [hi]
    refine cz_cg fun i i0 i1 => ?_
    have q := (h.prs i0 (by omega)).2.2.2.2.2.2.2.2.2.2.2.2.2.2.2.2.2.1
    rw [bit_tb p4 (by omega) i0 (by omega)] at q
    rw [← q]
    by_cases t : tb (P 106 9) i = true
    · rw [t]; rfl
    · rw [if_neg t, Bool.not_eq_true] at *
      rw [t]; rfl
  rw [if_neg v, if_neg v]
  by_cases v : x = 3
  · rw [if_pos v, if_pos v, ev_waitersR p2 p3, bI_k]
    exact o2_r (lined_w h.1.2.2.2.1).symm hu
  rw [if_neg v, if_neg v]
  by_cases v : x = 4
  · rw [if_pos v, if_pos v, rd_ok (by omega) (by omega)]
    exact o2_r h.t0.1 hu
  rw [if_neg v, if_neg v]
  by_cases v : x = 5
  · rw [if_pos v, if_pos v]
    obtain ⟨w, a1, a2⟩ := openp_lp h FU 0 0 (by omega) h.t0.2.1 (by have := h.t0; unfold FU; omega) (by omega) (by omega)
    unfold pTies_openPasses
    rw [a1, a2, bI_k]
    exact o2_r rfl hu
  rw [if_neg v, if_neg v]
  by_cases v : x = 6
  · rw [if_pos v, if_pos v, rd_ok (by omega) (by omega)]
    exact o2_r h.x0.1 hu
  rw [if_neg v, if_neg v]
  by_cases v : x = 7
  · rw [if_pos v, if_pos v, rd_ok (by omega) (by omega)]
    exact o2_r h.e0.1 hu
  rw [if_neg v, if_neg v]
  by_cases v : x = 8
  · rw [if_pos v, if_pos v, rd_ok (by omega) (by omega)]
    exact o2_r h.a0.1 hu
  rw [if_neg v, if_neg v]
  by_cases v : x = 9
  · rw [if_pos v, if_pos v, rd_ok (by omega) (by omega)]
    exact o2_r h.k0.1 hu
  rw [if_neg v, if_neg v]
  by_cases v : x = 10
  · rw [if_pos v, if_pos v]
    exact o2_r r7 hu
  rw [if_neg v, if_neg v]
  by_cases v : x = 11
  · rw [if_pos v, if_pos v]
    exact o2_r r3 hu
  rw [if_neg v, if_neg v]
  by_cases v : x = 12
  · rw [if_pos v, if_pos v, rd_ok (by omega) (by omega)]
    exact o2_r c1 hu
  rw [if_neg v, if_neg v]
  by_cases v : x = 13
  · rw [if_pos v, if_pos v, rd_ok (by omega) (by omega), v, w32_id (z := 8 + 13) (by omega) (by omega), w32_id (by omega) (by omega), rd_ok (by omega) (by omega)]
    exact o2_r (h.fn (k := 0) (by omega) (by omega)).1 hu
  rw [if_neg v, if_neg v]
  by_cases v : x = 14
  · rw [if_pos v, if_pos v, rd_ok (by omega) (by omega), v, w32_id (z := 8 + 14) (by omega) (by omega), w32_id (by omega) (by omega), rd_ok (by omega) (by omega)]
    exact o2_r (h.fn (k := 1) (by omega) (by omega)).1 hu
  rw [if_neg v, if_neg v]
  exact o2_r rfl hu
