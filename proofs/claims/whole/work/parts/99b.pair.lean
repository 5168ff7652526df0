/-! Call: pairing. -/
theorem bOr_z {t : Int} (t0 : 0 ≤ t) (t1 : t < 2147483648) : bOr t 0 = t := by
  rw [bOr_n t0 (by omega) t1 (by omega), show Int.toNat 0 = 0 from rfl, Nat.or_zero]
  omega
theorem pairs_lp {lk : Int → Int → Int} {P1 R1 : Mem} {n m L : Int} (n0 : 0 ≤ n) (n1 : n ≤ 10) (m0 : 0 ≤ m) (m1 : m ≤ 10) (hn : P1 148 0 = n) (hm : P1 148 1 = m) (hL : P1 163 (-1) = L) (hLL : (n + 1) * bShl 1 m ≤ L) (hl : ∀ i k, 0 ≤ i → i < n → 0 ≤ k → k < m → 0 ≤ lk i k ∧ lk i k ≤ 2) (hp : ∀ M, (∀ a j, ¬ (a = 151 ∨ a = 152) → M a j = P1 a j) → ∀ i k, 0 ≤ i → i < n → 0 ≤ k → k < m → pFiles_likeness 100 i k M = some (lk i k, M)) (ha : ∀ M, (∀ a j, ¬ a = 15 → M a j = R1 a j) → ∀ i k, 0 ≤ i → i < n → 0 ≤ k → k < m → rM_alikeOf i k M = some (lk i k, M)) (hP : ∀ i, 0 ≤ i → i ≤ n → ∀ t, 0 ≤ t → t < bShl 1 m → P1 163 (i * bShl 1 m + t) = gN lk n m.toNat (n - i).toNat t) (hR : ∀ i, 0 ≤ i → i ≤ n → ∀ t, 0 ≤ t → t < bShl 1 m → R1 14 (1024 * i + t) = gN lk n m.toNat (n - i).toNat t) {Q : Mem → Int × Mem → Prop} {kk : Mem → Option Mem} (hk : ∀ P2 R2, (∀ a j, ¬ (a = 151 ∨ a = 152) → P2 a j = P1 a j) → (∀ a j, ¬ a = 15 → R2 a j = R1 a j) → 100 * P2 151 2 + P2 151 1 = R1 14 0 → 0 ≤ P2 151 1 → P2 151 1 ≤ 10 → 0 ≤ P2 151 2 → P2 151 2 ≤ 10 → (∀ i, 0 ≤ i → i < n → P2 152 i = R2 15 i) → O2 Q (kk P2) (some (R2 14 0, R2))) : ∀ (fu : Nat) (t u : Int) (P' R' : Mem), 0 ≤ u → u ≤ n → (n - u).toNat < fu → 0 ≤ t → t < bShl 1 m → (∀ a j, ¬ (a = 151 ∨ a = 152) → P' a j = P1 a j) → (∀ a j, ¬ a = 15 → R' a j = R1 a j) → 100 * P' 151 2 + P' 151 1 + gN lk n m.toNat (n - u).toNat t = R1 14 0 → 0 ≤ P' 151 1 → 0 ≤ P' 151 2 → P' 151 1 + P' 151 2 ≤ u → (∀ i, 0 ≤ i → i < u → P' 152 i = R' 15 i) → O2 Q (lpX3_findPairs_24 100 kk fu t u P') (lpX12_findPairs_154 n m fu t u R')
  | 0, t, u, P', R', u0, u1, hf0, t0, t1, f1, f2, f3, f4, f5, f6, f7 => by omega
  | fu + 1, t, u, P', R', u0, u1, hf0, t0, t1, f1, f2, f3, f4, f5, f6, f7 => by
    have sb := shb_bd m0 m1
    have gb := gN_bd (lk := lk) (n := n) m0 m1 hl
    rw [lpX3_findPairs_24, lpX12_findPairs_154]
    simp only [Nat.reduceAdd]
    rw [rd_ok (by omega) (by omega), f1 148 0 (by omega), hn]
    by_cases c : u < n
    · have ih := fun t P2 R2 => pairs_lp (lk := lk) n0 n1 m0 m1 hn hm hL hLL hl hp ha hP hR hk fu t (u + 1) P2 R2 (by omega) (by omega) (by omega)
      have fb := fun t t0 t1 => gb (n - (u + 1)).toNat (by omega) t t0 t1
      have g0 := gb (n - u).toNat (by omega) t t0 t1
      have sP := sel_P (lk := lk) (M := P') (f := gN lk n m.toNat (n - (u + 1)).toNat) (g := gN lk n m.toNat (n - u).toNat t) m0 m1 u0 c n1 t0 t1 (by rw [f1 148 1 (by omega)]; exact hm) (by rw [f1 163 (-1) (by omega)]; exact hL) hLL g0.1 (fun k k0 k1 => hl u k u0 c k0 k1) (fun k k0 k1 => hp P' f1 u k u0 c k0 k1) (fun t t0 t1 => ⟨by rw [f1 163 _ (by omega)]; exact hP (u + 1) (by omega) (by omega) t t0 t1, (fb t t0 t1).1, by have := (fb t t0 t1).2; omega⟩) (by rw [f1 163 _ (by omega)]; exact hP u u0 (by omega) t t0 t1) FU 0 (by omega) m0 (by unfold FU; omega)
      have sR := fun kk => sel_R (lk := lk) (R' := R') (y := n) (kk := kk) (f := gN lk n m.toNat (n - (u + 1)).toNat) (g := gN lk n m.toNat (n - u).toNat t) m1 n1 u0 c t0 t1 (fun k k0 k1 => hl u k u0 c k0 k1) (fun k k0 k1 => ha R' f2 u k u0 c k0 k1) (fun t t0 t1 => ⟨by rw [f2 14 _ (by omega)]; exact hR (u + 1) (by omega) (by omega) t t0 t1, (fb t t0 t1).1, by have := (fb t t0 t1).2; omega⟩) (by rw [f2 14 _ (by omega)]; exact hR u u0 (by omega) t t0 t1) FU 0 (by omega) m0 (by unfold FU; omega)
      obtain ⟨r1, r2, r3, r4⟩ := fs_pr (lk := lk) (i := u) (t := t) (g := gN lk n m.toNat (n - u).toNat t) (f := gN lk n m.toNat (n - (u + 1)).toNat) (m - 0).toNat 0
      have lp : pFiles_leastPartner 100 u t P' = some (if fsel lk u (gN lk n m.toNat (n - (u + 1)).toNat) t (gN lk n m.toNat (n - u).toNat t) (m - 0).toNat 0 < m then fsel lk u (gN lk n m.toNat (n - (u + 1)).toNat) t (gN lk n m.toNat (n - u).toNat t) (m - 0).toNat 0 else -1000000005, P') := by
        unfold pFiles_leastPartner
        simp only [Nat.reduceAdd]
        rw [rd_ok (by omega) (by omega), f1 148 1 (by omega), hm, nm_ok]
        exact sP
      rw [if_pos c, if_pos c, lp, bI_k, sR]
      generalize fsel lk u (gN lk n m.toNat (n - (u + 1)).toNat) t (gN lk n m.toNat (n - u).toNat t) (m - 0).toNat 0 = r at *
      simp only [jn_ok, nm_ok]
      rw [w32_id (z := u + 1) (by omega) (by omega)]
      have gs := gN_s (lk := lk) (m := m) (t := t) u0 c
      by_cases d : r < m
      · have lb := hl u r u0 c r1 d
        have wb := wt_bd lb.1 lb.2
        have pe := r3 (by omega)
        have nz : ¬ (lk u r = 0 ∨ tb t r = true) := fun q => by
          have : pw lk u r t (gN lk n m.toNat (n - (u + 1)).toNat) = -1 := if_pos q
          omega
        have pe2 : pw lk u r t (gN lk n m.toNat (n - (u + 1)).toNat) = wt (lk u r) + gN lk n m.toNat (n - (u + 1)).toNat (bOr t (bShl 1 r)) := if_neg nz
        have sd := set_bd m1 t0 t1 r1 d
        have lz : ¬ lk u r = 0 := fun q => nz (.inl q)
        rw [if_pos d, if_pos d, wr_ok u0 (by omega), wr_ok u0 (by omega), if_neg (show ¬ r = -1000000005 by omega), hp _ (fun a j h => by rw [up_nk (by omega)]; exact f1 a j h) u r u0 c r1 d, bI_k, rd_ok (by omega) (by omega), up_nk (by omega), wr_ok (by omega) (by omega), if_pos d]
        refine ih _ _ _ sd.1 sd.2 (fun a j h => by rw [up_nk (by omega), up_nk (by omega)]; exact f1 a j h) (fun a j h => by rw [up_nk h]; exact f2 a j h) ?_ ?_ ?_ ?_ (fun j j0 j1 => ?_)
        · by_cases x : lk u r = 2
          · have w2 : wt (lk u r) = 100 := if_pos x
            rw [x, up_eq rfl rfl, up_ni (by omega), up_nk (by omega), w32_id (by omega) (by omega)]
            omega
          · have w2 : wt (lk u r) = 1 := by unfold wt; rw [if_neg x]; omega
            rw [show lk u r = 1 by omega, up_eq rfl rfl, up_ni (by omega), up_nk (by omega), w32_id (by omega) (by omega)]
            omega
        · by_cases x : lk u r = 2
          · rw [x, up_ni (by omega), up_nk (by omega)]
            exact f4
          · rw [show lk u r = 1 by omega, up_eq rfl rfl, w32_id (by omega) (by omega)]
            omega
        · by_cases x : lk u r = 2
          · rw [x, up_eq rfl rfl, w32_id (by omega) (by omega)]
            omega
          · rw [show lk u r = 1 by omega, up_ni (by omega), up_nk (by omega)]
            exact f5
        · by_cases x : lk u r = 2
          · rw [x, up_eq rfl rfl, up_ni (by omega), up_nk (by omega), w32_id (by omega) (by omega)]
            omega
          · rw [show lk u r = 1 by omega, up_eq rfl rfl, up_ni (by omega), up_nk (by omega), w32_id (by omega) (by omega)]
            omega
        · rw [up_nk (by omega)]
          by_cases x : j = u
          · rw [up_eq rfl x, up_eq rfl x]
          · rw [up_ni x, up_ni x]
            exact f7 j j0 (by omega)
      · have re : r = m := by omega
        have gf : gN lk n m.toNat (n - u).toNat t = gN lk n m.toNat (n - (u + 1)).toNat t := by
          rcases mx_eq (lk := lk) (i := u) (t := t) (f := gN lk n m.toNat (n - (u + 1)).toNat) m.toNat with q | ⟨k, k0, k1, q⟩
          · rw [gs, q]
          · exact absurd (by rw [gs, q]) (r4 k k0 (by omega))
        rw [if_neg d, if_neg d, wr_ok u0 (by omega), wr_ok u0 (by omega), if_pos rfl, if_neg d, bOr_z t0 (by omega)]
        refine ih t _ _ t0 t1 (fun a j h => by rw [up_nk (by omega)]; exact f1 a j h) (fun a j h => by rw [up_nk h]; exact f2 a j h) ?_ ?_ ?_ ?_ (fun j j0 j1 => ?_)
        · rw [up_nk (by omega), up_nk (by omega)]
          omega
        · rw [up_nk (by omega)]
          exact f4
        · rw [up_nk (by omega)]
          exact f5
        · rw [up_nk (by omega), up_nk (by omega)]
          omega
        · by_cases x : j = u
          · rw [up_eq rfl x, up_eq rfl x]
          · rw [up_ni x, up_ni x]
            exact f7 j j0 (by omega)
    · have ue : n - u = 0 := by omega
      rw [ue] at f3
      have z0 : gN lk n m.toNat (Int.toNat 0) t = 0 := rfl
      rw [if_neg c, if_neg c, rd_ok (by omega) (by omega)]
      exact hk P' R' f1 f2 (by omega) f4 (by omega) f5 (by omega) (fun i i0 i1 => f7 i i0 (by omega))
def lkR (R : Mem) (i k : Int) : Int := match rM_alikeOf i k R with
  | some (v, _) => v
  | none => 0
theorem lkR_ok {P R R' : Mem} (h : gF7 P 100 (R 1)) (hr : ∀ j, R' 1 j = R 1 j) {i k : Int} (i0 : 0 ≤ i) (i1 : i < R 1 8) (k0 : 0 ≤ k) (k1 : k < R 1 9) : (0 ≤ lkR R i k ∧ lkR R i k ≤ 2) ∧ pFiles_likeness 100 i k P = some (lkR R i k, P) ∧ rM_alikeOf i k R' = some (lkR R i k, R') := by
  obtain ⟨v, v0, v1, a1, a2⟩ := alkG h i0 i1 k0 k1
  have he : lkR R i k = v := by unfold lkR; rw [a2]
  have h2 : gF7 P 100 (R' 1) := by
    have : R' 1 = R 1 := funext hr
    rw [this]
    exact h
  obtain ⟨w, w0, w1, b1, b2⟩ := alkG h2 i0 (by rw [hr]; exact i1) k0 (by rw [hr]; exact k1)
  rw [a1] at b1
  have hw : v = w := congrArg Prod.fst (Option.some.inj b1)
  rw [he]
  exact ⟨⟨v0, v1⟩, a1, by rw [b2, hw]⟩
theorem pair_o {M0 R : Mem} (hF : gF7 M0 100 (R 1)) (h5 : M0 147 5 = 0) (h0 : 0 ≤ M0 163 (-1)) : O2 (fun (a : Mem) (b : Int × Mem) => (∀ x j, ¬ (x = 151 ∨ x = 152 ∨ x = 163 ∨ (x = 147 ∧ j = 5)) → a x j = M0 x j) ∧ 0 ≤ a 163 (-1) ∧ a 147 5 = 1 ∧ (∀ x j, ¬ (x = 14 ∨ x = 15) → b.2 x j = R x j) ∧ 100 * a 151 2 + a 151 1 = b.1 ∧ 0 ≤ a 151 1 ∧ a 151 1 ≤ 10 ∧ 0 ≤ a 151 2 ∧ a 151 2 ≤ 10 ∧ ∀ i, 0 ≤ i → i < R 1 8 → a 152 i = b.2 15 i) (pFiles_findPairs 100 M0) (rM_findPairs R) := by
  have c0 := fnG hF (k := 0) (by omega) (by omega)
  have c1 := fnG hF (k := 1) (by omega) (by omega)
  rw [show (8 : Int) + 0 = 8 from rfl] at c0
  rw [show (8 : Int) + 1 = 9 from rfl] at c1
  obtain ⟨n2, n0, n1⟩ := c0
  obtain ⟨m2, m0, m1⟩ := c1
  have sb := shb_bd m0 m1
  have hg : ∀ M : Mem, (∀ a j, ¬ (a = 151 ∨ a = 152 ∨ a = 163) → M a j = M0 a j) → gF7 M 100 (R 1) := fun M hM => hF.cg (fun k k0 k1 i _ _ => hM _ _ (by omega)) (fun _ _ _ => rfl) (fun _ _ _ => rfl)
  have hl : ∀ i k, 0 ≤ i → i < R 1 8 → 0 ≤ k → k < R 1 9 → 0 ≤ lkR R i k ∧ lkR R i k ≤ 2 := fun i k i0 i1 k0 k1 => (lkR_ok hF (fun _ => rfl) i0 i1 k0 k1).1
  have hp : ∀ M : Mem, (∀ a j, ¬ (a = 151 ∨ a = 152 ∨ a = 163) → M a j = M0 a j) → ∀ i k, 0 ≤ i → i < R 1 8 → 0 ≤ k → k < R 1 9 → pFiles_likeness 100 i k M = some (lkR R i k, M) := fun M hM i k i0 i1 k0 k1 => (lkR_ok (hg M hM) (fun _ => rfl) i0 i1 k0 k1).2.1
  have ha : ∀ M : Mem, (∀ a j, ¬ (a = 14 ∨ a = 15) → M a j = R a j) → ∀ i k, 0 ≤ i → i < R 1 8 → 0 ≤ k → k < R 1 9 → rM_alikeOf i k M = some (lkR R i k, M) := fun M hM i k i0 i1 k0 k1 => (lkR_ok hF (fun j => hM 1 j (by omega)) i0 i1 k0 k1).2.2
  unfold pFiles_findPairs rM_findPairs
  simp only [Nat.reduceAdd]
  rw [if_pos h5, rd_ok (by omega) (by omega), rd_ok (by omega) (by omega)]
  refine l_un (weigh_o (lk := lkR R) (n := R 1 8) (m := R 1 9) n0 n1 m0 m1 n2 m2 hl (fun M hM => hp M fun a j h => hM a j (by omega)) h0) fun P1 q1 => ?_
  obtain ⟨L, hLL, g1, g2, g3⟩ := q1
  rw [ev_fill (by omega), bV_ok]
  refine pr_0 (R0 := R) n0 n1 m0 m1 (fun R1 b1 b2 => ?_) FU 0 R (by omega) (by omega) (by unfold FU; omega) (fun _ _ _ => rfl) (fun t t0 t1 => by omega)
  rw [nm_ok, w32_id (by omega) (by omega)]
  refine pr_i (lk := lkR R) (R0 := R) m0 m1 n1 hl (fun M hM => ha M fun a j h => hM a j (by omega)) (fun R2 d1 => ?_) FU (R 1 8 - 1) R1 (by omega) (by omega) (by unfold FU; omega) ⟨b1, fun i il i0 i1 t t0 t1 => ?_⟩
  · obtain ⟨e1, e2⟩ := d1
    have e00 := e2 0 (by omega) (by omega) n0 0 (by omega) (by omega)
    refine pairs_lp (lk := lkR R) (P1 := zr P1 151 0 3 0) (R1 := R2) (L := L) n0 n1 m0 m1 (by rw [zr_nk (by omega), g1 148 0 (by omega)]; exact n2) (by rw [zr_nk (by omega), g1 148 1 (by omega)]; exact m2) (by rw [zr_nk (by omega)]; exact g2) hLL hl (fun M hM => hp M fun a j h => by rw [hM a j (by omega), zr_nk (by omega)]; exact g1 a j (by omega)) (fun M hM => ha M fun a j h => by rw [hM a j (by omega)]; exact e1 a j (by omega)) (fun i i0 i1 t t0 t1 => by rw [zr_nk (by omega)]; exact g3 i (by omega) i0 i1 t t0 t1) (fun i i0 i1 t t0 t1 => e2 i (by omega) i0 i1 t t0 t1) (fun P3 R3 k1 k2 k3 k4 k5 k6 k7 k8 => ?_) FU 0 0 _ R2 (by omega) n0 (by unfold FU; omega) (by omega) (by omega) (fun _ _ _ => rfl) (fun _ _ _ => rfl) (by rw [zr_in rfl (by omega) (by omega), zr_in rfl (by omega) (by omega)]; rw [show 1024 * (0 : Int) + 0 = 0 from rfl] at e00; omega) (by rw [zr_in rfl (by omega) (by omega)]; omega) (by rw [zr_in rfl (by omega) (by omega)]; omega) (by rw [zr_in rfl (by omega) (by omega), zr_in rfl (by omega) (by omega)]; omega) (fun i i0 i1 => by omega)
    rw [wf_ok]
    have b3 : 0 ≤ (R 1 8 + 1) * bShl 1 (R 1 9) := Int.mul_nonneg (by omega) (by omega)
    refine o2_ret ⟨fun x j h => ?_, ?_, up_eq rfl rfl, fun x j h => (k2 x j (by omega)).trans (e1 x j (by omega)), ?_, ?_, ?_, ?_, ?_, fun i i0 i1 => ?_⟩
    · rw [upM_ne (by omega), k1 x j (by omega), zr_nk (by omega)]
      exact g1 x j (by omega)
    · rw [up_nk (by omega), k1 163 (-1) (by omega), zr_nk (by omega), g2]
      omega
    · rw [up_nk (by omega), up_nk (by omega), k2 14 0 (by omega)]
      exact k3
    · rw [up_nk (by omega)]; exact k4
    · rw [up_nk (by omega)]; exact k5
    · rw [up_nk (by omega)]; exact k6
    · rw [up_nk (by omega)]; exact k7
    · rw [up_nk (by omega)]; exact k8 i i0 i1
  · have ie : i = R 1 8 := by omega
    rw [ie, b2 t t0 t1, show (R 1 8 - R 1 8).toNat = 0 by omega]
    rfl
theorem s_pairing {N N2 : Int} {P R : Mem} (h : Sim N P R) (hN : N ≤ N2) {x : Int} : O2 (Qa (Sim N2)) (pTop_pairing x P) (rM_pairing x R) := by
  have c0 := h.fn (k := 0) (by omega) (by omega)
  rw [show (8 : Int) + 0 = 8 from rfl] at c0
  obtain ⟨n2, n0, n1⟩ := c0
  have hF : gF7 P 100 (R 1) := h.1.2.2.2.2.2.2.2.2.2.2.1
  obtain ⟨h0, h5⟩ := h.2.2.2.2
  unfold pTop_pairing rM_pairing
  simp only [Nat.reduceAdd]
  rw [rd_ok (by omega) (by omega), n2, rd_ok (by omega) (by omega), w32_id (z := 1 + R 1 8) (by omega) (by omega), w32_id (z := R 1 8 + 1) (by omega) (by omega), ev_within, bI_k, ev_isIn, bI_k]
  by_cases c : 0 ≤ x ∧ x ≤ 1 + R 1 8
  · refine l_zp c (r_zp (by omega) ?_)
    have key : ∃ (M1 R2 : Mem) (v : Int), pFiles_findPairs 100 P = some M1 ∧ rM_findPairs R = some (v, R2) ∧ Sim N2 M1 R2 ∧ 100 * M1 151 2 + M1 151 1 = v ∧ 0 ≤ M1 151 1 ∧ M1 151 1 ≤ 10 ∧ 0 ≤ M1 151 2 ∧ M1 151 2 ≤ 10 ∧ ∀ i, 0 ≤ i → i < R 1 8 → M1 152 i = R2 15 i := by
      rcases h5 with h5 | ⟨h5, M0, M1, p1, p2, p3, p4, p5, p6⟩
      · obtain ⟨M1, ⟨v, R2⟩, a1, a2, b1, b2, b3, b4, b5, b6, b7, b8, b9, b10⟩ := pair_o hF h5 h0
        dsimp only at b4 b5 b10
        refine ⟨M1, R2, v, a1, a2, ?_, b5, b6, b7, b8, b9, b10⟩
        refine ⟨h.1.cg hN (fun k hk i _ _ => b1 _ _ (by unfold rlv at hk; omega)) (fun j _ _ => b4 1 j (by omega)), by rw [b4 1 0 (by omega)]; exact h.2.1, fun q => ?_, h.2.2.2.1.kp ⟨fun j hj => b1 _ _ (by omega), b1 _ _ (by omega), fun a i ha => b1 _ _ (by omega)⟩ ⟨fun j hj => b4 _ _ (by omega), fun a i ha => b4 _ _ (by omega)⟩, b2, .inr ⟨b3, P, M1, ?_, h5, h0, a1, fun _ _ _ => rfl, fun _ _ _ => rfl⟩⟩
        · rw [b4 0 3 (by omega)] at q
          obtain ⟨q1, q2⟩ := h.2.2.1 q
          exact ⟨q1.cg hN (fun k hk i _ _ => b1 _ _ (by omega)) (fun j _ _ => b4 2 j (by omega)), by rw [b4 2 0 (by omega)]; exact q2⟩
        · exact fun k k0 k1 i _ _ => (b1 _ _ (by omega)).symm
      · have hF0 : gF7 M0 100 (R 1) := hF.cg p1 (fun _ _ _ => rfl) (fun _ _ _ => rfl)
        obtain ⟨M2, ⟨v, R2⟩, a1, a2, b1, b2, b3, b4, b5, b6, b7, b8, b9, b10⟩ := pair_o hF0 p2 p3
        dsimp only at b4 b5 b10
        have he : M2 = M1 := Option.some.inj (a1.symm.trans p4)
        subst he
        refine ⟨P, R2, v, ?_, a2, ?_, ?_⟩
        · unfold pFiles_findPairs
          rw [if_neg (by rw [show P (100 + 47) 5 = 1 from h5]; omega)]
        · refine h.idle hN (fun _ _ _ _ _ => rfl) (fun j _ _ => b4 1 j (by omega)) ⟨fun _ _ => rfl, rfl, fun _ _ _ => rfl⟩ ⟨fun j hj => b4 _ _ (by omega), fun a i ha => b4 _ _ (by omega)⟩ ⟨rfl, rfl, fun _ _ _ _ => rfl⟩
        · rw [p5 1 (by omega) (by omega), p5 2 (by omega) (by omega)]
          exact ⟨b5, b6, b7, b8, b9, fun i i0 i1 => by rw [p6 i i0 (by omega)]; exact b10 i i0 i1⟩
    obtain ⟨M1, R2, v, a1, a2, hs, k1, k2, k3, k4, k5, k6⟩ := key
    rw [a1, bV_ok, a2, bI_k]
    by_cases d : x = 0
    · rw [if_pos (by omega), if_pos d, d, w32_id (z := 2 - 0) (by omega) (by omega), rd_ok (by omega) (by omega), td_nn (by omega), w32_id (by omega) (by omega)]
      exact o2_r (by show M1 151 2 = v / 100; omega) hs
    · by_cases e : x = 1
      · rw [if_pos (by omega), if_neg d, if_pos e, e, w32_id (z := 2 - 1) (by omega) (by omega), rd_ok (by omega) (by omega), tm_nn (by omega), w32_id (by omega) (by omega)]
        exact o2_r (by show M1 151 1 = v % 100; omega) hs
      · rw [if_neg (by omega), if_neg d, if_neg e, w32_id (z := x - 2) (by omega) (by omega), rd_ok (by omega) (by omega), rd_ok (by omega) (by omega)]
        exact o2_r (k6 (x - 2) (by omega) (by omega)) hs
  · refine l_zn c (r_zn (by omega) ?_)
    exact o2_r rfl (h.up hN)
