/-! Persons changed; call: die. -/
theorem Cty.setP {N N2 : Int} {M M2 : Mem} {b : Nat} {s s2 : Int → Int} (h : Cty N M b s) (hMo : ∀ a i, ¬ (a = b + 6 ∨ (b + 10 ≤ a ∧ a ≤ b + 14)) → M2 a i = M a i) (hso : ∀ i, ¬ (i = 10 ∨ i = 15 ∨ i = 16 ∨ (70 ≤ i ∧ i < 230)) → s2 i = s i) (gp : gPe (s 1) M2 b s2) (gl : gL N2 M2 b s2) (gw : gW s2) : Cty N2 M2 b s2 := by
  obtain ⟨h1, h2, h3, h4, h5, h6, h7, h8, h9, h10, h11, h12, h13⟩ := h
  have e1 : s2 1 = s 1 := hso _ (by omega)
  have e2 : s2 2 = s 2 := hso _ (by omega)
  have b2' := h3.2.2.1
  have b3' := h6.2.2.1
  have b4' := h10.2.2.1
  refine ⟨h1.cg (fun k k0 k1 i i0 i1 => hMo _ _ (by omega)) (fun j j0 j1 => hso _ (by omega)) (fun j j0 j1 => hso _ (by omega)), h2.cg (fun k k0 k1 i i0 i1 => hMo _ _ (by omega)) (fun j j0 j1 => hso _ (by omega)), by rw [e1]; exact gp, gl, gw, h6.cg (by omega) (by omega) (fun k k0 k1 i i0 i1 => hMo _ _ (by omega)) (fun j j0 j1 => hso _ (by omega)) (fun j j0 j1 => hso _ (by omega)), h7.cg (by omega) b3' (fun k k0 k1 i i0 i1 => hMo _ _ (by omega)) (fun j j0 j1 => hso _ (by omega)) (fun j j0 j1 => hso _ (by omega)), h8.cg (hMo _ _ (by omega)) (fun k k0 k1 i i0 i1 => hMo _ _ (by omega)) (fun j j0 j1 => hso _ (by omega)) (fun j j0 j1 => hso _ (by omega)), h9.cg (hMo _ _ (by omega)) (fun k k0 k1 i i0 i1 => hMo _ _ (by omega)) (fun j j0 j1 => hso _ (by omega)) (fun j j0 j1 => hso _ (by omega)), h10.cg (fun k k0 k1 i i0 i1 => hMo _ _ (by omega)) (fun j j0 j1 => hso _ (by omega)) (fun j j0 j1 => hso _ (by omega)), h11.cg (fun k k0 k1 i i0 i1 => hMo _ _ (by omega)) (fun j j0 j1 => hso _ (by omega)) (fun j j0 j1 => hso _ (by omega)), h12.cg (fun k k0 k1 i i0 i1 => hMo _ _ (by omega)) (fun j j0 j1 => hso _ (by omega)), h13.cg (fun k k0 k1 i i0 i1 => hMo _ _ (by omega)) (fun j j0 j1 => hso _ (by omega)) (fun j j0 j1 => hso _ (by omega))⟩
/-- a person's place, waiting, pass and death set; known news grown -/
theorem gPe.one {nc : Int} {M M2 : Mem} {b : Nat} {s s2 : Int → Int} {p at' wt wi dd : Int} (h : gPe nc M b s) (p0 : 0 ≤ p) (p1 : p < s 2) (e2 : s2 2 = s 2) (m60 : M2 (b + 6) 0 = M (b + 6) 0)
    (d0 : 0 ≤ M2 (b + 6) 9) (d1 : M2 (b + 6) 9 < 2 ^ (s 2).toNat) (k0 : M2 (b + 14) 0 = s2 15) (k1 : M2 (b + 14) 1 = s2 16) (k2 : 0 ≤ s2 15) (k3 : s2 15 < 1048576) (k4 : 0 ≤ s2 16) (k5 : s2 16 < 1048576)
    (db : ∀ i, 0 ≤ i → i < s 2 → ¬ i = p → bAnd (bShr (M2 (b + 6) 9) i) 1 = bAnd (bShr (M (b + 6) 9) i) 1) (dp : bAnd (bShr (M2 (b + 6) 9) p) 1 = dd)
    (r7 : ∀ i, M2 (b + 7) i = M (b + 7) i) (r8 : ∀ i, M2 (b + 8) i = M (b + 8) i) (r9 : ∀ i, M2 (b + 9) i = M (b + 9) i) (r10 : ∀ i, ¬ i = p → M2 (b + 10) i = M (b + 10) i) (r11 : ∀ i, ¬ i = p → M2 (b + 11) i = M (b + 11) i) (r12 : ∀ i, ¬ i = p → M2 (b + 12) i = M (b + 12) i)
    (q10 : M2 (b + 10) p = oN at') (q11 : M2 (b + 11) p = oN wt) (q12 : M2 (b + 12) p = oN wi) (x3 : s2 (73 + 8 * p) = at') (x4 : s2 (74 + 8 * p) = wt) (x5 : s2 (75 + 8 * p) = wi) (x7 : s2 (77 + 8 * p) = dd) (xo : ∀ i, 70 ≤ i → i < 230 → ¬ (i = 73 + 8 * p ∨ i = 74 + 8 * p ∨ i = 75 + 8 * p ∨ i = 76 + 8 * p ∨ i = 77 + 8 * p) → s2 i = s i)
    (v1 : -1 ≤ at') (v2 : at' < nc) (v3 : -1 ≤ wt) (v4 : -1 ≤ wi) (v5 : 0 ≤ wt ↔ 0 ≤ wi) (v6 : 0 ≤ dd) (v7 : dd ≤ 1) (v8 : dd = 1 → at' = -1 ∧ wt = -1) (v9 : 0 ≤ at' → wt = -1) (v10 : dd = 0 → at' = -1 → 0 ≤ wt) : gPe nc M2 b s2 := by
  obtain ⟨a1, a2, a3, a4, a5, a6, a7, a8, a9, a10, a11, hh⟩ := h
  refine ⟨by rw [m60, e2]; exact a1, by omega, by omega, d0, by rw [e2]; exact d1, k0, k1, k2, k3, k4, k5, fun i i0 i1 => ?_⟩
  rw [e2] at i1
  obtain ⟨g1, g2, g3, g4, g5, g6, g7, g8, g9, g10, g11, g12, g13, g14, g15, g16, g17, g18, g19, g20, g21, g22, g23⟩ := hh i i0 i1
  have t0 : s2 (70 + 8 * i) = s (70 + 8 * i) := xo _ (by omega) (by omega) (by omega)
  have t1 : s2 (71 + 8 * i) = s (71 + 8 * i) := xo _ (by omega) (by omega) (by omega)
  have t2 : s2 (72 + 8 * i) = s (72 + 8 * i) := xo _ (by omega) (by omega) (by omega)
  rw [r7, r8, r9, t0, t1, t2]
  by_cases e : i = p
  · subst e
    rw [q10, q11, q12, x3, x4, x5, x7, dp]
    exact ⟨g1, g2, g3, g4, g5, g6, g7, g8, g9, rfl, v1, v2, rfl, v3, rfl, v4, v5, rfl, v6, v7, v8, v9, v10⟩
  · have t3 : s2 (73 + 8 * i) = s (73 + 8 * i) := xo _ (by omega) (by omega) (by omega)
    have t4 : s2 (74 + 8 * i) = s (74 + 8 * i) := xo _ (by omega) (by omega) (by omega)
    have t5 : s2 (75 + 8 * i) = s (75 + 8 * i) := xo _ (by omega) (by omega) (by omega)
    have t7 : s2 (77 + 8 * i) = s (77 + 8 * i) := xo _ (by omega) (by omega) (by omega)
    rw [r10 i e, r11 i e, r12 i e, db i i0 i1 e, t3, t4, t5, t7]
    exact ⟨g1, g2, g3, g4, g5, g6, g7, g8, g9, g10, g11, g12, g13, g14, g15, g16, g17, g18, g19, g20, g21, g22, g23⟩
/-- the line without p -/
theorem gL.out {N N2 : Int} {M M2 : Mem} {b : Nat} {s s2 : Int → Int} {p w : Int} (h20 : s 2 ≤ 20) (l3 : 0 ≤ s 10) (l4 : s 10 ≤ N) (hN : N ≤ N2) (e2 : s2 2 = s 2) (e10 : s2 10 = s 10) (xw : s2 (74 + 8 * p) = -1) (xo : ∀ i, 0 ≤ i → i < 20 → ¬ i = p → s2 (74 + 8 * i) = s (74 + 8 * i)) (xc : ∀ i, 0 ≤ i → i < 20 → s2 (76 + 8 * i) = s (76 + 8 * i)) (w1 : M2 (b + 6) 8 = w) (w2 : 0 ≤ w) (w3 : w ≤ 20)
    (a1 : ∀ k, 0 ≤ k → k < w → 0 ≤ M2 (b + 13) k ∧ M2 (b + 13) k < s 2 ∧ 0 ≤ s (74 + 8 * M2 (b + 13) k) ∧ s (76 + 8 * M2 (b + 13) k) < s 10 ∧ ¬ M2 (b + 13) k = p) (a2 : ∀ k k', 0 ≤ k → k < k' → k' < w → s (76 + 8 * M2 (b + 13) k) < s (76 + 8 * M2 (b + 13) k')) (a3 : ∀ r, 0 ≤ r → r < s 2 → 0 ≤ s (74 + 8 * r) → ¬ r = p → ∃ k, 0 ≤ k ∧ k < w ∧ M2 (b + 13) k = r) : gL N2 M2 b s2 := by
  unfold gL
  rw [w1, e2, e10]
  refine ⟨w2, w3, l3, by omega, fun k k0 k1 => ?_, fun k k' k0 k1 k2 => ?_, fun r r0 r1 r2 => ?_⟩
  · obtain ⟨q1, q2, q3, q4, q5⟩ := a1 k k0 k1
    rw [xo _ q1 (by omega) q5, xc _ q1 (by omega)]
    exact ⟨q1, q2, q3, q4⟩
  · obtain ⟨q1, q2, q3, q4, q5⟩ := a1 k k0 (by omega)
    obtain ⟨u1, u2, u3, u4, u5⟩ := a1 k' (by omega) k2
    rw [xc _ q1 (by omega), xc _ u1 (by omega)]
    exact a2 k k' k0 k1 k2
  · by_cases e : r = p
    · subst e
      omega
    · rw [xo r r0 (by omega) e] at r2
      exact a3 r r0 r1 r2 e
