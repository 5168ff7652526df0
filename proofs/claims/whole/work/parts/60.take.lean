/-! A pass is closed; call: take. -/
theorem Cty.setT {N N2 : Int} {M M2 : Mem} {b : Nat} {s s2 : Int → Int} (h : Cty N M b s) (hN : N ≤ N2) (hMo : ∀ a i, ¬ (b + 16 ≤ a ∧ a ≤ b + 25) → M2 a i = M a i) (hso : ∀ i, ¬ (230 ≤ i ∧ i < 630) → s2 i = s i) (hk : ∀ i, 0 ≤ i → i < s 3 → s2 (230 + 10 * i) = s (230 + 10 * i) ∧ s2 (231 + 10 * i) = s (231 + 10 * i)) (gt : gT (s 1) (s 2) M2 b s2) : Cty N2 M2 b s2 := by
  obtain ⟨h1, h2, h3, h4, h5, h6, h7, h8, h9, h10, h11, h12, h13⟩ := h
  have e1 : s2 1 = s 1 := hso _ (by omega)
  have e2 : s2 2 = s 2 := hso _ (by omega)
  have e3 : s2 3 = s 3 := hso _ (by omega)
  have b2' := h3.2.2.1
  have b3' := h6.2.2.1
  have b4' := h10.2.2.1
  refine ⟨h1.cg (fun k k0 k1 i i0 i1 => hMo _ _ (by omega)) (fun j j0 j1 => hso _ (by omega)) (fun j j0 j1 => hso _ (by omega)), h2.cg (fun k k0 k1 i i0 i1 => hMo _ _ (by omega)) (fun j j0 j1 => hso _ (by omega)), h3.cg (by omega) (fun k k0 k1 i i0 i1 => hMo _ _ (by omega)) (fun j j0 j1 => hso _ (by omega)) (fun j j0 j1 => hso _ (by omega)) (fun j j0 j1 => hso _ (by omega)), h4.cg hN b2' (fun k k0 k1 i i0 i1 => hMo _ _ (by omega)) (fun k k0 k1 i i0 i1 => hMo _ _ (by omega)) (fun j j0 j1 => hso _ (by omega)) (fun j j0 j1 => hso _ (by omega)) (fun i i0 i1 => ⟨hso _ (by omega), hso _ (by omega)⟩), h5.cg b2' b3' (by omega) (fun j j0 j1 => hso _ (by omega)) (fun i i0 i1 => hso _ (by omega)) hk, by rw [e1, e2]; exact gt, h7.cg (by omega) b3' (fun k k0 k1 i i0 i1 => hMo _ _ (by omega)) (fun j j0 j1 => hso _ (by omega)) (fun j j0 j1 => hso _ (by omega)), h8.cg (hMo _ _ (by omega)) (fun k k0 k1 i i0 i1 => hMo _ _ (by omega)) (fun j j0 j1 => hso _ (by omega)) (fun j j0 j1 => hso _ (by omega)), h9.cg (hMo _ _ (by omega)) (fun k k0 k1 i i0 i1 => hMo _ _ (by omega)) (fun j j0 j1 => hso _ (by omega)) (fun j j0 j1 => hso _ (by omega)), h10.cg (fun k k0 k1 i i0 i1 => hMo _ _ (by omega)) (fun j j0 j1 => hso _ (by omega)) (fun j j0 j1 => hso _ (by omega)), h11.cg (fun k k0 k1 i i0 i1 => hMo _ _ (by omega)) (fun j j0 j1 => hso _ (by omega)) (fun j j0 j1 => hso _ (by omega)), h12.cg (fun k k0 k1 i i0 i1 => hMo _ _ (by omega)) (fun j j0 j1 => hso _ (by omega)), h13.cg (fun k k0 k1 i i0 i1 => hMo _ _ (by omega)) (fun j j0 j1 => hso _ (by omega)) (fun j j0 j1 => hso _ (by omega))⟩
theorem state_c {N : Int} {M R : Mem} {b : Nat} {t st : Int} (h : Cty N M b (R 1)) (t0 : 0 ≤ t) (t1 : t < R 1 3) : Cty N (upM M (b + 22) t st) b (upM R 1 (236 + 10 * t) st 1) := by
  obtain ⟨u1, u2, u3, hh⟩ := h.2.2.2.2.2.1
  refine h.setT (Int.le_refl _) (fun a i ha => upM_ne (by omega)) (fun i hi => upM_ne (by omega)) (fun i i0 i1 => ⟨upM_ne (by omega), upM_ne (by omega)⟩) ⟨by simp (disch := omega) only [up_eq, up_nk, zr_nk, up_ni, zr_no, zr_in, true_and, and_true, Nat.reduceAdd]; exact u1, by simp (disch := omega) only [up_eq, up_nk, zr_nk, up_ni, zr_no, zr_in, true_and, and_true, Nat.reduceAdd]; exact u2, by simp (disch := omega) only [up_eq, up_nk, zr_nk, up_ni, zr_no, zr_in, true_and, and_true, Nat.reduceAdd]; exact u3, fun i i0 i1 => ?_⟩
  simp (disch := omega) only [up_nk, zr_nk, up_ni, zr_no, zr_in] at i1
  have q := hh i i0 i1
  by_cases e : i = t
  · subst e
    simp (disch := omega) only [up_eq, up_nk, zr_nk, up_ni, zr_no, zr_in, true_and, and_true, Nat.reduceAdd]
    obtain ⟨d1, d2, d3, d4, d5, d6, d7, d8, d9, d10⟩ := q
    exact ⟨d1, d2, d3, d4, d5, d6, d7, d8, d10⟩
  · simp (disch := omega) only [up_eq, up_nk, zr_nk, up_ni, zr_no, zr_in, true_and, and_true, Nat.reduceAdd]
    exact q
/-- who waits with pass t is its person alone, and goes home -/
theorem sendHome_o {N : Int} {M R : Mem} {b : Nat} {t : Int} (h : Cty N M b (R 1)) (t0 : 0 ≤ t) (t1 : t < R 1 3) (tk : R 1 (230 + 10 * t) = 6) : O2 (fun q R2 => q = M ∧ R2 = R ∨ HomeQ N b (R 1 (231 + 10 * t)) M R q R2) (rdA (M (b + 12)) 20 (R 1 (231 + 10 * t)) fun v3 => if v3 = t then (bnV (pPersons_goHome b (R 1 (231 + 10 * t)) M) fun M4 => some M4) else some M) (rM_sendHome t R) := by
  obtain ⟨hC, hR5, hP, hL, hW, hT, hS, hE, hA, hX, hF, hG, hK⟩ := id h
  obtain ⟨x1, x2, x3, x4, x5, x6, x7, x8, x9, x10, x11, hh⟩ := hP
  obtain ⟨u1, u2, u3, ht⟩ := hT
  obtain ⟨d1, d2, d3, d4, d5, d6, d7, d8, d9, d10, d11, d12, d13, d14, d15, d16, d17, d18, d19⟩ := ht t t0 t1
  have hp := d18 (by omega)
  obtain ⟨g1, g2, g3, g4, g5, g6, g7, g8, g9, g10, g11, g12, g13, g14, g15, g16, g17, g18, g19, g20, g21, g22, g23⟩ := hh (R 1 (231 + 10 * t)) d14 hp.1
  have oth : ∀ u, 0 ≤ u → u < R 1 2 → ¬ u = R 1 (231 + 10 * t) → 0 ≤ R 1 (74 + 8 * u) → ¬ R 1 (75 + 8 * u) = t := by
    intro u a b c d e
    have q := hW u a b (by omega)
    rw [e] at q
    exact c q.2.2.symm
  unfold rM_sendHome
  by_cases z : R 1 (75 + 8 * R 1 (231 + 10 * t)) = t
  · rw [z, oN_pos t0] at g15
    have hw : 0 ≤ R 1 (74 + 8 * R 1 (231 + 10 * t)) := by omega
    have hal : R 1 (77 + 8 * R 1 (231 + 10 * t)) = 0 := by
      rcases (show R 1 (77 + 8 * R 1 (231 + 10 * t)) = 0 ∨ R 1 (77 + 8 * R 1 (231 + 10 * t)) = 1 by omega) with e | e
      · exact e
      · have := (g21 e).2
        omega
    obtain ⟨q, R2, e1, e2, hq⟩ := goHome_o h d14 hp.1 hal
    rw [sh_one x2 x3 d14 hp.1 hw z oth e2 hq.2.2.1 FU 0 (by omega) d14 (by unfold FU; omega), rd_ok d14 (by omega), if_pos g15, e1]
    exact o2_ret (.inr hq)
  · have gz : ¬ M (b + 12) (R 1 (231 + 10 * t)) = t := by
      rw [g15]
      unfold oN
      split <;> omega
    rw [sh_none x2 x3 FU 0 (by omega) x2 (by unfold FU; omega) (fun u a b c => by
      by_cases e : u = R 1 (231 + 10 * t)
      · rw [e]; exact z
      · exact oth u a b e c), rd_ok d14 (by omega), if_neg gz]
    exact o2_ret (.inl ⟨rfl, rfl⟩)
