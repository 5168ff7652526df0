/-! One group of the city now changed, all else kept. -/
theorem Sim.setT {N N2 : Int} {P R : Mem} (h : Sim N P R) (hN : N ≤ N2) {P2 R2 : Mem} (hPo : ∀ a i, ¬ (116 ≤ a ∧ a ≤ 125) → P2 a i = P a i) (hRo : ∀ a i, ¬ (a = 1 ∧ (230 ≤ i ∧ i < 630)) → R2 a i = R a i) (hk : ∀ i, 0 ≤ i → i < R 1 3 → R2 1 (230 + 10 * i) = R 1 (230 + 10 * i) ∧ R2 1 (231 + 10 * i) = R 1 (231 + 10 * i)) (hg : gT (R 1 1) (R 1 2) P2 100 (R2 1)) : Sim N2 P2 R2 := by
  obtain ⟨c1, c2, c3, c4, c5, c6⟩ := h.c0
  obtain ⟨p1, p2, p3, p4, p5, p6, p7, p8, p9, p10, p11⟩ := h.p0
  obtain ⟨t1, t2, t3⟩ := h.t0
  have x3 := h.1.2.2.2.2.2.2.2.2.2.1.2.2.1
  have x2 := h.1.2.2.2.2.2.2.2.2.2.1.2.1
  obtain ⟨hC, hR5, hP, hL, hW, hT, hS, hE, hA, hX, hF, hG, hK⟩ := h.1
  have e0 : R2 1 0 = R 1 0 := hRo _ _ (by omega)
  have e1 : R2 1 1 = R 1 1 := hRo _ _ (by omega)
  have e2 : R2 1 2 = R 1 2 := hRo _ _ (by omega)
  have e3 : R2 1 3 = R 1 3 := hRo _ _ (by omega)
  rw [← e1, ← e2] at hg
  refine h.now hN ⟨hC.cg (fun k k0 k1 i i0 i1 => hPo _ _ (by omega)) (fun j j0 j1 => hRo _ _ (by omega)) (fun j j0 j1 => hRo _ _ (by omega)), hR5.cg (fun k k0 k1 i i0 i1 => hPo _ _ (by omega)) (fun j j0 j1 => hRo _ _ (by omega)), hP.cg (by omega) (fun k k0 k1 i i0 i1 => hPo _ _ (by omega)) (fun j j0 j1 => hRo _ _ (by omega)) (fun j j0 j1 => hRo _ _ (by omega)) (fun j j0 j1 => hRo _ _ (by omega)), hL.cg hN hP.2.2.1 (fun k k0 k1 i i0 i1 => hPo _ _ (by omega)) (fun k k0 k1 i i0 i1 => hPo _ _ (by omega)) (fun j j0 j1 => hRo _ _ (by omega)) (fun j j0 j1 => hRo _ _ (by omega)) (fun i i0 i1 => ⟨hRo _ _ (by omega), hRo _ _ (by omega)⟩), hW.cg hP.2.2.1 hT.2.2.1 (by omega) (fun j j0 j1 => hRo _ _ (by omega)) (fun i i0 i1 => hRo _ _ (by omega)) hk, hg, hS.cg (by omega) hT.2.2.1 (fun k k0 k1 i i0 i1 => hPo _ _ (by omega)) (fun j j0 j1 => hRo _ _ (by omega)) (fun j j0 j1 => hRo _ _ (by omega)), hE.cg (hPo _ _ (by omega)) (fun k k0 k1 i i0 i1 => hPo _ _ (by omega)) (fun j j0 j1 => hRo _ _ (by omega)) (fun j j0 j1 => hRo _ _ (by omega)), hA.cg (hPo _ _ (by omega)) (fun k k0 k1 i i0 i1 => hPo _ _ (by omega)) (fun j j0 j1 => hRo _ _ (by omega)) (fun j j0 j1 => hRo _ _ (by omega)), hX.cg (fun k k0 k1 i i0 i1 => hPo _ _ (by omega)) (fun j j0 j1 => hRo _ _ (by omega)) (fun j j0 j1 => hRo _ _ (by omega)), hF.cg (fun k k0 k1 i i0 i1 => hPo _ _ (by omega)) (fun j j0 j1 => hRo _ _ (by omega)) (fun j j0 j1 => hRo _ _ (by omega)), hG.cg (fun k k0 k1 i i0 i1 => hPo _ _ (by omega)) (fun j j0 j1 => hRo _ _ (by omega)), hK.cg (fun k k0 k1 i i0 i1 => hPo _ _ (by omega)) (fun j j0 j1 => hRo _ _ (by omega)) (fun j j0 j1 => hRo _ _ (by omega))⟩ (by omega) ⟨fun j hj => hPo _ _ (by omega), hPo _ _ (by omega), fun a i ha => hPo _ _ (by omega)⟩ ⟨fun j hj => hRo _ _ (by omega), fun a i ha => hRo _ _ (by omega)⟩ ⟨hPo _ _ (by omega), hPo _ _ (by omega), fun a i u0 u1 => hPo _ _ (by omega)⟩
theorem Sim.setS {N N2 : Int} {P R : Mem} (h : Sim N P R) (hN : N ≤ N2) {P2 R2 : Mem} (hPo : ∀ a i, ¬ (126 ≤ a ∧ a ≤ 128) → P2 a i = P a i) (hRo : ∀ a i, ¬ (a = 1 ∧ (630 ≤ i ∧ i < 1310)) → R2 a i = R a i) (hg : gS (R 1 1) P2 100 (R2 1)) : Sim N2 P2 R2 := by
  obtain ⟨c1, c2, c3, c4, c5, c6⟩ := h.c0
  obtain ⟨p1, p2, p3, p4, p5, p6, p7, p8, p9, p10, p11⟩ := h.p0
  obtain ⟨t1, t2, t3⟩ := h.t0
  have x3 := h.1.2.2.2.2.2.2.2.2.2.1.2.2.1
  have x2 := h.1.2.2.2.2.2.2.2.2.2.1.2.1
  obtain ⟨hC, hR5, hP, hL, hW, hT, hS, hE, hA, hX, hF, hG, hK⟩ := h.1
  have e0 : R2 1 0 = R 1 0 := hRo _ _ (by omega)
  have e1 : R2 1 1 = R 1 1 := hRo _ _ (by omega)
  have e2 : R2 1 2 = R 1 2 := hRo _ _ (by omega)
  have e3 : R2 1 3 = R 1 3 := hRo _ _ (by omega)
  rw [← e1] at hg
  refine h.now hN ⟨hC.cg (fun k k0 k1 i i0 i1 => hPo _ _ (by omega)) (fun j j0 j1 => hRo _ _ (by omega)) (fun j j0 j1 => hRo _ _ (by omega)), hR5.cg (fun k k0 k1 i i0 i1 => hPo _ _ (by omega)) (fun j j0 j1 => hRo _ _ (by omega)), hP.cg (by omega) (fun k k0 k1 i i0 i1 => hPo _ _ (by omega)) (fun j j0 j1 => hRo _ _ (by omega)) (fun j j0 j1 => hRo _ _ (by omega)) (fun j j0 j1 => hRo _ _ (by omega)), hL.cg hN hP.2.2.1 (fun k k0 k1 i i0 i1 => hPo _ _ (by omega)) (fun k k0 k1 i i0 i1 => hPo _ _ (by omega)) (fun j j0 j1 => hRo _ _ (by omega)) (fun j j0 j1 => hRo _ _ (by omega)) (fun i i0 i1 => ⟨hRo _ _ (by omega), hRo _ _ (by omega)⟩), hW.cg hP.2.2.1 hT.2.2.1 (by omega) (fun j j0 j1 => hRo _ _ (by omega)) (fun i i0 i1 => hRo _ _ (by omega)) (fun i i0 i1 => ⟨hRo _ _ (by omega), hRo _ _ (by omega)⟩), hT.cg (by omega) (by omega) (fun k k0 k1 i i0 i1 => hPo _ _ (by omega)) (fun j j0 j1 => hRo _ _ (by omega)) (fun j j0 j1 => hRo _ _ (by omega)), hg, hE.cg (hPo _ _ (by omega)) (fun k k0 k1 i i0 i1 => hPo _ _ (by omega)) (fun j j0 j1 => hRo _ _ (by omega)) (fun j j0 j1 => hRo _ _ (by omega)), hA.cg (hPo _ _ (by omega)) (fun k k0 k1 i i0 i1 => hPo _ _ (by omega)) (fun j j0 j1 => hRo _ _ (by omega)) (fun j j0 j1 => hRo _ _ (by omega)), hX.cg (fun k k0 k1 i i0 i1 => hPo _ _ (by omega)) (fun j j0 j1 => hRo _ _ (by omega)) (fun j j0 j1 => hRo _ _ (by omega)), hF.cg (fun k k0 k1 i i0 i1 => hPo _ _ (by omega)) (fun j j0 j1 => hRo _ _ (by omega)) (fun j j0 j1 => hRo _ _ (by omega)), hG.cg (fun k k0 k1 i i0 i1 => hPo _ _ (by omega)) (fun j j0 j1 => hRo _ _ (by omega)), hK.cg (fun k k0 k1 i i0 i1 => hPo _ _ (by omega)) (fun j j0 j1 => hRo _ _ (by omega)) (fun j j0 j1 => hRo _ _ (by omega))⟩ (by omega) ⟨fun j hj => hPo _ _ (by omega), hPo _ _ (by omega), fun a i ha => hPo _ _ (by omega)⟩ ⟨fun j hj => hRo _ _ (by omega), fun a i ha => hRo _ _ (by omega)⟩ ⟨hPo _ _ (by omega), hPo _ _ (by omega), fun a i u0 u1 => hPo _ _ (by omega)⟩
theorem Sim.setE {N N2 : Int} {P R : Mem} (h : Sim N P R) (hN : N ≤ N2) {P2 R2 : Mem} (hPo : ∀ a i, ¬ ((a = 130 ∧ i = 0) ∨ (131 ≤ a ∧ a ≤ 133)) → P2 a i = P a i) (hRo : ∀ a i, ¬ (a = 1 ∧ (i = 5 ∨ (3710 ≤ i ∧ i < 3770))) → R2 a i = R a i) (hg : gE P2 100 (R2 1)) : Sim N2 P2 R2 := by
  obtain ⟨c1, c2, c3, c4, c5, c6⟩ := h.c0
  obtain ⟨p1, p2, p3, p4, p5, p6, p7, p8, p9, p10, p11⟩ := h.p0
  obtain ⟨t1, t2, t3⟩ := h.t0
  have x3 := h.1.2.2.2.2.2.2.2.2.2.1.2.2.1
  have x2 := h.1.2.2.2.2.2.2.2.2.2.1.2.1
  obtain ⟨hC, hR5, hP, hL, hW, hT, hS, hE, hA, hX, hF, hG, hK⟩ := h.1
  have e0 : R2 1 0 = R 1 0 := hRo _ _ (by omega)
  have e1 : R2 1 1 = R 1 1 := hRo _ _ (by omega)
  have e2 : R2 1 2 = R 1 2 := hRo _ _ (by omega)
  have e3 : R2 1 3 = R 1 3 := hRo _ _ (by omega)
  refine h.now hN ⟨hC.cg (fun k k0 k1 i i0 i1 => hPo _ _ (by omega)) (fun j j0 j1 => hRo _ _ (by omega)) (fun j j0 j1 => hRo _ _ (by omega)), hR5.cg (fun k k0 k1 i i0 i1 => hPo _ _ (by omega)) (fun j j0 j1 => hRo _ _ (by omega)), hP.cg (by omega) (fun k k0 k1 i i0 i1 => hPo _ _ (by omega)) (fun j j0 j1 => hRo _ _ (by omega)) (fun j j0 j1 => hRo _ _ (by omega)) (fun j j0 j1 => hRo _ _ (by omega)), hL.cg hN hP.2.2.1 (fun k k0 k1 i i0 i1 => hPo _ _ (by omega)) (fun k k0 k1 i i0 i1 => hPo _ _ (by omega)) (fun j j0 j1 => hRo _ _ (by omega)) (fun j j0 j1 => hRo _ _ (by omega)) (fun i i0 i1 => ⟨hRo _ _ (by omega), hRo _ _ (by omega)⟩), hW.cg hP.2.2.1 hT.2.2.1 (by omega) (fun j j0 j1 => hRo _ _ (by omega)) (fun i i0 i1 => hRo _ _ (by omega)) (fun i i0 i1 => ⟨hRo _ _ (by omega), hRo _ _ (by omega)⟩), hT.cg (by omega) (by omega) (fun k k0 k1 i i0 i1 => hPo _ _ (by omega)) (fun j j0 j1 => hRo _ _ (by omega)) (fun j j0 j1 => hRo _ _ (by omega)), hS.cg (by omega) hT.2.2.1 (fun k k0 k1 i i0 i1 => hPo _ _ (by omega)) (fun j j0 j1 => hRo _ _ (by omega)) (fun j j0 j1 => hRo _ _ (by omega)), hg, hA.cg (hPo _ _ (by omega)) (fun k k0 k1 i i0 i1 => hPo _ _ (by omega)) (fun j j0 j1 => hRo _ _ (by omega)) (fun j j0 j1 => hRo _ _ (by omega)), hX.cg (fun k k0 k1 i i0 i1 => hPo _ _ (by omega)) (fun j j0 j1 => hRo _ _ (by omega)) (fun j j0 j1 => hRo _ _ (by omega)), hF.cg (fun k k0 k1 i i0 i1 => hPo _ _ (by omega)) (fun j j0 j1 => hRo _ _ (by omega)) (fun j j0 j1 => hRo _ _ (by omega)), hG.cg (fun k k0 k1 i i0 i1 => hPo _ _ (by omega)) (fun j j0 j1 => hRo _ _ (by omega)), hK.cg (fun k k0 k1 i i0 i1 => hPo _ _ (by omega)) (fun j j0 j1 => hRo _ _ (by omega)) (fun j j0 j1 => hRo _ _ (by omega))⟩ (by omega) ⟨fun j hj => hPo _ _ (by omega), hPo _ _ (by omega), fun a i ha => hPo _ _ (by omega)⟩ ⟨fun j hj => hRo _ _ (by omega), fun a i ha => hRo _ _ (by omega)⟩ ⟨hPo _ _ (by omega), hPo _ _ (by omega), fun a i u0 u1 => hPo _ _ (by omega)⟩
theorem Sim.setA {N N2 : Int} {P R : Mem} (h : Sim N P R) (hN : N ≤ N2) {P2 R2 : Mem} (hPo : ∀ a i, ¬ ((a = 130 ∧ i = 4) ∨ (134 ≤ a ∧ a ≤ 136)) → P2 a i = P a i) (hRo : ∀ a i, ¬ (a = 1 ∧ (i = 6 ∨ (3770 ≤ i ∧ i < 3830))) → R2 a i = R a i) (hg : gA6 P2 100 (R2 1)) : Sim N2 P2 R2 := by
  obtain ⟨c1, c2, c3, c4, c5, c6⟩ := h.c0
  obtain ⟨p1, p2, p3, p4, p5, p6, p7, p8, p9, p10, p11⟩ := h.p0
  obtain ⟨t1, t2, t3⟩ := h.t0
  have x3 := h.1.2.2.2.2.2.2.2.2.2.1.2.2.1
  have x2 := h.1.2.2.2.2.2.2.2.2.2.1.2.1
  obtain ⟨hC, hR5, hP, hL, hW, hT, hS, hE, hA, hX, hF, hG, hK⟩ := h.1
  have e0 : R2 1 0 = R 1 0 := hRo _ _ (by omega)
  have e1 : R2 1 1 = R 1 1 := hRo _ _ (by omega)
  have e2 : R2 1 2 = R 1 2 := hRo _ _ (by omega)
  have e3 : R2 1 3 = R 1 3 := hRo _ _ (by omega)
  refine h.now hN ⟨hC.cg (fun k k0 k1 i i0 i1 => hPo _ _ (by omega)) (fun j j0 j1 => hRo _ _ (by omega)) (fun j j0 j1 => hRo _ _ (by omega)), hR5.cg (fun k k0 k1 i i0 i1 => hPo _ _ (by omega)) (fun j j0 j1 => hRo _ _ (by omega)), hP.cg (by omega) (fun k k0 k1 i i0 i1 => hPo _ _ (by omega)) (fun j j0 j1 => hRo _ _ (by omega)) (fun j j0 j1 => hRo _ _ (by omega)) (fun j j0 j1 => hRo _ _ (by omega)), hL.cg hN hP.2.2.1 (fun k k0 k1 i i0 i1 => hPo _ _ (by omega)) (fun k k0 k1 i i0 i1 => hPo _ _ (by omega)) (fun j j0 j1 => hRo _ _ (by omega)) (fun j j0 j1 => hRo _ _ (by omega)) (fun i i0 i1 => ⟨hRo _ _ (by omega), hRo _ _ (by omega)⟩), hW.cg hP.2.2.1 hT.2.2.1 (by omega) (fun j j0 j1 => hRo _ _ (by omega)) (fun i i0 i1 => hRo _ _ (by omega)) (fun i i0 i1 => ⟨hRo _ _ (by omega), hRo _ _ (by omega)⟩), hT.cg (by omega) (by omega) (fun k k0 k1 i i0 i1 => hPo _ _ (by omega)) (fun j j0 j1 => hRo _ _ (by omega)) (fun j j0 j1 => hRo _ _ (by omega)), hS.cg (by omega) hT.2.2.1 (fun k k0 k1 i i0 i1 => hPo _ _ (by omega)) (fun j j0 j1 => hRo _ _ (by omega)) (fun j j0 j1 => hRo _ _ (by omega)), hE.cg (hPo _ _ (by omega)) (fun k k0 k1 i i0 i1 => hPo _ _ (by omega)) (fun j j0 j1 => hRo _ _ (by omega)) (fun j j0 j1 => hRo _ _ (by omega)), hg, hX.cg (fun k k0 k1 i i0 i1 => hPo _ _ (by omega)) (fun j j0 j1 => hRo _ _ (by omega)) (fun j j0 j1 => hRo _ _ (by omega)), hF.cg (fun k k0 k1 i i0 i1 => hPo _ _ (by omega)) (fun j j0 j1 => hRo _ _ (by omega)) (fun j j0 j1 => hRo _ _ (by omega)), hG.cg (fun k k0 k1 i i0 i1 => hPo _ _ (by omega)) (fun j j0 j1 => hRo _ _ (by omega)), hK.cg (fun k k0 k1 i i0 i1 => hPo _ _ (by omega)) (fun j j0 j1 => hRo _ _ (by omega)) (fun j j0 j1 => hRo _ _ (by omega))⟩ (by omega) ⟨fun j hj => hPo _ _ (by omega), hPo _ _ (by omega), fun a i ha => hPo _ _ (by omega)⟩ ⟨fun j hj => hRo _ _ (by omega), fun a i ha => hRo _ _ (by omega)⟩ ⟨hPo _ _ (by omega), hPo _ _ (by omega), fun a i u0 u1 => hPo _ _ (by omega)⟩
theorem Sim.setX {N N2 : Int} {P R : Mem} (h : Sim N P R) (hN : N ≤ N2) {P2 R2 : Mem} (hPo : ∀ a i, ¬ (137 ≤ a ∧ a ≤ 144) → P2 a i = P a i) (hRo : ∀ a i, ¬ (a = 1 ∧ (i = 4 ∨ (1310 ≤ i ∧ i < 3710))) → R2 a i = R a i) (hg : gX P2 100 (R2 1)) : Sim N2 P2 R2 := by
  obtain ⟨c1, c2, c3, c4, c5, c6⟩ := h.c0
  obtain ⟨p1, p2, p3, p4, p5, p6, p7, p8, p9, p10, p11⟩ := h.p0
  obtain ⟨t1, t2, t3⟩ := h.t0
  have x3 := h.1.2.2.2.2.2.2.2.2.2.1.2.2.1
  have x2 := h.1.2.2.2.2.2.2.2.2.2.1.2.1
  obtain ⟨hC, hR5, hP, hL, hW, hT, hS, hE, hA, hX, hF, hG, hK⟩ := h.1
  have e0 : R2 1 0 = R 1 0 := hRo _ _ (by omega)
  have e1 : R2 1 1 = R 1 1 := hRo _ _ (by omega)
  have e2 : R2 1 2 = R 1 2 := hRo _ _ (by omega)
  have e3 : R2 1 3 = R 1 3 := hRo _ _ (by omega)
  refine h.now hN ⟨hC.cg (fun k k0 k1 i i0 i1 => hPo _ _ (by omega)) (fun j j0 j1 => hRo _ _ (by omega)) (fun j j0 j1 => hRo _ _ (by omega)), hR5.cg (fun k k0 k1 i i0 i1 => hPo _ _ (by omega)) (fun j j0 j1 => hRo _ _ (by omega)), hP.cg (by omega) (fun k k0 k1 i i0 i1 => hPo _ _ (by omega)) (fun j j0 j1 => hRo _ _ (by omega)) (fun j j0 j1 => hRo _ _ (by omega)) (fun j j0 j1 => hRo _ _ (by omega)), hL.cg hN hP.2.2.1 (fun k k0 k1 i i0 i1 => hPo _ _ (by omega)) (fun k k0 k1 i i0 i1 => hPo _ _ (by omega)) (fun j j0 j1 => hRo _ _ (by omega)) (fun j j0 j1 => hRo _ _ (by omega)) (fun i i0 i1 => ⟨hRo _ _ (by omega), hRo _ _ (by omega)⟩), hW.cg hP.2.2.1 hT.2.2.1 (by omega) (fun j j0 j1 => hRo _ _ (by omega)) (fun i i0 i1 => hRo _ _ (by omega)) (fun i i0 i1 => ⟨hRo _ _ (by omega), hRo _ _ (by omega)⟩), hT.cg (by omega) (by omega) (fun k k0 k1 i i0 i1 => hPo _ _ (by omega)) (fun j j0 j1 => hRo _ _ (by omega)) (fun j j0 j1 => hRo _ _ (by omega)), hS.cg (by omega) hT.2.2.1 (fun k k0 k1 i i0 i1 => hPo _ _ (by omega)) (fun j j0 j1 => hRo _ _ (by omega)) (fun j j0 j1 => hRo _ _ (by omega)), hE.cg (hPo _ _ (by omega)) (fun k k0 k1 i i0 i1 => hPo _ _ (by omega)) (fun j j0 j1 => hRo _ _ (by omega)) (fun j j0 j1 => hRo _ _ (by omega)), hA.cg (hPo _ _ (by omega)) (fun k k0 k1 i i0 i1 => hPo _ _ (by omega)) (fun j j0 j1 => hRo _ _ (by omega)) (fun j j0 j1 => hRo _ _ (by omega)), hg, hF.cg (fun k k0 k1 i i0 i1 => hPo _ _ (by omega)) (fun j j0 j1 => hRo _ _ (by omega)) (fun j j0 j1 => hRo _ _ (by omega)), hG.cg (fun k k0 k1 i i0 i1 => hPo _ _ (by omega)) (fun j j0 j1 => hRo _ _ (by omega)), hK.cg (fun k k0 k1 i i0 i1 => hPo _ _ (by omega)) (fun j j0 j1 => hRo _ _ (by omega)) (fun j j0 j1 => hRo _ _ (by omega))⟩ (by omega) ⟨fun j hj => hPo _ _ (by omega), hPo _ _ (by omega), fun a i ha => hPo _ _ (by omega)⟩ ⟨fun j hj => hRo _ _ (by omega), fun a i ha => hRo _ _ (by omega)⟩ ⟨hPo _ _ (by omega), hPo _ _ (by omega), fun a i u0 u1 => hPo _ _ (by omega)⟩
theorem Sim.setG {N N2 : Int} {P R : Mem} (h : Sim N P R) (hN : N ≤ N2) {P2 R2 : Mem} (hPo : ∀ a i, ¬ (a = 154) → P2 a i = P a i) (hRo : ∀ a i, ¬ (a = 1 ∧ (3900 ≤ i ∧ i < 4004)) → R2 a i = R a i) (hg : gF8 P2 100 (R2 1)) : Sim N2 P2 R2 := by
  obtain ⟨c1, c2, c3, c4, c5, c6⟩ := h.c0
  obtain ⟨p1, p2, p3, p4, p5, p6, p7, p8, p9, p10, p11⟩ := h.p0
  obtain ⟨t1, t2, t3⟩ := h.t0
  have x3 := h.1.2.2.2.2.2.2.2.2.2.1.2.2.1
  have x2 := h.1.2.2.2.2.2.2.2.2.2.1.2.1
  obtain ⟨hC, hR5, hP, hL, hW, hT, hS, hE, hA, hX, hF, hG, hK⟩ := h.1
  have e0 : R2 1 0 = R 1 0 := hRo _ _ (by omega)
  have e1 : R2 1 1 = R 1 1 := hRo _ _ (by omega)
  have e2 : R2 1 2 = R 1 2 := hRo _ _ (by omega)
  have e3 : R2 1 3 = R 1 3 := hRo _ _ (by omega)
  refine h.now hN ⟨hC.cg (fun k k0 k1 i i0 i1 => hPo _ _ (by omega)) (fun j j0 j1 => hRo _ _ (by omega)) (fun j j0 j1 => hRo _ _ (by omega)), hR5.cg (fun k k0 k1 i i0 i1 => hPo _ _ (by omega)) (fun j j0 j1 => hRo _ _ (by omega)), hP.cg (by omega) (fun k k0 k1 i i0 i1 => hPo _ _ (by omega)) (fun j j0 j1 => hRo _ _ (by omega)) (fun j j0 j1 => hRo _ _ (by omega)) (fun j j0 j1 => hRo _ _ (by omega)), hL.cg hN hP.2.2.1 (fun k k0 k1 i i0 i1 => hPo _ _ (by omega)) (fun k k0 k1 i i0 i1 => hPo _ _ (by omega)) (fun j j0 j1 => hRo _ _ (by omega)) (fun j j0 j1 => hRo _ _ (by omega)) (fun i i0 i1 => ⟨hRo _ _ (by omega), hRo _ _ (by omega)⟩), hW.cg hP.2.2.1 hT.2.2.1 (by omega) (fun j j0 j1 => hRo _ _ (by omega)) (fun i i0 i1 => hRo _ _ (by omega)) (fun i i0 i1 => ⟨hRo _ _ (by omega), hRo _ _ (by omega)⟩), hT.cg (by omega) (by omega) (fun k k0 k1 i i0 i1 => hPo _ _ (by omega)) (fun j j0 j1 => hRo _ _ (by omega)) (fun j j0 j1 => hRo _ _ (by omega)), hS.cg (by omega) hT.2.2.1 (fun k k0 k1 i i0 i1 => hPo _ _ (by omega)) (fun j j0 j1 => hRo _ _ (by omega)) (fun j j0 j1 => hRo _ _ (by omega)), hE.cg (hPo _ _ (by omega)) (fun k k0 k1 i i0 i1 => hPo _ _ (by omega)) (fun j j0 j1 => hRo _ _ (by omega)) (fun j j0 j1 => hRo _ _ (by omega)), hA.cg (hPo _ _ (by omega)) (fun k k0 k1 i i0 i1 => hPo _ _ (by omega)) (fun j j0 j1 => hRo _ _ (by omega)) (fun j j0 j1 => hRo _ _ (by omega)), hX.cg (fun k k0 k1 i i0 i1 => hPo _ _ (by omega)) (fun j j0 j1 => hRo _ _ (by omega)) (fun j j0 j1 => hRo _ _ (by omega)), hF.cg (fun k k0 k1 i i0 i1 => hPo _ _ (by omega)) (fun j j0 j1 => hRo _ _ (by omega)) (fun j j0 j1 => hRo _ _ (by omega)), hg, hK.cg (fun k k0 k1 i i0 i1 => hPo _ _ (by omega)) (fun j j0 j1 => hRo _ _ (by omega)) (fun j j0 j1 => hRo _ _ (by omega))⟩ (by omega) ⟨fun j hj => hPo _ _ (by omega), hPo _ _ (by omega), fun a i ha => hPo _ _ (by omega)⟩ ⟨fun j hj => hRo _ _ (by omega), fun a i ha => hRo _ _ (by omega)⟩ ⟨hPo _ _ (by omega), hPo _ _ (by omega), fun a i u0 u1 => hPo _ _ (by omega)⟩
theorem Sim.setK {N N2 : Int} {P R : Mem} (h : Sim N P R) (hN : N ≤ N2) {P2 R2 : Mem} (hPo : ∀ a i, ¬ (157 ≤ a ∧ a ≤ 160) → P2 a i = P a i) (hRo : ∀ a i, ¬ (a = 1 ∧ (i = 7 ∨ (3830 ≤ i ∧ i < 3860))) → R2 a i = R a i) (hg : gK P2 100 (R2 1)) : Sim N2 P2 R2 := by
  obtain ⟨c1, c2, c3, c4, c5, c6⟩ := h.c0
  obtain ⟨p1, p2, p3, p4, p5, p6, p7, p8, p9, p10, p11⟩ := h.p0
  obtain ⟨t1, t2, t3⟩ := h.t0
  have x3 := h.1.2.2.2.2.2.2.2.2.2.1.2.2.1
  have x2 := h.1.2.2.2.2.2.2.2.2.2.1.2.1
  obtain ⟨hC, hR5, hP, hL, hW, hT, hS, hE, hA, hX, hF, hG, hK⟩ := h.1
  have e0 : R2 1 0 = R 1 0 := hRo _ _ (by omega)
  have e1 : R2 1 1 = R 1 1 := hRo _ _ (by omega)
  have e2 : R2 1 2 = R 1 2 := hRo _ _ (by omega)
  have e3 : R2 1 3 = R 1 3 := hRo _ _ (by omega)
  refine h.now hN ⟨hC.cg (fun k k0 k1 i i0 i1 => hPo _ _ (by omega)) (fun j j0 j1 => hRo _ _ (by omega)) (fun j j0 j1 => hRo _ _ (by omega)), hR5.cg (fun k k0 k1 i i0 i1 => hPo _ _ (by omega)) (fun j j0 j1 => hRo _ _ (by omega)), hP.cg (by omega) (fun k k0 k1 i i0 i1 => hPo _ _ (by omega)) (fun j j0 j1 => hRo _ _ (by omega)) (fun j j0 j1 => hRo _ _ (by omega)) (fun j j0 j1 => hRo _ _ (by omega)), hL.cg hN hP.2.2.1 (fun k k0 k1 i i0 i1 => hPo _ _ (by omega)) (fun k k0 k1 i i0 i1 => hPo _ _ (by omega)) (fun j j0 j1 => hRo _ _ (by omega)) (fun j j0 j1 => hRo _ _ (by omega)) (fun i i0 i1 => ⟨hRo _ _ (by omega), hRo _ _ (by omega)⟩), hW.cg hP.2.2.1 hT.2.2.1 (by omega) (fun j j0 j1 => hRo _ _ (by omega)) (fun i i0 i1 => hRo _ _ (by omega)) (fun i i0 i1 => ⟨hRo _ _ (by omega), hRo _ _ (by omega)⟩), hT.cg (by omega) (by omega) (fun k k0 k1 i i0 i1 => hPo _ _ (by omega)) (fun j j0 j1 => hRo _ _ (by omega)) (fun j j0 j1 => hRo _ _ (by omega)), hS.cg (by omega) hT.2.2.1 (fun k k0 k1 i i0 i1 => hPo _ _ (by omega)) (fun j j0 j1 => hRo _ _ (by omega)) (fun j j0 j1 => hRo _ _ (by omega)), hE.cg (hPo _ _ (by omega)) (fun k k0 k1 i i0 i1 => hPo _ _ (by omega)) (fun j j0 j1 => hRo _ _ (by omega)) (fun j j0 j1 => hRo _ _ (by omega)), hA.cg (hPo _ _ (by omega)) (fun k k0 k1 i i0 i1 => hPo _ _ (by omega)) (fun j j0 j1 => hRo _ _ (by omega)) (fun j j0 j1 => hRo _ _ (by omega)), hX.cg (fun k k0 k1 i i0 i1 => hPo _ _ (by omega)) (fun j j0 j1 => hRo _ _ (by omega)) (fun j j0 j1 => hRo _ _ (by omega)), hF.cg (fun k k0 k1 i i0 i1 => hPo _ _ (by omega)) (fun j j0 j1 => hRo _ _ (by omega)) (fun j j0 j1 => hRo _ _ (by omega)), hG.cg (fun k k0 k1 i i0 i1 => hPo _ _ (by omega)) (fun j j0 j1 => hRo _ _ (by omega)), hg⟩ (by omega) ⟨fun j hj => hPo _ _ (by omega), hPo _ _ (by omega), fun a i ha => hPo _ _ (by omega)⟩ ⟨fun j hj => hRo _ _ (by omega), fun a i ha => hRo _ _ (by omega)⟩ ⟨hPo _ _ (by omega), hPo _ _ (by omega), fun a i u0 u1 => hPo _ _ (by omega)⟩
theorem Sim.setR5 {N N2 : Int} {P R : Mem} (h : Sim N P R) (hN : N ≤ N2) {P2 R2 : Mem} (hPo : ∀ a i, ¬ (104 ≤ a ∧ a ≤ 105) → P2 a i = P a i) (hRo : ∀ a i, ¬ (a = 1 ∧ (11 ≤ i ∧ i < 15)) → R2 a i = R a i) (hg : gR5 P2 100 (R2 1)) : Sim N2 P2 R2 := by
  obtain ⟨c1, c2, c3, c4, c5, c6⟩ := h.c0
  obtain ⟨p1, p2, p3, p4, p5, p6, p7, p8, p9, p10, p11⟩ := h.p0
  obtain ⟨t1, t2, t3⟩ := h.t0
  have x3 := h.1.2.2.2.2.2.2.2.2.2.1.2.2.1
  have x2 := h.1.2.2.2.2.2.2.2.2.2.1.2.1
  obtain ⟨hC, hR5, hP, hL, hW, hT, hS, hE, hA, hX, hF, hG, hK⟩ := h.1
  have e0 : R2 1 0 = R 1 0 := hRo _ _ (by omega)
  have e1 : R2 1 1 = R 1 1 := hRo _ _ (by omega)
  have e2 : R2 1 2 = R 1 2 := hRo _ _ (by omega)
  have e3 : R2 1 3 = R 1 3 := hRo _ _ (by omega)
  refine h.now hN ⟨hC.cg (fun k k0 k1 i i0 i1 => hPo _ _ (by omega)) (fun j j0 j1 => hRo _ _ (by omega)) (fun j j0 j1 => hRo _ _ (by omega)), hg, hP.cg (by omega) (fun k k0 k1 i i0 i1 => hPo _ _ (by omega)) (fun j j0 j1 => hRo _ _ (by omega)) (fun j j0 j1 => hRo _ _ (by omega)) (fun j j0 j1 => hRo _ _ (by omega)), hL.cg hN hP.2.2.1 (fun k k0 k1 i i0 i1 => hPo _ _ (by omega)) (fun k k0 k1 i i0 i1 => hPo _ _ (by omega)) (fun j j0 j1 => hRo _ _ (by omega)) (fun j j0 j1 => hRo _ _ (by omega)) (fun i i0 i1 => ⟨hRo _ _ (by omega), hRo _ _ (by omega)⟩), hW.cg hP.2.2.1 hT.2.2.1 (by omega) (fun j j0 j1 => hRo _ _ (by omega)) (fun i i0 i1 => hRo _ _ (by omega)) (fun i i0 i1 => ⟨hRo _ _ (by omega), hRo _ _ (by omega)⟩), hT.cg (by omega) (by omega) (fun k k0 k1 i i0 i1 => hPo _ _ (by omega)) (fun j j0 j1 => hRo _ _ (by omega)) (fun j j0 j1 => hRo _ _ (by omega)), hS.cg (by omega) hT.2.2.1 (fun k k0 k1 i i0 i1 => hPo _ _ (by omega)) (fun j j0 j1 => hRo _ _ (by omega)) (fun j j0 j1 => hRo _ _ (by omega)), hE.cg (hPo _ _ (by omega)) (fun k k0 k1 i i0 i1 => hPo _ _ (by omega)) (fun j j0 j1 => hRo _ _ (by omega)) (fun j j0 j1 => hRo _ _ (by omega)), hA.cg (hPo _ _ (by omega)) (fun k k0 k1 i i0 i1 => hPo _ _ (by omega)) (fun j j0 j1 => hRo _ _ (by omega)) (fun j j0 j1 => hRo _ _ (by omega)), hX.cg (fun k k0 k1 i i0 i1 => hPo _ _ (by omega)) (fun j j0 j1 => hRo _ _ (by omega)) (fun j j0 j1 => hRo _ _ (by omega)), hF.cg (fun k k0 k1 i i0 i1 => hPo _ _ (by omega)) (fun j j0 j1 => hRo _ _ (by omega)) (fun j j0 j1 => hRo _ _ (by omega)), hG.cg (fun k k0 k1 i i0 i1 => hPo _ _ (by omega)) (fun j j0 j1 => hRo _ _ (by omega)), hK.cg (fun k k0 k1 i i0 i1 => hPo _ _ (by omega)) (fun j j0 j1 => hRo _ _ (by omega)) (fun j j0 j1 => hRo _ _ (by omega))⟩ (by omega) ⟨fun j hj => hPo _ _ (by omega), hPo _ _ (by omega), fun a i ha => hPo _ _ (by omega)⟩ ⟨fun j hj => hRo _ _ (by omega), fun a i ha => hRo _ _ (by omega)⟩ ⟨hPo _ _ (by omega), hPo _ _ (by omega), fun a i u0 u1 => hPo _ _ (by omega)⟩
theorem Sim.setF {N N2 : Int} {P R : Mem} (h : Sim N P R) (hN : N ≤ N2) {P2 R2 : Mem} (hPo : ∀ a i, ¬ ((a = 147 ∧ i = 5) ∨ (148 ≤ a ∧ a ≤ 150)) → P2 a i = P a i) (hRo : ∀ a i, ¬ (a = 1 ∧ ((8 ≤ i ∧ i < 10) ∨ (3860 ≤ i ∧ i < 3900))) → R2 a i = R a i) (hf : P2 147 5 = 0) (hg : gF7 P2 100 (R2 1)) : Sim N2 P2 R2 := by
  obtain ⟨c1, c2, c3, c4, c5, c6⟩ := h.c0
  obtain ⟨p1, p2, p3, p4, p5, p6, p7, p8, p9, p10, p11⟩ := h.p0
  obtain ⟨t1, t2, t3⟩ := h.t0
  have x3 := h.1.2.2.2.2.2.2.2.2.2.1.2.2.1
  have x2 := h.1.2.2.2.2.2.2.2.2.2.1.2.1
  obtain ⟨hC, hR5, hP, hL, hW, hT, hS, hE, hA, hX, hF, hG, hK⟩ := h.1
  have e0 : R2 1 0 = R 1 0 := hRo _ _ (by omega)
  have e1 : R2 1 1 = R 1 1 := hRo _ _ (by omega)
  have e2 : R2 1 2 = R 1 2 := hRo _ _ (by omega)
  have e3 : R2 1 3 = R 1 3 := hRo _ _ (by omega)
  obtain ⟨g1, g2, g3, g4, g5⟩ := h
  refine ⟨⟨hC.cg (fun k k0 k1 i i0 i1 => hPo _ _ (by omega)) (fun j j0 j1 => hRo _ _ (by omega)) (fun j j0 j1 => hRo _ _ (by omega)), hR5.cg (fun k k0 k1 i i0 i1 => hPo _ _ (by omega)) (fun j j0 j1 => hRo _ _ (by omega)), hP.cg (by omega) (fun k k0 k1 i i0 i1 => hPo _ _ (by omega)) (fun j j0 j1 => hRo _ _ (by omega)) (fun j j0 j1 => hRo _ _ (by omega)) (fun j j0 j1 => hRo _ _ (by omega)), hL.cg hN hP.2.2.1 (fun k k0 k1 i i0 i1 => hPo _ _ (by omega)) (fun k k0 k1 i i0 i1 => hPo _ _ (by omega)) (fun j j0 j1 => hRo _ _ (by omega)) (fun j j0 j1 => hRo _ _ (by omega)) (fun i i0 i1 => ⟨hRo _ _ (by omega), hRo _ _ (by omega)⟩), hW.cg hP.2.2.1 hT.2.2.1 (by omega) (fun j j0 j1 => hRo _ _ (by omega)) (fun i i0 i1 => hRo _ _ (by omega)) (fun i i0 i1 => ⟨hRo _ _ (by omega), hRo _ _ (by omega)⟩), hT.cg (by omega) (by omega) (fun k k0 k1 i i0 i1 => hPo _ _ (by omega)) (fun j j0 j1 => hRo _ _ (by omega)) (fun j j0 j1 => hRo _ _ (by omega)), hS.cg (by omega) hT.2.2.1 (fun k k0 k1 i i0 i1 => hPo _ _ (by omega)) (fun j j0 j1 => hRo _ _ (by omega)) (fun j j0 j1 => hRo _ _ (by omega)), hE.cg (hPo _ _ (by omega)) (fun k k0 k1 i i0 i1 => hPo _ _ (by omega)) (fun j j0 j1 => hRo _ _ (by omega)) (fun j j0 j1 => hRo _ _ (by omega)), hA.cg (hPo _ _ (by omega)) (fun k k0 k1 i i0 i1 => hPo _ _ (by omega)) (fun j j0 j1 => hRo _ _ (by omega)) (fun j j0 j1 => hRo _ _ (by omega)), hX.cg (fun k k0 k1 i i0 i1 => hPo _ _ (by omega)) (fun j j0 j1 => hRo _ _ (by omega)) (fun j j0 j1 => hRo _ _ (by omega)), hg, hG.cg (fun k k0 k1 i i0 i1 => hPo _ _ (by omega)) (fun j j0 j1 => hRo _ _ (by omega)), hK.cg (fun k k0 k1 i i0 i1 => hPo _ _ (by omega)) (fun j j0 j1 => hRo _ _ (by omega)) (fun j j0 j1 => hRo _ _ (by omega))⟩, by omega, fun q => ?_, g4.kp ⟨fun j hj => hPo _ _ (by omega), hPo _ _ (by omega), fun a i ha => hPo _ _ (by omega)⟩ ⟨fun j hj => hRo _ _ (by omega), fun a i ha => hRo _ _ (by omega)⟩, by rw [hPo _ _ (by omega)]; exact g5.1, .inl hf⟩
  rw [hRo 0 3 (by omega)] at q
  obtain ⟨q1, q2⟩ := g3 q
  refine ⟨q1.cg hN (fun k hk i _ _ => hPo (200 + k) i (by omega)) (fun j _ _ => hRo 2 j (by omega)), by rw [hRo 2 0 (by omega)]; exact q2⟩
/-- a call that changes what is not of cities -/
theorem Sim.rst {N N2 : Int} {P R : Mem} (h : Sim N P R) (hN : N ≤ N2) {P2 R2 : Mem} (hC : ∀ a i, 100 ≤ a → P2 a i = P a i) (hR1 : ∀ i, R2 1 i = R 1 i) (hR2 : ∀ i, R2 2 i = R 2 i) (h03 : R2 0 3 = R 0 3) (hr : Rst P2 R2) : Sim N2 P2 R2 := by
  obtain ⟨h1, h2, h3, h4, h5⟩ := h
  refine ⟨h1.cg hN (fun k hk i _ _ => hC _ _ (by omega)) (fun j _ _ => hR1 j), by rw [hR1]; exact h2, fun q => ?_, hr, h5.kp ⟨hC _ _ (by omega), hC _ _ (by omega), fun a i u0 u1 => hC _ _ (by omega)⟩⟩
  rw [h03] at q
  obtain ⟨q1, q2⟩ := h3 q
  exact ⟨q1.cg hN (fun k hk i _ _ => hC _ _ (by omega)) (fun j _ _ => hR2 j), by rw [hR2]; exact q2⟩
section Acc2
variable {N : Int} {P R : Mem}
theorem Sim.stp (h : Sim N P R) {i : Int} (h0 : 0 ≤ i) (h1 : i < R 1 3) : P 126 i = R 1 (630 + 17 * i) ∧ 0 ≤ R 1 (630 + 17 * i) ∧ R 1 (630 + 17 * i) ≤ 8 := by
  obtain ⟨a1, a2, a3, _⟩ := h.1.2.2.2.2.2.2.1 i h0 h1
  exact ⟨a1, a2, a3⟩
theorem Sim.stq (h : Sim N P R) {i j : Int} (h0 : 0 ≤ i) (h1 : i < R 1 3) (j0 : 0 ≤ j) (j1 : j < R 1 (630 + 17 * i)) : P 127 (8 * i + j) = R 1 (631 + 17 * i + 2 * j) ∧ 0 ≤ R 1 (631 + 17 * i + 2 * j) ∧ R 1 (631 + 17 * i + 2 * j) < R 1 1 ∧ P 128 (8 * i + j) = R 1 (632 + 17 * i + 2 * j) ∧ 0 ≤ R 1 (632 + 17 * i + 2 * j) ∧ R 1 (632 + 17 * i + 2 * j) ≤ 59 := (h.1.2.2.2.2.2.2.1 i h0 h1).2.2.2 j j0 j1
theorem Sim.e0 (h : Sim N P R) : P 130 0 = R 1 5 ∧ 0 ≤ R 1 5 ∧ R 1 5 ≤ 20 := by
  obtain ⟨a1, a2, a3, _⟩ := h.1.2.2.2.2.2.2.2.1
  exact ⟨a1, a2, a3⟩
theorem Sim.ltr (h : Sim N P R) {i : Int} (h0 : 0 ≤ i) (h1 : i < R 1 5) : P 132 i = R 1 (3710 + 3 * i) ∧ 0 ≤ R 1 (3710 + 3 * i) ∧ R 1 (3710 + 3 * i) ≤ 1 ∧ P 131 i = R 1 (3711 + 3 * i) ∧ P 133 i = R 1 (3712 + 3 * i) ∧ 0 ≤ R 1 (3712 + 3 * i) ∧ R 1 (3712 + 3 * i) < 1048576 := h.1.2.2.2.2.2.2.2.1.2.2.2 i h0 h1
theorem Sim.a0 (h : Sim N P R) : P 130 4 = R 1 6 ∧ 0 ≤ R 1 6 ∧ R 1 6 ≤ 20 := by
  obtain ⟨a1, a2, a3, _⟩ := h.1.2.2.2.2.2.2.2.2.1
  exact ⟨a1, a2, a3⟩
theorem Sim.cll (h : Sim N P R) {i : Int} (h0 : 0 ≤ i) (h1 : i < R 1 6) : P 134 i = R 1 (3770 + 3 * i) ∧ P 135 i = R 1 (3771 + 3 * i) ∧ P 136 i = R 1 (3772 + 3 * i) ∧ 1 ≤ R 1 (3772 + 3 * i) ∧ R 1 (3772 + 3 * i) ≤ 99 := h.1.2.2.2.2.2.2.2.2.1.2.2.2 i h0 h1
theorem Sim.x0 (h : Sim N P R) : P 137 0 = R 1 4 ∧ 0 ≤ R 1 4 ∧ R 1 4 ≤ 12 := by
  obtain ⟨a1, a2, a3, _⟩ := h.1.2.2.2.2.2.2.2.2.2.1
  exact ⟨a1, a2, a3⟩
theorem Sim.txt (h : Sim N P R) {i : Int} (h0 : 0 ≤ i) (h1 : i < R 1 4) : P 138 i = R 1 (1310 + 200 * i) ∧ 0 ≤ R 1 (1310 + 200 * i) ∧ R 1 (1310 + 200 * i) ≤ 4 ∧ P 139 i = R 1 (1311 + 200 * i) ∧ 0 ≤ R 1 (1311 + 200 * i) ∧ R 1 (1311 + 200 * i) ≤ 1 ∧ P 140 i = R 1 (1312 + 200 * i) ∧ P 141 i = oN (R 1 (1313 + 200 * i)) ∧ -1 ≤ R 1 (1313 + 200 * i) ∧ P 142 i = R 1 (1314 + 200 * i) ∧ P 143 i = R 1 (1315 + 200 * i) ∧ 1 ≤ R 1 (1315 + 200 * i) ∧ R 1 (1315 + 200 * i) ≤ 96 := by
  obtain ⟨a1, a2, a3, a4, a5, a6, a7, a8, a9, a10, a11, a12, a13, _⟩ := h.1.2.2.2.2.2.2.2.2.2.1.2.2.2 i h0 h1
  exact ⟨a1, a2, a3, a4, a5, a6, a7, a8, a9, a10, a11, a12, a13⟩
theorem Sim.fn (h : Sim N P R) {k : Int} (h0 : 0 ≤ k) (h1 : k < 2) : P 148 k = R 1 (8 + k) ∧ 0 ≤ R 1 (8 + k) ∧ R 1 (8 + k) ≤ 10 := by
  obtain ⟨a1, a2, a3, _⟩ := h.1.2.2.2.2.2.2.2.2.2.2.1 k h0 h1
  exact ⟨a1, a2, a3⟩
theorem Sim.fil (h : Sim N P R) {k i : Int} (h0 : 0 ≤ k) (h1 : k < 2) (i0 : 0 ≤ i) (i1 : i < R 1 (8 + k)) : P 149 (10 * k + i) = R 1 (3860 + 20 * k + 2 * i) ∧ 0 ≤ R 1 (3860 + 20 * k + 2 * i) ∧ R 1 (3860 + 20 * k + 2 * i) ≤ 9999 ∧ P 150 (10 * k + i) = R 1 (3861 + 20 * k + 2 * i) ∧ 0 ≤ R 1 (3861 + 20 * k + 2 * i) ∧ R 1 (3861 + 20 * k + 2 * i) ≤ 99 := (h.1.2.2.2.2.2.2.2.2.2.2.1 k h0 h1).2.2.2 i i0 i1
theorem Sim.fea (h : Sim N P R) {j : Int} (h0 : 0 ≤ j) (h1 : j < 104) : P 154 j = R 1 (3900 + j) ∧ 0 ≤ R 1 (3900 + j) ∧ R 1 (3900 + j) ≤ 99 := h.1.2.2.2.2.2.2.2.2.2.2.2.1 j h0 h1
theorem Sim.k0 (h : Sim N P R) : P 157 0 = R 1 7 ∧ 0 ≤ R 1 7 ∧ R 1 7 ≤ 7 := by
  obtain ⟨a1, a2, a3, _⟩ := h.1.2.2.2.2.2.2.2.2.2.2.2.2
  exact ⟨a1, a2, a3⟩
theorem Sim.cls (h : Sim N P R) {i : Int} (h0 : 0 ≤ i) (h1 : i < R 1 7) : P 158 i = R 1 (3830 + 3 * i) ∧ -99 ≤ R 1 (3830 + 3 * i) ∧ R 1 (3830 + 3 * i) ≤ 99 ∧ P 159 i = R 1 (3831 + 3 * i) ∧ -99 ≤ R 1 (3831 + 3 * i) ∧ R 1 (3831 + 3 * i) ≤ 99 ∧ P 160 i = R 1 (3832 + 3 * i) ∧ 0 ≤ R 1 (3832 + 3 * i) ∧ R 1 (3832 + 3 * i) ≤ 99 := h.1.2.2.2.2.2.2.2.2.2.2.2.2.2.2.2 i h0 h1
end Acc2
