/-! Frames of the groups. -/
theorem gC.cg {M M2 : Mem} {b b2 : Nat} {s s2 : Int → Int} (h : gC  M b s) (hM : eqM 0 3 M b M2 b2) (hs0 : eqS 0 2 s s2) (hs1 : eqS 20 68 s s2) : gC  M2 b2 s2 := by
  have m0_0 : M2 b2 0 = M b 0 := hM 0 (by omega) (by omega) 0 (by omega) (by decide)
  have m0_1 : M2 b2 1 = M b 1 := hM 0 (by omega) (by omega) 1 (by omega) (by decide)
  have s0e : s2 0 = s 0 := hs0 0 (by omega) (by omega)
  have s1e : s2 1 = s 1 := hs0 1 (by omega) (by omega)
  unfold gC at h ⊢
  simp only [m0_0, m0_1, s0e, s1e]
  obtain ⟨a0, a1, a2, a3, a4, hh⟩ := h
  refine ⟨a0, a1, a2, a3, a4, fun i i0 i1 => ?_⟩
  have hi := hh i i0 i1
  have r1 : M2 (b2 + 1) i = M (b + 1) i := hM 1 (by omega) (by omega) i i0 (by show i < 16; omega)
  have r2 : M2 (b2 + 2) i = M (b + 2) i := hM 2 (by omega) (by omega) i i0 (by show i < 16; omega)
  have r3 : M2 (b2 + 3) i = M (b + 3) i := hM 3 (by omega) (by omega) i i0 (by show i < 16; omega)
  have t20 : s2 (20 + 3 * i) = s (20 + 3 * i) := hs1 _ (by omega) (by omega)
  have t21 : s2 (21 + 3 * i) = s (21 + 3 * i) := hs1 _ (by omega) (by omega)
  have t22 : s2 (22 + 3 * i) = s (22 + 3 * i) := hs1 _ (by omega) (by omega)
  simp only [r1, r2, r3, t20, t21, t22]
  exact hi
theorem gPe.cg {nc nc2 : Int} {M M2 : Mem} {b b2 : Nat} {s s2 : Int → Int} (h : gPe nc M b s) (hnc : nc ≤ nc2) (hM : eqM 6 14 M b M2 b2) (hs0 : eqS 2 3 s s2) (hs1 : eqS 15 17 s s2) (hs2 : eqS 70 230 s s2) : gPe nc2 M2 b2 s2 := by
  have m6_0 : M2 (b2 + 6) 0 = M (b + 6) 0 := hM 6 (by omega) (by omega) 0 (by omega) (by decide)
  have m6_9 : M2 (b2 + 6) 9 = M (b + 6) 9 := hM 6 (by omega) (by omega) 9 (by omega) (by decide)
  have m14_0 : M2 (b2 + 14) 0 = M (b + 14) 0 := hM 14 (by omega) (by omega) 0 (by omega) (by decide)
  have m14_1 : M2 (b2 + 14) 1 = M (b + 14) 1 := hM 14 (by omega) (by omega) 1 (by omega) (by decide)
  have s2e : s2 2 = s 2 := hs0 2 (by omega) (by omega)
  have s15e : s2 15 = s 15 := hs1 15 (by omega) (by omega)
  have s16e : s2 16 = s 16 := hs1 16 (by omega) (by omega)
  unfold gPe at h ⊢
  simp only [m6_0, m6_9, m14_0, m14_1, s2e, s15e, s16e]
  obtain ⟨a0, a1, a2, a3, a4, a5, a6, a7, a8, a9, a10, hh⟩ := h
  refine ⟨a0, a1, a2, a3, a4, a5, a6, a7, a8, a9, a10, fun i i0 i1 => ?_⟩
  have hi := hh i i0 i1
  have r7 : M2 (b2 + 7) i = M (b + 7) i := hM 7 (by omega) (by omega) i i0 (by show i < 20; omega)
  have r8 : M2 (b2 + 8) i = M (b + 8) i := hM 8 (by omega) (by omega) i i0 (by show i < 20; omega)
  have r9 : M2 (b2 + 9) i = M (b + 9) i := hM 9 (by omega) (by omega) i i0 (by show i < 20; omega)
  have r10 : M2 (b2 + 10) i = M (b + 10) i := hM 10 (by omega) (by omega) i i0 (by show i < 20; omega)
  have r11 : M2 (b2 + 11) i = M (b + 11) i := hM 11 (by omega) (by omega) i i0 (by show i < 20; omega)
  have r12 : M2 (b2 + 12) i = M (b + 12) i := hM 12 (by omega) (by omega) i i0 (by show i < 20; omega)
  have t70 : s2 (70 + 8 * i) = s (70 + 8 * i) := hs2 _ (by omega) (by omega)
  have t71 : s2 (71 + 8 * i) = s (71 + 8 * i) := hs2 _ (by omega) (by omega)
  have t72 : s2 (72 + 8 * i) = s (72 + 8 * i) := hs2 _ (by omega) (by omega)
  have t73 : s2 (73 + 8 * i) = s (73 + 8 * i) := hs2 _ (by omega) (by omega)
  have t74 : s2 (74 + 8 * i) = s (74 + 8 * i) := hs2 _ (by omega) (by omega)
  have t75 : s2 (75 + 8 * i) = s (75 + 8 * i) := hs2 _ (by omega) (by omega)
  have t77 : s2 (77 + 8 * i) = s (77 + 8 * i) := hs2 _ (by omega) (by omega)
  simp only [r7, r8, r9, r10, r11, r12, t70, t71, t72, t73, t74, t75, t77]
  obtain ⟨d1, d2, d3, d4, d5, d6, d7, d8, d9, d10, d11, d12, d13⟩ := hi
  exact ⟨d1, d2, by omega, d4, d5, d6, d7, d8, d9, d10, d11, by omega, d13⟩
theorem gT.cg {nc nc2 : Int} {np np2 : Int} {M M2 : Mem} {b b2 : Nat} {s s2 : Int → Int} (h : gT nc np M b s) (hnc : nc ≤ nc2) (hnp : np ≤ np2) (hM : eqM 15 25 M b M2 b2) (hs0 : eqS 3 4 s s2) (hs1 : eqS 230 630 s s2) : gT nc2 np2 M2 b2 s2 := by
  have m15_0 : M2 (b2 + 15) 0 = M (b + 15) 0 := hM 15 (by omega) (by omega) 0 (by omega) (by decide)
  have s3e : s2 3 = s 3 := hs0 3 (by omega) (by omega)
  unfold gT at h ⊢
  simp only [m15_0, s3e]
  obtain ⟨a0, a1, a2, hh⟩ := h
  refine ⟨a0, a1, a2, fun i i0 i1 => ?_⟩
  have hi := hh i i0 i1
  have r16 : M2 (b2 + 16) i = M (b + 16) i := hM 16 (by omega) (by omega) i i0 (by show i < 40; omega)
  have r17 : M2 (b2 + 17) i = M (b + 17) i := hM 17 (by omega) (by omega) i i0 (by show i < 40; omega)
  have r18 : M2 (b2 + 18) i = M (b + 18) i := hM 18 (by omega) (by omega) i i0 (by show i < 40; omega)
  have r19 : M2 (b2 + 19) i = M (b + 19) i := hM 19 (by omega) (by omega) i i0 (by show i < 40; omega)
  have r20 : M2 (b2 + 20) i = M (b + 20) i := hM 20 (by omega) (by omega) i i0 (by show i < 40; omega)
  have r21 : M2 (b2 + 21) i = M (b + 21) i := hM 21 (by omega) (by omega) i i0 (by show i < 40; omega)
  have r22 : M2 (b2 + 22) i = M (b + 22) i := hM 22 (by omega) (by omega) i i0 (by show i < 40; omega)
  have r23 : M2 (b2 + 23) i = M (b + 23) i := hM 23 (by omega) (by omega) i i0 (by show i < 40; omega)
  have r24 : M2 (b2 + 24) i = M (b + 24) i := hM 24 (by omega) (by omega) i i0 (by show i < 40; omega)
  have r25 : M2 (b2 + 25) i = M (b + 25) i := hM 25 (by omega) (by omega) i i0 (by show i < 40; omega)
  have t230 : s2 (230 + 10 * i) = s (230 + 10 * i) := hs1 _ (by omega) (by omega)
  have t231 : s2 (231 + 10 * i) = s (231 + 10 * i) := hs1 _ (by omega) (by omega)
  have t232 : s2 (232 + 10 * i) = s (232 + 10 * i) := hs1 _ (by omega) (by omega)
  have t233 : s2 (233 + 10 * i) = s (233 + 10 * i) := hs1 _ (by omega) (by omega)
  have t234 : s2 (234 + 10 * i) = s (234 + 10 * i) := hs1 _ (by omega) (by omega)
  have t235 : s2 (235 + 10 * i) = s (235 + 10 * i) := hs1 _ (by omega) (by omega)
  have t236 : s2 (236 + 10 * i) = s (236 + 10 * i) := hs1 _ (by omega) (by omega)
  have t237 : s2 (237 + 10 * i) = s (237 + 10 * i) := hs1 _ (by omega) (by omega)
  have t238 : s2 (238 + 10 * i) = s (238 + 10 * i) := hs1 _ (by omega) (by omega)
  have t239 : s2 (239 + 10 * i) = s (239 + 10 * i) := hs1 _ (by omega) (by omega)
  simp only [r16, r17, r18, r19, r20, r21, r22, r23, r24, r25, t230, t231, t232, t233, t234, t235, t236, t237, t238, t239]
  obtain ⟨d1, d2, d3, d4, d5, d6, d7, d8, d9, d10, d11, d12, d13, d14, d15, d16, d17, d18, d19⟩ := hi
  exact ⟨d1, d2, d3, d4, d5, d6, d7, d8, d9, d10, d11, d12, d13, d14, d15, d16, fun q => ⟨by have := (d17 q).1; omega, by have := (d17 q).2; omega⟩, fun q => ⟨by have := (d18 q).1; omega, by have := (d18 q).2; omega⟩, d19⟩
theorem gE.cg {M M2 : Mem} {b b2 : Nat} {s s2 : Int → Int} (h : gE  M b s) (m30_0 : M2 (b2 + 30) 0 = M (b + 30) 0) (hM : eqM 31 33 M b M2 b2) (hs0 : eqS 5 6 s s2) (hs1 : eqS 3710 3770 s s2) : gE  M2 b2 s2 := by
  have s5e : s2 5 = s 5 := hs0 5 (by omega) (by omega)
  unfold gE at h ⊢
  simp only [m30_0, s5e]
  obtain ⟨a0, a1, a2, hh⟩ := h
  refine ⟨a0, a1, a2, fun i i0 i1 => ?_⟩
  have hi := hh i i0 i1
  have r31 : M2 (b2 + 31) i = M (b + 31) i := hM 31 (by omega) (by omega) i i0 (by show i < 20; omega)
  have r32 : M2 (b2 + 32) i = M (b + 32) i := hM 32 (by omega) (by omega) i i0 (by show i < 20; omega)
  have r33 : M2 (b2 + 33) i = M (b + 33) i := hM 33 (by omega) (by omega) i i0 (by show i < 20; omega)
  have t3710 : s2 (3710 + 3 * i) = s (3710 + 3 * i) := hs1 _ (by omega) (by omega)
  have t3711 : s2 (3711 + 3 * i) = s (3711 + 3 * i) := hs1 _ (by omega) (by omega)
  have t3712 : s2 (3712 + 3 * i) = s (3712 + 3 * i) := hs1 _ (by omega) (by omega)
  simp only [r31, r32, r33, t3710, t3711, t3712]
  exact hi
theorem gA6.cg {M M2 : Mem} {b b2 : Nat} {s s2 : Int → Int} (h : gA6  M b s) (m30_4 : M2 (b2 + 30) 4 = M (b + 30) 4) (hM : eqM 34 36 M b M2 b2) (hs0 : eqS 6 7 s s2) (hs1 : eqS 3770 3830 s s2) : gA6  M2 b2 s2 := by
  have s6e : s2 6 = s 6 := hs0 6 (by omega) (by omega)
  unfold gA6 at h ⊢
  simp only [m30_4, s6e]
  obtain ⟨a0, a1, a2, hh⟩ := h
  refine ⟨a0, a1, a2, fun i i0 i1 => ?_⟩
  have hi := hh i i0 i1
  have r34 : M2 (b2 + 34) i = M (b + 34) i := hM 34 (by omega) (by omega) i i0 (by show i < 20; omega)
  have r35 : M2 (b2 + 35) i = M (b + 35) i := hM 35 (by omega) (by omega) i i0 (by show i < 20; omega)
  have r36 : M2 (b2 + 36) i = M (b + 36) i := hM 36 (by omega) (by omega) i i0 (by show i < 20; omega)
  have t3770 : s2 (3770 + 3 * i) = s (3770 + 3 * i) := hs1 _ (by omega) (by omega)
  have t3771 : s2 (3771 + 3 * i) = s (3771 + 3 * i) := hs1 _ (by omega) (by omega)
  have t3772 : s2 (3772 + 3 * i) = s (3772 + 3 * i) := hs1 _ (by omega) (by omega)
  simp only [r34, r35, r36, t3770, t3771, t3772]
  exact hi
theorem gK.cg {M M2 : Mem} {b b2 : Nat} {s s2 : Int → Int} (h : gK  M b s) (hM : eqM 57 60 M b M2 b2) (hs0 : eqS 7 8 s s2) (hs1 : eqS 3830 3851 s s2) : gK  M2 b2 s2 := by
  have m57_0 : M2 (b2 + 57) 0 = M (b + 57) 0 := hM 57 (by omega) (by omega) 0 (by omega) (by decide)
  have s7e : s2 7 = s 7 := hs0 7 (by omega) (by omega)
  unfold gK at h ⊢
  simp only [m57_0, s7e]
  obtain ⟨a0, a1, a2, hh⟩ := h
  refine ⟨a0, a1, a2, fun i i0 i1 => ?_⟩
  have hi := hh i i0 i1
  have r58 : M2 (b2 + 58) i = M (b + 58) i := hM 58 (by omega) (by omega) i i0 (by show i < 7; omega)
  have r59 : M2 (b2 + 59) i = M (b + 59) i := hM 59 (by omega) (by omega) i i0 (by show i < 7; omega)
  have r60 : M2 (b2 + 60) i = M (b + 60) i := hM 60 (by omega) (by omega) i i0 (by show i < 7; omega)
  have t3830 : s2 (3830 + 3 * i) = s (3830 + 3 * i) := hs1 _ (by omega) (by omega)
  have t3831 : s2 (3831 + 3 * i) = s (3831 + 3 * i) := hs1 _ (by omega) (by omega)
  have t3832 : s2 (3832 + 3 * i) = s (3832 + 3 * i) := hs1 _ (by omega) (by omega)
  simp only [r58, r59, r60, t3830, t3831, t3832]
  exact hi
theorem gR5.cg {M M2 : Mem} {b b2 : Nat} {s s2 : Int → Int} (h : gR5 M b s) (hM : eqM 4 5 M b M2 b2) (hs : eqS 11 15 s s2) : gR5 M2 b2 s2 := by
  obtain ⟨h1, h2, h3, h4, h5, h6, h7⟩ := h
  have e11 : s2 11 = s 11 := hs 11 (by omega) (by omega)
  have e12 : s2 12 = s 12 := hs 12 (by omega) (by omega)
  have m0 : M2 (b2 + 5) 0 = M (b + 5) 0 := hM 5 (by omega) (by omega) 0 (by omega) (by decide)
  have m1 : M2 (b2 + 5) 1 = M (b + 5) 1 := hM 5 (by omega) (by omega) 1 (by omega) (by decide)
  refine ⟨fun k k0 k1 => ?_, by rw [m0, e11, h2], by rw [e11]; exact h3, by rw [e11]; exact h4, by rw [m1, e12, h5], by rw [e12]; exact h6, by rw [e12]; exact h7⟩
  have := h1 k k0 k1
  rw [hM 4 (by omega) (by omega) k k0 (by show k < 2; omega), hs (13 + k) (by omega) (by omega)]
  exact this
theorem gL.cg {N N2 : Int} {M M2 : Mem} {b b2 : Nat} {s s2 : Int → Int} (h : gL N M b s) (hN : N ≤ N2) (h20 : s 2 ≤ 20) (hM : eqM 6 6 M b M2 b2) (hM1 : eqM 13 13 M b M2 b2) (hs : eqS 2 3 s s2) (hs1 : eqS 10 11 s s2) (hs2 : ∀ i, 0 ≤ i → i < 20 → s2 (74 + 8 * i) = s (74 + 8 * i) ∧ s2 (76 + 8 * i) = s (76 + 8 * i)) : gL N2 M2 b2 s2 := by
  obtain ⟨h1, h2, h3, h4, h5, h6, h7⟩ := h
  have e10 : s2 10 = s 10 := hs1 10 (by omega) (by omega)
  have e2 : s2 2 = s 2 := hs 2 (by omega) (by omega)
  have m8 : M2 (b2 + 6) 8 = M (b + 6) 8 := hM 6 (by omega) (by omega) 8 (by omega) (by decide)
  have m13 : ∀ k, 0 ≤ k → k < M (b + 6) 8 → M2 (b2 + 13) k = M (b + 13) k := fun k a1 a2 => hM1 13 (by omega) (by omega) k a1 (by show k < 20; omega)
  unfold gL
  simp only [e10, e2, m8]
  refine ⟨h1, h2, h3, by omega, fun k a1 a2 => ?_, fun k k2 a1 a2 a3 => ?_, fun p a1 a2 a3 => ?_⟩
  · have q := h5 k a1 a2
    rw [m13 k a1 a2, (hs2 _ q.1 (by omega)).1, (hs2 _ q.1 (by omega)).2]
    exact q
  · have q := h6 k k2 a1 a2 a3
    have q1 := h5 k a1 (by omega)
    have q2 := h5 k2 (by omega) a3
    rw [m13 k a1 (by omega), m13 k2 (by omega) a3, (hs2 _ q1.1 (by omega)).2, (hs2 _ q2.1 (by omega)).2]
    exact q
  · rw [(hs2 _ a1 (by omega)).1] at a3
    obtain ⟨k, b1, b2, b3⟩ := h7 p a1 a2 a3
    exact ⟨k, b1, b2, by rw [m13 k b1 b2]; exact b3⟩
theorem gW.cg {s s2 : Int → Int} (h : gW s) (h20 : s 2 ≤ 20) (h40 : s 3 ≤ 40) (h3 : s 3 ≤ s2 3) (hs : eqS 2 3 s s2) (hs2 : ∀ i, 0 ≤ i → i < 20 → s2 (75 + 8 * i) = s (75 + 8 * i)) (hk : ∀ i, 0 ≤ i → i < s 3 → s2 (230 + 10 * i) = s (230 + 10 * i) ∧ s2 (231 + 10 * i) = s (231 + 10 * i)) : gW s2 := by
  intro p a1 a2 a3
  have e2 : s2 2 = s 2 := hs 2 (by omega) (by omega)
  rw [e2] at a2
  rw [hs2 p a1 (by omega)] at a3 ⊢
  have q := h p a1 a2 a3
  have := hk _ a3 q.1
  rw [this.1, this.2]
  exact ⟨by omega, q.2⟩
theorem gS.cg {nc nc2 : Int} {M M2 : Mem} {b b2 : Nat} {s s2 : Int → Int} (h : gS nc M b s) (hnc : nc ≤ nc2) (h40 : s 3 ≤ 40) (hM : eqM 26 28 M b M2 b2) (hs : eqS 3 4 s s2) (hs2 : eqS 630 1310 s s2) : gS nc2 M2 b2 s2 := by
  intro i i0 i1
  have e3 : s2 3 = s 3 := hs 3 (by omega) (by omega)
  rw [e3] at i1
  obtain ⟨d1, d2, d3, d4⟩ := h i i0 i1
  have e : s2 (630 + 17 * i) = s (630 + 17 * i) := hs2 _ (by omega) (by omega)
  refine ⟨by rw [e, hM 26 (by omega) (by omega) i i0 (by show i < 40; omega)]; exact d1, by omega, by omega, fun j j0 j1 => ?_⟩
  rw [e] at j1
  obtain ⟨f1, f2, f3, f4, f5, f6⟩ := d4 j j0 j1
  rw [hM 27 (by omega) (by omega) (8 * i + j) (by omega) (by show _ < 320; omega), hM 28 (by omega) (by omega) (8 * i + j) (by omega) (by show _ < 320; omega), hs2 (631 + 17 * i + 2 * j) (by omega) (by omega), hs2 (632 + 17 * i + 2 * j) (by omega) (by omega)]
  exact ⟨f1, f2, by omega, f4, f5, f6⟩
theorem dp_cg {f g : Int → Int} : ∀ {n : Nat}, (∀ j : Nat, j < n → f j = g j) → dp f n = dp g n
  | 0, _ => rfl
  | n + 1, h => by
    have e := dp_cg (f := f) (g := g) (n := n) (fun j hj => h j (by omega))
    unfold dp
    rw [e, h n (by omega)]
theorem okD.cg {f g : Int → Int} {n : Int} (h : okD f n) (e : ∀ j, 0 ≤ j → j < n → g j = f j) : okD g n := by
  obtain ⟨h1, h2, h3, h4⟩ := h
  refine ⟨h1, h2, fun j hj q => ?_, ?_⟩
  · rw [e j (by omega) hj] at q ⊢
    rw [dp_cg (f := g) (g := f) (n := j) (fun k hk => e k (by omega) (by omega))]
    exact h3 j hj q
  · rw [dp_cg (f := g) (g := f) (fun k hk => e k (by omega) (by omega))]
    exact h4
theorem gX.cg {M M2 : Mem} {b b2 : Nat} {s s2 : Int → Int} (h : gX M b s) (hM : eqM 37 44 M b M2 b2) (hs : eqS 4 5 s s2) (hs2 : eqS 1310 (1310 + 200 * s 4) s s2) : gX M2 b2 s2 := by
  obtain ⟨h1, h2, h3, hh⟩ := h
  have e4 : s2 4 = s 4 := hs 4 (by omega) (by omega)
  have m0 : M2 (b2 + 37) 0 = M (b + 37) 0 := hM 37 (by omega) (by omega) 0 (by omega) (by decide)
  unfold gX
  rw [e4, m0]
  refine ⟨h1, h2, h3, fun i i0 i1 => ?_⟩
  have r38 : M2 (b2 + 38) i = M (b + 38) i := hM 38 (by omega) (by omega) i i0 (by show i < 12; omega)
  have r39 : M2 (b2 + 39) i = M (b + 39) i := hM 39 (by omega) (by omega) i i0 (by show i < 12; omega)
  have r40 : M2 (b2 + 40) i = M (b + 40) i := hM 40 (by omega) (by omega) i i0 (by show i < 12; omega)
  have r41 : M2 (b2 + 41) i = M (b + 41) i := hM 41 (by omega) (by omega) i i0 (by show i < 12; omega)
  have r42 : M2 (b2 + 42) i = M (b + 42) i := hM 42 (by omega) (by omega) i i0 (by show i < 12; omega)
  have r43 : M2 (b2 + 43) i = M (b + 43) i := hM 43 (by omega) (by omega) i i0 (by show i < 12; omega)
  have t0 : s2 (1310 + 200 * i) = s (1310 + 200 * i) := hs2 _ (by omega) (by omega)
  have t1 : s2 (1311 + 200 * i) = s (1311 + 200 * i) := hs2 _ (by omega) (by omega)
  have t2 : s2 (1312 + 200 * i) = s (1312 + 200 * i) := hs2 _ (by omega) (by omega)
  have t3 : s2 (1313 + 200 * i) = s (1313 + 200 * i) := hs2 _ (by omega) (by omega)
  have t4 : s2 (1314 + 200 * i) = s (1314 + 200 * i) := hs2 _ (by omega) (by omega)
  have t5 : s2 (1315 + 200 * i) = s (1315 + 200 * i) := hs2 _ (by omega) (by omega)
  obtain ⟨d1, d2, d3, d4, d5, d6, d7, d8, d9, d10, d11, d12, d13, d14, d15⟩ := hh i i0 i1
  simp only [r38, r39, r40, r41, r42, r43, t0, t1, t2, t3, t4, t5]
  refine ⟨d1, d2, d3, d4, d5, d6, d7, d8, d9, d10, d11, d12, d13, fun j j0 j1 => ?_, d15.cg fun j j0 j1 => hM 44 (by omega) (by omega) _ (by omega) (by show _ < 1152; omega)⟩
  rw [hM 44 (by omega) (by omega) (96 * i + j) (by omega) (by show _ < 1152; omega), hs2 (1316 + 200 * i + 2 * j) (by omega) (by omega), hs2 (1317 + 200 * i + 2 * j) (by omega) (by omega)]
  exact d14 j j0 j1
theorem gF7.cg {M M2 : Mem} {b b2 : Nat} {s s2 : Int → Int} (h : gF7 M b s) (hM : eqM 48 50 M b M2 b2) (hs : eqS 8 10 s s2) (hs2 : eqS 3860 3900 s s2) : gF7 M2 b2 s2 := by
  intro k k0 k1
  obtain ⟨d1, d2, d3, d4⟩ := h k k0 k1
  have e : s2 (8 + k) = s (8 + k) := hs _ (by omega) (by omega)
  rw [e, hM 48 (by omega) (by omega) k k0 (by show k < 2; omega)]
  refine ⟨d1, d2, d3, fun i i0 i1 => ?_⟩
  rw [hM 49 (by omega) (by omega) (10 * k + i) (by omega) (by show _ < 20; omega), hM 50 (by omega) (by omega) (10 * k + i) (by omega) (by show _ < 20; omega), hs2 (3860 + 20 * k + 2 * i) (by omega) (by omega), hs2 (3861 + 20 * k + 2 * i) (by omega) (by omega)]
  exact d4 i i0 i1
theorem gF8.cg {M M2 : Mem} {b b2 : Nat} {s s2 : Int → Int} (h : gF8 M b s) (hM : eqM 54 54 M b M2 b2) (hs2 : eqS 3900 4004 s s2) : gF8 M2 b2 s2 := by
  intro j j0 j1
  rw [hM 54 (by omega) (by omega) j j0 (by show j < 104; omega), hs2 (3900 + j) (by omega) (by omega)]
  exact h j j0 j1
/-- a city and its row of numbers -/
def Cty (N : Int) (M : Mem) (b : Nat) (s : Int → Int) : Prop := gC M b s ∧ gR5 M b s ∧ gPe (s 1) M b s ∧ gL N M b s ∧ gW s ∧ gT (s 1) (s 2) M b s ∧ gS (s 1) M b s ∧ gE M b s ∧ gA6 M b s ∧ gX M b s ∧ gF7 M b s ∧ gF8 M b s ∧ gK M b s
theorem Cty.cg {N N2 : Int} {M M2 : Mem} {b b2 : Nat} {s s2 : Int → Int} (h : Cty N M b s) (hN : N ≤ N2) (hM : eqC M b M2 b2) (hs : eqS 0 4010 s s2) : Cty N2 M2 b2 s2 := by
  obtain ⟨h1, h2, h3, h4, h5, h6, h7, h8, h9, h10, h11, h12, h13⟩ := h
  have e1 : s2 1 = s 1 := hs 1 (by omega) (by omega)
  have e2 : s2 2 = s 2 := hs 2 (by omega) (by omega)
  have b2' := h3.2.2.1
  have b3' := h6.2.2.1
  have b4' := h10.2.2.1
  refine ⟨h1.cg (hM.sub (by unfold rlv; omega)) (hs.sub (by omega) (by omega)) (hs.sub (by omega) (by omega)), h2.cg (hM.sub (by unfold rlv; omega)) (hs.sub (by omega) (by omega)), h3.cg (by omega) (hM.sub (by unfold rlv; omega)) (hs.sub (by omega) (by omega)) (hs.sub (by omega) (by omega)) (hs.sub (by omega) (by omega)), h4.cg hN b2' (hM.sub (by unfold rlv; omega)) (hM.sub (by unfold rlv; omega)) (hs.sub (by omega) (by omega)) (hs.sub (by omega) (by omega)) (fun i i0 i1 => ⟨hs _ (by omega) (by omega), hs _ (by omega) (by omega)⟩), h5.cg b2' b3' (by rw [hs 3 (by omega) (by omega)]; omega) (hs.sub (by omega) (by omega)) (fun i i0 i1 => hs _ (by omega) (by omega)) (fun i i0 i1 => ⟨hs _ (by omega) (by omega), hs _ (by omega) (by omega)⟩), h6.cg (by omega) (by omega) (hM.sub (by unfold rlv; omega)) (hs.sub (by omega) (by omega)) (hs.sub (by omega) (by omega)), h7.cg (by omega) b3' (hM.sub (by unfold rlv; omega)) (hs.sub (by omega) (by omega)) (hs.sub (by omega) (by omega)), h8.cg (hM 30 (by unfold rlv; omega) 0 (by omega) (by decide)) (hM.sub (by unfold rlv; omega)) (hs.sub (by omega) (by omega)) (hs.sub (by omega) (by omega)), h9.cg (hM 30 (by unfold rlv; omega) 4 (by omega) (by decide)) (hM.sub (by unfold rlv; omega)) (hs.sub (by omega) (by omega)) (hs.sub (by omega) (by omega)), h10.cg (hM.sub (by unfold rlv; omega)) (hs.sub (by omega) (by omega)) (hs.sub (by omega) (by omega)), h11.cg (hM.sub (by unfold rlv; omega)) (hs.sub (by omega) (by omega)) (hs.sub (by omega) (by omega)), h12.cg (hM.sub (by unfold rlv; omega)) (hs.sub (by omega) (by omega)), h13.cg (hM.sub (by unfold rlv; omega)) (hs.sub (by omega) (by omega)) (hs.sub (by omega) (by omega))⟩
