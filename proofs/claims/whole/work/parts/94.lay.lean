/-! Water: how the rooms are laid, on both sides. -/
def flP (P P' : Mem) : Prop := ∀ a i, ¬ (10 ≤ a ∧ a ≤ 12) → P' a i = P a i
def flR (R R' : Mem) : Prop := ∀ a i, ¬ (11 ≤ a ∧ a ≤ 13) → R' a i = R a i
theorem Sim.flw {N N2 : Int} {P R P2 R2 : Mem} (h : Sim N P R) (hN : N ≤ N2) (hP : flP P P2) (hR : flR R R2) : Sim N2 P2 R2 :=
  h.idle hN (fun k hk i _ _ => hP _ _ (by omega)) (fun j _ _ => hR _ _ (by omega)) ⟨fun j hj => hP _ _ (by omega), hP _ _ (by omega), fun a i ha => hP _ _ (by omega)⟩ ⟨fun j hj => hR _ _ (by omega), fun a i ha => hR _ _ (by omega)⟩ ⟨hP _ _ (by omega), hP _ _ (by omega), fun a i u0 u1 => hP _ _ (by omega)⟩
/-- rooms alike, none below 0, none above B -/
def rmQ (B : Int) (P' R' : Mem) : Prop := ∀ j, 0 ≤ j → j < 324 → P' 10 j = R' 11 j ∧ 0 ≤ R' 11 j ∧ R' 11 j ≤ B
theorem rom0 {α : Type} {A : Option α} {Q : α → Int × Mem → Prop} {y y' : Int} {R : Mem} {k : Mem → Option (Int × Mem)} (hk : ∀ R2, (∀ a i, ¬ a = 11 → R2 a i = R a i) → (∀ j, 0 ≤ j → j < 324 → R2 11 j = 0) → O2 Q A (k R2)) : ∀ (fu : Nat) (u : Int) (R' : Mem), 0 ≤ u → u ≤ 324 → (324 - u).toNat < fu → (∀ a i, ¬ a = 11 → R' a i = R a i) → (∀ j, 0 ≤ j → j < u → R' 11 j = 0) → O2 Q A (lpX12_flowOf_2 y y' k fu u R')
  | 0, u, R', u0, u1, hf, f1, f2 => by omega
  | fu + 1, u, R', u0, u1, hf, f1, f2 => by
    rw [lpX12_flowOf_2]
    by_cases c : u < 324
    · rw [if_pos c, wr_ok u0 (by omega), nm_ok, w32_id (by omega) (by omega)]
      refine rom0 hk fu (u + 1) _ (by omega) (by omega) (by omega) (fun a i ha => by rw [up_nk ha]; exact f1 a i ha) (fun j j0 j1 => ?_)
      by_cases d : j = u
      · rw [up_eq rfl d]
      · rw [up_ni d]
        exact f2 j j0 (by omega)
    · rw [if_neg c]
      exact hk R' f1 fun j j0 j1 => f2 j j0 (by omega)
def lyQ (P R : Mem) (u : Int) (P' R' : Mem) : Prop := flP P P' ∧ flR R R' ∧ rmQ 9999 P' R' ∧ ∀ c, 0 ≤ c → c < 18 → R' 11 (18 * c + 17) ≤ 999 ∧ (u ≤ c → R' 11 (18 * c + 17) = 0)
theorem lay1 {N : Int} {P R : Mem} (h : Sim N P R) {sd w w' : Int} {k : Mem → Option Mem} {k' : Mem → Option (Int × Mem)} {kk : Mem → Option (Int × Mem)} {Q2 : Int × Mem → Int × Mem → Prop} (hk : ∀ P2 R2, lyQ P R (R 1 1) P2 R2 → O2 Q2 (bnV (k P2) kk) (k' R2)) : ∀ (fu : Nat) (u : Int) (P' R' : Mem), 0 ≤ u → u ≤ R 1 1 → (R 1 1 - u).toNat < fu → lyQ P R u P' R' → O2 Q2 (bnV (lpX10_lay_11 100 sd w k fu u P') kk) (lpX12_flowOf_24 sd w' k' fu u R')
  | 0, u, P', R', u0, u1, hf, hq => by omega
  | fu + 1, u, P', R', u0, u1, hf, hq => by
    have hq' := hq
    obtain ⟨f1, f2, f3, f4⟩ := hq
    obtain ⟨_, _, _, c4, c5, c6⟩ := h.c0
    have j1 : P' 100 1 = R 1 1 := by rw [f1 100 1 (by omega)]; exact c4
    have j2 : R' 1 1 = R 1 1 := f2 1 1 (by omega)
    rw [lpX10_lay_11, lpX12_flowOf_24, rd_ok (x := 1) (by omega) (by omega), j1, j2]
    by_cases c : u < R 1 1
    · obtain ⟨w1, w2, w3, w4, w5, w6, w7, w8, w9⟩ := h.cell u0 c
      have p1 : P' (100 + 1) u = R 1 (20 + 3 * u) := by rw [f1 _ _ (by omega)]; exact w1
      have p2 : P' (100 + 2) u = R 1 (21 + 3 * u) := by rw [f1 _ _ (by omega)]; exact w4
      have p3 : P' (100 + 3) u = R 1 (22 + 3 * u) := by rw [f1 _ _ (by omega)]; exact w7
      have r1 : R' 1 (20 + 3 * u) = R 1 (20 + 3 * u) := f2 1 _ (by omega)
      have r2 : R' 1 (21 + 3 * u) = R 1 (21 + 3 * u) := f2 1 _ (by omega)
      have r3 : R' 1 (22 + 3 * u) = R 1 (22 + 3 * u) := f2 1 _ (by omega)
      have ih := fun P2 R2 => lay1 h (sd := sd) (w := w) (w' := w') hk fu (u + 1) P2 R2 (by omega) (by omega) (by omega)
      generalize R 1 (20 + 3 * u) = A at *
      generalize R 1 (21 + 3 * u) = B at *
      generalize R 1 (22 + 3 * u) = C at *
      rw [if_pos c, if_pos c, rd_ok u0 (by omega), p3, w32_id (z := 288 + u) (by omega) (by omega), wr_ok (by omega) (by omega), rd_ok u0 (by omega), up_nk (by omega), p1, ev_cellAt (by omega) (by omega), bI_k, w32_id (z := 20 + 3 * u + 2) (by omega) (by omega), rd_ok (by omega) (by omega), show 20 + 3 * u + 2 = 22 + 3 * u by omega, r3, wr_ok (by omega) (by omega), ev_sideR u0 (by omega), bI_k, up_nk (by omega), r1]
      simp only [jn_ok, nm_ok]
      rw [w32_id (z := u * 18) (by omega) (by omega), w32_id (z := 18 * u) (by omega) (by omega), w32_id (z := u * 18 + 17) (by omega) (by omega), w32_id (z := 18 * u + 17) (by omega) (by omega), w32_id (z := u + 1) (by omega) (by omega)]
      by_cases d : bAnd (bShr sd A) 1 = 1
      · rw [if_pos d, if_pos d, rd_ok u0 (by omega), up_nk (by omega), p2, wr_ok (by omega) (by omega), ev_cellAt (by omega) (by omega), bI_k, w32_id (z := 20 + 3 * u + 1) (by omega) (by omega), rd_ok (by omega) (by omega), show 20 + 3 * u + 1 = 21 + 3 * u by omega, up_nk (by omega), r2, wr_ok (by omega) (by omega), show u * 18 + 17 = 18 * u + 17 by omega]
        refine ih _ _ ⟨fun a i ha => by rw [up_nk (by omega), up_nk (by omega)]; exact f1 a i ha, fun a i ha => by rw [up_nk (by omega), up_nk (by omega)]; exact f2 a i ha, fun j j0 j1 => ?_, fun z z0 z1 => ?_⟩
        · by_cases e : j = 18 * u + 17
          · rw [up_eq rfl e, up_eq rfl e]
            exact ⟨rfl, by omega, by omega⟩
          · rw [up_ni e, up_ni e]
            by_cases e : j = 288 + u
            · rw [up_eq rfl e, up_eq rfl e]
              exact ⟨rfl, by omega, by omega⟩
            · rw [up_ni e, up_ni e]
              exact f3 j j0 j1
        · by_cases e : z = u
          · rw [up_eq rfl (by omega)]
            exact ⟨by omega, fun q => by omega⟩
          · rw [up_ni (by omega), up_ni (by omega)]
            exact ⟨(f4 z z0 z1).1, fun q => (f4 z z0 z1).2 (by omega)⟩
      · rw [if_neg d, if_neg d, wr_ok (by omega) (by omega)]
        refine ih _ _ ⟨fun a i ha => by rw [up_nk (by omega)]; exact f1 a i ha, fun a i ha => by rw [up_nk (by omega), up_nk (by omega)]; exact f2 a i ha, fun j j0 j1 => ?_, fun z z0 z1 => ?_⟩
        · have f5 := (f4 u u0 (by omega)).2 (by omega)
          by_cases e : j = 18 * u + 17
          · have f6 := f3 j j0 j1
            rw [up_ni (by omega), up_eq rfl e]
            rw [← e] at f5
            exact ⟨by omega, by omega, by omega⟩
          · rw [up_ni (M := upM R' 11 (288 + u) C) e]
            by_cases e : j = 288 + u
            · rw [up_eq rfl e, up_eq rfl e]
              exact ⟨rfl, by omega, by omega⟩
            · rw [up_ni e, up_ni e]
              exact f3 j j0 j1
        · by_cases e : z = u
          · rw [up_eq rfl (by omega)]
            exact ⟨by omega, fun q => rfl⟩
          · rw [up_ni (by omega), up_ni (by omega)]
            exact ⟨(f4 z z0 z1).1, fun q => (f4 z z0 z1).2 (by omega)⟩
    · have ue : u = R 1 1 := by omega
      rw [if_neg c, if_neg c]
      exact hk P' R' (ue ▸ hq')
def laQ (P R : Mem) (u : Int) (P' R' : Mem) : Prop := flP P P' ∧ flR R R' ∧ rmQ (9999 + 20000 * u) P' R' ∧ ∀ c, 0 ≤ c → c < 18 → R' 11 (18 * c + 17) ≤ 999 ∧ (16 ≤ c → R' 11 (18 * c + 17) = 0)
theorem lay2 {N : Int} {P R : Mem} (h : Sim N P R) {w w' : Int} (hw : w = w' ∨ (w < 0 ∧ w' < 0)) {k' : Mem → Option (Int × Mem)} {kk : Mem → Option (Int × Mem)} {Q2 : Int × Mem → Int × Mem → Prop} (hk : ∀ P2 R2, laQ P R (R 1 3) P2 R2 → O2 Q2 (kk P2) (k' R2)) : ∀ (fu : Nat) (u : Int) (P' R' : Mem), 0 ≤ u → u ≤ R 1 3 → (R 1 3 - u).toNat < fu → laQ P R u P' R' → O2 Q2 (bnV (lpX10_lay_88 100 w fu u P') kk) (lpX12_flowOf_105 w' k' fu u R')
  | 0, u, P', R', u0, u1, hf, hq => by omega
  | fu + 1, u, P', R', u0, u1, hf, hq => by
    have hq' := hq
    obtain ⟨f1, f2, f3, f4⟩ := hq
    obtain ⟨t1, t2, t3⟩ := h.t0
    obtain ⟨_, _, _, c4, c5, c6⟩ := h.c0
    have j1 : P' (100 + 15) 0 = R 1 3 := by rw [f1 _ _ (by omega)]; exact t1
    have j2 : R' 1 3 = R 1 3 := f2 1 3 (by omega)
    rw [lpX10_lay_88, lpX12_flowOf_105, rd_ok (x := 3) (by omega) (by omega), j1, j2]
    by_cases c : u < R 1 3
    · obtain ⟨w1, w2, w3, w4, w5, w6, _, _, _, _, _, _, _, w7, w8, w9, w10, _, w11, w12, _⟩ := h.tie u0 c
      have p1 : P' (100 + 16) u = R 1 (230 + 10 * u) := by rw [f1 _ _ (by omega)]; exact w1
      have p2 : P' (100 + 17) u = R 1 (231 + 10 * u) := by rw [f1 _ _ (by omega)]; exact w4
      have p3 : P' (100 + 18) u = R 1 (232 + 10 * u) := by rw [f1 _ _ (by omega)]; exact w5
      have p4 : P' (100 + 19) u = R 1 (233 + 10 * u) := by rw [f1 _ _ (by omega)]; exact w6
      have r1 : R' 1 (230 + 10 * u) = R 1 (230 + 10 * u) := f2 1 _ (by omega)
      have r2 : R' 1 (231 + 10 * u) = R 1 (231 + 10 * u) := f2 1 _ (by omega)
      have r3 : R' 1 (232 + 10 * u) = R 1 (232 + 10 * u) := f2 1 _ (by omega)
      have r4 : R' 1 (233 + 10 * u) = R 1 (233 + 10 * u) := f2 1 _ (by omega)
      have ih := fun P2 R2 => lay2 h hw hk fu (u + 1) P2 R2 (by omega) (by omega) (by omega)
      have hq2 : laQ P R (u + 1) P' R' := ⟨f1, f2, fun j j0 j1 => ⟨(f3 j j0 j1).1, (f3 j j0 j1).2.1, by have := (f3 j j0 j1).2.2; omega⟩, f4⟩
      generalize R 1 (231 + 10 * u) = A at *
      generalize R 1 (232 + 10 * u) = B at *
      generalize R 1 (233 + 10 * u) = C at *
      rw [if_pos c, if_pos c, rd_ok u0 (by omega), p1, ev_tieAt (by omega) (by omega), bI_k, rd_ok (x := 230 + 10 * u) (by omega) (by omega), r1]
      simp only [jn_ok, nm_ok]
      rw [w32_id (z := u + 1) (by omega) (by omega), w32_id (z := 230 + 10 * u + 1) (by omega) (by omega), w32_id (z := 230 + 10 * u + 2) (by omega) (by omega), w32_id (z := 230 + 10 * u + 3) (by omega) (by omega), show 230 + 10 * u + 1 = 231 + 10 * u by omega, show 230 + 10 * u + 2 = 232 + 10 * u by omega, show 230 + 10 * u + 3 = 233 + 10 * u by omega]
      by_cases d : R 1 (230 + 10 * u) = 3
      · rw [if_pos d, if_pos d]
        by_cases e : u = w
        · rw [if_pos e, if_pos (by omega)]
          exact ih _ _ hq2
        · have ab := w10 (by omega)
          obtain ⟨x1, x2, x3⟩ := f3 (18 * A + B) (by omega) (by omega)
          obtain ⟨y1, y2, y3⟩ := f3 (18 * B + A) (by omega) (by omega)
          rw [if_neg e, if_neg (by omega)]
          rw [rd_ok u0 (by omega), p2, rd_ok u0 (by omega), p3, w32_id (z := A * 18) (by omega) (by omega), w32_id (z := A * 18 + B) (by omega) (by omega), show A * 18 + B = 18 * A + B by omega, rd_ok (x := 18 * A + B) (by omega) (by omega), x1, rd_ok u0 (by omega), p4, wr_ok (by omega) (by omega), rd_ok u0 (by omega), up_nk (by omega), p3, rd_ok u0 (by omega), up_nk (by omega), p2, w32_id (z := B * 18) (by omega) (by omega), w32_id (z := B * 18 + A) (by omega) (by omega), show B * 18 + A = 18 * B + A by omega, rd_ok (x := 18 * B + A) (by omega) (by omega), up_ni (by omega), y1, rd_ok u0 (by omega), up_nk (by omega), p4, wr_ok (by omega) (by omega)]
          rw [rd_ok (x := 231 + 10 * u) (by omega) (by omega), r2, rd_ok (x := 232 + 10 * u) (by omega) (by omega), r3, w32_id (z := 18 * A) (by omega) (by omega), w32_id (z := 18 * A + B) (by omega) (by omega), rd_ok (x := 18 * A + B) (by omega) (by omega), rd_ok (x := 233 + 10 * u) (by omega) (by omega), r4, wr_ok (by omega) (by omega), rd_ok (x := 232 + 10 * u) (by omega) (by omega), up_nk (by omega), r3, rd_ok (x := 231 + 10 * u) (by omega) (by omega), up_nk (by omega), r2, w32_id (z := 18 * B) (by omega) (by omega), w32_id (z := 18 * B + A) (by omega) (by omega), rd_ok (x := 18 * B + A) (by omega) (by omega), up_ni (by omega), rd_ok (x := 233 + 10 * u) (by omega) (by omega), up_nk (by omega), r4, wr_ok (by omega) (by omega)]
          rw [w32_id (z := R' 11 (18 * A + B) + C) (by omega) (by omega), w32_id (z := R' 11 (18 * B + A) + C) (by omega) (by omega)]
          refine ih _ _ ⟨fun a i ha => by rw [up_nk (by omega), up_nk (by omega)]; exact f1 a i ha, fun a i ha => by rw [up_nk (by omega), up_nk (by omega)]; exact f2 a i ha, fun j j0 j1 => ?_, fun z z0 z1 => ?_⟩
          · by_cases q : j = 18 * B + A
            · rw [up_eq rfl q, up_eq rfl q]
              exact ⟨rfl, by omega, by omega⟩
            · rw [up_ni q, up_ni q]
              by_cases q : j = 18 * A + B
              · rw [up_eq rfl q, up_eq rfl q]
                exact ⟨rfl, by omega, by omega⟩
              · rw [up_ni q, up_ni q]
                obtain ⟨z1, z2, z3⟩ := f3 j j0 j1
                exact ⟨z1, z2, by omega⟩
          · rw [up_ni (by omega), up_ni (by omega)]
            exact f4 z z0 z1
      · rw [if_neg d, if_neg d]
        exact ih _ _ hq2
    · have ue : u = R 1 3 := by omega
      rw [if_neg c, if_neg c, bV_ok]
      exact hk P' R' (ue ▸ hq')
theorem lay_o {N : Int} {P R : Mem} (h : Sim N P R) {P1 R1 : Mem} (hp : flP P P1) (hr : flR R R1) {sd w w' : Int} (hw : w = w' ∨ (w < 0 ∧ w' < 0)) {k' : Mem → Option (Int × Mem)} {kk : Mem → Option (Int × Mem)} {Q2 : Int × Mem → Int × Mem → Prop} (hk : ∀ P2 R2, laQ P R (R 1 3) P2 R2 → O2 Q2 (kk P2) (k' R2)) : O2 Q2 (bnV (pWater_lay 100 sd w P1) kk) (lpX12_flowOf_2 sd w' (fun M3 => lpX12_flowOf_24 sd w' (fun M19 => lpX12_flowOf_105 w' k' FU 0 M19) FU 0 M3) FU 0 R1) := by
  obtain ⟨t1, t2, t3⟩ := h.t0
  obtain ⟨_, _, _, c4, c5, c6⟩ := h.c0
  unfold pWater_lay
  rw [ev_fill (by omega), bV_ok]
  refine rom0 (R := R1) (fun R2 b1 b2 => ?_) FU 0 R1 (by omega) (by omega) (by unfold FU; omega) (fun _ _ _ => rfl) (fun j j0 j1 => by omega)
  refine lay1 h (fun P3 R3 q => ?_) FU 0 _ R2 (by omega) c5 (by unfold FU; omega) ⟨fun a i ha => by rw [zr_nk (by omega)]; exact hp a i ha, fun a i ha => by rw [b1 a i (by omega)]; exact hr a i ha, fun j j0 j1 => ?_, fun c z0 z1 => ?_⟩
  · obtain ⟨q1, q2, q3, q4⟩ := q
    exact lay2 h hw hk FU 0 P3 R3 (by omega) t2 (by unfold FU; omega) ⟨q1, q2, fun j j0 j1 => q3 j j0 j1, fun c z0 z1 => ⟨(q4 c z0 z1).1, fun z => (q4 c z0 z1).2 (by omega)⟩⟩
  · rw [zr_in rfl j0 (by omega), b2 j j0 j1]
    omega
  · rw [b2 _ (by omega) (by omega)]
    omega
