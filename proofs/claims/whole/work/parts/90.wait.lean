/-! Calls: waiting, gates. -/
theorem bI_k {α : Type} {v : Int} {M : Mem} {k : Int → Mem → Option α} : bnI (some (v, M)) k = k v M := rfl
def wtP (P P' : Mem) : Prop := ∀ a i, ¬ (a = 155 ∨ a = 156) → P' a i = P a i
def wtR (R R' : Mem) : Prop := ∀ a i, ¬ a = 17 → R' a i = R a i
theorem Sim.wait {N N2 : Int} {P R P2 R2 : Mem} (h : Sim N P R) (hN : N ≤ N2) (hP : wtP P P2) (hR : wtR R R2) : Sim N2 P2 R2 :=
  h.idle hN (fun k hk i _ _ => hP _ _ (by unfold rlv at hk; omega)) (fun j _ _ => hR _ _ (by omega)) ⟨fun j hj => hP _ _ (by omega), hP _ _ (by omega), fun a i ha => hP _ _ (by omega)⟩ ⟨fun j hj => hR _ _ (by omega), fun a i ha => hR _ _ (by omega)⟩ ⟨hP _ _ (by omega), hP _ _ (by omega), fun a i u0 u1 => hP _ _ (by omega)⟩
def WaQ (P R : Mem) (s C : Int) (P' R' : Mem) : Prop := wtP P P' ∧ wtR R R' ∧ (∀ g, 0 ≤ g → g < 8 → P' 155 g = nx s g) ∧ ∀ g, 0 ≤ g → g < 8 → P' 156 g = R' 17 g ∧ 0 ≤ R' 17 g ∧ R' 17 g ≤ C
section Waits
variable {α β : Type} {Q : α → β → Prop} {N : Int} {P R : Mem} {s : Int}
theorem Sim.fe {N : Int} {P R : Mem} (h : Sim N P R) {j : Int} (j0 : 0 ≤ j) (j1 : j < 104) : P 154 j = R 1 (3900 + j) ∧ 0 ≤ R 1 (3900 + j) ∧ R 1 (3900 + j) ≤ 99 := h.1.2.2.2.2.2.2.2.2.2.2.2.1 j j0 j1
theorem wa26 {Q : Int × Mem → Int × Mem → Prop} (h : Sim N P R) (s0 : 1 ≤ s) (s1 : s < 256) {C e y y' : Int} {k k' : Mem → Option (Int × Mem)} (e0 : 0 ≤ e) (e1 : e < 12) (z0 : 0 ≤ C) (z1 : C ≤ 9504) (hk : ∀ P2 R2, WaQ P R s (C + 792) P2 R2 → O2 Q (k P2) (k' R2)) : ∀ (fu : Nat) (u : Int) (P' R' : Mem), 0 ≤ u → u ≤ 8 → (8 - u).toNat < fu → WaQ P R s (C + 99 * u) P' R' → O2 Q (lpX2_waitOf_26 100 y e k fu u P') (lpX12_waitingOf_34 s y' e k' fu u R')
  | 0, u, P', R', u0, u1, hf, hq => by omega
  | fu + 1, u, P', R', u0, u1, hf, hq => by
    have hq' := hq
    obtain ⟨f1, f2, f3, f4⟩ := hq
    rw [lpX2_waitOf_26, lpX12_waitingOf_34]
    by_cases c : u < 8
    · have nb := nx_bd s0 s1 u0 c
      obtain ⟨g1, g2, g3⟩ := h.fe (j := 13 * u + e) (by omega) (by omega)
      obtain ⟨r1, r2, r3⟩ := f4 _ nb.1 nb.2
      have eP : P' (100 + 54) (u * 13 + e) = R 1 (3900 + (13 * u + e)) := by rw [← g1, show u * 13 + e = 13 * u + e by omega]; exact f1 154 _ (by omega)
      have eR : R' 1 (3900 + 13 * u + e) = R 1 (3900 + (13 * u + e)) := by rw [show 3900 + 13 * u + e = 3900 + (13 * u + e) by omega]; exact f2 1 _ (by omega)
      have eN : P' (100 + 55) u = nx s u := f3 u u0 c
      have e6 : P' (100 + 56) (nx s u) = R' 17 (nx s u) := r1
      have eO := ev_openFor (R := R') s0 s1 u0 c
      generalize nx s u = g at *
      generalize R 1 (3900 + (13 * u + e)) = w at *
      have ih := fun P2 R2 => wa26 h s0 s1 (y := y) (y' := y') e0 e1 z0 z1 hk fu (u + 1) P2 R2 (by omega) (by omega) (by omega)
      rw [if_pos c, if_pos c, rd_ok u0 (by omega), eN, rd_ok nb.1 (by omega), e6, show w32 (w32 (u * 13) + e) = u * 13 + e by rw [w32_id (z := u * 13) (by omega) (by omega), w32_id (by omega) (by omega)], rd_ok (x := u * 13 + e) (by omega) (by omega), eP, wr_ok nb.1 (by omega), nm_ok, w32_id (z := u + 1) (by omega) (by omega), eO, bI_k]
      rw [rd_ok nb.1 (by omega), show w32 (w32 (3900 + w32 (13 * u)) + e) = 3900 + 13 * u + e by rw [w32_id (z := 13 * u) (by omega) (by omega), w32_id (z := 3900 + 13 * u) (by omega) (by omega), w32_id (by omega) (by omega)], rd_ok (x := 3900 + 13 * u + e) (by omega) (by omega), eR, wr_ok nb.1 (by omega), nm_ok, w32_id (z := R' 17 g + w) (by omega) (by omega)]
      refine ih _ _ ⟨fun a i ha => by rw [up_nk (by omega)]; exact f1 a i ha, fun a i ha => by rw [up_nk (by omega)]; exact f2 a i ha, fun j j0 j1 => by rw [up_nk (by omega)]; exact f3 j j0 j1, fun j j0 j1 => ?_⟩
      obtain ⟨x1, x2, x3⟩ := f4 j j0 j1
      by_cases q : j = g
      · rw [up_eq rfl q, up_eq rfl q]
        exact ⟨rfl, by omega, by omega⟩
      · rw [up_ni q, up_ni q]
        exact ⟨x1, x2, by omega⟩
    · have ue : u = 8 := by omega
      subst ue
      rw [if_neg (by omega), if_neg (by omega)]
      exact hk _ _ hq'
theorem wa69 {Q : Int × Mem → Int × Mem → Prop} (h : Sim N P R) {C D y y' : Int} {k k' : Int → Mem → Option (Int × Mem)} (z0 : 0 ≤ C) (z1 : C ≤ 9504) (d1 : D ≤ 9504 * 96) (hk : ∀ w P2 R2, 0 ≤ w → w ≤ D + 76032 → WaQ P R s C P2 R2 → O2 Q (k w P2) (k' w R2)) : ∀ (fu : Nat) (u v : Int) (P' R' : Mem), 0 ≤ u → u ≤ 8 → (8 - u).toNat < fu → 0 ≤ v → v ≤ D + 9504 * u → WaQ P R s C P' R' → O2 Q (lpX2_waitOf_69 100 y k fu v u P') (lpX12_waitingOf_81 s y' k' fu v u R')
  | 0, u, v, P', R', u0, u1, hf, v0, v1, hq => by omega
  | fu + 1, u, v, P', R', u0, u1, hf, v0, v1, hq => by
    have hq' := hq
    obtain ⟨f1, f2, f3, f4⟩ := hq
    rw [lpX2_waitOf_69, lpX12_waitingOf_81]
    by_cases c : u < 8
    · obtain ⟨g1, g2, g3⟩ := h.fe (j := 13 * u + 12) (by omega) (by omega)
      obtain ⟨r1, r2, r3⟩ := f4 _ u0 c
      have eP : P' (100 + 54) (u * 13 + 12) = R 1 (3900 + (13 * u + 12)) := by rw [← g1, show u * 13 + 12 = 13 * u + 12 by omega]; exact f1 154 _ (by omega)
      have eR : R' 1 (3900 + 13 * u + 12) = R 1 (3900 + (13 * u + 12)) := by rw [show 3900 + 13 * u + 12 = 3900 + (13 * u + 12) by omega]; exact f2 1 _ (by omega)
      have e6 : P' (100 + 56) u = R' 17 u := r1
      generalize R 1 (3900 + (13 * u + 12)) = w at *
      have ez : R' 17 u - (if R' 17 u < w then R' 17 u else w) = zmax 0 (R' 17 u - w) := by
        unfold zmax
        split <;> split <;> omega
      have zb : 0 ≤ zmax 0 (R' 17 u - w) ∧ zmax 0 (R' 17 u - w) ≤ R' 17 u := by
        unfold zmax
        split <;> omega
      rw [if_pos c, if_pos c, rd_ok u0 (by omega), e6, show w32 (w32 (u * 13) + 12) = u * 13 + 12 by rw [w32_id (z := u * 13) (by omega) (by omega), w32_id (by omega) (by omega)], rd_ok (x := u * 13 + 12) (by omega) (by omega), eP, w32_id (z := R' 17 u - w) (by omega) (by omega), wr_ok u0 (by omega), rd_ok u0 (by omega), up_eq rfl rfl, nm_ok, nm_ok]
      rw [rd_ok u0 (by omega), rd_ok u0 (by omega), show w32 (w32 (3900 + w32 (13 * u)) + 12) = 3900 + 13 * u + 12 by rw [w32_id (z := 13 * u) (by omega) (by omega), w32_id (z := 3900 + 13 * u) (by omega) (by omega), w32_id (by omega) (by omega)], rd_ok (x := 3900 + 13 * u + 12) (by omega) (by omega), eR, ev_least, bI_k, ez]
      generalize zmax 0 (R' 17 u - w) = z at *
      rw [w32_id (z := z) (by omega) (by omega), wr_ok u0 (by omega), rd_ok u0 (by omega), up_eq rfl rfl, nm_ok, nm_ok, w32_id (z := v + z) (by omega) (by omega), w32_id (z := u + 1) (by omega) (by omega)]
      refine wa69 h z0 z1 d1 hk fu (u + 1) (v + z) _ _ (by omega) (by omega) (by omega) (by omega) (by omega) ⟨fun a i ha => by rw [up_nk (by omega)]; exact f1 a i ha, fun a i ha => by rw [up_nk (by omega)]; exact f2 a i ha, fun j j0 j1 => by rw [up_nk (by omega)]; exact f3 j j0 j1, fun j j0 j1 => ?_⟩
      obtain ⟨x1, x2, x3⟩ := f4 j j0 j1
      by_cases q : j = u
      · rw [up_eq rfl q, up_eq rfl q]
        exact ⟨rfl, by omega, by omega⟩
      · rw [up_ni q, up_ni q]
        exact ⟨x1, x2, by omega⟩
    · have ue : u = 8 := by omega
      subst ue
      rw [if_neg (by omega), if_neg (by omega)]
      exact hk _ _ _ v0 (by omega) hq'
theorem WaQ.mono {C D : Int} {P' R' : Mem} (h : WaQ P R s C P' R') (e : C ≤ D) : WaQ P R s D P' R' := ⟨h.1, h.2.1, h.2.2.1, fun g g0 g1 => ⟨(h.2.2.2 g g0 g1).1, (h.2.2.2 g g0 g1).2.1, Int.le_trans (h.2.2.2 g g0 g1).2.2 e⟩⟩
theorem wa17 (h : Sim N P R) (s0 : 1 ≤ s) (s1 : s < 256) : ∀ (fu : Nat) (e v : Int) (P' R' : Mem), 0 ≤ e → e ≤ 12 → (12 - e).toNat < fu → 0 ≤ v → v ≤ 76032 * e → WaQ P R s (792 * e) P' R' → O2 (fun (a b : Int × Mem) => a.1 = b.1 ∧ 0 ≤ a.1 ∧ a.1 ≤ 912384 ∧ wtP P a.2 ∧ wtR R b.2) (lpX2_waitOf_17 100 fu v e P') (lpX12_waitingOf_25 s fu v e R')
  | 0, e, v, P', R', e0, e1, hf, v0, v1, hq => by omega
  | fu + 1, e, v, P', R', e0, e1, hf, v0, v1, hq => by
    rw [lpX2_waitOf_17, lpX12_waitingOf_25]
    by_cases c : e < 12
    · rw [if_pos c, if_pos c]
      refine wa26 h s0 s1 (C := 792 * e) e0 c (by omega) (by omega) (fun P2 R2 q2 => ?_) FU 0 P' R' (by omega) (by omega) (by unfold FU; omega) (hq.mono (by omega))
      refine wa69 (s := s) h (C := 792 * e + 792) (D := v) (by omega) (by omega) (by omega) (fun w P3 R3 w0 w1 q3 => ?_) FU 0 v P2 R2 (by omega) (by omega) (by unfold FU; omega) v0 (by omega) q2
      rw [nm_ok, nm_ok, w32_id (z := e + 1) (by omega) (by omega)]
      exact wa17 h s0 s1 fu (e + 1) w P3 R3 (by omega) (by omega) (by omega) w0 (by omega) (q3.mono (by omega))
    · rw [if_neg c, if_neg c]
      exact o2_ret ⟨rfl, v0, by omega, hq.1, hq.2.1⟩
theorem wf2 {A : Option α} {Q : α → Int × Mem → Prop} {y : Int} {k : Mem → Option (Int × Mem)} (hk : ∀ R2, wtR R R2 → (∀ g, 0 ≤ g → g < 8 → R2 17 g = 0) → O2 Q A (k R2)) : ∀ (fu : Nat) (u : Int) (R' : Mem), 0 ≤ u → u ≤ 8 → (8 - u).toNat < fu → wtR R R' → (∀ g, 0 ≤ g → g < u → R' 17 g = 0) → O2 Q A (lpX12_waitingOf_2 y k fu u R')
  | 0, u, R', u0, u1, hf, hr, hz => by omega
  | fu + 1, u, R', u0, u1, hf, hr, hz => by
    rw [lpX12_waitingOf_2]
    by_cases c : u < 8
    · rw [if_pos c, wr_ok u0 (by omega), nm_ok, w32_id (z := u + 1) (by omega) (by omega)]
      refine wf2 hk fu (u + 1) _ (by omega) (by omega) (by omega) (fun a i ha => by rw [up_nk ha]; exact hr a i ha) (fun g g0 g1 => ?_)
      by_cases q : g = u
      · rw [up_eq rfl q]
      · rw [up_ni q]
        exact hz g g0 (by omega)
    · rw [if_neg c]
      exact hk _ hr fun g g0 g1 => hz g g0 (by omega)
theorem wait_o (h : Sim N P R) (s0 : 1 ≤ s) (s1 : s < 256) {P' R' : Mem} (hp : wtP P P') (hr : wtR R R') : O2 (fun (a b : Int × Mem) => a.1 = b.1 ∧ 0 ≤ a.1 ∧ a.1 ≤ 912384 ∧ wtP P a.2 ∧ wtR R b.2) (pFeast_waitOf 100 s P') (rM_waitingOf s R') := by
  obtain ⟨q, a1, a2, a3⟩ := ev_send (b := 100) (M := P') s0 s1
  unfold pFeast_waitOf rM_waitingOf
  rw [a1, bV_ok, ev_fill (by omega), bV_ok]
  refine wf2 (R := R) (fun R2 b1 b2 => ?_) FU 0 R' (by omega) (by omega) (by unfold FU; omega) hr (fun g g0 g1 => by omega)
  exact wa17 h s0 s1 FU 0 0 _ R2 (by omega) (by omega) (by unfold FU; omega) (by omega) (by omega) ⟨fun a i ha => by rw [zr_nk (by omega), a2 a i (by omega)]; exact hp a i ha, b1, fun g g0 g1 => by rw [zr_nk (by omega)]; exact a3 g g0 g1, fun g g0 g1 => by rw [zr_in rfl g0 (by omega), b2 g g0 g1]; omega⟩
theorem ones_lp {x : Int} {M : Mem} (x0 : 0 ≤ x) (x1 : x < 256) : ∀ (fu : Nat) (u : Int), 0 ≤ u → u ≤ 8 → (8 - u).toNat < fu → lpX12_ones_4 x fu (cz (tb x) u.toNat) u M = some (cz (tb x) 8, M)
  | 0, u, u0, u1, hf => by omega
  | fu + 1, u, u0, u1, hf => by
    have bd := cz_bd (f := tb x) (n := u.toNat)
    rw [lpX12_ones_4]
    by_cases c : u < 8
    · have e : w32 (cz (tb x) u.toNat + bAnd (bShr x u) 1) = cz (tb x) (u + 1).toNat := by
        rw [bit_tb x0 (by omega) u0 (by omega), cz_step u0]
        split <;> exact w32_id (by omega) (by omega)
      rw [if_pos c, nm_ok, nm_ok, e, w32_id (z := u + 1) (by omega) (by omega)]
      exact ones_lp x0 x1 fu (u + 1) (by omega) (by omega) (by omega)
    · have ue : u = 8 := by omega
      subst ue
      rw [if_neg c]
      rfl
theorem ev_ones {x : Int} {M : Mem} (x0 : 0 ≤ x) (x1 : x < 256) : rM_ones x M = some (cz (tb x) 8, M) := ones_lp x0 x1 FU 0 (by omega) (by omega) (by unfold FU; omega)
theorem ev_bit8 {x : Int} {M : Mem} (x0 : 0 ≤ x) (x1 : x < 256) : j_bitCount_0f7a4 x M = some (cz (tb x) 8, M) := by
  rw [ev_bitC x0 (by omega), show 24 = 8 + 16 from rfl, cz_hi x0 (by omega) 16]
theorem gates_lp (h : Sim N P R) {y : Int} : ∀ (fu : Nat) (u b w : Int) (P' R' : Mem), 2 ≤ u → u ≤ 256 → (256 - u).toNat < fu → 1 ≤ b → b < 256 → 0 ≤ w → w ≤ 912384 → wtP P P' → wtR R R' → O2 (fun (a b : Int × Mem) => a.1 = b.1 ∧ wtP P a.2 ∧ wtR R b.2) (lpX2_bestSet_7 100 y fu b w u P') (lpX12_gates_26 y (fu + 1) b w u R')
  | 0, u, b, w, P', R', u0, u1, hf, b0, b1, w0, w1, hp, hr => by omega
  | fu + 1, u, b, w, P', R', u0, u1, hf, b0, b1, w0, w1, hp, hr => by
    have nb : ¬ b = 0 := by omega
    have n1 : ¬ (1 : Int) = 0 := by omega
    have z0 : (0 : Int) = 0 := rfl
    rw [lpX2_bestSet_7, lpX12_gates_26]
    by_cases c : u < 256
    · have ih := fun b w P2 R2 => gates_lp h (y := y) fu (u + 1) b w P2 R2 (by omega) (by omega) (by omega)
      rw [if_pos c, if_pos c, ev_bit8 (by omega) c, bI_k, ev_ones (by omega) c, bI_k]
      simp only [jn_ok, nm_ok]
      rw [w32_id (z := u + 1) (by omega) (by omega), w32_id (z := w + 1) (by omega) (by omega)]
      by_cases d : y < cz (tb u) 8
      · rw [if_pos d, if_pos d, if_neg (show ¬ w + 1 < w by omega), if_neg (show ¬ w + 1 = w by omega)]
        exact ih _ _ _ _ b0 b1 w0 w1 hp hr
      · rw [if_neg d, if_neg d]
        refine o2_bI (wait_o h (by omega) c hp hr) fun a2 b2 q => ?_
        obtain ⟨x, P2⟩ := a2
        obtain ⟨x2, R2⟩ := b2
        obtain ⟨q1, q2, q3, q4, q5⟩ := q
        dsimp only at q1 q2 q3 q4 q5 ⊢
        subst q1
        by_cases k1 : x < w
        · rw [if_pos k1, if_pos k1, if_neg nb, if_neg n1]
          exact ih _ _ _ _ (by omega) c q2 q3 q4 q5
        · by_cases k2 : x = w
          · rw [if_neg k1, if_neg k1, if_pos k2, if_pos k2, ev_bit8 (x := u) (by omega) c, bI_k, ev_bit8 (x := b) (by omega) b1, bI_k, ev_ones (x := u) (by omega) c, bI_k, ev_ones (x := b) (by omega) b1, bI_k]
            by_cases k3 : cz (tb u) 8 < cz (tb b) 8
            · rw [if_pos k3, if_pos k3, if_neg nb, if_neg n1]
              exact ih _ _ _ _ (by omega) c q2 q3 q4 q5
            · rw [if_neg k3, if_neg k3, if_neg nb, if_pos trivial]
              exact ih _ _ _ _ b0 b1 w0 w1 q4 q5
          · rw [if_neg k1, if_neg k1, if_neg k2, if_neg k2, if_neg nb, if_pos trivial]
            exact ih _ _ _ _ b0 b1 w0 w1 q4 q5
    · rw [if_neg c, if_neg c]
      exact o2_ret ⟨rfl, hp, hr⟩
end Waits
theorem s_waiting {N N2 : Int} {P R : Mem} (h : Sim N P R) (hN : N ≤ N2) {x : Int} : O2 (Qa (Sim N2)) (pTop_waiting x P) (rM_waiting x R) := by
  unfold pTop_waiting rM_waiting
  rw [ev_within, bI_k, ev_isIn, bI_k]
  by_cases c : 1 ≤ x ∧ x ≤ 255
  · refine l_zp c (r_zp c ?_)
    refine o2_bI (wait_o h c.1 (by omega) (P' := P) (R' := R) (fun _ _ _ => rfl) (fun _ _ _ => rfl)) fun a b q => ?_
    exact o2_r q.1 (h.wait hN q.2.2.2.1 q.2.2.2.2)
  · refine l_zn c (r_zn c ?_)
    exact o2_r rfl (h.up hN)
theorem s_gates {N N2 : Int} {P R : Mem} (h : Sim N P R) (hN : N ≤ N2) {y : Int} : O2 (Qa (Sim N2)) (pTop_gates y P) (rM_gates y R) := by
  unfold pTop_gates rM_gates
  rw [ev_within, bI_k, ev_isIn, bI_k]
  by_cases c : 1 ≤ y ∧ y ≤ 8
  · refine l_zp c (r_zp c ?_)
    have key : O2 (fun (a b : Int × Mem) => a.1 = b.1 ∧ wtP P a.2 ∧ wtR R b.2) (pFeast_bestSet 100 y P) (bnI (rM_waitingOf 1 R) fun v4 M3 => lpX12_gates_26 y FU 1 v4 2 M3) := by
      unfold pFeast_bestSet
      rw [show FU = 999999 + 1 from rfl, lpX2_bestSet_7, if_pos (show (1 : Int) < 256 by omega), ev_bit8 (x := 1) (by omega) (by omega), bI_k]
      simp only [jn_ok, nm_ok]
      have b1 : cz (tb 1) 8 = 1 := by decide
      have b0 : cz (tb 0) 8 = 0 := by decide
      rw [if_neg (show ¬ y < cz (tb 1) 8 by omega)]
      refine o2_bI (wait_o h (s := 1) (by omega) (by omega) (P' := P) (R' := R) (fun _ _ _ => rfl) (fun _ _ _ => rfl)) fun a2 b2 q => ?_
      obtain ⟨x, P2⟩ := a2
      obtain ⟨x2, R2⟩ := b2
      obtain ⟨q1, q2, q3, q4, q5⟩ := q
      dsimp only at q1 q2 q3 q4 q5 ⊢
      subst q1
      rw [if_neg (show ¬ x < 0 by omega), w32_id (z := 1 + 1) (by omega) (by omega)]
      have fin := gates_lp h (y := y) 999999 2 1 x P2 R2 (by omega) (by omega) (by omega) (by omega) (by omega) q2 q3 q4 q5
      by_cases k2 : x = 0
      · rw [if_pos k2, ev_bit8 (x := 1) (by omega) (by omega), bI_k, ev_bit8 (x := 0) (by omega) (by omega), bI_k, if_neg (show ¬ cz (tb 1) 8 < cz (tb 0) 8 by omega), if_pos trivial]
        exact fin
      · rw [if_neg k2, if_pos trivial]
        exact fin
    obtain ⟨a, b, e1, e2, e3, e4, e5⟩ := key
    rw [e1, e2, bI_ok]
    exact o2_ret ⟨e3, h.wait hN e4 e5⟩
  · refine l_zn c (r_zn c ?_)
    exact o2_r rfl (h.up hN)
