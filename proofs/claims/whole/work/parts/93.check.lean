/-! Call: check. -/
def ckP (P P' : Mem) : Prop := ∀ a i, ¬ ((a = 157 ∧ (i = 5 ∨ i = 7 ∨ i = 8 ∨ i = 9)) ∨ a = 161 ∨ a = 162 ∨ a = 14 ∨ 300 ≤ a) → P' a i = P a i
def ckR (R R' : Mem) : Prop := ∀ a i, ¬ ((a = 0 ∧ (i = 32 ∨ i = 33 ∨ i = 34 ∨ i = 38)) ∨ a = 18 ∨ a = 19 ∨ a = 21 ∨ a = 3 ∨ a = 1) → R' a i = R a i
theorem Sim.chk {N N2 : Int} {P R P2 R2 : Mem} (h : Sim N P R) (hN : N ≤ N2) (hP : ckP P P2) (hR : ckR R R2) (hs : eqS 0 4010 (R 1) (R2 1)) : Sim N2 P2 R2 :=
  h.idle hN (fun k hk i i0 i1 => hP _ _ (by unfold rlv at hk; have hz : k = 57 → i < 1 := (fun z => by subst z; exact i1); omega)) hs ⟨fun j hj => hP _ _ (by omega), hP _ _ (by omega), fun a i ha => hP _ _ (by omega)⟩ ⟨fun j hj => hR _ _ (by omega), fun a i ha => hR _ _ (by omega)⟩ ⟨hP _ _ (by omega), hP _ _ (by omega), fun a i u0 u1 => hP _ _ (by omega)⟩
def cD (D : Int) (P' R' : Mem) : Prop := R' 0 38 = D ∧ ∀ j, 0 ≤ j → j < D → P' 14 j = R' 21 j
theorem cmp_o {Q : Mem → Mem → Prop} {m D : Int} {P' R' : Mem} (m1 : m ≤ 60) (d1 : D ≤ 60) (hm : ∀ i, 0 ≤ i → i < m → P' 13 i = R' 20 i) (hD : cD D P' R') (hQ : Q P' R') : ∀ (fu : Nat) (u : Int), 0 ≤ u → u ≤ m → u ≤ D → (m - u).toNat < fu → O2 (Qa Q) (lpX11_firstOff_2 m D (fun M4 => if m = D then some (0, M4) else some (w32 (1 + zmin m D), M4)) fu u P') (lpX12_check_55 m (fun v10 M11 => if v10 = m then (if v10 = M11 0 38 then some (0, M11) else some (w32 (1 + v10), M11)) else some (w32 (1 + v10), M11)) fu u R')
  | 0, u, u0, um, ud, hf => by omega
  | fu + 1, u, u0, um, ud, hf => by
    obtain ⟨z1, z2⟩ := hD
    rw [lpX11_firstOff_2, lpX12_check_55]
    by_cases c : u < m
    · rw [if_pos c, if_pos c]
      by_cases d : u < D
      · rw [if_pos d, if_pos (show u < R' 0 38 by omega), rd_ok u0 (by omega), rd_ok u0 (by omega), rd_ok u0 (by omega), rd_ok u0 (by omega), hm u u0 c, z2 u u0 d]
        by_cases x : R' 20 u = R' 21 u
        · rw [if_pos x, if_pos x, nm_ok, nm_ok, w32_id (z := u + 1) (by omega) (by omega)]
          exact cmp_o m1 d1 hm ⟨z1, z2⟩ hQ fu (u + 1) (by omega) (by omega) (by omega) (by omega)
        · rw [if_neg x, if_neg x]
          try dsimp only
          rw [if_neg (show ¬ u = m by omega)]
          exact o2_r rfl hQ
      · have ue : D = u := by omega
        have hz : zmin m D = u := by unfold zmin; rw [if_pos (by omega)]; exact ue
        rw [if_neg d, if_neg (show ¬ u < R' 0 38 by omega)]
        try dsimp only
        rw [if_neg (show ¬ m = D by omega), if_neg (show ¬ u = m by omega), hz]
        exact o2_r rfl hQ
    · have ue : m = u := by omega
      have hz : zmin m D = u := by unfold zmin; split <;> omega
      rw [if_neg c, if_neg c]
      try dsimp only
      rw [if_pos ue.symm]
      by_cases d : m = D
      · rw [if_pos d, if_pos (by omega)]
        exact o2_r rfl hQ
      · rw [if_neg d, if_neg (by omega), hz]
        exact o2_r rfl hQ
theorem ev_due {M : Mem} {x y D : Int} (h : M 0 38 = D) (d0 : 0 ≤ D) (d1 : D + 1 < 60) : rM_dueIs x y M = some (upM (upM (upM M 21 D x) 21 (D + 1) y) 0 38 (D + 2)) := by
  unfold rM_dueIs
  rw [h, wr_ok d0 (by omega), up_nk (by omega), h, w32_id (z := D + 1) (by omega) (by omega), wr_ok (by omega) (by omega), wf_ok, up_nk (by omega), up_nk (by omega), h, w32_id (z := D + 2) (by omega) (by omega)]
theorem cD_add {D x y : Int} {P' R' : Mem} (h : cD D P' R') (d0 : 0 ≤ D) : cD (D + 2) (upM (upM P' 14 D x) 14 (D + 1) y) (upM (upM (upM R' 21 D x) 21 (D + 1) y) 0 38 (D + 2)) := by
  refine ⟨up_eq rfl rfl, fun j j0 j1 => ?_⟩
  rw [up_nk (a := 21) (by omega)]
  by_cases c : j = D + 1
  · rw [up_eq rfl c, up_eq rfl c]
  · rw [up_ni c, up_ni c]
    by_cases d : j = D
    · rw [up_eq rfl d, up_eq rfl d]
    · rw [up_ni d, up_ni d]
      exact h.2 j j0 (by omega)
theorem rows_lp {N : Int} {P R : Mem} (h : Sim N P R) {Q : Int × Mem → Int × Mem → Prop} {x : Int} {P1 R1 : Mem} {k k' : Mem → Option (Int × Mem)} (x1 : x ≤ 7) (hb : ∀ i, 0 ≤ i → i < x → P1 161 i = R1 19 i ∧ 0 ≤ R1 19 i ∧ R1 19 i < R 1 7) (hp : oP P P1) (hr : oR R R1) (hk : ∀ P2 R2, (∀ a i, ¬ a = 14 → P2 a i = P1 a i) → (∀ a i, ¬ (a = 21 ∨ (a = 0 ∧ i = 38)) → R2 a i = R1 a i) → cD (2 * x) P2 R2 → O2 Q (k P2) (k' R2)) : ∀ (fu : Nat) (u w : Int) (P' R' : Mem), 0 ≤ u → u ≤ x → (x - u).toNat < fu → 0 ≤ w → w ≤ 99 * u → (∀ a i, ¬ a = 14 → P' a i = P1 a i) → (∀ a i, ¬ (a = 21 ∨ (a = 0 ∧ i = 38)) → R' a i = R1 a i) → cD (2 * u) P' R' → O2 Q (lpX11_orderRows_29 x k fu w u P') (lpX12_rowsOfOrder_29 x k' fu w u R')
  | 0, u, w, P', R', u0, u1, hf, w0, w1, f1, f2, f3 => by omega
  | fu + 1, u, w, P', R', u0, u1, hf, w0, w1, f1, f2, f3 => by
    rw [lpX11_orderRows_29, lpX12_rowsOfOrder_29]
    by_cases c : u < x
    · obtain ⟨b1, b2, b3⟩ := hb u u0 c
      have k7 := h.k0
      obtain ⟨_, _, _, _, _, _, w7, w8, w9⟩ := h.cls b2 b3
      have a1 : P' (100 + 61) u = R1 19 u := by rw [f1 _ _ (by omega)]; exact b1
      have a2 : P' (100 + 60) (R1 19 u) = R 1 (3832 + 3 * R1 19 u) := by rw [f1 _ _ (by omega), hp _ _ (by omega)]; exact w7
      have a3 : R' 19 u = R1 19 u := f2 19 u (by omega)
      have a4 : R' 1 (3832 + 3 * R1 19 u) = R 1 (3832 + 3 * R1 19 u) := by rw [f2 1 _ (by omega), hr 1 _ (by omega)]
      generalize R1 19 u = cl0 at *
      generalize R 1 (3832 + 3 * cl0) = V at *
      have z1 : w32 (w32 (3830 + w32 (3 * cl0)) + 2) = 3832 + 3 * cl0 := by rw [w32_id (z := 3 * cl0) (by omega) (by omega), w32_id (z := 3830 + 3 * cl0) (by omega) (by omega), w32_id (by omega) (by omega)]; omega
      rw [if_pos c, if_pos c, rd_ok u0 (by omega), a1, rd_ok b2 (by omega), a2, nm_ok, w32_id (z := 2 * u) (by omega) (by omega), w32_id (z := 2 * u + 1) (by omega) (by omega), wr_ok (by omega) (by omega), wr_ok (by omega) (by omega), nm_ok, rd_ok u0 (by omega), a3, z1, rd_ok (by omega) (by omega), a4, nm_ok, rd_ok u0 (by omega), a3, w32_id (z := w + V) (by omega) (by omega), ev_due f3.1 (by omega) (by omega), bV_ok, nm_ok, w32_id (z := u + 1) (by omega) (by omega)]
      have f4 := cD_add (x := cl0) (y := w + V) f3 (by omega)
      rw [show 2 * u + 2 = 2 * (u + 1) by omega] at f4 ⊢
      exact rows_lp h x1 hb hp hr hk fu (u + 1) (w + V) _ _ (by omega) (by omega) (by omega) (by omega) (by omega) (fun a i ha => by rw [up_nk (by omega), up_nk (by omega)]; exact f1 a i ha) (fun a i ha => by rw [upM_ne (by omega), up_nk (by omega), up_nk (by omega)]; exact f2 a i ha) f4
    · have ue : u = x := by omega
      rw [if_neg c, if_neg c]
      exact hk P' R' f1 f2 (ue ▸ f3)
theorem aside_lp {α : Type} {y : Int} {k : Mem → Option (Int × Mem)} {Q : α → Int × Mem → Prop} {A : Option α} {R : Mem} (hk : ∀ q, (∀ a i, ¬ (a = 1 ∨ a = 3) → q a i = R a i) → (∀ i, 0 ≤ i → i < 4210 → q 3 i = R 1 i ∧ q 1 i = R 2 i) → O2 Q A (k q)) : ∀ (fu : Nat) (u : Int) (M : Mem), 0 ≤ u → u ≤ 4210 → (4210 - u).toNat < fu → (∀ a i, ¬ (a = 1 ∨ a = 3) → M a i = R a i) → (∀ i, u ≤ i → M 1 i = R 1 i) → (∀ i, 0 ≤ i → i < u → M 3 i = R 1 i ∧ M 1 i = R 2 i) → O2 Q A (lpX12_rowsOfDays_27 y k fu u M)
  | 0, u, M, u0, u1, hf, f1, f2, f3 => by omega
  | fu + 1, u, M, u0, u1, hf, f1, f2, f3 => by
    rw [lpX12_rowsOfDays_27]
    by_cases c : u < 4210
    · rw [if_pos c, rd_ok u0 (by omega), wr_ok u0 (by omega), rd_ok u0 (by omega), wr_ok u0 (by omega), nm_ok, w32_id (by omega) (by omega)]
      refine aside_lp hk fu (u + 1) _ (by omega) (by omega) (by omega) (fun a i ha => by rw [up_nk (by omega), up_nk (by omega)]; exact f1 a i ha) (fun i i0 => by rw [up_ni (by omega), up_nk (by omega)]; exact f2 i (by omega)) (fun i i0 i1 => ?_)
      by_cases d : i = u
      · rw [up_nk (a := 3) (by omega), up_eq rfl d, up_eq rfl d, up_nk (by omega), f2 u (by omega), f1 2 u (by omega), d]
        exact ⟨rfl, rfl⟩
      · rw [up_nk (a := 3) (by omega), up_ni d, up_ni d, up_nk (by omega)]
        exact f3 i i0 (by omega)
    · rw [if_neg c]
      exact hk M f1 fun i i0 i1 => f3 i i0 (by omega)
theorem unside_lp {R : Mem} : ∀ (fu : Nat) (u : Int) (M : Mem), 0 ≤ u → u ≤ 4210 → (4210 - u).toNat < fu → (∀ a i, ¬ a = 1 → M a i = R a i) → (∀ i, 0 ≤ i → i < u → M 1 i = R 3 i) → ∃ q, lpX12_rowsOfDays_95 fu u M = some (0, q) ∧ (∀ a i, ¬ a = 1 → q a i = R a i) ∧ ∀ i, 0 ≤ i → i < 4210 → q 1 i = R 3 i
  | 0, u, M, u0, u1, hf, f1, f3 => by omega
  | fu + 1, u, M, u0, u1, hf, f1, f3 => by
    rw [lpX12_rowsOfDays_95]
    by_cases c : u < 4210
    · rw [if_pos c, rd_ok u0 (by omega), wr_ok u0 (by omega), nm_ok, w32_id (by omega) (by omega)]
      refine unside_lp fu (u + 1) _ (by omega) (by omega) (by omega) (fun a i ha => by rw [up_nk ha]; exact f1 a i ha) (fun i i0 i1 => ?_)
      by_cases d : i = u
      · rw [up_eq rfl d, f1 3 u (by omega), d]
      · rw [up_ni d]
        exact f3 i i0 (by omega)
    · rw [if_neg c]
      exact ⟨M, rfl, f1, fun i i0 i1 => f3 i i0 (by omega)⟩
theorem days_lp {N : Int} {Q : Int × Mem → Int × Mem → Prop} {n : Int} {P1 R1 : Mem} {k' : Mem → Option (Int × Mem)} (n1 : n ≤ 24) (hk : ∀ P2 R2, (∀ a i, ¬ (a = 14 ∨ 300 ≤ a) → P2 a i = P1 a i) → (∀ a i, ¬ (a = 1 ∨ a = 21 ∨ (a = 0 ∧ i = 38)) → R2 a i = R1 a i) → cD (2 * n) P2 R2 → O2 Q (some (2 * n, P2)) (k' R2)) : ∀ (fu : Nat) (u : Int) (P' R' : Mem), 0 ≤ u → u ≤ n → (n - u).toNat < fu → Cty N P' 300 (R' 1) → R' 1 0 ≤ 9999 + u → (∀ a i, ¬ (a = 14 ∨ 300 ≤ a) → P' a i = P1 a i) → (∀ a i, ¬ (a = 1 ∨ a = 21 ∨ (a = 0 ∧ i = 38)) → R' a i = R1 a i) → cD (2 * u) P' R' → O2 Q (lpX11_dayRows_23 n fu u P') (lpX12_rowsOfDays_66 n k' fu u R')
  | 0, u, P', R', u0, u1, hf, hc, hh, f1, f2, f3 => by omega
  | fu + 1, u, P', R', u0, u1, hf, hc, hh, f1, f2, f3 => by
    rw [lpX11_dayRows_23, lpX12_rowsOfDays_66]
    by_cases c : u < n
    · rw [if_pos c, if_pos c]
      refine o2_bV (hour_o hc (by omega)) fun q r hq => ?_
      obtain ⟨q1, q2, q3, q4⟩ := hq
      have l2 := q1.2.2.1.2.1
      have l3 := q1.2.2.1.2.2.1
      have q5 : ∀ w, Cty N (upM q 14 (2 * u) w) 300 (r 1) := fun w => q1.cg (Int.le_refl _) (fun k hk i _ _ => up_nk (by omega)) (fun _ _ _ => rfl)
      have hv := fun w => visitors_lp (q5 w) FU 0 (by omega) l2 (by unfold FU; omega)
      have ha := away_lp q1 FU 0 (by omega) l2 (by unfold FU; omega)
      have hw := ev_waitersR l2 l3
      rw [lined_w q1.2.2.2.1] at hw
      have f4 : cD (2 * u) q r := ⟨by rw [q3 0 38 (by omega)]; exact f3.1, fun j j0 j1 => by rw [q2 14 j (by omega), q3 21 j (by omega)]; exact f3.2 j j0 j1⟩
      unfold pCity_visitors
      rw [show Int.toNat 0 = 0 from rfl, show cz (awy (r 1)) 0 = 0 from rfl] at hv ha
      rw [hw, bI_k]
      unfold rM_away
      rw [ha, bI_k, ev_due f4.1 (by omega) (by omega), bV_ok, w32_id (z := 2 * u) (by omega) (by omega), w32_id (z := 2 * u + 1) (by omega) (by omega), wr_ok (by omega) (by omega), hv, bI_k, wr_ok (by omega) (by omega), nm_ok, nm_ok, w32_id (z := u + 1) (by omega) (by omega)]
      have f5 := cD_add (x := q (300 + 6) 8) (y := cz (awy (r 1)) (r 1 2).toNat) f4 (by omega)
      rw [show 2 * u + 2 = 2 * (u + 1) by omega] at f5 ⊢
      refine days_lp (N := N) n1 hk fu (u + 1) _ _ (by omega) (by omega) (by omega) ?_ ?_ (fun a i ha => by rw [up_nk (by omega), up_nk (by omega), q2 a i (by omega)]; exact f1 a i ha) (fun a i ha => by rw [upM_ne (by omega), up_nk (by omega), up_nk (by omega), q3 a i (by omega)]; exact f2 a i ha) f5
      · exact q1.cg (Int.le_refl _) (fun k hk i _ _ => by rw [up_nk (by omega), up_nk (by omega)]) (fun j _ _ => by rw [up_nk (by omega), up_nk (by omega), up_nk (by omega)])
      · rw [up_nk (by omega), up_nk (by omega), up_nk (by omega), q4]
        omega
    · have ue : u = n := by omega
      rw [if_neg c, if_neg c, w32_id (by omega) (by omega)]
      exact hk P' R' f1 f2 (ue ▸ f3)
theorem s_check {N N2 : Int} {P R : Mem} (h : Sim N P R) (hN : N ≤ N2) {x n : Int} : O2 (Qa (Sim N2)) (pTop_check x n P) (rM_check x n R) := by
  obtain ⟨g1, g2, g3, g4, g5, g6, g7, g8, g9, g10, g11, g12, g13⟩ := h.2.2.2.1
  have hs : Sim N (upM P 0 8 0) (upM (upM R 0 36 0) 0 38 0) := by
    refine h.rst (Int.le_refl _) (fun a i ha => up_nk (by omega)) (fun i => by rw [up_nk (by omega), up_nk (by omega)]) (fun i => by rw [up_nk (by omega), up_nk (by omega)]) (by rw [up_ni (by omega), up_ni (by omega)]) ?_
    unfold Rst
    simp (disch := omega) only [up_eq, up_nk, up_ni]
    exact ⟨g1, g2, g3, g4, g5, g6, trivial, by omega, by omega, fun i i0 i1 => by omega, g11, g12, g13⟩
  have hm : ∀ i, 0 ≤ i → i < R 0 36 → upM P 0 8 0 13 i = upM (upM R 0 36 0) 0 38 0 20 i := fun i i0 i1 => by rw [up_nk (by omega), up_nk (by omega), up_nk (by omega)]; exact g10 i i0 i1
  have z38 : upM (upM R 0 36 0) 0 38 0 0 38 = 0 := up_eq rfl rfl
  unfold pTop_check rM_check
  rw [nm_ok, nm_ok, wf_ok, wf_ok, wf_ok, g7]
  generalize upM P 0 8 0 = P1 at *
  generalize upM (upM R 0 36 0) 0 38 0 = R1 at *
  generalize R 0 36 = m at *
  simp only [jn_ok]
  rw [ev_within, bI_k]
  by_cases v1 : 0 ≤ x ∧ x ≤ 1
  · rw [ite_bz, if_pos v1]
    by_cases v2 : x = 0
    · rw [if_pos v2, if_pos v2, ev_within, bI_k]
      unfold rM_rowsOfOrder
      rw [ev_isIn, bI_k]
      by_cases v3 : 1 ≤ n ∧ n ≤ 999
      · rw [ite_bz, if_pos v3, if_pos v2]
        rw [ite_bz, if_pos v3]
        unfold pTop_orderRows
        have hr : P1 (100 + 5) 1 = R1 1 12 := hs.rls.2.2.2.1
        rw [rd_ok (by omega) (by omega), hr]
        have hk : O2 (fun (a b : Int × Mem) => ckP P1 a.2 ∧ ckR R1 b.2 ∧ eqS 0 4010 (R1 1) (b.2 1) ∧ ((a.1 < 0 ∧ b.1 = a.1) ∨ (0 ≤ a.1 ∧ a.1 ≤ 60 ∧ b.1 = 0 ∧ cD a.1 a.2 b.2))) (bnI (pClauses_soonest 100 n 20000 (R1 1 12) P1) fun v3 M2 => lpX11_orderRows_29 v3 (fun M10 => if v3 < 0 then some (v3, M10) else some (w32 (2 * v3), M10)) FU 0 0 M2) (bnI (rM_findOrder n 20000 R1) fun v4 M3 => lpX12_rowsOfOrder_29 v4 (fun M11 => if v4 < 0 then some (v4, M11) else some (0, M11)) FU 0 0 M3) := by
          refine o2_bI (ord_o hs v3.1 (by omega) (by omega)) fun a b q => ?_
          obtain ⟨y, P2⟩ := a
          obtain ⟨y2, R2⟩ := b
          obtain ⟨q1, q2, q3, q4⟩ := q
          dsimp only at q1 q2 q3 q4 ⊢
          subst q1
          rcases q4 with q4 | ⟨q4, q5, q6⟩
          · rw [show FU = 999999 + 1 from rfl, lpX11_orderRows_29, lpX12_rowsOfOrder_29, if_neg (show ¬ (0 : Int) < y by omega), if_neg (show ¬ (0 : Int) < y by omega), if_pos q4, if_pos q4]
            exact o2_ret ⟨fun a i ha => q2 a i (by omega), fun a i ha => q3 a i (by omega), fun j _ _ => q3 1 j (by omega), .inl ⟨q4, rfl⟩⟩
          · refine rows_lp hs q5 q6 q2 q3 (fun P3 R3 b1 b2 b3 => ?_) FU 0 0 P2 R2 (by omega) (by omega) (by unfold FU; omega) (by omega) (by omega) (fun _ _ _ => rfl) (fun _ _ _ => rfl) ⟨by rw [q3 0 38 (by omega)]; exact z38, fun j j0 j1 => by omega⟩
            rw [if_neg (by omega), if_neg (by omega), w32_id (by omega) (by omega)]
            exact o2_ret ⟨fun a i ha => (b1 a i (by omega)).trans (q2 a i (by omega)), fun a i ha => (b2 a i (by omega)).trans (q3 a i (by omega)), fun j _ _ => (b2 1 j (by omega)).trans (q3 1 j (by omega)), .inr ⟨show 0 ≤ 2 * y by omega, show 2 * y ≤ 60 by omega, rfl, b3⟩⟩
        refine o2_bI hk fun a b q => ?_
        obtain ⟨y, P2⟩ := a
        obtain ⟨y2, R2⟩ := b
        obtain ⟨q1, q2, q3, q4⟩ := q
        dsimp only at q1 q2 q3 q4 ⊢
        have hs2 := hs.chk hN q1 q2 q3
        rcases q4 with ⟨q4, q5⟩ | ⟨q4, q5, q6, q7⟩
        · rw [if_pos q4, if_neg (by omega)]
          exact o2_r q5.symm hs2
        · rw [if_neg (by omega), if_pos q6]
          unfold pTop_firstOff
          obtain ⟨aa, bb, k1, k2, k3⟩ := cmp_o (Q := Sim N2) (m := m) (D := y) (P' := P2) (R' := R2) g9 q5 (fun i i0 i1 => by rw [q1 13 i (by omega), q2 20 i (by omega)]; exact hm i i0 i1) q7 hs2 FU 0 (by omega) g8 q4 (by unfold FU; omega)
          rw [k1, k2, bI_ok]
          exact o2_ret k3
      · rw [ite_bz, if_neg v3]
        rw [ite_bz, if_neg v3, bI_k, if_neg (by omega)]
        exact o2_r rfl (hs.up hN)
    · have v2' : x = 1 := by omega
      rw [if_neg v2, if_neg v2, if_pos v2', ev_within, bI_k]
      unfold rM_rowsOfDays
      rw [ev_isIn, bI_k]
      by_cases v3 : 1 ≤ n ∧ n ≤ 24
      · rw [ite_bz, if_pos v3, if_neg v2]
        rw [ite_bz, if_pos v3]
        unfold pTop_dayRows
        have hk3 : P1 0 3 = R1 0 3 := hs.2.2.2.1.1
        have hk4 := hs.2.2.2.1.2.1
        rw [hk3]
        by_cases v4 : R1 0 3 = 0
        · rw [if_pos v4, if_pos v4, bI_k, bI_k, if_pos (by omega), if_neg (by omega)]
          exact o2_r rfl (hs.up hN)
        · rw [if_neg v4, if_neg v4]
          obtain ⟨i1, i2⟩ := hs.2.2.1 (by omega)
          obtain ⟨P2, _, c1, _, c2, c3, c4⟩ := become_s (b := 300) (c := 200) (M := P1) (by omega)
          rw [c1, bV_ok]
          have hk : O2 (fun (a b : Int × Mem) => ckP P1 a.2 ∧ ckR R1 b.2 ∧ eqS 0 4010 (R1 1) (b.2 1) ∧ a.1 = 2 * n ∧ b.1 = 0 ∧ cD a.1 a.2 b.2) (lpX11_dayRows_23 n FU 0 P2) (lpX12_rowsOfDays_27 n (fun M8 => lpX12_rowsOfDays_66 n (fun M16 => lpX12_rowsOfDays_95 FU 0 M16) FU 0 M8) FU 0 R1) := by
            refine aside_lp (R := R1) (fun q b1 b2 => ?_) FU 0 R1 (by omega) (by omega) (by unfold FU; omega) (fun _ _ _ => rfl) (fun _ _ => rfl) (fun i i0 i1 => by omega)
            refine days_lp (N := N) (P1 := P2) (R1 := q) v3.2 (fun P3 R3 e1 e2 e3 => ?_) FU 0 P2 q (by omega) (by omega) (by unfold FU; omega) (i1.cg2 (Int.le_refl _) c2 (fun j j0 j1 => (b2 j j0 (by omega)).2)) (by rw [(b2 0 (by omega) (by omega)).2]; omega) (fun _ _ _ => rfl) (fun _ _ _ => rfl) ⟨by rw [b1 0 38 (by omega)]; exact z38, fun j j0 j1 => by omega⟩
            obtain ⟨q2, k1, k2, k3⟩ := unside_lp (R := R3) FU 0 R3 (by omega) (by omega) (by unfold FU; omega) (fun _ _ _ => rfl) (fun i i0 i1 => by omega)
            rw [k1]
            exact o2_ret ⟨fun a i ha => (e1 a i (by omega)).trans (c4 a i (by omega)), fun a i ha => (k2 a i (by omega)).trans ((e2 a i (by omega)).trans (b1 a i (by omega))), fun j j0 j1 => (k3 j j0 (by omega)).trans ((e2 3 j (by omega)).trans (b2 j j0 (by omega)).1), rfl, rfl, (k2 0 38 (by omega)).trans e3.1, fun j j0 j1 => (e3.2 j j0 j1).trans (k2 21 j (by omega)).symm⟩
          refine o2_bI hk fun a b q => ?_
          obtain ⟨y, P2⟩ := a
          obtain ⟨y2, R2⟩ := b
          obtain ⟨q1, q2, q3, q4, q5, q6⟩ := q
          dsimp only at q1 q2 q3 q4 q5 q6 ⊢
          have hs2 := hs.chk hN q1 q2 q3
          rw [if_neg (by omega), if_pos q5]
          unfold pTop_firstOff
          obtain ⟨aa, bb, k1, k2, k3⟩ := cmp_o (Q := Sim N2) (m := m) (D := y) (P' := P2) (R' := R2) g9 (by omega) (fun i i0 i1 => by rw [q1 13 i (by omega), q2 20 i (by omega)]; exact hm i i0 i1) q6 hs2 FU 0 (by omega) g8 (by omega) (by unfold FU; omega)
          rw [k1, k2, bI_ok]
          exact o2_ret k3
      · rw [ite_bz, if_neg v3]
        rw [ite_bz, if_neg v3, bI_k, if_neg (by omega)]
        exact o2_r rfl (hs.up hN)
  · rw [ite_bz, if_neg v1, if_neg (by omega), if_neg (by omega), if_neg (by omega)]
    exact o2_r rfl (hs.up hN)
