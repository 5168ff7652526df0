/-! Water: the search for a way, on both sides. -/
def bQ (P R : Mem) (n : Int) (P' R' : Mem) : Prop := (∀ a i, ¬ (a = 11 ∨ a = 12) → P' a i = P a i) ∧ (∀ a i, ¬ (a = 12 ∨ a = 13) → R' a i = R a i) ∧
  (∀ k, 0 ≤ k → k < 18 → (P' 11 k = -1000000005 ∧ R' 12 k = -1) ∨ (P' 11 k = R' 12 k ∧ 0 ≤ R' 12 k ∧ R' 12 k < 18)) ∧
  (∀ i, 0 ≤ i → i < n → P' 12 i = R' 13 i ∧ 0 ≤ R' 13 i ∧ R' 13 i < 18 ∧ 0 ≤ R' 12 (R' 13 i)) ∧
  cz (fun k => decide (0 ≤ R' 12 k)) 18 = n ∧
  ∃ ps : Int → Int, ∀ x, 0 ≤ x → x < 18 → 0 ≤ R' 12 x → 0 ≤ ps x ∧ ps x < n ∧ (¬ x = 16 → 0 ≤ R' 12 (R' 12 x) ∧ ps (R' 12 x) < ps x ∧ 1 ≤ R 11 (18 * R' 12 x + x))
theorem bfs_in {P R : Mem} (hr : ∀ j, 0 ≤ j → j < 324 → P 10 j = R 11 j ∧ 0 ≤ R 11 j) {Q : Int × Mem → Int × Mem → Prop} {k k' : Int → Mem → Option (Int × Mem)} {i v : Int} (i0 : 0 ≤ i) (v0 : 0 ≤ v) (v1 : v < 18) (hk : ∀ n P2 R2, i < n → bQ P R n P2 R2 → O2 Q (k n P2) (k' n R2)) : ∀ (fu : Nat) (n u : Int) (P' R' : Mem), 0 ≤ u → u ≤ 18 → (18 - u).toNat < fu → i < n → R' 13 i = v → bQ P R n P' R' → O2 Q (lpX10_reachDrain_51 i v k fu n u P') (lpX12_findWay_49 i k' fu n u R')
  | 0, n, u, P', R', u0, u1, hf, hn, hv, hq => by omega
  | fu + 1, n, u, P', R', u0, u1, hf, hn, hv, hq => by
    have hq' := hq
    obtain ⟨f1, f2, f3, f4, f5, ps, f6⟩ := hq
    have bd := cz_bd (f := fun k => decide (0 ≤ R' 12 k)) (n := 18)
    have ih := fun n P2 R2 => bfs_in hr i0 v0 v1 hk fu n (u + 1) P2 R2 (by omega)
    rw [lpX10_reachDrain_51, lpX12_findWay_49]
    by_cases c : u < 18
    · have ih := fun n P2 R2 => ih n P2 R2 (by omega) (by omega)
      obtain ⟨x1, x2⟩ := hr (18 * v + u) (by omega) (by omega)
      have p10 : P' 10 (18 * v + u) = R 11 (18 * v + u) := by rw [f1 10 _ (by omega)]; exact x1
      have r11 : R' 11 (18 * v + u) = R 11 (18 * v + u) := f2 11 _ (by omega)
      rw [if_pos c, if_pos c, rd_ok u0 (by omega), rd_ok u0 (by omega)]
      simp only [jn_ok, nm_ok]
      rw [w32_id (z := u + 1) (by omega) (by omega), w32_id (z := v * 18) (by omega) (by omega), w32_id (z := v * 18 + u) (by omega) (by omega), show v * 18 + u = 18 * v + u by omega]
      rcases f3 u u0 c with ⟨y1, y2⟩ | ⟨y1, y2, y3⟩
      · rw [if_pos y1, if_pos (show R' 12 u < 0 by omega), rd_ok (x := 18 * v + u) (by omega) (by omega), p10, rd_ok (x := i) i0 (by omega), hv, w32_id (z := 18 * v) (by omega) (by omega), w32_id (z := 18 * v + u) (by omega) (by omega), rd_ok (x := 18 * v + u) (by omega) (by omega), r11]
        by_cases d : R 11 (18 * v + u) = 0
        · rw [if_pos d, if_neg (by omega)]
          exact ih n P' R' hn hv hq'
        · have nl := cz_ltB (f := fun k => decide (0 ≤ R' 12 k)) (i := u) (n := 18) u0 (by omega) (decide_eq_false (by omega))
          obtain ⟨g1, g2, g3, g4⟩ := f4 i i0 hn
          rw [hv] at g4
          rw [if_neg d, if_pos (by omega), wr_ok u0 (by omega), wr_ok (x := n) (by omega) (by omega), w32_id (z := n + 1) (by omega) (by omega), rd_ok (x := i) i0 (by omega), hv, wr_ok u0 (by omega), wr_ok (x := n) (by omega) (by omega)]
          have s12 : ∀ z, ¬ z = u → upM (upM R' 12 u v) 13 n u 12 z = R' 12 z := fun z hz => by rw [up_nk (by omega), up_ni hz]
          have s12u : upM (upM R' 12 u v) 13 n u 12 u = v := by rw [up_nk (by omega), up_eq rfl rfl]
          refine ih (n + 1) _ _ (by omega) (by rw [up_ni (by omega), up_nk (by omega)]; exact hv) ⟨fun a j ha => by rw [up_nk (by omega), up_nk (by omega)]; exact f1 a j ha, fun a j ha => by rw [up_nk (by omega), up_nk (by omega)]; exact f2 a j ha, fun z z0 z1 => ?_, fun z z0 z1 => ?_, ?_, upF ps u n, fun z z0 z1 hz => ?_⟩
          · by_cases e : z = u
            · rw [e, s12u, up_nk (by omega), up_eq rfl rfl]
              exact .inr ⟨rfl, v0, v1⟩
            · rw [s12 z e, up_nk (by omega), up_ni e]
              exact f3 z z0 z1
          · by_cases e : z = n
            · rw [up_eq rfl e, up_eq rfl e, s12u]
              exact ⟨rfl, u0, c, v0⟩
            · obtain ⟨q1, q2, q3, q4⟩ := f4 z z0 (by omega)
              have q5 : ¬ R' 13 z = u := fun q => by rw [q] at q4; omega
              rw [up_ni e, up_ni (a := 13) e, up_nk (by omega), up_nk (a := 13) (by omega), s12 _ q5]
              exact ⟨q1, q2, q3, q4⟩
          · have hc := cz_one (f := fun k => decide (0 ≤ R' 12 k)) (g := fun k => decide (0 ≤ upM (upM R' 12 u v) 13 n u 12 k)) (u := u) (decide_eq_false (by omega)) (fun z => ?_) (n := 18) u0 (by omega)
            · rw [hc, f5]
            · try dsimp only
              by_cases e : z = u
              · rw [e, s12u, decide_eq_true v0, decide_eq_true rfl, Bool.or_true]
              · rw [s12 z e, decide_eq_false (p := z = u) e, Bool.or_false]
          · by_cases e : z = u
            · have vu : ¬ v = u := fun q => by rw [q] at g4; omega
              rw [e, s12u, s12 v vu, upF_eq rfl, upF_ne vu]
              have := f6 v v0 v1 g4
              exact ⟨by omega, by omega, fun _ => ⟨g4, this.2.1, by omega⟩⟩
            · rw [s12 z e] at hz ⊢
              obtain ⟨q1, q2, q3⟩ := f6 z z0 z1 hz
              rw [upF_ne e]
              refine ⟨q1, by omega, fun q => ?_⟩
              obtain ⟨q4, q5, q6⟩ := q3 q
              have zu : ¬ R' 12 z = u := fun q => by rw [q] at q4; omega
              rw [s12 _ zu, upF_ne zu]
              exact ⟨q4, q5, q6⟩
      · rw [if_neg (by omega), if_neg (by omega)]
        exact ih n P' R' hn hv hq'
    · rw [if_neg c, if_neg c]
      exact hk n P' R' hn hq'
theorem bfs_out {P R : Mem} (hr : ∀ j, 0 ≤ j → j < 324 → P 10 j = R 11 j ∧ 0 ≤ R 11 j) {Q : Int × Mem → Int × Mem → Prop} {k k' : Mem → Option (Int × Mem)} (hk : ∀ n P2 R2, bQ P R n P2 R2 → O2 Q (k P2) (k' R2)) : ∀ (fu : Nat) (n u : Int) (P' R' : Mem), 0 ≤ u → u ≤ n → (18 - u).toNat < fu → bQ P R n P' R' → O2 Q (lpX10_reachDrain_30 k fu n u P') (lpX12_findWay_42 k' fu n u R')
  | 0, n, u, P', R', u0, u1, hf, hq => by omega
  | fu + 1, n, u, P', R', u0, u1, hf, hq => by
    have bd := cz_bd (f := fun k => decide (0 ≤ R' 12 k)) (n := 18)
    have f5 := hq.2.2.2.2.1
    rw [lpX10_reachDrain_30, lpX12_findWay_42]
    by_cases c : u < n
    · obtain ⟨q1, q2, q3, q4⟩ := hq.2.2.2.1 u u0 c
      rw [if_pos c, if_pos (show u < 18 by omega), if_pos c, rd_ok u0 (by omega), q1]
      refine bfs_in hr u0 q2 q3 (fun n2 P2 R2 hn h2 => ?_) FU n 0 P' R' (by omega) (by omega) (by unfold FU; omega) c rfl hq
      rw [nm_ok, nm_ok, w32_id (by omega) (by omega)]
      exact bfs_out hr hk fu n2 (u + 1) P2 R2 (by omega) (by omega) (by omega) h2
    · rw [if_neg c, if_neg c]
      exact hk n P' R' hq
theorem way0 {α : Type} {A : Option α} {Q : α → Int × Mem → Prop} {R : Mem} {k : Mem → Option (Int × Mem)} (hk : ∀ R2, (∀ a i, ¬ a = 12 → R2 a i = R a i) → (∀ j, 0 ≤ j → j < 18 → R2 12 j = -1) → O2 Q A (k R2)) : ∀ (fu : Nat) (u : Int) (R' : Mem), 0 ≤ u → u ≤ 18 → (18 - u).toNat < fu → (∀ a i, ¬ a = 12 → R' a i = R a i) → (∀ j, 0 ≤ j → j < u → R' 12 j = -1) → O2 Q A (lpX12_findWay_2 k fu u R')
  | 0, u, R', u0, u1, hf, f1, f2 => by omega
  | fu + 1, u, R', u0, u1, hf, f1, f2 => by
    rw [lpX12_findWay_2]
    by_cases c : u < 18
    · rw [if_pos c, wr_ok u0 (by omega), nm_ok, w32_id (by omega) (by omega)]
      refine way0 hk fu (u + 1) _ (by omega) (by omega) (by omega) (fun a i ha => by rw [up_nk ha]; exact f1 a i ha) (fun j j0 j1 => ?_)
      by_cases d : j = u
      · rw [up_eq rfl d]
      · rw [up_ni d]
        exact f2 j j0 (by omega)
    · rw [if_neg c]
      exact hk R' f1 fun j j0 j1 => f2 j j0 (by omega)
theorem cz_none {f : Int → Bool} : ∀ {n : Nat}, (∀ i : Int, 0 ≤ i → i < n → f i = false) → cz f n = 0
  | 0, _ => rfl
  | n + 1, h => by
    unfold cz
    rw [if_neg (by rw [h n (by omega) (by omega)]; decide), cz_none (f := f) (n := n) (fun i i0 i1 => h i i0 (by omega))]
    omega
theorem way_o {P R : Mem} (hr : ∀ j, 0 ≤ j → j < 324 → P 10 j = R 11 j ∧ 0 ≤ R 11 j) : O2 (fun (a b : Int × Mem) => a.1 = b.1 ∧ (∃ n, bQ P R n a.2 b.2) ∧ ((a.1 = 0) ∨ (a.1 = 1 ∧ 0 ≤ b.2 12 17))) (pWater_reachDrain P) (rM_findWay R) := by
  unfold pWater_reachDrain rM_findWay
  rw [ev_fill (by omega), bV_ok, wr_ok (by omega) (by omega), wr_ok (by omega) (by omega)]
  refine way0 (R := R) (fun R2 b1 b2 => ?_) FU 0 R (by omega) (by omega) (by unfold FU; omega) (fun _ _ _ => rfl) (fun j j0 j1 => by omega)
  rw [wr_ok (by omega) (by omega), wr_ok (by omega) (by omega)]
  have s16 : upM (upM R2 12 16 16) 13 0 16 12 16 = 16 := by rw [up_nk (by omega), up_eq rfl rfl]
  have s12 : ∀ z, 0 ≤ z → z < 18 → ¬ z = 16 → upM (upM R2 12 16 16) 13 0 16 12 z = -1 := fun z z0 z1 hz => by rw [up_nk (by omega), up_ni hz, b2 z z0 z1]
  refine bfs_out hr (fun n P3 R3 q => ?_) FU 1 0 _ _ (by omega) (by omega) (by unfold FU; omega) ⟨fun a i ha => by rw [up_nk (by omega), up_nk (by omega), zr_nk (by omega)], fun a i ha => by rw [up_nk (by omega), up_nk (by omega), b1 a i (by omega)], fun z z0 z1 => ?_, fun z z0 z1 => ?_, ?_, fun _ => 0, fun z z0 z1 hz => ?_⟩
  · rw [rd_ok (by omega) (by omega), rd_ok (by omega) (by omega)]
    rcases q.2.2.1 17 (by omega) (by omega) with ⟨y1, y2⟩ | ⟨y1, y2, y3⟩
    · rw [if_pos y1, if_pos (by omega)]
      exact o2_ret ⟨rfl, ⟨n, q⟩, .inl rfl⟩
    · rw [if_neg (by omega), if_neg (by omega)]
      exact o2_ret ⟨rfl, ⟨n, q⟩, .inr ⟨rfl, y2⟩⟩
  · by_cases e : z = 16
    · rw [e, s16, up_nk (by omega), up_eq rfl rfl]
      exact .inr ⟨rfl, by omega, by omega⟩
    · rw [s12 z z0 z1 e, up_nk (by omega), up_ni e, zr_in rfl z0 (by omega)]
      exact .inl ⟨rfl, rfl⟩
  · have e : z = 0 := by omega
    rw [e, up_eq rfl rfl, up_eq rfl rfl, s16]
    omega
  · have hc : cz (fun k => decide (0 ≤ upM (upM R2 12 16 16) 13 0 16 12 k)) 18 = cz (fun k => decide (k = 16)) 18 := cz_cg fun z z0 z1 => by
      by_cases e : z = 16
      · rw [e, s16]
        rfl
      · rw [s12 z z0 (by omega) e, decide_eq_false e]
        rfl
    rw [hc]
    decide
  · by_cases e : z = 16
    · exact ⟨Int.le_refl 0, show (0 : Int) < 1 by omega, fun q => absurd e q⟩
    · rw [s12 z z0 z1 e] at hz
      omega
