/-! An hour: who is first at a street. -/
def FA (s : Int → Int) (t p : Int) : Prop := 0 ≤ p ∧ p < s 2 ∧ s (74 + 8 * p) = t ∧ ∀ q, 0 ≤ q → q < s 2 → s (74 + 8 * q) = t → q = p ∨ s (76 + 8 * p) < s (76 + 8 * q)
theorem FA.uq {s : Int → Int} {t p p2 : Int} (h : FA s t p) (h2 : FA s t p2) : p = p2 := by
  obtain ⟨a1, a2, a3, a4⟩ := h
  obtain ⟨b1, b2, b3, b4⟩ := h2
  have x := a4 p2 b1 b2 b3
  have y := b4 p a1 a2 a3
  omega
theorem came_ne {N : Int} {M : Mem} {b : Nat} {s : Int → Int} (h : gL N M b s) {p q : Int} (p0 : 0 ≤ p) (p1 : p < s 2) (p2 : 0 ≤ s (74 + 8 * p)) (q0 : 0 ≤ q) (q1 : q < s 2) (q2 : 0 ≤ s (74 + 8 * q)) (hn : ¬ p = q) : ¬ s (76 + 8 * p) = s (76 + 8 * q) := by
  obtain ⟨l1, l2, l3, l4, l5, l6, l7⟩ := h
  obtain ⟨k, a1, a2, a3⟩ := l7 p p0 p1 p2
  obtain ⟨j, b1, b2, b3⟩ := l7 q q0 q1 q2
  rcases Int.lt_trichotomy k j with e | e | e
  · have := l6 k j a1 e b2
    rw [a3, b3] at this
    omega
  · subst e
    rw [a3] at b3
    exact absurd b3 hn
  · have := l6 j k b1 e a2
    rw [a3, b3] at this
    omega
theorem fa_P {N : Int} {M R : Mem} {b : Nat} {t : Int} (h : Cty N M b (R 1)) (t0 : 0 ≤ t) : ∀ (fu : Nat) (k : Int), 0 ≤ k → k ≤ M (b + 6) 8 → (M (b + 6) 8 - k).toNat < fu → (∀ k2, 0 ≤ k2 → k2 < k → ¬ R 1 (74 + 8 * M (b + 13) k2) = t) → (lpX6_firstAt_2 b t fu k M = some (-1000000005, M) ∧ ∀ q, 0 ≤ q → q < R 1 2 → ¬ R 1 (74 + 8 * q) = t) ∨ ∃ p, lpX6_firstAt_2 b t fu k M = some (p, M) ∧ FA (R 1) t p
  | 0, k, k0, k1, hf, hi => by omega
  | fu + 1, k, k0, k1, hf, hi => by
    obtain ⟨l1, l2, l3, l4, l5, l6, l7⟩ := h.2.2.2.1
    have n20 := h.2.2.1.2.2.1
    unfold lpX6_firstAt_2
    by_cases c : k < M (b + 6) 8
    · obtain ⟨a1, a2, a3, a4⟩ := l5 k k0 c
      obtain ⟨g1, g2, g3, g4, g5, g6, g7, g8, g9, g10, g11, g12, g13, g14, _⟩ := h.2.2.1.2.2.2.2.2.2.2.2.2.2.2 _ a1 a2
      rw [if_pos c, rd_ok k0 (by omega), rd_ok a1 (by omega), g13, oN_pos a3]
      by_cases e : R 1 (74 + 8 * M (b + 13) k) = t
      · rw [if_pos e, rd_ok k0 (by omega)]
        refine .inr ⟨_, rfl, a1, a2, e, fun q q0 q1 q2 => ?_⟩
        obtain ⟨j, b1, b2, b3⟩ := l7 q q0 q1 (by omega)
        rcases Int.lt_trichotomy k j with d | d | d
        · have := l6 k j k0 d b2
          rw [b3] at this
          exact .inr this
        · subst d
          exact .inl b3.symm
        · have := hi j b1 d
          rw [b3] at this
          exact absurd q2 this
      · rw [if_neg e, nm_ok, w32_id (by omega) (by omega)]
        refine fa_P h t0 fu (k + 1) (by omega) (by omega) (by omega) (fun k2 b1 b2 => ?_)
        by_cases d : k2 = k
        · rw [d]
          exact e
        · exact hi k2 b1 (by omega)
    · rw [if_neg c]
      refine .inl ⟨rfl, fun q q0 q1 q2 => ?_⟩
      obtain ⟨j, b1, b2, b3⟩ := l7 q q0 q1 (by omega)
      have := hi j b1 (by omega)
      rw [b3] at this
      exact this q2
theorem fa_R {N : Int} {M R : Mem} {b : Nat} {t : Int} (h : Cty N M b (R 1)) (t0 : 0 ≤ t) : ∀ (fu : Nat) (w k : Int), 0 ≤ k → k ≤ R 1 2 → (R 1 2 - k).toNat < fu → (w = -1 ∧ (∀ q, 0 ≤ q → q < k → ¬ R 1 (74 + 8 * q) = t) ∨ (0 ≤ w ∧ w < k ∧ R 1 (74 + 8 * w) = t ∧ ∀ q, 0 ≤ q → q < k → R 1 (74 + 8 * q) = t → q = w ∨ R 1 (76 + 8 * w) < R 1 (76 + 8 * q))) → (lpX12_firstAt_4 t fu w k R = some (-1, R) ∧ ∀ q, 0 ≤ q → q < R 1 2 → ¬ R 1 (74 + 8 * q) = t) ∨ ∃ p, lpX12_firstAt_4 t fu w k R = some (p, R) ∧ FA (R 1) t p
  | 0, w, k, k0, k1, hf, hi => by omega
  | fu + 1, w, k, k0, k1, hf, hi => by
    have n20 := h.2.2.1.2.2.1
    have p4 : w32 (70 + 8 * k + 4) = 74 + 8 * k := by rw [w32_id (by omega) (by omega)]; omega
    have p6 : w32 (70 + 8 * k + 6) = 76 + 8 * k := by rw [w32_id (by omega) (by omega)]; omega
    have pk : w32 (k + 1) = k + 1 := w32_id (by omega) (by omega)
    unfold lpX12_firstAt_4
    rw [rd_ok (by omega) (by omega)]
    by_cases c : k < R 1 2
    · rw [if_pos c, ev_personAt (by omega) (by omega), bI_ok]
      dsimp only
      rw [p4, rd_ok (by omega) (by omega), jn_ok]
      by_cases e : R 1 (74 + 8 * k) = t
      · rw [if_pos e, jn_ok]
        rcases hi with ⟨w0, hi⟩ | ⟨w0, w1, w2, hi⟩
        · rw [if_pos (by omega)]
          dsimp only
          rw [nm_ok, pk]
          refine fa_R h t0 fu k (k + 1) (by omega) (by omega) (by omega) (.inr ⟨k0, by omega, e, fun q q0 q1 q2 => ?_⟩)
          by_cases d : q = k
          · exact .inl d
          · exact absurd q2 (hi q q0 (by omega))
        · rw [if_neg (by omega), ev_personAt (by omega) (by omega), bI_ok]
          dsimp only
          rw [p6, rd_ok (by omega) (by omega), ev_personAt (by omega) (by omega), bI_ok]
          dsimp only
          rw [show w32 (70 + 8 * w + 6) = 76 + 8 * w by rw [w32_id (by omega) (by omega)]; omega, rd_ok (by omega) (by omega)]
          by_cases d : R 1 (76 + 8 * k) < R 1 (76 + 8 * w)
          · rw [if_pos d]
            rw [nm_ok, pk]
            refine fa_R h t0 fu k (k + 1) (by omega) (by omega) (by omega) (.inr ⟨k0, by omega, e, fun q q0 q1 q2 => ?_⟩)
            by_cases d2 : q = k
            · exact .inl d2
            · rcases hi q q0 (by omega) q2 with x | x
              · subst x
                exact .inr d
              · exact .inr (by omega)
          · rw [if_neg d]
            rw [nm_ok, pk]
            refine fa_R h t0 fu w (k + 1) (by omega) (by omega) (by omega) (.inr ⟨w0, by omega, w2, fun q q0 q1 q2 => ?_⟩)
            by_cases d2 : q = k
            · subst d2
              have := came_ne h.2.2.2.1 w0 (by omega) (by omega) q0 c (by omega) (by omega)
              exact .inr (by omega)
            · exact hi q q0 (by omega) q2
      · rw [if_neg e]
        dsimp only
        rw [nm_ok, pk]
        refine fa_R h t0 fu w (k + 1) (by omega) (by omega) (by omega) ?_
        rcases hi with ⟨w0, hi⟩ | ⟨w0, w1, w2, hi⟩
        · refine .inl ⟨w0, fun q q0 q1 => ?_⟩
          by_cases d : q = k
          · rw [d]; exact e
          · exact hi q q0 (by omega)
        · refine .inr ⟨w0, by omega, w2, fun q q0 q1 q2 => ?_⟩
          by_cases d : q = k
          · rw [d] at q2; exact absurd q2 e
          · exact hi q q0 (by omega) q2
    · rw [if_neg c]
      rcases hi with ⟨w0, hi⟩ | ⟨w0, w1, w2, hi⟩
      · exact .inl ⟨by rw [w0], fun q q0 q1 => hi q q0 (by omega)⟩
      · exact .inr ⟨w, rfl, w0, by omega, w2, fun q q0 q1 q2 => hi q q0 (by omega) q2⟩
theorem first_o {N : Int} {M R : Mem} {b : Nat} {t : Int} (h : Cty N M b (R 1)) (t0 : 0 ≤ t) : (pPersons_firstAt b t M = some (-1000000005, M) ∧ rM_firstAt t R = some (-1, R) ∧ ∀ q, 0 ≤ q → q < R 1 2 → ¬ R 1 (74 + 8 * q) = t) ∨ ∃ p, 0 ≤ p ∧ p < R 1 2 ∧ R 1 (74 + 8 * p) = t ∧ pPersons_firstAt b t M = some (p, M) ∧ rM_firstAt t R = some (p, R) := by
  have l1 := h.2.2.2.1.1
  have l2 := h.2.2.2.1.2.1
  have n0 := h.2.2.1.2.1
  have n20 := h.2.2.1.2.2.1
  have a := fa_P h t0 FU 0 (by omega) l1 (by unfold FU; omega) (fun k2 x y => by omega)
  have c := fa_R h t0 FU (-1) 0 (by omega) n0 (by unfold FU; omega) (.inl ⟨rfl, fun q x y => by omega⟩)
  unfold pPersons_firstAt rM_firstAt
  rcases a with ⟨a1, a2⟩ | ⟨p, a1, a2⟩
  · rcases c with ⟨c1, c2⟩ | ⟨p2, c1, c2⟩
    · exact .inl ⟨a1, c1, c2⟩
    · exact absurd c2.2.2.1 (a2 p2 c2.1 c2.2.1)
  · rcases c with ⟨c1, c2⟩ | ⟨p2, c1, c2⟩
    · exact absurd a2.2.2.1 (c2 p a2.1 a2.2.1)
    · have e := a2.uq c2
      subst e
      exact .inr ⟨p, a2.1, a2.2.1, a2.2.2.1, a1, c1⟩
