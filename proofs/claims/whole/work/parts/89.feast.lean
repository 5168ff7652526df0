/-! A feast: where one goes. -/
def nxN (s : Nat) : Nat → Nat → Nat
  | 0, g => g
  | n + 1, g => if s.testBit g then g else nxN s n ((g + 1) % 8)
def nvk (s : Nat) : Nat → Nat
  | 0 => 0
  | k + 1 => if s.testBit ((15 - k) % 8) then (15 - k) % 8 else nvk s k
theorem nx_all : ∀ s, s < 256 → 0 < s → ∀ g, g < 8 → nvk s (16 - g) = nxN s 8 g ∧ s.testBit (nxN s 8 g) = true ∧ nxN s 8 g < 8 := by decide +kernel
theorem nvk_lt (s : Nat) : ∀ k, nvk s k < 8
  | 0 => by unfold nvk; omega
  | k + 1 => by
    have := nvk_lt s k
    unfold nvk
    split <;> omega
theorem bit_t {s g : Int} (s0 : 0 ≤ s) (s1 : s < 256) (g0 : 0 ≤ g) (g1 : g < 8) : bAnd (bShr s g) 1 = if s.toNat.testBit g.toNat then 1 else 0 := bit_tb s0 (by omega) g0 (by omega)
theorem open_lp {s : Int} {R : Mem} {k : Nat} (s0 : 0 ≤ s) (s1 : s < 256) : ∀ (n : Nat) (g : Int), 0 ≤ g → g < 8 → s.toNat.testBit (nxN s.toNat n g.toNat) = true → lpX12_openFor_2 s (n + 1 + k) g R = some (((nxN s.toNat n g.toNat : Nat) : Int), R)
  | 0, g, g0, g1, h => by
    rw [show 0 + 1 + k = k + 1 by omega]
    unfold lpX12_openFor_2
    replace h : s.toNat.testBit g.toNat = true := h
    rw [bit_t s0 s1 g0 g1, h]
    show (if (1 : Int) = 0 then _ else some (g, R)) = some ((g.toNat : Int), R)
    rw [if_neg (by omega), Int.toNat_of_nonneg g0]
  | n + 1, g, g0, g1, h => by
    rw [show n + 1 + 1 + k = (n + 1 + k) + 1 by omega]
    unfold lpX12_openFor_2
    rw [bit_t s0 s1 g0 g1]
    by_cases t : s.toNat.testBit g.toNat = true
    · rw [t, show nxN s.toNat (n + 1) g.toNat = g.toNat from if_pos t]
      show (if (1 : Int) = 0 then _ else some (g, R)) = some ((g.toNat : Int), R)
      rw [if_neg (by omega), Int.toNat_of_nonneg g0]
    · have e : nxN s.toNat (n + 1) g.toNat = nxN s.toNat n ((g.toNat + 1) % 8) := if_neg t
      have ew : w32 (Int.tmod (w32 (g + 1)) 8) = (g + 1) % 8 := by rw [w32_id (z := g + 1) (by omega) (by omega), tm_nn (by omega), w32_id (by omega) (by omega)]
      have eg : ((g + 1) % 8).toNat = (g.toNat + 1) % 8 := by omega
      rw [if_neg (fun q => t q), if_pos rfl, nm_ok, ew, e, ← eg]
      exact open_lp s0 s1 n _ (by omega) (by omega) (by rw [eg, ← e]; exact h)
def nx (s g : Int) : Int := (nxN s.toNat 8 g.toNat : Nat)
theorem nx_bd {s g : Int} (s0 : 1 ≤ s) (s1 : s < 256) (g0 : 0 ≤ g) (g1 : g < 8) : 0 ≤ nx s g ∧ nx s g < 8 := by
  have := (nx_all s.toNat (by omega) (by omega) g.toNat (by omega)).2.2
  unfold nx
  omega
theorem ev_openFor {s g : Int} {R : Mem} (s0 : 1 ≤ s) (s1 : s < 256) (g0 : 0 ≤ g) (g1 : g < 8) : rM_openFor g s R = some (nx s g, R) := by
  unfold rM_openFor
  rw [show FU = 8 + 1 + 999991 from rfl]
  exact open_lp (by omega) s1 8 g g0 g1 (nx_all s.toNat (by omega) (by omega) g.toNat (by omega)).2.1
theorem send_lp {b : Nat} {s : Int} {M0 : Mem} (s0 : 0 ≤ s) (s1 : s < 256) : ∀ (fu : Nat) (u : Int) (M : Mem), -1 ≤ u → u ≤ 15 → (u + 1).toNat < fu → (∀ a i, ¬ a = b + 55 → M a i = M0 a i) → (∀ g, u < g → 0 ≤ g → g < 8 → M (b + 55) g = ((nvk s.toNat (16 - g.toNat) : Nat) : Int)) → O2 (fun (q : Mem) (_ : Unit) => (∀ a i, ¬ a = b + 55 → q a i = M0 a i) ∧ ∀ g, 0 ≤ g → g < 8 → q (b + 55) g = ((nvk s.toNat (16 - g.toNat) : Nat) : Int)) (lpX2_send_5 b s fu ((nvk s.toNat (15 - u).toNat : Nat) : Int) u M) (some ())
  | 0, u, M, u0, u1, hf, ho, hg => by omega
  | fu + 1, u, M, u0, u1, hf, ho, hg => by
    unfold lpX2_send_5
    by_cases e : u < 0
    · rw [if_pos e]
      exact o2_ret ⟨ho, fun g g0 g1 => hg g (by omega) g0 g1⟩
    · have et : w32 (Int.tmod u 8) = u % 8 := by rw [tm_nn (by omega), w32_id (by omega) (by omega)]
      have nb := nvk_lt s.toNat (15 - u).toNat
      have ek : (15 - (u - 1)).toNat = (15 - u).toNat + 1 := by omega
      have e8 : (15 - (15 - u).toNat) % 8 = (u % 8).toNat := by omega
      have st : nvk s.toNat ((15 - u).toNat + 1) = if s.toNat.testBit (u % 8).toNat then (u % 8).toNat else nvk s.toNat (15 - u).toNat := by
        show (if s.toNat.testBit ((15 - (15 - u).toNat) % 8) then (15 - (15 - u).toNat) % 8 else _) = _
        rw [e8]
      rw [if_neg e, et, nm_ok, jn_ok, bit_t s0 s1 (by omega) (by omega)]
      have nxt : ∀ v : Int, v = ((nvk s.toNat (15 - (u - 1)).toNat : Nat) : Int) → O2 (fun (q : Mem) (_ : Unit) => (∀ a i, ¬ a = b + 55 → q a i = M0 a i) ∧ ∀ g, 0 ≤ g → g < 8 → q (b + 55) g = ((nvk s.toNat (16 - g.toNat) : Nat) : Int)) (lpX2_send_5 b s fu v (u - 1) (upM M (b + 55) (u % 8) v)) (some ()) := fun v hv => by
        have key := send_lp (M0 := M0) s0 s1 fu (u - 1) (upM M (b + 55) (u % 8) v) (by omega) (by omega) (by omega) (fun a i ha => by rw [up_nk ha]; exact ho a i ha) (fun g g0 g1 g2 => ?_)
        · rw [hv]
          rw [hv] at key
          exact key
        · by_cases q : g = u
          · rw [up_eq rfl (by omega), hv, q, show (15 - (u - 1)).toNat = 16 - u.toNat by omega]
          · rw [up_ni (by omega)]
            exact hg g (by omega) g1 g2
      by_cases t : s.toNat.testBit (u % 8).toNat = true
      · rw [if_pos t, if_pos rfl]
        dsimp only
        rw [wr_ok (by omega) (by omega), nm_ok, show w32 (u + -1) = u - 1 by rw [w32_id (by omega) (by omega)]; omega]
        exact nxt _ (by rw [ek, st, if_pos t]; omega)
      · rw [if_neg t, if_neg (by omega)]
        dsimp only
        rw [wr_ok (by omega) (by omega), nm_ok, show w32 (u + -1) = u - 1 by rw [w32_id (by omega) (by omega)]; omega]
        exact nxt _ (by rw [ek, st, if_neg t])
theorem ev_send {b : Nat} {s : Int} {M : Mem} (s0 : 1 ≤ s) (s1 : s < 256) : ∃ q, pFeast_send b s M = some q ∧ (∀ a i, ¬ a = b + 55 → q a i = M a i) ∧ ∀ g, 0 ≤ g → g < 8 → q (b + 55) g = nx s g := by
  obtain ⟨q, _, e1, _, e2, e3⟩ := send_lp (b := b) (s := s) (M0 := M) (by omega) s1 FU 15 M (by omega) (by omega) (by unfold FU; omega) (fun _ _ _ => rfl) (fun g g0 g1 g2 => by omega)
  refine ⟨q, e1, e2, fun g g0 g1 => ?_⟩
  rw [e3 g g0 g1, (nx_all s.toNat (by omega) (by omega) g.toNat (by omega)).1]
  rfl
