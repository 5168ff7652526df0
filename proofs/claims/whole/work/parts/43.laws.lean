/-! What a text gives: one pure machine for both. -/
def opv (k a b : Int) : Int := if k = 0 then (if a = 0 ∧ b = 0 then 0 else 1) else if k = 1 then (if a = 0 ∨ b = 0 then 0 else 1) else if k = 2 then (if a < b then 1 else 0) else if k = 3 then (if a = b then 1 else 0) else if k = 4 then (if b < a then 1 else 0) else if k = 5 then w32 (a + b) else if k = 6 then w32 (a - b) else if k = 7 then w32 (a * b) else if b = 0 then 0 else w32 (Int.tdiv a b)
theorem ev_truth {x : Int} {M : Mem} : pLaws_truth x M = some (if x = 0 then 0 else 1, M) := by
  unfold pLaws_truth
  split <;> rfl
theorem ev_worth {k a b : Int} {M : Mem} (k0 : 0 ≤ k) (k1 : k ≤ 8) : pLaws_worth k a b M = some (opv k a b, M) := by
  unfold pLaws_worth opv jn
  simp only [ev_truth, bI_ok]
  rcases (show k = 0 ∨ k = 1 ∨ k = 2 ∨ k = 3 ∨ k = 4 ∨ k = 5 ∨ k = 6 ∨ k = 7 ∨ k = 8 by omega) with e | e | e | e | e | e | e | e | e
  all_goals
    subst e
    simp
  · by_cases h1 : a = 0
    · by_cases h2 : b = 0
      · simp [h1, h2]
      · simp [h1, h2]
    · simp [h1]
  · by_cases h1 : a = 0
    · simp [h1]
    · by_cases h2 : b = 0
      · simp [h1, h2]
      · simp [h1, h2]
  · by_cases h1 : a < b
    · simp [h1]
    · simp [h1]
  · by_cases h1 : a = b
    · simp [h1]
    · simp [h1]
  · by_cases h1 : b < a
    · simp [h1]
    · simp [h1]
  · by_cases h1 : b = 0
    · simp [h1]
    · simp [h1]
theorem ev_joined {k a b : Int} {M : Mem} (k0 : 0 ≤ k) (k1 : k ≤ 8) : rM_joined (sg k) a b M = some (opv k a b, M) := by
  unfold rM_joined opv sg
  rcases (show k = 0 ∨ k = 1 ∨ k = 2 ∨ k = 3 ∨ k = 4 ∨ k = 5 ∨ k = 6 ∨ k = 7 ∨ k = 8 by omega) with e | e | e | e | e | e | e | e | e
  all_goals
    subst e
    simp
  · by_cases h1 : a = 0
    · by_cases h2 : b = 0
      · simp [h1, h2]
      · simp [h1, h2]
    · simp [h1]
  · by_cases h1 : a = 0
    · simp [h1]
    · by_cases h2 : b = 0
      · simp [h1, h2]
      · simp [h1, h2]
  · by_cases h1 : a < b
    · simp [h1]
    · simp [h1]
  · by_cases h1 : a = b
    · simp [h1]
    · simp [h1]
  · by_cases h1 : b < a
    · simp [h1]
    · simp [h1]
  · by_cases h1 : b = 0
    · simp [h1]
    · by_cases h2 : b = -1
      · subst h2
        simp
      · simp [h1, h2]
def upF (f : Int → Int) (i v : Int) : Int → Int := fun j => if j = i then v else f j
theorem upF_eq {f : Int → Int} {i j v : Int} (h : j = i) : upF f i v j = v := if_pos h
theorem upF_ne {f : Int → Int} {i j v : Int} (h : ¬ j = i) : upF f i v j = f j := if_neg h
def stk (f g : Int → Int) : Nat → Int → Int
  | 0 => fun _ => 0
  | n + 1 => if f n < 10000 then upF (stk f g n) (dp f n) (f n) else if f n < 20000 then upF (stk f g n) (dp f n) (g (f n - 10000)) else if f n = 20009 then upF (stk f g n) (dp f n - 1) (if stk f g n (dp f n - 1) = 0 then 1 else 0) else upF (stk f g n) (dp f n - 2) (opv (f n - 20000) (stk f g n (dp f n - 2)) (stk f g n (dp f n - 1)))
theorem dp_bd {f : Int → Int} : ∀ {n : Nat}, dp f n ≤ n
  | 0 => by unfold dp; omega
  | n + 1 => by
    unfold dp
    have := dp_bd (f := f) (n := n)
    repeat' split
    all_goals omega
theorem dp_nn {f : Int → Int} {m : Int} (h : okD f m) : ∀ {n : Nat}, (n : Int) ≤ m → 0 ≤ dp f n
  | 0, _ => by unfold dp; omega
  | n + 1, hn => by
    unfold dp
    have i1 := dp_nn h (n := n) (by omega)
    have i2 := h.2.2.1 n (by omega)
    repeat' split
    · omega
    · omega
    · have := i2 (by omega)
      omega
theorem dp_s {f : Int → Int} {u : Int} (h : 0 ≤ u) : dp f (u + 1).toNat = if f u < 20000 then dp f u.toNat + 1 else if f u = 20009 then dp f u.toNat else dp f u.toNat - 1 := by
  rw [show (u + 1).toNat = u.toNat + 1 by omega]
  show (if f (u.toNat : Int) < 20000 then _ else _) = _
  rw [Int.toNat_of_nonneg h]
theorem stk_s {f g : Int → Int} {u : Int} (h : 0 ≤ u) : stk f g (u + 1).toNat = if f u < 10000 then upF (stk f g u.toNat) (dp f u.toNat) (f u) else if f u < 20000 then upF (stk f g u.toNat) (dp f u.toNat) (g (f u - 10000)) else if f u = 20009 then upF (stk f g u.toNat) (dp f u.toNat - 1) (if stk f g u.toNat (dp f u.toNat - 1) = 0 then 1 else 0) else upF (stk f g u.toNat) (dp f u.toNat - 2) (opv (f u - 20000) (stk f g u.toNat (dp f u.toNat - 2)) (stk f g u.toNat (dp f u.toNat - 1))) := by
  rw [show (u + 1).toNat = u.toNat + 1 by omega]
  show (if f (u.toNat : Int) < 10000 then _ else _) = _
  rw [Int.toNat_of_nonneg h]
theorem val_P {f g : Int → Int} {t n : Int} (hD : okD f n) (t0 : 0 ≤ t) (t1 : t < 12) (hw : ∀ j, 0 ≤ j → j < n → 0 ≤ f j ∧ (f j < 10000 ∨ (10000 ≤ f j ∧ f j < 10004) ∨ f j = 20009 ∨ (20000 ≤ f j ∧ f j ≤ 20008))) : ∀ (fu : Nat) (u : Int) (M : Mem), 0 ≤ u → u ≤ n → (n - u).toNat < fu → M 143 t = n → (∀ j, 0 ≤ j → j < n → M 144 (96 * t + j) = f j) → (∀ k, 0 ≤ k → k < 4 → M 145 k = g k) → (∀ j, 0 ≤ j → j < dp f u.toNat → M 146 j = stk f g u.toNat j) → O2 (fun q (_ : Unit) => q.1 = stk f g n.toNat 0 ∧ ∀ a i, ¬ a = 146 → q.2 a i = M a i) (lpX4_valueOf_10 100 t (96 * t) fu (dp f u.toNat) (96 * t + u) M) (some ())
  | 0, u, M, u0, u1, hf, hn, hc, hg, hi => by omega
  | fu + 1, u, M, u0, u1, hf, hn, hc, hg, hi => by
    obtain ⟨o1, o2, o3, o4⟩ := hD
    have hD : okD f n := ⟨o1, o2, o3, o4⟩
    have db := dp_bd (f := f) (n := u.toNat)
    have dn := dp_nn hD (n := u.toNat) (by omega)
    unfold lpX4_valueOf_10
    by_cases c : u < n
    · have hcu := hc u u0 c
      obtain ⟨w0, w⟩ := hw u u0 c
      have hs := dp_s (f := f) u0
      have hk := stk_s (f := f) (g := g) u0
      have ih := val_P (g := g) hD t0 t1 hw fu (u + 1)
      rcases w with w | w | w | w
      · rw [if_pos (by omega)] at hs
        rw [if_pos w] at hk
        repeat (first | (with_reducible apply l_jn) | (with_reducible apply l_nm0; (try (conv => enter [2, 1]; simp (disch := omega) only [up_eq, up_nk, zr_nk, up_ni, zr_no, zr_in, w32_id, Nat.reduceAdd, ixT0, ixT1, ixT2, ixT3, ixT4, ixT5, ixT6, ixT7, ixT8, ixT9, ixP0, ixP1, ixP2, ixP3, ixP4, ixP5, ixP6, ixP7, ixC0, ixC1, ixC2, ixX0, ixX1, ixX2, ixX3, ixX4, ixX5, ixX6, ixX7, ixL0, ixL1, ixL2, ixA0, ixA1, ixA2, ixK0, ixK1, ixK2])); with_reducible apply l_nm1) | (with_reducible apply l_rd; (first | omega | (simp (disch := omega) only [up_eq, up_nk, zr_nk, up_ni, zr_no, zr_in, w32_id, Nat.reduceAdd, ixT0, ixT1, ixT2, ixT3, ixT4, ixT5, ixT6, ixT7, ixT8, ixT9, ixP0, ixP1, ixP2, ixP3, ixP4, ixP5, ixP6, ixP7, ixC0, ixC1, ixC2, ixX0, ixX1, ixX2, ixX3, ixX4, ixX5, ixX6, ixX7, ixL0, ixL1, ixL2, ixA0, ixA1, ixA2, ixK0, ixK1, ixK2]; omega)); (first | omega | (simp (disch := omega) only [up_eq, up_nk, zr_nk, up_ni, zr_no, zr_in, w32_id, Nat.reduceAdd, ixT0, ixT1, ixT2, ixT3, ixT4, ixT5, ixT6, ixT7, ixT8, ixT9, ixP0, ixP1, ixP2, ixP3, ixP4, ixP5, ixP6, ixP7, ixC0, ixC1, ixC2, ixX0, ixX1, ixX2, ixX3, ixX4, ixX5, ixX6, ixX7, ixL0, ixL1, ixL2, ixA0, ixA1, ixA2, ixK0, ixK1, ixK2]; omega))) | (with_reducible apply l_wr0; (try (conv => enter [2, 4]; simp (disch := omega) only [up_eq, up_nk, zr_nk, up_ni, zr_no, zr_in, w32_id, Nat.reduceAdd, ixT0, ixT1, ixT2, ixT3, ixT4, ixT5, ixT6, ixT7, ixT8, ixT9, ixP0, ixP1, ixP2, ixP3, ixP4, ixP5, ixP6, ixP7, ixC0, ixC1, ixC2, ixX0, ixX1, ixX2, ixX3, ixX4, ixX5, ixX6, ixX7, ixL0, ixL1, ixL2, ixA0, ixA1, ixA2, ixK0, ixK1, ixK2])); (try (conv => enter [2, 5]; simp (disch := omega) only [up_eq, up_nk, zr_nk, up_ni, zr_no, zr_in, w32_id, Nat.reduceAdd, ixT0, ixT1, ixT2, ixT3, ixT4, ixT5, ixT6, ixT7, ixT8, ixT9, ixP0, ixP1, ixP2, ixP3, ixP4, ixP5, ixP6, ixP7, ixC0, ixC1, ixC2, ixX0, ixX1, ixX2, ixX3, ixX4, ixX5, ixX6, ixX7, ixL0, ixL1, ixL2, ixA0, ixA1, ixA2, ixK0, ixK1, ixK2])); with_reducible apply l_wr1; omega; omega) | (with_reducible apply l_wf0; (try (conv => enter [2, 4]; simp (disch := omega) only [up_eq, up_nk, zr_nk, up_ni, zr_no, zr_in, w32_id, Nat.reduceAdd, ixT0, ixT1, ixT2, ixT3, ixT4, ixT5, ixT6, ixT7, ixT8, ixT9, ixP0, ixP1, ixP2, ixP3, ixP4, ixP5, ixP6, ixP7, ixC0, ixC1, ixC2, ixX0, ixX1, ixX2, ixX3, ixX4, ixX5, ixX6, ixX7, ixL0, ixL1, ixL2, ixA0, ixA1, ixA2, ixK0, ixK1, ixK2])); with_reducible apply l_wf1) | (with_reducible apply l_wz; omega) | (with_reducible apply l_zz) | (with_reducible apply l_zp; omega) | (with_reducible apply l_zn; omega) | (with_reducible apply l_ip; (first | omega | (simp (disch := omega) only [up_eq, up_nk, zr_nk, up_ni, zr_no, zr_in, w32_id, Nat.reduceAdd, ixT0, ixT1, ixT2, ixT3, ixT4, ixT5, ixT6, ixT7, ixT8, ixT9, ixP0, ixP1, ixP2, ixP3, ixP4, ixP5, ixP6, ixP7, ixC0, ixC1, ixC2, ixX0, ixX1, ixX2, ixX3, ixX4, ixX5, ixX6, ixX7, ixL0, ixL1, ixL2, ixA0, ixA1, ixA2, ixK0, ixK1, ixK2]; omega))) | (with_reducible apply l_in; (first | omega | (simp (disch := omega) only [up_eq, up_nk, zr_nk, up_ni, zr_no, zr_in, w32_id, Nat.reduceAdd, ixT0, ixT1, ixT2, ixT3, ixT4, ixT5, ixT6, ixT7, ixT8, ixT9, ixP0, ixP1, ixP2, ixP3, ixP4, ixP5, ixP6, ixP7, ixC0, ixC1, ixC2, ixX0, ixX1, ixX2, ixX3, ixX4, ixX5, ixX6, ixX7, ixL0, ixL1, ixL2, ixA0, ixA1, ixA2, ixK0, ixK1, ixK2]; omega))) | (with_reducible apply l_idI; (try (conv => enter [2, 1]; simp (disch := omega) only [up_eq, up_nk, zr_nk, up_ni, zr_no, zr_in, w32_id, Nat.reduceAdd, ixT0, ixT1, ixT2, ixT3, ixT4, ixT5, ixT6, ixT7, ixT8, ixT9, ixP0, ixP1, ixP2, ixP3, ixP4, ixP5, ixP6, ixP7, ixC0, ixC1, ixC2, ixX0, ixX1, ixX2, ixX3, ixX4, ixX5, ixX6, ixX7, ixL0, ixL1, ixL2, ixA0, ixA1, ixA2, ixK0, ixK1, ixK2])); with_reducible refine l_bI (ev_worth (by omega) (by omega)) ?_) | (with_reducible refine l_bI ev_truth ?_) | (with_reducible apply l_aI_some) | (with_reducible apply l_aI_rd) | (with_reducible apply l_aI_wr) | (with_reducible apply l_aI_wf) | (with_reducible apply l_aI_wz) | (with_reducible apply l_aI_nm) | (with_reducible apply l_aI_jn) | (with_reducible apply l_aI_if) | (with_reducible apply l_aI_I) | (with_reducible apply l_aI_V) | (with_reducible apply l_aV_some) | (with_reducible apply l_aV_rd) | (with_reducible apply l_aV_wr) | (with_reducible apply l_aV_wf) | (with_reducible apply l_aV_wz) | (with_reducible apply l_aV_nm) | (with_reducible apply l_aV_jn) | (with_reducible apply l_aV_if) | (with_reducible apply l_aV_I) | (with_reducible apply l_aV_V))
        rw [show 96 * t + u + 1 = 96 * t + (u + 1) by omega, ← hs, hcu]
        refine (ih _ (by omega) (by omega) (by omega) (by simp (disch := omega) only [up_eq, up_nk, zr_nk, up_ni, zr_no, zr_in, true_and, and_true, Nat.reduceAdd]; exact hn) (fun j j0 j1 => by simp (disch := omega) only [up_eq, up_nk, zr_nk, up_ni, zr_no, zr_in, true_and, and_true, Nat.reduceAdd]; exact hc j j0 j1) (fun k k0 k1 => by simp (disch := omega) only [up_eq, up_nk, zr_nk, up_ni, zr_no, zr_in, true_and, and_true, Nat.reduceAdd]; exact hg k k0 k1) (fun j j0 j1 => ?_)).mono (fun q _ hq => ⟨hq.1, fun a i ha => by rw [hq.2 a i ha]; simp (disch := omega) only [up_eq, up_nk, zr_nk, up_ni, zr_no, zr_in, true_and, and_true, Nat.reduceAdd]⟩)
        rw [hs] at j1
        rw [hk]
        by_cases e : j = dp f u.toNat
        · rw [upF_eq e]
          simp (disch := omega) only [up_eq, up_nk, zr_nk, up_ni, zr_no, zr_in, true_and, and_true, Nat.reduceAdd]
        · rw [upF_ne e]
          simp (disch := omega) only [up_eq, up_nk, zr_nk, up_ni, zr_no, zr_in, true_and, and_true, Nat.reduceAdd]
          exact hi j j0 (by omega)
      · rw [if_pos (by omega)] at hs
        rw [if_neg (by omega), if_pos (by omega)] at hk
        have hgu := hg (f u - 10000) (by omega) (by omega)
        repeat (first | (with_reducible apply l_jn) | (with_reducible apply l_nm0; (try (conv => enter [2, 1]; simp (disch := omega) only [up_eq, up_nk, zr_nk, up_ni, zr_no, zr_in, w32_id, Nat.reduceAdd, ixT0, ixT1, ixT2, ixT3, ixT4, ixT5, ixT6, ixT7, ixT8, ixT9, ixP0, ixP1, ixP2, ixP3, ixP4, ixP5, ixP6, ixP7, ixC0, ixC1, ixC2, ixX0, ixX1, ixX2, ixX3, ixX4, ixX5, ixX6, ixX7, ixL0, ixL1, ixL2, ixA0, ixA1, ixA2, ixK0, ixK1, ixK2])); with_reducible apply l_nm1) | (with_reducible apply l_rd; (first | omega | (simp (disch := omega) only [up_eq, up_nk, zr_nk, up_ni, zr_no, zr_in, w32_id, Nat.reduceAdd, ixT0, ixT1, ixT2, ixT3, ixT4, ixT5, ixT6, ixT7, ixT8, ixT9, ixP0, ixP1, ixP2, ixP3, ixP4, ixP5, ixP6, ixP7, ixC0, ixC1, ixC2, ixX0, ixX1, ixX2, ixX3, ixX4, ixX5, ixX6, ixX7, ixL0, ixL1, ixL2, ixA0, ixA1, ixA2, ixK0, ixK1, ixK2]; omega)); (first | omega | (simp (disch := omega) only [up_eq, up_nk, zr_nk, up_ni, zr_no, zr_in, w32_id, Nat.reduceAdd, ixT0, ixT1, ixT2, ixT3, ixT4, ixT5, ixT6, ixT7, ixT8, ixT9, ixP0, ixP1, ixP2, ixP3, ixP4, ixP5, ixP6, ixP7, ixC0, ixC1, ixC2, ixX0, ixX1, ixX2, ixX3, ixX4, ixX5, ixX6, ixX7, ixL0, ixL1, ixL2, ixA0, ixA1, ixA2, ixK0, ixK1, ixK2]; omega))) | (with_reducible apply l_wr0; (try (conv => enter [2, 4]; simp (disch := omega) only [up_eq, up_nk, zr_nk, up_ni, zr_no, zr_in, w32_id, Nat.reduceAdd, ixT0, ixT1, ixT2, ixT3, ixT4, ixT5, ixT6, ixT7, ixT8, ixT9, ixP0, ixP1, ixP2, ixP3, ixP4, ixP5, ixP6, ixP7, ixC0, ixC1, ixC2, ixX0, ixX1, ixX2, ixX3, ixX4, ixX5, ixX6, ixX7, ixL0, ixL1, ixL2, ixA0, ixA1, ixA2, ixK0, ixK1, ixK2])); (try (conv => enter [2, 5]; simp (disch := omega) only [up_eq, up_nk, zr_nk, up_ni, zr_no, zr_in, w32_id, Nat.reduceAdd, ixT0, ixT1, ixT2, ixT3, ixT4, ixT5, ixT6, ixT7, ixT8, ixT9, ixP0, ixP1, ixP2, ixP3, ixP4, ixP5, ixP6, ixP7, ixC0, ixC1, ixC2, ixX0, ixX1, ixX2, ixX3, ixX4, ixX5, ixX6, ixX7, ixL0, ixL1, ixL2, ixA0, ixA1, ixA2, ixK0, ixK1, ixK2])); with_reducible apply l_wr1; omega; omega) | (with_reducible apply l_wf0; (try (conv => enter [2, 4]; simp (disch := omega) only [up_eq, up_nk, zr_nk, up_ni, zr_no, zr_in, w32_id, Nat.reduceAdd, ixT0, ixT1, ixT2, ixT3, ixT4, ixT5, ixT6, ixT7, ixT8, ixT9, ixP0, ixP1, ixP2, ixP3, ixP4, ixP5, ixP6, ixP7, ixC0, ixC1, ixC2, ixX0, ixX1, ixX2, ixX3, ixX4, ixX5, ixX6, ixX7, ixL0, ixL1, ixL2, ixA0, ixA1, ixA2, ixK0, ixK1, ixK2])); with_reducible apply l_wf1) | (with_reducible apply l_wz; omega) | (with_reducible apply l_zz) | (with_reducible apply l_zp; omega) | (with_reducible apply l_zn; omega) | (with_reducible apply l_ip; (first | omega | (simp (disch := omega) only [up_eq, up_nk, zr_nk, up_ni, zr_no, zr_in, w32_id, Nat.reduceAdd, ixT0, ixT1, ixT2, ixT3, ixT4, ixT5, ixT6, ixT7, ixT8, ixT9, ixP0, ixP1, ixP2, ixP3, ixP4, ixP5, ixP6, ixP7, ixC0, ixC1, ixC2, ixX0, ixX1, ixX2, ixX3, ixX4, ixX5, ixX6, ixX7, ixL0, ixL1, ixL2, ixA0, ixA1, ixA2, ixK0, ixK1, ixK2]; omega))) | (with_reducible apply l_in; (first | omega | (simp (disch := omega) only [up_eq, up_nk, zr_nk, up_ni, zr_no, zr_in, w32_id, Nat.reduceAdd, ixT0, ixT1, ixT2, ixT3, ixT4, ixT5, ixT6, ixT7, ixT8, ixT9, ixP0, ixP1, ixP2, ixP3, ixP4, ixP5, ixP6, ixP7, ixC0, ixC1, ixC2, ixX0, ixX1, ixX2, ixX3, ixX4, ixX5, ixX6, ixX7, ixL0, ixL1, ixL2, ixA0, ixA1, ixA2, ixK0, ixK1, ixK2]; omega))) | (with_reducible apply l_idI; (try (conv => enter [2, 1]; simp (disch := omega) only [up_eq, up_nk, zr_nk, up_ni, zr_no, zr_in, w32_id, Nat.reduceAdd, ixT0, ixT1, ixT2, ixT3, ixT4, ixT5, ixT6, ixT7, ixT8, ixT9, ixP0, ixP1, ixP2, ixP3, ixP4, ixP5, ixP6, ixP7, ixC0, ixC1, ixC2, ixX0, ixX1, ixX2, ixX3, ixX4, ixX5, ixX6, ixX7, ixL0, ixL1, ixL2, ixA0, ixA1, ixA2, ixK0, ixK1, ixK2])); with_reducible refine l_bI (ev_worth (by omega) (by omega)) ?_) | (with_reducible refine l_bI ev_truth ?_) | (with_reducible apply l_aI_some) | (with_reducible apply l_aI_rd) | (with_reducible apply l_aI_wr) | (with_reducible apply l_aI_wf) | (with_reducible apply l_aI_wz) | (with_reducible apply l_aI_nm) | (with_reducible apply l_aI_jn) | (with_reducible apply l_aI_if) | (with_reducible apply l_aI_I) | (with_reducible apply l_aI_V) | (with_reducible apply l_aV_some) | (with_reducible apply l_aV_rd) | (with_reducible apply l_aV_wr) | (with_reducible apply l_aV_wf) | (with_reducible apply l_aV_wz) | (with_reducible apply l_aV_nm) | (with_reducible apply l_aV_jn) | (with_reducible apply l_aV_if) | (with_reducible apply l_aV_I) | (with_reducible apply l_aV_V))
        rw [show 96 * t + u + 1 = 96 * t + (u + 1) by omega, ← hs, hcu, hgu]
        refine (ih _ (by omega) (by omega) (by omega) (by simp (disch := omega) only [up_eq, up_nk, zr_nk, up_ni, zr_no, zr_in, true_and, and_true, Nat.reduceAdd]; exact hn) (fun j j0 j1 => by simp (disch := omega) only [up_eq, up_nk, zr_nk, up_ni, zr_no, zr_in, true_and, and_true, Nat.reduceAdd]; exact hc j j0 j1) (fun k k0 k1 => by simp (disch := omega) only [up_eq, up_nk, zr_nk, up_ni, zr_no, zr_in, true_and, and_true, Nat.reduceAdd]; exact hg k k0 k1) (fun j j0 j1 => ?_)).mono (fun q _ hq => ⟨hq.1, fun a i ha => by rw [hq.2 a i ha]; simp (disch := omega) only [up_eq, up_nk, zr_nk, up_ni, zr_no, zr_in, true_and, and_true, Nat.reduceAdd]⟩)
        rw [hs] at j1
        rw [hk]
        by_cases e : j = dp f u.toNat
        · rw [upF_eq e]
          simp (disch := omega) only [up_eq, up_nk, zr_nk, up_ni, zr_no, zr_in, true_and, and_true, Nat.reduceAdd]
        · rw [upF_ne e]
          simp (disch := omega) only [up_eq, up_nk, zr_nk, up_ni, zr_no, zr_in, true_and, and_true, Nat.reduceAdd]
          exact hi j j0 (by omega)
      · rw [if_neg (by omega), if_pos w] at hs
        rw [if_neg (by omega), if_neg (by omega), if_pos w] at hk
        have d1 : 1 ≤ dp f u.toNat := by
          have := o3 u.toNat (by omega)
          rw [Int.toNat_of_nonneg u0] at this
          have := this (by omega)
          omega
        have htop := hi (dp f u.toNat - 1) (by omega) (by omega)
        by_cases z : M 146 (dp f u.toNat - 1) = 0
        · rw [if_pos (by rw [← htop]; exact z)] at hk
          repeat (first | (with_reducible apply l_jn) | (with_reducible apply l_nm0; (try (conv => enter [2, 1]; simp (disch := omega) only [up_eq, up_nk, zr_nk, up_ni, zr_no, zr_in, w32_id, Nat.reduceAdd, ixT0, ixT1, ixT2, ixT3, ixT4, ixT5, ixT6, ixT7, ixT8, ixT9, ixP0, ixP1, ixP2, ixP3, ixP4, ixP5, ixP6, ixP7, ixC0, ixC1, ixC2, ixX0, ixX1, ixX2, ixX3, ixX4, ixX5, ixX6, ixX7, ixL0, ixL1, ixL2, ixA0, ixA1, ixA2, ixK0, ixK1, ixK2])); with_reducible apply l_nm1) | (with_reducible apply l_rd; (first | omega | (simp (disch := omega) only [up_eq, up_nk, zr_nk, up_ni, zr_no, zr_in, w32_id, Nat.reduceAdd, ixT0, ixT1, ixT2, ixT3, ixT4, ixT5, ixT6, ixT7, ixT8, ixT9, ixP0, ixP1, ixP2, ixP3, ixP4, ixP5, ixP6, ixP7, ixC0, ixC1, ixC2, ixX0, ixX1, ixX2, ixX3, ixX4, ixX5, ixX6, ixX7, ixL0, ixL1, ixL2, ixA0, ixA1, ixA2, ixK0, ixK1, ixK2]; omega)); (first | omega | (simp (disch := omega) only [up_eq, up_nk, zr_nk, up_ni, zr_no, zr_in, w32_id, Nat.reduceAdd, ixT0, ixT1, ixT2, ixT3, ixT4, ixT5, ixT6, ixT7, ixT8, ixT9, ixP0, ixP1, ixP2, ixP3, ixP4, ixP5, ixP6, ixP7, ixC0, ixC1, ixC2, ixX0, ixX1, ixX2, ixX3, ixX4, ixX5, ixX6, ixX7, ixL0, ixL1, ixL2, ixA0, ixA1, ixA2, ixK0, ixK1, ixK2]; omega))) | (with_reducible apply l_wr0; (try (conv => enter [2, 4]; simp (disch := omega) only [up_eq, up_nk, zr_nk, up_ni, zr_no, zr_in, w32_id, Nat.reduceAdd, ixT0, ixT1, ixT2, ixT3, ixT4, ixT5, ixT6, ixT7, ixT8, ixT9, ixP0, ixP1, ixP2, ixP3, ixP4, ixP5, ixP6, ixP7, ixC0, ixC1, ixC2, ixX0, ixX1, ixX2, ixX3, ixX4, ixX5, ixX6, ixX7, ixL0, ixL1, ixL2, ixA0, ixA1, ixA2, ixK0, ixK1, ixK2])); (try (conv => enter [2, 5]; simp (disch := omega) only [up_eq, up_nk, zr_nk, up_ni, zr_no, zr_in, w32_id, Nat.reduceAdd, ixT0, ixT1, ixT2, ixT3, ixT4, ixT5, ixT6, ixT7, ixT8, ixT9, ixP0, ixP1, ixP2, ixP3, ixP4, ixP5, ixP6, ixP7, ixC0, ixC1, ixC2, ixX0, ixX1, ixX2, ixX3, ixX4, ixX5, ixX6, ixX7, ixL0, ixL1, ixL2, ixA0, ixA1, ixA2, ixK0, ixK1, ixK2])); with_reducible apply l_wr1; omega; omega) | (with_reducible apply l_wf0; (try (conv => enter [2, 4]; simp (disch := omega) only [up_eq, up_nk, zr_nk, up_ni, zr_no, zr_in, w32_id, Nat.reduceAdd, ixT0, ixT1, ixT2, ixT3, ixT4, ixT5, ixT6, ixT7, ixT8, ixT9, ixP0, ixP1, ixP2, ixP3, ixP4, ixP5, ixP6, ixP7, ixC0, ixC1, ixC2, ixX0, ixX1, ixX2, ixX3, ixX4, ixX5, ixX6, ixX7, ixL0, ixL1, ixL2, ixA0, ixA1, ixA2, ixK0, ixK1, ixK2])); with_reducible apply l_wf1) | (with_reducible apply l_wz; omega) | (with_reducible apply l_zz) | (with_reducible apply l_zp; omega) | (with_reducible apply l_zn; omega) | (with_reducible apply l_ip; (first | omega | (simp (disch := omega) only [up_eq, up_nk, zr_nk, up_ni, zr_no, zr_in, w32_id, Nat.reduceAdd, ixT0, ixT1, ixT2, ixT3, ixT4, ixT5, ixT6, ixT7, ixT8, ixT9, ixP0, ixP1, ixP2, ixP3, ixP4, ixP5, ixP6, ixP7, ixC0, ixC1, ixC2, ixX0, ixX1, ixX2, ixX3, ixX4, ixX5, ixX6, ixX7, ixL0, ixL1, ixL2, ixA0, ixA1, ixA2, ixK0, ixK1, ixK2]; omega))) | (with_reducible apply l_in; (first | omega | (simp (disch := omega) only [up_eq, up_nk, zr_nk, up_ni, zr_no, zr_in, w32_id, Nat.reduceAdd, ixT0, ixT1, ixT2, ixT3, ixT4, ixT5, ixT6, ixT7, ixT8, ixT9, ixP0, ixP1, ixP2, ixP3, ixP4, ixP5, ixP6, ixP7, ixC0, ixC1, ixC2, ixX0, ixX1, ixX2, ixX3, ixX4, ixX5, ixX6, ixX7, ixL0, ixL1, ixL2, ixA0, ixA1, ixA2, ixK0, ixK1, ixK2]; omega))) | (with_reducible apply l_idI; (try (conv => enter [2, 1]; simp (disch := omega) only [up_eq, up_nk, zr_nk, up_ni, zr_no, zr_in, w32_id, Nat.reduceAdd, ixT0, ixT1, ixT2, ixT3, ixT4, ixT5, ixT6, ixT7, ixT8, ixT9, ixP0, ixP1, ixP2, ixP3, ixP4, ixP5, ixP6, ixP7, ixC0, ixC1, ixC2, ixX0, ixX1, ixX2, ixX3, ixX4, ixX5, ixX6, ixX7, ixL0, ixL1, ixL2, ixA0, ixA1, ixA2, ixK0, ixK1, ixK2])); with_reducible refine l_bI (ev_worth (by omega) (by omega)) ?_) | (with_reducible refine l_bI ev_truth ?_) | (with_reducible apply l_aI_some) | (with_reducible apply l_aI_rd) | (with_reducible apply l_aI_wr) | (with_reducible apply l_aI_wf) | (with_reducible apply l_aI_wz) | (with_reducible apply l_aI_nm) | (with_reducible apply l_aI_jn) | (with_reducible apply l_aI_if) | (with_reducible apply l_aI_I) | (with_reducible apply l_aI_V) | (with_reducible apply l_aV_some) | (with_reducible apply l_aV_rd) | (with_reducible apply l_aV_wr) | (with_reducible apply l_aV_wf) | (with_reducible apply l_aV_wz) | (with_reducible apply l_aV_nm) | (with_reducible apply l_aV_jn) | (with_reducible apply l_aV_if) | (with_reducible apply l_aV_I) | (with_reducible apply l_aV_V))
          rw [show 96 * t + u + 1 = 96 * t + (u + 1) by omega, ← hs]
          refine (ih _ (by omega) (by omega) (by omega) (by simp (disch := omega) only [up_eq, up_nk, zr_nk, up_ni, zr_no, zr_in, true_and, and_true, Nat.reduceAdd]; exact hn) (fun j j0 j1 => by simp (disch := omega) only [up_eq, up_nk, zr_nk, up_ni, zr_no, zr_in, true_and, and_true, Nat.reduceAdd]; exact hc j j0 j1) (fun k k0 k1 => by simp (disch := omega) only [up_eq, up_nk, zr_nk, up_ni, zr_no, zr_in, true_and, and_true, Nat.reduceAdd]; exact hg k k0 k1) (fun j j0 j1 => ?_)).mono (fun q _ hq => ⟨hq.1, fun a i ha => by rw [hq.2 a i ha]; simp (disch := omega) only [up_eq, up_nk, zr_nk, up_ni, zr_no, zr_in, true_and, and_true, Nat.reduceAdd]⟩)
          rw [hs] at j1
          rw [hk]
          by_cases e : j = dp f u.toNat - 1
          · rw [upF_eq e]
            simp (disch := omega) only [up_eq, up_nk, zr_nk, up_ni, zr_no, zr_in, true_and, and_true, Nat.reduceAdd]
            rfl
          · rw [upF_ne e]
            simp (disch := omega) only [up_eq, up_nk, zr_nk, up_ni, zr_no, zr_in, true_and, and_true, Nat.reduceAdd]
            exact hi j j0 (by omega)
        · rw [if_neg (by rw [← htop]; exact z)] at hk
          repeat (first | (with_reducible apply l_jn) | (with_reducible apply l_nm0; (try (conv => enter [2, 1]; simp (disch := omega) only [up_eq, up_nk, zr_nk, up_ni, zr_no, zr_in, w32_id, Nat.reduceAdd, ixT0, ixT1, ixT2, ixT3, ixT4, ixT5, ixT6, ixT7, ixT8, ixT9, ixP0, ixP1, ixP2, ixP3, ixP4, ixP5, ixP6, ixP7, ixC0, ixC1, ixC2, ixX0, ixX1, ixX2, ixX3, ixX4, ixX5, ixX6, ixX7, ixL0, ixL1, ixL2, ixA0, ixA1, ixA2, ixK0, ixK1, ixK2])); with_reducible apply l_nm1) | (with_reducible apply l_rd; (first | omega | (simp (disch := omega) only [up_eq, up_nk, zr_nk, up_ni, zr_no, zr_in, w32_id, Nat.reduceAdd, ixT0, ixT1, ixT2, ixT3, ixT4, ixT5, ixT6, ixT7, ixT8, ixT9, ixP0, ixP1, ixP2, ixP3, ixP4, ixP5, ixP6, ixP7, ixC0, ixC1, ixC2, ixX0, ixX1, ixX2, ixX3, ixX4, ixX5, ixX6, ixX7, ixL0, ixL1, ixL2, ixA0, ixA1, ixA2, ixK0, ixK1, ixK2]; omega)); (first | omega | (simp (disch := omega) only [up_eq, up_nk, zr_nk, up_ni, zr_no, zr_in, w32_id, Nat.reduceAdd, ixT0, ixT1, ixT2, ixT3, ixT4, ixT5, ixT6, ixT7, ixT8, ixT9, ixP0, ixP1, ixP2, ixP3, ixP4, ixP5, ixP6, ixP7, ixC0, ixC1, ixC2, ixX0, ixX1, ixX2, ixX3, ixX4, ixX5, ixX6, ixX7, ixL0, ixL1, ixL2, ixA0, ixA1, ixA2, ixK0, ixK1, ixK2]; omega))) | (with_reducible apply l_wr0; (try (conv => enter [2, 4]; simp (disch := omega) only [up_eq, up_nk, zr_nk, up_ni, zr_no, zr_in, w32_id, Nat.reduceAdd, ixT0, ixT1, ixT2, ixT3, ixT4, ixT5, ixT6, ixT7, ixT8, ixT9, ixP0, ixP1, ixP2, ixP3, ixP4, ixP5, ixP6, ixP7, ixC0, ixC1, ixC2, ixX0, ixX1, ixX2, ixX3, ixX4, ixX5, ixX6, ixX7, ixL0, ixL1, ixL2, ixA0, ixA1, ixA2, ixK0, ixK1, ixK2])); (try (conv => enter [2, 5]; simp (disch := omega) only [up_eq, up_nk, zr_nk, up_ni, zr_no, zr_in, w32_id, Nat.reduceAdd, ixT0, ixT1, ixT2, ixT3, ixT4, ixT5, ixT6, ixT7, ixT8, ixT9, ixP0, ixP1, ixP2, ixP3, ixP4, ixP5, ixP6, ixP7, ixC0, ixC1, ixC2, ixX0, ixX1, ixX2, ixX3, ixX4, ixX5, ixX6, ixX7, ixL0, ixL1, ixL2, ixA0, ixA1, ixA2, ixK0, ixK1, ixK2])); with_reducible apply l_wr1; omega; omega) | (with_reducible apply l_wf0; (try (conv => enter [2, 4]; simp (disch := omega) only [up_eq, up_nk, zr_nk, up_ni, zr_no, zr_in, w32_id, Nat.reduceAdd, ixT0, ixT1, ixT2, ixT3, ixT4, ixT5, ixT6, ixT7, ixT8, ixT9, ixP0, ixP1, ixP2, ixP3, ixP4, ixP5, ixP6, ixP7, ixC0, ixC1, ixC2, ixX0, ixX1, ixX2, ixX3, ixX4, ixX5, ixX6, ixX7, ixL0, ixL1, ixL2, ixA0, ixA1, ixA2, ixK0, ixK1, ixK2])); with_reducible apply l_wf1) | (with_reducible apply l_wz; omega) | (with_reducible apply l_zz) | (with_reducible apply l_zp; omega) | (with_reducible apply l_zn; omega) | (with_reducible apply l_ip; (first | omega | (simp (disch := omega) only [up_eq, up_nk, zr_nk, up_ni, zr_no, zr_in, w32_id, Nat.reduceAdd, ixT0, ixT1, ixT2, ixT3, ixT4, ixT5, ixT6, ixT7, ixT8, ixT9, ixP0, ixP1, ixP2, ixP3, ixP4, ixP5, ixP6, ixP7, ixC0, ixC1, ixC2, ixX0, ixX1, ixX2, ixX3, ixX4, ixX5, ixX6, ixX7, ixL0, ixL1, ixL2, ixA0, ixA1, ixA2, ixK0, ixK1, ixK2]; omega))) | (with_reducible apply l_in; (first | omega | (simp (disch := omega) only [up_eq, up_nk, zr_nk, up_ni, zr_no, zr_in, w32_id, Nat.reduceAdd, ixT0, ixT1, ixT2, ixT3, ixT4, ixT5, ixT6, ixT7, ixT8, ixT9, ixP0, ixP1, ixP2, ixP3, ixP4, ixP5, ixP6, ixP7, ixC0, ixC1, ixC2, ixX0, ixX1, ixX2, ixX3, ixX4, ixX5, ixX6, ixX7, ixL0, ixL1, ixL2, ixA0, ixA1, ixA2, ixK0, ixK1, ixK2]; omega))) | (with_reducible apply l_idI; (try (conv => enter [2, 1]; simp (disch := omega) only [up_eq, up_nk, zr_nk, up_ni, zr_no, zr_in, w32_id, Nat.reduceAdd, ixT0, ixT1, ixT2, ixT3, ixT4, ixT5, ixT6, ixT7, ixT8, ixT9, ixP0, ixP1, ixP2, ixP3, ixP4, ixP5, ixP6, ixP7, ixC0, ixC1, ixC2, ixX0, ixX1, ixX2, ixX3, ixX4, ixX5, ixX6, ixX7, ixL0, ixL1, ixL2, ixA0, ixA1, ixA2, ixK0, ixK1, ixK2])); with_reducible refine l_bI (ev_worth (by omega) (by omega)) ?_) | (with_reducible refine l_bI ev_truth ?_) | (with_reducible apply l_aI_some) | (with_reducible apply l_aI_rd) | (with_reducible apply l_aI_wr) | (with_reducible apply l_aI_wf) | (with_reducible apply l_aI_wz) | (with_reducible apply l_aI_nm) | (with_reducible apply l_aI_jn) | (with_reducible apply l_aI_if) | (with_reducible apply l_aI_I) | (with_reducible apply l_aI_V) | (with_reducible apply l_aV_some) | (with_reducible apply l_aV_rd) | (with_reducible apply l_aV_wr) | (with_reducible apply l_aV_wf) | (with_reducible apply l_aV_wz) | (with_reducible apply l_aV_nm) | (with_reducible apply l_aV_jn) | (with_reducible apply l_aV_if) | (with_reducible apply l_aV_I) | (with_reducible apply l_aV_V))
          rw [show 96 * t + u + 1 = 96 * t + (u + 1) by omega, ← hs]
          refine (ih _ (by omega) (by omega) (by omega) (by simp (disch := omega) only [up_eq, up_nk, zr_nk, up_ni, zr_no, zr_in, true_and, and_true, Nat.reduceAdd]; exact hn) (fun j j0 j1 => by simp (disch := omega) only [up_eq, up_nk, zr_nk, up_ni, zr_no, zr_in, true_and, and_true, Nat.reduceAdd]; exact hc j j0 j1) (fun k k0 k1 => by simp (disch := omega) only [up_eq, up_nk, zr_nk, up_ni, zr_no, zr_in, true_and, and_true, Nat.reduceAdd]; exact hg k k0 k1) (fun j j0 j1 => ?_)).mono (fun q _ hq => ⟨hq.1, fun a i ha => by rw [hq.2 a i ha]; simp (disch := omega) only [up_eq, up_nk, zr_nk, up_ni, zr_no, zr_in, true_and, and_true, Nat.reduceAdd]⟩)
          rw [hs] at j1
          rw [hk]
          by_cases e : j = dp f u.toNat - 1
          · rw [upF_eq e]
            simp (disch := omega) only [up_eq, up_nk, zr_nk, up_ni, zr_no, zr_in, true_and, and_true, Nat.reduceAdd]
            rfl
          · rw [upF_ne e]
            simp (disch := omega) only [up_eq, up_nk, zr_nk, up_ni, zr_no, zr_in, true_and, and_true, Nat.reduceAdd]
            exact hi j j0 (by omega)
      · have d2 : 2 ≤ dp f u.toNat := by
          have := o3 u.toNat (by omega)
          rw [Int.toNat_of_nonneg u0] at this
          have := this (by omega)
          omega
        rw [if_neg (by omega), if_neg (by omega)] at hs
        rw [if_neg (by omega), if_neg (by omega), if_neg (by omega)] at hk
        have ht1 := hi (dp f u.toNat - 1) (by omega) (by omega)
        have ht2 := hi (dp f u.toNat - 2) (by omega) (by omega)
        repeat (first | (with_reducible apply l_jn) | (with_reducible apply l_nm0; (try (conv => enter [2, 1]; simp (disch := omega) only [up_eq, up_nk, zr_nk, up_ni, zr_no, zr_in, w32_id, Nat.reduceAdd, ixT0, ixT1, ixT2, ixT3, ixT4, ixT5, ixT6, ixT7, ixT8, ixT9, ixP0, ixP1, ixP2, ixP3, ixP4, ixP5, ixP6, ixP7, ixC0, ixC1, ixC2, ixX0, ixX1, ixX2, ixX3, ixX4, ixX5, ixX6, ixX7, ixL0, ixL1, ixL2, ixA0, ixA1, ixA2, ixK0, ixK1, ixK2])); with_reducible apply l_nm1) | (with_reducible apply l_rd; (first | omega | (simp (disch := omega) only [up_eq, up_nk, zr_nk, up_ni, zr_no, zr_in, w32_id, Nat.reduceAdd, ixT0, ixT1, ixT2, ixT3, ixT4, ixT5, ixT6, ixT7, ixT8, ixT9, ixP0, ixP1, ixP2, ixP3, ixP4, ixP5, ixP6, ixP7, ixC0, ixC1, ixC2, ixX0, ixX1, ixX2, ixX3, ixX4, ixX5, ixX6, ixX7, ixL0, ixL1, ixL2, ixA0, ixA1, ixA2, ixK0, ixK1, ixK2]; omega)); (first | omega | (simp (disch := omega) only [up_eq, up_nk, zr_nk, up_ni, zr_no, zr_in, w32_id, Nat.reduceAdd, ixT0, ixT1, ixT2, ixT3, ixT4, ixT5, ixT6, ixT7, ixT8, ixT9, ixP0, ixP1, ixP2, ixP3, ixP4, ixP5, ixP6, ixP7, ixC0, ixC1, ixC2, ixX0, ixX1, ixX2, ixX3, ixX4, ixX5, ixX6, ixX7, ixL0, ixL1, ixL2, ixA0, ixA1, ixA2, ixK0, ixK1, ixK2]; omega))) | (with_reducible apply l_wr0; (try (conv => enter [2, 4]; simp (disch := omega) only [up_eq, up_nk, zr_nk, up_ni, zr_no, zr_in, w32_id, Nat.reduceAdd, ixT0, ixT1, ixT2, ixT3, ixT4, ixT5, ixT6, ixT7, ixT8, ixT9, ixP0, ixP1, ixP2, ixP3, ixP4, ixP5, ixP6, ixP7, ixC0, ixC1, ixC2, ixX0, ixX1, ixX2, ixX3, ixX4, ixX5, ixX6, ixX7, ixL0, ixL1, ixL2, ixA0, ixA1, ixA2, ixK0, ixK1, ixK2])); (try (conv => enter [2, 5]; simp (disch := omega) only [up_eq, up_nk, zr_nk, up_ni, zr_no, zr_in, w32_id, Nat.reduceAdd, ixT0, ixT1, ixT2, ixT3, ixT4, ixT5, ixT6, ixT7, ixT8, ixT9, ixP0, ixP1, ixP2, ixP3, ixP4, ixP5, ixP6, ixP7, ixC0, ixC1, ixC2, ixX0, ixX1, ixX2, ixX3, ixX4, ixX5, ixX6, ixX7, ixL0, ixL1, ixL2, ixA0, ixA1, ixA2, ixK0, ixK1, ixK2])); with_reducible apply l_wr1; omega; omega) | (with_reducible apply l_wf0; (try (conv => enter [2, 4]; simp (disch := omega) only [up_eq, up_nk, zr_nk, up_ni, zr_no, zr_in, w32_id, Nat.reduceAdd, ixT0, ixT1, ixT2, ixT3, ixT4, ixT5, ixT6, ixT7, ixT8, ixT9, ixP0, ixP1, ixP2, ixP3, ixP4, ixP5, ixP6, ixP7, ixC0, ixC1, ixC2, ixX0, ixX1, ixX2, ixX3, ixX4, ixX5, ixX6, ixX7, ixL0, ixL1, ixL2, ixA0, ixA1, ixA2, ixK0, ixK1, ixK2])); with_reducible apply l_wf1) | (with_reducible apply l_wz; omega) | (with_reducible apply l_zz) | (with_reducible apply l_zp; omega) | (with_reducible apply l_zn; omega) | (with_reducible apply l_ip; (first | omega | (simp (disch := omega) only [up_eq, up_nk, zr_nk, up_ni, zr_no, zr_in, w32_id, Nat.reduceAdd, ixT0, ixT1, ixT2, ixT3, ixT4, ixT5, ixT6, ixT7, ixT8, ixT9, ixP0, ixP1, ixP2, ixP3, ixP4, ixP5, ixP6, ixP7, ixC0, ixC1, ixC2, ixX0, ixX1, ixX2, ixX3, ixX4, ixX5, ixX6, ixX7, ixL0, ixL1, ixL2, ixA0, ixA1, ixA2, ixK0, ixK1, ixK2]; omega))) | (with_reducible apply l_in; (first | omega | (simp (disch := omega) only [up_eq, up_nk, zr_nk, up_ni, zr_no, zr_in, w32_id, Nat.reduceAdd, ixT0, ixT1, ixT2, ixT3, ixT4, ixT5, ixT6, ixT7, ixT8, ixT9, ixP0, ixP1, ixP2, ixP3, ixP4, ixP5, ixP6, ixP7, ixC0, ixC1, ixC2, ixX0, ixX1, ixX2, ixX3, ixX4, ixX5, ixX6, ixX7, ixL0, ixL1, ixL2, ixA0, ixA1, ixA2, ixK0, ixK1, ixK2]; omega))) | (with_reducible apply l_idI; (try (conv => enter [2, 1]; simp (disch := omega) only [up_eq, up_nk, zr_nk, up_ni, zr_no, zr_in, w32_id, Nat.reduceAdd, ixT0, ixT1, ixT2, ixT3, ixT4, ixT5, ixT6, ixT7, ixT8, ixT9, ixP0, ixP1, ixP2, ixP3, ixP4, ixP5, ixP6, ixP7, ixC0, ixC1, ixC2, ixX0, ixX1, ixX2, ixX3, ixX4, ixX5, ixX6, ixX7, ixL0, ixL1, ixL2, ixA0, ixA1, ixA2, ixK0, ixK1, ixK2])); with_reducible refine l_bI (ev_worth (by omega) (by omega)) ?_) | (with_reducible refine l_bI ev_truth ?_) | (with_reducible apply l_aI_some) | (with_reducible apply l_aI_rd) | (with_reducible apply l_aI_wr) | (with_reducible apply l_aI_wf) | (with_reducible apply l_aI_wz) | (with_reducible apply l_aI_nm) | (with_reducible apply l_aI_jn) | (with_reducible apply l_aI_if) | (with_reducible apply l_aI_I) | (with_reducible apply l_aI_V) | (with_reducible apply l_aV_some) | (with_reducible apply l_aV_rd) | (with_reducible apply l_aV_wr) | (with_reducible apply l_aV_wf) | (with_reducible apply l_aV_wz) | (with_reducible apply l_aV_nm) | (with_reducible apply l_aV_jn) | (with_reducible apply l_aV_if) | (with_reducible apply l_aV_I) | (with_reducible apply l_aV_V))
        rw [show 96 * t + u + 1 = 96 * t + (u + 1) by omega, show dp f u.toNat + -1 = dp f (u + 1).toNat by omega]
        refine (ih _ (by omega) (by omega) (by omega) (by simp (disch := omega) only [up_eq, up_nk, zr_nk, up_ni, zr_no, zr_in, true_and, and_true, Nat.reduceAdd]; exact hn) (fun j j0 j1 => by simp (disch := omega) only [up_eq, up_nk, zr_nk, up_ni, zr_no, zr_in, true_and, and_true, Nat.reduceAdd]; exact hc j j0 j1) (fun k k0 k1 => by simp (disch := omega) only [up_eq, up_nk, zr_nk, up_ni, zr_no, zr_in, true_and, and_true, Nat.reduceAdd]; exact hg k k0 k1) (fun j j0 j1 => ?_)).mono (fun q _ hq => ⟨hq.1, fun a i ha => by rw [hq.2 a i ha]; simp (disch := omega) only [up_eq, up_nk, zr_nk, up_ni, zr_no, zr_in, true_and, and_true, Nat.reduceAdd]⟩)
        rw [hs] at j1
        rw [hk]
        by_cases e : j = dp f u.toNat - 2
        · rw [upF_eq e, ← ht1, ← ht2]
          simp (disch := omega) only [up_eq, up_nk, zr_nk, up_ni, zr_no, zr_in, true_and, and_true, Nat.reduceAdd]
          congr 2 <;> omega
        · rw [upF_ne e]
          simp (disch := omega) only [up_eq, up_nk, zr_nk, up_ni, zr_no, zr_in, true_and, and_true, Nat.reduceAdd]
          exact hi j j0 (by omega)
    · have hz := hi 0 (by omega)
      rw [show u.toNat = n.toNat by omega] at hz
      rw [o4] at hz
      repeat (first | (with_reducible apply l_jn) | (with_reducible apply l_nm0; (try (conv => enter [2, 1]; simp (disch := omega) only [up_eq, up_nk, zr_nk, up_ni, zr_no, zr_in, w32_id, Nat.reduceAdd, ixT0, ixT1, ixT2, ixT3, ixT4, ixT5, ixT6, ixT7, ixT8, ixT9, ixP0, ixP1, ixP2, ixP3, ixP4, ixP5, ixP6, ixP7, ixC0, ixC1, ixC2, ixX0, ixX1, ixX2, ixX3, ixX4, ixX5, ixX6, ixX7, ixL0, ixL1, ixL2, ixA0, ixA1, ixA2, ixK0, ixK1, ixK2])); with_reducible apply l_nm1) | (with_reducible apply l_rd; (first | omega | (simp (disch := omega) only [up_eq, up_nk, zr_nk, up_ni, zr_no, zr_in, w32_id, Nat.reduceAdd, ixT0, ixT1, ixT2, ixT3, ixT4, ixT5, ixT6, ixT7, ixT8, ixT9, ixP0, ixP1, ixP2, ixP3, ixP4, ixP5, ixP6, ixP7, ixC0, ixC1, ixC2, ixX0, ixX1, ixX2, ixX3, ixX4, ixX5, ixX6, ixX7, ixL0, ixL1, ixL2, ixA0, ixA1, ixA2, ixK0, ixK1, ixK2]; omega)); (first | omega | (simp (disch := omega) only [up_eq, up_nk, zr_nk, up_ni, zr_no, zr_in, w32_id, Nat.reduceAdd, ixT0, ixT1, ixT2, ixT3, ixT4, ixT5, ixT6, ixT7, ixT8, ixT9, ixP0, ixP1, ixP2, ixP3, ixP4, ixP5, ixP6, ixP7, ixC0, ixC1, ixC2, ixX0, ixX1, ixX2, ixX3, ixX4, ixX5, ixX6, ixX7, ixL0, ixL1, ixL2, ixA0, ixA1, ixA2, ixK0, ixK1, ixK2]; omega))) | (with_reducible apply l_wr0; (try (conv => enter [2, 4]; simp (disch := omega) only [up_eq, up_nk, zr_nk, up_ni, zr_no, zr_in, w32_id, Nat.reduceAdd, ixT0, ixT1, ixT2, ixT3, ixT4, ixT5, ixT6, ixT7, ixT8, ixT9, ixP0, ixP1, ixP2, ixP3, ixP4, ixP5, ixP6, ixP7, ixC0, ixC1, ixC2, ixX0, ixX1, ixX2, ixX3, ixX4, ixX5, ixX6, ixX7, ixL0, ixL1, ixL2, ixA0, ixA1, ixA2, ixK0, ixK1, ixK2])); (try (conv => enter [2, 5]; simp (disch := omega) only [up_eq, up_nk, zr_nk, up_ni, zr_no, zr_in, w32_id, Nat.reduceAdd, ixT0, ixT1, ixT2, ixT3, ixT4, ixT5, ixT6, ixT7, ixT8, ixT9, ixP0, ixP1, ixP2, ixP3, ixP4, ixP5, ixP6, ixP7, ixC0, ixC1, ixC2, ixX0, ixX1, ixX2, ixX3, ixX4, ixX5, ixX6, ixX7, ixL0, ixL1, ixL2, ixA0, ixA1, ixA2, ixK0, ixK1, ixK2])); with_reducible apply l_wr1; omega; omega) | (with_reducible apply l_wf0; (try (conv => enter [2, 4]; simp (disch := omega) only [up_eq, up_nk, zr_nk, up_ni, zr_no, zr_in, w32_id, Nat.reduceAdd, ixT0, ixT1, ixT2, ixT3, ixT4, ixT5, ixT6, ixT7, ixT8, ixT9, ixP0, ixP1, ixP2, ixP3, ixP4, ixP5, ixP6, ixP7, ixC0, ixC1, ixC2, ixX0, ixX1, ixX2, ixX3, ixX4, ixX5, ixX6, ixX7, ixL0, ixL1, ixL2, ixA0, ixA1, ixA2, ixK0, ixK1, ixK2])); with_reducible apply l_wf1) | (with_reducible apply l_wz; omega) | (with_reducible apply l_zz) | (with_reducible apply l_zp; omega) | (with_reducible apply l_zn; omega) | (with_reducible apply l_ip; (first | omega | (simp (disch := omega) only [up_eq, up_nk, zr_nk, up_ni, zr_no, zr_in, w32_id, Nat.reduceAdd, ixT0, ixT1, ixT2, ixT3, ixT4, ixT5, ixT6, ixT7, ixT8, ixT9, ixP0, ixP1, ixP2, ixP3, ixP4, ixP5, ixP6, ixP7, ixC0, ixC1, ixC2, ixX0, ixX1, ixX2, ixX3, ixX4, ixX5, ixX6, ixX7, ixL0, ixL1, ixL2, ixA0, ixA1, ixA2, ixK0, ixK1, ixK2]; omega))) | (with_reducible apply l_in; (first | omega | (simp (disch := omega) only [up_eq, up_nk, zr_nk, up_ni, zr_no, zr_in, w32_id, Nat.reduceAdd, ixT0, ixT1, ixT2, ixT3, ixT4, ixT5, ixT6, ixT7, ixT8, ixT9, ixP0, ixP1, ixP2, ixP3, ixP4, ixP5, ixP6, ixP7, ixC0, ixC1, ixC2, ixX0, ixX1, ixX2, ixX3, ixX4, ixX5, ixX6, ixX7, ixL0, ixL1, ixL2, ixA0, ixA1, ixA2, ixK0, ixK1, ixK2]; omega))) | (with_reducible apply l_idI; (try (conv => enter [2, 1]; simp (disch := omega) only [up_eq, up_nk, zr_nk, up_ni, zr_no, zr_in, w32_id, Nat.reduceAdd, ixT0, ixT1, ixT2, ixT3, ixT4, ixT5, ixT6, ixT7, ixT8, ixT9, ixP0, ixP1, ixP2, ixP3, ixP4, ixP5, ixP6, ixP7, ixC0, ixC1, ixC2, ixX0, ixX1, ixX2, ixX3, ixX4, ixX5, ixX6, ixX7, ixL0, ixL1, ixL2, ixA0, ixA1, ixA2, ixK0, ixK1, ixK2])); with_reducible refine l_bI (ev_worth (by omega) (by omega)) ?_) | (with_reducible refine l_bI ev_truth ?_) | (with_reducible apply l_aI_some) | (with_reducible apply l_aI_rd) | (with_reducible apply l_aI_wr) | (with_reducible apply l_aI_wf) | (with_reducible apply l_aI_wz) | (with_reducible apply l_aI_nm) | (with_reducible apply l_aI_jn) | (with_reducible apply l_aI_if) | (with_reducible apply l_aI_I) | (with_reducible apply l_aI_V) | (with_reducible apply l_aV_some) | (with_reducible apply l_aV_rd) | (with_reducible apply l_aV_wr) | (with_reducible apply l_aV_wf) | (with_reducible apply l_aV_wz) | (with_reducible apply l_aV_nm) | (with_reducible apply l_aV_jn) | (with_reducible apply l_aV_if) | (with_reducible apply l_aV_I) | (with_reducible apply l_aV_V))
      exact o2_ret ⟨hz (by omega), fun _ _ _ => rfl⟩
