/-! Files: how the reference finds the best worth; the pairs; call: pairing. -/
theorem ev_pairWorth {lk : Int → Int → Int} {M : Mem} {m i k t : Int} {f : Int → Int} (m1 : m ≤ 10) (i0 : 0 ≤ i) (i1 : i < 10) (k0 : 0 ≤ k) (k1 : k < m) (t0 : 0 ≤ t) (t1 : t < bShl 1 m) (ha : rM_alikeOf i k M = some (lk i k, M)) (hl : 0 ≤ lk i k ∧ lk i k ≤ 2) (hf : ∀ t, 0 ≤ t → t < bShl 1 m → M 14 (1024 * (i + 1) + t) = f t ∧ 0 ≤ f t ∧ f t ≤ 1000) : rM_pairWorth i k t M = some (pw lk i k t f, M) := by
  have sb := shb_bd (m := m) (by omega) m1
  have hb := bit_tb (d := t) (i := k) t0 (by omega) k0 (by omega)
  have sd := set_bd m1 t0 t1 k0 k1
  obtain ⟨s1, s2, s3⟩ := hf _ sd.1 sd.2
  unfold rM_pairWorth pw
  rw [ha, bI_k]
  simp only [jn_ok]
  by_cases c : lk i k = 0
  · rw [if_pos c, if_pos (.inl c)]
  · rw [if_neg c]
    by_cases d : tb t k = true
    · rw [if_pos d] at hb
      rw [if_pos hb, if_pos (.inr d)]
    · rw [if_neg d] at hb
      rw [if_neg (show ¬ bAnd (bShr t k) 1 = 1 by omega), if_neg (show ¬ (lk i k = 0 ∨ tb t k = true) from fun q => q.elim c d), w32_id (z := i + 1) (by omega) (by omega), w32_id (z := 1024 * (i + 1)) (by omega) (by omega), w32_id (z := 1024 * (i + 1) + bOr t (bShl 1 k)) (by omega) (by omega)]
      unfold wt
      by_cases x : lk i k = 2
      · rw [if_pos x, if_pos x, rd_ok (by omega) (by omega), s1, w32_id (by omega) (by omega)]
      · rw [if_neg x, if_neg x, show lk i k = 1 by omega, rd_ok (by omega) (by omega), s1, w32_id (by omega) (by omega)]
theorem pr_k {lk : Int → Int → Int} {M : Mem} {n m i t : Int} {f : Int → Int} {y : Int} {k : Int → Mem → Option (Int × Mem)} (m1 : m ≤ 10) (n1 : n ≤ 10) (i0 : 0 ≤ i) (i1 : i < n) (t0 : 0 ≤ t) (t1 : t < bShl 1 m) (ha : ∀ k, 0 ≤ k → k < m → rM_alikeOf i k M = some (lk i k, M)) (hl : ∀ k, 0 ≤ k → k < m → 0 ≤ lk i k ∧ lk i k ≤ 2) (hf : ∀ t, 0 ≤ t → t < bShl 1 m → M 14 (1024 * (i + 1) + t) = f t ∧ 0 ≤ f t ∧ f t ≤ 1000) : ∀ (fu : Nat) (u : Int), 0 ≤ u → u ≤ m → (m - u).toNat < fu → lpX12_findPairs_83 y m i t k fu (mx lk i f t u.toNat) u M = k (mx lk i f t m.toNat) M
  | 0, u, u0, u1, hf0 => by omega
  | fu + 1, u, u0, u1, hf0 => by
    rw [lpX12_findPairs_83]
    by_cases c : u < m
    · have ih := pr_k (y := y) (k := k) m1 n1 i0 i1 t0 t1 ha hl hf fu (u + 1) (by omega) (by omega) (by omega)
      rw [mx_s u0] at ih
      rw [if_pos c, ev_pairWorth m1 i0 (by omega) u0 c t0 t1 (ha u u0 c) (hl u u0 c) hf, bI_k]
      simp only [jn_ok, nm_ok]
      rw [w32_id (z := u + 1) (by omega) (by omega)]
      by_cases d : mx lk i f t u.toNat < pw lk i u t f
      · rw [if_pos d] at ih ⊢
        exact ih
      · rw [if_neg d] at ih ⊢
        exact ih
    · have ue : u = m := by omega
      rw [if_neg c, ue]
theorem pr_t {lk : Int → Int → Int} {R0 : Mem} {n m i : Int} {f : Int → Int} {k : Mem → Option (Int × Mem)} {α : Type} {A : Option α} {Q : α → Int × Mem → Prop} (m0 : 0 ≤ m) (m1 : m ≤ 10) (n1 : n ≤ 10) (i0 : 0 ≤ i) (i1 : i < n) (hl : ∀ k, 0 ≤ k → k < m → 0 ≤ lk i k ∧ lk i k ≤ 2) (ha : ∀ M, (∀ a j, ¬ a = 14 → M a j = R0 a j) → ∀ k, 0 ≤ k → k < m → rM_alikeOf i k M = some (lk i k, M)) (hf : ∀ t, 0 ≤ t → t < bShl 1 m → R0 14 (1024 * (i + 1) + t) = f t ∧ 0 ≤ f t ∧ f t ≤ 1000) (hk : ∀ q, (∀ a j, ¬ a = 14 → q a j = R0 a j) → (∀ j, ¬ (1024 * i ≤ j ∧ j < 1024 * i + 1024) → q 14 j = R0 14 j) → (∀ t, 0 ≤ t → t < bShl 1 m → q 14 (1024 * i + t) = mx lk i f t m.toNat) → O2 Q A (k q)) : ∀ (fu : Nat) (u : Int) (M : Mem), 0 ≤ u → u ≤ bShl 1 m → (bShl 1 m - u).toNat < fu → (∀ a j, ¬ a = 14 → M a j = R0 a j) → (∀ j, ¬ (1024 * i ≤ j ∧ j < 1024 * i + 1024) → M 14 j = R0 14 j) → (∀ t, 0 ≤ t → t < u → M 14 (1024 * i + t) = mx lk i f t m.toNat) → O2 Q A (lpX12_findPairs_55 n m i k fu u M)
  | 0, u, M, u0, u1, hf0, f1, f2, f3 => by omega
  | fu + 1, u, M, u0, u1, hf0, f1, f2, f3 => by
    have sb := shb_bd m0 m1
    rw [lpX12_findPairs_55]
    by_cases c : u < bShl 1 m
    · have hf2 : ∀ t, 0 ≤ t → t < bShl 1 m → M 14 (1024 * (i + 1) + t) = f t ∧ 0 ≤ f t ∧ f t ≤ 1000 := fun t t0 t1 => by rw [f2 _ (by omega)]; exact hf t t0 t1
      have pk := fun k => pr_k (k := k) (y := n) m1 n1 i0 i1 u0 c (ha M f1) hl hf2 FU 0 (by omega) m0 (by unfold FU; omega)
      have pk2 : ∀ k, lpX12_findPairs_83 n m i u k FU (f u) 0 M = k (mx lk i f u m.toNat) M := pk
      rw [if_pos c, w32_id (z := i + 1) (by omega) (by omega), w32_id (z := 1024 * (i + 1)) (by omega) (by omega), w32_id (z := 1024 * (i + 1) + u) (by omega) (by omega), rd_ok (by omega) (by omega), (hf2 u u0 c).1, pk2]
      rw [w32_id (z := 1024 * i) (by omega) (by omega), w32_id (z := 1024 * i + u) (by omega) (by omega), wr_ok (by omega) (by omega), nm_ok, w32_id (z := u + 1) (by omega) (by omega)]
      refine pr_t m0 m1 n1 i0 i1 hl ha hf hk fu (u + 1) _ (by omega) (by omega) (by omega) (fun a j h => by rw [up_nk h]; exact f1 a j h) (fun j hj => by rw [up_ni (by omega)]; exact f2 j hj) (fun t t0 t1 => ?_)
      by_cases e : t = u
      · rw [up_eq rfl (by omega), e]
      · rw [up_ni (by omega)]
        exact f3 t t0 (by omega)
    · rw [if_neg c]
      exact hk M f1 f2 fun t t0 t1 => f3 t t0 (by omega)
def rrQ (lk : Int → Int → Int) (n m lo : Int) (R0 M : Mem) : Prop := (∀ a j, ¬ a = 14 → M a j = R0 a j) ∧ ∀ i, lo ≤ i → 0 ≤ i → i ≤ n → ∀ t, 0 ≤ t → t < bShl 1 m → M 14 (1024 * i + t) = gN lk n m.toNat (n - i).toNat t
theorem pr_i {lk : Int → Int → Int} {R0 : Mem} {n m : Int} {k : Mem → Option (Int × Mem)} {α : Type} {A : Option α} {Q : α → Int × Mem → Prop} (m0 : 0 ≤ m) (m1 : m ≤ 10) (n1 : n ≤ 10) (hl : ∀ i k, 0 ≤ i → i < n → 0 ≤ k → k < m → 0 ≤ lk i k ∧ lk i k ≤ 2) (ha : ∀ M, (∀ a j, ¬ a = 14 → M a j = R0 a j) → ∀ i k, 0 ≤ i → i < n → 0 ≤ k → k < m → rM_alikeOf i k M = some (lk i k, M)) (hk : ∀ q, rrQ lk n m 0 R0 q → O2 Q A (k q)) : ∀ (fu : Nat) (u : Int) (M : Mem), -1 ≤ u → u < n → (u + 1).toNat < fu → rrQ lk n m (u + 1) R0 M → O2 Q A (lpX12_findPairs_48 n m k fu u M)
  | 0, u, M, u0, u1, hf0, hq => by omega
  | fu + 1, u, M, u0, u1, hf0, hq => by
    have sb := shb_bd m0 m1
    obtain ⟨f1, f3⟩ := hq
    rw [lpX12_findPairs_48]
    by_cases c : u < 0
    · rw [if_pos c]
      exact hk M ⟨f1, fun i _ i0 i1 => f3 i (by omega) i0 i1⟩
    · have gb := gN_bd (lk := lk) (n := n) m0 m1 hl
      rw [if_neg c]
      refine pr_t (lk := lk) (R0 := M) (f := fun t => gN lk n m.toNat (n - (u + 1)).toNat t) m0 m1 n1 (by omega) u1 (fun k k0 k1 => hl u k (by omega) u1 k0 k1) (fun M2 h2 k k0 k1 => ha M2 (fun a j h => by rw [h2 a j h]; exact f1 a j h) u k (by omega) u1 k0 k1) (fun t t0 t1 => ⟨f3 (u + 1) (by omega) (by omega) (by omega) t t0 t1, (gb _ (by omega) t t0 t1).1, by have := (gb (n - (u + 1)).toNat (by omega) t t0 t1).2; (try dsimp only); omega⟩) (fun q g1 g2 g3 => ?_) FU 0 M (by omega) (by omega) (by unfold FU; omega) (fun _ _ _ => rfl) (fun _ _ => rfl) (fun t t0 t1 => by omega)
      rw [nm_ok, w32_id (by omega) (by omega)]
      refine pr_i m0 m1 n1 hl ha hk fu (u + -1) q (by omega) (by omega) (by omega) ⟨fun a j h => by rw [g1 a j h]; exact f1 a j h, fun i il i0 i1 t t0 t1 => ?_⟩
      by_cases e : i = u
      · rw [e, g3 t t0 t1, gN_s (by omega) u1]
      · rw [g2 _ (by omega)]
        exact f3 i (by omega) i0 i1 t t0 t1
theorem pr_0 {R0 : Mem} {n m : Int} {k : Mem → Option (Int × Mem)} {α : Type} {A : Option α} {Q : α → Int × Mem → Prop} (n0 : 0 ≤ n) (n1 : n ≤ 10) (m0 : 0 ≤ m) (m1 : m ≤ 10) (hk : ∀ q, (∀ a j, ¬ a = 14 → q a j = R0 a j) → (∀ t, 0 ≤ t → t < bShl 1 m → q 14 (1024 * n + t) = 0) → O2 Q A (k q)) : ∀ (fu : Nat) (u : Int) (M : Mem), 0 ≤ u → u ≤ bShl 1 m → (bShl 1 m - u).toNat < fu → (∀ a j, ¬ a = 14 → M a j = R0 a j) → (∀ t, 0 ≤ t → t < u → M 14 (1024 * n + t) = 0) → O2 Q A (lpX12_findPairs_18 n m k fu u M)
  | 0, u, M, u0, u1, hf0, f1, f3 => by omega
  | fu + 1, u, M, u0, u1, hf0, f1, f3 => by
    have sb := shb_bd m0 m1
    rw [lpX12_findPairs_18]
    by_cases c : u < bShl 1 m
    · rw [if_pos c, w32_id (z := 1024 * n) (by omega) (by omega), w32_id (z := 1024 * n + u) (by omega) (by omega), wr_ok (by omega) (by omega), nm_ok, w32_id (by omega) (by omega)]
      refine pr_0 n0 n1 m0 m1 hk fu (u + 1) _ (by omega) (by omega) (by omega) (fun a j h => by rw [up_nk h]; exact f1 a j h) (fun t t0 t1 => ?_)
      by_cases e : t = u
      · rw [up_eq rfl (by omega)]
      · rw [up_ni (by omega)]
        exact f3 t t0 (by omega)
    · rw [if_neg c]
      exact hk M f1 fun t t0 t1 => f3 t t0 (by omega)
theorem mx_eq {lk : Int → Int → Int} {i t : Int} {f : Int → Int} : ∀ (K : Nat), mx lk i f t K = f t ∨ ∃ k : Int, 0 ≤ k ∧ k < K ∧ mx lk i f t K = pw lk i k t f
  | 0 => .inl rfl
  | K + 1 => by
    unfold mx
    split
    · exact .inr ⟨K, by omega, by omega, rfl⟩
    · rcases mx_eq (lk := lk) (i := i) (t := t) (f := f) K with h | ⟨k, k0, k1, h⟩
      · exact .inl h
      · exact .inr ⟨k, k0, by omega, h⟩
def fsel (lk : Int → Int → Int) (i : Int) (f : Int → Int) (t g : Int) : Nat → Int → Int
  | 0, u => u
  | d + 1, u => if pw lk i u t f = g then u else fsel lk i f t g d (u + 1)
theorem fs_pr {lk : Int → Int → Int} {i t g : Int} {f : Int → Int} : ∀ (d : Nat) (u : Int), u ≤ fsel lk i f t g d u ∧ fsel lk i f t g d u ≤ u + d ∧ (fsel lk i f t g d u < u + d → pw lk i (fsel lk i f t g d u) t f = g) ∧ ∀ k, u ≤ k → k < fsel lk i f t g d u → ¬ pw lk i k t f = g
  | 0, u => by
    unfold fsel
    exact ⟨by omega, by omega, fun q => by omega, fun k k0 k1 => by omega⟩
  | d + 1, u => by
    unfold fsel
    by_cases c : pw lk i u t f = g
    · rw [if_pos c]
      exact ⟨by omega, by omega, fun _ => c, fun k k0 k1 => by omega⟩
    · rw [if_neg c]
      obtain ⟨a1, a2, a3, a4⟩ := fs_pr (lk := lk) (i := i) (t := t) (g := g) (f := f) d (u + 1)
      refine ⟨by omega, by omega, fun q => a3 (by omega), fun k k0 k1 => ?_⟩
      by_cases e : k = u
      · rw [e]
        exact c
      · exact a4 k (by omega) k1
theorem fs_s {lk : Int → Int → Int} {i t g m u : Int} {f : Int → Int} (h : u < m) : fsel lk i f t g (m - u).toNat u = if pw lk i u t f = g then u else fsel lk i f t g (m - (u + 1)).toNat (u + 1) := by
  rw [show (m - u).toNat = (m - (u + 1)).toNat + 1 by omega, fsel]
theorem sel_R {lk : Int → Int → Int} {R' : Mem} {n m i t g y : Int} {f : Int → Int} {kk : Int → Mem → Option (Int × Mem)} (m1 : m ≤ 10) (n1 : n ≤ 10) (i0 : 0 ≤ i) (i1 : i < n) (t0 : 0 ≤ t) (t1 : t < bShl 1 m) (hl : ∀ k, 0 ≤ k → k < m → 0 ≤ lk i k ∧ lk i k ≤ 2) (ha : ∀ k, 0 ≤ k → k < m → rM_alikeOf i k R' = some (lk i k, R')) (hfR : ∀ t, 0 ≤ t → t < bShl 1 m → R' 14 (1024 * (i + 1) + t) = f t ∧ 0 ≤ f t ∧ f t ≤ 1000) (hgR : R' 14 (1024 * i + t) = g) : ∀ (fu : Nat) (u : Int), 0 ≤ u → u ≤ m → (m - u).toNat < fu → lpX12_findPairs_163 y m t i kk fu u R' = kk (fsel lk i f t g (m - u).toNat u) R'
  | 0, u, u0, u1, hf0 => by omega
  | fu + 1, u, u0, u1, hf0 => by
    rw [lpX12_findPairs_163]
    by_cases c : u < m
    · have sb := shb_bd (m := m) (by omega) m1
      rw [if_pos c, ev_pairWorth (lk := lk) (M := R') (f := f) m1 i0 (by omega) u0 c t0 t1 (ha u u0 c) (hl u u0 c) hfR, bI_k, w32_id (z := 1024 * i) (by omega) (by omega), w32_id (z := 1024 * i + t) (by omega) (by omega), rd_ok (x := 1024 * i + t) (by omega) (by omega), hgR, fs_s c]
      by_cases x : pw lk i u t f = g
      · rw [if_pos x, if_pos x]
      · rw [if_neg x, if_neg x, nm_ok, w32_id (by omega) (by omega)]
        exact sel_R m1 n1 i0 i1 t0 t1 hl ha hfR hgR fu (u + 1) (by omega) (by omega) (by omega)
    · have ue : u = m := by omega
      rw [if_neg c, ue, show (m - m).toNat = 0 by omega, fsel]
theorem sel_P {lk : Int → Int → Int} {M : Mem} {n m i t L g : Int} {f : Int → Int} (m0 : 0 ≤ m) (m1 : m ≤ 10) (i0 : 0 ≤ i) (i1 : i < n) (n1 : n ≤ 10) (t0 : 0 ≤ t) (t1 : t < bShl 1 m) (hm : M 148 1 = m) (hL : M 163 (-1) = L) (hLL : (n + 1) * bShl 1 m ≤ L) (hg0 : 0 ≤ g) (hl : ∀ k, 0 ≤ k → k < m → 0 ≤ lk i k ∧ lk i k ≤ 2) (hp : ∀ k, 0 ≤ k → k < m → pFiles_likeness 100 i k M = some (lk i k, M)) (hfP : ∀ t, 0 ≤ t → t < bShl 1 m → M 163 ((i + 1) * bShl 1 m + t) = f t ∧ 0 ≤ f t ∧ f t ≤ 1000) (hgP : M 163 (i * bShl 1 m + t) = g) : ∀ (fu : Nat) (u : Int), 0 ≤ u → u ≤ m → (m - u).toNat < fu → lpX3_leastPartner_12 100 i t (bShl 1 m) fu u M = some (if fsel lk i f t g (m - u).toNat u < m then fsel lk i f t g (m - u).toNat u else -1000000005, M)
  | 0, u, u0, u1, hf0 => by omega
  | fu + 1, u, u0, u1, hf0 => by
    have sb := shb_bd m0 m1
    have b0 : 0 ≤ i * bShl 1 m := Int.mul_nonneg i0 (by omega)
    have b1 : (i + 1) * bShl 1 m = i * bShl 1 m + bShl 1 m := by rw [Int.add_mul, Int.one_mul]
    have b2 : (i + 2) * bShl 1 m = i * bShl 1 m + 2 * bShl 1 m := Int.add_mul _ _ _
    have b3 : (i + 2) * bShl 1 m ≤ (n + 1) * bShl 1 m := Int.mul_le_mul_of_nonneg_right (by omega) (by omega)
    have b4 : (i + 2) * bShl 1 m ≤ 11 * 1024 := Int.mul_le_mul (by omega) (by omega) (by omega) (by omega)
    rw [lpX3_leastPartner_12]
    simp only [nm_ok, jn_ok, Nat.reduceAdd]
    rw [rd_ok (by omega) (by omega), hm]
    by_cases c : u < m
    · have ih := sel_P m0 m1 i0 i1 n1 t0 t1 hm hL hLL hg0 hl hp hfP hgP fu (u + 1) (by omega) (by omega) (by omega)
      have lb := hl u u0 c
      have wb := wt_bd lb.1 lb.2
      have hb := bit_tb (d := t) (i := u) t0 (by omega) u0 (by omega)
      have sd := set_bd m1 t0 t1 u0 c
      rw [if_pos c, hp u u0 c, bI_k, ev_worthOf, bI_k, w32_id (z := u + 1) (by omega) (by omega), fs_s c]
      by_cases d : lk i u = 0
      · have pe : pw lk i u t f = -1 := if_pos (.inl d)
        rw [if_pos (wb.2.2.mp d), if_neg (show ¬ pw lk i u t f = g by omega)]
        exact ih
      · rw [if_neg (fun q => d (wb.2.2.mpr q))]
        by_cases e : tb t u = true
        · have pe : pw lk i u t f = -1 := if_pos (.inr e)
          rw [if_pos e] at hb
          rw [if_pos hb, if_neg (show ¬ pw lk i u t f = g by omega)]
          exact ih
        · have pe : pw lk i u t f = wt (lk i u) + f (bOr t (bShl 1 u)) := if_neg (fun q => q.elim d e)
          obtain ⟨s1, s2, s3⟩ := hfP _ sd.1 sd.2
          rw [if_neg e] at hb
          rw [if_neg (show ¬ bAnd (bShr t u) 1 = 1 by omega), hL, w32_id (z := i + 1) (by omega) (by omega), w32_id (z := (i + 1) * bShl 1 m) (by omega) (by omega), w32_id (z := (i + 1) * bShl 1 m + bOr t (bShl 1 u)) (by omega) (by omega), rd_ok (x := (i + 1) * bShl 1 m + bOr t (bShl 1 u)) (by omega) (by omega), s1, w32_id (z := i * bShl 1 m) (by omega) (by omega), w32_id (z := i * bShl 1 m + t) (by omega) (by omega), rd_ok (x := i * bShl 1 m + t) (by omega) (by omega), hgP, w32_id (z := wt (lk i u) + f (bOr t (bShl 1 u))) (by omega) (by omega), ← pe]
          by_cases x : pw lk i u t f = g
          · rw [if_pos x, if_pos x, if_pos c]
          · rw [if_neg x, if_neg x]
            exact ih
    · have ue : u = m := by omega
      rw [if_neg c, ue, show (m - m).toNat = 0 by omega, fsel, if_neg (by omega)]
