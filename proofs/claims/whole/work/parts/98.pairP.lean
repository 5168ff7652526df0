/-! Files: the best worth of pairings, pure, and how the class finds it. -/
def wt (l : Int) : Int := if l = 2 then 100 else l
def pw (lk : Int → Int → Int) (i k t : Int) (f : Int → Int) : Int := if lk i k = 0 ∨ tb t k = true then -1 else wt (lk i k) + f (bOr t (bShl 1 k))
def mx (lk : Int → Int → Int) (i : Int) (f : Int → Int) (t : Int) : Nat → Int
  | 0 => f t
  | k + 1 => if mx lk i f t k < pw lk i k t f then pw lk i k t f else mx lk i f t k
def gN (lk : Int → Int → Int) (n : Int) (m : Nat) : Nat → Int → Int
  | 0 => fun _ => 0
  | d + 1 => fun t => mx lk (n - 1 - d) (gN lk n m d) t m
theorem mx_s {lk : Int → Int → Int} {i t u : Int} {f : Int → Int} (h : 0 ≤ u) : mx lk i f t (u + 1).toNat = if mx lk i f t u.toNat < pw lk i u t f then pw lk i u t f else mx lk i f t u.toNat := by
  have z1 : (u + 1).toNat = u.toNat + 1 := by omega
  have z2 : ((u.toNat : Nat) : Int) = u := by omega
  rw [z1, mx, z2]
theorem set_bd {m t k : Int} (m1 : m ≤ 10) (t0 : 0 ≤ t) (t1 : t < bShl 1 m) (k0 : 0 ≤ k) (k1 : k < m) : 0 ≤ bOr t (bShl 1 k) ∧ bOr t (bShl 1 k) < bShl 1 m := by
  have hp := bShl1 (k := m) (by omega) (by omega)
  have b1 := bShl1_lt (j := k) (n := m.toNat) k0 (by omega) (by omega)
  have b2 := bOr_lt (k := m.toNat) t0 b1.1 (by omega) (by omega) b1.2
  omega
theorem shb_bd {m : Int} (m0 : 0 ≤ m) (m1 : m ≤ 10) : 1 ≤ bShl 1 m ∧ bShl 1 m ≤ 1024 := by
  have hp := bShl1 (k := m) (by omega) (by omega)
  have h1 : 0 < 2 ^ m.toNat := Nat.two_pow_pos _
  have h2 : 2 ^ m.toNat ≤ 2 ^ 10 := Nat.pow_le_pow_right (by omega) (by omega)
  omega
theorem wt_bd {l : Int} (h0 : 0 ≤ l) (h1 : l ≤ 2) : 0 ≤ wt l ∧ wt l ≤ 100 ∧ (l = 0 ↔ wt l = 0) := by
  unfold wt
  split <;> omega
theorem pw_bd {lk : Int → Int → Int} {i m k t C : Int} {f : Int → Int} (m1 : m ≤ 10) (hl : 0 ≤ lk i k ∧ lk i k ≤ 2) (t0 : 0 ≤ t) (t1 : t < bShl 1 m) (k0 : 0 ≤ k) (k1 : k < m) (hf : ∀ t, 0 ≤ t → t < bShl 1 m → 0 ≤ f t ∧ f t ≤ C) : -1 ≤ pw lk i k t f ∧ pw lk i k t f ≤ C + 100 := by
  have a := set_bd m1 t0 t1 k0 k1
  have b := hf _ a.1 a.2
  have c := wt_bd hl.1 hl.2
  unfold pw
  split <;> omega
theorem mx_bd {lk : Int → Int → Int} {i m t C : Int} {f : Int → Int} (m1 : m ≤ 10) (hl : ∀ k, 0 ≤ k → k < m → 0 ≤ lk i k ∧ lk i k ≤ 2) (t0 : 0 ≤ t) (t1 : t < bShl 1 m) (hf : ∀ t, 0 ≤ t → t < bShl 1 m → 0 ≤ f t ∧ f t ≤ C) : ∀ (k : Nat), (k : Int) ≤ m → 0 ≤ mx lk i f t k ∧ mx lk i f t k ≤ C + 100
  | 0, _ => by
    have := hf t t0 t1
    unfold mx
    omega
  | k + 1, hk => by
    have a := mx_bd m1 hl t0 t1 hf k (by omega)
    have b := pw_bd (f := f) (C := C) (k := k) m1 (hl k (by omega) (by omega)) t0 t1 (by omega) (by omega) hf
    unfold mx
    split <;> omega
theorem gN_bd {lk : Int → Int → Int} {n m : Int} (m0 : 0 ≤ m) (m1 : m ≤ 10) (hl : ∀ i k, 0 ≤ i → i < n → 0 ≤ k → k < m → 0 ≤ lk i k ∧ lk i k ≤ 2) : ∀ (d : Nat), (d : Int) ≤ n → ∀ t, 0 ≤ t → t < bShl 1 m → 0 ≤ gN lk n m.toNat d t ∧ gN lk n m.toNat d t ≤ 100 * d
  | 0, _, t, _, _ => by unfold gN; omega
  | d + 1, hd, t, t0, t1 => by
    have a := mx_bd (f := gN lk n m.toNat d) (C := 100 * d) (i := n - 1 - d) m1 (fun k k0 k1 => hl _ k (by omega) (by omega) k0 k1) t0 t1 (fun t t0 t1 => gN_bd m0 m1 hl d (by omega) t t0 t1) m.toNat (by omega)
    unfold gN
    omega
theorem gN_s {lk : Int → Int → Int} {n m i t : Int} (i0 : 0 ≤ i) (i1 : i < n) : gN lk n m.toNat (n - i).toNat t = mx lk i (gN lk n m.toNat (n - (i + 1)).toNat) t m.toNat := by
  have z1 : (n - i).toNat = (n - (i + 1)).toNat + 1 := by omega
  have z2 : n - 1 - ((n - (i + 1)).toNat : Nat) = i := by omega
  rw [z1, gN, z2]
/-- the row of the class at A holds F, the rest is as it was -/
def rwQ (M0 : Mem) (A S : Int) (F : Int → Int) (M : Mem) : Prop := (∀ a j, ¬ a = 163 → M a j = M0 a j) ∧ (∀ j, ¬ (A ≤ j ∧ j < A + S) → M 163 j = M0 163 j) ∧ ∀ t, 0 ≤ t → t < S → M 163 (A + t) = F t
theorem rwQ.ext {M0 : Mem} {A S : Int} {F G : Int → Int} {M : Mem} (h : rwQ M0 A S F M) (e : ∀ t, 0 ≤ t → t < S → F t = G t) : rwQ M0 A S G M := ⟨h.1, h.2.1, fun t t0 t1 => by rw [h.2.2 t t0 t1, e t t0 t1]⟩
theorem wp_lp {lk : Int → Int → Int} {M0 : Mem} {m L A i k : Int} {f G : Int → Int} (m1 : m ≤ 10) (i0 : 0 ≤ i) (i1 : i < 10) (k0 : 0 ≤ k) (k1 : k < m) (hL : M0 163 (-1) = L) (A0 : 0 ≤ A) (A1 : A + 2 * bShl 1 m ≤ L) (A2 : A + 2 * bShl 1 m ≤ 11264) (hA : i * bShl 1 m = A) (hl : 0 ≤ lk i k ∧ lk i k ≤ 2) (hn : ¬ lk i k = 0) (hf : ∀ t, 0 ≤ t → t < bShl 1 m → M0 163 (A + bShl 1 m + t) = f t ∧ 0 ≤ f t ∧ f t ≤ 2000) (hG : ∀ t, 0 ≤ t → t < bShl 1 m → 0 ≤ G t ∧ G t ≤ 2000) : ∀ (fu : Nat) (u : Int) (M : Mem), 0 ≤ u → u ≤ bShl 1 m → (bShl 1 m - u).toNat < fu → rwQ M0 A (bShl 1 m) (fun t => if t < u then (if G t < pw lk i k t f then pw lk i k t f else G t) else G t) M → O2 (fun q (_ : Unit) => rwQ M0 A (bShl 1 m) (fun t => if G t < pw lk i k t f then pw lk i k t f else G t) q) (lpX3_weighPair_25 100 i (bShl 1 m) (wt (lk i k)) (bShl 1 k) fu u M) (some ())
  | 0, u, M, u0, u1, hf0, hq => by omega
  | fu + 1, u, M, u0, u1, hf0, hq => by
    have sb := shb_bd (m := m) (by omega) m1
    have hq' := hq
    obtain ⟨f1, f2, f3⟩ := hq
    have wb := wt_bd hl.1 hl.2
    have a1 : w32 (w32 (i + 1) * bShl 1 m) = A + bShl 1 m := by
      rw [w32_id (z := i + 1) (by omega) (by omega), Int.add_mul, Int.one_mul, hA, w32_id (by omega) (by omega)]
    have a2 : w32 (i * bShl 1 m) = A := by rw [hA, w32_id (by omega) (by omega)]
    rw [lpX3_weighPair_25]
    simp only [jn_ok, nm_ok, Nat.reduceAdd]
    by_cases c : u < bShl 1 m
    · have tt := bAnd_bit (t := u) (k := k) u0 (by omega) k0 (by omega)
      have sd := set_bd m1 u0 c k0 k1
      have hLL : M 163 (-1) = L := by rw [f2 (-1) (by omega)]; exact hL
      have ih := fun M2 => wp_lp (lk := lk) (G := G) m1 i0 i1 k0 k1 hL A0 A1 A2 hA hl hn hf hG fu (u + 1) M2 (by omega) (by omega) (by omega)
      have fu3 : M 163 (A + u) = G u := by
        have q3 := f3 u u0 c
        dsimp only at q3
        rw [if_neg (show ¬ u < u by omega)] at q3
        exact q3
      rw [if_pos c, w32_id (z := u + 1) (by omega) (by omega), hLL, a1, a2, w32_id (z := A + bShl 1 m + bOr u (bShl 1 k)) (by omega) (by omega), w32_id (z := A + u) (by omega) (by omega)]
      have gu := hG u u0 c
      by_cases t : tb u k = true
      · have pe : pw lk i k u f = -1 := if_pos (.inr t)
        rw [if_neg (by rw [tt]; exact fun q => q t)]
        refine ih M (hq'.ext fun z z0 z1 => ?_)
        by_cases y : z < u
        · rw [if_pos y, if_pos (show z < u + 1 by omega)]
        · rw [if_neg y]
          by_cases y2 : z = u
          · rw [if_pos (by omega), y2, pe, if_neg (by omega)]
          · rw [if_neg (by omega)]
      · have pe : pw lk i k u f = wt (lk i k) + f (bOr u (bShl 1 k)) := if_neg (by rintro (q | q); exact hn q; exact t q)
        obtain ⟨s1, s2, s3⟩ := hf _ sd.1 sd.2
        have fr : M 163 (A + bShl 1 m + bOr u (bShl 1 k)) = f (bOr u (bShl 1 k)) := by rw [f2 _ (by omega)]; exact s1
        rw [if_pos (tt.mpr t), rd_ok (by omega) (by omega), fr, rd_ok (by omega) (by omega), fu3, w32_id (z := wt (lk i k) + f (bOr u (bShl 1 k))) (by omega) (by omega), ← pe]
        by_cases x : G u < pw lk i k u f
        · rw [if_pos x, wr_ok (by omega) (by omega)]
          refine ih _ ⟨fun a j ha => by rw [up_nk ha]; exact f1 a j ha, fun j hj => by rw [up_ni (by omega)]; exact f2 j hj, fun z z0 z1 => ?_⟩
          by_cases y : z = u
          · rw [up_eq rfl (by omega), y]
            dsimp only
            rw [if_pos (by omega), if_pos x]
          · rw [up_ni (by omega), f3 z z0 z1]
            dsimp only
            by_cases y2 : z < u
            · rw [if_pos y2, if_pos (show z < u + 1 by omega)]
            · rw [if_neg y2, if_neg (by omega)]
        · rw [if_neg x]
          refine ih M (hq'.ext fun z z0 z1 => ?_)
          by_cases y : z < u
          · rw [if_pos y, if_pos (show z < u + 1 by omega)]
          · rw [if_neg y]
            by_cases y2 : z = u
            · rw [if_pos (by omega), y2, if_neg x]
            · rw [if_neg (by omega)]
    · rw [if_neg c]
      exact o2_ret (hq'.ext fun t t0 t1 => if_pos (by omega))
theorem wg_cp {M0 : Mem} {m L A i : Int} {f : Int → Int} {k : Mem → Option Mem} {Q : Mem → Unit → Prop} (m0 : 0 ≤ m) (m1 : m ≤ 10) (i0 : 0 ≤ i) (i1 : i < 10) (hL : M0 163 (-1) = L) (A0 : 0 ≤ A) (A1 : A + 2 * bShl 1 m ≤ L) (A2 : A + 2 * bShl 1 m ≤ 11264) (hA : i * bShl 1 m = A) (hf : ∀ t, 0 ≤ t → t < bShl 1 m → M0 163 (A + bShl 1 m + t) = f t) (hk : ∀ q, rwQ M0 A (bShl 1 m) f q → O2 Q (k q) (some ())) : ∀ (fu : Nat) (u : Int) (M : Mem), 0 ≤ u → u ≤ bShl 1 m → (bShl 1 m - u).toNat < fu → (∀ a j, ¬ a = 163 → M a j = M0 a j) → (∀ j, ¬ (A ≤ j ∧ j < A + bShl 1 m) → M 163 j = M0 163 j) → (∀ t, 0 ≤ t → t < u → M 163 (A + t) = f t) → O2 Q (lpX3_weigh_69 100 (bShl 1 m) i k fu u M) (some ())
  | 0, u, M, u0, u1, hf0, f1, f2, f3 => by omega
  | fu + 1, u, M, u0, u1, hf0, f1, f2, f3 => by
    have sb := shb_bd m0 m1
    have a1 : w32 (w32 (i + 1) * bShl 1 m) = A + bShl 1 m := by
      rw [w32_id (z := i + 1) (by omega) (by omega), Int.add_mul, Int.one_mul, hA, w32_id (by omega) (by omega)]
    have a2 : w32 (i * bShl 1 m) = A := by rw [hA, w32_id (by omega) (by omega)]
    rw [lpX3_weigh_69]
    simp only [nm_ok, Nat.reduceAdd]
    by_cases c : u < bShl 1 m
    · have hLL : M 163 (-1) = L := by rw [f2 (-1) (by omega)]; exact hL
      rw [if_pos c, hLL, a1, a2, w32_id (z := A + bShl 1 m + u) (by omega) (by omega), w32_id (z := A + u) (by omega) (by omega), w32_id (z := u + 1) (by omega) (by omega), rd_ok (by omega) (by omega), f2 (A + bShl 1 m + u) (by omega), hf u u0 c, wr_ok (by omega) (by omega)]
      refine wg_cp m0 m1 i0 i1 hL A0 A1 A2 hA hf hk fu (u + 1) _ (by omega) (by omega) (by omega) (fun a j ha => by rw [up_nk ha]; exact f1 a j ha) (fun j hj => by rw [up_ni (by omega)]; exact f2 j hj) (fun t t0 t1 => ?_)
      by_cases e : t = u
      · rw [up_eq rfl (by omega), e]
      · rw [up_ni (by omega)]
        exact f3 t t0 (by omega)
    · rw [if_neg c]
      exact hk M ⟨f1, f2, fun t t0 t1 => f3 t t0 (by omega)⟩
theorem ev_worthOf {l : Int} {M : Mem} : pFiles_worthOf l M = some (wt l, M) := by
  unfold pFiles_worthOf wt
  split <;> rfl
theorem wg_k {lk : Int → Int → Int} {M0 : Mem} {n m L A i : Int} {f : Int → Int} {k : Mem → Option Mem} {Q : Mem → Unit → Prop} (m0 : 0 ≤ m) (m1 : m ≤ 10) (n1 : n ≤ 10) (i0 : 0 ≤ i) (i1 : i < n) (hm : M0 148 1 = m) (hl : ∀ i k, 0 ≤ i → i < n → 0 ≤ k → k < m → 0 ≤ lk i k ∧ lk i k ≤ 2) (hlk : ∀ M, (∀ a j, ¬ a = 163 → M a j = M0 a j) → ∀ i k, 0 ≤ i → i < n → 0 ≤ k → k < m → pFiles_likeness 100 i k M = some (lk i k, M)) (hL : M0 163 (-1) = L) (A0 : 0 ≤ A) (A1 : A + 2 * bShl 1 m ≤ L) (A2 : A + 2 * bShl 1 m ≤ 11264) (hA : i * bShl 1 m = A) (hf : ∀ t, 0 ≤ t → t < bShl 1 m → M0 163 (A + bShl 1 m + t) = f t ∧ 0 ≤ f t ∧ f t ≤ 1000) (hk : ∀ q, rwQ M0 A (bShl 1 m) (fun t => mx lk i f t m.toNat) q → O2 Q (k q) (some ())) : ∀ (fu : Nat) (u : Int) (M : Mem), 0 ≤ u → u ≤ m → (m - u).toNat < fu → rwQ M0 A (bShl 1 m) (fun t => mx lk i f t u.toNat) M → O2 Q (lpX3_weigh_108 100 (bShl 1 m) i k fu u M) (some ())
  | 0, u, M, u0, u1, hf0, hq => by omega
  | fu + 1, u, M, u0, u1, hf0, hq => by
    have sb := shb_bd m0 m1
    have f1 := hq.1
    rw [lpX3_weigh_108]
    simp only [nm_ok, Nat.reduceAdd]
    rw [rd_ok (by omega) (by omega), f1 148 1 (by omega), hm]
    by_cases c : u < m
    · have ih := fun M2 => wg_k m0 m1 n1 i0 i1 hm hl hlk hL A0 A1 A2 hA hf hk fu (u + 1) M2 (by omega) (by omega) (by omega)
      have lb := hl i u i0 i1 u0 c
      have wb := wt_bd lb.1 lb.2
      have mb := fun t t0 t1 => mx_bd (lk := lk) (i := i) (f := f) (t := t) (C := 1000) m1 (fun k k0 k1 => hl i k i0 i1 k0 k1) t0 t1 (fun t t0 t1 => (hf t t0 t1).2) u.toNat (by omega)
      rw [if_pos c, w32_id (z := u + 1) (by omega) (by omega)]
      have key : O2 (fun q (_ : Unit) => rwQ M0 A (bShl 1 m) (fun t => mx lk i f t (u + 1).toNat) q) (pFiles_weighPair 100 i u (bShl 1 m) M) (some ()) := by
        unfold pFiles_weighPair
        rw [hlk M f1 i u i0 i1 u0 c, bI_k, ev_worthOf, bI_k]
        by_cases d : lk i u = 0
        · rw [if_pos (wb.2.2.mp d)]
          refine o2_ret (hq.ext fun t t0 t1 => ?_)
          rw [mx_s u0, if_neg]
          have pe : pw lk i u t f = -1 := if_pos (.inl d)
          have := mb t t0 t1
          omega
        · rw [if_neg (fun q => d (wb.2.2.mpr q)), nm_ok]
          have hM0 : M 163 (-1) = L := by rw [hq.2.1 (-1) (by omega)]; exact hL
          have w1 := wp_lp (lk := lk) (M0 := M) (m := m) (L := L) (A := A) (i := i) (k := u) (f := f) (G := fun t => mx lk i f t u.toNat) m1 i0 (by omega) u0 c hM0 A0 A1 A2 hA lb d (fun t t0 t1 => ⟨by rw [hq.2.1 _ (by omega)]; exact (hf t t0 t1).1, (hf t t0 t1).2.1, by have := (hf t t0 t1).2.2; omega⟩) (fun t t0 t1 => ⟨(mb t t0 t1).1, by have := (mb t t0 t1).2; (try dsimp only); omega⟩) FU 0 M (by omega) (by omega) (by unfold FU; omega) ⟨fun _ _ _ => rfl, fun _ _ => rfl, fun t t0 t1 => by dsimp only; rw [if_neg (by omega)]; exact hq.2.2 t t0 t1⟩
          refine w1.mono fun q _ h => ⟨fun a j ha => by rw [h.1 a j ha]; exact f1 a j ha, fun j hj => by rw [h.2.1 j hj]; exact hq.2.1 j hj, fun t t0 t1 => ?_⟩
          rw [h.2.2 t t0 t1]
          dsimp only
          rw [mx_s u0]
      exact l_un key fun q hq2 => ih q hq2
    · have ue : u = m := by omega
      rw [if_neg c]
      exact hk M (ue ▸ hq)
/-- rows of the class from i0 on hold the best worths -/
def rsQ (lk : Int → Int → Int) (n m lo : Int) (M0 : Mem) (L : Int) (M : Mem) : Prop := (∀ a j, ¬ a = 163 → M a j = M0 a j) ∧ M 163 (-1) = L ∧ ∀ i, lo ≤ i → 0 ≤ i → i ≤ n → ∀ t, 0 ≤ t → t < bShl 1 m → M 163 (i * bShl 1 m + t) = gN lk n m.toNat (n - i).toNat t
theorem wg_i {lk : Int → Int → Int} {M0 : Mem} {n m L : Int} (m0 : 0 ≤ m) (m1 : m ≤ 10) (n1 : n ≤ 10) (hm : M0 148 1 = m) (hl : ∀ i k, 0 ≤ i → i < n → 0 ≤ k → k < m → 0 ≤ lk i k ∧ lk i k ≤ 2) (hlk : ∀ M, (∀ a j, ¬ a = 163 → M a j = M0 a j) → ∀ i k, 0 ≤ i → i < n → 0 ≤ k → k < m → pFiles_likeness 100 i k M = some (lk i k, M)) (hL : (n + 1) * bShl 1 m ≤ L) : ∀ (fu : Nat) (u : Int) (M : Mem), -1 ≤ u → u < n → (u + 1).toNat < fu → rsQ lk n m (u + 1) M0 L M → O2 (fun q (_ : Unit) => rsQ lk n m 0 M0 L q) (lpX3_weigh_62 100 (bShl 1 m) fu u M) (some ())
  | 0, u, M, u0, u1, hf0, hq => by omega
  | fu + 1, u, M, u0, u1, hf0, hq => by
    have sb := shb_bd m0 m1
    obtain ⟨f1, f2, f3⟩ := hq
    rw [lpX3_weigh_62]
    by_cases c : u < 0
    · rw [if_pos c]
      exact o2_ret ⟨f1, f2, fun i _ i0 i1 => f3 i (by omega) i0 i1⟩
    · have b0 : 0 ≤ u * bShl 1 m := Int.mul_nonneg (by omega) (by omega)
      have b1 : (u + 2) * bShl 1 m ≤ (n + 1) * bShl 1 m := Int.mul_le_mul_of_nonneg_right (by omega) (by omega)
      have b2 : (u + 2) * bShl 1 m ≤ 11 * 1024 := Int.mul_le_mul (by omega) (by omega) (by omega) (by omega)
      have b3 : (u + 2) * bShl 1 m = u * bShl 1 m + 2 * bShl 1 m := Int.add_mul _ _ _
      have b4 : (u + 1) * bShl 1 m = u * bShl 1 m + bShl 1 m := by rw [Int.add_mul, Int.one_mul]
      have gb := gN_bd (lk := lk) (n := n) m0 m1 hl
      rw [if_neg c]
      refine wg_cp (M0 := M) (L := L) (A := u * bShl 1 m) (f := fun t => gN lk n m.toNat (n - (u + 1)).toNat t) m0 m1 (by omega) (by omega) f2 b0 (by omega) (by omega) rfl (fun t t0 t1 => by rw [← b4]; exact f3 (u + 1) (by omega) (by omega) (by omega) t t0 t1) (fun q h1 => ?_) FU 0 M (by omega) (by omega) (by unfold FU; omega) (fun _ _ _ => rfl) (fun _ _ => rfl) (fun t t0 t1 => by omega)
      refine wg_k (lk := lk) (M0 := M) (n := n) (L := L) (A := u * bShl 1 m) (f := fun t => gN lk n m.toNat (n - (u + 1)).toNat t) m0 m1 n1 (by omega) u1 (by rw [f1 148 1 (by omega)]; exact hm) hl (fun M2 h2 => hlk M2 fun a j ha => by rw [h2 a j ha]; exact f1 a j ha) f2 b0 (by omega) (by omega) rfl (fun t t0 t1 => ⟨by rw [← b4]; exact f3 (u + 1) (by omega) (by omega) (by omega) t t0 t1, (gb _ (by omega) t t0 t1).1, by have := (gb (n - (u + 1)).toNat (by omega) t t0 t1).2; (try dsimp only); omega⟩) (fun q2 h2 => ?_) FU 0 q (by omega) (by omega) (by unfold FU; omega) h1
      rw [nm_ok, w32_id (by omega) (by omega)]
      refine wg_i m0 m1 n1 hm hl hlk hL fu (u + -1) q2 (by omega) (by omega) (by omega) ⟨fun a j ha => by rw [h2.1 a j ha]; exact f1 a j ha, by rw [h2.2.1 (-1) (by omega)]; exact f2, fun i il i0 i1 t t0 t1 => ?_⟩
      by_cases e : i = u
      · rw [e, h2.2.2 t t0 t1, gN_s (by omega) u1]
      · have b5 : (u + 1) * bShl 1 m ≤ i * bShl 1 m := Int.mul_le_mul_of_nonneg_right (by omega) (by omega)
        rw [h2.2.1 _ (by omega)]
        exact f3 i (by omega) i0 i1 t t0 t1
theorem fillB_lp {M0 : Mem} {hi : Int} {L lo : Int} (lo0 : 0 ≤ lo) (h1 : hi ≤ L) (h2 : hi ≤ 20000) (hL : M0 163 (-1) = L) : ∀ (fu : Nat) (u : Int) (M : Mem), lo ≤ u → u ≤ hi → (hi - u).toNat < fu → (∀ a j, ¬ a = 163 → M a j = M0 a j) → M 163 (-1) = L → (∀ j, lo ≤ j → j < u → M 163 j = 0) → O2 (fun q (_ : Unit) => (∀ a j, ¬ a = 163 → q a j = M0 a j) ∧ q 163 (-1) = L ∧ ∀ j, lo ≤ j → j < hi → q 163 j = 0) (lpJ7_fillB_10 100 hi 0 fu u M) (some ())
  | 0, u, M, u0, u1, hf0, f1, f2, f3 => by omega
  | fu + 1, u, M, u0, u1, hf0, f1, f2, f3 => by
    rw [lpJ7_fillB_10]
    simp only [nm_ok, Nat.reduceAdd]
    by_cases c : u < hi
    · rw [if_pos c, f2, wr_ok (by omega) (by omega), w32_id (by omega) (by omega)]
      refine fillB_lp lo0 h1 h2 hL fu (u + 1) _ (by omega) (by omega) (by omega) (fun a j ha => by rw [up_nk ha]; exact f1 a j ha) (by rw [up_ni (by omega)]; exact f2) (fun j j0 j1 => ?_)
      by_cases e : j = u
      · rw [up_eq rfl e]
      · rw [up_ni e]
        exact f3 j j0 (by omega)
    · rw [if_neg c]
      exact o2_ret ⟨f1, f2, fun j j0 j1 => f3 j j0 (by omega)⟩
theorem weigh_o {lk : Int → Int → Int} {M0 : Mem} {n m : Int} (n0 : 0 ≤ n) (n1 : n ≤ 10) (m0 : 0 ≤ m) (m1 : m ≤ 10) (hn : M0 148 0 = n) (hm : M0 148 1 = m) (hl : ∀ i k, 0 ≤ i → i < n → 0 ≤ k → k < m → 0 ≤ lk i k ∧ lk i k ≤ 2) (hlk : ∀ M, (∀ a j, ¬ a = 163 → M a j = M0 a j) → ∀ i k, 0 ≤ i → i < n → 0 ≤ k → k < m → pFiles_likeness 100 i k M = some (lk i k, M)) (h0 : 0 ≤ M0 163 (-1)) : O2 (fun q (_ : Unit) => ∃ L, (n + 1) * bShl 1 m ≤ L ∧ rsQ lk n m 0 M0 L q) (pFiles_weigh 100 M0) (some ()) := by
  have sb := shb_bd m0 m1
  have b0 : 0 ≤ n * bShl 1 m := Int.mul_nonneg n0 (by omega)
  have b2 : (n + 1) * bShl 1 m ≤ 11 * 1024 := Int.mul_le_mul (by omega) (by omega) (by omega) (by omega)
  have b4 : (n + 1) * bShl 1 m = n * bShl 1 m + bShl 1 m := by rw [Int.add_mul, Int.one_mul]
  have main : ∀ M L, (n + 1) * bShl 1 m ≤ L → M 163 (-1) = L → (∀ a j, ¬ a = 163 → M a j = M0 a j) → O2 (fun q (_ : Unit) => ∃ L, (n + 1) * bShl 1 m ≤ L ∧ rsQ lk n m 0 M0 L q) (rdA (M 148) 2 0 fun v7 => bnV (j_fillB 100 (w32 (v7 * bShl 1 m)) ((n + 1) * bShl 1 m) 0 M) fun M8 => rdA (M8 148) 2 0 fun v9 => lpX3_weigh_62 100 (bShl 1 m) FU (w32 (v9 - 1)) M8) (some ()) := by
    intro M L hL hM hq
    rw [rd_ok (by omega) (by omega), hq 148 0 (by omega), hn, w32_id (z := n * bShl 1 m) (by omega) (by omega)]
    have fb : O2 (fun q (_ : Unit) => (∀ a j, ¬ a = 163 → q a j = M a j) ∧ q 163 (-1) = L ∧ ∀ j, n * bShl 1 m ≤ j → j < (n + 1) * bShl 1 m → q 163 j = 0) (j_fillB 100 (n * bShl 1 m) ((n + 1) * bShl 1 m) 0 M) (some ()) := by
      unfold j_fillB j_rangeCheck_23922
      simp only [Nat.reduceAdd]
      rw [hM, if_neg (by omega), if_neg (by omega), if_neg (by omega), bV_ok]
      exact fillB_lp b0 hL (by omega) hM FU _ M (by omega) (by omega) (by unfold FU; omega) (fun _ _ _ => rfl) hM (fun j j0 j1 => by omega)
    refine l_un fb fun q h => ?_
    obtain ⟨g1, g2, g3⟩ := h
    rw [rd_ok (by omega) (by omega), g1 148 0 (by omega), hq 148 0 (by omega), hn, w32_id (by omega) (by omega)]
    refine (wg_i (M0 := M0) (L := L) m0 m1 n1 hm hl hlk hL FU (n - 1) q (by omega) (by omega) (by unfold FU; omega) ⟨fun a j ha => by rw [g1 a j ha]; exact hq a j ha, g2, fun i il i0 i1 t t0 t1 => ?_⟩).mono fun q _ h => ⟨L, hL, h⟩
    have ie : i = n := by omega
    rw [ie, g3 _ (by omega) (by omega), show (n - n).toNat = 0 by omega]
    rfl
  unfold pFiles_weigh
  simp only [nm_ok, jn_ok, Nat.reduceAdd]
  rw [rd_ok (by omega) (by omega), hm, rd_ok (by omega) (by omega), hn, w32_id (z := n + 1) (by omega) (by omega), w32_id (z := (n + 1) * bShl 1 m) (by omega) (by omega)]
  by_cases c : ((M0 163 (-1)).toNat : Int) < (n + 1) * bShl 1 m
  · rw [if_pos c]
    unfold nwB
    rw [if_pos ⟨by omega, by omega⟩]
    exact main (nwM M0 100 ((n + 1) * bShl 1 m)) _ (Int.le_refl _) (by unfold nwM; rw [if_pos rfl, if_pos rfl]) (fun a j ha => by unfold nwM; rw [if_neg ha])
  · rw [if_neg c]
    exact main M0 _ (by omega) rfl (fun _ _ _ => rfl)
