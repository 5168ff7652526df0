/-! Kinship: the reference walks its table. -/
def Fm (n a c k : Int) (K : Int → Int → Int) (M : Mem) : Prop := ∀ x y, 0 ≤ x → x < n → 0 ≤ y → y < n → M 7 (20 * x + y) = if x < a ∨ (x = a ∧ y < c) then ph K k x y else K x y
theorem fb_lp {α : Type} {Q : α → Mem → Prop} {A : Option α} {s : Int → Int} {K : Int → Int → Int} {k a : Int} {kk : Mem → Option Mem} {R0 : Mem} (h : Tk s (s 3) K) (h20 : s 2 ≤ 20) (k0 : 0 ≤ k) (k1 : k < s 2) (a0 : 0 ≤ a) (a1 : a < s 2) (hk : ∀ R, (∀ x i, ¬ x = 7 → R x i = R0 x i) → Fm (s 2) a (s 2) k K R → O2 Q A (kk R)) : ∀ (fu : Nat) (u : Int) (R : Mem), 0 ≤ u → u ≤ s 2 → (s 2 - u).toNat < fu → (∀ x i, ¬ x = 7 → R x i = R0 x i) → Fm (s 2) a u k K R → O2 Q A (lpX12_findKin_181 (s 2) k a kk fu u R)
  | 0, u, R, u0, u1, hf, ho, hm => by omega
  | fu + 1, u, R, u0, u1, hf, ho, hm => by
    unfold lpX12_findKin_181
    by_cases e : u < s 2
    · have r1 : R 7 (20 * a + u) = K a u := by rw [hm a u a0 a1 u0 e, if_neg (by omega)]
      have r2 : R 7 (20 * a + k) = K a k := by
        rw [hm a k a0 a1 k0 k1]
        split
        · exact (ph_k h k0 k1).1
        · rfl
      have r3 : R 7 (20 * k + u) = K k u := by
        rw [hm k u k0 k1 u0 e]
        split
        · exact (ph_k h k0 k1).2
        · rfl
      have b1 := h.2.1 a u a0 a1 u0 e
      have b2 := h.2.1 a k a0 a1 k0 k1
      have b3 := h.2.1 k u k0 k1 u0 e
      have lst : rM_least (K a u) (K a k + K k u) R = some (ph K k a u, R) := ev_least
      repeat (first | (with_reducible apply r_jn) | (with_reducible apply r_nm0; (try (conv => enter [3, 1]; simp (disch := omega) only [up_eq, up_nk, zr_nk, up_ni, zr_no, zr_in, r1, r2, r3, w32_id, Nat.reduceAdd, ixT0, ixT1, ixT2, ixT3, ixT4, ixT5, ixT6, ixT7, ixT8, ixT9, ixP0, ixP1, ixP2, ixP3, ixP4, ixP5, ixP6, ixP7, ixC0, ixC1, ixC2, ixX0, ixX1, ixX2, ixX3, ixX4, ixX5, ixX6, ixX7, ixL0, ixL1, ixL2, ixA0, ixA1, ixA2, ixK0, ixK1, ixK2])); with_reducible apply r_nm1) | (with_reducible apply r_rd; (first | omega | (simp (disch := omega) only [up_eq, up_nk, zr_nk, up_ni, zr_no, zr_in, r1, r2, r3, w32_id, Nat.reduceAdd, ixT0, ixT1, ixT2, ixT3, ixT4, ixT5, ixT6, ixT7, ixT8, ixT9, ixP0, ixP1, ixP2, ixP3, ixP4, ixP5, ixP6, ixP7, ixC0, ixC1, ixC2, ixX0, ixX1, ixX2, ixX3, ixX4, ixX5, ixX6, ixX7, ixL0, ixL1, ixL2, ixA0, ixA1, ixA2, ixK0, ixK1, ixK2]; omega)); (first | omega | (simp (disch := omega) only [up_eq, up_nk, zr_nk, up_ni, zr_no, zr_in, r1, r2, r3, w32_id, Nat.reduceAdd, ixT0, ixT1, ixT2, ixT3, ixT4, ixT5, ixT6, ixT7, ixT8, ixT9, ixP0, ixP1, ixP2, ixP3, ixP4, ixP5, ixP6, ixP7, ixC0, ixC1, ixC2, ixX0, ixX1, ixX2, ixX3, ixX4, ixX5, ixX6, ixX7, ixL0, ixL1, ixL2, ixA0, ixA1, ixA2, ixK0, ixK1, ixK2]; omega))) | (with_reducible apply r_wr0; (try (conv => enter [3, 4]; simp (disch := omega) only [up_eq, up_nk, zr_nk, up_ni, zr_no, zr_in, r1, r2, r3, w32_id, Nat.reduceAdd, ixT0, ixT1, ixT2, ixT3, ixT4, ixT5, ixT6, ixT7, ixT8, ixT9, ixP0, ixP1, ixP2, ixP3, ixP4, ixP5, ixP6, ixP7, ixC0, ixC1, ixC2, ixX0, ixX1, ixX2, ixX3, ixX4, ixX5, ixX6, ixX7, ixL0, ixL1, ixL2, ixA0, ixA1, ixA2, ixK0, ixK1, ixK2])); (try (conv => enter [3, 5]; simp (disch := omega) only [up_eq, up_nk, zr_nk, up_ni, zr_no, zr_in, r1, r2, r3, w32_id, Nat.reduceAdd, ixT0, ixT1, ixT2, ixT3, ixT4, ixT5, ixT6, ixT7, ixT8, ixT9, ixP0, ixP1, ixP2, ixP3, ixP4, ixP5, ixP6, ixP7, ixC0, ixC1, ixC2, ixX0, ixX1, ixX2, ixX3, ixX4, ixX5, ixX6, ixX7, ixL0, ixL1, ixL2, ixA0, ixA1, ixA2, ixK0, ixK1, ixK2])); with_reducible apply r_wr1; omega; omega) | (with_reducible apply r_wf0; (try (conv => enter [3, 4]; simp (disch := omega) only [up_eq, up_nk, zr_nk, up_ni, zr_no, zr_in, r1, r2, r3, w32_id, Nat.reduceAdd, ixT0, ixT1, ixT2, ixT3, ixT4, ixT5, ixT6, ixT7, ixT8, ixT9, ixP0, ixP1, ixP2, ixP3, ixP4, ixP5, ixP6, ixP7, ixC0, ixC1, ixC2, ixX0, ixX1, ixX2, ixX3, ixX4, ixX5, ixX6, ixX7, ixL0, ixL1, ixL2, ixA0, ixA1, ixA2, ixK0, ixK1, ixK2])); with_reducible apply r_wf1) | (with_reducible apply r_wz; omega) | (with_reducible apply r_zz) | (with_reducible apply r_zp; omega) | (with_reducible apply r_zn; omega) | (with_reducible apply r_ip; (first | omega | (simp (disch := omega) only [up_eq, up_nk, zr_nk, up_ni, zr_no, zr_in, r1, r2, r3, w32_id, Nat.reduceAdd, ixT0, ixT1, ixT2, ixT3, ixT4, ixT5, ixT6, ixT7, ixT8, ixT9, ixP0, ixP1, ixP2, ixP3, ixP4, ixP5, ixP6, ixP7, ixC0, ixC1, ixC2, ixX0, ixX1, ixX2, ixX3, ixX4, ixX5, ixX6, ixX7, ixL0, ixL1, ixL2, ixA0, ixA1, ixA2, ixK0, ixK1, ixK2]; omega))) | (with_reducible apply r_in; (first | omega | (simp (disch := omega) only [up_eq, up_nk, zr_nk, up_ni, zr_no, zr_in, r1, r2, r3, w32_id, Nat.reduceAdd, ixT0, ixT1, ixT2, ixT3, ixT4, ixT5, ixT6, ixT7, ixT8, ixT9, ixP0, ixP1, ixP2, ixP3, ixP4, ixP5, ixP6, ixP7, ixC0, ixC1, ixC2, ixX0, ixX1, ixX2, ixX3, ixX4, ixX5, ixX6, ixX7, ixL0, ixL1, ixL2, ixA0, ixA1, ixA2, ixK0, ixK1, ixK2]; omega))) | (with_reducible apply r_idI; (try (conv => enter [3, 1]; simp (disch := omega) only [up_eq, up_nk, zr_nk, up_ni, zr_no, zr_in, r1, r2, r3, w32_id, Nat.reduceAdd, ixT0, ixT1, ixT2, ixT3, ixT4, ixT5, ixT6, ixT7, ixT8, ixT9, ixP0, ixP1, ixP2, ixP3, ixP4, ixP5, ixP6, ixP7, ixC0, ixC1, ixC2, ixX0, ixX1, ixX2, ixX3, ixX4, ixX5, ixX6, ixX7, ixL0, ixL1, ixL2, ixA0, ixA1, ixA2, ixK0, ixK1, ixK2])); with_reducible refine r_bI lst ?_) | (with_reducible apply r_aI_some) | (with_reducible apply r_aI_rd) | (with_reducible apply r_aI_wr) | (with_reducible apply r_aI_wf) | (with_reducible apply r_aI_wz) | (with_reducible apply r_aI_nm) | (with_reducible apply r_aI_jn) | (with_reducible apply r_aI_if) | (with_reducible apply r_aI_I) | (with_reducible apply r_aI_V) | (with_reducible apply r_aV_some) | (with_reducible apply r_aV_rd) | (with_reducible apply r_aV_wr) | (with_reducible apply r_aV_wf) | (with_reducible apply r_aV_wz) | (with_reducible apply r_aV_nm) | (with_reducible apply r_aV_jn) | (with_reducible apply r_aV_if) | (with_reducible apply r_aV_I) | (with_reducible apply r_aV_V))
      refine fb_lp h h20 k0 k1 a0 a1 hk fu (u + 1) _ (by omega) (by omega) (by omega) (fun x i hx => by rw [up_nk hx]; exact ho x i hx) (fun x y x0 x1 y0 y1 => ?_)
      by_cases q : x = a ∧ y = u
      · rw [up_eq rfl (by omega), if_pos (by omega), q.1, q.2]
      · rw [up_ni (by omega), hm x y x0 x1 y0 y1]
        by_cases z : x < a ∨ (x = a ∧ y < u)
        · rw [if_pos z, if_pos (by omega)]
        · rw [if_neg z, if_neg (by omega)]
    · have ue : u = s 2 := by omega
      subst ue
      repeat (first | (with_reducible apply r_jn) | (with_reducible apply r_nm0; (try (conv => enter [3, 1]; simp (disch := omega) only [up_eq, up_nk, zr_nk, up_ni, zr_no, zr_in, w32_id, Nat.reduceAdd, ixT0, ixT1, ixT2, ixT3, ixT4, ixT5, ixT6, ixT7, ixT8, ixT9, ixP0, ixP1, ixP2, ixP3, ixP4, ixP5, ixP6, ixP7, ixC0, ixC1, ixC2, ixX0, ixX1, ixX2, ixX3, ixX4, ixX5, ixX6, ixX7, ixL0, ixL1, ixL2, ixA0, ixA1, ixA2, ixK0, ixK1, ixK2])); with_reducible apply r_nm1) | (with_reducible apply r_rd; (first | omega | (simp (disch := omega) only [up_eq, up_nk, zr_nk, up_ni, zr_no, zr_in, w32_id, Nat.reduceAdd, ixT0, ixT1, ixT2, ixT3, ixT4, ixT5, ixT6, ixT7, ixT8, ixT9, ixP0, ixP1, ixP2, ixP3, ixP4, ixP5, ixP6, ixP7, ixC0, ixC1, ixC2, ixX0, ixX1, ixX2, ixX3, ixX4, ixX5, ixX6, ixX7, ixL0, ixL1, ixL2, ixA0, ixA1, ixA2, ixK0, ixK1, ixK2]; omega)); (first | omega | (simp (disch := omega) only [up_eq, up_nk, zr_nk, up_ni, zr_no, zr_in, w32_id, Nat.reduceAdd, ixT0, ixT1, ixT2, ixT3, ixT4, ixT5, ixT6, ixT7, ixT8, ixT9, ixP0, ixP1, ixP2, ixP3, ixP4, ixP5, ixP6, ixP7, ixC0, ixC1, ixC2, ixX0, ixX1, ixX2, ixX3, ixX4, ixX5, ixX6, ixX7, ixL0, ixL1, ixL2, ixA0, ixA1, ixA2, ixK0, ixK1, ixK2]; omega))) | (with_reducible apply r_wr0; (try (conv => enter [3, 4]; simp (disch := omega) only [up_eq, up_nk, zr_nk, up_ni, zr_no, zr_in, w32_id, Nat.reduceAdd, ixT0, ixT1, ixT2, ixT3, ixT4, ixT5, ixT6, ixT7, ixT8, ixT9, ixP0, ixP1, ixP2, ixP3, ixP4, ixP5, ixP6, ixP7, ixC0, ixC1, ixC2, ixX0, ixX1, ixX2, ixX3, ixX4, ixX5, ixX6, ixX7, ixL0, ixL1, ixL2, ixA0, ixA1, ixA2, ixK0, ixK1, ixK2])); (try (conv => enter [3, 5]; simp (disch := omega) only [up_eq, up_nk, zr_nk, up_ni, zr_no, zr_in, w32_id, Nat.reduceAdd, ixT0, ixT1, ixT2, ixT3, ixT4, ixT5, ixT6, ixT7, ixT8, ixT9, ixP0, ixP1, ixP2, ixP3, ixP4, ixP5, ixP6, ixP7, ixC0, ixC1, ixC2, ixX0, ixX1, ixX2, ixX3, ixX4, ixX5, ixX6, ixX7, ixL0, ixL1, ixL2, ixA0, ixA1, ixA2, ixK0, ixK1, ixK2])); with_reducible apply r_wr1; omega; omega) | (with_reducible apply r_wf0; (try (conv => enter [3, 4]; simp (disch := omega) only [up_eq, up_nk, zr_nk, up_ni, zr_no, zr_in, w32_id, Nat.reduceAdd, ixT0, ixT1, ixT2, ixT3, ixT4, ixT5, ixT6, ixT7, ixT8, ixT9, ixP0, ixP1, ixP2, ixP3, ixP4, ixP5, ixP6, ixP7, ixC0, ixC1, ixC2, ixX0, ixX1, ixX2, ixX3, ixX4, ixX5, ixX6, ixX7, ixL0, ixL1, ixL2, ixA0, ixA1, ixA2, ixK0, ixK1, ixK2])); with_reducible apply r_wf1) | (with_reducible apply r_wz; omega) | (with_reducible apply r_zz) | (with_reducible apply r_zp; omega) | (with_reducible apply r_zn; omega) | (with_reducible apply r_ip; (first | omega | (simp (disch := omega) only [up_eq, up_nk, zr_nk, up_ni, zr_no, zr_in, w32_id, Nat.reduceAdd, ixT0, ixT1, ixT2, ixT3, ixT4, ixT5, ixT6, ixT7, ixT8, ixT9, ixP0, ixP1, ixP2, ixP3, ixP4, ixP5, ixP6, ixP7, ixC0, ixC1, ixC2, ixX0, ixX1, ixX2, ixX3, ixX4, ixX5, ixX6, ixX7, ixL0, ixL1, ixL2, ixA0, ixA1, ixA2, ixK0, ixK1, ixK2]; omega))) | (with_reducible apply r_in; (first | omega | (simp (disch := omega) only [up_eq, up_nk, zr_nk, up_ni, zr_no, zr_in, w32_id, Nat.reduceAdd, ixT0, ixT1, ixT2, ixT3, ixT4, ixT5, ixT6, ixT7, ixT8, ixT9, ixP0, ixP1, ixP2, ixP3, ixP4, ixP5, ixP6, ixP7, ixC0, ixC1, ixC2, ixX0, ixX1, ixX2, ixX3, ixX4, ixX5, ixX6, ixX7, ixL0, ixL1, ixL2, ixA0, ixA1, ixA2, ixK0, ixK1, ixK2]; omega))) | (with_reducible apply r_aI_some) | (with_reducible apply r_aI_rd) | (with_reducible apply r_aI_wr) | (with_reducible apply r_aI_wf) | (with_reducible apply r_aI_wz) | (with_reducible apply r_aI_nm) | (with_reducible apply r_aI_jn) | (with_reducible apply r_aI_if) | (with_reducible apply r_aI_I) | (with_reducible apply r_aI_V) | (with_reducible apply r_aV_some) | (with_reducible apply r_aV_rd) | (with_reducible apply r_aV_wr) | (with_reducible apply r_aV_wf) | (with_reducible apply r_aV_wz) | (with_reducible apply r_aV_nm) | (with_reducible apply r_aV_jn) | (with_reducible apply r_aV_if) | (with_reducible apply r_aV_I) | (with_reducible apply r_aV_V))
      exact hk R ho hm
theorem fa_lp {α : Type} {Q : α → Mem → Prop} {A : Option α} {s : Int → Int} {K : Int → Int → Int} {k : Int} {kk : Mem → Option Mem} {R0 : Mem} (h : Tk s (s 3) K) (h20 : s 2 ≤ 20) (k0 : 0 ≤ k) (k1 : k < s 2) (hk : ∀ R, (∀ x i, ¬ x = 7 → R x i = R0 x i) → Fm (s 2) (s 2) 0 k K R → O2 Q A (kk R)) : ∀ (fu : Nat) (u : Int) (R : Mem), 0 ≤ u → u ≤ s 2 → (s 2 - u).toNat < fu → (∀ x i, ¬ x = 7 → R x i = R0 x i) → Fm (s 2) u 0 k K R → O2 Q A (lpX12_findKin_173 (s 2) k kk fu u R)
  | 0, u, R, u0, u1, hf, ho, hm => by omega
  | fu + 1, u, R, u0, u1, hf, ho, hm => by
    unfold lpX12_findKin_173
    by_cases e : u < s 2
    · rw [if_pos e]
      refine fb_lp (R0 := R0) h h20 k0 k1 u0 e (fun R2 ho2 hm2 => ?_) FU 0 R (by omega) (by omega) (by unfold FU; omega) ho hm
      rw [nm_ok, w32_id (by omega) (by omega)]
      refine fa_lp h h20 k0 k1 hk fu (u + 1) R2 (by omega) (by omega) (by omega) ho2 (fun x y x0 x1 y0 y1 => ?_)
      rw [hm2 x y x0 x1 y0 y1]
      by_cases z : x < u + 1
      · rw [if_pos (by omega), if_pos (by omega)]
      · rw [if_neg (by omega), if_neg (by omega)]
    · have ue : u = s 2 := by omega
      subst ue
      rw [if_neg e]
      exact hk R ho hm
theorem fk_lp {s : Int → Int} {R0 : Mem} (hb : EdB s) (h20 : s 2 ≤ 20) : ∀ (fu : Nat) (u : Int) (R : Mem), 0 ≤ u → u ≤ s 2 → (s 2 - u).toNat < fu → (∀ x i, ¬ x = 7 → R x i = R0 x i) → Tk s (s 3) (tb2 R) → Tr s u (tb2 R) → ∃ R2, lpX12_findKin_166 (s 2) fu u R = some R2 ∧ (∀ x i, ¬ x = 7 → R2 x i = R0 x i) ∧ Tk s (s 3) (tb2 R2) ∧ Tr s (s 2) (tb2 R2)
  | 0, u, R, u0, u1, hf, ho, ht, hr => by omega
  | fu + 1, u, R, u0, u1, hf, ho, ht, hr => by
    unfold lpX12_findKin_166
    by_cases e : u < s 2
    · rw [if_pos e]
      have key : O2 (fun (_ : Unit) R2 => (∀ x i, ¬ x = 7 → R2 x i = R0 x i) ∧ Tk s (s 3) (tb2 R2) ∧ Tr s (s 2) (tb2 R2)) (some ()) (lpX12_findKin_173 (s 2) u (fun M40 => nm (w32 (u + 1)) fun v41 => lpX12_findKin_166 (s 2) fu v41 M40) FU 0 R) := by
        refine fa_lp (R0 := R0) (K := tb2 R) ht h20 u0 e (fun R2 ho2 hm2 => ?_) FU 0 R (by omega) (by omega) (by unfold FU; omega) ho (fun x y x0 x1 y0 y1 => by rw [if_neg (by omega)]; rfl)
        have eq : ∀ x y, 0 ≤ x → x < s 2 → 0 ≤ y → y < s 2 → tb2 R2 x y = ph (tb2 R) u x y := fun x y x0 x1 y0 y1 => by
          show R2 7 (20 * x + y) = _
          rw [hm2 x y x0 x1 y0 y1, if_pos (by omega)]
        have t2 := Tk.ph ht hb u0 e
        have r2 := Tr.ph ht hr u0 e
        have t3 : Tk s (s 3) (tb2 R2) := by
          obtain ⟨q1, q2, q3, q4⟩ := t2
          refine ⟨fun x x0 x1 => by rw [eq x x x0 x1 x0 x1]; exact q1 x x0 x1, fun x y x0 x1 y0 y1 => by rw [eq x y x0 x1 y0 y1]; exact q2 x y x0 x1 y0 y1, fun a c w ed => ?_, fun x y x0 x1 y0 y1 xy lt => ?_⟩
          · have bb := hb a c w ed
            rw [eq a c bb.1 bb.2.1 bb.2.2.1 bb.2.2.2.1]
            exact q3 a c w ed
          · rw [eq x y x0 x1 y0 y1] at lt ⊢
            obtain ⟨z, w, w1, w2⟩ := q4 x y x0 x1 y0 y1 xy lt
            have bb := hb z y w w1
            exact ⟨z, w, w1, by rw [eq x z x0 x1 bb.1 bb.2.1]; exact w2⟩
        have r3 : Tr s (u + 1) (tb2 R2) := fun x y j x0 x1 y0 y1 j0 j1 => by
          rw [eq x y x0 x1 y0 y1, eq x j x0 x1 j0 (by omega), eq j y j0 (by omega) y0 y1]
          exact r2 x y j x0 x1 y0 y1 j0 j1
        rw [nm_ok, w32_id (by omega) (by omega)]
        obtain ⟨R3, x1, x2, x3, x4⟩ := fk_lp hb h20 fu (u + 1) R2 (by omega) (by omega) (by omega) ho2 t3 r3
        rw [x1]
        exact o2_ret ⟨x2, x3, x4⟩
      obtain ⟨_, R2, _, x1, x2, x3, x4⟩ := key
      exact ⟨R2, x1, x2, x3, x4⟩
    · rw [if_neg e]
      have ue : u = s 2 := by omega
      exact ⟨R, rfl, ho, ht, by rw [← ue]; exact hr⟩
