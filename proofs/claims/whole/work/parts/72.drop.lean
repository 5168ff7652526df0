/-! An hour: calls are served. -/
theorem drop_lp {b : Nat} {c n : Int} {M0 : Mem} {β : Type} {Q : Mem → β → Prop} {B : Option β} {kk : Mem → Option Mem} (c0 : 0 ≤ c) (n20 : n ≤ 20) (hk : ∀ u M, u = n - 1 → (∀ j, (c ≤ j → j < u → M (b + 34) j = M0 (b + 34) (j + 1)) ∧ (j < c ∨ u ≤ j → M (b + 34) j = M0 (b + 34) j)) → (∀ j, (c ≤ j → j < u → M (b + 35) j = M0 (b + 35) (j + 1)) ∧ (j < c ∨ u ≤ j → M (b + 35) j = M0 (b + 35) j)) → (∀ j, (c ≤ j → j < u → M (b + 36) j = M0 (b + 36) (j + 1)) ∧ (j < c ∨ u ≤ j → M (b + 36) j = M0 (b + 36) j)) → (∀ a i, ¬ (b + 34 ≤ a ∧ a ≤ b + 36) → M a i = M0 a i) → O2 Q (kk M) B) : ∀ (fu : Nat) (u : Int) (M : Mem), c ≤ u → u ≤ n - 1 → (n - u).toNat < fu → (∀ j, (c ≤ j → j < u → M (b + 34) j = M0 (b + 34) (j + 1)) ∧ (j < c ∨ u ≤ j → M (b + 34) j = M0 (b + 34) j)) → (∀ j, (c ≤ j → j < u → M (b + 35) j = M0 (b + 35) (j + 1)) ∧ (j < c ∨ u ≤ j → M (b + 35) j = M0 (b + 35) j)) → (∀ j, (c ≤ j → j < u → M (b + 36) j = M0 (b + 36) (j + 1)) ∧ (j < c ∨ u ≤ j → M (b + 36) j = M0 (b + 36) j)) → (∀ a i, ¬ (b + 34 ≤ a ∧ a ≤ b + 36) → M a i = M0 a i) → M0 (b + 30) 4 = n → O2 Q (lpX7_dropCall_2 b kk fu u M) B
  | 0, u, M, u0, u1, hf, i34, i35, i36, ho, hm => by omega
  | fu + 1, u, M, u0, u1, hf, i34, i35, i36, ho, hm => by
    have hn : M (b + 30) 4 = n := by rw [ho _ _ (by omega)]; exact hm
    unfold lpX7_dropCall_2
    by_cases e : u < n - 1
    · repeat (first | (with_reducible apply l_jn) | (with_reducible apply l_nm0; (try (conv => enter [2, 1]; simp (disch := omega) only [up_eq, up_nk, zr_nk, up_ni, zr_no, zr_in, hn, w32_id, Nat.reduceAdd, ixT0, ixT1, ixT2, ixT3, ixT4, ixT5, ixT6, ixT7, ixT8, ixT9, ixP0, ixP1, ixP2, ixP3, ixP4, ixP5, ixP6, ixP7, ixC0, ixC1, ixC2, ixX0, ixX1, ixX2, ixX3, ixX4, ixX5, ixX6, ixX7, ixL0, ixL1, ixL2, ixA0, ixA1, ixA2, ixK0, ixK1, ixK2])); with_reducible apply l_nm1) | (with_reducible apply l_rd; (first | omega | (simp (disch := omega) only [up_eq, up_nk, zr_nk, up_ni, zr_no, zr_in, hn, w32_id, Nat.reduceAdd, ixT0, ixT1, ixT2, ixT3, ixT4, ixT5, ixT6, ixT7, ixT8, ixT9, ixP0, ixP1, ixP2, ixP3, ixP4, ixP5, ixP6, ixP7, ixC0, ixC1, ixC2, ixX0, ixX1, ixX2, ixX3, ixX4, ixX5, ixX6, ixX7, ixL0, ixL1, ixL2, ixA0, ixA1, ixA2, ixK0, ixK1, ixK2]; omega)); (first | omega | (simp (disch := omega) only [up_eq, up_nk, zr_nk, up_ni, zr_no, zr_in, hn, w32_id, Nat.reduceAdd, ixT0, ixT1, ixT2, ixT3, ixT4, ixT5, ixT6, ixT7, ixT8, ixT9, ixP0, ixP1, ixP2, ixP3, ixP4, ixP5, ixP6, ixP7, ixC0, ixC1, ixC2, ixX0, ixX1, ixX2, ixX3, ixX4, ixX5, ixX6, ixX7, ixL0, ixL1, ixL2, ixA0, ixA1, ixA2, ixK0, ixK1, ixK2]; omega))) | (with_reducible apply l_wr0; (try (conv => enter [2, 4]; simp (disch := omega) only [up_eq, up_nk, zr_nk, up_ni, zr_no, zr_in, hn, w32_id, Nat.reduceAdd, ixT0, ixT1, ixT2, ixT3, ixT4, ixT5, ixT6, ixT7, ixT8, ixT9, ixP0, ixP1, ixP2, ixP3, ixP4, ixP5, ixP6, ixP7, ixC0, ixC1, ixC2, ixX0, ixX1, ixX2, ixX3, ixX4, ixX5, ixX6, ixX7, ixL0, ixL1, ixL2, ixA0, ixA1, ixA2, ixK0, ixK1, ixK2])); (try (conv => enter [2, 5]; simp (disch := omega) only [up_eq, up_nk, zr_nk, up_ni, zr_no, zr_in, hn, w32_id, Nat.reduceAdd, ixT0, ixT1, ixT2, ixT3, ixT4, ixT5, ixT6, ixT7, ixT8, ixT9, ixP0, ixP1, ixP2, ixP3, ixP4, ixP5, ixP6, ixP7, ixC0, ixC1, ixC2, ixX0, ixX1, ixX2, ixX3, ixX4, ixX5, ixX6, ixX7, ixL0, ixL1, ixL2, ixA0, ixA1, ixA2, ixK0, ixK1, ixK2])); with_reducible apply l_wr1; omega; omega) | (with_reducible apply l_wf0; (try (conv => enter [2, 4]; simp (disch := omega) only [up_eq, up_nk, zr_nk, up_ni, zr_no, zr_in, hn, w32_id, Nat.reduceAdd, ixT0, ixT1, ixT2, ixT3, ixT4, ixT5, ixT6, ixT7, ixT8, ixT9, ixP0, ixP1, ixP2, ixP3, ixP4, ixP5, ixP6, ixP7, ixC0, ixC1, ixC2, ixX0, ixX1, ixX2, ixX3, ixX4, ixX5, ixX6, ixX7, ixL0, ixL1, ixL2, ixA0, ixA1, ixA2, ixK0, ixK1, ixK2])); with_reducible apply l_wf1) | (with_reducible apply l_wz; omega) | (with_reducible apply l_zz) | (with_reducible apply l_zp; omega) | (with_reducible apply l_zn; omega) | (with_reducible apply l_ip; (first | omega | (simp (disch := omega) only [up_eq, up_nk, zr_nk, up_ni, zr_no, zr_in, hn, w32_id, Nat.reduceAdd, ixT0, ixT1, ixT2, ixT3, ixT4, ixT5, ixT6, ixT7, ixT8, ixT9, ixP0, ixP1, ixP2, ixP3, ixP4, ixP5, ixP6, ixP7, ixC0, ixC1, ixC2, ixX0, ixX1, ixX2, ixX3, ixX4, ixX5, ixX6, ixX7, ixL0, ixL1, ixL2, ixA0, ixA1, ixA2, ixK0, ixK1, ixK2]; omega))) | (with_reducible apply l_in; (first | omega | (simp (disch := omega) only [up_eq, up_nk, zr_nk, up_ni, zr_no, zr_in, hn, w32_id, Nat.reduceAdd, ixT0, ixT1, ixT2, ixT3, ixT4, ixT5, ixT6, ixT7, ixT8, ixT9, ixP0, ixP1, ixP2, ixP3, ixP4, ixP5, ixP6, ixP7, ixC0, ixC1, ixC2, ixX0, ixX1, ixX2, ixX3, ixX4, ixX5, ixX6, ixX7, ixL0, ixL1, ixL2, ixA0, ixA1, ixA2, ixK0, ixK1, ixK2]; omega))) | (with_reducible apply l_aI_some) | (with_reducible apply l_aI_rd) | (with_reducible apply l_aI_wr) | (with_reducible apply l_aI_wf) | (with_reducible apply l_aI_wz) | (with_reducible apply l_aI_nm) | (with_reducible apply l_aI_jn) | (with_reducible apply l_aI_if) | (with_reducible apply l_aI_I) | (with_reducible apply l_aI_V) | (with_reducible apply l_aV_some) | (with_reducible apply l_aV_rd) | (with_reducible apply l_aV_wr) | (with_reducible apply l_aV_wf) | (with_reducible apply l_aV_wz) | (with_reducible apply l_aV_nm) | (with_reducible apply l_aV_jn) | (with_reducible apply l_aV_if) | (with_reducible apply l_aV_I) | (with_reducible apply l_aV_V))
      refine drop_lp c0 n20 hk fu (u + 1) _ (by omega) (by omega) (by omega) (fun j => ⟨fun j0 j1 => by
          by_cases e : j = u
          · subst e
            simp (disch := omega) only [up_eq, up_nk, zr_nk, up_ni, zr_no, zr_in, true_and, and_true, Nat.reduceAdd]
            exact (i34 (j + 1)).2 (by omega)
          · simp (disch := omega) only [up_eq, up_nk, zr_nk, up_ni, zr_no, zr_in, true_and, and_true, Nat.reduceAdd]
            exact (i34 j).1 j0 (by omega), fun j0 => by
          simp (disch := omega) only [up_eq, up_nk, zr_nk, up_ni, zr_no, zr_in, true_and, and_true, Nat.reduceAdd]
          exact (i34 j).2 (by omega)⟩) (fun j => ⟨fun j0 j1 => by
          by_cases e : j = u
          · subst e
            simp (disch := omega) only [up_eq, up_nk, zr_nk, up_ni, zr_no, zr_in, true_and, and_true, Nat.reduceAdd]
            exact (i35 (j + 1)).2 (by omega)
          · simp (disch := omega) only [up_eq, up_nk, zr_nk, up_ni, zr_no, zr_in, true_and, and_true, Nat.reduceAdd]
            exact (i35 j).1 j0 (by omega), fun j0 => by
          simp (disch := omega) only [up_eq, up_nk, zr_nk, up_ni, zr_no, zr_in, true_and, and_true, Nat.reduceAdd]
          exact (i35 j).2 (by omega)⟩) (fun j => ⟨fun j0 j1 => by
          by_cases e : j = u
          · subst e
            simp (disch := omega) only [up_eq, up_nk, zr_nk, up_ni, zr_no, zr_in, true_and, and_true, Nat.reduceAdd]
            exact (i36 (j + 1)).2 (by omega)
          · simp (disch := omega) only [up_eq, up_nk, zr_nk, up_ni, zr_no, zr_in, true_and, and_true, Nat.reduceAdd]
            exact (i36 j).1 j0 (by omega), fun j0 => by
          simp (disch := omega) only [up_eq, up_nk, zr_nk, up_ni, zr_no, zr_in, true_and, and_true, Nat.reduceAdd]
          exact (i36 j).2 (by omega)⟩) (fun a i ha => by simp (disch := omega) only [up_eq, up_nk, zr_nk, up_ni, zr_no, zr_in, true_and, and_true, Nat.reduceAdd]; exact ho a i ha) hm
    · repeat (first | (with_reducible apply l_jn) | (with_reducible apply l_nm0; (try (conv => enter [2, 1]; simp (disch := omega) only [up_eq, up_nk, zr_nk, up_ni, zr_no, zr_in, hn, w32_id, Nat.reduceAdd, ixT0, ixT1, ixT2, ixT3, ixT4, ixT5, ixT6, ixT7, ixT8, ixT9, ixP0, ixP1, ixP2, ixP3, ixP4, ixP5, ixP6, ixP7, ixC0, ixC1, ixC2, ixX0, ixX1, ixX2, ixX3, ixX4, ixX5, ixX6, ixX7, ixL0, ixL1, ixL2, ixA0, ixA1, ixA2, ixK0, ixK1, ixK2])); with_reducible apply l_nm1) | (with_reducible apply l_rd; (first | omega | (simp (disch := omega) only [up_eq, up_nk, zr_nk, up_ni, zr_no, zr_in, hn, w32_id, Nat.reduceAdd, ixT0, ixT1, ixT2, ixT3, ixT4, ixT5, ixT6, ixT7, ixT8, ixT9, ixP0, ixP1, ixP2, ixP3, ixP4, ixP5, ixP6, ixP7, ixC0, ixC1, ixC2, ixX0, ixX1, ixX2, ixX3, ixX4, ixX5, ixX6, ixX7, ixL0, ixL1, ixL2, ixA0, ixA1, ixA2, ixK0, ixK1, ixK2]; omega)); (first | omega | (simp (disch := omega) only [up_eq, up_nk, zr_nk, up_ni, zr_no, zr_in, hn, w32_id, Nat.reduceAdd, ixT0, ixT1, ixT2, ixT3, ixT4, ixT5, ixT6, ixT7, ixT8, ixT9, ixP0, ixP1, ixP2, ixP3, ixP4, ixP5, ixP6, ixP7, ixC0, ixC1, ixC2, ixX0, ixX1, ixX2, ixX3, ixX4, ixX5, ixX6, ixX7, ixL0, ixL1, ixL2, ixA0, ixA1, ixA2, ixK0, ixK1, ixK2]; omega))) | (with_reducible apply l_wr0; (try (conv => enter [2, 4]; simp (disch := omega) only [up_eq, up_nk, zr_nk, up_ni, zr_no, zr_in, hn, w32_id, Nat.reduceAdd, ixT0, ixT1, ixT2, ixT3, ixT4, ixT5, ixT6, ixT7, ixT8, ixT9, ixP0, ixP1, ixP2, ixP3, ixP4, ixP5, ixP6, ixP7, ixC0, ixC1, ixC2, ixX0, ixX1, ixX2, ixX3, ixX4, ixX5, ixX6, ixX7, ixL0, ixL1, ixL2, ixA0, ixA1, ixA2, ixK0, ixK1, ixK2])); (try (conv => enter [2, 5]; simp (disch := omega) only [up_eq, up_nk, zr_nk, up_ni, zr_no, zr_in, hn, w32_id, Nat.reduceAdd, ixT0, ixT1, ixT2, ixT3, ixT4, ixT5, ixT6, ixT7, ixT8, ixT9, ixP0, ixP1, ixP2, ixP3, ixP4, ixP5, ixP6, ixP7, ixC0, ixC1, ixC2, ixX0, ixX1, ixX2, ixX3, ixX4, ixX5, ixX6, ixX7, ixL0, ixL1, ixL2, ixA0, ixA1, ixA2, ixK0, ixK1, ixK2])); with_reducible apply l_wr1; omega; omega) | (with_reducible apply l_wf0; (try (conv => enter [2, 4]; simp (disch := omega) only [up_eq, up_nk, zr_nk, up_ni, zr_no, zr_in, hn, w32_id, Nat.reduceAdd, ixT0, ixT1, ixT2, ixT3, ixT4, ixT5, ixT6, ixT7, ixT8, ixT9, ixP0, ixP1, ixP2, ixP3, ixP4, ixP5, ixP6, ixP7, ixC0, ixC1, ixC2, ixX0, ixX1, ixX2, ixX3, ixX4, ixX5, ixX6, ixX7, ixL0, ixL1, ixL2, ixA0, ixA1, ixA2, ixK0, ixK1, ixK2])); with_reducible apply l_wf1) | (with_reducible apply l_wz; omega) | (with_reducible apply l_zz) | (with_reducible apply l_zp; omega) | (with_reducible apply l_zn; omega) | (with_reducible apply l_ip; (first | omega | (simp (disch := omega) only [up_eq, up_nk, zr_nk, up_ni, zr_no, zr_in, hn, w32_id, Nat.reduceAdd, ixT0, ixT1, ixT2, ixT3, ixT4, ixT5, ixT6, ixT7, ixT8, ixT9, ixP0, ixP1, ixP2, ixP3, ixP4, ixP5, ixP6, ixP7, ixC0, ixC1, ixC2, ixX0, ixX1, ixX2, ixX3, ixX4, ixX5, ixX6, ixX7, ixL0, ixL1, ixL2, ixA0, ixA1, ixA2, ixK0, ixK1, ixK2]; omega))) | (with_reducible apply l_in; (first | omega | (simp (disch := omega) only [up_eq, up_nk, zr_nk, up_ni, zr_no, zr_in, hn, w32_id, Nat.reduceAdd, ixT0, ixT1, ixT2, ixT3, ixT4, ixT5, ixT6, ixT7, ixT8, ixT9, ixP0, ixP1, ixP2, ixP3, ixP4, ixP5, ixP6, ixP7, ixC0, ixC1, ixC2, ixX0, ixX1, ixX2, ixX3, ixX4, ixX5, ixX6, ixX7, ixL0, ixL1, ixL2, ixA0, ixA1, ixA2, ixK0, ixK1, ixK2]; omega))) | (with_reducible apply l_aI_some) | (with_reducible apply l_aI_rd) | (with_reducible apply l_aI_wr) | (with_reducible apply l_aI_wf) | (with_reducible apply l_aI_wz) | (with_reducible apply l_aI_nm) | (with_reducible apply l_aI_jn) | (with_reducible apply l_aI_if) | (with_reducible apply l_aI_I) | (with_reducible apply l_aI_V) | (with_reducible apply l_aV_some) | (with_reducible apply l_aV_rd) | (with_reducible apply l_aV_wr) | (with_reducible apply l_aV_wf) | (with_reducible apply l_aV_wz) | (with_reducible apply l_aV_nm) | (with_reducible apply l_aV_jn) | (with_reducible apply l_aV_if) | (with_reducible apply l_aV_I) | (with_reducible apply l_aV_V))
      exact hk u M (by omega) i34 i35 i36 ho
def DrQ (b : Nat) (c : Int) (M0 M : Mem) : Prop := M (b + 30) 4 = M0 (b + 30) 4 - 1 ∧ (∀ j, 0 ≤ j → j < c → M (b + 34) j = M0 (b + 34) j ∧ M (b + 35) j = M0 (b + 35) j ∧ M (b + 36) j = M0 (b + 36) j) ∧ (∀ j, c ≤ j → j < M0 (b + 30) 4 - 1 → M (b + 34) j = M0 (b + 34) (j + 1) ∧ M (b + 35) j = M0 (b + 35) (j + 1) ∧ M (b + 36) j = M0 (b + 36) (j + 1)) ∧ ∀ a i, ¬ (b + 34 ≤ a ∧ a ≤ b + 36 ∨ a = b + 30 ∧ i = 4) → M a i = M0 a i
theorem drop_s {b : Nat} {c : Int} {M0 : Mem} (c0 : 0 ≤ c) (c1 : c < M0 (b + 30) 4) (n20 : M0 (b + 30) 4 ≤ 20) : O2 (fun q (_ : Unit) => DrQ b c M0 q) (pPost_dropCall b c M0) (some ()) := by
  unfold pPost_dropCall
  refine drop_lp (M0 := M0) (n := M0 (b + 30) 4) c0 n20 (fun u M hu i34 i35 i36 ho => ?_) FU c M0 (Int.le_refl _) (by omega) (by unfold FU; omega) (fun j => ⟨fun a e => by omega, fun _ => rfl⟩) (fun j => ⟨fun a e => by omega, fun _ => rfl⟩) (fun j => ⟨fun a e => by omega, fun _ => rfl⟩) (fun _ _ _ => rfl) rfl
  have hn : M (b + 30) 4 = M0 (b + 30) 4 := ho _ _ (by omega)
  repeat (first | (with_reducible apply l_jn) | (with_reducible apply l_nm0; (try (conv => enter [2, 1]; simp (disch := omega) only [up_eq, up_nk, zr_nk, up_ni, zr_no, zr_in, hn, w32_id, Nat.reduceAdd, ixT0, ixT1, ixT2, ixT3, ixT4, ixT5, ixT6, ixT7, ixT8, ixT9, ixP0, ixP1, ixP2, ixP3, ixP4, ixP5, ixP6, ixP7, ixC0, ixC1, ixC2, ixX0, ixX1, ixX2, ixX3, ixX4, ixX5, ixX6, ixX7, ixL0, ixL1, ixL2, ixA0, ixA1, ixA2, ixK0, ixK1, ixK2])); with_reducible apply l_nm1) | (with_reducible apply l_rd; (first | omega | (simp (disch := omega) only [up_eq, up_nk, zr_nk, up_ni, zr_no, zr_in, hn, w32_id, Nat.reduceAdd, ixT0, ixT1, ixT2, ixT3, ixT4, ixT5, ixT6, ixT7, ixT8, ixT9, ixP0, ixP1, ixP2, ixP3, ixP4, ixP5, ixP6, ixP7, ixC0, ixC1, ixC2, ixX0, ixX1, ixX2, ixX3, ixX4, ixX5, ixX6, ixX7, ixL0, ixL1, ixL2, ixA0, ixA1, ixA2, ixK0, ixK1, ixK2]; omega)); (first | omega | (simp (disch := omega) only [up_eq, up_nk, zr_nk, up_ni, zr_no, zr_in, hn, w32_id, Nat.reduceAdd, ixT0, ixT1, ixT2, ixT3, ixT4, ixT5, ixT6, ixT7, ixT8, ixT9, ixP0, ixP1, ixP2, ixP3, ixP4, ixP5, ixP6, ixP7, ixC0, ixC1, ixC2, ixX0, ixX1, ixX2, ixX3, ixX4, ixX5, ixX6, ixX7, ixL0, ixL1, ixL2, ixA0, ixA1, ixA2, ixK0, ixK1, ixK2]; omega))) | (with_reducible apply l_wr0; (try (conv => enter [2, 4]; simp (disch := omega) only [up_eq, up_nk, zr_nk, up_ni, zr_no, zr_in, hn, w32_id, Nat.reduceAdd, ixT0, ixT1, ixT2, ixT3, ixT4, ixT5, ixT6, ixT7, ixT8, ixT9, ixP0, ixP1, ixP2, ixP3, ixP4, ixP5, ixP6, ixP7, ixC0, ixC1, ixC2, ixX0, ixX1, ixX2, ixX3, ixX4, ixX5, ixX6, ixX7, ixL0, ixL1, ixL2, ixA0, ixA1, ixA2, ixK0, ixK1, ixK2])); (try (conv => enter [2, 5]; simp (disch := omega) only [up_eq, up_nk, zr_nk, up_ni, zr_no, zr_in, hn, w32_id, Nat.reduceAdd, ixT0, ixT1, ixT2, ixT3, ixT4, ixT5, ixT6, ixT7, ixT8, ixT9, ixP0, ixP1, ixP2, ixP3, ixP4, ixP5, ixP6, ixP7, ixC0, ixC1, ixC2, ixX0, ixX1, ixX2, ixX3, ixX4, ixX5, ixX6, ixX7, ixL0, ixL1, ixL2, ixA0, ixA1, ixA2, ixK0, ixK1, ixK2])); with_reducible apply l_wr1; omega; omega) | (with_reducible apply l_wf0; (try (conv => enter [2, 4]; simp (disch := omega) only [up_eq, up_nk, zr_nk, up_ni, zr_no, zr_in, hn, w32_id, Nat.reduceAdd, ixT0, ixT1, ixT2, ixT3, ixT4, ixT5, ixT6, ixT7, ixT8, ixT9, ixP0, ixP1, ixP2, ixP3, ixP4, ixP5, ixP6, ixP7, ixC0, ixC1, ixC2, ixX0, ixX1, ixX2, ixX3, ixX4, ixX5, ixX6, ixX7, ixL0, ixL1, ixL2, ixA0, ixA1, ixA2, ixK0, ixK1, ixK2])); with_reducible apply l_wf1) | (with_reducible apply l_wz; omega) | (with_reducible apply l_zz) | (with_reducible apply l_zp; omega) | (with_reducible apply l_zn; omega) | (with_reducible apply l_ip; (first | omega | (simp (disch := omega) only [up_eq, up_nk, zr_nk, up_ni, zr_no, zr_in, hn, w32_id, Nat.reduceAdd, ixT0, ixT1, ixT2, ixT3, ixT4, ixT5, ixT6, ixT7, ixT8, ixT9, ixP0, ixP1, ixP2, ixP3, ixP4, ixP5, ixP6, ixP7, ixC0, ixC1, ixC2, ixX0, ixX1, ixX2, ixX3, ixX4, ixX5, ixX6, ixX7, ixL0, ixL1, ixL2, ixA0, ixA1, ixA2, ixK0, ixK1, ixK2]; omega))) | (with_reducible apply l_in; (first | omega | (simp (disch := omega) only [up_eq, up_nk, zr_nk, up_ni, zr_no, zr_in, hn, w32_id, Nat.reduceAdd, ixT0, ixT1, ixT2, ixT3, ixT4, ixT5, ixT6, ixT7, ixT8, ixT9, ixP0, ixP1, ixP2, ixP3, ixP4, ixP5, ixP6, ixP7, ixC0, ixC1, ixC2, ixX0, ixX1, ixX2, ixX3, ixX4, ixX5, ixX6, ixX7, ixL0, ixL1, ixL2, ixA0, ixA1, ixA2, ixK0, ixK1, ixK2]; omega))) | (with_reducible apply l_aI_some) | (with_reducible apply l_aI_rd) | (with_reducible apply l_aI_wr) | (with_reducible apply l_aI_wf) | (with_reducible apply l_aI_wz) | (with_reducible apply l_aI_nm) | (with_reducible apply l_aI_jn) | (with_reducible apply l_aI_if) | (with_reducible apply l_aI_I) | (with_reducible apply l_aI_V) | (with_reducible apply l_aV_some) | (with_reducible apply l_aV_rd) | (with_reducible apply l_aV_wr) | (with_reducible apply l_aV_wf) | (with_reducible apply l_aV_wz) | (with_reducible apply l_aV_nm) | (with_reducible apply l_aV_jn) | (with_reducible apply l_aV_if) | (with_reducible apply l_aV_I) | (with_reducible apply l_aV_V))
  refine o2_ret ⟨by simp (disch := omega) only [up_eq, up_nk, zr_nk, up_ni, zr_no, zr_in, true_and, and_true, Nat.reduceAdd], fun j j0 j1 => ?_, fun j j0 j1 => ?_, fun a i ha => ?_⟩
  · simp (disch := omega) only [up_eq, up_nk, zr_nk, up_ni, zr_no, zr_in, true_and, and_true, Nat.reduceAdd]
    exact ⟨(i34 j).2 (by omega), (i35 j).2 (by omega), (i36 j).2 (by omega)⟩
  · simp (disch := omega) only [up_eq, up_nk, zr_nk, up_ni, zr_no, zr_in, true_and, and_true, Nat.reduceAdd]
    exact ⟨(i34 j).1 j0 (by omega), (i35 j).1 j0 (by omega), (i36 j).1 j0 (by omega)⟩
  · rw [upM_ne (by omega)]
    exact ho a i (by omega)
theorem lk_up {R : Mem} {k v : Int} (k' : Int) : lk (upM R 1 (3772 + 3 * k) v) k' = if k' = k then v else lk R k' := by
  unfold lk
  by_cases e : k' = k
  · rw [if_pos e, up_eq rfl (by omega)]
  · rw [if_neg e, up_ni (by omega)]
theorem cr_less {b : Nat} {M R : Mem} {kb v : Int} (h : CR b M R) (k0 : 0 ≤ kb) (k1 : kb < R 1 6) (kz : ¬ lk R kb = 0) (v0 : 1 ≤ v) (v1 : v ≤ 99) : CR b (upM M (b + 36) (cn (lk R) kb.toNat) v) (upM R 1 (3772 + 3 * kb) v) := by
  obtain ⟨n0, n1, n2, hr⟩ := h
  have e6 : upM R 1 (3772 + 3 * kb) v 1 6 = R 1 6 := upM_ne (by omega)
  have ec : ∀ n : Nat, cn (lk (upM R 1 (3772 + 3 * kb) v)) n = cn (lk R) n := fun n => cn_cg fun i i0 i1 => by
    rw [lk_up]
    by_cases e : i = kb
    · rw [if_pos e, e]
      omega
    · rw [if_neg e]
  refine ⟨by rw [e6]; exact n0, by rw [e6]; exact n1, by rw [e6, ec, up_nk (by omega)]; exact n2, fun k a0 a1 => ?_⟩
  rw [e6] at a1
  obtain ⟨q1, q2, q3⟩ := hr k a0 a1
  rw [lk_up, ec, up_nk (a := b + 34) (by omega), up_nk (a := b + 35) (by omega), up_ni (j := 3770 + 3 * k) (by omega), up_ni (j := 3771 + 3 * k) (by omega)]
  by_cases e : k = kb
  · subst e
    rw [if_pos rfl, up_eq rfl rfl]
    exact ⟨by omega, v1, fun _ => ⟨(q3 kz).1, (q3 kz).2.1, rfl⟩⟩
  · rw [if_neg e]
    refine ⟨q1, q2, fun z => ?_⟩
    have d : ¬ cn (lk R) k.toNat = cn (lk R) kb.toNat := by
      rcases Int.lt_or_gt_of_ne e with x | x
      · have := cn_lt a0 x z
        omega
      · have := cn_lt k0 x kz
        omega
    rw [up_ni d]
    exact q3 z
theorem cr_drop {b : Nat} {M R q : Mem} {kb : Int} (h : CR b M R) (k0 : 0 ≤ kb) (k1 : kb < R 1 6) (kz : ¬ lk R kb = 0) (hq : DrQ b (cn (lk R) kb.toNat) (upM M (b + 36) (cn (lk R) kb.toNat) 0) q) : CR b q (upM R 1 (3772 + 3 * kb) 0) := by
  obtain ⟨n0, n1, n2, hr⟩ := h
  obtain ⟨d1, d2, d3, d4⟩ := hq
  rw [up_nk (by omega)] at d1 d3
  have e6 : upM R 1 (3772 + 3 * kb) 0 1 6 = R 1 6 := upM_ne (by omega)
  have el : ∀ n : Nat, kb < n → cn (lk (upM R 1 (3772 + 3 * kb) 0)) n = cn (lk R) n - 1 := fun n hn => cn_dr k0 kz (by rw [lk_up, if_pos rfl]) hn fun i i0 i1 i2 => by
    rw [lk_up, if_neg i2]
  have es : ∀ n : Nat, n ≤ kb → cn (lk (upM R 1 (3772 + 3 * kb) 0)) n = cn (lk R) n := fun n hn => cn_cg fun i i0 i1 => by
    rw [lk_up, if_neg (by omega)]
  refine ⟨by rw [e6]; exact n0, by rw [e6]; exact n1, by rw [e6, el _ (by omega), d1, n2], fun k a0 a1 => ?_⟩
  rw [e6] at a1
  obtain ⟨q1, q2, q3⟩ := hr k a0 a1
  rw [lk_up, up_ni (j := 3770 + 3 * k) (by omega), up_ni (j := 3771 + 3 * k) (by omega)]
  have bk := cn_bd (f := lk R) (n := k.toNat)
  by_cases e : k = kb
  · rw [if_pos e]
    exact ⟨by omega, by omega, fun z => absurd rfl z⟩
  · rw [if_neg e]
    refine ⟨q1, q2, fun z => ?_⟩
    obtain ⟨g1, g2, g3⟩ := q3 z
    rcases Int.lt_or_gt_of_ne e with x | x
    · have lt := cn_lt a0 x z
      obtain ⟨w1, w2, w3⟩ := d2 _ bk.1 lt
      rw [es _ (by omega), w1, w2, w3, up_nk (a := b + 34) (by omega), up_nk (a := b + 35) (by omega), up_ni (by omega)]
      exact ⟨g1, g2, g3⟩
    · have lt := cn_lt k0 x kz
      have lt2 := cn_lt a0 a1 z
      obtain ⟨w1, w2, w3⟩ := d3 (cn (lk R) k.toNat - 1) (by omega) (by omega)
      rw [el _ (by omega), w1, w2, w3, up_nk (a := b + 34) (by omega), up_nk (a := b + 35) (by omega), up_ni (by omega), show cn (lk R) k.toNat - 1 + 1 = cn (lk R) k.toNat by omega]
      exact ⟨g1, g2, g3⟩
def FrQ (b : Nat) (M R q R2 : Mem) : Prop := (∀ a i, ¬ (b ≤ a ∧ a ≤ b + 36) → q a i = M a i) ∧ (∀ a i, ¬ a = 1 → R2 a i = R a i) ∧ R2 1 0 = R 1 0 ∧ R2 1 3 = R 1 3
theorem FrQ.tr {b : Nat} {M R q R2 q3 R3 : Mem} (h : FrQ b M R q R2) (h2 : FrQ b q R2 q3 R3) : FrQ b M R q3 R3 := by
  obtain ⟨a2, a3, a4, a5⟩ := h
  obtain ⟨b2, b3, b4, b5⟩ := h2
  exact ⟨fun a i ha => by rw [b2 a i ha, a2 a i ha], fun a i ha => by rw [b3 a i ha, a3 a i ha], by omega, by omega⟩
