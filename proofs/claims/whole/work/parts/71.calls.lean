/-! An hour: calls are served. -/
/-- the row with the class's calls in it -/
def cs (M : Mem) (b : Nat) (s : Int → Int) (i : Int) : Int := if i = 6 then M (b + 30) 4 else if 3770 ≤ i ∧ i < 3830 then M (b + 34 + ((i - 3770) % 3).toNat) ((i - 3770) / 3) else s i
theorem cs_o {M : Mem} {b : Nat} {s : Int → Int} {i : Int} (h : ¬ (i = 6 ∨ (3770 ≤ i ∧ i < 3830))) : cs M b s i = s i := by
  unfold cs
  rw [if_neg (by omega), if_neg (by omega)]
theorem cs_r {M : Mem} {b : Nat} {s : Int → Int} {i : Int} {d : Nat} (h0 : 0 ≤ i) (h1 : i < 20) (hd : d < 3) : cs M b s (3770 + d + 3 * i) = M (b + 34 + d) i := by
  unfold cs
  rw [if_neg (by omega), if_pos (by omega), show ((3770 + (d : Int) + 3 * i - 3770) % 3).toNat = d by omega, show (3770 + (d : Int) + 3 * i - 3770) / 3 = i by omega]
theorem cs_g {M : Mem} {b : Nat} {s : Int → Int} (h0 : 0 ≤ M (b + 30) 4) (h1 : M (b + 30) 4 ≤ 20) (h2 : ∀ i, 0 ≤ i → i < M (b + 30) 4 → 1 ≤ M (b + 36) i ∧ M (b + 36) i ≤ 99) : gA6 M b (cs M b s) := by
  have e6 : cs M b s 6 = M (b + 30) 4 := if_pos rfl
  refine ⟨e6.symm, by rw [e6]; exact h0, by rw [e6]; exact h1, fun i i0 i1 => ?_⟩
  rw [e6] at i1
  have a0 := cs_r (M := M) (b := b) (s := s) (i := i) (d := 0) i0 (by omega) (by omega)
  have a1 := cs_r (M := M) (b := b) (s := s) (i := i) (d := 1) i0 (by omega) (by omega)
  have a2 := cs_r (M := M) (b := b) (s := s) (i := i) (d := 2) i0 (by omega) (by omega)
  have b0 : cs M b s (3770 + 3 * i) = M (b + 34) i := a0
  have b1 : cs M b s (3771 + 3 * i) = M (b + 35) i := a1
  have b2 : cs M b s (3772 + 3 * i) = M (b + 36) i := a2
  rw [b0, b1, b2]
  exact ⟨rfl, rfl, rfl, h2 i i0 i1⟩
theorem CR.bd {b : Nat} {M R : Mem} (h : CR b M R) : 0 ≤ M (b + 30) 4 ∧ M (b + 30) 4 ≤ 20 ∧ ∀ i, 0 ≤ i → i < M (b + 30) 4 → 1 ≤ M (b + 36) i ∧ M (b + 36) i ≤ 99 := by
  obtain ⟨n0, n1, n2, hr⟩ := h
  have bn := cn_bd (f := lk R) (n := (R 1 6).toNat)
  refine ⟨by omega, by omega, fun i i0 i1 => ?_⟩
  rw [n2] at i1
  obtain ⟨k, k0, k1, k2, k3⟩ := cn_su i0 i1
  obtain ⟨a1, a2, a3⟩ := hr k k0 (by omega)
  have a4 := (a3 k2).2.2
  rw [k3] at a4
  rw [a4]
  omega
def SI (N : Int) (b : Nat) (M R : Mem) : Prop := Cty N M b (cs M b (R 1)) ∧ CR b M R
/-- calls changed alone -/
theorem SI.set {N : Int} {b : Nat} {M R M2 R2 : Mem} (h : SI N b M R) (hM : ∀ a i, ¬ (b + 34 ≤ a ∧ a ≤ b + 36 ∨ a = b + 30 ∧ i = 4) → M2 a i = M a i) (hR : ∀ i, ¬ (i = 6 ∨ (3770 ≤ i ∧ i < 3830)) → R2 1 i = R 1 i) (hc : CR b M2 R2) : SI N b M2 R2 := by
  refine ⟨?_, hc⟩
  obtain ⟨b1, b2, b3⟩ := hc.bd
  refine h.1.setE (fun a i ha => hM a i (by omega)) (fun i hi => by rw [cs_o (by omega), cs_o (by omega)]; exact hR i (by omega)) (h.1.2.2.2.2.2.2.2.1.cg (hM _ _ (by omega)) (fun k k0 k1 i i0 i1 => hM _ _ (by omega)) (fun j j0 j1 => by rw [cs_o (by omega), cs_o (by omega)]; exact hR j (by omega)) (fun j j0 j1 => by rw [cs_o (by omega), cs_o (by omega)]; exact hR j (by omega))) (cs_g b1 b2 b3)
theorem SI.of {N : Int} {b : Nat} {M R : Mem} (h : Cty N M b (R 1)) : SI N b M R := by
  obtain ⟨u1, u2, u3, hh⟩ := h.2.2.2.2.2.2.2.2.1
  have al : ∀ k, 0 ≤ k → k ≤ R 1 6 → cn (lk R) k.toNat = k := fun k k0 k1 => by
    rw [cn_al (fun i i0 i1 => by have := (hh i i0 (by omega)).2.2.2.1; show ¬ R 1 (3772 + 3 * i) = 0; omega)]
    omega
  have hc : CR b M R := by
    refine ⟨u2, u3, by rw [al _ u2 (by omega)]; exact u1, fun k k0 k1 => ?_⟩
    obtain ⟨q1, q2, q3, q4, q5⟩ := hh k k0 k1
    rw [al k k0 (by omega)]
    refine ⟨?_, ?_, fun _ => ⟨q1, q2, q3⟩⟩
    · show 0 ≤ R 1 (3772 + 3 * k)
      omega
    · exact q5
  obtain ⟨b1, b2, b3⟩ := hc.bd
  exact ⟨h.setE (fun a i ha => rfl) (fun i hi => cs_o (by omega)) (h.2.2.2.2.2.2.2.1.cg rfl (fun k k0 k1 i i0 i1 => rfl) (fun j j0 j1 => cs_o (by omega)) (fun j j0 j1 => cs_o (by omega))) (cs_g b1 b2 b3), hc⟩
/-- back: the reference has squeezed its calls -/
theorem SI.to {N : Int} {b : Nat} {M R R2 : Mem} (h : SI N b M R) (hR : ∀ i, ¬ (i = 6 ∨ (3770 ≤ i ∧ i < 3830)) → R2 1 i = R 1 i) (hg : gA6 M b (R2 1)) : Cty N M b (R2 1) :=
  h.1.setE (fun a i ha => rfl) (fun i hi => by rw [cs_o (by omega)]; exact hR i (by omega)) (h.1.2.2.2.2.2.2.2.1.cg rfl (fun k k0 k1 i i0 i1 => rfl) (fun j j0 j1 => by rw [cs_o (by omega)]; exact hR j (by omega)) (fun j j0 j1 => by rw [cs_o (by omega)]; exact hR j (by omega))) hg
theorem SI.learn {N : Int} {b : Nat} {M R : Mem} {sd v : Int} (h : SI N b M R) (hs : sd = 0 ∨ sd = 1) (v0 : 0 ≤ v) (v1 : v < 1048576) : SI N b (upM M (b + 14) sd v) (upM R 1 (15 + sd) v) := by
  have k := learn_c (R := fun a => if a = 1 then cs M b (R 1) else R a) (sd := sd) (v := v) h.1 hs rfl v0 v1
  refine ⟨k.cg (Int.le_refl _) (fun _ _ _ _ _ => rfl) (fun j j0 j1 => ?_), ?_⟩
  · by_cases e : j = 15 + sd
    · rw [up_eq rfl e, cs_o (by omega), up_eq rfl e]
    · rw [up_ni e]
      show _ = cs M b (R 1) j
      by_cases z : j = 6 ∨ (3770 ≤ j ∧ j < 3830)
      · unfold cs
        by_cases y : j = 6
        · rw [if_pos y, if_pos y, up_nk (by omega)]
        · rw [if_neg y, if_neg y, if_pos (by omega), if_pos (by omega), up_nk (by omega)]
      · rw [cs_o z, cs_o z, up_ni e]
  · obtain ⟨n0, n1, n2, hr⟩ := h.2
    have e6 : upM R 1 (15 + sd) v 1 6 = R 1 6 := upM_ne (by omega)
    have el : ∀ k, 0 ≤ k → lk (upM R 1 (15 + sd) v) k = lk R k := fun k k0 => upM_ne (by omega)
    have ec : ∀ n : Nat, cn (lk (upM R 1 (15 + sd) v)) n = cn (lk R) n := fun n => cn_cg fun i i0 i1 => by rw [el i i0]
    refine ⟨by rw [e6]; exact n0, by rw [e6]; exact n1, by rw [e6, ec, up_nk (by omega)]; exact n2, fun k k0 k1 => ?_⟩
    rw [e6] at k1
    rw [el k k0, ec, up_nk (a := b + 34) (by omega), up_nk (a := b + 35) (by omega), up_nk (a := b + 36) (by omega), up_ni (j := 3770 + 3 * k) (by omega), up_ni (j := 3771 + 3 * k) (by omega)]
    exact hr k k0 k1
