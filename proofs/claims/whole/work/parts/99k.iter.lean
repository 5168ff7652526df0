/-! Texts: one word taken, by the class and by the reference. -/
def gvP (P P' : Mem) : Prop := ∀ a i, ¬ ((a = 1 ∧ ¬ i = 0) ∨ a = 3 ∨ a = 4) → P' a i = P a i
def gvR (ad : Int) (R R' : Mem) : Prop := ∀ a i, ¬ ((a = 0 ∧ 10 ≤ i ∧ i ≤ 19) ∨ (a = 1 ∧ ad ≤ i ∧ i < ad + 194)) → R' a i = R a i
/-- a word is looked at -/
def prQ (ky ad : Int) (T : Int → Int) (z : Int) (P0 R0 : Mem) (S : List (Int × Nat)) (d : Nat) (wn : Int) (P R : Mem) : Prop := tpQ T z P R ∧ LX T z P R ∧ cdQ ky ad P R ∧ stQ S d P R ∧ fuS (R 0 10) S ∧ R 0 17 + (S.length : Nat) ≤ R 0 10 ∧ P 1 2 = ky ∧ P 1 3 = R 0 19 ∧ 0 ≤ R 0 19 ∧ R 0 19 ≤ R 0 10 ∧ P 1 13 = wn ∧ dp (P 3) (R 0 17).toNat = nOP S + 1 - wn ∧ gvP P0 P ∧ gvR ad R0 R
/-- the next word is to be read; Pv: the class before its nots came to the code -/
def peQ (ky ad : Int) (T : Int → Int) (z : Int) (P0 R0 : Mem) (S : List (Int × Nat)) (d : Nat) (wn : Int) (Pv P R : Mem) : Prop := preQ T z P R ∧ cdQ ky ad Pv R ∧ stQ S d Pv R ∧ fuS (R 0 11) S ∧ R 0 17 + (S.length : Nat) ≤ R 0 11 ∧ P 1 2 = ky ∧ P 1 3 = R 0 19 ∧ 0 ≤ R 0 19 ∧ R 0 19 ≤ R 0 11 ∧ P 1 13 = wn ∧ dp (Pv 3) (R 0 17).toNat = nOP S + 1 - wn ∧ gvP P0 P ∧ gvR ad R0 R ∧ ((wn = 1 ∧ Pv = P) ∨ (wn = 0 ∧ lpX8_releaseNots_0 FU Pv = some P))
theorem cdQ.cg {ky ad : Int} {P R P' R' : Mem} (h : cdQ ky ad P R) (h4 : P' 1 4 = P 1 4) (h3 : ∀ i, P' 3 i = P 3 i) (h17 : R' 0 17 = R 0 17) (h18 : R' 0 18 = R 0 18) (hr : ∀ i, R' 1 i = R 1 i) : cdQ ky ad P' R' := by
  have e3 : P' 3 = P 3 := funext h3
  obtain ⟨c1, c2, c3, c4, c5, c6⟩ := h
  exact ⟨by rw [h4, h17]; exact c1, by rw [h17]; exact c2, by rw [h17]; exact c3, by rw [h18]; exact c4, fun j j0 j1 => by rw [e3, hr, hr]; exact c5 j j0 (by omega), by rw [e3, h17]; exact c6⟩
theorem stQ.cg {S : List (Int × Nat)} {d : Nat} {P R P' R' : Mem} (h : stQ S d P R) (h1 : ∀ i, i = 10 ∨ i = 11 ∨ i = 12 → P' 1 i = P 1 i) (h4 : ∀ i, P' 4 i = P 4 i) (h15 : R' 0 15 = R 0 15) (h16 : R' 0 16 = R 0 16) : stQ S d P' R' := by
  obtain ⟨s1, s2, s3, s4, s5, s6, s7, s8, s9, s10⟩ := h
  exact ⟨by rw [h1 10 (by omega)]; exact s1, s2.cg fun i _ _ => h4 i, s3, by rw [h1 11 (by omega)]; exact s4, by rw [h15]; exact s5, by rw [h1 12 (by omega)]; exact s6, by rw [h16]; exact s7, s8, s9, s10⟩
theorem it_adv {ky ad : Int} {T : Int → Int} {z : Int} {P0 R0 : Mem} {S : List (Int × Nat)} {d : Nat} {wn : Int} {Pv P R : Mem} (a0 : 1316 ≤ ad) (a1 : ad ≤ 4010) (h : peQ ky ad T z P0 R0 S d wn Pv P R) : ∃ P1 R1 S' d' R2, pTape_advance P = some P1 ∧ rM_next R = some R1 ∧ prQ ky ad T z P0 R0 S' d' wn P1 R2 ∧ R 0 11 ≤ R2 0 10 ∧ ((wn = 1 ∧ S' = S ∧ d' = d ∧ R2 = R1) ∨ (wn = 0 ∧ tlt 6 S' ∧ Fx ky S 5 d (some (1, R1)) = Fx ky S' 5 d' (some (1, R2)))) := by
  obtain ⟨h1, h2, h3, h4, h5, h6, h7, h8, h9, h10, h11, h12, h13, h14⟩ := h
  have hb := h1.2.2.2.1
  have hz := h1.1.2.2.2.1
  obtain ⟨P1, R1, b1, b2, ⟨b3, b4, b5⟩, b6⟩ := adv_o h1
  have ht := h1.1.kp b4 b5
  have g1 : gvP P0 P1 := fun a i ha => by rw [b4 a i (by omega)]; exact h12 a i ha
  have g2 : gvR ad R0 R1 := fun a i ha => by rw [b5 a i (by omega)]; exact h13 a i ha
  have e10 : R 0 11 ≤ R1 0 10 := by have := b3.1; omega
  rcases h14 with ⟨w1, w2⟩ | ⟨w1, w2⟩
  · subst w2
    have e3 : P1 3 = Pv 3 := funext fun i => b4 3 i (by omega)
    refine ⟨P1, R1, S, d, R1, b1, b2, ⟨ht, b3, ?_, ?_, h4.le e10, ?_, ?_, ?_, ?_, ?_, ?_, ?_, g1, g2⟩, e10, .inl ⟨w1, rfl, rfl, rfl⟩⟩
    · exact h2.cg (b4 1 4 (by omega)) (fun i => b4 3 i (by omega)) (b5 0 17 (by omega)) (b5 0 18 (by omega)) (fun i => b5 1 i (by omega))
    · exact h3.cg (fun i hi => b4 1 i (by omega)) (fun i => b4 4 i (by omega)) (b5 0 15 (by omega)) (b5 0 16 (by omega))
    · rw [b5 0 17 (by omega)]; omega
    · rw [b4 1 2 (by omega)]; exact h6
    · rw [b4 1 3 (by omega), b5 0 19 (by omega)]; exact h7
    · rw [b5 0 19 (by omega)]; exact h8
    · rw [b5 0 19 (by omega)]; omega
    · rw [b4 1 13 (by omega)]; exact h10
    · rw [e3, b5 0 17 (by omega)]; exact h11
  · have c2 : cdQ ky ad Pv R1 := h2.cg rfl (fun _ => rfl) (b5 0 17 (by omega)) (b5 0 18 (by omega)) (fun i => b5 1 i (by omega))
    have c3 : stQ S d Pv R1 := h3.cg (fun _ _ => rfl) (fun _ => rfl) (b5 0 15 (by omega)) (b5 0 16 (by omega))
    have e17 : R1 0 17 = R 0 17 := b5 0 17 (by omega)
    obtain ⟨S', d', P', R2, r1, r2, r3, r4, r5, r6, r7, r8, r9, r10⟩ := nots_o a0 a1 S d Pv R1 c2 c3 (by omega) (by rw [e17, h11]; omega)
    have c17 := h2.2.1
    have hP : P' = P := by
      have := r1 FU (by unfold FU; omega)
      rw [w2] at this
      exact (Option.some.inj this).symm
    subst hP
    have e3 : P1 3 = P' 3 := funext fun i => b4 3 i (by omega)
    have t10 : R2 0 10 = R1 0 10 := r9 0 10 (by omega)
    refine ⟨P1, R1, S', d', R2, b1, b2, ⟨?_, ?_, ?_, ?_, ?_, ?_, ?_, ?_, ?_, ?_, ?_, ?_, g1, ?_⟩, by omega, .inr ⟨w1, r5, r2⟩⟩
    · obtain ⟨t1, t2, t3, t4, t5⟩ := ht
      exact ⟨t1, by rw [r9 0 9 (by omega)]; exact t2, t3, t4, fun i i0 i1 => by rw [r9 8 i (by omega)]; exact t5 i i0 i1⟩
    · obtain ⟨t1, t2, t3⟩ := b3
      exact ⟨by rw [t10]; exact t1, by rw [r9 0 11 (by omega)]; exact t2, by rw [t10, r9 0 11 (by omega), r9 0 12 (by omega), r9 0 13 (by omega), r9 0 14 (by omega)]; exact t3⟩
    · exact r3.cg (b4 1 4 (by omega)) (fun i => b4 3 i (by omega)) rfl rfl (fun _ => rfl)
    · exact r4.cg (fun i hi => b4 1 i (by omega)) (fun i => b4 4 i (by omega)) rfl rfl
    · rw [t10]; exact (r10 _ h4).le e10
    · omega
    · rw [b4 1 2 (by omega)]; exact h6
    · rw [b4 1 3 (by omega), r9 0 19 (by omega), b5 0 19 (by omega)]; exact h7
    · rw [r9 0 19 (by omega), b5 0 19 (by omega)]; exact h8
    · rw [r9 0 19 (by omega), b5 0 19 (by omega)]; omega
    · rw [b4 1 13 (by omega)]; exact h10
    · rw [e3, r7, w1]; omega
    · exact fun a i ha => by rw [r9 a i (by omega)]; exact g2 a i ha
theorem num_lp {T : Int → Int} {z : Int} {P R : Mem} (ht : tpQ T z P R) {s e : Int} (s0 : 0 ≤ s) (h7 : P 1 7 = e) (he : e ≤ z) (h4 : e - s ≤ 4) (hd : ∀ i, s ≤ i → i < e → lcD (T i)) : ∀ (fu : Nat) (u : Int), s ≤ u → u ≤ e → (e - u).toNat < fu → lpX8_numberHere_7 fu (nvl T s (u - s).toNat) u P = some (nvl T s (e - s).toNat, P)
  | 0, u, u0, u1, hf => by omega
  | fu + 1, u, u0, u1, hf => by
    obtain ⟨t1, t2, t3, t4, t5⟩ := ht
    rw [lpX8_numberHere_7, h7]
    by_cases c : u < e
    · have nb := nvl_bd (T := T) (s := s) (u - s).toNat (fun i i0 i1 => hd i i0 (by omega))
      have pb : p10 (u - s).toNat ≤ 1000 := by
        have : (u - s).toNat = 0 ∨ (u - s).toNat = 1 ∨ (u - s).toNat = 2 ∨ (u - s).toNat = 3 := by omega
        rcases this with q | q | q | q <;> rw [q] <;> decide
      have hu := hd u u0 c
      unfold lcD at hu
      have ih := num_lp ⟨t1, t2, t3, t4, t5⟩ s0 h7 he h4 hd fu (u + 1) (by omega) (by omega) (by omega)
      rw [show u + 1 - s = (u - s) + 1 by omega, nvl_s (by omega), show s + (u - s) = u by omega] at ih
      rw [if_pos c, rd_ok (by omega) (by omega), (t5 u (by omega) (by omega)).1, nm_ok, nm_ok, w32_id (z := 10 * nvl T s (u - s).toNat) (by omega) (by omega), w32_id (z := 10 * nvl T s (u - s).toNat + T u) (by omega) (by omega), w32_id (z := 10 * nvl T s (u - s).toNat + T u - 48) (by omega) (by omega), w32_id (z := u + 1) (by omega) (by omega)]
      exact ih
    · rw [if_neg c, show e = u by omega]
