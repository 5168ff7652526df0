/-! Texts: a sign is taken or refused, alike on both sides. -/
section
theorem rel_stop {L : Nat} {S : List (Int × Nat)} {d fu : Nat} {P R : Mem} (hs : stQ S d P R) (ht : tlt L S) (hl : S.length ≤ 96) : lpX8_release_0 (L : Int) (fu + 1) P = some (1, P) := by
  obtain ⟨s1, s2, _⟩ := hs
  cases S with
  | nil =>
    have s1' : P 1 10 = 0 := s1
    rw [lpX8_release_0, s1', if_neg (by omega)]
  | cons q S =>
    obtain ⟨w, n⟩ := q
    rw [List.length_cons] at s1 hl
    have h4 : P 4 (S.length : Nat) = w := s2.1
    rw [lpX8_release_0, s1, if_pos (by omega), w32_id (by omega) (by omega), show (((S.length + 1 : Nat) : Int) - 1) = (S.length : Nat) by omega, rd_ok (by omega) (by omega), h4]
    rcases ht with ht | ⟨h0, h1, h2⟩
    · rw [if_pos ht]
    · rw [if_neg (by omega), rd_ok (by omega) (by omega), h4, rdT_op h0 h1, if_pos (by omega)]
theorem tlt_b {S : List (Int × Nat)} (h : tlt 1 S) : S = [] ∨ ∃ n S', S = (20010, n) :: S' := by
  cases S with
  | nil => exact .inl rfl
  | cons q S =>
    obtain ⟨w, n⟩ := q
    rcases h with h | ⟨h0, h1, h2⟩
    · exact .inr ⟨n, S, by rw [h]⟩
    · have := lev_bd (w := w)
      omega
theorem tlt_10 {S : List (Int × Nat)} (h : tlt 1 S) : tlt 0 S := by
  rcases tlt_b h with q | ⟨n, S', q⟩
  · rw [q]; trivial
  · rw [q]; exact .inl rfl
/-- all signs behind the last open bracket come to the code -/
theorem pop_all {ky ad : Int} {S : List (Int × Nat)} {d : Nat} {P R : Mem} (a0 : 1316 ≤ ad) (a1 : ad ≤ 4010) (hc : cdQ ky ad P R) (hs : stQ S d P R) (hk : tkl R = 0) (ht : tlt 6 S) (hf : fuS 96 S) (hn : R 0 17 + (S.length : Nat) ≤ 96) (hdp : dp (P 3) (R 0 17).toNat = nOP S + 1) : ∃ S' l' P' R', pTape_release 0 P = some (1, P') ∧ Fx ky S 5 d (some (1, R)) = Fx ky S' l' d (some (1, R')) ∧ l' ≤ 5 ∧ tlt 1 S' ∧ cdQ ky ad P' R' ∧ stQ S' d P' R' ∧ R' 0 17 + (S'.length : Nat) = R 0 17 + (S.length : Nat) ∧ dp (P' 3) (R' 0 17).toNat = nOP S' + 1 ∧ krP P P' ∧ krR ad R R' ∧ (∀ e, fuS e S → fuS e S') ∧ nBR S' = nBR S := by
  obtain ⟨S', l', P', R', r1, r2, r3, r4, r5, r6, r7, r8, r9, r10, r11, r12, r13, r14⟩ := pop_o (ky := ky) (L := 0) a0 a1 S 5 P R hc hs hk (by omega) (Nat.le_refl 5) ht hf hn hdp
  have c17 := hc.2.1
  obtain ⟨fu2, f1, f2⟩ := r1 FU (by unfold FU; omega)
  refine ⟨S', l', P', R', ?_, r2, r7, r5, r3, r4, r8, r9, r10, r11, r12, r14⟩
  unfold pTape_release
  have f3 : lpX8_release_0 (0 : Int) FU P = lpX8_release_0 (0 : Int) fu2 P' := f2
  rw [f3, show fu2 = (fu2 - 1) + 1 by omega]
  exact rel_stop (L := 0) r4 (tlt_10 r5) (by omega)
theorem Fx_go {ky : Int} {d l : Nat} {S : List (Int × Nat)} {M M8 : Mem} {w : Int} (hn : rM_next M = some M8) (ht : M 0 12 = 3) (hl : l ≤ 5) (hL : tkl M ≤ l) (w0 : 20000 ≤ w) (w1 : w ≤ 20008) (hw : lev w = tkl M) (hsg : sg (w - 20000) = M 0 14) (h1 : 1 ≤ tkl M) (hS : tlt (tkl M) S) : Fx ky S l d (some (1, M)) = Fx ky ((w, 999999) :: S) 5 d (rM_part0 d ky M8) := by
  have he : Fx ky ((w, 999999) :: S) 5 d (rM_part0 d ky M8) = Fx ky S (tkl M - 1) d (bnI (chn ky d (tkl M) 5 (rM_part0 d ky M8)) (opK d ky (tkl M) (M 0 14) 999999)) := by
    rw [Fx, if_neg (show ¬ w = 20009 by omega), if_neg (show ¬ w = 20010 by omega), hw, hsg]
  rw [he]
  cases S with
  | nil => rw [Fx, Fx, chn_go hn ht l hl (by omega) hL]
  | cons q S =>
    obtain ⟨w2, m2⟩ := q
    rcases hS with hS | ⟨s0, s1, s2⟩
    · rw [Fx, if_neg (show ¬ w2 = 20009 by omega), if_pos hS, Fx, if_neg (show ¬ w2 = 20009 by omega), if_pos hS, chn_go hn ht l hl (by omega) hL]
    · rw [Fx, if_neg (show ¬ w2 = 20009 by omega), if_neg (show ¬ w2 = 20010 by omega), Fx, if_neg (show ¬ w2 = 20009 by omega), if_neg (show ¬ w2 = 20010 by omega), chn_go hn ht l hl s2 hL]
section Sign
variable {ky ad : Int} {T : Int → Int} {z : Int} {P0 R0 : Mem} {S : List (Int × Nat)} {d : Nat} {P R : Mem}
/-- a sign is held, and a part is wanted -/
theorem hold_op {m : Nat} {w : Int} {P1 R1 : Mem} (h1 : tpQ T z P R) (hl : LX T z P R) (hok : (P 1 8 = 2 ∨ P 1 8 = 3) ↔ (R 0 12 = 1 ∨ R 0 12 = 2)) (hs : R 0 10 < R 0 11) (hc : cdQ ky ad P1 R1) (hst : stQ S d P1 R1) (hf : fuS (R 0 11) S) (hm : 1000000 ≤ (m : Int) + R 0 11) (hn : R1 0 17 + (S.length : Nat) + 1 ≤ R 0 11) (hk : P 1 2 = ky) (h3 : P 1 3 = R 0 19) (h19 : 0 ≤ R 0 19) (h19' : R 0 19 ≤ R 0 11) (hdp : dp (P1 3) (R1 0 17).toNat = nOP S + 1) (g1 : gvP P0 P) (g2 : gvR ad R0 R) (kp : krP P P1) (kr : krR ad R R1) (w0 : 20000 ≤ w) (w1 : w ≤ 20008) (ht : tlt (lev w) S) : ∃ P', pTape_hold w (upM P1 1 13 1) = some (1, P') ∧ peQ ky ad T z P0 R0 ((w, m) :: S) d 1 P' P' R1 ∧ R1 0 11 = R 0 11 := by
  have hb := hl.2.2.2.2.1
  have hz := h1.2.2.2.1
  have c17 := hc.2.1
  obtain ⟨s1, s2, s3, s4, s5, s6, s7, s8, s9, s10⟩ := hst
  have e4 : ∀ q : Int, ¬ q = (S.length : Nat) → upM (upM (upM P1 1 13 1) 1 10 ((S.length : Nat) + 1)) 4 (S.length : Nat) w 4 q = P1 4 q := fun q hq => by rw [up_ni hq, up_nk (by omega), up_nk (by omega)]
  have e3 : upM (upM (upM P1 1 13 1) 1 10 ((S.length : Nat) + 1)) 4 (S.length : Nat) w 3 = P1 3 := by rw [up_row (by omega), up_row (by omega), up_row (by omega)]
  have kk : ∀ a k, ¬ ((a = 1 ∧ (k = 13 ∨ k = 10)) ∨ a = 4) → upM (upM (upM P1 1 13 1) 1 10 ((S.length : Nat) + 1)) 4 (S.length : Nat) w a k = P1 a k := fun a k ha => by rw [upM_ne (by omega), upM_ne (by omega), upM_ne (by omega)]
  have r11 : R1 0 11 = R 0 11 := kr 0 11 (by omega)
  have n1 : nBR ((w, m) :: S) = nBR S := by rw [nBR, if_neg (by omega)]; omega
  have n2 : nNT ((w, m) :: S) = nNT S := by rw [nNT, if_neg (by omega)]; omega
  have n3 : nOP ((w, m) :: S) = nOP S + 1 := by rw [nOP, if_pos (by omega)]
  refine ⟨upM (upM (upM P1 1 13 1) 1 10 ((S.length : Nat) + 1)) 4 (S.length : Nat) w, ?_, ⟨?_, ?_, ?_, ?_, ?_, ?_, ?_, ?_, ?_, ?_, ?_, ?_, ?_, .inl ⟨rfl, rfl⟩⟩, r11⟩
  · unfold pTape_hold
    rw [up_ni (by omega), s1, if_pos (by omega), wf_ok, w32_id (by omega) (by omega), wr_ok (by omega) (by omega)]
  · exact pre_of h1 hl hok hs (fun a k ha => by rw [kk a k (by omega)]; exact kp a k (by omega)) (fun a k ha => kr a k (by omega))
  · exact hc.cg (kk 1 4 (by omega)) (fun k => kk 3 k (by omega)) rfl rfl (fun _ => rfl)
  · refine ⟨?_, ⟨up_eq rfl rfl, s2.cg fun q q0 q1 => e4 q (by omega)⟩, ⟨s3, .inr (.inr ⟨w0, w1, ht⟩)⟩, ?_, ?_, ?_, ?_, ?_, ?_, ?_⟩
    · rw [up_nk (by omega), up_eq rfl rfl, List.length_cons]; omega
    · rw [kk 1 11 (by omega), n1]; exact s4
    · rw [n1]; exact s5
    · rw [kk 1 12 (by omega), n2]; exact s6
    · rw [n2]; exact s7
    · rw [n1]; exact s8
    · rw [n2]; exact s9
    · rw [n1, n2]; exact s10
  · rw [r11]; exact ⟨hm, hf⟩
  · rw [r11, List.length_cons]; omega
  · rw [kk 1 2 (by omega), kp 1 2 (by omega)]; exact hk
  · rw [kk 1 3 (by omega), kp 1 3 (by omega), kr 0 19 (by omega)]; exact h3
  · rw [kr 0 19 (by omega)]; exact h19
  · rw [kr 0 19 (by omega), r11]; exact h19'
  · rw [up_nk (by omega), up_ni (by omega), up_eq rfl rfl]
  · rw [e3, hdp, n3]; omega
  · exact fun a k ha => by rw [kk a k (by omega), kp a k (by omega)]; exact g1 a k ha
  · exact fun a k ha => by rw [kr a k (by omega)]; exact g2 a k ha
/-- the end of a text -/
theorem end_o (a0 : 1316 ≤ ad) (a1 : ad ≤ 4010) (h : prQ ky ad T z P0 R0 S d 0 P R) (ht : tlt 6 S) (h8 : P 1 8 = 0) (h11 : P 1 11 = 0) : ∃ P' R', pTape_release 0 P = some (1, P') ∧ Fx ky S 5 d (some (1, R)) = some (1, R') ∧ R' 0 12 = 0 ∧ cdQ ky ad P' R' ∧ P' 1 2 = ky ∧ P' 1 3 = R' 0 19 ∧ 0 ≤ R' 0 19 ∧ R' 0 19 ≤ 96 ∧ dp (P' 3) (R' 0 17).toNat = 1 ∧ gvP P0 P' ∧ gvR ad R0 R' := by
  obtain ⟨h1, hl, hc, hst, hf, hn, hk, h3, h19, h19', h13, hdp, g1, g2⟩ := h
  obtain ⟨l1, l2, q0, q1, q2, q3⟩ := hl
  have t4 := h1.2.2.2.1
  have s4 := hst.2.2.2.1
  have h12 : R 0 12 = 0 := by omega
  obtain ⟨S', l', P', R', r1, r2, r3, r4, r5, r6, r7, r8, r9, r10, r11, r12⟩ := pop_all (ky := ky) a0 a1 hc hst (tkl_0 (by omega)) ht (hf.le (by omega)) (by omega) (by rw [hdp]; omega)
  have hS : S' = [] := by
    rcases tlt_b r4 with q | ⟨n, S2, q⟩
    · exact q
    · rw [q, nBR, if_pos rfl] at r12
      have := nBR_nn S2
      omega
  subst hS
  have k12 : R' 0 12 = 0 := by rw [r10 0 12 (by omega)]; exact h12
  refine ⟨P', R', r1, ?_, k12, r5, ?_, ?_, ?_, ?_, ?_, ?_, ?_⟩
  · rw [r2, Fx, chn_pass l' r3 (.inl (by rw [tkl_0 (by omega)]; exact Nat.le_refl 0))]
  · rw [r9 1 2 (by omega)]; exact hk
  · rw [r9 1 3 (by omega), r10 0 19 (by omega)]; exact h3
  · rw [r10 0 19 (by omega)]; exact h19
  · rw [r10 0 19 (by omega)]; omega
  · rw [r8]; rfl
  · exact fun a k ha => by rw [r9 a k (by omega)]; exact g1 a k ha
  · exact fun a k ha => by rw [r10 a k (by omega)]; exact g2 a k ha
theorem sign_o (a0 : 1316 ≤ ad) (a1 : ad ≤ 4010) (hT : ∀ i, 0 ≤ i → i < z → 0 ≤ T i ∧ T i ≤ 255) (h : prQ ky ad T z P0 R0 S d 0 P R) (ht : tlt 6 S) (hne : ¬ (P 1 8 = 0 ∧ P 1 11 = 0)) : ft1 ad P0 R0 R (pTape_takeSign P) (Fx ky S 5 d (some (1, R))) ∨ (go1 ky ad T z P0 R0 R (pTape_takeSign P) (Fx ky S 5 d (some (1, R))) ∧ R 0 10 < R 0 11) := by
  obtain ⟨h1, hl, hc, hst, hf, hn, hk, h3, h19, h19', h13, hdp, g1, g2⟩ := h
  have hl0 := hl
  obtain ⟨l1, l2, q0, q1, q2, q3⟩ := hl
  have t4 := h1.2.2.2.1
  have hst0 := hst
  obtain ⟨s1, s2, s3, s4, s5, s6, s7, s8, s9, s10⟩ := hst
  have c17 := hc.2.1
  have c18 := hc.2.2.2.1
  have o10 : ¬ (1 : Int) = 0 := by omega
  have o11 : (1 : Int) = 0 ∨ (1 : Int) = 1 := .inr rfl
  have o00 : (0 : Int) = 0 ∨ (0 : Int) = 1 := .inl rfl
  have hf96 : fuS 96 S := hf.le (by omega)
  have hdp1 : dp (P 3) (R 0 17).toNat = nOP S + 1 := by rw [hdp]; omega
  have dead : tkl R = 0 → ¬ (R 0 12 = 3 ∧ R 0 14 = 41) → (R 0 12 = 0 → ¬ nBR S = 0) → pTape_takeSign P = some (0, P) → ft1 ad P0 R0 R (pTape_takeSign P) (Fx ky S 5 d (some (1, R))) := fun w1 w2 w3 w4 => by
    obtain ⟨b, R', r1, r2, r3⟩ := dead_o (ky := ky) (d := d) a0 a1 S 5 R s3 ht (Nat.le_refl 5) (.inl w1) w2 hf96 c18 c17 (by omega)
    refine ⟨P, R', b, w4, r1, r3.imp id fun q => ⟨q.1, fun y => ?_⟩, l1, r2 0 10 (by omega), g1, fun a k ha => by rw [r2 a k (by omega)]; exact g2 a k ha⟩
    rw [r2 0 12 (by omega)] at y
    exact w3 y q.2
  by_cases c1 : P 1 8 = 1
  · have c2 : R 0 12 = 3 ∧ R 0 10 < z ∧ R 0 11 = R 0 10 + 1 ∧ R 0 14 = T (R 0 10) := by
      rcases q3 with ⟨b1, b2, b3, b4⟩ | ⟨b1, b2, b3, b4, b5, b6, b7⟩ | ⟨b1, b2, b3, b4, b5⟩ | ⟨b1, b2, b3, b4, b5, b6⟩ | ⟨b1, b2, b3, b4⟩ | ⟨b1, b2, b3⟩
      · omega
      · exact ⟨b2, b3, b4, b5⟩
      · omega
      · omega
      · omega
      · omega
    obtain ⟨c3, c4, c5, c6⟩ := c2
    have hok : (P 1 8 = 2 ∨ P 1 8 = 3) ↔ (R 0 12 = 1 ∨ R 0 12 = 2) := by omega
    have hb : P 2 (R 0 10) = T (R 0 10) := (h1.2.2.2.2 _ q0 (by omega)).1
    have hbd := hT (R 0 10) q0 c4
    by_cases c41 : T (R 0 10) = 41
    · have k0 : tkl R = 0 := by rw [tkl_s c3, c6, c41]; decide
      obtain ⟨S', l', P', R', r1, r2, r3, r4, r5, r6, r7, r8, r9, r10, r11, r12⟩ := pop_all (ky := ky) a0 a1 hc hst0 k0 ht hf96 (by omega) hdp1
      have kt : tkl R' = 0 := by rw [r10.tk]; exact k0
      by_cases cb : nBR S = 0
      · have hS : S' = [] := by
          rcases tlt_b r4 with q | ⟨n, S2, q⟩
          · exact q
          · rw [q, nBR, if_pos rfl] at r12
            have := nBR_nn S2
            omega
        subst hS
        refine .inl ⟨P, R', 1, ?_, ?_, .inr ⟨rfl, by rw [r10 0 12 (by omega)]; omega⟩, l1, r10 0 10 (by omega), g1, fun a k ha => by rw [r10 a k (by omega)]; exact g2 a k ha⟩
        · unfold pTape_takeSign pTape_closeBracket
          rw [if_pos c1, l1, rd_ok q0 (by omega), hb, if_pos c41, if_pos (show P 1 11 = 0 by omega), bI_k, if_pos o00]
        · rw [r2, Fx, chn_pass l' r3 (.inl (by omega))]
      · rcases tlt_b r4 with q | ⟨n, S2, q⟩
        · rw [q] at r12
          exact absurd r12.symm cb
        · subst q
          obtain ⟨u1, u2, u3, u4, u5, u6, u7, u8, u9, u10⟩ := r6
          have n1 : nBR ((20010, n) :: S2) = nBR S2 + 1 := by rw [nBR, if_pos rfl]
          have n2 : nNT ((20010, n) :: S2) = nNT S2 := by rw [nNT, if_neg (by omega)]; omega
          have n3 : nOP ((20010, n) :: S2) = nOP S2 := by rw [nOP, if_neg (by omega)]; omega
          have nb0 := nBR_nn S2
          rw [n1] at u4 u5 u8 u10 r12
          rw [n2] at u6 u7 u9 u10
          rw [n3] at r8
          rw [List.length_cons] at u1 r7
          have c17' := r5.2.1
          have row3 : upM (upM P' 1 11 (nBR S2)) 1 10 (S2.length : Nat) 3 = P' 3 := by rw [up_row (by omega), up_row (by omega)]
          have kk : ∀ a k, ¬ (a = 1 ∧ (k = 11 ∨ k = 10)) → upM (upM P' 1 11 (nBR S2)) 1 10 (S2.length : Nat) a k = P' a k := fun a k ha => by rw [upM_ne (by omega), upM_ne (by omega)]
          have rr : ∀ a k, ¬ (a = 0 ∧ k = 15) → upM R' 0 15 (nBR S2) a k = R' a k := fun a k ha => upM_ne ha
          have hc2 : cdQ ky ad (upM (upM P' 1 11 (nBR S2)) 1 10 (S2.length : Nat)) (upM R' 0 15 (nBR S2)) := r5.cg (kk 1 4 (by omega)) (fun i => kk 3 i (by omega)) (rr 0 17 (by omega)) (rr 0 18 (by omega)) (fun i => rr 1 i (by omega))
          have hs2 : stQ S2 (d + 1) (upM (upM P' 1 11 (nBR S2)) 1 10 (S2.length : Nat)) (upM R' 0 15 (nBR S2)) := ⟨up_eq rfl rfl, u2.2.cg fun i i0 i1 => kk 4 i (by omega), u3.1, by rw [up_ni (by omega), up_eq rfl rfl], up_eq rfl rfl, by rw [kk 1 12 (by omega)]; exact u6, by rw [rr 0 16 (by omega)]; exact u7, by omega, u9, by omega⟩
          have hdp2 : dp (upM (upM P' 1 11 (nBR S2)) 1 10 (S2.length : Nat) 3) (upM R' 0 15 (nBR S2) 0 17).toNat = nOP S2 + 1 := by rw [row3, rr 0 17 (by omega)]; exact r8
          obtain ⟨S3, d3, P3, R3, v1, v2, v3, v4, v5, v6, v7, v8, v9, v10⟩ := nots_o (ky := ky) a0 a1 S2 (d + 1) _ _ hc2 hs2 (by rw [rr 0 17 (by omega)]; omega) hdp2
          have vn := v1 FU (by unfold FU; omega)
          have kP : ∀ a k, ¬ ((a = 1 ∧ (k = 4 ∨ k = 10 ∨ k = 11 ∨ k = 12)) ∨ a = 3 ∨ a = 4) → P3 a k = P a k := fun a k ha => by rw [v8 a k ha, kk a k (by omega), r9 a k ha]
          have kR : ∀ a k, ¬ ((a = 0 ∧ (k = 15 ∨ k = 16 ∨ k = 17)) ∨ (a = 1 ∧ ad ≤ k ∧ k < ad + 194)) → upM R' 0 15 (nBR S2) a k = R a k := fun a k ha => by rw [rr a k (by omega), r10 a k ha]
          have hf2 : fuS (R 0 11) S2 := (r11 _ hf).2.le (by omega)
          have hpe : peQ ky ad T z P0 R0 S2 (d + 1) 0 (upM (upM P' 1 11 (nBR S2)) 1 10 (S2.length : Nat)) P3 (upM R' 0 15 (nBR S2)) := by
            refine ⟨?_, hc2, hs2, ?_, ?_, ?_, ?_, ?_, ?_, ?_, ?_, ?_, ?_, .inr ⟨rfl, vn⟩⟩
            · exact pre_of h1 hl0 hok (by omega) (fun a k ha => kP a k (by omega)) (fun a k ha => kR a k (by omega))
            · rw [kR 0 11 (by omega)]; exact hf2
            · rw [rr 0 17 (by omega), kR 0 11 (by omega)]; omega
            · rw [kP 1 2 (by omega)]; exact hk
            · rw [kP 1 3 (by omega), kR 0 19 (by omega)]; exact h3
            · rw [kR 0 19 (by omega)]; exact h19
            · rw [kR 0 19 (by omega), kR 0 11 (by omega)]; omega
            · rw [kP 1 13 (by omega)]; exact h13
            · rw [hdp2]; omega
            · exact fun a k ha => by rw [kP a k (by omega)]; exact g1 a k ha
            · exact fun a k ha => by rw [kR a k (by omega)]; exact g2 a k ha
          obtain ⟨Pn, Rn, m1, m2, m3⟩ := adv_o hpe.1
          refine .inr ⟨⟨P3, S2, d + 1, 0, _, _, ?_, ?_, hpe, kR 0 11 (by omega)⟩, by omega⟩
          · unfold pTape_takeSign pTape_closeBracket
            rw [if_pos c1, l1, rd_ok q0 (by omega), hb, if_pos c41, if_neg (show ¬ P 1 11 = 0 by omega), r1, bI_k, wf_ok, u4, show nBR S2 + 1 - 1 = nBR S2 by omega, w32_id (z := nBR S2) (by omega) (by omega), jn_ok, up_ni (i := 11) (j := 10) (by omega), u1, if_pos (show (0 : Int) < ((S2.length + 1 : Nat) : Int) by omega), wf_ok, w32_id (z := ((S2.length + 1 : Nat) : Int) - 1) (by omega) (by omega), show ((S2.length + 1 : Nat) : Int) - 1 = (S2.length : Nat) by omega]
            try dsimp only
            unfold pTape_releaseNots
            rw [vn, bV_ok, bI_k, if_pos o11]
          · have hbr : brK 1 R' = some (1, Rn) := by
              unfold brK
              rw [if_neg o10, isS_y (c := 41) (by rw [r10 0 12 (by omega)]; exact c3) (by rw [r10 0 14 (by omega), c6]; exact c41), bI_k, if_neg o10, wf_ok, u5, show nBR S2 + 1 - 1 = nBR S2 by omega, w32_id (z := nBR S2) (by omega) (by omega), m2, bV_ok]
            rw [r2, Fx, if_neg (show ¬ (20010 : Int) = 20009 by omega), if_pos rfl, chn_pass l' r3 (.inl (by omega)), bI_k, hbr, m2, bV_ok]
            unfold gox
            rw [if_neg (show ¬ (0 : Int) = 1 by omega)]
    · obtain ⟨sl, m1, m2⟩ := ev_sgn (c := T (R 0 10)) (M := P) hbd.1 hbd.2
      rcases m2 with ⟨m2, m3⟩ | ⟨m2, m3, m4, m5, m6⟩
      · refine .inl (dead ?_ ?_ ?_ ?_)
        · rw [tkl_s c3, c6]; exact m3
        · omega
        · omega
        · unfold pTape_takeSign
          rw [if_pos c1, l1, rd_ok q0 (by omega), hb, if_neg c41, rd_ok q0 (by omega), hb, m1, bI_k, if_pos (show sl < 0 by omega)]
      · have hL : tkl R = lev (20000 + sl) := by rw [tkl_s c3, c6]; exact m5
        have hL1 : 1 ≤ lev (20000 + sl) ∧ lev (20000 + sl) ≤ 5 := lev_bd
        obtain ⟨L, hLL⟩ : ∃ L, lev (20000 + sl) = L := ⟨_, rfl⟩
        rw [hLL] at hL hL1
        have hr : ∀ {f : Int → Option (Int × Mem)}, rdT 2 sl f = f ((L : Nat) : Int) := fun {f} => by
          have := rdT_op (w := 20000 + sl) (f := f) (by omega) (by omega)
          rw [show 20000 + sl - 20000 = sl by omega, w32_id (by omega) (by omega), hLL] at this
          exact this
        obtain ⟨S', l', P', R', r1, r2, r3, r4, r5, r6, r7, r8, r9, r10, r11, r12, r13, r14⟩ := pop_o (ky := ky) (L := L) a0 a1 S 5 P R hc hst0 hL hL1.2 (Nat.le_refl 5) ht hf96 (by omega) hdp1
        obtain ⟨fu2, f1, f2⟩ := r1 FU (by unfold FU; omega)
        have c17' := r3.2.1
        have kt : tkl R' = L := by rw [r11.tk]; exact hL
        have k12 : R' 0 12 = 3 := by rw [r11 0 12 (by omega)]; exact c3
        have k14 : R' 0 14 = T (R 0 10) := by rw [r11 0 14 (by omega)]; exact c6
        have hw32 : w32 (20000 + sl) = 20000 + sl := w32_id (by omega) (by omega)
        have hsg : sg (20000 + sl - 20000) = T (R 0 10) := by rw [show 20000 + sl - 20000 = sl by omega]; exact m4
        have hf2 : fuS (R 0 11) S' := (r12 _ hf).le (by omega)
        by_cases tl : tlt L S'
        · obtain ⟨P2, w1, w2, w3⟩ := hold_op (m := 999999) (w := 20000 + sl) h1 hl0 hok (by omega) r3 r4 hf2 (by omega) (by omega) hk h3 h19 (by omega) r9 g1 g2 r10 r11 (by omega) (by omega) (by rw [hLL]; exact tl)
          obtain ⟨Pn, Rn, x1, x2, x3⟩ := adv_o w2.1
          refine .inr ⟨⟨P2, _, _, 1, _, _, ?_, ?_, w2, w3⟩, by omega⟩
          · have hrel : pTape_release (L : Int) P = some (1, P') := by
              unfold pTape_release
              rw [f2, show fu2 = (fu2 - 1) + 1 by omega]
              exact rel_stop r4 tl (by omega)
            unfold pTape_takeSign
            rw [if_pos c1, l1, rd_ok q0 (by omega), hb, if_neg c41, rd_ok q0 (by omega), hb, m1, bI_k, if_neg (show ¬ sl < 0 by omega), hr, hrel, bI_k, if_neg o10, wf_ok, hw32, w1, bI_k, if_pos o11]
          · rw [r2, x2, bV_ok, Fx_go (w := 20000 + sl) x2 k12 r7 (by omega) (by omega) (by omega) (by rw [hLL, kt]) (by rw [hsg, k14]) (by omega) (by rw [kt]; exact tl)]
            unfold gox
            rw [if_pos rfl]
        · cases S' with
          | nil => exact (tl trivial).elim
          | cons q S2 =>
            obtain ⟨w, n⟩ := q
            rcases r5 with r5 | ⟨y0, y1, y2⟩
            · exact (tl (.inl r5)).elim
            · have hlw : lev w = L := by
                by_cases c : lev w < L
                · exact (tl (.inr ⟨y0, y1, c⟩)).elim
                · omega
              have r4' := r4
              obtain ⟨u1, u2, u3, u4, u5, u6, u7, u8, u9, u10⟩ := r4
              have hv2 : vS S2 ∧ tlt L S2 := by
                refine ⟨u3.1, ?_⟩
                rcases u3.2 with q | q | q
                · omega
                · omega
                · rw [hlw] at q; exact q.2.2
              rw [List.length_cons] at u1 r8 r13 f1
              have h4 : P' 4 (S2.length : Nat) = w := u2.1
              by_cases c3' : L = 3
              · have hrel : pTape_release (L : Int) P = some (0, P') := by
                  unfold pTape_release
                  rw [f2, show fu2 = (fu2 - 1) + 1 by omega, lpX8_release_0, u1, if_pos (by omega), w32_id (by omega) (by omega), show (((S2.length + 1 : Nat) : Int) - 1) = (S2.length : Nat) by omega, rd_ok (by omega) (by omega), h4, if_neg (by omega), rd_ok (by omega) (by omega), h4, rdT_op y0 y1, hlw, if_neg (by omega), jn_ok, if_pos (by omega), if_pos (by omega)]
                obtain ⟨R1, b1, b2, b3⟩ := ev_step (a := 2) (v := sg (w - 20000)) (R := R') (ad := ad) r3.2.2.2.1 c17' (by omega) a0 a1
                have bk : krR ad R' R1 := fun a i ha => b3 a i (by omega)
                obtain ⟨b, R2, v1, v2, v3⟩ := dead_o (ky := ky) (d := d) a0 a1 S2 2 R1 hv2.1 (by rw [show 2 + 1 = L by omega]; exact hv2.2) (by omega) (.inr (by rw [bk.tk, kt]; omega)) (by rw [b3 0 14 (by omega), k14]; exact fun q => c41 q.2) ((r12 _ hf96).2) (by rw [b3 0 18 (by omega)]; exact r3.2.2.2.1) (by omega) (by omega)
                have kR : ∀ a k, ¬ ((a = 0 ∧ (k = 15 ∨ k = 16 ∨ k = 17)) ∨ (a = 1 ∧ ad ≤ k ∧ k < ad + 194)) → R2 a k = R a k := fun a k ha => by rw [v2 a k ha, bk a k ha, r11 a k ha]
                refine .inl ⟨P', R2, b, ?_, ?_, v3.imp id fun q => ⟨q.1, by rw [kR 0 12 (by omega)]; omega⟩, by rw [r10 1 6 (by omega)]; exact l1, kR 0 10 (by omega), fun a k ha => by rw [r10 a k (by omega)]; exact g1 a k ha, fun a k ha => by rw [kR a k (by omega)]; exact g2 a k ha⟩
                · unfold pTape_takeSign
                  rw [if_pos c1, l1, rd_ok q0 (by omega), hb, if_neg c41, rd_ok q0 (by omega), hb, m1, bI_k, if_neg (show ¬ sl < 0 by omega), hr, hrel, bI_k, if_pos rfl]
                · have ho : opK d ky L (sg (w - 20000)) n 1 R' = some (1, R1) := by
                    show (if (1 : Int) = 0 then some (0, R') else bnV (rM_step 2 (sg (w - 20000)) R') fun M8 => lpK d ky n L M8) = _
                    rw [if_neg o10, b1, bV_ok, c3']
                    rfl
                  rw [r2, Fx, if_neg (show ¬ w = 20009 by omega), if_neg (show ¬ w = 20010 by omega), hlw, chn_pass l' r7 (.inl (by omega)), bI_k, ho, ← v1, c3']
              · have hS2 : ((w, n) :: S2).length = S2.length + 1 := List.length_cons
                obtain ⟨P1, R1, b1, b2, b3, b4, b5, b6, b7, b8⟩ := pop_one r3 r4' y0 y1 (by rw [hS2]; omega) r9 (nOP_nn S2) a0 a1
                have hf3 := hf2.2
                have hfn := (r12 _ hf).1
                have kt1 : tkl R1 = L := by rw [b8.tk]; exact kt
                have j12 : R1 0 12 = 3 := by rw [b8 0 12 (by omega)]; exact k12
                have j14 : R1 0 14 = T (R 0 10) := by rw [b8 0 14 (by omega)]; exact k14
                obtain ⟨P2, w1, w2, w3⟩ := hold_op (m := n - 1) (w := 20000 + sl) h1 hl0 hok (by omega) b3 b4 hf3 (by omega) (by omega) hk h3 h19 (by omega) b6 g1 g2 (fun a k ha => by rw [b7 a k ha, r10 a k ha]) (fun a k ha => by rw [b8 a k ha, r11 a k ha]) (by omega) (by omega) (by rw [hLL]; exact hv2.2)
                obtain ⟨Pn, Rn, x1, x2, x3⟩ := adv_o w2.1
                refine .inr ⟨⟨P2, _, _, 1, _, _, ?_, ?_, w2, w3⟩, by omega⟩
                · have hrel : pTape_release (L : Int) P = some (1, P1) := by
                    unfold pTape_release
                    rw [f2, show fu2 = (fu2 - 1) + 1 by omega, rel_pop (fu := fu2 - 1) r4' y0 y1 (by omega) (by omega) (by omega) b1, show fu2 - 1 = (fu2 - 2) + 1 by omega]
                    exact rel_stop b4 hv2.2 (by omega)
                  unfold pTape_takeSign
                  rw [if_pos c1, l1, rd_ok q0 (by omega), hb, if_neg c41, rd_ok q0 (by omega), hb, m1, bI_k, if_neg (show ¬ sl < 0 by omega), hr, hrel, bI_k, if_neg o10, wf_ok, hw32, w1, bI_k, if_pos o11]
                · have ho : opK d ky L (sg (w - 20000)) n 1 R' = bnI (chn ky d L 5 (rM_part0 d ky Rn)) (opK d ky L (R1 0 14) (n - 1)) := by
                    have hn1 : n - 1 + 1 = n := by omega
                    have hgo := lp_go (d := d) (n := n - 1) (ky := ky) x2 j12 L kt1 hL1.1 c3'
                    rw [hn1] at hgo
                    show (if (1 : Int) = 0 then some (0, R') else bnV (rM_step 2 (sg (w - 20000)) R') fun M8 => lpK d ky n L M8) = _
                    rw [if_neg o10, b2, bV_ok]
                    exact hgo
                  rw [r2, Fx, if_neg (show ¬ w = 20009 by omega), if_neg (show ¬ w = 20010 by omega), hlw, chn_pass l' r7 (.inl (by omega)), bI_k, ho, x2, bV_ok]
                  unfold gox
                  rw [if_pos rfl, Fx, if_neg (show ¬ 20000 + sl = 20009 by omega), if_neg (show ¬ 20000 + sl = 20010 by omega), hLL, hsg, j14]
  · have hts : pTape_takeSign P = some (0, P) := by
      unfold pTape_takeSign
      rw [if_neg c1]
    have n3 : ¬ R 0 12 = 3 := by omega
    refine .inl (dead (tkl_0 n3) (fun q => n3 q.1) (fun q => ?_) hts)
    omega
end Sign
end
