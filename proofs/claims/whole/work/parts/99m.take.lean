/-! Texts: a part is taken or refused, alike on both sides. -/
section
def j1K (rc : Int → Mem → Option (Int × Mem)) (x1 : Int) (M2 : Mem) : Option (Int × Mem) :=
    bnI (rM_isSign 33 M2) fun v4 M3 =>
    jn (fun  (M6 : Mem) =>
    bnI (rM_isSign 40 M6) fun v8 M7 =>
    if v8 = 0 then (
    some (0, M7)) else (
    if M7 0 15 = 8 then (
    some (0, M7)) else (
    wrF M7 0 15 (w32 ((M7 0 15) + 1)) fun M9 =>
    bnV (rM_next M9) fun M10 =>
    bnI (rM_either rc x1 M10) brK))) fun j5 =>
    if v4 = 0 then (
    j5 M3) else (
    if M3 0 16 < 8 then (
    wrF M3 0 16 (w32 ((M3 0 16) + 1)) fun M17 =>
    bnV (rM_next M17) fun M18 =>
    bnI (rc x1 M18) notK) else (
    j5 M3))
theorem p0_eq {rc : Int → Mem → Option (Int × Mem)} {x1 : Int} {M : Mem} : rM_part0b rc x1 M = if M 0 12 = 2 then bnV (rM_step 0 (M 0 13) M) (fun M28 => wrF M28 0 19 (w32 ((M28 0 19) + 1)) fun M29 => bnV (rM_next M29) fun M30 => some (1, M30)) else if M 0 12 = 1 then (if M 0 14 = 0 then j1K rc x1 M else bnI (rM_isName x1 (M 0 14) M) fun v24 M23 => if v24 = 0 then j1K rc x1 M23 else bnV (rM_step 1 (M23 0 14) M23) fun M25 => wrF M25 0 19 (w32 ((M25 0 19) + 1)) fun M26 => bnV (rM_next M26) fun M27 => some (1, M27)) else j1K rc x1 M := rfl
theorem p0_s {dd : Nat} {ky : Int} {M : Mem} : rM_part0 (dd + 1) ky M = rM_part0b (rM_part0 dd) ky M := rfl
section J1
variable {rc : Int → Mem → Option (Int × Mem)} {ky : Int} {M : Mem}
theorem j1_not (h1 : M 0 12 = 3) (h2 : M 0 14 = 33) (h3 : M 0 16 < 8) : j1K rc ky M = bnV (rM_next (upM M 0 16 (w32 (M 0 16 + 1)))) fun M18 => bnI (rc ky M18) notK := by
  unfold j1K
  rw [isS_y h1 h2, bI_k, jn_ok, if_neg (show ¬ (1 : Int) = 0 by omega), if_pos h3, wf_ok]
theorem j1_br (h1 : M 0 12 = 3) (h2 : M 0 14 = 40) (h3 : ¬ M 0 15 = 8) : j1K rc ky M = bnV (rM_next (upM M 0 15 (w32 (M 0 15 + 1)))) fun M10 => bnI (rM_either rc ky M10) brK := by
  unfold j1K
  rw [isS_z (c := 33) (by omega), bI_k, jn_ok, if_pos rfl]
  try dsimp only
  rw [isS_y h1 h2, bI_k, if_neg (show ¬ (1 : Int) = 0 by omega), if_neg h3, wf_ok]
theorem j1_f (h : ¬ (M 0 12 = 3 ∧ M 0 14 = 33 ∧ M 0 16 < 8)) (h2 : ¬ (M 0 12 = 3 ∧ M 0 14 = 40 ∧ ¬ M 0 15 = 8)) : j1K rc ky M = some (0, M) := by
  have hj : (bnI (rM_isSign 40 M) fun v8 M7 => if v8 = 0 then some (0, M7) else if M7 0 15 = 8 then some (0, M7) else wrF M7 0 15 (w32 ((M7 0 15) + 1)) fun M9 => bnV (rM_next M9) fun M10 => bnI (rM_either rc ky M10) brK) = some (0, M) := by
    rw [ev_isSign, bI_k]
    by_cases c : M 0 12 = 3 ∧ M 0 14 = 40
    · rw [if_pos c, if_neg (show ¬ (1 : Int) = 0 by omega), if_pos (show M 0 15 = 8 by omega)]
    · rw [if_neg c, if_pos rfl]
  unfold j1K
  rw [ev_isSign, bI_k, jn_ok]
  by_cases c : M 0 12 = 3 ∧ M 0 14 = 33
  · rw [if_pos c, if_neg (show ¬ (1 : Int) = 0 by omega), if_neg (show ¬ M 0 16 < 8 by omega)]
    exact hj
  · rw [if_neg c, if_pos rfl]
    exact hj
end J1
theorem bS_ok {α : Type} {t : Nat} {M : Mem} {k : Nat → Mem → Option α} (h : t < 11) : bnS (some (t, M)) k = k t M := if_pos h
theorem ev_nam2 {key c : Int} {M : Mem} (k0 : 0 ≤ key) (k1 : key ≤ 4) (c0 : 0 ≤ c) (c1 : c ≤ 255) : ∃ s, pTape_namesOf key M = some (5 + key.toNat, M) ∧ j_indexOf_0f7a4 (5 + key.toNat) (bChr c) M = some (s, M) ∧ ((s = -1 ∧ isNm key c = false) ∨ (0 ≤ s ∧ s < nn key ∧ nl key s = c ∧ isNm key c = true)) := by
  have ha := nam_all key.toNat (by omega) c.toNat (by omega)
  rw [show ((c.toNat : Nat) : Int) = c by omega, show ((key.toNat : Nat) : Int) = key by omega] at ha
  have hn : pTape_namesOf key M = some (5 + key.toNat, M) := by
    unfold pTape_namesOf
    repeat' split
    · next h => rw [h]; rfl
    · next h => rw [h]; rfl
    · next h => rw [h]; rfl
    · next h => rw [h]; rfl
    · rw [show key = 4 by omega]; rfl
  exact ⟨_, hn, by rw [ev_chr c0 c1]; exact ev_indexOf (by omega) c0 c1, ha⟩
theorem nn_bd {key : Int} : nn key ≤ 4 := by
  unfold nn
  repeat' split
  all_goals omega
/-- what the reference still does behind the next word -/
def gox (ky : Int) (S : List (Int × Nat)) (d : Nat) (wn : Int) (M : Mem) : Option (Int × Mem) := if wn = 1 then Fx ky S 5 d (rM_part0 d ky M) else Fx ky S 5 d (some (1, M))
def go1 (ky ad : Int) (T : Int → Int) (z : Int) (P0 R0 R : Mem) (A B : Option (Int × Mem)) : Prop := ∃ P' S' d' wn Pv R', A = some (1, P') ∧ B = bnV (rM_next R') (gox ky S' d' wn) ∧ peQ ky ad T z P0 R0 S' d' wn Pv P' R' ∧ R' 0 11 = R 0 11
def ft1 (ad : Int) (P0 R0 R : Mem) (A B : Option (Int × Mem)) : Prop := ∃ P' R' b, A = some (0, P') ∧ B = some (b, R') ∧ (b = 0 ∨ (b = 1 ∧ ¬ R' 0 12 = 0)) ∧ P' 1 6 = R 0 10 ∧ R' 0 10 = R 0 10 ∧ gvP P0 P' ∧ gvR ad R0 R'
theorem part_o {ky ad : Int} {T : Int → Int} {z : Int} {P0 R0 : Mem} {S : List (Int × Nat)} {d : Nat} {P R : Mem} (a0 : 1316 ≤ ad) (a1 : ad ≤ 4010) (k0 : 0 ≤ ky) (k1 : ky ≤ 4) (hT : ∀ i, 0 ≤ i → i < z → 0 ≤ T i ∧ T i ≤ 255) (h : prQ ky ad T z P0 R0 S d 1 P R) : ft1 ad P0 R0 R (pTape_takePart P) (Fx ky S 5 d (rM_part0 d ky R)) ∨ (go1 ky ad T z P0 R0 R (pTape_takePart P) (Fx ky S 5 d (rM_part0 d ky R)) ∧ R 0 10 < R 0 11) := by
  have h0 := h
  obtain ⟨h1, hl, hc, hst, hf, hn, hk, h3, h19, h19', h13, hdp, g1, g2⟩ := h
  obtain ⟨l1, l2, q0, q1, q2, q3⟩ := hl
  have t4 := h1.2.2.2.1
  obtain ⟨s1, s2, s3, s4, s5, s6, s7, s8, s9, s10⟩ := hst
  have nb1 := nBR_nn S
  have nb2 := nNT_nn S
  have o10 : ¬ (1 : Int) = 0 := by omega
  have o11 : (1 : Int) = 0 ∨ (1 : Int) = 1 := .inr rfl
  obtain ⟨dd, rfl⟩ : ∃ dd, d = dd + 1 := ⟨d - 1, by omega⟩
  have bad : rM_part0b (rM_part0 dd) ky R = some (0, R) → pTape_takePart P = some (0, P) → ft1 ad P0 R0 R (pTape_takePart P) (Fx ky S 5 (dd + 1) (rM_part0 (dd + 1) ky R)) := fun w1 w2 => ⟨P, R, 0, w2, by rw [p0_s, w1, Fx_f], .inl rfl, l1, rfl, g1, g2⟩
  rcases q3 with ⟨b1, b2, b3, b4⟩ | ⟨b1, b2, b3, b4, b5, b6, b7⟩ | ⟨b1, b2, b3, b4, b5⟩ | ⟨b1, b2, b3, b4, b5, b6⟩ | ⟨b1, b2, b3, b4⟩ | ⟨b1, b2, b3⟩
  · refine .inl (bad ?_ ?_)
    · rw [p0_eq, if_neg (show ¬ R 0 12 = 2 by omega), if_neg (show ¬ R 0 12 = 1 by omega)]
      exact j1_f (by omega) (by omega)
    · unfold pTape_takePart
      rw [if_neg (show ¬ P 1 8 = 3 by omega), if_neg (show ¬ P 1 8 = 2 by omega), if_neg (show ¬ P 1 8 = 1 by omega)]
  · have hb : P 2 (R 0 10) = T (R 0 10) := (h1.2.2.2.2 _ q0 (by omega)).1
    have r2 : ¬ R 0 12 = 2 := by omega
    have r1 : ¬ R 0 12 = 1 := by omega
    by_cases c33 : T (R 0 10) = 33
    · by_cases cn : P 1 12 < 8
      · obtain ⟨P', w1, w2, w3, w4⟩ := part_h h0 (w := 20009) (i := 12) (j := 16) (.inl ⟨rfl, rfl, rfl⟩) cn (by omega) (by omega)
        obtain ⟨Pn, Rn, m1, m2, m3⟩ := adv_o w3.1
        refine .inr ⟨⟨P', _, _, 1, P', _, ?_, ?_, w3, w4⟩, by omega⟩
        · unfold pTape_takePart
          rw [if_neg (show ¬ P 1 8 = 3 by omega), if_neg (show ¬ P 1 8 = 2 by omega), if_pos (show P 1 8 = 1 by omega), l1, rd_ok q0 (by omega), hb, jn_ok, if_pos c33, if_pos cn, wf_ok, w1, bI_k, if_pos o11]
        · rw [p0_s, p0_eq, if_neg r2, if_neg r1, j1_not b2 (by omega) (by omega), w32_id (z := R 0 16 + 1) (by omega) (by omega), m2, bV_ok, bV_ok]
          unfold gox
          rw [if_pos rfl, Fx, if_pos rfl, Nat.add_sub_cancel]
      · refine .inl (bad ?_ ?_)
        · rw [p0_eq, if_neg r2, if_neg r1]
          exact j1_f (by omega) (by omega)
        · unfold pTape_takePart
          rw [if_neg (show ¬ P 1 8 = 3 by omega), if_neg (show ¬ P 1 8 = 2 by omega), if_pos (show P 1 8 = 1 by omega), l1, rd_ok q0 (by omega), hb, jn_ok, if_pos c33, if_neg cn]
          try dsimp only
          rw [l1, rd_ok q0 (by omega), hb, if_neg (show ¬ T (R 0 10) = 40 by omega)]
    · by_cases c40 : T (R 0 10) = 40
      · by_cases cn : P 1 11 < 8
        · obtain ⟨P', w1, w2, w3, w4⟩ := part_h h0 (w := 20010) (i := 11) (j := 15) (.inr ⟨rfl, rfl, rfl⟩) cn (by omega) (by omega)
          obtain ⟨Pn, Rn, m1, m2, m3⟩ := adv_o w3.1
          refine .inr ⟨⟨P', _, _, 1, P', _, ?_, ?_, w3, w4⟩, by omega⟩
          · unfold pTape_takePart
            rw [if_neg (show ¬ P 1 8 = 3 by omega), if_neg (show ¬ P 1 8 = 2 by omega), if_pos (show P 1 8 = 1 by omega), l1, rd_ok q0 (by omega), hb, jn_ok, if_neg c33]
            try dsimp only
            rw [l1, rd_ok q0 (by omega), hb, if_pos c40, if_pos cn, wf_ok, w1, bI_k, if_pos o11]
          · rw [p0_s, p0_eq, if_neg r2, if_neg r1, j1_br b2 (by omega) (by omega), w32_id (z := R 0 15 + 1) (by omega) (by omega), m2, bV_ok, bV_ok]
            unfold gox
            rw [if_pos rfl, Fx, if_neg (show ¬ (20010 : Int) = 20009 by omega), if_pos rfl, Nat.add_sub_cancel, either_ch]
        · refine .inl (bad ?_ ?_)
          · rw [p0_eq, if_neg r2, if_neg r1]
            exact j1_f (by omega) (by omega)
          · unfold pTape_takePart
            rw [if_neg (show ¬ P 1 8 = 3 by omega), if_neg (show ¬ P 1 8 = 2 by omega), if_pos (show P 1 8 = 1 by omega), l1, rd_ok q0 (by omega), hb, jn_ok, if_neg c33]
            try dsimp only
            rw [l1, rd_ok q0 (by omega), hb, if_pos c40, if_neg cn]
      · refine .inl (bad ?_ ?_)
        · rw [p0_eq, if_neg r2, if_neg r1]
          exact j1_f (by omega) (by omega)
        · unfold pTape_takePart
          rw [if_neg (show ¬ P 1 8 = 3 by omega), if_neg (show ¬ P 1 8 = 2 by omega), if_pos (show P 1 8 = 1 by omega), l1, rd_ok q0 (by omega), hb, jn_ok, if_neg c33]
          try dsimp only
          rw [l1, rd_ok q0 (by omega), hb, if_neg c40]
  · by_cases ce : R 0 11 - R 0 10 = 1
    · have hlt : R 0 14 = T (R 0 10) := by rw [b5, if_pos ce]
      have hL := b4 (R 0 10) (by omega) (by omega)
      unfold lcL at hL
      have hb : P 2 (R 0 10) = T (R 0 10) := (h1.2.2.2.2 _ q0 (by omega)).1
      obtain ⟨sl, m1, m2, m3⟩ := ev_nam2 (M := P) (c := T (R 0 10)) k0 k1 (by omega) (by omega)
      have hk5 : 5 + ky.toNat < 11 := by omega
      rcases m3 with ⟨m3, m4⟩ | ⟨m3, m4, m5, m6⟩
      · have hi : rM_isName ky (R 0 14) R = some (0, R) := by rw [ev_isName, hlt, m4]; rfl
        refine .inl (bad ?_ ?_)
        · rw [p0_eq, if_neg (show ¬ R 0 12 = 2 by omega), if_pos b2, if_neg (show ¬ R 0 14 = 0 by omega), hi, bI_k, if_pos rfl]
          exact j1_f (by omega) (by omega)
        · unfold pTape_takePart
          rw [if_neg (show ¬ P 1 8 = 3 by omega), if_pos b1, jn_ok, l2, l1, w32_id (z := R 0 11 - R 0 10) (by omega) (by omega), if_pos ce, hk, m1, bS_ok hk5, l1, rd_ok q0 (by omega), hb, m2, bI_k]
          try dsimp only
          rw [if_pos (show sl < 0 by omega)]
      · have hi : rM_isName ky (R 0 14) R = some (1, R) := by rw [ev_isName, hlt, m6]; rfl
        have nb := nn_bd (key := ky)
        obtain ⟨Pv, P', R1, w1, w2, w3, w4, w5⟩ := part_w a0 a1 h0 (w := 10000 + sl) (a := 1) (v := T (R 0 10)) (.inr (.inl ⟨rfl, by omega, by omega, by rw [show 10000 + sl - 10000 = sl by omega]; exact m5.symm⟩)) (by omega) (by omega) (by omega)
        obtain ⟨Pn, Rn, n1', n2', n3'⟩ := adv_o w4.1
        refine .inr ⟨⟨P', S, dd + 1, 0, Pv, _, ?_, ?_, w4, w5⟩, by omega⟩
        · unfold pTape_takePart
          rw [if_neg (show ¬ P 1 8 = 3 by omega), if_pos b1, jn_ok, l2, l1, w32_id (z := R 0 11 - R 0 10) (by omega) (by omega), if_pos ce, hk, m1, bS_ok hk5, l1, rd_ok q0 (by omega), hb, m2, bI_k]
          try dsimp only
          rw [if_neg (show ¬ sl < 0 by omega), w32_id (z := 10000 + sl) (by omega) (by omega), w1, bI_k, if_neg o10]
        · rw [p0_s, p0_eq, if_neg (show ¬ R 0 12 = 2 by omega), if_pos b2, if_neg (show ¬ R 0 14 = 0 by omega), hi, bI_k, if_neg o10, hlt, w2, bV_ok, wf_ok, w3, w32_id (z := R 0 19 + 1) (by omega) (by omega), n2', bV_ok, bV_ok]
          unfold gox
          rw [if_neg (show ¬ (0 : Int) = 1 by omega)]
    · have hlt : R 0 14 = 0 := by rw [b5, if_neg ce]
      refine .inl (bad ?_ ?_)
      · rw [p0_eq, if_neg (show ¬ R 0 12 = 2 by omega), if_pos b2, if_pos hlt]
        exact j1_f (by omega) (by omega)
      · unfold pTape_takePart
        rw [if_neg (show ¬ P 1 8 = 3 by omega), if_pos b1, jn_ok, l2, l1, w32_id (z := R 0 11 - R 0 10) (by omega) (by omega), if_neg ce]
        try dsimp only
        rw [if_pos (show (-1 : Int) < 0 by omega)]
  · have nb := nvl_bd (T := T) (s := R 0 10) (R 0 11 - R 0 10).toNat (fun i i0 i1 => b5 i i0 (by omega))
    have pb : p10 (R 0 11 - R 0 10).toNat ≤ 10000 := by
      have : (R 0 11 - R 0 10).toNat = 0 ∨ (R 0 11 - R 0 10).toNat = 1 ∨ (R 0 11 - R 0 10).toNat = 2 ∨ (R 0 11 - R 0 10).toNat = 3 ∨ (R 0 11 - R 0 10).toNat = 4 := by omega
      rcases this with q | q | q | q | q <;> rw [q] <;> decide
    rw [← b6] at nb
    have hnum : pTape_numberHere P = some (R 0 13, P) := by
      have hh := num_lp h1 q0 l2 q2 b4 b5 FU (R 0 10) (Int.le_refl _) q1 (by unfold FU; omega)
      rw [show R 0 10 - R 0 10 = 0 by omega, ← b6] at hh
      unfold pTape_numberHere
      rw [nm_ok, l1]
      exact hh
    obtain ⟨Pv, P', R1, w1, w2, w3, w4, w5⟩ := part_w a0 a1 h0 (w := R 0 13) (a := 0) (v := R 0 13) (.inl ⟨rfl, rfl, by omega, by omega⟩) (by omega) (by omega) (by omega)
    obtain ⟨Pn, Rn, n1', n2', n3'⟩ := adv_o w4.1
    refine .inr ⟨⟨P', S, dd + 1, 0, Pv, _, ?_, ?_, w4, w5⟩, by omega⟩
    · unfold pTape_takePart
      rw [if_pos b1, l2, l1, w32_id (z := R 0 11 - R 0 10) (by omega) (by omega), if_neg (show ¬ 4 < R 0 11 - R 0 10 by omega), hnum, bI_k, w1, bI_k, if_neg o10]
    · rw [p0_s, p0_eq, if_pos b2, w2, bV_ok, wf_ok, w3, w32_id (z := R 0 19 + 1) (by omega) (by omega), n2', bV_ok, bV_ok]
      unfold gox
      rw [if_neg (show ¬ (0 : Int) = 1 by omega)]
  · refine .inl (bad ?_ ?_)
    · rw [p0_eq, if_neg (show ¬ R 0 12 = 2 by omega), if_neg (show ¬ R 0 12 = 1 by omega)]
      exact j1_f (by omega) (by omega)
    · unfold pTape_takePart
      rw [if_pos b1, l2, l1, w32_id (z := R 0 11 - R 0 10) (by omega) (by omega), if_pos b4]
  · refine .inl (bad ?_ ?_)
    · rw [p0_eq, if_neg (show ¬ R 0 12 = 2 by omega), if_neg (show ¬ R 0 12 = 1 by omega)]
      exact j1_f (by omega) (by omega)
    · unfold pTape_takePart
      rw [if_neg (show ¬ P 1 8 = 3 by omega), if_neg (show ¬ P 1 8 = 2 by omega), if_neg (show ¬ P 1 8 = 1 by omega)]
end
