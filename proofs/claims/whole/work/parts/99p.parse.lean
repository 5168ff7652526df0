/-! Texts: the whole reading, alike on both sides. -/
section
def finK (M14 : Mem) : Option (Int × Mem) := bnI (pTape_release 0 M14) fun _ M15 => some ((-1000000005), M15)
/-- how a reading ends -/
def prsE (ky ad : Int) (P0 R0 : Mem) (A B : Option (Int × Mem)) : Prop :=
  (∃ P R b, A = some (P 1 6, P) ∧ B = some (b, R) ∧ (b = 0 ∨ (b = 1 ∧ ¬ R 0 12 = 0)) ∧ P 1 6 = R 0 10 ∧ 0 ≤ R 0 10 ∧ R 0 10 ≤ 96 ∧ gvP P0 P ∧ gvR ad R0 R) ∨
  (∃ P R, A = some (-1000000005, P) ∧ B = some (1, R) ∧ R 0 12 = 0 ∧ cdQ ky ad P R ∧ P 1 2 = ky ∧ P 1 3 = R 0 19 ∧ dp (P 3) (R 0 17).toNat = 1 ∧ gvP P0 P ∧ gvR ad R0 R)
theorem ps_st {fu : Nat} {u : Int} {P P1 : Mem} (u0 : 0 ≤ u) (u1 : u ≤ 96) (h : pTape_advance P = some P1) : lpX8_parse_68 finK finK (fu + 1) u P = if P1 1 8 = 0 ∧ P1 1 13 = 0 ∧ P1 1 11 = 0 then finK P1 else if P1 1 13 = 0 then (bnI (pTape_takeSign P1) fun v24 M23 => if v24 = 0 then some (M23 1 6, M23) else lpX8_parse_68 finK finK fu (u + 1) M23) else (bnI (pTape_takePart P1) fun v26 M25 => if v26 = 0 then some (M25 1 6, M25) else lpX8_parse_68 finK finK fu (u + 1) M25) := by
  rw [lpX8_parse_68, if_neg (by omega), h, bV_ok, jn_ok, w32_id (z := u + 1) (by omega) (by omega)]
  by_cases c1 : P1 1 8 = 0
  · by_cases c2 : P1 1 13 = 0
    · by_cases c3 : P1 1 11 = 0
      · rw [if_pos c1, if_pos c2, if_pos c3, if_pos (show P1 1 8 = 0 ∧ P1 1 13 = 0 ∧ P1 1 11 = 0 from ⟨c1, c2, c3⟩)]
      · rw [if_pos c1, if_pos c2, if_neg c3, if_neg (show ¬ (P1 1 8 = 0 ∧ P1 1 13 = 0 ∧ P1 1 11 = 0) from fun q => c3 q.2.2)]
        rfl
    · rw [if_pos c1, if_neg c2, if_neg (show ¬ (P1 1 8 = 0 ∧ P1 1 13 = 0 ∧ P1 1 11 = 0) from fun q => c2 q.2.1)]
      rfl
  · rw [if_neg c1, if_neg (show ¬ (P1 1 8 = 0 ∧ P1 1 13 = 0 ∧ P1 1 11 = 0) from fun q => c1 q.1)]
    rfl
theorem loop_o {ky ad : Int} {T : Int → Int} {z : Int} {P0 R0 : Mem} (a0 : 1316 ≤ ad) (a1 : ad ≤ 4010) (k0 : 0 ≤ ky) (k1 : ky ≤ 4) (hT : ∀ i, 0 ≤ i → i < z → 0 ≤ T i ∧ T i ≤ 255) : ∀ (fu : Nat) (u : Int) (S : List (Int × Nat)) (d : Nat) (wn : Int) (Pv P R : Mem), peQ ky ad T z P0 R0 S d wn Pv P R → 0 ≤ u → u ≤ R 0 11 → (z - R 0 11).toNat < fu → prsE ky ad P0 R0 (lpX8_parse_68 finK finK fu u P) (bnV (rM_next R) (gox ky S d wn))
  | 0, u, S, d, wn, Pv, P, R, h, u0, u1, hf => by omega
  | fu + 1, u, S, d, wn, Pv, P, R, h, u0, u1, hf => by
    have hz := h.1.1.2.2.2.1
    have hRz := h.1.2.2.2.1
    obtain ⟨P1, R1, S', d', R2, b1, b2, b3, b4, b5⟩ := it_adv a0 a1 h
    have b13 : P1 1 13 = wn := b3.2.2.2.2.2.2.2.2.2.2.1
    have bl := b3.2.1
    have e0 : 0 ≤ R2 0 10 := bl.2.2.1
    have e1' : R2 0 10 ≤ R2 0 11 := bl.2.2.2.1
    have e2' : R2 0 11 ≤ z := bl.2.2.2.2.1
    rw [ps_st u0 (by omega) b1, b2, bV_ok]
    have step : ∀ A B, (ft1 ad P0 R0 R2 A B ∨ (go1 ky ad T z P0 R0 R2 A B ∧ R2 0 10 < R2 0 11)) → prsE ky ad P0 R0 (bnI A fun v M => if v = 0 then some (M 1 6, M) else lpX8_parse_68 finK finK fu (u + 1) M) B := fun A B hq => by
      rcases hq with ⟨P', R', b, c1, c2, c3, c4, c5, c6, c7⟩ | ⟨⟨P', S2, d2, wn2, Pv2, R', c1, c2, c3, c4⟩, c5⟩
      · rw [c1, bI_k, if_pos rfl, c2]
        exact .inl ⟨P', R', b, rfl, rfl, c3, by rw [c4, c5], by rw [c5]; exact e0, by rw [c5]; omega, c6, c7⟩
      · rw [c1, bI_k, if_neg (show ¬ (1 : Int) = 0 by omega), c2]
        exact loop_o a0 a1 k0 k1 hT fu (u + 1) S2 d2 wn2 Pv2 P' R' c3 (by omega) (by omega) (by omega)
    rcases b5 with ⟨w1, w2, w3, w4⟩ | ⟨w1, w2, w3⟩
    · subst w1 w2 w3 w4
      rw [if_neg (show ¬ (P1 1 8 = 0 ∧ P1 1 13 = 0 ∧ P1 1 11 = 0) by omega), if_neg (show ¬ P1 1 13 = 0 by omega)]
      have hg : gox ky S' d' 1 R2 = Fx ky S' 5 d' (rM_part0 d' ky R2) := if_pos rfl
      rw [hg]
      exact step _ _ (part_o a0 a1 k0 k1 hT b3)
    · subst w1
      have hg : gox ky S d 0 R1 = Fx ky S' 5 d' (some (1, R2)) := by
        unfold gox
        rw [if_neg (show ¬ (0 : Int) = 1 by omega)]
        exact w3
      rw [hg]
      by_cases c : P1 1 8 = 0 ∧ P1 1 11 = 0
      · rw [if_pos (show P1 1 8 = 0 ∧ P1 1 13 = 0 ∧ P1 1 11 = 0 from ⟨c.1, b13, c.2⟩)]
        obtain ⟨P', R', r1, r2, r3, r4, r5, r6, r7, r8, r9, r10, r11⟩ := end_o a0 a1 b3 w2 c.1 c.2
        unfold finK
        rw [r1, bI_k, r2]
        exact .inr ⟨P', R', rfl, rfl, r3, r4, r5, r6, r9, r10, r11⟩
      · rw [if_neg (show ¬ (P1 1 8 = 0 ∧ P1 1 13 = 0 ∧ P1 1 11 = 0) from fun q => c ⟨q.1, q.2.2⟩), if_pos b13]
        exact step _ _ (sign_o a0 a1 hT b3 w2 c)
def gvS (ad : Int) (R R' : Mem) : Prop := ∀ a i, ¬ ((a = 0 ∧ 9 ≤ i ∧ i ≤ 19) ∨ (a = 1 ∧ ad ≤ i ∧ i < ad + 194)) → R' a i = R a i
def prB (p15 v14 : Int) (M17 : Mem) : Option (Int × Mem) :=
    jn (fun (p18 : Int) (M20 : Mem) =>
    wrF M20 0 9 0 fun M21 =>
    if p18 = 0 then (
    some ((-1), M21)) else (
    some (v14, M21))) fun j19 =>
    if p15 = 0 then (
    j19 p15 M17) else (
    bnV (rM_next M17) fun M22 =>
    bnI (rM_either (rM_part0 20) v14 M22) fun v24 M23 =>
    jn (fun (p25 : Int) (M27 : Mem) =>
    j19 p25 M27) fun j26 =>
    jn (fun  (M29 : Mem) =>
    j26 0 M29) fun j28 =>
    if v24 = 0 then (
    j28 M23) else (
    if M23 0 12 = 0 then (
    j26 1 M23) else (
    j28 M23)))
def prA (ad : Int) (M10 : Mem) : Option (Int × Mem) :=
    wrF M10 0 18 ad fun M11 =>
    bnV (rM_next M11) fun M12 =>
    bnI (rM_key M12) fun v14 M13 =>
    if v14 < 0 then (
    prB 0 v14 M13) else (
    prB 1 v14 M13)
def p6R (R : Mem) : Mem := upM (upM (upM (upM (upM (upM R 0 11 0) 0 12 3) 0 15 0) 0 16 0) 0 17 0) 0 19 0
theorem prs_eq {R : Mem} (h0 : 0 ≤ R 1 4) (h1 : R 1 4 ≤ 12) : rM_parse R = prA (if R 1 4 < 12 then 1316 + 200 * R 1 4 else 4010) (p6R R) := by
  have e : ∀ i, p6R R 1 i = R 1 i := fun i => by
    unfold p6R
    rw [up_nk (by omega), up_nk (by omega), up_nk (by omega), up_nk (by omega), up_nk (by omega), up_nk (by omega)]
  have hh : rM_parse R = rdA (p6R R 1) 4210 4 fun v7 => if v7 < 12 then (rdA (p6R R 1) 4210 4 fun v30 => bnI (rM_textAt v30 (p6R R)) fun v32 M31 => prA (w32 (v32 + 6)) M31) else prA 4010 (p6R R) := rfl
  rw [hh, rd_ok (by omega) (by omega), e]
  by_cases c : R 1 4 < 12
  · rw [if_pos c, if_pos c, rd_ok (by omega) (by omega), e, ev_textAt (by omega) (by omega), bI_k, w32_id (by omega) (by omega), show 1310 + 200 * R 1 4 + 6 = 1316 + 200 * R 1 4 by omega]
  · rw [if_neg c, if_neg c]
def p8P (P : Mem) : Mem := upM (upM (upM (upM (upM (upM (upM (upM P 1 7 0) 1 8 0) 1 3 0) 1 4 0) 1 10 0) 1 11 0) 1 12 0) 1 13 1
theorem prsP_eq {P P9 : Mem} {k : Int} (h : pTape_advance (p8P P) = some P9) (hk : pTape_keyHere P9 = some (k, P9)) : pTape_parse P = if k = -1000000005 then some (upM P9 1 2 k 1 6, upM P9 1 2 k) else lpX8_parse_68 finK finK FU 0 (upM P9 1 2 k) := by
  unfold p8P at h
  unfold pTape_parse
  rw [wf_ok, wf_ok, wf_ok, wf_ok, wf_ok, wf_ok, wf_ok, wf_ok, h, bV_ok, hk, bI_k, wf_ok, up_eq rfl rfl, jn_ok]
  by_cases c : k = -1000000005
  · rw [if_pos c, if_pos c]
  · rw [if_neg c, if_neg c]
    rfl
theorem parse_o {P R : Mem} (h0 : 0 ≤ R 1 4) (h1 : R 1 4 ≤ 12) (hP : P 1 0 = R 0 9) (hz0 : 0 ≤ R 0 9) (hz : R 0 9 ≤ 96) (hT : ∀ i, 0 ≤ i → i < R 0 9 → P 2 i = R 8 i ∧ 0 ≤ R 8 i ∧ R 8 i ≤ 255) : ∃ ad, ad = (if R 1 4 < 12 then 1316 + 200 * R 1 4 else 4010) ∧
  ((∃ P' R', pTape_parse P = some (P' 1 6, P') ∧ rM_parse R = some (-1, R') ∧ P' 1 6 = R' 0 10 ∧ 0 ≤ R' 0 10 ∧ R' 0 10 ≤ 96 ∧ R' 0 9 = 0 ∧ gvP P P' ∧ gvS ad R R') ∨
   (∃ ky P' R', 0 ≤ ky ∧ ky ≤ 4 ∧ pTape_parse P = some (-1000000005, P') ∧ rM_parse R = some (ky, R') ∧ R' 0 9 = 0 ∧ cdQ ky ad P' R' ∧ P' 1 2 = ky ∧ P' 1 3 = R' 0 19 ∧ dp (P' 3) (R' 0 17).toNat = 1 ∧ gvP P P' ∧ gvS ad R R')) := by
  obtain ⟨ad, had⟩ : ∃ ad, ad = (if R 1 4 < 12 then 1316 + 200 * R 1 4 else 4010) := ⟨_, rfl⟩
  refine ⟨ad, had, ?_⟩
  have hab : 1316 ≤ ad ∧ ad ≤ 4010 := by
    rw [had]
    by_cases c : R 1 4 < 12
    · rw [if_pos c]; omega
    · rw [if_neg c]; omega
  obtain ⟨a0, a1⟩ := hab
  rw [prs_eq h0 h1, ← had]
  have kP8 : ∀ a i, ¬ (a = 1 ∧ ¬ i = 0) → p8P P a i = P a i := fun a i ha => by
    unfold p8P
    rw [upM_ne (by omega), upM_ne (by omega), upM_ne (by omega), upM_ne (by omega), upM_ne (by omega), upM_ne (by omega), upM_ne (by omega), upM_ne (by omega)]
  have p7 : p8P P 1 7 = 0 := by unfold p8P; rw [up_ni (by omega), up_ni (by omega), up_ni (by omega), up_ni (by omega), up_ni (by omega), up_ni (by omega), up_ni (by omega), up_eq rfl rfl]
  have p8 : p8P P 1 8 = 0 := by unfold p8P; rw [up_ni (by omega), up_ni (by omega), up_ni (by omega), up_ni (by omega), up_ni (by omega), up_ni (by omega), up_eq rfl rfl]
  have p3 : p8P P 1 3 = 0 := by unfold p8P; rw [up_ni (by omega), up_ni (by omega), up_ni (by omega), up_ni (by omega), up_ni (by omega), up_eq rfl rfl]
  have p4 : p8P P 1 4 = 0 := by unfold p8P; rw [up_ni (by omega), up_ni (by omega), up_ni (by omega), up_ni (by omega), up_eq rfl rfl]
  have p10 : p8P P 1 10 = 0 := by unfold p8P; rw [up_ni (by omega), up_ni (by omega), up_ni (by omega), up_eq rfl rfl]
  have p11 : p8P P 1 11 = 0 := by unfold p8P; rw [up_ni (by omega), up_ni (by omega), up_eq rfl rfl]
  have p12 : p8P P 1 12 = 0 := by unfold p8P; rw [up_ni (by omega), up_eq rfl rfl]
  have p13 : p8P P 1 13 = 1 := by unfold p8P; rw [up_eq rfl rfl]
  obtain ⟨R6, hR6⟩ : ∃ R6, R6 = upM (p6R R) 0 18 ad := ⟨_, rfl⟩
  have kR6 : ∀ a i, ¬ (a = 0 ∧ 11 ≤ i ∧ i ≤ 19) → R6 a i = R a i := fun a i ha => by
    rw [hR6]
    unfold p6R
    rw [upM_ne (by omega), upM_ne (by omega), upM_ne (by omega), upM_ne (by omega), upM_ne (by omega), upM_ne (by omega), upM_ne (by omega)]
  have r11 : R6 0 11 = 0 := by rw [hR6]; unfold p6R; rw [up_ni (by omega), up_ni (by omega), up_ni (by omega), up_ni (by omega), up_ni (by omega), up_ni (by omega), up_eq rfl rfl]
  have r12 : R6 0 12 = 3 := by rw [hR6]; unfold p6R; rw [up_ni (by omega), up_ni (by omega), up_ni (by omega), up_ni (by omega), up_ni (by omega), up_eq rfl rfl]
  have r15 : R6 0 15 = 0 := by rw [hR6]; unfold p6R; rw [up_ni (by omega), up_ni (by omega), up_ni (by omega), up_ni (by omega), up_eq rfl rfl]
  have r16 : R6 0 16 = 0 := by rw [hR6]; unfold p6R; rw [up_ni (by omega), up_ni (by omega), up_ni (by omega), up_eq rfl rfl]
  have r17 : R6 0 17 = 0 := by rw [hR6]; unfold p6R; rw [up_ni (by omega), up_ni (by omega), up_eq rfl rfl]
  have r19 : R6 0 19 = 0 := by rw [hR6]; unfold p6R; rw [up_ni (by omega), up_eq rfl rfl]
  have r18 : R6 0 18 = ad := by rw [hR6, up_eq rfl rfl]
  have ht : tpQ (R 8) (R 0 9) (p8P P) R6 := ⟨by rw [kP8 1 0 (by omega)]; exact hP, kR6 0 9 (by omega), hz0, hz, fun i i0 i1 => ⟨by rw [kP8 2 i (by omega)]; exact (hT i i0 i1).1, kR6 8 i (by omega)⟩⟩
  have hpre : preQ (R 8) (R 0 9) (p8P P) R6 := ⟨ht, by rw [p7, r11], by omega, by omega, by omega, fun q => by omega⟩
  obtain ⟨P9, R9, b1, b2, ⟨b3, b4, b5⟩, b6⟩ := adv_o hpre
  have ht9 := ht.kp b4 b5
  obtain ⟨k, c1, c2, c3⟩ := key_o ht9 b3
  have b3' := b3
  obtain ⟨l1, l2, q0, q1, q2, q3⟩ := b3'
  have g2 : gvR ad R6 R9 := fun a i ha => b5 a i (by omega)
  have kS : ∀ R', gvR ad R6 R' → gvS ad R (upM R' 0 9 0) := fun R' hg a i ha => by rw [upM_ne (by omega), hg a i (by omega)]; exact kR6 a i (by omega)
  have hA : prA ad (p6R R) = bnV (rM_next R6) fun M12 => bnI (rM_key M12) fun v14 M13 => if v14 < 0 then prB 0 v14 M13 else prB 1 v14 M13 := by rw [hR6]; rfl
  rw [prsP_eq b1 c1, hA, b2, bV_ok, c2, bI_k]
  by_cases ck : k = -1000000005
  · rw [if_pos ck, if_pos ck, if_pos (show (-1 : Int) < 0 by omega)]
    have hB : prB 0 (-1) R9 = some (-1, upM R9 0 9 0) := rfl
    rw [hB]
    refine .inl ⟨upM P9 1 2 k, upM R9 0 9 0, rfl, rfl, ?_, ?_, ?_, up_eq rfl rfl, ?_, kS R9 g2⟩
    · rw [up_ni (by omega), up_ni (by omega)]; exact l1
    · rw [up_ni (by omega)]; exact q0
    · rw [up_ni (by omega)]; omega
    · exact fun a i ha => by rw [upM_ne (by omega), b4 a i (by omega)]; exact kP8 a i (by omega)
  · rcases c3 with c3 | ⟨k0, k1, k8, k12, kse⟩
    · exact absurd c3 ck
    · rw [if_neg ck, if_neg ck, if_neg (show ¬ k < 0 by omega)]
      have k9 : ∀ a i, ¬ (a = 1 ∧ i = 2) → upM P9 1 2 k a i = P9 a i := fun a i ha => upM_ne ha
      have hpe : peQ k ad (R 8) (R 0 9) (upM P9 1 2 k) R9 [] 20 1 (upM P9 1 2 k) (upM P9 1 2 k) R9 := by
        have z17 : R9 0 17 = 0 := by rw [b5 0 17 (by omega)]; exact r17
        refine ⟨?_, ?_, ?_, trivial, ?_, up_eq rfl rfl, ?_, ?_, ?_, ?_, ?_, fun _ _ _ => rfl, fun _ _ _ => rfl, .inl ⟨rfl, rfl⟩⟩
        · exact pre_of ht9 b3 (by omega) kse (fun a i ha => k9 a i (by omega)) (fun _ _ _ => rfl)
        · refine ⟨by rw [k9 1 4 (by omega), b4 1 4 (by omega), p4, z17], by omega, by omega, by rw [b5 0 18 (by omega)]; exact r18, fun j j0 j1 => by omega, fun j j1 hj => by omega⟩
        · refine ⟨by rw [k9 1 10 (by omega), b4 1 10 (by omega)]; exact p10, trivial, trivial, by rw [k9 1 11 (by omega), b4 1 11 (by omega)]; exact p11, by rw [b5 0 15 (by omega)]; exact r15, by rw [k9 1 12 (by omega), b4 1 12 (by omega)]; exact p12, by rw [b5 0 16 (by omega)]; exact r16, by unfold nBR; omega, by unfold nNT; omega, by unfold nBR nNT; omega⟩
        · have hl : ([] : List (Int × Nat)).length = 0 := rfl
          omega
        · rw [k9 1 3 (by omega), b4 1 3 (by omega), p3, b5 0 19 (by omega), r19]
        · rw [b5 0 19 (by omega), r19]; omega
        · rw [b5 0 19 (by omega), r19]; omega
        · rw [k9 1 13 (by omega), b4 1 13 (by omega)]; exact p13
        · rw [z17]
          rfl
      have hl := loop_o a0 a1 k0 k1 (fun i i0 i1 => (hT i i0 i1).2) FU 0 [] 20 1 _ _ _ hpe (Int.le_refl 0) (by omega) (by unfold FU; omega)
      have gg : ∀ P', gvP (upM P9 1 2 k) P' → gvP P P' := fun P' hg a i ha => by rw [hg a i ha, upM_ne (by omega), b4 a i (by omega)]; exact kP8 a i (by omega)
      have gr : ∀ R', gvR ad R9 R' → gvR ad R6 R' := fun R' hg a i ha => by rw [hg a i ha]; exact g2 a i ha
      obtain ⟨PN, RN, n1, n2, n3⟩ := adv_o hpe.1
      have hg : gox k [] 20 1 RN = rM_either (rM_part0 20) k RN := by
        unfold gox
        rw [if_pos rfl, Fx, either_ch]
      rw [n2, bV_ok, hg] at hl
      have hB : ∀ b R', rM_either (rM_part0 20) k RN = some (b, R') → prB 1 k R9 = if b = 0 then some (-1, upM R' 0 9 0) else if R' 0 12 = 0 then some (k, upM R' 0 9 0) else some (-1, upM R' 0 9 0) := fun b R' hb => by
        unfold prB
        rw [jn_ok, if_neg (show ¬ (1 : Int) = 0 by omega), n2, bV_ok, hb, bI_k, jn_ok, jn_ok]
        rfl
      rcases hl with ⟨P', R', b, x1, x2, x3, x4, x5, x6, x7, x8⟩ | ⟨P', R', x1, x2, x3, x4, x5, x6, x7, x8, x9⟩
      · refine .inl ⟨P', upM R' 0 9 0, x1, ?_, by rw [up_ni (by omega)]; exact x4, by rw [up_ni (by omega)]; exact x5, by rw [up_ni (by omega)]; exact x6, up_eq rfl rfl, gg P' x7, kS R' (gr R' x8)⟩
        rw [hB b R' x2]
        rcases x3 with x3 | ⟨x3, x3'⟩
        · rw [if_pos x3]
        · rw [if_neg (by omega), if_neg x3']
      · refine .inr ⟨k, P', upM R' 0 9 0, k0, k1, x1, ?_, up_eq rfl rfl, ?_, x5, ?_, ?_, gg P' x8, kS R' (gr R' x9)⟩
        · rw [hB 1 R' x2, if_neg (show ¬ (1 : Int) = 0 by omega), if_pos x3]
        · exact x4.cg rfl (fun _ => rfl) (up_ni (by omega)) (up_ni (by omega)) (fun _ => up_nk (by omega))
        · rw [up_ni (by omega)]; exact x6
        · rw [up_ni (by omega)]; exact x7
end
