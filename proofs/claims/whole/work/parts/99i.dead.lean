/-! Texts: words that end the reading; nots; the class's small searches in its constant words. -/
theorem ev_step {ad a v : Int} {R : Mem} (h4 : R 0 18 = ad) (h2 : 0 ≤ R 0 17) (h3 : R 0 17 < 96) (a0 : 1316 ≤ ad) (a1 : ad ≤ 4010) : ∃ R', rM_step a v R = some R' ∧ R' 0 17 = R 0 17 + 1 ∧ emR ad R R' := by
  refine ⟨upM (upM (upM R 1 (ad + 2 * R 0 17) a) 1 (ad + 2 * R 0 17 + 1) v) 0 17 (R 0 17 + 1), ?_, up_eq rfl rfl, fun a i ha => by rw [upM_ne (by omega), upM_ne (by omega), upM_ne (by omega)]⟩
  unfold rM_step
  rw [h4, w32_id (z := 2 * R 0 17) (by omega) (by omega), w32_id (z := ad + 2 * R 0 17) (by omega) (by omega), wr_ok (by omega) (by omega), up_nk (by omega), up_nk (by omega), h4, w32_id (z := 2 * R 0 17) (by omega) (by omega), w32_id (z := ad + 2 * R 0 17) (by omega) (by omega), w32_id (z := ad + 2 * R 0 17 + 1) (by omega) (by omega), wr_ok (by omega) (by omega), wf_ok, up_nk (by omega), up_nk (by omega), w32_id (z := R 0 17 + 1) (by omega) (by omega)]
theorem dead_o {ky ad : Int} {d : Nat} (a0 : 1316 ≤ ad) (a1 : ad ≤ 4010) : ∀ (S : List (Int × Nat)) (l : Nat) (R : Mem), vS S → tlt (l + 1) S → l ≤ 5 → (tkl R = 0 ∨ l < tkl R) → ¬ (R 0 12 = 3 ∧ R 0 14 = 41) → fuS 96 S → R 0 18 = ad → 0 ≤ R 0 17 → R 0 17 + S.length ≤ 96 → ∃ b R', Fx ky S l d (some (1, R)) = some (b, R') ∧ krR ad R R' ∧ (b = 0 ∨ (b = 1 ∧ nBR S = 0))
  | [], l, R, hv, ht, h5, hk, h41, hf, h4, h2, hn => ⟨1, R, by rw [Fx, chn_pass l h5 (by omega)], fun _ _ _ => rfl, .inr ⟨rfl, rfl⟩⟩
  | (w, n) :: S, l, R, hv, ht, h5, hk, h41, hf, h4, h2, hn => by
    rcases ht with ht | ⟨h0, h1, ht⟩
    · refine ⟨0, R, ?_, fun _ _ _ => rfl, .inl rfl⟩
      rw [Fx, if_neg (by omega), if_pos ht, chn_pass l h5 (by omega), bI_k]
      have hb : brK 1 R = some (0, R) := by
        unfold brK
        rw [if_neg (show ¬ (1 : Int) = 0 by omega), ev_isSign, if_neg h41, bI_k, if_pos rfl]
      rw [hb, Fx_f]
    · have lb := lev_bd (w := w)
      rw [List.length_cons] at hn
      obtain ⟨R1, b1, b2, b3⟩ := ev_step (a := 2) (v := sg (w - 20000)) h4 h2 (by omega) a0 a1
      have bk : krR ad R R1 := fun a i ha => b3 a i (by omega)
      have hv2 : tlt (lev w) S := by
        rcases hv.2 with q | q | q
        · omega
        · omega
        · exact q.2.2
      obtain ⟨b, R', r1, r2, r3⟩ := dead_o (ky := ky) (d := d) a0 a1 S (lev w - 1) R1 hv.1 (by rw [show lev w - 1 + 1 = lev w by omega]; exact hv2) (by omega) (by rw [bk.tk]; omega) (by rw [b3 0 12 (by omega), b3 0 14 (by omega)]; exact h41) hf.2 (by rw [b3 0 18 (by omega)]; exact h4) (by omega) (by omega)
      refine ⟨b, R', ?_, fun a i ha => by rw [r2 a i ha]; exact bk a i ha, r3.imp id fun q => ⟨q.1, by rw [nBR, if_neg (by omega)]; omega⟩⟩
      rw [← r1, Fx, if_neg (by omega), if_neg (by omega), chn_pass l h5 (by omega), bI_k]
      have ho : opK d ky (lev w) (sg (w - 20000)) n 1 R = some (1, R1) := by
        unfold opK
        rw [if_neg (show ¬ (1 : Int) = 0 by omega), b1, bV_ok]
        have n1 : n = (n - 1) + 1 := by have := hf.1; omega
        rw [n1]
        exact lp_pass (lev w) (by rw [bk.tk]; omega)
      rw [ho]
theorem nNT_nn : ∀ (S : List (Int × Nat)), 0 ≤ nNT S
  | [] => Int.le_refl _
  | (w, n) :: S => by
    have := nNT_nn S
    unfold nNT
    split <;> omega
theorem nBR_nn : ∀ (S : List (Int × Nat)), 0 ≤ nBR S
  | [] => Int.le_refl _
  | (w, n) :: S => by
    have := nBR_nn S
    unfold nBR
    split <;> omega
/-- a part has ended: the nots ahead of it come to the code -/
theorem nots_o {ky ad : Int} (a0 : 1316 ≤ ad) (a1 : ad ≤ 4010) : ∀ (S : List (Int × Nat)) (d : Nat) (P R : Mem), cdQ ky ad P R → stQ S d P R → R 0 17 + S.length ≤ 96 → dp (P 3) (R 0 17).toNat = nOP S + 1 → ∃ S' d' P' R', (∀ fu, S.length < fu → lpX8_releaseNots_0 fu P = some P') ∧ Fx ky S 5 d (some (1, R)) = Fx ky S' 5 d' (some (1, R')) ∧ cdQ ky ad P' R' ∧ stQ S' d' P' R' ∧ tlt 6 S' ∧ R' 0 17 + S'.length = R 0 17 + S.length ∧ dp (P' 3) (R' 0 17).toNat = nOP S' + 1 ∧ krP P P' ∧ krR ad R R' ∧ (∀ e, fuS e S → fuS e S')
  | [], d, P, R, hc, hs, hn, hdp => by
    refine ⟨[], d, P, R, fun fu hf => ?_, rfl, hc, hs, trivial, rfl, hdp, fun _ _ _ => rfl, fun _ _ _ => rfl, fun _ h => h⟩
    have h1 : P 1 10 = 0 := hs.1
    rw [show fu = (fu - 1) + 1 by have : ([] : List (Int × Nat)).length = 0 := rfl; omega, lpX8_releaseNots_0, h1, if_neg (by omega)]
  | (w, n) :: S, d, P, R, hc, hs, hn, hdp => by
    obtain ⟨s1, s2, s3, s4, s5, s6, s7, s8, s9, s10⟩ := hs
    have c17 := hc.2.1
    have h4 : P 4 (S.length : Nat) = w := s2.1
    rw [List.length_cons] at s1 hn
    by_cases c : w = 20009
    · have e1 : nOP ((w, n) :: S) = nOP S := by rw [nOP, if_neg (by omega)]; omega
      have e2 : nBR ((w, n) :: S) = nBR S := by rw [nBR, if_neg (by omega)]; omega
      have e3 : nNT ((w, n) :: S) = nNT S + 1 := by rw [nNT, if_pos c]
      rw [e2] at s4 s5 s8 s10
      rw [e3] at s6 s7 s9 s10
      rw [e1] at hdp
      have nn0 := nOP_nn S
      have hcR : cdQ ky ad P (upM R 0 16 (nNT S)) := by
        obtain ⟨c1, c2, c3, c4, c5, c6⟩ := hc
        refine ⟨by rw [up_ni (by omega)]; exact c1, by rw [up_ni (by omega)]; exact c2, by rw [up_ni (by omega)]; exact c3, by rw [up_ni (by omega)]; exact c4, fun j j0 j1 => ?_, by rw [up_ni (by omega)]; exact c6⟩
        rw [up_ni (by omega)] at j1
        rw [up_nk (by omega), up_nk (by omega)]
        exact c5 j j0 j1
      have h17 : upM R 0 16 (nNT S) 0 17 = R 0 17 := up_ni (by omega)
      obtain ⟨P1, R1, b1, b2, b3, b4, b5, b6, b7⟩ := emit_o (w := 20009) (a := 2) (v := 33) hcR (by omega) (.inr (.inr (.inl ⟨rfl, rfl, rfl⟩))) (fun _ => .inl ⟨rfl, by rw [h17]; omega⟩) a0 a1
      rw [h17] at b4 b5
      rw [if_neg (by omega), if_pos rfl] at b5
      have h10 : P1 1 10 = (S.length : Nat) + 1 := by rw [b6 1 10 (by omega), s1]; omega
      have h12 : P1 1 12 = nNT S + 1 := by rw [b6 1 12 (by omega)]; exact s6
      have hs2 : stQ S (d + 1) (upM (upM P1 1 10 (S.length : Nat)) 1 12 (nNT S)) R1 := ⟨by rw [up_ni (by omega), up_eq rfl rfl], s2.2.cg fun i i0 i1 => by rw [up_nk (by omega), up_nk (by omega)]; exact b6 4 i (by omega), s3.1, by rw [up_ni (by omega), up_ni (by omega), b6 1 11 (by omega)]; exact s4, by rw [b7 0 15 (by omega), up_ni (by omega)]; exact s5, up_eq rfl rfl, by rw [b7 0 16 (by omega), up_eq rfl rfl], s8, by omega, by omega⟩
      have row3 : upM (upM P1 1 10 (S.length : Nat)) 1 12 (nNT S) 3 = P1 3 := by rw [up_row (by omega), up_row (by omega)]
      have hc2 : cdQ ky ad (upM (upM P1 1 10 (S.length : Nat)) 1 12 (nNT S)) R1 := by
        obtain ⟨c1, c2, c3, c4, c5, c6⟩ := b3
        refine ⟨by rw [up_ni (by omega), up_ni (by omega)]; exact c1, c2, c3, c4, fun j j0 j1 => ?_, by rw [row3]; exact c6⟩
        rw [row3]
        exact c5 j j0 j1
      have nb : 0 ≤ nNT S := nNT_nn S
      obtain ⟨S', d', P', R', r1, r2, r3, r4, r5, r6, r7, r8, r9, r10⟩ := nots_o (ky := ky) a0 a1 S (d + 1) _ R1 hc2 hs2 (by omega) (by rw [row3, b5]; exact hdp)
      refine ⟨S', d', P', R', fun fu hf => ?_, ?_, r3, r4, r5, by rw [r6, List.length_cons]; omega, r7, fun a i ha => by rw [r8 a i ha, upM_ne (by omega), upM_ne (by omega)]; exact b6 a i (by omega), fun a i ha => by rw [r9 a i ha, b7 a i (by omega), upM_ne (by omega)], fun e q => r10 e q.2⟩
      · rw [List.length_cons] at hf
        rw [← r1 (fu - 1) (by omega), show fu = (fu - 1) + 1 by omega, lpX8_releaseNots_0, s1, if_pos (by omega), w32_id (by omega) (by omega), show (((S.length + 1 : Nat) : Int) - 1) = (S.length : Nat) by omega, rd_ok (by omega) (by omega), h4, if_pos c, b1, bV_ok, wf_ok, wf_ok, up_ni (by omega), h10, h12, w32_id (z := nNT S + 1 - 1) (by omega) (by omega), w32_id (z := (S.length : Nat) + 1 - 1) (by omega) (by omega), show nNT S + 1 - 1 = nNT S by omega, show ((S.length : Nat) : Int) + 1 - 1 = (S.length : Nat) by omega]
        rfl
      · rw [← r2, Fx, if_pos c, bI_k]
        have hno : notK 1 R = some (1, R1) := by
          unfold notK
          rw [if_neg (show ¬ (1 : Int) = 0 by omega), wf_ok, s7, w32_id (by omega) (by omega), show nNT S + 1 - 1 = nNT S by omega, b2, bV_ok]
        rw [hno]
    · refine ⟨(w, n) :: S, d, P, R, fun fu hf => ?_, rfl, hc, ⟨by rw [List.length_cons]; exact s1, s2, s3, s4, s5, s6, s7, s8, s9, s10⟩, ?_, rfl, hdp, fun _ _ _ => rfl, fun _ _ _ => rfl, fun _ h => h⟩
      · rw [List.length_cons] at hf
        rw [show fu = (fu - 1) + 1 by omega, lpX8_releaseNots_0, s1, if_pos (by omega), w32_id (by omega) (by omega), show (((S.length + 1 : Nat) : Int) - 1) = (S.length : Nat) by omega, rd_ok (by omega) (by omega), h4, if_neg c]
      · rcases s3.2 with q | q | q
        · exact absurd q c
        · exact .inl q
        · exact .inr ⟨q.1, q.2.1, by have := lev_bd (w := w); omega⟩
