/-! Texts: code that grows alike on both sides; signs that come from the held ones to the code. -/
def nBR : List (Int × Nat) → Int
  | [] => 0
  | (w, _) :: S => nBR S + if w = 20010 then 1 else 0
def nNT : List (Int × Nat) → Int
  | [] => 0
  | (w, _) :: S => nNT S + if w = 20009 then 1 else 0
def nOP : List (Int × Nat) → Int
  | [] => 0
  | (w, _) :: S => nOP S + if w ≤ 20008 then 1 else 0
def hdS (P : Mem) : List (Int × Nat) → Prop
  | [] => True
  | (w, _) :: S => P 4 (S.length : Nat) = w ∧ hdS P S
def tlt (j : Nat) : List (Int × Nat) → Prop
  | [] => True
  | (w, _) :: _ => w = 20010 ∨ (20000 ≤ w ∧ w ≤ 20008 ∧ lev w < j)
def vS : List (Int × Nat) → Prop
  | [] => True
  | (w, _) :: S => vS S ∧ (w = 20009 ∨ w = 20010 ∨ (20000 ≤ w ∧ w ≤ 20008 ∧ tlt (lev w) S))
def fuS (e : Int) : List (Int × Nat) → Prop
  | [] => True
  | (_, n) :: S => 1000000 ≤ (n : Int) + e ∧ fuS e S
theorem hdS.cg {P P' : Mem} : ∀ {S : List (Int × Nat)}, hdS P S → (∀ i : Int, 0 ≤ i → i < (S.length : Nat) → P' 4 i = P 4 i) → hdS P' S
  | [], _, _ => trivial
  | (w, n) :: S, h, e => by
    refine ⟨?_, h.2.cg fun i i0 i1 => e i i0 (by rw [List.length_cons]; omega)⟩
    rw [e _ (by omega) (by rw [List.length_cons]; omega)]
    exact h.1
theorem fuS.le {e e' : Int} (h : e ≤ e') : ∀ {S : List (Int × Nat)}, fuS e S → fuS e' S
  | [], _ => trivial
  | (w, n) :: S, q => ⟨by have := q.1; omega, fuS.le h q.2⟩
theorem lev_bd {w : Int} : 1 ≤ lev w ∧ lev w ≤ 5 := by
  unfold lev
  repeat' split
  all_goals omega
def okP (f : Int → Int) (n : Int) : Prop := ∀ j : Nat, (j : Int) < n → 20000 ≤ f j → (f j = 20009 ∧ 1 ≤ dp f j) ∨ 2 ≤ dp f j
def cdQ (ky ad : Int) (P R : Mem) : Prop := P 1 4 = R 0 17 ∧ 0 ≤ R 0 17 ∧ R 0 17 ≤ 96 ∧ R 0 18 = ad ∧ (∀ j, 0 ≤ j → j < R 0 17 → wR ky (P 3 j) (R 1 (ad + 2 * j)) (R 1 (ad + 2 * j + 1))) ∧ okP (P 3) (R 0 17)
def emP (P P' : Mem) : Prop := ∀ a i, ¬ ((a = 1 ∧ i = 4) ∨ a = 3) → P' a i = P a i
def emR (ad : Int) (R R' : Mem) : Prop := ∀ a i, ¬ ((a = 0 ∧ i = 17) ∨ (a = 1 ∧ ad ≤ i ∧ i < ad + 194)) → R' a i = R a i
theorem emit_o {ky ad : Int} {P R : Mem} {w a v : Int} (h : cdQ ky ad P R) (hl : R 0 17 < 96) (hw : wR ky w a v) (hd : 20000 ≤ w → (w = 20009 ∧ 1 ≤ dp (P 3) (R 0 17).toNat) ∨ 2 ≤ dp (P 3) (R 0 17).toNat) (a0 : 1316 ≤ ad) (a1 : ad ≤ 4010) : ∃ P' R', pTape_emit w P = some P' ∧ rM_step a v R = some R' ∧ cdQ ky ad P' R' ∧ R' 0 17 = R 0 17 + 1 ∧ dp (P' 3) (R' 0 17).toNat = (if w < 20000 then dp (P 3) (R 0 17).toNat + 1 else if w = 20009 then dp (P 3) (R 0 17).toNat else dp (P 3) (R 0 17).toNat - 1) ∧ emP P P' ∧ emR ad R R' := by
  obtain ⟨h1, h2, h3, h4, h5, h6⟩ := h
  refine ⟨upM (upM P 1 4 (R 0 17 + 1)) 3 (R 0 17) w, upM (upM (upM R 1 (ad + 2 * R 0 17) a) 1 (ad + 2 * R 0 17 + 1) v) 0 17 (R 0 17 + 1), ?_, ?_, ?_, ?_, ?_, ?_, ?_⟩
  · unfold pTape_emit
    rw [h1, if_pos hl, wf_ok, wr_ok h2 (by omega), w32_id (by omega) (by omega)]
  · unfold rM_step
    rw [h4, w32_id (z := 2 * R 0 17) (by omega) (by omega), w32_id (z := ad + 2 * R 0 17) (by omega) (by omega), wr_ok (by omega) (by omega), up_nk (by omega), up_nk (by omega), h4, w32_id (z := 2 * R 0 17) (by omega) (by omega), w32_id (z := ad + 2 * R 0 17) (by omega) (by omega), w32_id (z := ad + 2 * R 0 17 + 1) (by omega) (by omega), wr_ok (by omega) (by omega), wf_ok, up_nk (by omega), up_nk (by omega), w32_id (z := R 0 17 + 1) (by omega) (by omega)]
  · have e3 : ∀ j : Int, ¬ j = R 0 17 → upM (upM P 1 4 (R 0 17 + 1)) 3 (R 0 17) w 3 j = P 3 j := fun j hj => by rw [up_ni hj, up_nk (by omega)]
    refine ⟨by rw [up_nk (by omega), up_eq rfl rfl, up_eq rfl rfl], by rw [up_eq rfl rfl]; omega, by rw [up_eq rfl rfl]; omega, by rw [up_ni (by omega), up_nk (by omega), up_nk (by omega)]; exact h4, fun j j0 j1 => ?_, fun j j1 hj => ?_⟩
    · rw [up_eq rfl rfl] at j1
      have er : ∀ i, upM (upM (upM R 1 (ad + 2 * R 0 17) a) 1 (ad + 2 * R 0 17 + 1) v) 0 17 (R 0 17 + 1) 1 i = upM (upM R 1 (ad + 2 * R 0 17) a) 1 (ad + 2 * R 0 17 + 1) v 1 i := fun i => up_nk (by omega)
      rw [er, er]
      by_cases c : j = R 0 17
      · rw [up_eq rfl c, c, up_ni (by omega), up_eq rfl rfl, up_eq rfl rfl]
        exact hw
      · rw [e3 j c, up_ni (by omega), up_ni (by omega), up_ni (by omega), up_ni (by omega)]
        exact h5 j j0 (by omega)
    · rw [up_eq rfl rfl] at j1
      have ed : dp (upM (upM P 1 4 (R 0 17 + 1)) 3 (R 0 17) w 3) j = dp (P 3) j := dp_cg fun i hi => e3 i (by omega)
      rw [ed]
      by_cases c : (j : Int) = R 0 17
      · rw [up_eq rfl c] at hj ⊢
        have := hd hj
        rw [show (R 0 17).toNat = j by omega] at this
        exact this
      · rw [e3 j c] at hj ⊢
        exact h6 j (by omega) hj
  · rw [up_eq rfl rfl]
  · have e3 : ∀ j : Int, ¬ j = R 0 17 → upM (upM P 1 4 (R 0 17 + 1)) 3 (R 0 17) w 3 j = P 3 j := fun j hj => by rw [up_ni hj, up_nk (by omega)]
    rw [up_eq rfl rfl, dp_s h2, up_eq rfl rfl, dp_cg (g := P 3) fun i hi => e3 i (by omega)]
  · exact fun a i ha => by rw [upM_ne (by omega), upM_ne (by omega)]
  · exact fun a i ha => by rw [upM_ne (by omega), upM_ne (by omega), upM_ne (by omega)]
/-- the held signs -/
def stQ (S : List (Int × Nat)) (d : Nat) (P R : Mem) : Prop := P 1 10 = (S.length : Nat) ∧ hdS P S ∧ vS S ∧ P 1 11 = nBR S ∧ R 0 15 = nBR S ∧ P 1 12 = nNT S ∧ R 0 16 = nNT S ∧ nBR S ≤ 8 ∧ nNT S ≤ 8 ∧ (d : Int) + nBR S + nNT S = 20
/-- nothing but code and held signs has changed -/
def krP (P P' : Mem) : Prop := ∀ a i, ¬ ((a = 1 ∧ (i = 4 ∨ i = 10 ∨ i = 11 ∨ i = 12)) ∨ a = 3 ∨ a = 4) → P' a i = P a i
def krR (ad : Int) (R R' : Mem) : Prop := ∀ a i, ¬ ((a = 0 ∧ (i = 15 ∨ i = 16 ∨ i = 17)) ∨ (a = 1 ∧ ad ≤ i ∧ i < ad + 194)) → R' a i = R a i
theorem krR.tk {ad : Int} {R R' : Mem} (h : krR ad R R') : tkl R' = tkl R := by
  unfold tkl
  rw [h 0 12 (by omega), h 0 14 (by omega)]
theorem tight_ok : ∀ k : Nat, k < 9 → (stL 2).getD k 0 = (lev (20000 + (k : Int)) : Nat) := by decide
theorem rdT_op {α : Type} {w : Int} {f : Int → Option α} (h0 : 20000 ≤ w) (h1 : w ≤ 20008) : rdT 2 (w32 (w - 20000)) f = f ((lev w : Nat) : Int) := by
  unfold rdT
  rw [w32_id (by omega) (by omega)]
  have hl : ((stL 2).length : Nat) = 10 := by decide
  rw [hl, if_pos (by omega), tight_ok (w - 20000).toNat (by omega), show 20000 + ((w - 20000).toNat : Int) = w by omega]
theorem wR_op {ky w : Int} (h0 : 20000 ≤ w) (h1 : w ≤ 20008) : wR ky w 2 (sg (w - 20000)) := .inr (.inr (.inr ⟨rfl, h0, h1, rfl⟩))
theorem pop_one {ky ad : Int} {S : List (Int × Nat)} {d n : Nat} {w : Int} {P R : Mem} (hc : cdQ ky ad P R) (hs : stQ ((w, n) :: S) d P R) (h0 : 20000 ≤ w) (h1 : w ≤ 20008) (hl : R 0 17 + ((w, n) :: S).length ≤ 96) (hdp : dp (P 3) (R 0 17).toNat = nOP ((w, n) :: S) + 1) (hn : 0 ≤ nOP S) (a0 : 1316 ≤ ad) (a1 : ad ≤ 4010) : ∃ P' R', bnV (pTape_emit w P) (fun M7 => wrF M7 1 10 (w32 ((M7 1 10) - 1)) fun M8 => some M8) = some P' ∧ rM_step 2 (sg (w - 20000)) R = some R' ∧ cdQ ky ad P' R' ∧ stQ S d P' R' ∧ R' 0 17 = R 0 17 + 1 ∧ dp (P' 3) (R' 0 17).toNat = nOP S + 1 ∧ krP P P' ∧ krR ad R R' := by
  obtain ⟨s1, s2, s3, s4, s5, s6, s7, s8, s9, s10⟩ := hs
  have e1 : nOP ((w, n) :: S) = nOP S + 1 := by rw [nOP, if_pos (by omega)]
  have e2 : nBR ((w, n) :: S) = nBR S := by rw [nBR, if_neg (by omega)]; omega
  have e3 : nNT ((w, n) :: S) = nNT S := by rw [nNT, if_neg (by omega)]; omega
  rw [e2] at s4 s5 s8 s10
  rw [e3] at s6 s7 s9 s10
  rw [e1] at hdp
  rw [List.length_cons] at s1 hl
  have c17 := hc.2.1
  obtain ⟨P1, R1, b1, b2, b3, b4, b5, b6, b7⟩ := emit_o hc (by omega) (wR_op h0 h1) (fun _ => .inr (by omega)) a0 a1
  rw [if_neg (by omega), if_neg (by omega)] at b5
  have h10 : P1 1 10 = (S.length : Nat) + 1 := by rw [b6 1 10 (by omega), s1]; omega
  refine ⟨upM P1 1 10 (S.length : Nat), R1, ?_, b2, ?_, ?_, b4, ?_, fun a i ha => by rw [upM_ne (by omega)]; exact b6 a i (by omega), fun a i ha => b7 a i (by omega)⟩
  · rw [b1, bV_ok, wf_ok, h10, w32_id (by omega) (by omega)]
    congr 2
    omega
  · obtain ⟨c1, c2, c3, c4, c5, c6⟩ := b3
    refine ⟨by rw [up_ni (by omega)]; exact c1, c2, c3, c4, fun j j0 j1 => by rw [up_nk (by omega)]; exact c5 j j0 j1, ?_⟩
    have : upM P1 1 10 (S.length : Nat) 3 = P1 3 := up_row (by omega)
    rw [this]
    exact c6
  · exact ⟨up_eq rfl rfl, s2.2.cg fun i i0 i1 => by rw [up_nk (by omega)]; exact b6 4 i (by omega), s3.1, by rw [up_ni (by omega), b6 1 11 (by omega)]; exact s4, by rw [b7 0 15 (by omega)]; exact s5, by rw [up_ni (by omega), b6 1 12 (by omega)]; exact s6, by rw [b7 0 16 (by omega)]; exact s7, s8, s9, s10⟩
  · have : upM P1 1 10 (S.length : Nat) 3 = P1 3 := up_row (by omega)
    rw [this, b5]
    omega
theorem nOP_nn : ∀ (S : List (Int × Nat)), 0 ≤ nOP S
  | [] => Int.le_refl _
  | (w, n) :: S => by
    have := nOP_nn S
    unfold nOP
    split <;> omega
theorem rel_pop {S : List (Int × Nat)} {d n fu : Nat} {w y : Int} {P R P' : Mem} (hs : stQ ((w, n) :: S) d P R) (h0 : 20000 ≤ w) (h1 : w ≤ 20008) (hh : S.length < 96) (hy : y ≤ (lev w : Nat)) (h3 : ¬ (lev w = 3 ∧ y = 3)) (hp : bnV (pTape_emit w P) (fun M7 => wrF M7 1 10 (w32 ((M7 1 10) - 1)) fun M8 => some M8) = some P') : lpX8_release_0 y (fu + 1) P = lpX8_release_0 y fu P' := by
  obtain ⟨s1, s2, _⟩ := hs
  rw [List.length_cons] at s1
  have h4 : P 4 (S.length : Nat) = w := s2.1
  rw [lpX8_release_0, s1, if_pos (by omega), w32_id (by omega) (by omega), show (((S.length + 1 : Nat) : Int) - 1) = (S.length : Nat) by omega, rd_ok (by omega) (by omega), h4, if_neg (by omega), rd_ok (by omega) (by omega), h4, rdT_op h0 h1, if_neg (by omega), jn_ok]
  have key : (rdA (P 4) 96 (w32 ((P 1 10) - 1)) fun v6 => bnV (pTape_emit v6 P) fun M7 => wrF M7 1 10 (w32 ((M7 1 10) - 1)) fun M8 => lpX8_release_0 y fu M8) = lpX8_release_0 y fu P' := by
    rw [s1, w32_id (by omega) (by omega), show (((S.length + 1 : Nat) : Int) - 1) = (S.length : Nat) by omega, rd_ok (by omega) (by omega), h4]
    cases q : pTape_emit w P with
    | none => rw [q] at hp; cases hp
    | some M7 =>
      rw [q, bV_ok, wf_ok] at hp
      rw [bV_ok, wf_ok, Option.some.inj hp]
  by_cases c : ((lev w : Nat) : Int) = 3
  · rw [if_pos c, if_neg (by omega)]
    exact key
  · rw [if_neg c]
    exact key
/-- signs that bind tighter than the one looked at come to the code -/
theorem pop_o {ky ad : Int} {d L : Nat} (a0 : 1316 ≤ ad) (a1 : ad ≤ 4010) : ∀ (S : List (Int × Nat)) (l : Nat) (P R : Mem), cdQ ky ad P R → stQ S d P R → tkl R = L → L ≤ l → l ≤ 5 → tlt (l + 1) S → fuS 96 S → R 0 17 + S.length ≤ 96 → dp (P 3) (R 0 17).toNat = nOP S + 1 → ∃ S' l' P' R', (∀ fu, S.length < fu → ∃ fu', S'.length < fu' ∧ lpX8_release_0 L fu P = lpX8_release_0 L fu' P') ∧ Fx ky S l d (some (1, R)) = Fx ky S' l' d (some (1, R')) ∧ cdQ ky ad P' R' ∧ stQ S' d P' R' ∧ tlt (L + 1) S' ∧ L ≤ l' ∧ l' ≤ 5 ∧ R' 0 17 + S'.length = R 0 17 + S.length ∧ dp (P' 3) (R' 0 17).toNat = nOP S' + 1 ∧ krP P P' ∧ krR ad R R' ∧ (∀ e, fuS e S → fuS e S') ∧ S'.length ≤ S.length ∧ nBR S' = nBR S
  | [], l, P, R, hc, hs, ht, hl, h5, hv, hf, hn, hdp => ⟨[], l, P, R, fun fu hf => ⟨fu, hf, rfl⟩, rfl, hc, hs, trivial, hl, h5, rfl, hdp, fun _ _ _ => rfl, fun _ _ _ => rfl, fun _ h => h, Nat.le_refl _, rfl⟩
  | (w, n) :: S, l, P, R, hc, hs, ht, hl, h5, hv, hf, hn, hdp => by
    have stop : tlt (L + 1) ((w, n) :: S) → ∃ S' l' P' R', (∀ fu, ((w, n) :: S).length < fu → ∃ fu', S'.length < fu' ∧ lpX8_release_0 L fu P = lpX8_release_0 L fu' P') ∧ Fx ky ((w, n) :: S) l d (some (1, R)) = Fx ky S' l' d (some (1, R')) ∧ cdQ ky ad P' R' ∧ stQ S' d P' R' ∧ tlt (L + 1) S' ∧ L ≤ l' ∧ l' ≤ 5 ∧ R' 0 17 + S'.length = R 0 17 + ((w, n) :: S).length ∧ dp (P' 3) (R' 0 17).toNat = nOP S' + 1 ∧ krP P P' ∧ krR ad R R' ∧ (∀ e, fuS e ((w, n) :: S) → fuS e S') ∧ S'.length ≤ ((w, n) :: S).length ∧ nBR S' = nBR ((w, n) :: S) := fun hq => ⟨(w, n) :: S, l, P, R, fun fu hf => ⟨fu, hf, rfl⟩, rfl, hc, hs, hq, hl, h5, rfl, hdp, fun _ _ _ => rfl, fun _ _ _ => rfl, fun _ h => h, Nat.le_refl _, rfl⟩
    rcases hv with hv | ⟨h0, h1, hv⟩
    · exact stop (.inl hv)
    · by_cases c : lev w ≤ L
      · exact stop (.inr ⟨h0, h1, by omega⟩)
      · have lb := lev_bd (w := w)
        have nn0 := nOP_nn S
        have c17 := hc.2.1
        obtain ⟨P1, R1, b1, b2, b3, b4, b5, b6, b7, b8⟩ := pop_one hc hs h0 h1 hn hdp nn0 a0 a1
        rw [List.length_cons] at hn
        have hv2 : tlt (lev w) S := by
          rcases hs.2.2.1.2 with q | q | q
          · omega
          · omega
          · exact q.2.2
        obtain ⟨S', l', P', R', r1, r2, r3, r4, r5, r6, r7, r8, r9, r10, r11, r12, r13, r14⟩ := pop_o (ky := ky) (L := L) a0 a1 S (lev w - 1) P1 R1 b3 b4 (by rw [b8.tk]; exact ht) (by omega) (by omega) (by rw [show lev w - 1 + 1 = lev w by omega]; exact hv2) hf.2 (by omega) b6
        refine ⟨S', l', P', R', fun fu hfu => ?_, ?_, r3, r4, r5, r6, r7, by rw [r8, List.length_cons]; omega, r9, fun a i ha => by rw [r10 a i ha]; exact b7 a i ha, fun a i ha => by rw [r11 a i ha]; exact b8 a i ha, fun e q => r12 e q.2, by rw [List.length_cons]; omega, by rw [r14, nBR, if_neg (by omega)]; omega⟩
        · rw [List.length_cons] at hfu
          obtain ⟨fu2, q1, q2⟩ := r1 (fu - 1) (by omega)
          refine ⟨fu2, q1, ?_⟩
          rw [← q2, ← rel_pop (fu := fu - 1) hs h0 h1 (by omega) (by omega) (by omega) b1, show fu - 1 + 1 = fu by omega]
        · rw [← r2, Fx, if_neg (by omega), if_neg (by omega), chn_pass l h5 (by omega), bI_k]
          have ho : opK d ky (lev w) (sg (w - 20000)) n 1 R = some (1, R1) := by
            unfold opK
            rw [if_neg (show ¬ (1 : Int) = 0 by omega), b2, bV_ok]
            have n1 : n = (n - 1) + 1 := by have := hf.1; omega
            rw [n1]
            exact lp_pass (lev w) (by rw [b8.tk]; omega)
          rw [ho]
