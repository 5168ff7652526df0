/-! Texts: a part is taken. -/
theorem pre_of {T : Int → Int} {z : Int} {P R P' R' : Mem} (ht : tpQ T z P R) (hl : LX T z P R) (hok : (P 1 8 = 2 ∨ P 1 8 = 3) ↔ (R 0 12 = 1 ∨ R 0 12 = 2)) (hs : R 0 10 < R 0 11) (hp : ∀ a i, (a = 1 ∧ (i = 0 ∨ i = 7 ∨ i = 8)) ∨ a = 2 → P' a i = P a i) (hr : ∀ a i, (a = 0 ∧ (i = 9 ∨ i = 11 ∨ i = 12)) ∨ a = 8 → R' a i = R a i) : preQ T z P' R' := by
  obtain ⟨t1, t2, t3, t4, t5⟩ := ht
  obtain ⟨l1, l2, l3⟩ := hl
  have l4 := l3.1
  have l5 := l3.2.2.1
  refine ⟨⟨by rw [hp 1 0 (by omega)]; exact t1, by rw [hr 0 9 (by omega)]; exact t2, t3, t4, fun i i0 i1 => by rw [hp 2 i (by omega), hr 8 i (by omega)]; exact t5 i i0 i1⟩, by rw [hp 1 7 (by omega), hr 0 11 (by omega)]; exact l2, by rw [hr 0 11 (by omega)]; omega, by rw [hr 0 11 (by omega)]; exact l5, ?_, fun _ => by rw [hr 0 11 (by omega)]; omega⟩
  rw [hp 1 8 (by omega), hr 0 12 (by omega)]
  exact hok
section Part
variable {ky ad : Int} {T : Int → Int} {z : Int} {P0 R0 : Mem} {S : List (Int × Nat)} {d : Nat} {P R : Mem}
theorem part_w (a0 : 1316 ≤ ad) (a1 : ad ≤ 4010) (h : prQ ky ad T z P0 R0 S d 1 P R) {w a v : Int} (hw : wR ky w a v) (h2 : w < 20000) (hs : R 0 10 < R 0 11) (hok : (P 1 8 = 2 ∨ P 1 8 = 3) ↔ (R 0 12 = 1 ∨ R 0 12 = 2)) : ∃ Pv P' R1, pTape_addPart w P = some (1, P') ∧ rM_step a v R = some R1 ∧ R1 0 19 = R 0 19 ∧ peQ ky ad T z P0 R0 S d 0 Pv P' (upM R1 0 19 (R 0 19 + 1)) ∧ upM R1 0 19 (R 0 19 + 1) 0 11 = R 0 11 := by
  obtain ⟨h1, hl, hc, hst, hf, hn, hk, h3, h19, h19', h13, hdp, g1, g2⟩ := h
  have hb := hl.2.2.2.2.1
  have hz := h1.2.2.2.1
  have c17 := hc.2.1
  have e3 : upM (upM P 1 3 (R 0 19 + 1)) 1 13 0 3 = P 3 := by rw [up_row (by omega), up_row (by omega)]
  have hc2 : cdQ ky ad (upM (upM P 1 3 (R 0 19 + 1)) 1 13 0) R := hc.cg (by rw [up_ni (by omega), up_ni (by omega)]) (fun i => by rw [e3]) rfl rfl (fun _ => rfl)
  obtain ⟨Pv, R1, b1, b2, b3, b4, b5, b6, b7⟩ := emit_o (w := w) (a := a) (v := v) hc2 (by omega) hw (fun q => by omega) a0 a1
  rw [if_pos h2, e3, hdp] at b5
  have q19 : R1 0 19 = R 0 19 := b7 0 19 (by omega)
  have hc3 : cdQ ky ad Pv (upM R1 0 19 (R 0 19 + 1)) := b3.cg rfl (fun _ => rfl) (by rw [up_ni (by omega)]) (by rw [up_ni (by omega)]) (fun i => by rw [up_nk (by omega)])
  have hs3 : stQ S d Pv (upM R1 0 19 (R 0 19 + 1)) := hst.cg (fun i hi => by rw [b6 1 i (by omega), up_ni (by omega), up_ni (by omega)]) (fun i => by rw [b6 4 i (by omega), up_nk (by omega), up_nk (by omega)]) (by rw [up_ni (by omega)]; exact b7 0 15 (by omega)) (by rw [up_ni (by omega)]; exact b7 0 16 (by omega))
  have f17 : upM R1 0 19 (R 0 19 + 1) 0 17 = R 0 17 + 1 := by rw [up_ni (by omega)]; exact b4
  have f11 : upM R1 0 19 (R 0 19 + 1) 0 11 = R 0 11 := by rw [up_ni (by omega)]; exact b7 0 11 (by omega)
  have f10 : upM R1 0 19 (R 0 19 + 1) 0 10 = R 0 10 := by rw [up_ni (by omega)]; exact b7 0 10 (by omega)
  have fdp : dp (Pv 3) (upM R1 0 19 (R 0 19 + 1) 0 17).toNat = nOP S + 1 := by
    rw [up_ni (by omega), b5]
    omega
  obtain ⟨S', d', P', R', r1, r2, r3, r4, r5, r6, r7, r8, r9, r10⟩ := nots_o a0 a1 S d Pv _ hc3 hs3 (by rw [f17]; omega) fdp
  have rn := r1 FU (by unfold FU; omega)
  have kk : ∀ a i, ¬ ((a = 1 ∧ (i = 3 ∨ i = 4 ∨ i = 10 ∨ i = 11 ∨ i = 12 ∨ i = 13)) ∨ a = 3 ∨ a = 4) → P' a i = P a i := fun a i ha => by rw [r8 a i (by omega), b6 a i (by omega), upM_ne (by omega), upM_ne (by omega)]
  have p3 : P' 1 3 = R 0 19 + 1 := by rw [r8 1 3 (by omega), b6 1 3 (by omega), up_ni (by omega), up_eq rfl rfl]
  have p13 : P' 1 13 = 0 := by rw [r8 1 13 (by omega), b6 1 13 (by omega), up_eq rfl rfl]
  refine ⟨Pv, P', R1, ?_, b2, q19, ⟨?_, hc3, hs3, ?_, ?_, ?_, ?_, ?_, ?_, p13, ?_, ?_, ?_, .inr ⟨rfl, rn⟩⟩, f11⟩
  · unfold pTape_addPart pTape_releaseNots
    rw [wf_ok, h3, w32_id (by omega) (by omega), wf_ok, b1, bV_ok, rn, bV_ok]
  · exact pre_of h1 hl hok hs (fun a i ha => kk a i (by omega)) (fun a i ha => by rw [upM_ne (by omega)]; exact b7 a i (by omega))
  · rw [f11]; exact hf.le (by omega)
  · rw [f17, f11]; omega
  · rw [kk 1 2 (by omega)]; exact hk
  · rw [p3, up_eq rfl rfl]
  · rw [up_eq rfl rfl]; omega
  · rw [up_eq rfl rfl, f11]; omega
  · rw [fdp]; omega
  · exact fun a i ha => by rw [kk a i (by omega)]; exact g1 a i ha
  · exact fun a i ha => by rw [upM_ne (by omega), b7 a i (by omega)]; exact g2 a i ha
/-- a not or a bracket is held -/
theorem part_h (h : prQ ky ad T z P0 R0 S d 1 P R) {w : Int} {i j : Int} (hw : (w = 20009 ∧ i = 12 ∧ j = 16) ∨ (w = 20010 ∧ i = 11 ∧ j = 15)) (hlt : P 1 i < 8) (hs : R 0 10 < R 0 11) (hok : (P 1 8 = 2 ∨ P 1 8 = 3) ↔ (R 0 12 = 1 ∨ R 0 12 = 2)) : ∃ P', pTape_hold w (upM P 1 i (w32 (P 1 i + 1))) = some (1, P') ∧ R 0 j = P 1 i ∧ peQ ky ad T z P0 R0 ((w, 1000000) :: S) (d - 1) 1 P' P' (upM R 0 j (R 0 j + 1)) ∧ upM R 0 j (R 0 j + 1) 0 11 = R 0 11 := by
  obtain ⟨h1, hl, hc, hst, hf, hn, hk, h3, h19, h19', h13, hdp, g1, g2⟩ := h
  have hb := hl.2.2.2.2.1
  have hz := h1.2.2.2.1
  have c17 := hc.2.1
  obtain ⟨s1, s2, s3, s4, s5, s6, s7, s8, s9, s10⟩ := hst
  have n1 := nBR_nn S
  have n2 := nNT_nn S
  have hij : R 0 j = P 1 i := by rcases hw with ⟨_, q1, q2⟩ | ⟨_, q1, q2⟩ <;> subst q1 <;> subst q2 <;> omega
  have hi : (i = 11 ∨ i = 12) ∧ (j = 15 ∨ j = 16) := by omega
  have pb : 0 ≤ P 1 i := by rcases hw with ⟨_, q1, q2⟩ | ⟨_, q1, q2⟩ <;> subst q1 <;> omega
  have e4 : ∀ q : Int, ¬ q = (S.length : Nat) → upM (upM (upM P 1 i (P 1 i + 1)) 1 10 ((S.length : Nat) + 1)) 4 (S.length : Nat) w 4 q = P 4 q := fun q hq => by rw [up_ni hq, up_nk (by omega), up_nk (by omega)]
  have e3 : upM (upM (upM P 1 i (P 1 i + 1)) 1 10 ((S.length : Nat) + 1)) 4 (S.length : Nat) w 3 = P 3 := by rw [up_row (by omega), up_row (by omega), up_row (by omega)]
  have kk : ∀ a k, ¬ ((a = 1 ∧ (k = i ∨ k = 10)) ∨ a = 4) → upM (upM (upM P 1 i (P 1 i + 1)) 1 10 ((S.length : Nat) + 1)) 4 (S.length : Nat) w a k = P a k := fun a k ha => by rw [upM_ne (by omega), upM_ne (by omega), upM_ne (by omega)]
  have rr : ∀ a k, ¬ (a = 0 ∧ k = j) → upM R 0 j (R 0 j + 1) a k = R a k := fun a k ha => upM_ne ha
  refine ⟨upM (upM (upM P 1 i (P 1 i + 1)) 1 10 ((S.length : Nat) + 1)) 4 (S.length : Nat) w, ?_, hij, ⟨?_, ?_, ?_, ?_, ?_, ?_, ?_, ?_, ?_, ?_, ?_, ?_, ?_, .inl ⟨rfl, rfl⟩⟩, rr 0 11 (by omega)⟩
  · unfold pTape_hold
    rw [w32_id (z := P 1 i + 1) (by omega) (by omega), up_ni (by omega), s1, if_pos (by omega), wf_ok, w32_id (by omega) (by omega), wr_ok (by omega) (by omega)]
  · exact pre_of h1 hl hok hs (fun a k ha => kk a k (by omega)) (fun a k ha => rr a k (by omega))
  · exact hc.cg (kk 1 4 (by omega)) (fun k => kk 3 k (by omega)) (rr 0 17 (by omega)) (rr 0 18 (by omega)) (fun k => rr 1 k (by omega))
  · refine ⟨?_, ⟨up_eq rfl rfl, s2.cg fun q q0 q1 => e4 q (by omega)⟩, ⟨s3, by omega⟩, ?_, ?_, ?_, ?_, ?_, ?_, ?_⟩
    · rw [up_nk (by omega), up_eq rfl rfl, List.length_cons]; omega
    · rcases hw with ⟨q0, q1, q2⟩ | ⟨q0, q1, q2⟩ <;> subst q0 <;> subst q1 <;> subst q2
      · rw [kk 1 11 (by omega), nBR, if_neg (by omega)]; omega
      · rw [up_nk (by omega), up_ni (by omega), up_eq rfl rfl, nBR, if_pos rfl]; omega
    · rcases hw with ⟨q0, q1, q2⟩ | ⟨q0, q1, q2⟩ <;> subst q0 <;> subst q1 <;> subst q2
      · rw [rr 0 15 (by omega), nBR, if_neg (by omega)]; omega
      · rw [up_eq rfl rfl, nBR, if_pos rfl]; omega
    · rcases hw with ⟨q0, q1, q2⟩ | ⟨q0, q1, q2⟩ <;> subst q0 <;> subst q1 <;> subst q2
      · rw [up_nk (by omega), up_ni (by omega), up_eq rfl rfl, nNT, if_pos rfl]; omega
      · rw [kk 1 12 (by omega), nNT, if_neg (by omega)]; omega
    · rcases hw with ⟨q0, q1, q2⟩ | ⟨q0, q1, q2⟩ <;> subst q0 <;> subst q1 <;> subst q2
      · rw [up_eq rfl rfl, nNT, if_pos rfl]; omega
      · rw [rr 0 16 (by omega), nNT, if_neg (by omega)]; omega
    · rcases hw with ⟨q0, q1, q2⟩ | ⟨q0, q1, q2⟩ <;> subst q0 <;> subst q1 <;> subst q2
      · rw [nBR, if_neg (by omega)]; omega
      · rw [nBR, if_pos rfl]; omega
    · rcases hw with ⟨q0, q1, q2⟩ | ⟨q0, q1, q2⟩ <;> subst q0 <;> subst q1 <;> subst q2
      · rw [nNT, if_pos rfl]; omega
      · rw [nNT, if_neg (by omega)]; omega
    · rcases hw with ⟨q0, q1, q2⟩ | ⟨q0, q1, q2⟩ <;> subst q0 <;> subst q1 <;> subst q2
      · rw [nBR, if_neg (by omega), nNT, if_pos rfl]; omega
      · rw [nBR, if_pos rfl, nNT, if_neg (by omega)]; omega
  · rw [rr 0 11 (by omega)]
    exact ⟨by omega, hf.le (by omega)⟩
  · rw [rr 0 17 (by omega), rr 0 11 (by omega), List.length_cons]; omega
  · rw [kk 1 2 (by omega)]; exact hk
  · rw [kk 1 3 (by omega), rr 0 19 (by omega)]; exact h3
  · rw [rr 0 19 (by omega)]; exact h19
  · rw [rr 0 19 (by omega), rr 0 11 (by omega)]; omega
  · rw [kk 1 13 (by omega)]; exact h13
  · rw [e3, rr 0 17 (by omega), hdp, nOP, if_neg (by omega)]; omega
  · exact fun a k ha => by rw [kk a k (by omega)]; exact g1 a k ha
  · exact fun a k ha => by rw [rr a k (by omega)]; exact g2 a k ha
end Part
