/-! Texts: the key word, alike on both sides. -/
section
def mtW (T : Int → Int) : List Int → Int → Prop
  | [], _ => True
  | b :: bs, s => T s = b ∧ mtW T bs (s + 1)
def byOK (w u : Nat) (b : Int) : Prop := bChr (bAnd (((sByt.getD w []).getD u 0).toInt) 255) = b ∧ 0 ≤ b ∧ b < 65536
theorem ev_len {w : Nat} {M : Mem} (hw : w < 11) : j_length_8abf5 w M = some (((sLen.getD w 0 : Nat) : Int), M) := by
  obtain ⟨l1, l2, l3⟩ := len_all w hw
  unfold j_length_8abf5 j_coder_7d493
  rw [bI_k, l3]
theorem ev_charAt {w u : Nat} {b : Int} {M : Mem} (hu : u < sLen.getD w 0) (h : byOK w u b) : j_charAt_5068e w (u : Int) M = some (b, M) := by
  obtain ⟨h1, h2, h3⟩ := h
  unfold j_charAt_5068e j_isLatin1_aae02 j_charAt_3b067 j_checkIndex_df160 j_checkIndex_8e157
  rw [bI_k, if_neg (show ¬ (1 : Int) = 0 by omega), jn_ok, if_neg (show ¬ (u : Int) < 0 by omega), if_pos (show (u : Int) < ((sLen.getD w 0 : Nat) : Int) by omega), bI_k, bV_ok]
  unfold rdS
  rw [if_pos (show (0 : Int) ≤ (u : Int) ∧ (u : Int) < ((sLen.getD w 0 : Nat) : Int) by omega), show ((u : Nat) : Int).toNat = u by omega]
  dsimp only
  rw [h1, if_pos (show 0 ≤ b ∧ b < 65536 from ⟨h2, h3⟩), bI_k, if_pos (show 0 ≤ b ∧ b < 65536 from ⟨h2, h3⟩)]
theorem here_lp {T : Int → Int} {z s : Int} {P R : Mem} {w : Nat} (hw : w < 11) (ht : tpQ T z P R) (s0 : 0 ≤ s) (l1 : P 1 6 = s) : ∀ (bs : List Int) (u fu : Nat), u + bs.length = sLen.getD w 0 → (∀ k, k < bs.length → byOK w (u + k) (bs.getD k 0)) → bs.length < fu → s + (u : Nat) + (bs.length : Nat) ≤ z → (mtW T bs (s + (u : Nat)) ∧ lpX8_isHere_20 w fu (u : Nat) P = some (1, P)) ∨ (¬ mtW T bs (s + (u : Nat)) ∧ lpX8_isHere_20 w fu (u : Nat) P = some (0, P))
  | [], u, fu, h1, h2, h3, h4 => by
    have hl : ([] : List Int).length = 0 := rfl
    refine .inl ⟨trivial, ?_⟩
    rw [show fu = (fu - 1) + 1 by omega, lpX8_isHere_20, ev_len hw, bI_k, if_neg (by omega)]
  | b :: bs, u, fu, h1, h2, h3, h4 => by
    rw [List.length_cons] at h1 h3 h4
    have t4 := ht.2.2.2.1
    have hb := h2 0 (by rw [List.length_cons]; omega)
    have hb' : byOK w u b := hb
    have hT := (ht.2.2.2.2 (s + (u : Nat)) (by omega) (by omega)).1
    rw [show fu = (fu - 1) + 1 by omega, lpX8_isHere_20, ev_len hw, bI_k, if_pos (by omega), ev_charAt (by omega) hb', bI_k, l1, w32_id (z := s + (u : Nat)) (by omega) (by omega), rd_ok (by omega) (by omega), hT]
    by_cases c : b = T (s + (u : Nat))
    · rw [if_pos c, nm_ok, w32_id (by omega) (by omega), show ((u : Nat) : Int) + 1 = ((u + 1 : Nat) : Int) by omega]
      have ih := here_lp hw ht s0 l1 bs (u + 1) (fu - 1) (by omega) (fun k hk => by have := h2 (k + 1) (by rw [List.length_cons]; omega); rw [show u + (k + 1) = u + 1 + k by omega] at this; exact this) (by omega) (by omega)
      have hs : s + (u : Nat) + 1 = s + ((u + 1 : Nat) : Int) := by omega
      rcases ih with ⟨i1, i2⟩ | ⟨i1, i2⟩
      · exact .inl ⟨⟨c.symm, by rw [hs]; exact i1⟩, i2⟩
      · exact .inr ⟨fun q => i1 (by rw [← hs]; exact q.2), i2⟩
    · rw [if_neg c]
      exact .inr ⟨fun q => c q.1.symm, rfl⟩
theorem mtW5 {T : Int → Int} {a b c d e s : Int} : mtW T [a, b, c, d, e] s ↔ T s = a ∧ T (s + 1) = b ∧ T (s + 2) = c ∧ T (s + 3) = d ∧ T (s + 4) = e := by
  have e2 : s + 1 + 1 = s + 2 := by omega
  have e3 : s + 2 + 1 = s + 3 := by omega
  have e4 : s + 3 + 1 = s + 4 := by omega
  show (T s = a ∧ T (s + 1) = b ∧ T (s + 1 + 1) = c ∧ T (s + 1 + 1 + 1) = d ∧ T (s + 1 + 1 + 1 + 1) = e ∧ True) ↔ _
  rw [e2, e3, e4]
  exact ⟨fun q => ⟨q.1, q.2.1, q.2.2.1, q.2.2.2.1, q.2.2.2.2.1⟩, fun q => ⟨q.1, q.2.1, q.2.2.1, q.2.2.2.1, q.2.2.2.2, trivial⟩⟩
theorem mtW4 {T : Int → Int} {a b c d s : Int} : mtW T [a, b, c, d] s ↔ T s = a ∧ T (s + 1) = b ∧ T (s + 2) = c ∧ T (s + 3) = d := by
  have e2 : s + 1 + 1 = s + 2 := by omega
  have e3 : s + 2 + 1 = s + 3 := by omega
  show (T s = a ∧ T (s + 1) = b ∧ T (s + 1 + 1) = c ∧ T (s + 1 + 1 + 1) = d ∧ True) ↔ _
  rw [e2, e3]
  exact ⟨fun q => ⟨q.1, q.2.1, q.2.2.1, q.2.2.2.1⟩, fun q => ⟨q.1, q.2.1, q.2.2.1, q.2.2.2, trivial⟩⟩
theorem mtW3 {T : Int → Int} {a b c s : Int} : mtW T [a, b, c] s ↔ T s = a ∧ T (s + 1) = b ∧ T (s + 2) = c := by
  have e2 : s + 1 + 1 = s + 2 := by omega
  show (T s = a ∧ T (s + 1) = b ∧ T (s + 1 + 1) = c ∧ True) ↔ _
  rw [e2]
  exact ⟨fun q => ⟨q.1, q.2.1, q.2.2.1⟩, fun q => ⟨q.1, q.2.1, q.2.2, trivial⟩⟩
theorem here_o {T : Int → Int} {z s e : Int} {P R : Mem} {w : Nat} {bs : List Int} (hw : w < 11) (hl : bs.length = sLen.getD w 0) (hb : ∀ k, k < bs.length → byOK w (0 + k) (bs.getD k 0)) (ht : tpQ T z P R) (s0 : 0 ≤ s) (se : s ≤ e) (he : e ≤ z) (l1 : P 1 6 = s) (l2 : P 1 7 = e) : (e - s = (bs.length : Nat) ∧ mtW T bs s ∧ pTape_isHere w P = some (1, P)) ∨ (¬ (e - s = (bs.length : Nat) ∧ mtW T bs s) ∧ pTape_isHere w P = some (0, P)) := by
  have t4 := ht.2.2.2.1
  have h9 := (len_all w hw).2.1
  unfold pTape_isHere
  rw [ev_len hw, bI_k, l1, l2, w32_id (z := e - s) (by omega) (by omega)]
  by_cases c : e - s = (bs.length : Nat)
  · rw [if_pos (by omega)]
    have hh := here_lp hw ht s0 l1 bs 0 FU (by omega) hb (by unfold FU; omega) (by omega)
    have es : s + ((0 : Nat) : Int) = s := by omega
    rw [es] at hh
    rcases hh with ⟨i1, i2⟩ | ⟨i1, i2⟩
    · exact .inl ⟨c, i1, i2⟩
    · exact .inr ⟨fun q => i1 q.2, i2⟩
  · rw [if_neg (by omega)]
    exact .inr ⟨fun q => c q.1, rfl⟩
/-! the reference -/
def j5K (x5 p4 : Int) (M6 : Mem) : Option (Int × Mem) := if p4 = 0 then some (0, M6) else if x5 = 0 then some (1, M6) else rdA (M6 8) 96 (w32 ((M6 0 10) + 4)) fun v7 => if v7 = x5 then some (1, M6) else some (0, M6)
def watK (x1 x2 x3 x4 x5 p1 : Int) (M3 : Mem) : Option (Int × Mem) :=
    if M3 0 12 = 1 then (
    if w32 ((M3 0 11) - (M3 0 10)) = p1 then (
    rdA (M3 8) 96 (M3 0 10) fun v10 =>
    if v10 = x1 then (
    rdA (M3 8) 96 (w32 ((M3 0 10) + 1)) fun v11 =>
    if v11 = x2 then (
    rdA (M3 8) 96 (w32 ((M3 0 10) + 2)) fun v12 =>
    if v12 = x3 then (
    rdA (M3 8) 96 (w32 ((M3 0 10) + 3)) fun v13 =>
    if v13 = x4 then (
    j5K x5 1 M3) else (
    j5K x5 0 M3)) else (
    j5K x5 0 M3)) else (
    j5K x5 0 M3)) else (
    j5K x5 0 M3)) else (
    j5K x5 0 M3)) else (
    j5K x5 0 M3)
theorem wat_eq {x1 x2 x3 x4 x5 : Int} {M : Mem} : rM_isWordAt x1 x2 x3 x4 x5 M = if x5 = 0 then watK x1 x2 x3 x4 x5 4 M else watK x1 x2 x3 x4 x5 5 M := rfl
theorem j5_0 {x5 : Int} {M : Mem} : j5K x5 0 M = some (0, M) := if_pos rfl
section Wat
variable {T : Int → Int} {z : Int} {P R : Mem} {x1 x2 x3 x4 x5 p1 : Int}
theorem wat_y (ht : tpQ T z P R) (s0 : 0 ≤ R 0 10) (he : R 0 11 ≤ z) (h12 : R 0 12 = 1) (h4 : 4 ≤ p1) (c0 : R 0 11 - R 0 10 = p1) (c1 : T (R 0 10) = x1) (c2 : T (R 0 10 + 1) = x2) (c3 : T (R 0 10 + 2) = x3) (c4 : T (R 0 10 + 3) = x4) : watK x1 x2 x3 x4 x5 p1 R = j5K x5 1 R := by
  have t4 := ht.2.2.2.1
  have t5 := ht.2.2.2.2
  unfold watK
  rw [if_pos h12, w32_id (z := R 0 11 - R 0 10) (by omega) (by omega), if_pos c0, rd_ok s0 (by omega), (t5 _ s0 (by omega)).2, if_pos c1, w32_id (z := R 0 10 + 1) (by omega) (by omega), rd_ok (by omega) (by omega), (t5 (R 0 10 + 1) (by omega) (by omega)).2, if_pos c2, w32_id (z := R 0 10 + 2) (by omega) (by omega), rd_ok (by omega) (by omega), (t5 (R 0 10 + 2) (by omega) (by omega)).2, if_pos c3, w32_id (z := R 0 10 + 3) (by omega) (by omega), rd_ok (by omega) (by omega), (t5 (R 0 10 + 3) (by omega) (by omega)).2, if_pos c4]
theorem wat_n (ht : tpQ T z P R) (s0 : 0 ≤ R 0 10) (he : R 0 11 ≤ z) (se : R 0 10 ≤ R 0 11) (h4 : 4 ≤ p1) (hn : ¬ (R 0 12 = 1 ∧ R 0 11 - R 0 10 = p1 ∧ T (R 0 10) = x1 ∧ T (R 0 10 + 1) = x2 ∧ T (R 0 10 + 2) = x3 ∧ T (R 0 10 + 3) = x4)) : watK x1 x2 x3 x4 x5 p1 R = some (0, R) := by
  have t4 := ht.2.2.2.1
  have t5 := ht.2.2.2.2
  unfold watK
  by_cases h12 : R 0 12 = 1
  · rw [if_pos h12, w32_id (z := R 0 11 - R 0 10) (by omega) (by omega)]
    by_cases c0 : R 0 11 - R 0 10 = p1
    · rw [if_pos c0, rd_ok s0 (by omega), (t5 _ s0 (by omega)).2]
      by_cases c1 : T (R 0 10) = x1
      · rw [if_pos c1, w32_id (z := R 0 10 + 1) (by omega) (by omega), rd_ok (by omega) (by omega), (t5 (R 0 10 + 1) (by omega) (by omega)).2]
        by_cases c2 : T (R 0 10 + 1) = x2
        · rw [if_pos c2, w32_id (z := R 0 10 + 2) (by omega) (by omega), rd_ok (by omega) (by omega), (t5 (R 0 10 + 2) (by omega) (by omega)).2]
          by_cases c3 : T (R 0 10 + 2) = x3
          · rw [if_pos c3, w32_id (z := R 0 10 + 3) (by omega) (by omega), rd_ok (by omega) (by omega), (t5 (R 0 10 + 3) (by omega) (by omega)).2, if_neg (fun c4 => hn ⟨h12, c0, c1, c2, c3, c4⟩), j5_0]
          · rw [if_neg c3, j5_0]
        · rw [if_neg c2, j5_0]
      · rw [if_neg c1, j5_0]
    · rw [if_neg c0, j5_0]
  · rw [if_neg h12, j5_0]
theorem wat5 (ht : tpQ T z P R) (s0 : 0 ≤ R 0 10) (he : R 0 11 ≤ z) (se : R 0 10 ≤ R 0 11) (hx : ¬ x5 = 0) : (R 0 12 = 1 ∧ R 0 11 - R 0 10 = 5 ∧ mtW T [x1, x2, x3, x4, x5] (R 0 10) → rM_isWordAt x1 x2 x3 x4 x5 R = some (1, R)) ∧ (¬ (R 0 12 = 1 ∧ R 0 11 - R 0 10 = 5 ∧ mtW T [x1, x2, x3, x4, x5] (R 0 10)) → rM_isWordAt x1 x2 x3 x4 x5 R = some (0, R)) := by
  have t4 := ht.2.2.2.1
  have t5 := ht.2.2.2.2
  rw [wat_eq, if_neg hx, mtW5]
  refine ⟨fun q => ?_, fun q => ?_⟩
  · obtain ⟨q1, q2, q3, q4, q5, q6, q7⟩ := q
    rw [wat_y ht s0 he q1 (by omega) q2 q3 q4 q5 q6]
    unfold j5K
    rw [if_neg (show ¬ (1 : Int) = 0 by omega), if_neg hx, w32_id (z := R 0 10 + 4) (by omega) (by omega), rd_ok (by omega) (by omega), (t5 (R 0 10 + 4) (by omega) (by omega)).2, if_pos q7]
  · by_cases c : R 0 12 = 1 ∧ R 0 11 - R 0 10 = 5 ∧ T (R 0 10) = x1 ∧ T (R 0 10 + 1) = x2 ∧ T (R 0 10 + 2) = x3 ∧ T (R 0 10 + 3) = x4
    · obtain ⟨q1, q2, q3, q4, q5, q6⟩ := c
      rw [wat_y ht s0 he q1 (by omega) q2 q3 q4 q5 q6]
      unfold j5K
      rw [if_neg (show ¬ (1 : Int) = 0 by omega), if_neg hx, w32_id (z := R 0 10 + 4) (by omega) (by omega), rd_ok (by omega) (by omega), (t5 (R 0 10 + 4) (by omega) (by omega)).2, if_neg (fun q7 => q ⟨q1, q2, q3, q4, q5, q6, q7⟩)]
    · exact wat_n ht s0 he se (by omega) c
theorem wat4 (ht : tpQ T z P R) (s0 : 0 ≤ R 0 10) (he : R 0 11 ≤ z) (se : R 0 10 ≤ R 0 11) : (R 0 12 = 1 ∧ R 0 11 - R 0 10 = 4 ∧ mtW T [x1, x2, x3, x4] (R 0 10) → rM_isWordAt x1 x2 x3 x4 0 R = some (1, R)) ∧ (¬ (R 0 12 = 1 ∧ R 0 11 - R 0 10 = 4 ∧ mtW T [x1, x2, x3, x4] (R 0 10)) → rM_isWordAt x1 x2 x3 x4 0 R = some (0, R)) := by
  rw [wat_eq, if_pos rfl, mtW4]
  refine ⟨fun q => ?_, fun q => ?_⟩
  · obtain ⟨q1, q2, q3, q4, q5, q6⟩ := q
    rw [wat_y ht s0 he q1 (by omega) q2 q3 q4 q5 q6]
    unfold j5K
    rw [if_neg (show ¬ (1 : Int) = 0 by omega), if_pos rfl]
  · exact wat_n ht s0 he se (by omega) q
theorem wat3 (ht : tpQ T z P R) (s0 : 0 ≤ R 0 10) (he : R 0 11 ≤ z) (se : R 0 10 ≤ R 0 11) : (R 0 12 = 1 ∧ R 0 11 - R 0 10 = 3 ∧ mtW T [112, 97, 121] (R 0 10) → rM_isPay R = some (1, R)) ∧ (¬ (R 0 12 = 1 ∧ R 0 11 - R 0 10 = 3 ∧ mtW T [112, 97, 121] (R 0 10)) → rM_isPay R = some (0, R)) := by
  have t4 := ht.2.2.2.1
  have t5 := ht.2.2.2.2
  rw [mtW3]
  unfold rM_isPay
  refine ⟨fun q => ?_, fun q => ?_⟩
  · obtain ⟨h12, c0, c1, c2, c3⟩ := q
    rw [if_pos h12, w32_id (z := R 0 11 - R 0 10) (by omega) (by omega), if_pos c0, rd_ok s0 (by omega), (t5 _ s0 (by omega)).2, if_pos c1, w32_id (z := R 0 10 + 1) (by omega) (by omega), rd_ok (by omega) (by omega), (t5 (R 0 10 + 1) (by omega) (by omega)).2, if_pos c2, w32_id (z := R 0 10 + 2) (by omega) (by omega), rd_ok (by omega) (by omega), (t5 (R 0 10 + 2) (by omega) (by omega)).2, if_pos c3]
  · by_cases h12 : R 0 12 = 1
    · rw [if_pos h12, w32_id (z := R 0 11 - R 0 10) (by omega) (by omega)]
      by_cases c0 : R 0 11 - R 0 10 = 3
      · rw [if_pos c0, rd_ok s0 (by omega), (t5 _ s0 (by omega)).2]
        by_cases c1 : T (R 0 10) = 112
        · rw [if_pos c1, w32_id (z := R 0 10 + 1) (by omega) (by omega), rd_ok (by omega) (by omega), (t5 (R 0 10 + 1) (by omega) (by omega)).2]
          by_cases c2 : T (R 0 10 + 1) = 97
          · rw [if_pos c2, w32_id (z := R 0 10 + 2) (by omega) (by omega), rd_ok (by omega) (by omega), (t5 (R 0 10 + 2) (by omega) (by omega)).2, if_neg (fun c3 => q ⟨h12, c0, c1, c2, c3⟩)]
          · rw [if_neg c2]
        · rw [if_neg c1]
      · rw [if_neg c0]
    · rw [if_neg h12]
end Wat
theorem key_st {fu : Nat} {u : Int} {P : Mem} (u0 : 0 ≤ u) (u4 : u ≤ 4) : lpX8_keyHere_2 (fu + 1) u P = if P 1 8 = 2 then (bnS (pTape_keyWord u P) fun t5 M4 => bnI (pTape_isHere t5 M4) fun v7 M6 => if v7 = 0 then lpX8_keyHere_2 fu (u + 1) M6 else some (u, M6)) else lpX8_keyHere_2 fu (u + 1) P := by
  rw [lpX8_keyHere_2, if_neg (by omega), jn_ok, w32_id (z := u + 1) (by omega) (by omega)]
  rfl
theorem key_no {fu : Nat} {P : Mem} : lpX8_keyHere_2 (fu + 1) 5 P = some (-1000000005, P) := by
  rw [lpX8_keyHere_2, if_pos (by omega)]
theorem by_all : (∀ k, k < ([99, 114, 111, 115, 115] : List Int).length → byOK 0 (0 + k) (([99, 114, 111, 115, 115] : List Int).getD k 0)) ∧ (∀ k, k < ([99, 97, 114, 114, 121] : List Int).length → byOK 1 (0 + k) (([99, 97, 114, 114, 121] : List Int).getD k 0)) ∧ (∀ k, k < ([104, 97, 108, 116] : List Int).length → byOK 2 (0 + k) (([104, 97, 108, 116] : List Int).getD k 0)) ∧ (∀ k, k < ([104, 111, 117, 115, 101] : List Int).length → byOK 3 (0 + k) (([104, 111, 117, 115, 101] : List Int).getD k 0)) ∧ (∀ k, k < ([112, 97, 121] : List Int).length → byOK 4 (0 + k) (([112, 97, 121] : List Int).getD k 0)) := by
  unfold byOK
  decide +kernel
theorem key_one {fu : Nat} {u : Int} {w : Nat} {P : Mem} {b : Int} (u0 : 0 ≤ u) (u4 : u ≤ 4) (h8 : P 1 8 = 2) (hw : pTape_keyWord u P = some (w, P)) (hw2 : w < 11) (hi : pTape_isHere w P = some (b, P)) : lpX8_keyHere_2 (fu + 1) u P = if b = 0 then lpX8_keyHere_2 fu (u + 1) P else some (u, P) := by
  rw [key_st u0 u4, if_pos h8, hw, bS_ok hw2, hi, bI_k]
theorem key_o {T : Int → Int} {z : Int} {P R : Mem} (ht : tpQ T z P R) (hl : LX T z P R) : ∃ k, pTape_keyHere P = some (k, P) ∧ rM_key R = some (if k = -1000000005 then -1 else k, R) ∧ (k = -1000000005 ∨ (0 ≤ k ∧ k ≤ 4 ∧ P 1 8 = 2 ∧ R 0 12 = 1 ∧ R 0 10 < R 0 11)) := by
  obtain ⟨l1, l2, q0, q1, q2, q3⟩ := hl
  have o10 : ¬ (1 : Int) = 0 := by omega
  obtain ⟨y0, y1, y2, y3, y4⟩ := by_all
  have W0 := wat5 (x1 := 99) (x2 := 114) (x3 := 111) (x4 := 115) (x5 := 115) ht q0 q2 q1 (by omega)
  have W1 := wat5 (x1 := 99) (x2 := 97) (x3 := 114) (x4 := 114) (x5 := 121) ht q0 q2 q1 (by omega)
  have W2 := wat4 (x1 := 104) (x2 := 97) (x3 := 108) (x4 := 116) ht q0 q2 q1
  have W3 := wat5 (x1 := 104) (x2 := 111) (x3 := 117) (x4 := 115) (x5 := 101) ht q0 q2 q1 (by omega)
  have W4 := wat3 ht q0 q2 q1
  unfold pTape_keyHere rM_key
  have hF : FU = 999994 + 1 + 1 + 1 + 1 + 1 + 1 := rfl
  rw [hF]
  by_cases c : P 1 8 = 2
  · have c12 : R 0 12 = 1 ∧ R 0 10 < R 0 11 := by
      rcases q3 with ⟨b1, b2, b3, b4⟩ | ⟨b1, b2, b3, b4, b5, b6, b7⟩ | ⟨b1, b2, b3, b4, b5⟩ | ⟨b1, b2, b3, b4, b5, b6⟩ | ⟨b1, b2, b3, b4⟩ | ⟨b1, b2, b3⟩
      · omega
      · omega
      · exact ⟨b2, b3⟩
      · omega
      · omega
      · omega
    obtain ⟨c12, cse⟩ := c12
    have H0 := here_o (w := 0) (bs := [99, 114, 111, 115, 115]) (by omega) rfl y0 ht q0 q1 q2 l1 l2
    have H1 := here_o (w := 1) (bs := [99, 97, 114, 114, 121]) (by omega) rfl y1 ht q0 q1 q2 l1 l2
    have H2 := here_o (w := 2) (bs := [104, 97, 108, 116]) (by omega) rfl y2 ht q0 q1 q2 l1 l2
    have H3 := here_o (w := 3) (bs := [104, 111, 117, 115, 101]) (by omega) rfl y3 ht q0 q1 q2 l1 l2
    have H4 := here_o (w := 4) (bs := [112, 97, 121]) (by omega) rfl y4 ht q0 q1 q2 l1 l2
    rcases H0 with ⟨i1, i2, i3⟩ | ⟨i1, i3⟩
    · rw [key_one (b := 1) (w := 0) (by omega) (by omega) c rfl (by omega) i3, if_neg o10, W0.1 ⟨c12, i1, i2⟩, bI_k, if_neg o10]
      exact ⟨0, rfl, rfl, .inr ⟨by omega, by omega, c, c12, cse⟩⟩
    rw [key_one (b := 0) (w := 0) (by omega) (by omega) c rfl (by omega) i3, if_pos rfl, W0.2 (fun q => i1 q.2), bI_k, if_pos rfl, show (0 : Int) + 1 = 1 by omega]
    rcases H1 with ⟨i1, i2, i3⟩ | ⟨i1, i3⟩
    · rw [key_one (b := 1) (w := 1) (by omega) (by omega) c rfl (by omega) i3, if_neg o10, W1.1 ⟨c12, i1, i2⟩, bI_k, if_neg o10]
      exact ⟨1, rfl, rfl, .inr ⟨by omega, by omega, c, c12, cse⟩⟩
    rw [key_one (b := 0) (w := 1) (by omega) (by omega) c rfl (by omega) i3, if_pos rfl, W1.2 (fun q => i1 q.2), bI_k, if_pos rfl, show (1 : Int) + 1 = 2 by omega]
    rcases H2 with ⟨i1, i2, i3⟩ | ⟨i1, i3⟩
    · rw [key_one (b := 1) (w := 2) (by omega) (by omega) c rfl (by omega) i3, if_neg o10, W2.1 ⟨c12, i1, i2⟩, bI_k, if_neg o10]
      exact ⟨2, rfl, rfl, .inr ⟨by omega, by omega, c, c12, cse⟩⟩
    rw [key_one (b := 0) (w := 2) (by omega) (by omega) c rfl (by omega) i3, if_pos rfl, W2.2 (fun q => i1 q.2), bI_k, if_pos rfl, show (2 : Int) + 1 = 3 by omega]
    rcases H3 with ⟨i1, i2, i3⟩ | ⟨i1, i3⟩
    · rw [key_one (b := 1) (w := 3) (by omega) (by omega) c rfl (by omega) i3, if_neg o10, W3.1 ⟨c12, i1, i2⟩, bI_k, if_neg o10]
      exact ⟨3, rfl, rfl, .inr ⟨by omega, by omega, c, c12, cse⟩⟩
    rw [key_one (b := 0) (w := 3) (by omega) (by omega) c rfl (by omega) i3, if_pos rfl, W3.2 (fun q => i1 q.2), bI_k, if_pos rfl, show (3 : Int) + 1 = 4 by omega]
    rcases H4 with ⟨i1, i2, i3⟩ | ⟨i1, i3⟩
    · rw [key_one (b := 1) (w := 4) (by omega) (by omega) c rfl (by omega) i3, if_neg o10, W4.1 ⟨c12, i1, i2⟩, bI_k, if_neg o10]
      exact ⟨4, rfl, rfl, .inr ⟨by omega, by omega, c, c12, cse⟩⟩
    rw [key_one (b := 0) (w := 4) (by omega) (by omega) c rfl (by omega) i3, if_pos rfl, W4.2 (fun q => i1 q.2), bI_k, if_pos rfl, show (4 : Int) + 1 = 5 by omega, key_no]
    exact ⟨-1000000005, rfl, rfl, .inl rfl⟩
  · have c12 : ¬ R 0 12 = 1 := by omega
    rw [key_st (by omega) (by omega), if_neg c, key_st (by omega) (by omega), if_neg c, key_st (by omega) (by omega), if_neg c, key_st (by omega) (by omega), if_neg c, key_st (by omega) (by omega), if_neg c, show (0 : Int) + 1 + 1 + 1 + 1 + 1 = 5 by omega, key_no, W0.2 (fun q => c12 q.1), bI_k, if_pos rfl, W1.2 (fun q => c12 q.1), bI_k, if_pos rfl, W2.2 (fun q => c12 q.1), bI_k, if_pos rfl, W3.2 (fun q => c12 q.1), bI_k, if_pos rfl, W4.2 (fun q => c12 q.1), bI_k, if_pos rfl]
    exact ⟨-1000000005, rfl, rfl, .inl rfl⟩
end
