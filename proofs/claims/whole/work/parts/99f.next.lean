/-! Texts: the next word, alike on both sides. -/
def advY (p1 v4 : Int) (M8 : Mem) : Option Mem :=
    wrF M8 1 7 (M8 1 6) fun M9 =>
    wrF M9 1 8 0 fun M10 =>
    if M10 1 6 < M10 1 0 then (
    rdA (M10 2) 96 (M10 1 6) fun v11 =>
    bnI (pTape_sortOf v11 M10) fun v13 M12 =>
    wrF M12 1 8 v13 fun M14 =>
    wrF M14 1 7 (w32 ((M14 1 7) + 1)) fun M15 =>
    if M15 1 8 = 1 then (
    some M15) else (
    lpX8_advance_133 p1 v4 (fun M20 =>
    if p1 = 0 then (
    some M20) else (
    if M20 1 6 = v4 then (
    wrF M20 1 8 4 fun M21 =>
    some M21) else (
    some M20))) FU M15)) else (
    some M10)
def nxtY (p8 : Int) (M10 : Mem) : Option Mem :=
    wrF M10 0 10 (M10 0 11) fun M11 =>
    if M11 0 10 = M11 0 9 then (
    wrF M11 0 12 0 fun M47 =>
    some M47) else (
    bnI (rM_isLetter (M11 0 10) M11) fun v13 M12 =>
    if v13 = 0 then (
    bnI (rM_isDigit (M12 0 10) M12) fun v15 M14 =>
    if v15 = 0 then (
    wrF M14 0 12 3 fun M16 =>
    rdA (M16 8) 96 (M16 0 10) fun v17 =>
    wrF M16 0 14 v17 fun M18 =>
    wrF M18 0 11 (w32 ((M18 0 11) + 1)) fun M19 =>
    some M19) else (
    wrF M14 0 13 0 fun M20 =>
    lpX12_next_214 p8 (fun M29 =>
    jn (fun (p30 : Int) (M32 : Mem) =>
    wrF M32 0 12 p30 fun M33 =>
    some M33) fun j31 =>
    if p8 = 0 then (
    if 4 < w32 ((M29 0 11) - (M29 0 10)) then (
    j31 4 M29) else (
    j31 2 M29)) else (
    j31 4 M29)) FU M20)) else (
    lpX12_next_128 p8 (fun M37 =>
    jn (fun (p38 : Int) (M40 : Mem) =>
    wrF M40 0 12 p38 fun M41 =>
    jn (fun (p42 : Int) (M44 : Mem) =>
    wrF M44 0 14 p42 fun M45 =>
    some M45) fun j43 =>
    if w32 ((M41 0 11) - (M41 0 10)) = 1 then (
    rdA (M41 8) 96 (M41 0 10) fun v46 =>
    j43 v46 M41) else (
    j43 0 M41)) fun j39 =>
    if p8 = 0 then (
    j39 1 M37) else (
    j39 4 M37)) FU M12))
theorem nxt_eq {M : Mem} : rM_next M = if 0 < M 0 11 then (if M 0 12 = 1 then lpX12_next_34 1 (M 0 11) (fun M7 => if (1 : Int) = 0 then nxtY 0 M7 else if M 0 11 = M7 0 11 then nxtY 1 M7 else nxtY 0 M7) FU M else if M 0 12 = 2 then lpX12_next_34 1 (M 0 11) (fun M7 => if (1 : Int) = 0 then nxtY 0 M7 else if M 0 11 = M7 0 11 then nxtY 1 M7 else nxtY 0 M7) FU M else lpX12_next_34 0 (M 0 11) (fun M7 => if (0 : Int) = 0 then nxtY 0 M7 else if M 0 11 = M7 0 11 then nxtY 1 M7 else nxtY 0 M7) FU M) else lpX12_next_34 0 (M 0 11) (fun M7 => if (0 : Int) = 0 then nxtY 0 M7 else if M 0 11 = M7 0 11 then nxtY 1 M7 else nxtY 0 M7) FU M := by
  unfold rM_next nxtY
  simp only [jn_ok, nm_ok, wf_ok]
theorem tok_o {T : Int → Int} {z : Int} {P R P2 R2 : Mem} (ht : tpQ T z P R) {f g v s : Int} (hf : f = 0 ∨ f = 1) (hg : g = if f = 1 ∧ s = v then 1 else 0) (s0 : 0 ≤ s) (s1 : s ≤ z) (hs : s = z ∨ (s < z ∧ ¬ T s = 32)) (h1 : P2 1 6 = s) (h2 : R2 0 11 = s) (f1 : ∀ a i, ¬ (a = 1 ∧ i = 6) → P2 a i = P a i) (f2 : ∀ a i, ¬ (a = 0 ∧ i = 11) → R2 a i = R a i) : O2 (fun q r => (LX T z q r ∧ kpA P q ∧ kpN R r) ∧ q 1 6 = s) (advY f v P2) (nxtY g R2) := by
  have ht0 := ht
  obtain ⟨t1, t2, t3, t4, t5⟩ := ht
  have o10 : ¬ (1 : Int) = 0 := by omega
  have g01 : (g = 0 ∧ ¬ (f = 1 ∧ s = v)) ∨ (g = 1 ∧ f = 1 ∧ s = v) := by
    rw [hg]
    by_cases q : f = 1 ∧ s = v
    · rw [if_pos q]; exact .inr ⟨rfl, q⟩
    · rw [if_neg q]; exact .inl ⟨rfl, q⟩
  unfold advY nxtY
  rw [wf_ok, wf_ok, wf_ok]
  generalize hPA : upM (upM P2 1 7 (P2 1 6)) 1 8 0 = PA
  generalize hRA : upM R2 0 10 (R2 0 11) = RA
  have a6 : PA 1 6 = s := by rw [← hPA, up_ni (by omega), up_ni (by omega)]; exact h1
  have a0 : PA 1 0 = z := by rw [← hPA, up_ni (by omega), up_ni (by omega), f1 1 0 (by omega)]; exact t1
  have a7 : PA 1 7 = s := by rw [← hPA, up_ni (by omega), up_eq rfl rfl]; exact h1
  have a8 : PA 1 8 = 0 := by rw [← hPA, up_eq rfl rfl]
  have aF : kpA P PA := fun a i ha => by rw [← hPA, upM_ne (by omega), upM_ne (by omega)]; exact f1 a i (by omega)
  have b10 : RA 0 10 = s := by rw [← hRA, up_eq rfl rfl]; exact h2
  have b11 : RA 0 11 = s := by rw [← hRA, up_ni (by omega)]; exact h2
  have b9 : RA 0 9 = z := by rw [← hRA, up_ni (by omega), f2 0 9 (by omega)]; exact t2
  have bF : kpN R RA := fun a i ha => by rw [← hRA, upM_ne (by omega)]; exact f2 a i (by omega)
  have htA : tpQ T z PA RA := ht0.kp aF bF
  clear hPA hRA
  rw [a6, a0, b10, b9]
  by_cases c : s = z
  · rw [if_neg (show ¬ s < z by omega), if_pos c, wf_ok]
    refine o2_ret ⟨⟨⟨by rw [up_ni (by omega), b10]; exact a6, by rw [up_ni (by omega), b11]; exact a7, ?_⟩, aF, fun a i ha => by rw [upM_ne (by omega)]; exact bF a i ha⟩, a6⟩
    rw [up_ni (by omega), b10, up_ni (by omega), b11, a8, up_eq rfl rfl]
    exact ⟨s0, Int.le_refl _, s1, .inl ⟨rfl, rfl, c, c⟩⟩
  · have c2 : s < z := by omega
    have pT : PA 2 s = T s := (htA.2.2.2.2 s s0 c2).1
    have rT : RA 8 s = T s := (htA.2.2.2.2 s s0 c2).2
    rw [if_pos c2, if_neg c, rd_ok s0 (by omega), pT, ev_sortOf, bI_k, wf_ok, wf_ok, ev_isLetter htA s0, bI_k, up_ni (M := PA) (by omega), a7, w32_id (z := s + 1) (by omega) (by omega)]
    have fin : ∀ so, ∃ PB, upM (upM PA 1 8 so) 1 7 (s + 1) = PB ∧ PB 1 8 = so ∧ PB 1 7 = s + 1 ∧ PB 1 6 = s ∧ kpA P PB ∧ tpQ T z PB RA := fun so => by
      refine ⟨_, rfl, by rw [up_ni (by omega), up_eq rfl rfl], up_eq rfl rfl, by rw [up_ni (by omega), up_ni (by omega)]; exact a6, fun a i ha => by rw [upM_ne (by omega), upM_ne (by omega)]; exact aF a i ha, ?_⟩
      exact ht0.kp (fun a i ha => by rw [upM_ne (by omega), upM_ne (by omega)]; exact aF a i ha) bF
    by_cases l : 97 ≤ T s ∧ T s ≤ 122
    · obtain ⟨PB, e1, q8, q7, q6, qF, qT⟩ := fin 2
      obtain ⟨e, x1, x2, x3, x4⟩ := run_end (T := T) (z := z) (fun i => lcL (T i)) (fun i => Classical.em _) (z - s).toNat s rfl c2 l
      rw [if_pos l, e1, if_pos (show s < z ∧ 97 ≤ T s ∧ T s ≤ 122 from ⟨c2, l⟩), q8, if_neg (show ¬ (2 : Int) = 1 by omega), if_neg o10]
      refine wl_P (P := PB) (R := RA) (so := 2) (e1 := e) qT s0 ⟨.inl rfl, q8⟩ x2 (fun i i0 i1 => if_pos (x3 i i0 i1)) (x4.imp id fun q w => q (by unfold lcL; by_cases y : 97 ≤ T e ∧ T e ≤ 122; exact y; rw [if_neg y] at w; split at w <;> omega)) (fun P3 k1 k2 => ?_) FU (s + 1) PB (by omega) (by omega) (by unfold FU; omega) q7 (fun _ _ _ => rfl)
      refine wl_R (P := PB) (R := RA) (e1 := e) qT s0 x2 x3 x4 (fun R3 m1 m2 => ?_) FU s RA (by omega) (by omega) (by unfold FU; omega) b11 (fun _ _ _ => rfl)
      simp only [jn_ok, wf_ok]
      have k6 : P3 1 6 = s := by rw [k2 1 6 (by omega)]; exact q6
      have k8 : P3 1 8 = 2 := by rw [k2 1 8 (by omega)]; exact q8
      have kF : kpA P P3 := fun a i ha => by rw [k2 a i (by omega)]; exact qF a i ha
      have m10 : R3 0 10 = s := by rw [m2 0 10 (by omega)]; exact b10
      have mF : kpN R R3 := fun a i ha => by rw [m2 a i (by omega)]; exact bF a i ha
      have m8 : R3 8 s = T s := by rw [m2 8 s (by omega)]; exact rT
      have ll : ∀ tk, ∃ R4, (if w32 (upM R3 0 12 tk 0 11 - upM R3 0 12 tk 0 10) = 1 then rdA (upM R3 0 12 tk 8) 96 (upM R3 0 12 tk 0 10) (fun v46 => some (upM (upM R3 0 12 tk) 0 14 v46)) else some (upM (upM R3 0 12 tk) 0 14 0)) = some R4 ∧ R4 0 10 = s ∧ R4 0 11 = e ∧ R4 0 12 = tk ∧ R4 0 14 = (if e - s = 1 then T s else 0) ∧ kpN R R4 := fun tk => by
        rw [up_ni (by omega), m1, up_ni (by omega), m10, w32_id (z := e - s) (by omega) (by omega)]
        by_cases y : e - s = 1
        · rw [if_pos y, rd_ok s0 (by omega), up_nk (by omega), m8]
          exact ⟨_, rfl, by rw [up_ni (by omega), up_ni (by omega)]; exact m10, by rw [up_ni (by omega), up_ni (by omega)]; exact m1, by rw [up_ni (by omega), up_eq rfl rfl], by rw [up_eq rfl rfl, if_pos y], fun a i ha => by rw [upM_ne (by omega), upM_ne (by omega)]; exact mF a i ha⟩
        · rw [if_neg y]
          exact ⟨_, rfl, by rw [up_ni (by omega), up_ni (by omega)]; exact m10, by rw [up_ni (by omega), up_ni (by omega)]; exact m1, by rw [up_ni (by omega), up_eq rfl rfl], by rw [up_eq rfl rfl, if_neg y], fun a i ha => by rw [upM_ne (by omega), upM_ne (by omega)]; exact mF a i ha⟩
      rcases g01 with ⟨g0, ng⟩ | ⟨g1, f1', sv⟩
      · obtain ⟨R4, n1', n2, n3, n4, n5, n6⟩ := ll 1
        rw [if_pos g0, n1']
        have cl : O2 (fun q r => (LX T z q r ∧ kpA P q ∧ kpN R r) ∧ q 1 6 = s) (some P3) (some R4) := o2_ret ⟨⟨⟨by rw [n2]; exact k6, by rw [n3]; exact k1, by rw [n2, n3, n4, n5, k8]; exact ⟨s0, by omega, x2, .inr (.inr (.inl ⟨rfl, rfl, x1, x3, rfl⟩))⟩⟩, kF, n6⟩, k6⟩
        rcases hf with hf | hf
        · rw [if_pos hf]; exact cl
        · rw [if_neg (by omega), if_neg (show ¬ P3 1 6 = v by rw [k6]; exact fun q => ng ⟨hf, q⟩)]; exact cl
      · obtain ⟨R4, n1', n2, n3, n4, n5, n6⟩ := ll 4
        rw [if_neg (show ¬ g = 0 by omega), n1', if_neg (show ¬ f = 0 by omega), if_pos (show P3 1 6 = v by rw [k6]; exact sv)]
        exact o2_ret ⟨⟨⟨by rw [n2, up_ni (by omega)]; exact k6, by rw [n3, up_ni (by omega)]; exact k1, by rw [n2, n3, n4, up_eq rfl rfl]; exact ⟨s0, by omega, x2, .inr (.inr (.inr (.inr (.inr ⟨rfl, rfl, x1⟩))))⟩⟩, fun a i ha => by rw [upM_ne (by omega)]; exact kF a i ha, n6⟩, by rw [up_ni (by omega)]; exact k6⟩
    · rw [if_neg l, if_neg (show ¬ (s < z ∧ 97 ≤ T s ∧ T s ≤ 122) from fun q => l q.2), if_pos rfl, b10, ev_isDigit htA s0, bI_k]
      by_cases dg : 48 ≤ T s ∧ T s ≤ 57
      · obtain ⟨PB, e1, q8, q7, q6, qF, qT⟩ := fin 3
        obtain ⟨e, x1, x2, x3, x4⟩ := run_end (T := T) (z := z) (fun i => lcD (T i)) (fun i => Classical.em _) (z - s).toNat s rfl c2 dg
        have nb : ∀ i, lcD (T i) → (if 97 ≤ T i ∧ T i ≤ 122 then (2 : Int) else if 48 ≤ T i ∧ T i ≤ 57 then 3 else 1) = 3 := fun i hi => by
          unfold lcD at hi
          rw [if_neg (by omega), if_pos hi]
        rw [if_pos dg, e1, if_pos (show s < z ∧ 48 ≤ T s ∧ T s ≤ 57 from ⟨c2, dg⟩), q8, if_neg (show ¬ (3 : Int) = 1 by omega), if_neg o10, wf_ok]
        refine wl_P (P := PB) (R := RA) (so := 3) (e1 := e) qT s0 ⟨.inr rfl, q8⟩ x2 (fun i i0 i1 => nb i (x3 i i0 i1)) (x4.imp id fun q w => q (by unfold lcD; by_cases y : 48 ≤ T e ∧ T e ≤ 57; exact y; rw [if_neg y] at w; split at w <;> omega)) (fun P3 k1 k2 => ?_) FU (s + 1) PB (by omega) (by omega) (by unfold FU; omega) q7 (fun _ _ _ => rfl)
        refine wd_R (P := PB) (R := upM RA 0 13 0) (e1 := e) (qT.kp (fun _ _ _ => rfl) (fun a i ha => upM_ne (by omega))) s0 x2 (by rw [up_ni (by omega)]; exact b10) x3 x4 (fun R3 m1 mv m2 => ?_) FU s (upM RA 0 13 0) (by omega) (by omega) (by unfold FU; omega) (by rw [up_ni (by omega)]; exact b11) (fun _ => by rw [up_eq rfl rfl, show s - s = 0 by omega]; rfl) (fun _ _ _ => rfl)
        simp only [jn_ok, wf_ok]
        have k6 : P3 1 6 = s := by rw [k2 1 6 (by omega)]; exact q6
        have k8 : P3 1 8 = 3 := by rw [k2 1 8 (by omega)]; exact q8
        have kF : kpA P P3 := fun a i ha => by rw [k2 a i (by omega)]; exact qF a i ha
        have m10 : R3 0 10 = s := by rw [m2 0 10 (by omega), up_ni (by omega)]; exact b10
        have mF : ∀ tk, kpN R (upM R3 0 12 tk) := fun tk a i ha => by rw [upM_ne (by omega), m2 a i (by omega), upM_ne (by omega)]; exact bF a i ha
        have lx : ∀ q tk, q 1 6 = s → q 1 7 = e → ((q 1 8 = 3 ∧ tk = 2 ∧ e - s ≤ 4) ∨ (q 1 8 = 3 ∧ tk = 4 ∧ 4 < e - s) ∨ (q 1 8 = 4 ∧ tk = 4)) → kpA P q → ((LX T z q (upM R3 0 12 tk) ∧ kpA P q ∧ kpN R (upM R3 0 12 tk)) ∧ q 1 6 = s) := fun q tk u1 u2 u3 u4 => by
          refine ⟨⟨⟨by rw [up_ni (by omega), m10]; exact u1, by rw [up_ni (by omega), m1]; exact u2, ?_⟩, u4, mF tk⟩, u1⟩
          rw [up_ni (by omega), m10, up_ni (by omega), m1, up_eq rfl rfl, up_ni (by omega), up_ni (by omega)]
          refine ⟨s0, by omega, x2, ?_⟩
          rcases u3 with ⟨w1, w2, w3⟩ | ⟨w1, w2, w3⟩ | ⟨w1, w2⟩
          · exact .inr (.inr (.inr (.inl ⟨w1, w2, x1, w3, x3, mv w3⟩)))
          · exact .inr (.inr (.inr (.inr (.inl ⟨w1, w2, x1, w3⟩))))
          · exact .inr (.inr (.inr (.inr (.inr ⟨w1, w2, x1⟩))))
        rcases g01 with ⟨g0, ng⟩ | ⟨g1, f1', sv⟩
        · rw [if_pos g0, m1, m10, w32_id (z := e - s) (by omega) (by omega)]
          have cl : O2 (fun q r => (LX T z q r ∧ kpA P q ∧ kpN R r) ∧ q 1 6 = s) (some P3) (if 4 < e - s then some (upM R3 0 12 4) else some (upM R3 0 12 2)) := by
            by_cases y : 4 < e - s
            · rw [if_pos y]
              exact o2_ret (lx P3 4 k6 k1 (.inr (.inl ⟨k8, rfl, y⟩)) kF)
            · rw [if_neg y]
              exact o2_ret (lx P3 2 k6 k1 (.inl ⟨k8, rfl, by omega⟩) kF)
          rcases hf with hf | hf
          · rw [if_pos hf]; exact cl
          · rw [if_neg (show ¬ f = 0 by omega), if_neg (show ¬ P3 1 6 = v by rw [k6]; exact fun q => ng ⟨hf, q⟩)]; exact cl
        · rw [if_neg (show ¬ g = 0 by omega), if_neg (show ¬ f = 0 by omega), if_pos (show P3 1 6 = v by rw [k6]; exact sv)]
          exact o2_ret (lx (upM P3 1 8 4) 4 (by rw [up_ni (by omega)]; exact k6) (by rw [up_ni (by omega)]; exact k1) (.inr (.inr ⟨up_eq rfl rfl, rfl⟩)) (fun a i ha => by rw [upM_ne (by omega)]; exact kF a i ha))
      · obtain ⟨PB, e1, q8, q7, q6, qF, qT⟩ := fin 1
        rw [if_neg dg, e1, if_neg (show ¬ (s < z ∧ 48 ≤ T s ∧ T s ≤ 57) from fun q => dg q.2), if_pos rfl, q8, if_pos rfl]
        simp only [wf_ok]
        have z10 : upM RA 0 12 3 0 10 = s := by rw [up_ni (by omega)]; exact b10
        have z8 : upM RA 0 12 3 8 s = T s := by rw [up_nk (by omega)]; exact rT
        have z11 : ∀ w, upM (upM RA 0 12 3) 0 14 w 0 11 = s := fun w => by rw [up_ni (by omega), up_ni (by omega)]; exact b11
        rw [z10, rd_ok s0 (by omega), z8, z11, w32_id (z := s + 1) (by omega) (by omega)]
        refine o2_ret ⟨⟨⟨?_, ?_, ?_⟩, qF, fun a i ha => by rw [upM_ne (by omega), upM_ne (by omega), upM_ne (by omega)]; exact bF a i ha⟩, q6⟩
        · rw [up_ni (by omega), up_ni (by omega), up_ni (by omega), b10]; exact q6
        · rw [up_eq rfl rfl]; exact q7
        · rw [up_ni (by omega), up_ni (by omega), up_ni (by omega), b10, up_eq rfl rfl, q8, up_ni (i := 11) (j := 12) (by omega), up_ni (i := 14) (j := 12) (by omega), up_eq rfl rfl, up_ni (i := 11) (j := 14) (by omega), up_eq rfl rfl]
          exact ⟨s0, by omega, by omega, .inr (.inl ⟨rfl, rfl, c2, rfl, rfl, l, dg⟩)⟩
theorem adv_o {T : Int → Int} {z : Int} {P R : Mem} (h : preQ T z P R) : O2 (fun q r => (LX T z q r ∧ kpA P q ∧ kpN R r) ∧ R 0 11 ≤ q 1 6) (pTape_advance P) (rM_next R) := by
  obtain ⟨ht, h7, e0, e1, hw, hw0⟩ := h
  have z1 : (1 : Int) = 1 := rfl
  have o10 : ¬ (1 : Int) = 0 := by omega
  unfold pTape_advance
  rw [nxt_eq, jn_ok, jn_ok]
  by_cases c : R 0 12 = 1 ∨ R 0 12 = 2
  · rw [if_pos (hw0 c)]
    have rr : (if R 0 12 = 1 then lpX12_next_34 1 (R 0 11) (fun M7 => if (1 : Int) = 0 then nxtY 0 M7 else if R 0 11 = M7 0 11 then nxtY 1 M7 else nxtY 0 M7) FU R else if R 0 12 = 2 then lpX12_next_34 1 (R 0 11) (fun M7 => if (1 : Int) = 0 then nxtY 0 M7 else if R 0 11 = M7 0 11 then nxtY 1 M7 else nxtY 0 M7) FU R else lpX12_next_34 0 (R 0 11) (fun M7 => if (0 : Int) = 0 then nxtY 0 M7 else if R 0 11 = M7 0 11 then nxtY 1 M7 else nxtY 0 M7) FU R) = lpX12_next_34 1 (R 0 11) (fun M7 => if (1 : Int) = 0 then nxtY 0 M7 else if R 0 11 = M7 0 11 then nxtY 1 M7 else nxtY 0 M7) FU R := by
      rcases c with x | x
      · rw [if_pos x]
      · rw [if_neg (show ¬ R 0 12 = 1 by omega), if_pos x]
    rw [rr]
    have fin : ∀ s P2 R2, R 0 11 ≤ s → s ≤ z → (s = z ∨ (s < z ∧ ¬ T s = 32)) → P2 1 6 = s → R2 0 11 = s → (∀ a i, ¬ (a = 1 ∧ i = 6) → P2 a i = P a i) → (∀ a i, ¬ (a = 0 ∧ i = 11) → R2 a i = R a i) → O2 (fun q r => (LX T z q r ∧ kpA P q ∧ kpN R r) ∧ R 0 11 ≤ q 1 6) (advY 1 (P 1 7) P2) (if (1 : Int) = 0 then nxtY 0 R2 else if R 0 11 = R2 0 11 then nxtY 1 R2 else nxtY 0 R2) := fun s P2 R2 s0 s1 hs h1 h2 f1 f2 => by
      rw [if_neg o10, h2]
      by_cases d : R 0 11 = s
      · rw [if_pos d]
        exact (tok_o ht (.inr rfl) (by rw [if_pos ⟨rfl, by omega⟩]) (by omega) s1 hs h1 h2 f1 f2).mono fun q r hx => ⟨hx.1, by rw [hx.2]; exact s0⟩
      · rw [if_neg d]
        exact (tok_o ht (.inr rfl) (by rw [if_neg (fun q => d (by omega))]) (by omega) s1 hs h1 h2 f1 f2).mono fun q r hx => ⟨hx.1, by rw [hx.2]; exact s0⟩
    rcases hw.mpr c with d | d
    · rw [if_pos d]
      dsimp only
      rw [nm_ok, wf_ok]
      exact sk_o ht (e := R 0 11) e0 fin FU (R 0 11) _ R (by omega) e1 (by have := ht.2.2.2.1; unfold FU; omega) (by rw [up_eq rfl rfl]; exact h7) rfl (fun a i ha => upM_ne ha) (fun _ _ _ => rfl)
    · rw [if_neg (show ¬ P 1 8 = 2 by omega), if_pos d]
      dsimp only
      rw [nm_ok, wf_ok]
      exact sk_o ht (e := R 0 11) e0 fin FU (R 0 11) _ R (by omega) e1 (by have := ht.2.2.2.1; unfold FU; omega) (by rw [up_eq rfl rfl]; exact h7) rfl (fun a i ha => upM_ne ha) (fun _ _ _ => rfl)
  · have nc : ¬ (P 1 8 = 2 ∨ P 1 8 = 3) := fun q => c (hw.mp q)
    have rr : (if 0 < R 0 11 then (if R 0 12 = 1 then lpX12_next_34 1 (R 0 11) (fun M7 => if (1 : Int) = 0 then nxtY 0 M7 else if R 0 11 = M7 0 11 then nxtY 1 M7 else nxtY 0 M7) FU R else if R 0 12 = 2 then lpX12_next_34 1 (R 0 11) (fun M7 => if (1 : Int) = 0 then nxtY 0 M7 else if R 0 11 = M7 0 11 then nxtY 1 M7 else nxtY 0 M7) FU R else lpX12_next_34 0 (R 0 11) (fun M7 => if (0 : Int) = 0 then nxtY 0 M7 else if R 0 11 = M7 0 11 then nxtY 1 M7 else nxtY 0 M7) FU R) else lpX12_next_34 0 (R 0 11) (fun M7 => if (0 : Int) = 0 then nxtY 0 M7 else if R 0 11 = M7 0 11 then nxtY 1 M7 else nxtY 0 M7) FU R) = lpX12_next_34 0 (R 0 11) (fun M7 => if (0 : Int) = 0 then nxtY 0 M7 else if R 0 11 = M7 0 11 then nxtY 1 M7 else nxtY 0 M7) FU R := by
      by_cases d : 0 < R 0 11
      · rw [if_pos d, if_neg (show ¬ R 0 12 = 1 from fun q => c (.inl q)), if_neg (show ¬ R 0 12 = 2 from fun q => c (.inr q))]
      · rw [if_neg d]
    rw [rr, if_neg (show ¬ P 1 8 = 2 from fun q => nc (.inl q)), if_neg (show ¬ P 1 8 = 3 from fun q => nc (.inr q))]
    dsimp only
    rw [nm_ok, wf_ok]
    have fin : ∀ s P2 R2, R 0 11 ≤ s → s ≤ z → (s = z ∨ (s < z ∧ ¬ T s = 32)) → P2 1 6 = s → R2 0 11 = s → (∀ a i, ¬ (a = 1 ∧ i = 6) → P2 a i = P a i) → (∀ a i, ¬ (a = 0 ∧ i = 11) → R2 a i = R a i) → O2 (fun q r => (LX T z q r ∧ kpA P q ∧ kpN R r) ∧ R 0 11 ≤ q 1 6) (advY 0 (P 1 7) P2) (if (0 : Int) = 0 then nxtY 0 R2 else if R 0 11 = R2 0 11 then nxtY 1 R2 else nxtY 0 R2) := fun s P2 R2 s0 s1 hs h1 h2 f1 f2 => by
      rw [if_pos rfl]
      exact (tok_o ht (.inl rfl) (by rw [if_neg (fun q => by omega)]) (by omega) s1 hs h1 h2 f1 f2).mono fun q r hx => ⟨hx.1, by rw [hx.2]; exact s0⟩
    exact sk_o ht (e := R 0 11) e0 fin FU (R 0 11) _ R (by omega) e1 (by have := ht.2.2.2.1; unfold FU; omega) (by rw [up_eq rfl rfl]; exact h7) rfl (fun a i ha => upM_ne ha) (fun _ _ _ => rfl)
