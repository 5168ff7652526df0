/-! Call: unlike. -/
theorem stk_cg {f g g' : Int → Int} : ∀ {n : Nat}, (∀ j : Nat, j < n → 10000 ≤ f j → f j < 20000 → g (f j - 10000) = g' (f j - 10000)) → stk f g n = stk f g' n
  | 0, _ => rfl
  | n + 1, h => by
    have ih := stk_cg (f := f) (g := g) (g' := g') (n := n) (fun j hj => h j (by omega))
    rw [stk, stk, ih]
    by_cases c : f n < 10000
    · rw [if_pos c, if_pos c]
    · rw [if_neg c, if_neg c]
      by_cases d : f n < 20000
      · rw [if_pos d, if_pos d, h n (by omega) (by omega) d]
      · rw [if_neg d, if_neg d]
def nom (P R : Mem) (t s : Int) : Prop := ∀ j, 0 ≤ j → j < R 1 (1315 + 200 * t) → ¬ P 144 (96 * t + j) = 10000 + s
theorem vOf_cg {P R : Mem} {t s : Int} {g g' : Int → Int} (h : nom P R t s) (hg : ∀ z, ¬ z = s → g z = g' z) : vOf P R t g = vOf P R t g' := by
  unfold vOf
  rw [stk_cg (g' := g') fun j hj _ _ => hg _ fun q => h j (by omega) (by omega) (by omega)]
def dfa (P R : Mem) (t t' d : Int) (a p k : Int) : Bool := decide (vOf P R t (g4 a p k d) = 0) != decide (vOf P R t' (g4 a p k d) = 0)
theorem dfa_0 {P R : Mem} {t t' d : Int} (h : nom P R t 0) (h' : nom P R t' 0) (a p k : Int) : dfa P R t t' d a p k = dfa P R t t' d 0 p k := by
  unfold dfa
  rw [vOf_cg (g' := g4 0 p k d) h (fun z hz => by unfold g4; rw [if_neg hz, if_neg hz]), vOf_cg (g' := g4 0 p k d) h' (fun z hz => by unfold g4; rw [if_neg hz, if_neg hz])]
theorem dfa_1 {P R : Mem} {t t' d : Int} (h : nom P R t 1) (h' : nom P R t' 1) (a p k : Int) : dfa P R t t' d a p k = dfa P R t t' d a 0 k := by
  unfold dfa
  rw [vOf_cg (g' := g4 a 0 k d) h (fun z hz => by unfold g4; rw [if_neg hz, if_neg hz]), vOf_cg (g' := g4 a 0 k d) h' (fun z hz => by unfold g4; rw [if_neg hz, if_neg hz])]
theorem dfa_2 {P R : Mem} {t t' d : Int} (h : nom P R t 2) (h' : nom P R t' 2) (a p k : Int) : dfa P R t t' d a p k = dfa P R t t' d a p 0 := by
  unfold dfa
  rw [vOf_cg (g' := g4 a p 0 d) h (fun z hz => by unfold g4; rw [if_neg hz, if_neg hz]), vOf_cg (g' := g4 a p 0 d) h' (fun z hz => by unfold g4; rw [if_neg hz, if_neg hz])]
theorem ment_lp {N : Int} {P R : Mem} (h : Sim N P R) {t s : Int} (t0 : 0 ≤ t) (t1 : t < R 1 4) (s0 : 0 ≤ s) (s1 : s < 4) : ∀ (fu : Nat) (u : Int), 0 ≤ u → u ≤ R 1 (1315 + 200 * t) → (R 1 (1315 + 200 * t) - u).toNat < fu → ∃ v, lpX4_mentions_2 100 t s fu u P = some (v, P) ∧ (v = 0 → ∀ j, u ≤ j → j < R 1 (1315 + 200 * t) → ¬ P 144 (96 * t + j) = 10000 + s)
  | 0, u, u0, u1, hf => by omega
  | fu + 1, u, u0, u1, hf => by
    obtain ⟨y1, y2, y3⟩ := h.x0
    obtain ⟨d1, d2, d3, d4, d5, d6, d7, d8, d9, d10, d11, d12, d13⟩ := h.txt t0 t1
    have w2 := (h.wrd t0 t1).2
    have hn : R 1 (1315 + 200 * t) ≤ 96 := w2.2.1
    rw [lpX4_mentions_2, rd_ok t0 (by omega), show P (100 + 43) t = R 1 (1315 + 200 * t) from d11]
    by_cases c : u < R 1 (1315 + 200 * t)
    · rw [if_pos c, w32_id (z := t * 96) (by omega) (by omega), w32_id (z := t * 96 + u) (by omega) (by omega), rd_ok (by omega) (by omega), w32_id (z := 10000 + s) (by omega) (by omega), show t * 96 + u = 96 * t + u by omega, show P (100 + 44) (96 * t + u) = P 144 (96 * t + u) from rfl]
      by_cases d : P 144 (96 * t + u) = 10000 + s
      · rw [if_pos d]
        exact ⟨1, rfl, fun q => by omega⟩
      · obtain ⟨v, a1, a2⟩ := ment_lp h t0 t1 s0 s1 fu (u + 1) (by omega) (by omega) (by omega)
        rw [if_neg d, nm_ok, w32_id (z := u + 1) (by omega) (by omega)]
        refine ⟨v, a1, fun q j j0 j1 => ?_⟩
        by_cases e : j = u
        · rw [e]
          exact d
        · exact a2 q j (by omega) j1
    · rw [if_neg c]
      exact ⟨0, rfl, fun _ j j0 j1 => by omega⟩
theorem ev_ment {N : Int} {P R : Mem} (h : Sim N P R) {t s : Int} (t0 : 0 ≤ t) (t1 : t < R 1 4) (s0 : 0 ≤ s) (s1 : s < 4) : ∃ v, pLaws_mentions 100 t s P = some (v, P) ∧ (v = 0 → nom P R t s) := by
  have w2 := (h.wrd t0 t1).2
  obtain ⟨v, a1, a2⟩ := ment_lp h t0 t1 s0 s1 FU 0 (by omega) (by have := w2.1; omega) (by have := w2.2.1; unfold FU; omega)
  exact ⟨v, a1, fun q j j0 j1 => a2 q j j0 j1⟩
theorem stg {N : Int} {P R : Mem} (h : Sim N P R) {β : Type} {Q : Int × Mem → β → Prop} {B : Option β} {t t' s X : Int} {j4 : Int → Mem → Option (Int × Mem)} (t0 : 0 ≤ t) (t1 : t < R 1 4) (u0 : 0 ≤ t') (u1 : t' < R 1 4) (s0 : 0 ≤ s) (s1 : s < 4) (h1 : nom P R t s → nom P R t' s → O2 Q (j4 1 P) B) (h2 : O2 Q (j4 X P) B) : O2 Q (bnI (pLaws_mentions 100 t s P) fun v2 M1 => jn j4 fun j4 => jn (fun M58 => j4 X M58) fun j57 => if v2 = 0 then (bnI (pLaws_mentions 100 t' s M1) fun v60 M59 => if v60 = 0 then j4 1 M59 else j57 M59) else j57 M1) B := by
  obtain ⟨v, a1, a2⟩ := ev_ment h t0 t1 s0 s1
  obtain ⟨w, b1, b2⟩ := ev_ment h u0 u1 s0 s1
  rw [a1, bI_k]
  simp only [jn_ok]
  by_cases c : v = 0
  · rw [if_pos c, b1, bI_k]
    by_cases d : w = 0
    · rw [if_pos d]
      exact h1 (a2 c) (b2 d)
    · rw [if_neg d]
      exact h2
  · rw [if_neg c]
    exact h2
def cdv (F : Int → Bool) (n : Nat) : Int := if fi F n < 0 then -1000000005 else 100 * (fi F n / 40) + fi F n % 40
theorem cdv_n {F : Int → Bool} {n : Nat} (h : fi F n = -1) : cdv F n = -1000000005 := by
  unfold cdv
  rw [h]
  rfl
theorem cdv_p {F : Int → Bool} {n : Nat} {v : Int} (h : fi F n = v) (v0 : 0 ≤ v) : cdv F n = 100 * (v / 40) + v % 40 := by
  unfold cdv
  rw [h, if_neg (by omega)]
theorem cdv_s {F : Int → Bool} {u : Int} (h : 0 ≤ u) : cdv F (u + 1).toNat = if cz F u.toNat = 0 ∧ F u = true then 100 * (u / 40) + u % 40 else cdv F u.toNat := by
  unfold cdv
  rw [fi_s h]
  rcases fi_pr (F := F) u.toNat with ⟨q1, q2, q3⟩ | ⟨q1, q2, q3, q4, q5⟩
  · rw [if_neg (show ¬ 0 ≤ fi F u.toNat by omega)]
    by_cases x : F u = true
    · rw [if_pos x, if_neg (show ¬ u < 0 by omega), if_pos ⟨q2, x⟩]
    · rw [if_neg x, if_pos (show (-1 : Int) < 0 by omega), if_neg (show ¬ (cz F u.toNat = 0 ∧ F u = true) from fun q => x q.2), if_pos (show fi F u.toNat < 0 by omega)]
  · rw [if_pos q1, if_neg (show ¬ (cz F u.toNat = 0 ∧ F u = true) from fun q => by omega)]
theorem unl_R {N : Int} {P R : Mem} (h : Sim N P R) {t t' w d : Int} (t0 : 0 ≤ t) (t1 : t < R 1 4) (u0 : 0 ≤ t') (u1 : t' < R 1 4) (hk0 : R 1 (1310 + 200 * t) = 0) (hk1 : R 1 (1310 + 200 * t') = 0) {α : Type} {A : Option α} {Q : α → Int × Mem → Prop} {k : Int → Int → Mem → Option (Int × Mem)} (hk : ∀ R2, nR R R2 → O2 Q A (k (cz (fun v => dfa P R t t' d (v / 40) (v / 10 % 4) (v % 10)) 4000) (cdv (fun v => dfa P R t t' d (v / 40) (v / 10 % 4) (v % 10)) 4000) R2)) : ∀ (fu : Nat) (u : Int) (R' : Mem), 0 ≤ u → u ≤ 4000 → (4000 - u).toNat < fu → nR R R' → R' 9 100 = d → O2 Q A (lpX12_unlike_86 t t' w k fu (cz (fun v => dfa P R t t' d (v / 40) (v / 10 % 4) (v % 10)) u.toNat) (cdv (fun v => dfa P R t t' d (v / 40) (v / 10 % 4) (v % 10)) u.toNat) u R')
  | 0, u, R', v0, v1, hf, hr, hd => by omega
  | fu + 1, u, R', v0, v1, hf, hr, hd => by
    have bd := cz_bd (f := fun v => dfa P R t t' d (v / 40) (v / 10 % 4) (v % 10)) (n := u.toNat)
    have fp := fi_pr (F := fun v => dfa P R t t' d (v / 40) (v / 10 % 4) (v % 10)) u.toNat
    rw [lpX12_unlike_86]
    by_cases c : u < 4000
    · have ih := fun R2 => unl_R h (w := w) (d := d) t0 t1 u0 u1 hk0 hk1 hk fu (u + 1) R2 (by omega) (by omega) (by omega)
      have e1 : Int.tdiv u 40 = u / 40 := td_nn v0
      have e2 : Int.tdiv u 10 = u / 10 := td_nn v0
      have e3 : Int.tmod u 10 = u % 10 := tm_nn v0
      have e4 : Int.tmod u 40 = u % 40 := tm_nn v0
      have e5 : Int.tmod (u / 10) 4 = u / 10 % 4 := tm_nn (by omega)
      rw [if_pos c, e1, e2, e3, e4, w32_id (z := u / 10) (by omega) (by omega), e5, w32_id (z := u / 40) (by omega) (by omega), w32_id (z := u / 10 % 4) (by omega) (by omega), w32_id (z := u % 10) (by omega) (by omega), w32_id (z := u % 40) (by omega) (by omega), wr_ok (by omega) (by omega), wr_ok (by omega) (by omega), wr_ok (by omega) (by omega)]
      have n3 : nR R (upM (upM (upM R' 9 97 (u / 40)) 9 112 (u / 10 % 4)) 9 107 (u % 10)) := fun a i ha => by rw [up_nk (by omega), up_nk (by omega), up_nk (by omega)]; exact hr a i ha
      have gn : ∀ R2 : Mem, (∀ a i, ¬ a = 10 → R2 a i = upM (upM (upM R' 9 97 (u / 40)) 9 112 (u / 10 % 4)) 9 107 (u % 10) a i) → ∀ key, key = 0 → ∀ k, 0 ≤ k → k < nn key → R2 9 (nl key k) = g4 (u / 40) (u / 10 % 4) (u % 10) d k := fun R2 h2 key hkey k k0 k1 => by
        subst hkey
        have k1' : k < 4 := k1
        rw [h2 9 _ (by omega)]
        rcases k4 k0 k1' with q | q | q | q <;> subst q
        · show upM _ 9 107 _ 9 97 = u / 40
          rw [up_ni (by omega), up_ni (by omega), up_eq rfl rfl]
        · show upM _ 9 107 _ 9 112 = u / 10 % 4
          rw [up_ni (by omega), up_eq rfl rfl]
        · show upM _ 9 107 _ 9 107 = u % 10
          rw [up_eq rfl rfl]
        · show upM _ 9 107 _ 9 100 = d
          rw [up_ni (by omega), up_ni (by omega), up_ni (by omega)]
          exact hd
      have gd : upM (upM (upM R' 9 97 (u / 40)) 9 112 (u / 10 % 4)) 9 107 (u % 10) 9 100 = d := by
        rw [up_ni (by omega), up_ni (by omega), up_ni (by omega)]
        exact hd
      generalize upM (upM (upM R' 9 97 (u / 40)) 9 112 (u / 10 % 4)) 9 107 (u % 10) = R1 at *
      obtain ⟨R2, a1, a2⟩ := ev_valR (g := g4 (u / 40) (u / 10 % 4) (u % 10) d) h t0 t1 (fun i => n3 1 i (by omega)) (gn R1 (fun _ _ _ => rfl) _ hk0)
      obtain ⟨R3, b1, b2⟩ := ev_valR (R2 := R2) (g := g4 (u / 40) (u / 10 % 4) (u % 10) d) h u0 u1 (fun i => by rw [a2 1 i (by omega)]; exact n3 1 i (by omega)) (gn R2 a2 _ hk1)
      have n5 : nR R R3 := fun a i ha => by rw [b2 a i (by omega), a2 a i (by omega)]; exact n3 a i ha
      have d5 : R3 9 100 = d := by rw [b2 9 100 (by omega), a2 9 100 (by omega)]; exact gd
      have ih := ih R3 n5 d5
      rw [cz_step v0, cdv_s v0] at ih
      rw [a1, bI_k]
      simp only [jn_ok, nm_ok]
      rw [w32_id (z := u + 1) (by omega) (by omega), w32_id (z := 100 * (u / 40)) (by omega) (by omega), w32_id (z := 100 * (u / 40) + u % 40) (by omega) (by omega), w32_id (z := cz (fun v => dfa P R t t' d (v / 40) (v / 10 % 4) (v % 10)) u.toNat + 1) (by omega) (by omega)]
      have o01 : ¬ (0 : Int) = 1 := by omega
      have o10 : ¬ (1 : Int) = 0 := by omega
      have x0 : ∀ {v w : Int}, (v = 0 ↔ w = 0) → (decide (v = 0) != decide (w = 0)) = false := fun {v w} hvw => by
        by_cases q : v = 0
        · rw [decide_eq_true q, decide_eq_true (hvw.mp q)]; rfl
        · rw [decide_eq_false q, decide_eq_false (fun z => q (hvw.mpr z))]; rfl
      generalize hA : cz (fun v => dfa P R t t' d (v / 40) (v / 10 % 4) (v % 10)) u.toNat = ca at *
      generalize hB : cdv (fun v => dfa P R t t' d (v / 40) (v / 10 % 4) (v % 10)) u.toNat = cb at *
      unfold dfa at ih
      generalize vOf P R t (g4 (u / 40) (u / 10 % 4) (u % 10) d) = va at *
      generalize vOf P R t' (g4 (u / 40) (u / 10 % 4) (u % 10) d) = vb at *
      by_cases p : va = 0 <;> by_cases q : vb = 0
      · rw [if_pos p, b1, bI_k, if_pos q, if_pos trivial]
        rw [x0 ⟨fun _ => q, fun _ => p⟩] at ih
        simp only [Bool.false_eq_true, and_false, if_false, Int.add_zero] at ih
        exact ih
      · rw [if_pos p, b1, bI_k, if_neg q, if_neg o01]
        rw [decide_eq_true p, decide_eq_false q] at ih
        simp only [Bool.true_bne, Bool.not_false, and_true, if_true] at ih
        by_cases z : ca = 0
        · rw [if_pos z] at ih ⊢
          exact ih
        · rw [if_neg z] at ih ⊢
          exact ih
      · rw [if_neg p, b1, bI_k, if_pos q, if_neg o10]
        rw [decide_eq_false p, decide_eq_true q] at ih
        simp only [Bool.false_bne, and_true, if_true] at ih
        by_cases z : ca = 0
        · rw [if_pos z] at ih ⊢
          exact ih
        · rw [if_neg z] at ih ⊢
          exact ih
      · rw [if_neg p, b1, bI_k, if_neg q, if_pos trivial]
        rw [x0 ⟨fun z => absurd z p, fun z => absurd z q⟩] at ih
        simp only [Bool.false_eq_true, and_false, if_false, Int.add_zero] at ih
        exact ih
    · have ue : u = 4000 := by omega
      rw [if_neg c, ue]
      exact hk R' hr
theorem unl_P {N : Int} {P R : Mem} (h : Sim N P R) {t t' w dd d A B K : Int} (t0 : 0 ≤ t) (t1 : t < R 1 4) (u0 : 0 ≤ t') (u1 : t' < R 1 4) (hd : w32 (Int.tmod dd 7) = d) (hA0 : 1 ≤ A) (hA1 : A ≤ 100) (hB0 : 1 ≤ B) (hB1 : B ≤ 4) (hK0 : 1 ≤ K) (hK1 : K ≤ 10) {T : Int} (hT : w32 (w32 (A * B) * K) = T) (hT1 : T ≤ 4000) (hT0 : 0 ≤ T) {β : Type} {D : Option β} {Q : Int × Mem → β → Prop} {kA : Int → Mem → Option (Int × Mem)} {kB : Int → Int → Int → Mem → Option (Int × Mem)} (hkA : ¬ w = 1 ∨ fi (fun i => dfa P R t t' d (i / K / B) (i / K % B) (i % K)) T.toNat < 0 → ∀ P2, nP P P2 → O2 Q (kA (cz (fun i => dfa P R t t' d (i / K / B) (i / K % B) (i % K)) T.toNat) P2) D) (hkB : w = 1 → ∀ P2 i, nP P P2 → 0 ≤ i → i < T → fi (fun i => dfa P R t t' d (i / K / B) (i / K % B) (i % K)) T.toNat = i → O2 Q (kB (i % K) (i / K % B) (i / K / B) P2) D) : ∀ (fu : Nat) (u : Int) (P' : Mem), 0 ≤ u → u ≤ T → (T - u).toNat < fu → nP P P' → (w = 1 → fi (fun i => dfa P R t t' d (i / K / B) (i / K % B) (i % K)) u.toNat < 0) → O2 Q (lpX4_differ_83 100 t t' w dd A B K kA kB fu (cz (fun i => dfa P R t t' d (i / K / B) (i / K % B) (i % K)) u.toNat) u P') D
  | 0, u, P', v0, v1, hf, hp, hw => by omega
  | fu + 1, u, P', v0, v1, hf, hp, hw => by
    have bd := cz_bd (f := fun i => dfa P R t t' d (i / K / B) (i / K % B) (i % K)) (n := u.toNat)
    have fp := fi_pr (F := fun i => dfa P R t t' d (i / K / B) (i / K % B) (i % K)) u.toNat
    rw [lpX4_differ_83, hT]
    by_cases c : u < T
    · have ih := fun P2 => unl_P h t0 t1 u0 u1 hd hA0 hA1 hB0 hB1 hK0 hK1 hT hT1 hT0 hkA hkB fu (u + 1) P2 (by omega) (by omega) (by omega)
      have m1 : 0 ≤ u % K := Int.emod_nonneg _ (by omega)
      have m2 : u % K < K := Int.emod_lt_of_pos _ (by omega)
      have m3 : 0 ≤ u / K := Int.ediv_nonneg v0 (by omega)
      have m4 : u / K ≤ u := Int.ediv_le_self _ v0
      have m5 : 0 ≤ u / K % B := Int.emod_nonneg _ (by omega)
      have m6 : u / K % B < B := Int.emod_lt_of_pos _ (by omega)
      have m7 : 0 ≤ u / K / B := Int.ediv_nonneg m3 (by omega)
      have m8 : u / K / B ≤ u / K := Int.ediv_le_self _ m3
      have e1 : Int.tmod u K = u % K := tm_nn v0
      have e2 : Int.tdiv u K = u / K := td_nn v0
      have e3 : Int.tmod (u / K) B = u / K % B := tm_nn m3
      have e4 : Int.tdiv (u / K) B = u / K / B := td_nn m3
      have kz : ¬ K = 0 := by omega
      have bz : ¬ B = 0 := by omega
      rw [if_pos c, if_neg kz, nm_ok, if_neg kz, if_neg bz, nm_ok, if_neg kz, if_neg bz, nm_ok, e1, e2, w32_id (z := u / K) (by omega) (by omega), e3, e4, w32_id (z := u % K) (by omega) (by omega), w32_id (z := u / K % B) (by omega) (by omega), w32_id (z := u / K / B) (by omega) (by omega), hd]
      have sn : ∃ P1, pLaws_setNames 100 (u / K / B) (u / K % B) (u % K) d P' = some P1 ∧ nP P P1 ∧ ∀ k, 0 ≤ k → k < 4 → P1 145 k = g4 (u / K / B) (u / K % B) (u % K) d k := by
        refine ⟨_, by unfold pLaws_setNames; rw [wr_ok (by omega) (by omega), wr_ok (by omega) (by omega), wr_ok (by omega) (by omega), wr_ok (by omega) (by omega)], fun a i ha => by rw [up_nk (by omega), up_nk (by omega), up_nk (by omega), up_nk (by omega)]; exact hp a i ha, fun k k0 k1 => ?_⟩
        unfold g4
        rcases k4 k0 k1 with q | q | q | q <;> subst q
        · rw [up_ni (by omega), up_ni (by omega), up_ni (by omega), up_eq rfl rfl, if_pos rfl]
        · rw [up_ni (by omega), up_ni (by omega), up_eq rfl rfl, if_neg (by omega), if_pos rfl]
        · rw [up_ni (by omega), up_eq rfl rfl, if_neg (by omega), if_neg (by omega), if_pos rfl]
        · rw [up_eq rfl rfl, if_neg (by omega), if_neg (by omega), if_neg (by omega)]
      obtain ⟨P1, s1, s2, s3⟩ := sn
      obtain ⟨P2, a1, a2⟩ := ev_valP (g := g4 (u / K / B) (u / K % B) (u % K) d) h t0 t1 (s2 143 t (by omega)) (fun j => s2 144 j (by omega)) s3
      obtain ⟨P3, b1, b2⟩ := ev_valP (P2 := P2) (g := g4 (u / K / B) (u / K % B) (u % K) d) h u0 u1 (by rw [a2 143 _ (by omega)]; exact s2 143 _ (by omega)) (fun j => by rw [a2 144 _ (by omega)]; exact s2 144 j (by omega)) (fun k k0 k1 => by rw [a2 145 k (by omega)]; exact s3 k k0 k1)
      have n5 : nP P P3 := fun a i ha => by rw [b2 a i (by omega), a2 a i (by omega)]; exact s2 a i ha
      have ih := ih P3 n5
      rw [cz_step v0, fi_s v0] at ih
      rw [s1, bV_ok, a1, bI_k]
      simp only [jn_ok, nm_ok]
      rw [w32_id (z := u + 1) (by omega) (by omega), w32_id (z := cz (fun i => dfa P R t t' d (i / K / B) (i / K % B) (i % K)) u.toNat + 1) (by omega) (by omega)]
      have hB2 := fun (q : w = 1) (x : dfa P R t t' d (u / K / B) (u / K % B) (u % K) = true) => hkB q P3 u n5 v0 c (by
        refine fi_eq v0 (by omega) x fun j j0 j1 => ?_
        rcases fp with ⟨y1, y2, y3⟩ | ⟨y1, y2⟩
        · exact y3 j j0 (by omega)
        · have := hw q
          omega)
      have hw2 : dfa P R t t' d (u / K / B) (u / K % B) (u % K) = false → w = 1 → (if 0 ≤ fi (fun i => dfa P R t t' d (i / K / B) (i / K % B) (i % K)) u.toNat then fi (fun i => dfa P R t t' d (i / K / B) (i / K % B) (i % K)) u.toNat else if dfa P R t t' d (u / K / B) (u / K % B) (u % K) = true then u else -1) < 0 := fun x q => by
        have := hw q
        rw [if_neg (by omega), x, if_neg (by decide)]
        omega
      have o01 : ¬ (0 : Int) = 1 := by omega
      have o10 : ¬ (1 : Int) = 0 := by omega
      have dd1 : vOf P R t (g4 (u / K / B) (u / K % B) (u % K) d) = 0 → ¬ vOf P R t' (g4 (u / K / B) (u / K % B) (u % K) d) = 0 → dfa P R t t' d (u / K / B) (u / K % B) (u % K) = true := fun p q => by unfold dfa; rw [decide_eq_true p, decide_eq_false q]; rfl
      have dd2 : ¬ vOf P R t (g4 (u / K / B) (u / K % B) (u % K) d) = 0 → vOf P R t' (g4 (u / K / B) (u / K % B) (u % K) d) = 0 → dfa P R t t' d (u / K / B) (u / K % B) (u % K) = true := fun p q => by unfold dfa; rw [decide_eq_false p, decide_eq_true q]; rfl
      have dd3 : vOf P R t (g4 (u / K / B) (u / K % B) (u % K) d) = 0 → vOf P R t' (g4 (u / K / B) (u / K % B) (u % K) d) = 0 → dfa P R t t' d (u / K / B) (u / K % B) (u % K) = false := fun p q => by unfold dfa; rw [decide_eq_true p, decide_eq_true q]; rfl
      have dd4 : ¬ vOf P R t (g4 (u / K / B) (u / K % B) (u % K) d) = 0 → ¬ vOf P R t' (g4 (u / K / B) (u / K % B) (u % K) d) = 0 → dfa P R t t' d (u / K / B) (u / K % B) (u % K) = false := fun p q => by unfold dfa; rw [decide_eq_false p, decide_eq_false q]; rfl
      by_cases p : vOf P R t (g4 (u / K / B) (u / K % B) (u % K) d) = 0 <;> by_cases q : vOf P R t' (g4 (u / K / B) (u / K % B) (u % K) d) = 0
      · have x := dd3 p q
        rw [if_pos p, b1, bI_k, if_pos q, if_pos trivial]
        have ih := ih (hw2 x)
        rw [if_neg (by rw [x]; decide), Int.add_zero] at ih
        exact ih
      · have x := dd1 p q
        rw [if_pos p, b1, bI_k, if_neg q, if_neg o10]
        by_cases z : w = 1
        · rw [if_pos z]
          exact hB2 z x
        · rw [if_neg z]
          have ih := ih (fun y => absurd y z)
          rw [if_pos x] at ih
          exact ih
      · have x := dd2 p q
        rw [if_neg p, b1, bI_k, if_pos q, if_neg o01]
        by_cases z : w = 1
        · rw [if_pos z]
          exact hB2 z x
        · rw [if_neg z]
          have ih := ih (fun y => absurd y z)
          rw [if_pos x] at ih
          exact ih
      · have x := dd4 p q
        rw [if_neg p, b1, bI_k, if_neg q, if_pos trivial]
        have ih := ih (hw2 x)
        rw [if_neg (by rw [x]; decide), Int.add_zero] at ih
        exact ih
    · have ue : u = T := by omega
      rw [if_neg c, ue]
      refine hkA ?_ P' hp
      by_cases z : w = 1
      · rw [ue] at hw
        exact .inr (hw z)
      · exact .inl z
theorem fin_w {cc a b c : Int} (h0 : 0 ≤ cc ∧ 0 ≤ cc * a ∧ cc * a ≤ 2000000 ∧ 0 ≤ cc * a * b ∧ cc * a * b ≤ 2000000 ∧ 0 ≤ cc * a * b * c ∧ cc * a * b * c ≤ 2000000) (h1 : 1 ≤ a ∧ a ≤ 100 ∧ 1 ≤ b ∧ b ≤ 100 ∧ 1 ≤ c ∧ c ≤ 100) : w32 (w32 (w32 (cc * w32 a) * w32 b) * w32 c) = a * (b * (c * cc)) := by
  rw [w32_id (z := a) (by omega) (by omega), w32_id (z := b) (by omega) (by omega), w32_id (z := c) (by omega) (by omega), w32_id (z := cc * a) (by omega) (by omega), w32_id (z := cc * a * b) (by omega) (by omega), w32_id (by omega) (by omega)]
  rw [Int.mul_comm cc a, Int.mul_assoc, Int.mul_assoc, Int.mul_comm cc (b * c), Int.mul_assoc]
theorem bI_id {β : Type} {Q : Int × Mem → β → Prop} {A : Option (Int × Mem)} {B : Option β} (h : O2 Q A B) : O2 Q (bnI A fun v M => some (v, M)) B := by
  cases A <;> exact h
theorem s_unlike {N N2 : Int} {P R : Mem} (h : Sim N P R) (hN : N ≤ N2) {x y w : Int} : O2 (Qa (Sim N2)) (pTop_unlike x y w P) (rM_unlike x y w R) := by
  obtain ⟨y1, y2, y3⟩ := h.x0
  obtain ⟨c1, c2, c3, _⟩ := h.c0
  unfold pTop_unlike rM_unlike
  rw [ev_hasX, bI_k, ev_isText y2 y3, bI_k, show P (100 + 37) 0 = R 1 4 from y1]
  by_cases v1 : 0 ≤ x ∧ x < R 1 4
  · refine l_zp v1 (r_zp v1 ?_)
    rw [ev_hasX, bI_k, ev_isText y2 y3, bI_k, show P (100 + 37) 0 = R 1 4 from y1]
    by_cases v2 : 0 ≤ y ∧ y < R 1 4
    · refine l_zp v2 (r_zp v2 ?_)
      rw [ev_within, bI_k, ev_isIn, bI_k]
      by_cases v3 : 0 ≤ w ∧ w ≤ 1
      · refine l_zp v3 (r_zp v3 ?_)
        have k1 : P (100 + 38) x = R 1 (1310 + 200 * x) := (h.txt v1.1 v1.2).1
        have k2 : P (100 + 38) y = R 1 (1310 + 200 * y) := (h.txt v2.1 v2.2).1
        rw [rd_ok v1.1 (by omega), k1, ev_textAt (by omega) (by omega), bI_k, w32_id (z := 1310 + 200 * x + 0) (by omega) (by omega), Int.add_zero, rd_ok (x := 1310 + 200 * x) (by omega) (by omega)]
        by_cases v4 : R 1 (1310 + 200 * x) = 0
        · rw [if_pos v4, if_pos v4, rd_ok v2.1 (by omega), k2, ev_textAt (by omega) (by omega), bI_k, w32_id (z := 1310 + 200 * y + 0) (by omega) (by omega), Int.add_zero, rd_ok (x := 1310 + 200 * y) (by omega) (by omega)]
          by_cases v5 : R 1 (1310 + 200 * y) = 0
          · rw [if_pos v5, if_pos v5, ev_day (by omega) (by omega), bI_k, ev_dayR (by omega) (by omega), bI_k, c1]
            have e7 : Int.tmod (R 1 0 / 24) 7 = R 1 0 / 24 % 7 := tm_nn (by omega)
            have hd : w32 (Int.tmod (R 1 0 / 24) 7) = R 1 0 / 24 % 7 := by rw [e7, w32_id (by omega) (by omega)]
            rw [hd, wr_ok (by omega) (by omega)]
            generalize R 1 0 / 24 % 7 = d at *
            generalize R 1 0 / 24 = dy at *
            have hs := fun P2 R2 (p : nP P P2) (r : nR R R2) => h.near hN p r
            have key : ∀ A B K : Nat, (A = 100 ∨ (A = 1 ∧ nom P R x 0 ∧ nom P R y 0)) → (B = 4 ∨ (B = 1 ∧ nom P R x 1 ∧ nom P R y 1)) → (K = 10 ∨ (K = 1 ∧ nom P R x 2 ∧ nom P R y 2)) → ∀ (b : Int) (R2 : Mem), nR R R2 → (b = if w = 0 then cz (fun v => dfa P R x y d (v / 40) (v / 10 % 4) (v % 10)) 4000 else cdv (fun v => dfa P R x y d (v / 40) (v / 10 % 4) (v % 10)) 4000) → O2 (Qa (Sim N2)) (lpX4_differ_83 100 x y w dy A B K (fun v40 M41 => if w = 1 then some (-1000000005, M41) else if (A : Int) = 0 then none else if (B : Int) = 0 then none else if (K : Int) = 0 then none else some (w32 (w32 (w32 (v40 * w32 (Int.tdiv 100 A)) * w32 (Int.tdiv 4 B)) * w32 (Int.tdiv 10 K)), M41)) (fun v45 v46 v47 M48 => some (w32 (w32 (w32 (100 * v47) + w32 (10 * v46)) + v45), M48)) FU 0 0 P) (some (b, R2)) := by
              intro A B K hA hB hK b R2 hr hb
              have hA' : A = 100 ∨ (A = 1 ∧ ∀ a p k, dfa P R x y d a p k = dfa P R x y d 0 p k) := hA.imp id fun q => ⟨q.1, dfa_0 q.2.1 q.2.2⟩
              have hB' : B = 4 ∨ (B = 1 ∧ ∀ a p k, dfa P R x y d a p k = dfa P R x y d a 0 k) := hB.imp id fun q => ⟨q.1, dfa_1 q.2.1 q.2.2⟩
              have hK' : K = 10 ∨ (K = 1 ∧ ∀ a p k, dfa P R x y d a p k = dfa P R x y d a p 0) := hK.imp id fun q => ⟨q.1, dfa_2 q.2.1 q.2.2⟩
              have te := t3_eq hA' hB' hK'
              rw [← cz_t3 (D := dfa P R x y d) (A := 100) (B := 4) (K := 10) (by omega) (by omega), ← cz_t3 (D := dfa P R x y d) (A := A) (B := B) (K := K) (by omega) (by omega)] at te
              have fe := fi_D (D := dfa P R x y d) (A := A) (B := B) (K := K) (hA'.imp (by omega) fun q => ⟨by omega, q.2⟩) (hB'.imp (by omega) fun q => ⟨by omega, q.2⟩) (hK'.imp (by omega) fun q => ⟨by omega, q.2⟩)
              have te2 : cz (fun v => dfa P R x y d (v / 40) (v / 10 % 4) (v % 10)) 4000 = ((100 / A : Nat) : Int) * (((4 / B : Nat) : Int) * (((10 / K : Nat) : Int) * cz (fun i => dfa P R x y d (i / K / B) (i / K % B) (i % K)) (A * B * K))) := by
                rw [← te]
                refine cz_cg fun i i0 i1 => ?_
                rw [show i / 40 = i / ((10 : Nat) : Int) / ((4 : Nat) : Int) by omega, show i / 10 % 4 = i / ((10 : Nat) : Int) % ((4 : Nat) : Int) by omega]
                rfl
              have T0 : w32 (w32 ((A : Int) * B) * K) = ((A * B * K : Nat) : Int) ∧ A * B * K ≤ 4000 := by
                rcases hA with q1 | ⟨q1, _⟩ <;> rcases hB with q2 | ⟨q2, _⟩ <;> rcases hK with q3 | ⟨q3, _⟩ <;> subst q1 <;> subst q2 <;> subst q3 <;> decide
              have eT : ((A : Int) * B * K).toNat = A * B * K := by
                have : (A : Int) * B * K = ((A * B * K : Nat) : Int) := by rw [Int.natCast_mul, Int.natCast_mul]
                rw [this]
                omega
              have eT2 : ((A * B * K : Nat) : Int).toNat = A * B * K := by omega
              have eT3 : (A : Int) * B * K = ((A * B * K : Nat) : Int) := by rw [Int.natCast_mul, Int.natCast_mul]
              rw [eT, eT3] at fe
              refine unl_P (T := ((A * B * K : Nat) : Int)) h v1.1 v1.2 v2.1 v2.2 hd (by omega) (by omega) (by omega) (by omega) (by omega) (by omega) T0.1 (by omega) (by omega) (fun hz P2 np => ?_) (fun hz P2 i np i0 i1 hi => ?_) FU 0 P (by omega) (by omega) (by unfold FU; omega) nP.refl (fun _ => by show (-1 : Int) < 0; omega)
              · rw [eT2] at hz ⊢
                by_cases q : w = 1
                · rw [if_pos q]
                  refine o2_r ?_ (hs _ _ np hr)
                  rcases fe with f | f
                  · rw [hb, if_neg (show ¬ w = 0 by omega), cdv_n f.2]
                  · exfalso
                    have f1 := f.1
                    rcases hz with hz | hz
                    · exact hz q
                    · exact absurd f1 (by omega)
                · rw [if_neg q]
                  have wz : w = 0 := by omega
                  have cb := cz_bd (f := fun i => dfa P R x y d (i / K / B) (i / K % B) (i % K)) (n := A * B * K)
                  rw [if_neg (by omega), if_neg (by omega), if_neg (by omega)]
                  refine o2_r ?_ (hs _ _ np hr)
                  rw [hb, if_pos wz, te2]
                  generalize cz (fun i => dfa P R x y d (i / K / B) (i / K % B) (i % K)) (A * B * K) = cc at *
                  have c4 := T0.2
                  rcases hA with q1 | ⟨q1, _⟩ <;> rcases hB with q2 | ⟨q2, _⟩ <;> rcases hK with q3 | ⟨q3, _⟩ <;> subst q1 <;> subst q2 <;> subst q3
                  · exact fin_w (a := 1) (b := 1) (c := 1) (by omega) (by omega)
                  · exact fin_w (a := 1) (b := 1) (c := 10) (by omega) (by omega)
                  · exact fin_w (a := 1) (b := 4) (c := 1) (by omega) (by omega)
                  · exact fin_w (a := 1) (b := 4) (c := 10) (by omega) (by omega)
                  · exact fin_w (a := 100) (b := 1) (c := 1) (by omega) (by omega)
                  · exact fin_w (a := 100) (b := 1) (c := 10) (by omega) (by omega)
                  · exact fin_w (a := 100) (b := 4) (c := 1) (by omega) (by omega)
                  · exact fin_w (a := 100) (b := 4) (c := 10) (by omega) (by omega)
              · rw [eT2] at hi
                refine o2_r ?_ (hs _ _ np hr)
                rw [hb, if_neg (show ¬ w = 0 by omega)]
                rcases fe with f | ⟨f1, f2, f3⟩
                · exact absurd (hi.symm.trans f.1) (by omega)
                · rw [hi] at f3
                  have m1 : 0 ≤ i % (K : Int) := Int.emod_nonneg _ (by omega)
                  have m2 : i % (K : Int) < K := Int.emod_lt_of_pos _ (by omega)
                  have m3 : 0 ≤ i / (K : Int) := Int.ediv_nonneg i0 (by omega)
                  have m4 : i / (K : Int) ≤ i := Int.ediv_le_self _ i0
                  have m5 : 0 ≤ i / (K : Int) % B := Int.emod_nonneg _ (by omega)
                  have m6 : i / (K : Int) % B < B := Int.emod_lt_of_pos _ (by omega)
                  have m7 : 0 ≤ i / (K : Int) / B := Int.ediv_nonneg m3 (by omega)
                  have m8 : i / (K : Int) / B ≤ i / K := Int.ediv_le_self _ m3
                  rw [cdv_p f3 (by omega), w32_id (z := 100 * (i / K / B)) (by omega) (by omega), w32_id (z := 10 * (i / K % B)) (by omega) (by omega), w32_id (z := 100 * (i / K / B) + 10 * (i / K % B)) (by omega) (by omega), w32_id (by omega) (by omega)]
                  omega
            have lR : O2 (fun (_ : Unit) (b : Int × Mem) => nR R b.2 ∧ b.1 = if w = 0 then cz (fun v => dfa P R x y d (v / 40) (v / 10 % 4) (v % 10)) 4000 else cdv (fun v => dfa P R x y d (v / 40) (v / 10 % 4) (v % 10)) 4000) (some ()) (lpX12_unlike_86 x y w (fun v38 v39 M40 => if w = 0 then some (v38, M40) else some (v39, M40)) FU 0 (-1000000005) 0 (upM R 9 100 d)) := by
              refine unl_R h (d := d) v1.1 v1.2 v2.1 v2.2 v4 v5 (fun R2 nr => ?_) FU 0 (upM R 9 100 d) (by omega) (by omega) (by unfold FU; omega) (fun a i ha => by rw [up_nk (by omega)]) (up_eq rfl rfl)
              generalize cz (fun v => dfa P R x y d (v / 40) (v / 10 % 4) (v % 10)) 4000 = c4k
              generalize cdv (fun v => dfa P R x y d (v / 40) (v / 10 % 4) (v % 10)) 4000 = d4k
              by_cases q : w = 0
              · rw [if_pos q, if_pos q]
                exact o2_ret ⟨nr, rfl⟩
              · rw [if_neg q, if_neg q]
                exact o2_ret ⟨nr, rfl⟩
            obtain ⟨_, ⟨b, R2⟩, _, l2, l3, l4⟩ := lR
            rw [l2]
            refine bI_id ?_
            unfold pLaws_differ
            refine stg h v1.1 v1.2 v2.1 v2.2 (by omega) (by omega) (fun a1 a2 => ?_) ?_
            · refine stg h v1.1 v1.2 v2.1 v2.2 (by omega) (by omega) (fun b1 b2 => ?_) ?_
              · refine stg h v1.1 v1.2 v2.1 v2.2 (by omega) (by omega) (fun e1 e2 => ?_) ?_
                · exact key 1 1 1 (.inr ⟨rfl, a1, a2⟩) (.inr ⟨rfl, b1, b2⟩) (.inr ⟨rfl, e1, e2⟩) b R2 l3 l4
                · exact key 1 1 10 (.inr ⟨rfl, a1, a2⟩) (.inr ⟨rfl, b1, b2⟩) (.inl rfl) b R2 l3 l4
              · refine stg h v1.1 v1.2 v2.1 v2.2 (by omega) (by omega) (fun e1 e2 => ?_) ?_
                · exact key 1 4 1 (.inr ⟨rfl, a1, a2⟩) (.inl rfl) (.inr ⟨rfl, e1, e2⟩) b R2 l3 l4
                · exact key 1 4 10 (.inr ⟨rfl, a1, a2⟩) (.inl rfl) (.inl rfl) b R2 l3 l4
            · refine stg h v1.1 v1.2 v2.1 v2.2 (by omega) (by omega) (fun b1 b2 => ?_) ?_
              · refine stg h v1.1 v1.2 v2.1 v2.2 (by omega) (by omega) (fun e1 e2 => ?_) ?_
                · exact key 100 1 1 (.inl rfl) (.inr ⟨rfl, b1, b2⟩) (.inr ⟨rfl, e1, e2⟩) b R2 l3 l4
                · exact key 100 1 10 (.inl rfl) (.inr ⟨rfl, b1, b2⟩) (.inl rfl) b R2 l3 l4
              · refine stg h v1.1 v1.2 v2.1 v2.2 (by omega) (by omega) (fun e1 e2 => ?_) ?_
                · exact key 100 4 1 (.inl rfl) (.inl rfl) (.inr ⟨rfl, e1, e2⟩) b R2 l3 l4
                · exact key 100 4 10 (.inl rfl) (.inl rfl) (.inl rfl) b R2 l3 l4
          · rw [if_neg v5, if_neg v5]
            exact o2_r rfl (h.up hN)
        · rw [if_neg v4, if_neg v4]
          exact o2_r rfl (h.up hN)
      · refine l_zn v3 (r_zn v3 ?_)
        exact o2_r rfl (h.up hN)
    · refine l_zn v2 (r_zn v2 ?_)
      exact o2_r rfl (h.up hN)
  · refine l_zn v1 (r_zn v1 ?_)
    exact o2_r rfl (h.up hN)
