/-! text: alike on both sides. -/
section
theorem Sim.txt0 {N N2 : Int} {P R : Mem} (h : Sim N P R) (hN : N ≤ N2) {P2 R2 : Mem} (hP : ∀ a i, ¬ (a = 1 ∨ a = 3 ∨ a = 4) → P2 a i = P a i) (hR : ∀ a i, ¬ ((a = 0 ∧ 9 ≤ i ∧ i ≤ 19) ∨ (a = 1 ∧ ((1310 + 200 * R 1 4 ≤ i ∧ i < 3710) ∨ 4010 ≤ i))) → R2 a i = R a i) (hz : P2 1 0 = 0) (hz2 : R2 0 9 = 0) : Sim N2 P2 R2 := by
  obtain ⟨y1, y2, y3⟩ := h.x0
  obtain ⟨Rm, hRm⟩ : ∃ Rm : Mem, Rm = fun a i => if a = 1 ∧ 1310 ≤ i ∧ i < 3710 then R2 1 i else R a i := ⟨_, rfl⟩
  have m0 : ∀ a i, ¬ (a = 1 ∧ 1310 ≤ i ∧ i < 3710) → Rm a i = R a i := fun a i ha => by rw [hRm]; exact if_neg ha
  have m1 : ∀ i, 1310 ≤ i → i < 3710 → Rm 1 i = R2 1 i := fun i i0 i1 => by rw [hRm]; exact if_pos ⟨rfl, i0, i1⟩
  have hg : gX P 100 (Rm 1) := by
    refine gX.cg h.1.2.2.2.2.2.2.2.2.2.1 (fun _ _ _ _ _ _ => rfl) (fun j j0 j1 => m0 1 j (by omega)) (fun j j0 j1 => ?_)
    rw [m1 j (by omega) (by omega)]
    exact hR 1 j (by omega)
  have hm : Sim N2 P Rm := h.setX hN (fun _ _ _ => rfl) (fun a i ha => m0 a i (by omega)) hg
  have eS : eqS 0 4010 (Rm 1) (R2 1) := fun j j0 j1 => by
    by_cases c : 1310 ≤ j ∧ j < 3710
    · rw [m1 j c.1 c.2]
    · rw [m0 1 j (by omega)]
      exact hR 1 j (by omega)
  obtain ⟨h1, h2, h3, h4, h5⟩ := hm
  refine ⟨h1.cg (Int.le_refl _) (fun k hk i _ _ => hP _ _ (by omega)) eS, by rw [eS 0 (by omega) (by omega)]; exact h2, fun q => ?_, ?_, h5.kp ⟨hP _ _ (by omega), hP _ _ (by omega), fun a i u0 u1 => hP _ _ (by omega)⟩⟩
  · have e3 : Rm 0 3 = R2 0 3 := by rw [m0 0 3 (by omega), hR 0 3 (by omega)]
    rw [← e3] at q
    obtain ⟨q1, q2⟩ := h3 q
    have e2 : ∀ j, R2 2 j = Rm 2 j := fun j => by rw [m0 2 j (by omega), hR 2 j (by omega)]
    exact ⟨q1.cg (Int.le_refl _) (fun k hk i _ _ => hP _ _ (by omega)) (fun j _ _ => e2 j), by rw [e2]; exact q2⟩
  · obtain ⟨t1, t2, t3, t4, t5, t6, t7, t8, t9, t10, t11, t12, t13⟩ := h.2.2.2.1
    unfold Rst
    rw [hz, hz2, hP 0 3 (by omega), hR 0 3 (by omega), hP 0 8 (by omega), hR 0 36 (by omega), hR 0 20 (by omega)]
    refine ⟨t1, t2, rfl, by omega, by omega, fun i i0 i1 => by omega, t7, t8, t9, fun i i0 i1 => ?_, fun k k0' k1' => ?_, fun i i0 i1 => ?_, t13⟩
    · rw [hP 13 i (by omega), hR 20 i (by omega)]; exact t10 i i0 i1
    · rw [hP 6 k (by omega), hR 4 k (by omega), hP 7 k (by omega), hR 5 k (by omega)]; exact t11 k k0' k1'
    · rw [hP 8 i (by omega), hR 6 i (by omega)]; exact t12 i i0 i1
def adT (M : Mem) (x y t n : Int) : Mem := upM (cpM (upM (upM (upM (upM (upM (upM M 138 t (M 1 2)) 139 t x) 140 t y) 141 t (-1000000005)) 142 t (M 1 3)) 143 t n) 3 0 144 (t * 96) n) 137 0 (t + 1)
theorem ev_addText {M : Mem} {x y t n : Int} (ht : M 137 0 = t) (t0 : 0 ≤ t) (t1 : t < 12) (hn : M 1 4 = n) (n0 : 0 ≤ n) (n1 : n ≤ 96) : pLaws_addText 100 x y M = some (t, adT M x y t n) := by
  unfold pLaws_addText adT
  simp only [Nat.reduceAdd]
  rw [ht, wr_ok t0 (by omega)]
  rw [up_nk (k := 138) (a := 137) (by omega), ht, wr_ok t0 (by omega)]
  rw [up_nk (k := 139) (a := 137) (by omega), up_nk (k := 138) (a := 137) (by omega), ht, wr_ok t0 (by omega)]
  rw [up_nk (k := 140) (a := 137) (by omega), up_nk (k := 139) (a := 137) (by omega), up_nk (k := 138) (a := 137) (by omega), ht, wr_ok t0 (by omega)]
  rw [up_nk (k := 141) (a := 137) (by omega), up_nk (k := 140) (a := 137) (by omega), up_nk (k := 139) (a := 137) (by omega), up_nk (k := 138) (a := 137) (by omega), ht, wr_ok t0 (by omega)]
  rw [up_nk (k := 141) (a := 1) (by omega), up_nk (k := 140) (a := 1) (by omega), up_nk (k := 139) (a := 1) (by omega), up_nk (k := 138) (a := 1) (by omega)]
  rw [up_nk (k := 142) (a := 137) (by omega), up_nk (k := 141) (a := 137) (by omega), up_nk (k := 140) (a := 137) (by omega), up_nk (k := 139) (a := 137) (by omega), up_nk (k := 138) (a := 137) (by omega), ht, wr_ok t0 (by omega)]
  rw [up_nk (k := 142) (a := 1) (by omega), up_nk (k := 141) (a := 1) (by omega), up_nk (k := 140) (a := 1) (by omega), up_nk (k := 139) (a := 1) (by omega), up_nk (k := 138) (a := 1) (by omega), hn]
  rw [up_nk (k := 143) (a := 137) (by omega), up_nk (k := 142) (a := 137) (by omega), up_nk (k := 141) (a := 137) (by omega), up_nk (k := 140) (a := 137) (by omega), up_nk (k := 139) (a := 137) (by omega), up_nk (k := 138) (a := 137) (by omega), ht]
  rw [up_nk (k := 143) (a := 1) (by omega), up_nk (k := 142) (a := 1) (by omega), up_nk (k := 141) (a := 1) (by omega), up_nk (k := 140) (a := 1) (by omega), up_nk (k := 139) (a := 1) (by omega), up_nk (k := 138) (a := 1) (by omega), hn, w32_id (z := t * 96) (by omega) (by omega)]
  unfold cpA
  rw [if_pos (by omega)]
  dsimp only
  rw [wf_ok, cpM_no (a := 137) (by omega), up_nk (k := 143) (a := 137) (by omega), up_nk (k := 142) (a := 137) (by omega), up_nk (k := 141) (a := 137) (by omega), up_nk (k := 140) (a := 137) (by omega), up_nk (k := 139) (a := 137) (by omega), up_nk (k := 138) (a := 137) (by omega), ht, w32_id (z := t + 1) (by omega) (by omega)]
section Ad
variable {M : Mem} {x y t n : Int}
theorem adT_o {a : Nat} {i : Int} (h : ¬ (137 ≤ a ∧ a ≤ 144)) : adT M x y t n a i = M a i := by
  unfold adT
  rw [up_nk (by omega), cpM_no (by omega), up_nk (by omega), up_nk (by omega), up_nk (by omega), up_nk (by omega), up_nk (by omega), up_nk (by omega)]
theorem adT_p {a : Nat} {i : Int} (h0 : 138 ≤ a) (h1 : a ≤ 143) (h : ¬ i = t) : adT M x y t n a i = M a i := by
  unfold adT
  rw [up_nk (by omega), cpM_no (by omega), up_ni h, up_ni h, up_ni h, up_ni h, up_ni h, up_ni h]
theorem adT_0 : adT M x y t n 137 0 = t + 1 := up_eq rfl rfl
theorem adT_1 : adT M x y t n 138 t = M 1 2 := by
  unfold adT
  rw [up_nk (by omega), cpM_no (by omega), up_nk (by omega), up_nk (by omega), up_nk (by omega), up_nk (by omega), up_nk (by omega), up_eq rfl rfl]
theorem adT_2 : adT M x y t n 139 t = x := by
  unfold adT
  rw [up_nk (by omega), cpM_no (by omega), up_nk (by omega), up_nk (by omega), up_nk (by omega), up_nk (by omega), up_eq rfl rfl]
theorem adT_3 : adT M x y t n 140 t = y := by
  unfold adT
  rw [up_nk (by omega), cpM_no (by omega), up_nk (by omega), up_nk (by omega), up_nk (by omega), up_eq rfl rfl]
theorem adT_4 : adT M x y t n 141 t = -1000000005 := by
  unfold adT
  rw [up_nk (by omega), cpM_no (by omega), up_nk (by omega), up_nk (by omega), up_eq rfl rfl]
theorem adT_5 : adT M x y t n 142 t = M 1 3 := by
  unfold adT
  rw [up_nk (by omega), cpM_no (by omega), up_nk (by omega), up_eq rfl rfl]
theorem adT_6 : adT M x y t n 143 t = n := by
  unfold adT
  rw [up_nk (by omega), cpM_no (by omega), up_eq rfl rfl]
theorem adT_7 {j : Int} (j0 : 0 ≤ j) (j1 : j < n) : adT M x y t n 144 (96 * t + j) = M 3 j := by
  unfold adT
  rw [up_nk (by omega), cpM_in rfl (by omega) (by omega), up_nk (by omega), up_nk (by omega), up_nk (by omega), up_nk (by omega), up_nk (by omega), up_nk (by omega), show 0 + (96 * t + j - t * 96) = j by omega]
theorem adT_8 {i : Int} (h : i < 96 * t) : adT M x y t n 144 i = M 144 i := by
  unfold adT
  rw [up_nk (by omega), cpM_no (by omega), up_nk (by omega), up_nk (by omega), up_nk (by omega), up_nk (by omega), up_nk (by omega), up_nk (by omega)]
end Ad
def adR (R : Mem) (ky x y t : Int) : Mem := upM (upM (upM (upM (upM (upM (upM R 1 (1310 + 200 * t) ky) 1 (1311 + 200 * t) x) 1 (1312 + 200 * t) y) 1 (1313 + 200 * t) (-1)) 1 (1314 + 200 * t) (R 0 19)) 1 (1315 + 200 * t) (R 0 17)) 1 4 (t + 1)
section AdR
variable {R : Mem} {ky x y t : Int}
theorem adR_o {a : Nat} {i : Int} (t0 : 0 ≤ t) (h : ¬ (a = 1 ∧ (i = 4 ∨ (1310 + 200 * t ≤ i ∧ i ≤ 1315 + 200 * t)))) : adR R ky x y t a i = R a i := by
  unfold adR
  rw [upM_ne (by omega), upM_ne (by omega), upM_ne (by omega), upM_ne (by omega), upM_ne (by omega), upM_ne (by omega), upM_ne (by omega)]
theorem adR_0 : adR R ky x y t 1 4 = t + 1 := up_eq rfl rfl
theorem adR_1 (t0 : 0 ≤ t) : adR R ky x y t 1 (1310 + 200 * t) = ky := by
  unfold adR
  rw [up_ni (by omega), up_ni (by omega), up_ni (by omega), up_ni (by omega), up_ni (by omega), up_ni (by omega), up_eq rfl rfl]
theorem adR_2 (t0 : 0 ≤ t) : adR R ky x y t 1 (1311 + 200 * t) = x := by
  unfold adR
  rw [up_ni (by omega), up_ni (by omega), up_ni (by omega), up_ni (by omega), up_ni (by omega), up_eq rfl rfl]
theorem adR_3 (t0 : 0 ≤ t) : adR R ky x y t 1 (1312 + 200 * t) = y := by
  unfold adR
  rw [up_ni (by omega), up_ni (by omega), up_ni (by omega), up_ni (by omega), up_eq rfl rfl]
theorem adR_4 (t0 : 0 ≤ t) : adR R ky x y t 1 (1313 + 200 * t) = -1 := by
  unfold adR
  rw [up_ni (by omega), up_ni (by omega), up_ni (by omega), up_eq rfl rfl]
theorem adR_5 (t0 : 0 ≤ t) : adR R ky x y t 1 (1314 + 200 * t) = R 0 19 := by
  unfold adR
  rw [up_ni (by omega), up_ni (by omega), up_eq rfl rfl]
theorem adR_6 (t0 : 0 ≤ t) : adR R ky x y t 1 (1315 + 200 * t) = R 0 17 := by
  unfold adR
  rw [up_ni (by omega), up_eq rfl rfl]
end AdR
/-- a new text -/
theorem Sim.newX {N : Int} {P R : Mem} (h : Sim N P R) {ky x y t : Int} (ht : R 1 4 = t) (t1 : t < 12) (k0 : 0 ≤ ky) (k1 : ky ≤ 4) (x0 : 0 ≤ x) (x1 : x ≤ 1) (hc : cdQ ky (1316 + 200 * t) P R) (h2 : P 1 2 = ky) (h3 : P 1 3 = R 0 19) (hdp : dp (P 3) (R 0 17).toNat = 1) : Sim N (adT P x y t (R 0 17)) (adR R ky x y t) := by
  obtain ⟨y1, y2, y3⟩ := h.x0
  obtain ⟨c1, c2, c3, c4, c5, c6⟩ := hc
  have t0 : 0 ≤ t := by omega
  have hn1 : 1 ≤ R 0 17 := by
    by_cases c : R 0 17 = 0
    · rw [c] at hdp
      have hd0 : dp (P 3) (0 : Int).toNat = 0 := rfl
      rw [hd0] at hdp
      omega
    · omega
  refine h.setX (Int.le_refl _) (fun a i ha => adT_o ha) (fun a i ha => adR_o t0 (by omega)) ?_
  unfold gX
  rw [adR_0]
  refine ⟨adT_0, by omega, by omega, fun i i0 i1 => ?_⟩
  simp only [Nat.reduceAdd]
  by_cases c : i = t
  · subst c
    rw [adT_1, adT_2, adT_3, adT_4, adT_5, adT_6, adR_1 t0, adR_2 t0, adR_3 t0, adR_4 t0, adR_5 t0, adR_6 t0, oN_neg (by omega)]
    refine ⟨h2, k0, k1, rfl, x0, x1, rfl, rfl, by omega, h3, rfl, hn1, c3, fun j j0 j1 => ?_, hn1, c3, fun j j1 hj => ?_, ?_⟩
    · rw [adT_7 j0 j1, adR_o t0 (by omega), adR_o t0 (by omega), show 1317 + 200 * i + 2 * j = 1316 + 200 * i + 2 * j + 1 by omega]
      exact c5 j j0 j1
    · have ed : dp (fun j => adT P x y i (R 0 17) 144 (96 * i + j)) j = dp (P 3) j := dp_cg fun q hq => adT_7 (by omega) (by omega)
      have ej : adT P x y i (R 0 17) 144 (96 * i + (j : Nat)) = P 3 (j : Nat) := adT_7 (by omega) j1
      rw [ed]
      have hj' : 20000 ≤ P 3 (j : Nat) := by rw [← ej]; exact hj
      have := c6 j j1 hj'
      rw [← ej] at this
      exact this
    · have ed : dp (fun j => adT P x y i (R 0 17) 144 (96 * i + j)) (R 0 17).toNat = dp (P 3) (R 0 17).toNat := dp_cg fun q hq => adT_7 (by omega) (by omega)
      rw [ed]
      exact hdp
  · have hq := h.1.2.2.2.2.2.2.2.2.2.1.2.2.2 i i0 (by omega)
    simp only [Nat.reduceAdd] at hq
    obtain ⟨f1, f2, f3, f4, f5, f6, f7, f8, f9, f10, f11, f12, f13, f14, f15⟩ := hq
    rw [adT_p (by omega) (by omega) c, adT_p (by omega) (by omega) c, adT_p (by omega) (by omega) c, adT_p (by omega) (by omega) c, adT_p (by omega) (by omega) c, adT_p (by omega) (by omega) c, adR_o t0 (i := 1310 + 200 * i) (by omega), adR_o t0 (i := 1311 + 200 * i) (by omega), adR_o t0 (i := 1312 + 200 * i) (by omega), adR_o t0 (i := 1313 + 200 * i) (by omega), adR_o t0 (i := 1314 + 200 * i) (by omega), adR_o t0 (i := 1315 + 200 * i) (by omega)]
    refine ⟨f1, f2, f3, f4, f5, f6, f7, f8, f9, f10, f11, f12, f13, fun j j0 j1 => ?_, f15.cg fun j j0 j1 => adT_8 (by omega)⟩
    rw [adT_8 (by omega), adR_o t0 (by omega), adR_o t0 (by omega)]
    exact f14 j j0 j1
def tPx (x1 x2 p3 : Int) (M5 : Mem) : Option (Int × Mem) :=
    wrF M5 1 0 0 fun M6 =>
    if p3 = (-1000000001) then (
    some ((-1000000001), M6)) else (
    if p3 < 0 then (
    if M6 (100 + 37) 0 = 12 then (
    some ((-1000000003), M6)) else (
    bnI (pLaws_addText 100 x1 x2 M6) fun v8 M7 =>
    some (v8, M7))) else (
    some (w32 ((-100) - p3), M6)))
theorem txP_eq {x1 x2 : Int} {M : Mem} : pTop_text x1 x2 M = bnI (pTop_isSide x1 M) fun v2 M1 => if v2 = 0 then tPx x1 x2 (-1000000001) M1 else bnI (pTop_within x2 0 416 M1) fun v12 M11 => if v12 = 0 then tPx x1 x2 (-1000000001) M11 else bnI (pTape_parse M11) fun v14 M13 => tPx x1 x2 v14 M13 := rfl
def tRx (x1 x2 p3 : Int) (M5 : Mem) : Option (Int × Mem) :=
    bnI (rM_parse M5) fun v7 M6 =>
    if p3 = 0 then (
    some ((-1000000001), M6)) else (
    if v7 < 0 then (
    some (w32 ((-100) - (M6 0 10)), M6)) else (
    rdA (M6 1) 4210 4 fun v8 =>
    if v8 = 12 then (
    some ((-1000000003), M6)) else (
    rdA (M6 1) 4210 4 fun v9 =>
    bnI (rM_textAt v9 M6) fun v11 M10 =>
    wrA M10 1 4210 (w32 (v11 + 0)) v7 fun M12 =>
    wrA M12 1 4210 (w32 (v11 + 1)) x1 fun M13 =>
    wrA M13 1 4210 (w32 (v11 + 2)) x2 fun M14 =>
    wrA M14 1 4210 (w32 (v11 + 3)) (-1) fun M15 =>
    wrA M15 1 4210 (w32 (v11 + 4)) (M15 0 19) fun M16 =>
    wrA M16 1 4210 (w32 (v11 + 5)) (M16 0 17) fun M17 =>
    rdA (M17 1) 4210 4 fun v18 =>
    wrA M17 1 4210 4 (w32 (v18 + 1)) fun M19 =>
    rdA (M19 1) 4210 4 fun v20 =>
    some (w32 (v20 - 1), M19))))
theorem txR_eq {x1 x2 : Int} {M : Mem} : rM_text x1 x2 M = bnI (rM_isSide x1 M) fun v2 M1 => if v2 = 0 then tRx x1 x2 0 M1 else bnI (rM_isIn x2 0 416 M1) fun v24 M23 => if v24 = 0 then tRx x1 x2 0 M23 else tRx x1 x2 1 M23 := rfl
theorem ev_newR {x y ky t : Int} {R R1 : Mem} (hp : rM_parse R = some (ky, R1)) (k0 : 0 ≤ ky) (ht : R1 1 4 = t) (t0 : 0 ≤ t) (t1 : t < 12) : tRx x y 1 R = some (t, adR R1 ky x y t) := by
  unfold tRx
  rw [hp, bI_k, if_neg (show ¬ (1 : Int) = 0 by omega), if_neg (show ¬ ky < 0 by omega), rd_ok (by omega) (by omega), ht, if_neg (show ¬ t = 12 by omega), rd_ok (by omega) (by omega), ht, ev_textAt (by omega) (by omega), bI_k]
  rw [show 1310 + 200 * t + 0 = 1310 + 200 * t by omega, show 1310 + 200 * t + 1 = 1311 + 200 * t by omega, show 1310 + 200 * t + 2 = 1312 + 200 * t by omega, show 1310 + 200 * t + 3 = 1313 + 200 * t by omega, show 1310 + 200 * t + 4 = 1314 + 200 * t by omega, show 1310 + 200 * t + 5 = 1315 + 200 * t by omega]
  rw [w32_id (z := 1310 + 200 * t) (by omega) (by omega), w32_id (z := 1311 + 200 * t) (by omega) (by omega), w32_id (z := 1312 + 200 * t) (by omega) (by omega), w32_id (z := 1313 + 200 * t) (by omega) (by omega), w32_id (z := 1314 + 200 * t) (by omega) (by omega), w32_id (z := 1315 + 200 * t) (by omega) (by omega)]
  rw [wr_ok (by omega) (by omega), wr_ok (by omega) (by omega), wr_ok (by omega) (by omega), wr_ok (by omega) (by omega)]
  rw [up_nk (k := 1) (a := 0) (by omega), up_nk (k := 1) (a := 0) (by omega), up_nk (k := 1) (a := 0) (by omega), up_nk (k := 1) (a := 0) (by omega), wr_ok (by omega) (by omega)]
  rw [up_nk (k := 1) (a := 0) (by omega), up_nk (k := 1) (a := 0) (by omega), up_nk (k := 1) (a := 0) (by omega), up_nk (k := 1) (a := 0) (by omega), up_nk (k := 1) (a := 0) (by omega), wr_ok (by omega) (by omega)]
  rw [rd_ok (by omega) (by omega), up_ni (j := 4) (by omega), up_ni (j := 4) (by omega), up_ni (j := 4) (by omega), up_ni (j := 4) (by omega), up_ni (j := 4) (by omega), up_ni (j := 4) (by omega), ht, w32_id (z := t + 1) (by omega) (by omega), wr_ok (by omega) (by omega), rd_ok (by omega) (by omega), up_eq rfl rfl, show t + 1 - 1 = t by omega, w32_id (z := t) (by omega) (by omega)]
  rfl
theorem s_text {N N2 : Int} {P R : Mem} (h : Sim N P R) (hN : N ≤ N2) {x y : Int} : O2 (Qa (Sim N2)) (pTop_text x y P) (rM_text x y R) := by
  obtain ⟨y1, y2, y3⟩ := h.x0
  obtain ⟨t1, t2, t3, t4, t5, t6, t7⟩ := h.2.2.2.1
  obtain ⟨ad, had, hpar⟩ := parse_o y2 y3 t3 t4 t5 t6
  have hab : (R 1 4 < 12 ∧ ad = 1316 + 200 * R 1 4) ∨ (R 1 4 = 12 ∧ ad = 4010) := by
    by_cases c : R 1 4 < 12
    · rw [if_pos c] at had; exact .inl ⟨c, had⟩
    · rw [if_neg c] at had; exact .inr ⟨by omega, had⟩
  have o10 : ¬ (1 : Int) = 0 := by omega
  have sim0 : ∀ P' R', gvP P P' → gvS ad R R' → R' 0 9 = 0 → Sim N2 (upM P' 1 0 0) R' := fun P' R' g1 g2 g3 => h.txt0 hN (fun a i ha => by rw [upM_ne (by omega)]; exact g1 a i (by omega)) (fun a i ha => g2 a i (by omega)) (up_eq rfl rfl) g3
  rw [txP_eq, txR_eq, ev_isSide, bI_k, ev_isSideR, bI_k]
  have bad : O2 (Qa (Sim N2)) (tPx x y (-1000000001) P) (tRx x y 0 R) := by
    have hex : ∃ v R', rM_parse R = some (v, R') ∧ R' 0 9 = 0 ∧ gvS ad R R' := by
      rcases hpar with ⟨P', R', b1, b2, b3, b4, b5, b6, b7, b8⟩ | ⟨ky, P', R', b1, b2, b3, b4, b5, b6, b7, b8, b9, b10, b11⟩
      · exact ⟨_, R', b2, b6, b8⟩
      · exact ⟨_, R', b4, b5, b11⟩
    obtain ⟨v, R', b1, b2, b3⟩ := hex
    unfold tPx tRx
    rw [wf_ok, if_pos rfl, b1, bI_k, if_pos rfl]
    exact o2_r rfl (sim0 P R' (fun _ _ _ => rfl) b3 b2)
  by_cases v1 : 0 ≤ x ∧ x ≤ 1
  · rw [if_pos v1, if_neg o10, if_neg o10, ev_within, bI_k, ev_isIn, bI_k]
    by_cases v2 : 0 ≤ y ∧ y ≤ 416
    · rw [if_pos v2, if_neg o10, if_neg o10]
      rcases hpar with ⟨P', R', b1, b2, b3, b4, b5, b6, b7, b8⟩ | ⟨ky, P', R', b1, b2, b3, b4, b5, b6, b7, b8, b9, b10, b11⟩
      · rw [b1, bI_k]
        unfold tPx tRx
        rw [wf_ok, if_neg (show ¬ P' 1 6 = -1000000001 by omega), if_neg (show ¬ P' 1 6 < 0 by omega), b2, bI_k, if_neg o10, if_pos (show (-1 : Int) < 0 by omega), b3]
        exact o2_r rfl (sim0 P' R' b7 b8 b6)
      · rw [b3, bI_k]
        have hs := sim0 P' R' b10 b11 b5
        have r4 : R' 1 4 = R 1 4 := b11 1 4 (by omega)
        have p37 : upM P' 1 0 0 137 0 = R 1 4 := by rw [up_nk (by omega), b10 137 0 (by omega)]; exact y1
        by_cases c : R 1 4 = 12
        · unfold tPx tRx
          rw [wf_ok, if_neg (show ¬ (-1000000005 : Int) = -1000000001 by omega), if_pos (show (-1000000005 : Int) < 0 by omega), if_pos (show upM P' 1 0 0 (100 + 37) 0 = 12 by rw [show (100 + 37 : Nat) = 137 from rfl, p37]; exact c), b4, bI_k, if_neg o10, if_neg (show ¬ ky < 0 by omega), rd_ok (by omega) (by omega), r4, if_pos c]
          exact o2_r rfl hs
        · have hc17 := b6.2.1
          have hc17' := b6.2.2.1
          have hcd : cdQ ky (1316 + 200 * R 1 4) (upM P' 1 0 0) R' := by
            have ha : ad = 1316 + 200 * R 1 4 := by omega
            rw [← ha]
            exact b6.cg (up_ni (by omega)) (fun _ => up_nk (by omega)) rfl rfl (fun _ => rfl)
          have row3 : upM P' 1 0 0 3 = P' 3 := up_row (by omega)
          have hnew := hs.newX (ky := ky) (x := x) (y := y) (t := R 1 4) r4 (by omega) b1 b2 v1.1 v1.2 hcd (by rw [up_ni (by omega)]; exact b7) (by rw [up_ni (by omega)]; exact b8) (by rw [row3]; exact b9)
          rw [ev_newR b4 b1 r4 y2 (by omega)]
          unfold tPx
          rw [wf_ok, if_neg (show ¬ (-1000000005 : Int) = -1000000001 by omega), if_pos (show (-1000000005 : Int) < 0 by omega), if_neg (show ¬ upM P' 1 0 0 (100 + 37) 0 = 12 by rw [show (100 + 37 : Nat) = 137 from rfl, p37]; exact c), ev_addText (t := R 1 4) (n := R' 0 17) p37 y2 (by omega) (by rw [up_ni (by omega)]; exact b6.1) hc17 hc17', bI_k]
          exact o2_r rfl hnew
    · rw [if_neg v2, if_pos rfl, if_pos rfl]
      exact bad
  · rw [if_neg v1, if_pos rfl, if_pos rfl]
    exact bad
end
