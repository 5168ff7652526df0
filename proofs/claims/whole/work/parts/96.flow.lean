/-! Calls: flow, lack, need. -/
/-- the rooms into the drain, added up -/
def sm (f : Int → Int) : Nat → Int
  | 0 => 0
  | n + 1 => sm f n + f (18 * n + 17)
theorem sm_cg {f g : Int → Int} : ∀ {n : Nat}, (∀ c : Int, 0 ≤ c → c < n → f (18 * c + 17) = g (18 * c + 17)) → sm f n = sm g n
  | 0, _ => rfl
  | n + 1, h => by
    unfold sm
    rw [h n (by omega) (by omega), sm_cg (f := f) (g := g) (n := n) (fun c a b => h c a (by omega))]
theorem sm_nn {f : Int → Int} : ∀ {n : Nat}, (∀ c : Int, 0 ≤ c → c < n → 0 ≤ f (18 * c + 17)) → 0 ≤ sm f n
  | 0, _ => by unfold sm; omega
  | n + 1, h => by
    unfold sm
    have a := h n (by omega) (by omega)
    have b := sm_nn (f := f) (n := n) (fun c a b => h c a (by omega))
    omega
theorem sm_le {f : Int → Int} : ∀ {n : Nat}, (∀ c : Int, 0 ≤ c → c < n → f (18 * c + 17) ≤ 999) → sm f n ≤ 999 * n
  | 0, _ => by unfold sm; omega
  | n + 1, h => by
    unfold sm
    have a := h n (by omega) (by omega)
    have b := sm_le (f := f) (n := n) (fun c a b => h c a (by omega))
    omega
theorem sm_sub {f g : Int → Int} {x m : Int} : ∀ {n : Nat}, 0 ≤ x → x < n → g (18 * x + 17) = f (18 * x + 17) - m → (∀ c : Int, 0 ≤ c → c < n → ¬ c = x → g (18 * c + 17) = f (18 * c + 17)) → sm g n = sm f n - m
  | 0, x0, x1, _, _ => by omega
  | n + 1, x0, x1, hx, h => by
    unfold sm
    by_cases e : x = n
    · rw [sm_cg (f := g) (g := f) (n := n) (fun c a b => h c a (by omega) (by omega)), ← e, hx]
      omega
    · rw [sm_sub (f := f) (g := g) (n := n) x0 (by omega) hx (fun c a b q => h c a (by omega) q), h n (by omega) (by omega) (by omega)]
      omega
theorem bI_rd {α : Type} {f : Int → Int} {n : Nat} {x : Int} {g : Int → Option (Int × Mem)} {k : Int → Mem → Option α} : bnI (rdA f n x g) k = rdA f n x fun v => bnI (g v) k := by
  unfold rdA
  split <;> rfl
theorem push9_bI {k0 k : Int → Mem → Option (Int × Mem)} : ∀ (fu : Nat) (m x i : Int) (M : Mem), bnI (lpX10_push_9 k0 fu m x i M) k = lpX10_push_9 (fun v M => bnI (k0 v M) k) fu m x i M
  | 0, m, x, i, M => rfl
  | fu + 1, m, x, i, M => by
    rw [lpX10_push_9, lpX10_push_9]
    by_cases c : i < 18
    · rw [if_pos c, if_pos c]
      by_cases d : x = 16
      · rw [if_pos d, if_pos d]
      · rw [if_neg d, if_neg d, bI_rd]
        refine congrArg (rdA _ _ _) (funext fun v1 => ?_)
        rw [bI_rd]
        refine congrArg (rdA _ _ _) (funext fun v2 => ?_)
        rw [nm_ok, nm_ok, bI_rd]
        refine congrArg (rdA _ _ _) (funext fun v4 => ?_)
        rw [nm_ok, nm_ok]
        exact push9_bI fu _ _ _ _
    · rw [if_neg c, if_neg c]
/-- m goes by all ways back from x -/
def okp (f bf : Int → Int) (m : Int) : Nat → Int → Prop
  | 0, x => x = 16
  | d + 1, x => x = 16 ∨ (m ≤ f (18 * bf x + x) ∧ okp f bf m d (bf x))
/-- a tree of ways, by the rank of its nodes -/
def tre (f bf ps : Int → Int) : Prop := ∀ x, 0 ≤ x → x < 18 → 0 ≤ bf x → bf x < 18 ∧ 0 ≤ ps x ∧ ps x < 18 ∧ (¬ x = 16 → 0 ≤ bf (bf x) ∧ ps (bf x) < ps x ∧ 1 ≤ f (18 * bf x + x))
theorem push1 {P' R' : Mem} {ps : Int → Int} (ht : tre (R' 11) (R' 12) ps) (hb : ∀ x, 0 ≤ x → x < 18 → 0 ≤ R' 12 x → P' 11 x = R' 12 x) (hr : ∀ j, 0 ≤ j → j < 324 → P' 10 j = R' 11 j) {Q : Int × Mem → Int × Mem → Prop} {y : Int} {k k' : Int → Mem → Option (Int × Mem)} : ∀ (fu : Nat) (x i m : Int), 0 ≤ x → x < 18 → 0 ≤ R' 12 x → 0 ≤ i → i + ps x < 18 → (ps x).toNat < fu → 1 ≤ m → (∀ m2, 1 ≤ m2 → m2 ≤ m → okp (R' 11) (R' 12) m2 fu x → O2 Q (k m2 P') (k' m2 R')) → O2 Q (lpX10_push_9 k fu m x i P') (lpX12_flowOf_240 y k' fu m x R')
  | 0, x, i, m, x0, x1, xs, i0, i1, hf, m0, hk => by omega
  | fu + 1, x, i, m, x0, x1, xs, i0, i1, hf, m0, hk => by
    obtain ⟨t1, t2, t3, t4⟩ := ht x x0 x1 xs
    rw [lpX10_push_9, lpX12_flowOf_240, if_pos (show i < 18 by omega)]
    by_cases c : x = 16
    · rw [if_pos c, if_pos c]
      exact hk m m0 (Int.le_refl _) (.inl c)
    · obtain ⟨t5, t6, t7⟩ := t4 c
      have t8 := ht _ xs t1 t5
      rw [if_neg c, if_neg c, rd_ok x0 (by omega), hb x x0 x1 xs, w32_id (z := R' 12 x * 18) (by omega) (by omega), w32_id (z := R' 12 x * 18 + x) (by omega) (by omega), show R' 12 x * 18 + x = 18 * R' 12 x + x by omega, rd_ok (x := 18 * R' 12 x + x) (by omega) (by omega), hr _ (by omega) (by omega), nm_ok, rd_ok x0 (by omega), hb x x0 x1 xs, nm_ok, w32_id (z := i + 1) (by omega) (by omega)]
      rw [rd_ok x0 (by omega), w32_id (z := 18 * R' 12 x) (by omega) (by omega), w32_id (z := 18 * R' 12 x + x) (by omega) (by omega), rd_ok (x := 18 * R' 12 x + x) (by omega) (by omega), ev_least, bI_k, rd_ok x0 (by omega)]
      have hz : zmin m (R' 11 (18 * R' 12 x + x)) = if m < R' 11 (18 * R' 12 x + x) then m else R' 11 (18 * R' 12 x + x) := by unfold zmin; split <;> split <;> omega
      have hy : 1 ≤ (if m < R' 11 (18 * R' 12 x + x) then m else R' 11 (18 * R' 12 x + x)) ∧ (if m < R' 11 (18 * R' 12 x + x) then m else R' 11 (18 * R' 12 x + x)) ≤ m ∧ (if m < R' 11 (18 * R' 12 x + x) then m else R' 11 (18 * R' 12 x + x)) ≤ R' 11 (18 * R' 12 x + x) := by split <;> omega
      rw [hz]
      exact push1 ht hb hr fu (R' 12 x) (i + 1) _ xs t1 t5 (by omega) (by omega) (by omega) hy.1 (fun m2 a1 a2 a3 => hk m2 a1 (by omega) (.inr ⟨by omega, a3⟩))
/-- what a push keeps -/
def pQ (P R : Mem) (bf : Int → Int) (C : Int) (P' R' : Mem) : Prop := (∀ a i, ¬ a = 10 → P' a i = P a i) ∧ (∀ a i, ¬ a = 11 → R' a i = R a i) ∧ rmQ C P' R' ∧ ∀ c, 0 ≤ c → c < 18 → R' 11 (18 * c + 17) = bf c
theorem okp_up {f bf ps : Int → Int} {g : Int → Int} {m x : Int} (ht : ∀ y, 0 ≤ y → y < 18 → 0 ≤ bf y → bf y < 18 ∧ (¬ y = 16 → 0 ≤ bf (bf y) ∧ ps (bf y) < ps y)) (hg : ∀ y, 0 ≤ y → y < 18 → ¬ y = x → 0 ≤ bf y → bf y < 18 → f (18 * bf y + y) ≤ g (18 * bf y + y)) : ∀ (d : Nat) (y : Int), 0 ≤ y → y < 18 → 0 ≤ bf y → ps y < ps x → okp f bf m d y → okp g bf m d y
  | 0, y, y0, y1, ys, hp, h => h
  | d + 1, y, y0, y1, ys, hp, h => by
    rcases h with h | ⟨h1, h2⟩
    · exact .inl h
    · obtain ⟨t1, t2⟩ := ht y y0 y1 ys
      by_cases c : y = 16
      · exact .inl c
      · obtain ⟨t3, t4⟩ := t2 c
        have := hg y y0 y1 (fun q => by rw [q] at hp; omega) ys t1
        exact .inr ⟨by omega, okp_up ht hg d (bf y) ys t1 t3 (by omega) h2⟩
theorem push2 {P R : Mem} {ps : Int → Int} (ht : ∀ x, 0 ≤ x → x < 18 → 0 ≤ R 12 x → R 12 x < 18 ∧ 0 ≤ ps x ∧ (¬ x = 16 → 0 ≤ R 12 (R 12 x) ∧ ps (R 12 x) < ps x)) (hb : ∀ x, 0 ≤ x → x < 18 → 0 ≤ R 12 x → P 11 x = R 12 x) {Q : Int × Mem → Int × Mem → Prop} {y m C : Int} {g : Int → Int} {k : Int → Mem → Option (Int × Mem)} {k' : Mem → Option (Int × Mem)} (m0 : 1 ≤ m) (m1 : m ≤ 999) (z0 : 0 ≤ C) (z1 : C ≤ 1000000000) (hk : ∀ P2 R2, pQ P R g (C + 18000) P2 R2 → O2 Q (k m P2) (k' R2)) : ∀ (d fu : Nat) (x i : Int) (P' R' : Mem), 0 ≤ x → x < 18 → 0 ≤ R 12 x → 0 ≤ i → i + ps x < 18 → (ps x).toNat < fu → ps x < ps 17 → okp (R' 11) (R 12) m d x → pQ P R g (C + 1000 * i) P' R' → O2 Q (bnI (lpX10_push_60 m fu x i P') k) (lpX12_flowOf_288 y m k' fu x R')
  | d, 0, x, i, P', R', x0, x1, xs, i0, i1, hf, hp, hd, hq => by omega
  | d, fu + 1, x, i, P', R', x0, x1, xs, i0, i1, hf, hp, hd, hq => by
    have hq' := hq
    obtain ⟨f1, f2, f3, f4⟩ := hq
    obtain ⟨t1, t2, t4⟩ := ht x x0 x1 xs
    rw [lpX10_push_60, lpX12_flowOf_288, if_pos (show i < 18 by omega)]
    by_cases c : x = 16
    · rw [if_pos c, if_pos c, bI_k]
      exact hk P' R' ⟨f1, f2, fun j j0 j1 => ⟨(f3 j j0 j1).1, (f3 j j0 j1).2.1, by have := (f3 j j0 j1).2.2; omega⟩, f4⟩
    · obtain ⟨t5, t6⟩ := t4 c
      have b1 : P' 11 x = R 12 x := by rw [f1 11 x (by omega)]; exact hb x x0 x1 xs
      have b2 : R' 12 x = R 12 x := f2 12 x (by omega)
      have x17 : ¬ x = 17 := fun q => by rw [q] at hp; omega
      have w17 : ¬ R 12 x = 17 := fun q => by rw [q] at t6; omega
      have wx : ¬ R 12 x = x := fun q => by rw [q] at t6; omega
      have okt : ∃ d', d = d' + 1 ∧ m ≤ R' 11 (18 * R 12 x + x) ∧ okp (R' 11) (R 12) m d' (R 12 x) := by
        cases d with
        | zero => exact absurd hd c
        | succ d' =>
          rcases hd with hd | hd
          · exact absurd hd c
          · exact ⟨d', rfl, hd⟩
      obtain ⟨d', hd1, hd2, hd3⟩ := okt
      generalize hw : R 12 x = w at *
      obtain ⟨e1, e2, e3⟩ := f3 (18 * w + x) (by omega) (by omega)
      obtain ⟨h1, h2, h3⟩ := f3 (18 * x + w) (by omega) (by omega)
      rw [if_neg c, if_neg c, rd_ok x0 (by omega), b1, w32_id (z := w * 18) (by omega) (by omega), w32_id (z := w * 18 + x) (by omega) (by omega), show w * 18 + x = 18 * w + x by omega, rd_ok (x := 18 * w + x) (by omega) (by omega), e1, wr_ok (by omega) (by omega), rd_ok x0 (by omega), up_nk (by omega), b1, w32_id (z := x * 18) (by omega) (by omega), w32_id (z := x * 18 + w) (by omega) (by omega), show x * 18 + w = 18 * x + w by omega, rd_ok (x := 18 * x + w) (by omega) (by omega), up_ni (by omega), h1, wr_ok (by omega) (by omega), rd_ok x0 (by omega), up_nk (by omega), up_nk (by omega), b1, nm_ok, w32_id (z := i + 1) (by omega) (by omega)]
      rw [rd_ok x0 (by omega), b2, w32_id (z := 18 * w) (by omega) (by omega), w32_id (z := 18 * w + x) (by omega) (by omega), rd_ok (x := 18 * w + x) (by omega) (by omega), wr_ok (by omega) (by omega), rd_ok x0 (by omega), up_nk (by omega), b2, w32_id (z := 18 * x) (by omega) (by omega), w32_id (z := 18 * x + w) (by omega) (by omega), rd_ok (x := 18 * x + w) (by omega) (by omega), up_ni (by omega), wr_ok (by omega) (by omega), rd_ok x0 (by omega), up_nk (by omega), up_nk (by omega), b2]
      rw [w32_id (z := R' 11 (18 * w + x) - m) (by omega) (by omega), w32_id (z := R' 11 (18 * x + w) + m) (by omega) (by omega)]
      have pw0 := (ht w xs t1 t5).2.1
      refine push2 ht hb m0 m1 z0 z1 hk d' fu w (i + 1) _ _ xs t1 t5 (by omega) (by omega) (by omega) (by omega) ?_ ⟨fun a j ha => by rw [up_nk ha, up_nk ha]; exact f1 a j ha, fun a j ha => by rw [up_nk ha, up_nk ha]; exact f2 a j ha, fun j j0 j1 => ?_, fun z z0 z1 => ?_⟩
      · refine okp_up (ps := ps) (x := x) (f := R' 11) (fun y y0 y1 ys => ⟨(ht y y0 y1 ys).1, (ht y y0 y1 ys).2.2⟩) (fun y y0 y1 yx ys yt => ?_) d' w xs t1 t5 t6 hd3
        rw [up_if rfl]
        split
        · next q => rw [q]; omega
        · rw [up_ni (by omega)]
          exact Int.le_refl _
      · by_cases q : j = 18 * x + w
        · rw [up_eq rfl q, up_eq rfl q]
          exact ⟨rfl, by omega, by omega⟩
        · rw [up_ni q, up_ni q]
          by_cases q : j = 18 * w + x
          · rw [up_eq rfl q, up_eq rfl q]
            exact ⟨rfl, by omega, by omega⟩
          · rw [up_ni q, up_ni q]
            obtain ⟨r1, r2, r3⟩ := f3 j j0 j1
            exact ⟨r1, r2, by omega⟩
      · rw [up_ni (by omega), up_ni (by omega)]
        exact f4 z z0 z1
def gQ (P R : Mem) (w : Int) (P' R' : Mem) : Prop := flP P P' ∧ flR R R' ∧ rmQ (1000000 + 18000 * w) P' R' ∧ (∀ c, 0 ≤ c → c < 18 → R' 11 (18 * c + 17) ≤ 999) ∧ w + sm (R' 11) 18 ≤ 15984
theorem aug_o {P R P' R' : Mem} {ps : Int → Int} {w y : Int} (w0 : 0 ≤ w) (hf1 : flP P P') (hf2 : flR R R') (hr : rmQ (1000000 + 18000 * w) P' R') (h9 : ∀ c, 0 ≤ c → c < 18 → R' 11 (18 * c + 17) ≤ 999) (hs : w + sm (R' 11) 18 ≤ 15984) (ht : tre (R' 11) (R' 12) ps) (hb : ∀ x, 0 ≤ x → x < 18 → 0 ≤ R' 12 x → P' 11 x = R' 12 x) (h17 : 0 ≤ R' 12 17) {Q : Int × Mem → Int × Mem → Prop} {k k' : Int → Mem → Option (Int × Mem)} (hk : ∀ m P2 R2, 1 ≤ m → m ≤ 999 → gQ P R (w + m) P2 R2 → O2 Q (k m P2) (k' m R2)) : O2 Q (bnI (pWater_push P') k) (lpX12_flowOf_240 y (fun v45 M46 => lpX12_flowOf_288 y v45 (fun M54 => k' v45 M54) FU 17 M46) FU 1000000 17 R') := by
  obtain ⟨t1, t2, t3, t4⟩ := ht 17 (by omega) (by omega) h17
  obtain ⟨t5, t6, t7⟩ := t4 (by omega)
  have t8 := ht _ h17 t1 t5
  have t9 := h9 _ h17 t1
  have sn := sm_nn (f := R' 11) (n := 18) (fun c a b => (hr _ (by omega) (by omega)).2.1)
  have e1 : P' 11 17 = R' 12 17 := hb 17 (by omega) (by omega) h17
  have w17 : ¬ R' 12 17 = 17 := fun q => by rw [q] at t6; omega
  obtain ⟨r1, r2, r3⟩ := hr (18 * R' 12 17 + 17) (by omega) (by omega)
  unfold pWater_push
  rw [push9_bI, show FU = 999999 + 1 from rfl, lpX10_push_9, lpX12_flowOf_240, if_pos (by omega), if_neg (by omega), if_neg (by omega), rd_ok (by omega) (by omega), e1, w32_id (z := R' 12 17 * 18) (by omega) (by omega), w32_id (z := R' 12 17 * 18 + 17) (by omega) (by omega), show R' 12 17 * 18 + 17 = 18 * R' 12 17 + 17 by omega, rd_ok (x := 18 * R' 12 17 + 17) (by omega) (by omega), r1, nm_ok, rd_ok (by omega) (by omega), e1, nm_ok, w32_id (z := 0 + 1) (by omega) (by omega)]
  rw [rd_ok (by omega) (by omega), w32_id (z := 18 * R' 12 17) (by omega) (by omega), w32_id (z := 18 * R' 12 17 + 17) (by omega) (by omega), rd_ok (x := 18 * R' 12 17 + 17) (by omega) (by omega), ev_least, bI_k, rd_ok (by omega) (by omega), if_neg (show ¬ 1000000 < R' 11 (18 * R' 12 17 + 17) by omega), show zmin 16000 (R' 11 (18 * R' 12 17 + 17)) = R' 11 (18 * R' 12 17 + 17) by unfold zmin; rw [if_pos (by omega)]]
  have main := push1 (Q := Q) (y := y) (k := fun v6 M7 => bnI (lpX10_push_60 v6 (999999 + 1) 17 0 M7) k) (k' := fun v45 M46 => lpX12_flowOf_288 y v45 (fun M54 => k' v45 M54) (999999 + 1) 17 M46) ht hb (fun j j0 j1 => (hr j j0 j1).1) 999999 (R' 12 17) (0 + 1) (R' 11 (18 * R' 12 17 + 17)) h17 t1 t5 (by omega) (by omega) (by omega) (by omega)
    (fun m2 a1 a2 a3 => by
      try dsimp only
      obtain ⟨h1, h2, h3⟩ := hr (18 * 17 + R' 12 17) (by omega) (by omega)
      generalize hw : R' 12 17 = v at *
      rw [lpX10_push_60, lpX12_flowOf_288, if_pos (by omega), if_neg (by omega), if_neg (by omega), rd_ok (by omega) (by omega), e1, w32_id (z := v * 18) (by omega) (by omega), w32_id (z := v * 18 + 17) (by omega) (by omega), show v * 18 + 17 = 18 * v + 17 by omega, rd_ok (x := 18 * v + 17) (by omega) (by omega), r1, wr_ok (by omega) (by omega), rd_ok (by omega) (by omega), up_nk (by omega), e1, w32_id (z := 17 * 18) (by omega) (by omega), w32_id (z := 17 * 18 + v) (by omega) (by omega), show 17 * 18 + v = 18 * 17 + v by omega, rd_ok (x := 18 * 17 + v) (by omega) (by omega), up_ni (by omega), h1, wr_ok (by omega) (by omega), rd_ok (by omega) (by omega), up_nk (by omega), up_nk (by omega), e1, nm_ok, w32_id (z := 0 + 1) (by omega) (by omega)]
      rw [rd_ok (by omega) (by omega), hw, w32_id (z := 18 * v) (by omega) (by omega), w32_id (z := 18 * v + 17) (by omega) (by omega), rd_ok (x := 18 * v + 17) (by omega) (by omega), wr_ok (by omega) (by omega), rd_ok (by omega) (by omega), up_nk (by omega), hw, w32_id (z := 18 * 17) (by omega) (by omega), w32_id (z := 18 * 17 + v) (by omega) (by omega), rd_ok (x := 18 * 17 + v) (by omega) (by omega), up_ni (by omega), wr_ok (by omega) (by omega), rd_ok (by omega) (by omega), up_nk (by omega), up_nk (by omega), hw]
      rw [w32_id (z := R' 11 (18 * v + 17) - m2) (by omega) (by omega), w32_id (z := R' 11 (18 * 17 + v) + m2) (by omega) (by omega)]
      refine push2 (P := P') (R := R') (ps := ps) (C := 1000000 + 18000 * w) (g := fun c => if c = v then R' 11 (18 * v + 17) - m2 else R' 11 (18 * c + 17)) (fun x x0 x1 xs => ?_) hb a1 (by omega) (by omega) (by omega) (fun P2 R2 hq => ?_) 999999 999999 v (0 + 1) _ _ h17 t1 t5 (by omega) (by omega) (by omega) t6 ?_ ⟨fun a j ha => by rw [up_nk ha, up_nk ha], fun a j ha => by rw [up_nk ha, up_nk ha], fun j j0 j1 => ?_, fun z z0 z1 => ?_⟩
      · obtain ⟨u1, u2, u3, u4⟩ := ht x x0 x1 xs
        exact ⟨u1, u2, fun q => ⟨(u4 q).1, (u4 q).2.1⟩⟩
      · obtain ⟨q1, q2, q3, q4⟩ := hq
        refine hk m2 P2 R2 a1 (by omega) ⟨fun a i ha => by rw [q1 a i (by omega)]; exact hf1 a i ha, fun a i ha => by rw [q2 a i (by omega)]; exact hf2 a i ha, fun j j0 j1 => ⟨(q3 j j0 j1).1, (q3 j j0 j1).2.1, by have := (q3 j j0 j1).2.2; omega⟩, fun c z0 z1 => ?_, ?_⟩
        · rw [q4 c z0 z1]
          dsimp only
          split
          · omega
          · exact h9 c z0 z1
        · rw [sm_sub (f := R' 11) (g := R2 11) (x := v) (m := m2) (n := 18) h17 (by omega) (by rw [q4 v h17 t1]; dsimp only; rw [if_pos rfl]) (fun c z0 z1 zc => by rw [q4 c z0 (by omega)]; dsimp only; rw [if_neg zc])]
          omega
      · refine okp_up (ps := ps) (x := 17) (f := R' 11) (fun y y0 y1 ys => ⟨(ht y y0 y1 ys).1, fun q => ⟨((ht y y0 y1 ys).2.2.2 q).1, ((ht y y0 y1 ys).2.2.2 q).2.1⟩⟩) (fun y y0 y1 yx ys yt => ?_) 999999 v h17 t1 t5 t6 a3
        rw [up_if rfl]
        split
        · next q => rw [q]; omega
        · rw [up_ni (by omega)]
          exact Int.le_refl _
      · by_cases q : j = 18 * 17 + v
        · rw [up_eq rfl q, up_eq rfl q]
          exact ⟨rfl, by omega, by omega⟩
        · rw [up_ni q, up_ni q]
          by_cases q : j = 18 * v + 17
          · rw [up_eq rfl q, up_eq rfl q]
            exact ⟨rfl, by omega, by omega⟩
          · rw [up_ni q, up_ni q]
            obtain ⟨r1, r2, r3⟩ := hr j j0 j1
            exact ⟨r1, r2, by omega⟩
      · dsimp only
        rw [up_ni (by omega)]
        by_cases q : z = v
        · rw [if_pos q, up_eq rfl (by omega)]
        · rw [if_neg q, up_ni (by omega)])
  exact main
theorem flow_lp {P R : Mem} : ∀ (fu : Nat) (w u : Int) (P' R' : Mem), 0 ≤ u → u ≤ w → (15984 - w).toNat < fu → gQ P R w P' R' → O2 (fun (a b : Int × Mem) => a.1 = b.1 ∧ 0 ≤ a.1 ∧ a.1 ≤ 15984 ∧ flP P a.2 ∧ flR R b.2) (lpX10_greatest_13 100 fu w u P') (lpX12_flowOf_224 fu w R')
  | 0, w, u, P', R', u0, uw, hf, hq => by omega
  | fu + 1, w, u, P', R', u0, uw, hf, hq => by
    obtain ⟨f1, f2, f3, f4, f5⟩ := hq
    have sn := sm_nn (f := R' 11) (n := 18) (fun c a b => (f3 _ (by omega) (by omega)).2.1)
    have z0 : (0 : Int) = 0 := rfl
    rw [lpX10_greatest_13, lpX12_flowOf_224, if_pos (show u < 16000 by omega)]
    refine o2_bI (way_o (fun j j0 j1 => ⟨(f3 j j0 j1).1, (f3 j j0 j1).2.1⟩)) fun a b q => ?_
    obtain ⟨x, P2⟩ := a
    obtain ⟨x2, R2⟩ := b
    obtain ⟨q1, ⟨n, b1, b2, b3, b4, b5, ps, b6⟩, q3⟩ := q
    dsimp only at q1 b1 b2 b3 b4 b5 b6 q3 ⊢
    subst q1
    have bd := cz_bd (f := fun k => decide (0 ≤ R2 12 k)) (n := 18)
    have g1 : flP P P2 := fun a i ha => by rw [b1 a i (by omega)]; exact f1 a i ha
    have g2 : flR R R2 := fun a i ha => by rw [b2 a i (by omega)]; exact f2 a i ha
    simp only [jn_ok]
    rcases q3 with q3 | ⟨q3, q4⟩
    · rw [if_pos q3, if_pos q3]
      try rw [if_pos trivial]
      exact o2_ret ⟨rfl, by show 0 ≤ w; omega, by show w ≤ 15984; omega, g1, g2⟩
    · rw [if_neg (by omega), if_neg (by omega)]
      have e11 : ∀ j, R2 11 j = R' 11 j := fun j => b2 11 j (by omega)
      refine aug_o (P := P) (R := R) (ps := ps) (w := w) (k' := fun v45 M54 => nm (w32 (w + v45)) fun v55 => lpX12_flowOf_224 fu v55 M54) (by omega) g1 g2 (fun j j0 j1 => by rw [b1 10 j (by omega), e11]; exact f3 j j0 j1) (fun c a b => by rw [e11]; exact f4 c a b) (by rw [sm_cg (g := R' 11) (fun c a b => e11 _)]; exact f5) (fun x x0 x1 xs => ?_) (fun x x0 x1 xs => ?_) q4 (fun m P3 R3 m0 m1 hq => ?_)
      · have c1 := b3 x x0 x1
        obtain ⟨c2, c3, c4⟩ := b6 x x0 x1 xs
        refine ⟨by omega, c2, by omega, fun z => ?_⟩
        rw [e11]
        exact c4 z
      · have c1 := b3 x x0 x1
        omega
      · rw [if_neg (show ¬ m = 0 by omega), nm_ok, nm_ok, nm_ok]
        have sn2 := sm_nn (f := R3 11) (n := 18) (fun c a b => (hq.2.2.1 _ (by omega) (by omega)).2.1)
        have hq5 := hq.2.2.2.2
        rw [w32_id (z := w + m) (by omega) (by omega), w32_id (z := u + 1) (by omega) (by omega)]
        exact flow_lp fu (w + m) (u + 1) P3 R3 (by omega) (by omega) (by omega) hq
theorem flow_o {N : Int} {P R : Mem} (h : Sim N P R) {P1 R1 : Mem} (hp : flP P P1) (hr : flR R R1) {sd w w' : Int} (hw : w = w' ∨ (w < 0 ∧ w' < 0)) : O2 (fun (a b : Int × Mem) => a.1 = b.1 ∧ 0 ≤ a.1 ∧ a.1 ≤ 15984 ∧ flP P a.2 ∧ flR R b.2) (pWater_greatest 100 sd w P1) (rM_flowOf sd w' R1) := by
  have t0 := h.t0
  unfold pWater_greatest rM_flowOf
  refine lay_o h hp hr hw fun P2 R2 hq => ?_
  obtain ⟨f1, f2, f3, f4⟩ := hq
  refine flow_lp FU 0 0 P2 R2 (by omega) (by omega) (by unfold FU; omega) ⟨f1, f2, fun j j0 j1 => ⟨(f3 j j0 j1).1, (f3 j j0 j1).2.1, by have := (f3 j j0 j1).2.2; omega⟩, fun c z0 z1 => (f4 c z0 z1).1, ?_⟩
  have h16 := (f4 16 (by omega) (by omega)).2 (by omega)
  have h17 := (f4 17 (by omega) (by omega)).2 (by omega)
  have hl := sm_le (f := R2 11) (n := 16) (fun c a b => (f4 c a (by omega)).1)
  have e2 : sm (R2 11) 18 = sm (R2 11) 16 + R2 11 (18 * 16 + 17) + R2 11 (18 * 17 + 17) := rfl
  rw [e2, h16, h17]
  omega
def ug (s : Int → Int) (sd : Int) : Nat → Int
  | 0 => 0
  | n + 1 => ug s sd n + (if s (20 + 3 * n) = sd then s (21 + 3 * n) else 0)
theorem ug_s {s : Int → Int} {sd u : Int} (h : 0 ≤ u) : ug s sd (u + 1).toNat = ug s sd u.toNat + (if s (20 + 3 * u) = sd then s (21 + 3 * u) else 0) := by
  have e : (u + 1).toNat = u.toNat + 1 := by omega
  have e2 : ((u.toNat : Nat) : Int) = u := by omega
  rw [e, ug, e2]
theorem ug_bd {N : Int} {P R : Mem} (h : Sim N P R) {sd : Int} : ∀ (n : Nat), (n : Int) ≤ R 1 1 → 0 ≤ ug (R 1) sd n ∧ ug (R 1) sd n ≤ 999 * n
  | 0, _ => by unfold ug; omega
  | n + 1, hn => by
    unfold ug
    have a := ug_bd h (sd := sd) n (by omega)
    have b := h.cell (i := n) (by omega) (by omega)
    split <;> omega
theorem uses_P {N : Int} {P R : Mem} (h : Sim N P R) {sd : Int} : ∀ (fu : Nat) (u : Int), 0 ≤ u → u ≤ R 1 1 → (R 1 1 - u).toNat < fu → lpX0_usesOf_4 100 sd fu (ug (R 1) sd u.toNat) u P = some (ug (R 1) sd (R 1 1).toNat, P)
  | 0, u, u0, u1, hf => by omega
  | fu + 1, u, u0, u1, hf => by
    obtain ⟨_, _, _, c4, c5, c6⟩ := h.c0
    have bd := ug_bd h (sd := sd) u.toNat (by omega)
    rw [lpX0_usesOf_4, c4]
    by_cases c : u < R 1 1
    · obtain ⟨w1, w2, w3, w4, w5, w6, _⟩ := h.cell u0 c
      have ih := uses_P h (sd := sd) fu (u + 1) (by omega) (by omega) (by omega)
      rw [ug_s u0] at ih
      rw [if_pos c, rd_ok u0 (by omega), show P (100 + 1) u = R 1 (20 + 3 * u) from w1]
      simp only [jn_ok, nm_ok]
      rw [w32_id (z := u + 1) (by omega) (by omega)]
      by_cases d : R 1 (20 + 3 * u) = sd
      · rw [if_pos d] at ih ⊢
        rw [rd_ok u0 (by omega), show P (100 + 2) u = R 1 (21 + 3 * u) from w4, w32_id (by omega) (by omega)]
        exact ih
      · rw [if_neg d] at ih ⊢
        rw [Int.add_zero] at ih
        exact ih
    · rw [if_neg c, show (R 1 1).toNat = u.toNat by omega]
theorem uses_R {N : Int} {P R : Mem} (h : Sim N P R) {R1 : Mem} (hr : flR R R1) {sd y : Int} {k : Int → Mem → Option (Int × Mem)} : ∀ (fu : Nat) (u : Int), 0 ≤ u → u ≤ R 1 1 → (R 1 1 - u).toNat < fu → lpX12_lackOf_5 sd y k fu (ug (R 1) sd u.toNat) u R1 = k (ug (R 1) sd (R 1 1).toNat) R1
  | 0, u, u0, u1, hf => by omega
  | fu + 1, u, u0, u1, hf => by
    obtain ⟨_, _, _, c4, c5, c6⟩ := h.c0
    have bd := ug_bd h (sd := sd) u.toNat (by omega)
    rw [lpX12_lackOf_5, rd_ok (by omega) (by omega), hr 1 1 (by omega)]
    by_cases c : u < R 1 1
    · obtain ⟨w1, w2, w3, w4, w5, w6, _⟩ := h.cell u0 c
      have ih := uses_R h hr (sd := sd) (y := y) (k := k) fu (u + 1) (by omega) (by omega) (by omega)
      rw [ug_s u0] at ih
      rw [if_pos c, ev_sideR u0 (by omega), bI_k, hr 1 _ (by omega)]
      simp only [jn_ok, nm_ok]
      rw [w32_id (z := u + 1) (by omega) (by omega)]
      by_cases d : R 1 (20 + 3 * u) = sd
      · rw [if_pos d] at ih ⊢
        rw [ev_cellAt (by omega) (by omega), bI_k, w32_id (z := 20 + 3 * u + 1) (by omega) (by omega), rd_ok (by omega) (by omega), show 20 + 3 * u + 1 = 21 + 3 * u by omega, hr 1 _ (by omega), w32_id (by omega) (by omega)]
        exact ih
      · rw [if_neg d] at ih ⊢
        rw [w32_id (by omega) (by omega)]
        exact ih
    · rw [if_neg c, show (R 1 1).toNat = u.toNat by omega]
theorem flP.rf {P : Mem} : flP P P := fun _ _ _ => rfl
theorem flR.rf {R : Mem} : flR R R := fun _ _ _ => rfl
theorem ev_lackOf {N : Int} {P R : Mem} (h : Sim N P R) {R1 : Mem} (hr : flR R R1) {sd w : Int} : rM_lackOf sd w R1 = bnI (rM_flowOf (bShl 1 sd) w R1) fun v15 M14 => some (w32 (ug (R 1) sd (R 1 1).toNat - v15), M14) :=
  uses_R h hr FU 0 (by omega) h.c0.2.2.2.2.1 (by have := h.c0; unfold FU; omega)
theorem s_flow {N N2 : Int} {P R : Mem} (h : Sim N P R) (hN : N ≤ N2) {x : Int} : O2 (Qa (Sim N2)) (pTop_flow x P) (rM_flow x R) := by
  unfold pTop_flow rM_flow
  rw [ev_within, bI_k, ev_isIn, bI_k]
  by_cases c : 1 ≤ x ∧ x ≤ 3
  · refine l_zp c (r_zp c ?_)
    refine o2_bI (flow_o h flP.rf flR.rf (.inr ⟨by omega, by omega⟩)) fun a b q => ?_
    exact o2_r q.1 (h.flw hN q.2.2.2.1 q.2.2.2.2)
  · refine l_zn c (r_zn c ?_)
    exact o2_r rfl (h.up hN)
theorem s_lack {N N2 : Int} {P R : Mem} (h : Sim N P R) (hN : N ≤ N2) {x : Int} : O2 (Qa (Sim N2)) (pTop_lack x P) (rM_lack x R) := by
  have up := uses_P h (sd := x) FU 0 (by omega) h.c0.2.2.2.2.1 (by have := h.c0; unfold FU; omega)
  unfold pTop_lack rM_lack
  rw [ev_isSide, bI_k, ev_isSideR, bI_k]
  by_cases c : 0 ≤ x ∧ x ≤ 1
  · refine l_zp c (r_zp c ?_)
    unfold pCity_usesOf
    have up2 : lpX0_usesOf_4 100 x FU 0 0 P = some (ug (R 1) x (R 1 1).toNat, P) := up
    rw [up2, bI_k, ev_lackOf h flR.rf]
    obtain ⟨a, b, a1, a2, a3⟩ := flow_o h flP.rf flR.rf (sd := bShl 1 x) (w := -1000000005) (w' := -1) (.inr ⟨by omega, by omega⟩)
    rw [a1, a2, bI_ok, bI_ok, bI_k, a3.1]
    exact o2_r rfl (h.flw hN a3.2.2.2.1 a3.2.2.2.2)
  · refine l_zn c (r_zn c ?_)
    exact o2_r rfl (h.up hN)
theorem s_need {N N2 : Int} {P R : Mem} (h : Sim N P R) (hN : N ≤ N2) {x y : Int} : O2 (Qa (Sim N2)) (pTop_need x y P) (rM_need x y R) := by
  obtain ⟨t1, t2, t3⟩ := h.t0
  unfold pTop_need rM_need
  rw [ev_hasT, bI_k, ev_isTie t2 t3, bI_k, show P (100 + 15) 0 = R 1 3 from t1]
  by_cases c : 0 ≤ x ∧ x < R 1 3
  · refine l_zp c (r_zp c ?_)
    rw [ev_isSide, bI_k, ev_isSideR, bI_k]
    by_cases d : 0 ≤ y ∧ y ≤ 1
    · refine l_zp d (r_zp d ?_)
      have q1 := (h.tie c.1 c.2).1
      rw [rd_ok c.1 (by omega), show P (100 + 16) x = R 1 (230 + 10 * x) from q1, ev_tieAt (by omega) (by omega), bI_k, rd_ok (by omega) (by omega)]
      by_cases e : R 1 (230 + 10 * x) = 3
      · rw [if_pos e, if_pos e]
        obtain ⟨a, b, a1, a2, a3, a4, a5, a6, a7⟩ := flow_o h flP.rf flR.rf (sd := bShl 1 y) (w := -1000000005) (w' := -1) (.inr ⟨by omega, by omega⟩)
        obtain ⟨a', b', b1, b2, b3, b4, b5, b6, b7⟩ := flow_o h a6 flR.rf (sd := bShl 1 y) (w := x) (w' := x) (.inl rfl)
        obtain ⟨a'', b'', g1, g2, g3, g4, g5, g6, g7⟩ := flow_o h flP.rf b7 (sd := bShl 1 y) (w := -1000000005) (w' := -1) (.inr ⟨by omega, by omega⟩)
        have bd := ug_bd h (sd := y) (R 1 1).toNat (by have := h.c0; omega)
        have c6 := h.c0.2.2.2.2.2
        have ea : a'' = a := by
          rw [a1] at g1
          exact (Option.some.inj g1).symm
        subst ea
        rw [a1, bI_ok, b1, bI_ok, ev_lackOf h flR.rf, b2, bI_ok, bI_k, ev_lackOf h b7, g2, bI_ok, bI_k]
        refine o2_r ?_ (h.flw hN b6 g7)
        rw [← b3, ← g3, w32_id (z := ug (R 1) y (R 1 1).toNat - a'.1) (by omega) (by omega), w32_id (z := ug (R 1) y (R 1 1).toNat - a''.1) (by omega) (by omega)]
        rw [show ug (R 1) y (R 1 1).toNat - a'.1 - (ug (R 1) y (R 1 1).toNat - a''.1) = a''.1 - a'.1 by omega]
      · rw [if_neg e, if_neg e]
        exact o2_r rfl (h.up hN)
    · refine l_zn d (r_zn d ?_)
      exact o2_r rfl (h.up hN)
  · refine l_zn c (r_zn c ?_)
    exact o2_r rfl (h.up hN)
