/-! Texts: what the reference still has to do, read from the class's held signs. -/
def lev (w : Int) : Nat := if w = 20000 then 1 else if w = 20001 then 2 else if w ≤ 20004 then 3 else if w ≤ 20006 then 4 else 5
def slv (c : Int) : Nat := if c = 124 then 1 else if c = 38 then 2 else if c = 60 ∨ c = 61 ∨ c = 62 then 3 else if c = 43 ∨ c = 45 then 4 else if c = 42 ∨ c = 47 then 5 else 0
/-- the level of the sign that is looked at -/
def tkl (M : Mem) : Nat := if M 0 12 = 3 then slv (M 0 14) else 0
def tstK (d : Nat) (ky : Int) (v2 : Int) (M1 : Mem) : Option (Int × Mem) :=
    if v2 = 0 then (
    some (0, M1)) else (
    bnI (rM_isSign 60 M1) fun v4 M3 =>
    jn (fun  (M6 : Mem) =>
    nm (M6 0 14) fun v7 =>
    bnV (rM_next M6) fun M8 =>
    bnI (rM_sum (rM_part0 d) ky M8) fun v10 M9 =>
    if v10 = 0 then (
    some (0, M9)) else (
    bnV (rM_step 2 v7 M9) fun M11 =>
    some (1, M11))) fun j5 =>
    if v4 = 0 then (
    bnI (rM_isSign 61 M3) fun v13 M12 =>
    if v13 = 0 then (
    bnI (rM_isSign 62 M12) fun v15 M14 =>
    if v15 = 0 then (
    some (1, M14)) else (
    j5 M14)) else (
    j5 M12)) else (
    j5 M3))
def noK (d : Nat) (ky : Int) : Nat → Int → Mem → Option (Int × Mem)
  | 1, v, M => if v = 0 then some (0, M) else lpX12_either_10 (rM_part0 d) ky FU M
  | 2, v, M => if v = 0 then some (0, M) else lpX12_both_10 (rM_part0 d) ky FU M
  | 3, v, M => tstK d ky v M
  | 4, v, M => if v = 0 then some (0, M) else lpX12_sum_10 (rM_part0 d) ky FU M
  | 5, v, M => if v = 0 then some (0, M) else lpX12_term_10 (rM_part0 d) ky FU M
  | _, v, M => some (v, M)
def lpK (d : Nat) (ky : Int) (n : Nat) : Nat → Mem → Option (Int × Mem)
  | 1, M => lpX12_either_10 (rM_part0 d) ky n M
  | 2, M => lpX12_both_10 (rM_part0 d) ky n M
  | 4, M => lpX12_sum_10 (rM_part0 d) ky n M
  | 5, M => lpX12_term_10 (rM_part0 d) ky n M
  | _, M => some (1, M)
def opK (d : Nat) (ky : Int) (l : Nat) (c : Int) (n : Nat) (v : Int) (M : Mem) : Option (Int × Mem) := if v = 0 then some (0, M) else bnV (rM_step 2 c M) fun M8 => lpK d ky n l M8
def notK (v : Int) (M : Mem) : Option (Int × Mem) := if v = 0 then some (0, M) else wrF M 0 16 (w32 ((M 0 16) - 1)) fun M21 => bnV (rM_step 2 33 M21) fun M22 => some (1, M22)
def brK (v12 : Int) (M11 : Mem) : Option (Int × Mem) :=
    if v12 = 0 then (
    some (0, M11)) else (
    bnI (rM_isSign 41 M11) fun v14 M13 =>
    if v14 = 0 then (
    some (0, M13)) else (
    wrF M13 0 15 (w32 ((M13 0 15) - 1)) fun M15 =>
    bnV (rM_next M15) fun M16 =>
    some (1, M16)))
def chn (ky : Int) (d : Nat) (j : Nat) : Nat → Option (Int × Mem) → Option (Int × Mem)
  | 0, r => r
  | l + 1, r => if l + 1 ≤ j then r else chn ky d j l (bnI r (noK d ky (l + 1)))
def Fx (ky : Int) : List (Int × Nat) → Nat → Nat → Option (Int × Mem) → Option (Int × Mem)
  | [], l, d, r => chn ky d 0 l r
  | (w, n) :: S, l, d, r => if w = 20009 then Fx ky S 5 (d + 1) (bnI r notK) else if w = 20010 then Fx ky S 5 (d + 1) (bnI (chn ky d 0 l r) brK) else Fx ky S (lev w - 1) d (bnI (chn ky d (lev w) l r) (opK d ky (lev w) (sg (w - 20000)) n))
theorem either_ch {d : Nat} {ky : Int} {M : Mem} : rM_either (rM_part0 d) ky M = chn ky d 0 5 (rM_part0 d ky M) := rfl
theorem both_ch {d : Nat} {ky : Int} {M : Mem} : rM_both (rM_part0 d) ky M = chn ky d 1 5 (rM_part0 d ky M) := rfl
theorem test_ch {d : Nat} {ky : Int} {M : Mem} : rM_test (rM_part0 d) ky M = chn ky d 2 5 (rM_part0 d ky M) := rfl
theorem sum_ch {d : Nat} {ky : Int} {M : Mem} : rM_sum (rM_part0 d) ky M = chn ky d 3 5 (rM_part0 d ky M) := rfl
theorem term_ch {d : Nat} {ky : Int} {M : Mem} : rM_term (rM_part0 d) ky M = chn ky d 4 5 (rM_part0 d ky M) := rfl
theorem part_ch {d : Nat} {ky : Int} {M : Mem} : rM_part0 d ky M = chn ky d 5 5 (rM_part0 d ky M) := rfl
theorem noK_f {d : Nat} {ky : Int} {M : Mem} (l : Nat) : noK d ky l 0 M = some (0, M) := by
  unfold noK
  split <;> first | rfl | (unfold tstK; rfl)
theorem chn_f {d j : Nat} {ky : Int} {M : Mem} : ∀ (l : Nat), chn ky d j l (some (0, M)) = some (0, M)
  | 0 => rfl
  | l + 1 => by
    unfold chn
    split
    · rfl
    · rw [bI_k, noK_f, chn_f l]
theorem Fx_f {ky : Int} {M : Mem} : ∀ (S : List (Int × Nat)) (l d : Nat), Fx ky S l d (some (0, M)) = some (0, M)
  | [], l, d => chn_f l
  | (w, n) :: S, l, d => by
    rw [Fx, chn_f, chn_f, bI_k, bI_k, bI_k]
    have e1 : notK 0 M = some (0, M) := rfl
    have e2 : brK 0 M = some (0, M) := rfl
    have e3 : opK d ky (lev w) (sg (w - 20000)) n 0 M = some (0, M) := rfl
    rw [e1, e2, e3, Fx_f S, Fx_f S]
    split
    · rfl
    · split <;> rfl
theorem ev_isSign {c : Int} {M : Mem} : rM_isSign c M = some (if M 0 12 = 3 ∧ M 0 14 = c then 1 else 0, M) := by
  unfold rM_isSign
  repeat' split
  all_goals first | rfl | (exfalso; omega)
theorem tkl_0 {M : Mem} (h : ¬ M 0 12 = 3) : tkl M = 0 := if_neg h
theorem tkl_s {M : Mem} (h : M 0 12 = 3) : tkl M = slv (M 0 14) := if_pos h
theorem slv_c {c : Int} : (slv c = 1 ↔ c = 124) ∧ (slv c = 2 ↔ c = 38) ∧ (slv c = 3 ↔ c = 60 ∨ c = 61 ∨ c = 62) ∧ (slv c = 4 ↔ c = 43 ∨ c = 45) ∧ (slv c = 5 ↔ c = 42 ∨ c = 47) ∧ slv c ≤ 5 := by
  unfold slv
  repeat' split
  all_goals omega
theorem is_t {M : Mem} {c : Int} : (M 0 12 = 3 ∧ M 0 14 = c) → tkl M = slv c := fun q => by rw [tkl_s q.1, q.2]
theorem isS_n {M : Mem} {c : Int} {l : Nat} (hl : slv c = l) (h : ¬ tkl M = l) : rM_isSign c M = some (0, M) := by
  rw [ev_isSign, if_neg]
  intro q
  exact h (by rw [is_t q, hl])
theorem isS_y {M : Mem} {c : Int} (ht : M 0 12 = 3) (hc : M 0 14 = c) : rM_isSign c M = some (1, M) := by rw [ev_isSign, if_pos ⟨ht, hc⟩]
theorem isS_z {M : Mem} {c : Int} (hc : ¬ M 0 14 = c) : rM_isSign c M = some (0, M) := by rw [ev_isSign, if_neg (fun q => hc q.2)]
theorem lp_pass {d n : Nat} {ky : Int} {M : Mem} : ∀ (l : Nat), ¬ tkl M = l → lpK d ky (n + 1) l M = some (1, M)
  | 1, h => by
    show lpX12_either_10 (rM_part0 d) ky (n + 1) M = _
    rw [lpX12_either_10, isS_n (l := 1) (by decide) h, bI_k, if_pos rfl]
  | 2, h => by
    show lpX12_both_10 (rM_part0 d) ky (n + 1) M = _
    rw [lpX12_both_10, isS_n (l := 2) (by decide) h, bI_k, if_pos rfl]
  | 4, h => by
    show lpX12_sum_10 (rM_part0 d) ky (n + 1) M = _
    rw [lpX12_sum_10, isS_n (l := 4) (by decide) h, bI_k, jn_ok, if_pos rfl, isS_n (l := 4) (by decide) h, bI_k, if_pos rfl]
  | 5, h => by
    show lpX12_term_10 (rM_part0 d) ky (n + 1) M = _
    rw [lpX12_term_10, isS_n (l := 5) (by decide) h, bI_k, jn_ok, if_pos rfl, isS_n (l := 5) (by decide) h, bI_k, if_pos rfl]
  | 0, h => rfl
  | 3, h => rfl
  | (l + 6), h => rfl
theorem noK_lp {d : Nat} {ky : Int} {M : Mem} (l : Nat) (h1 : 1 ≤ l) (h5 : l ≤ 5) (h3 : ¬ l = 3) : noK d ky l 1 M = lpK d ky FU l M := by
  have o10 : ¬ (1 : Int) = 0 := by omega
  have : l = 1 ∨ l = 2 ∨ l = 4 ∨ l = 5 := by omega
  rcases this with q | q | q | q <;> subst q
  · show (if (1 : Int) = 0 then some (0, M) else lpX12_either_10 (rM_part0 d) ky FU M) = lpX12_either_10 (rM_part0 d) ky FU M
    exact if_neg o10
  · show (if (1 : Int) = 0 then some (0, M) else lpX12_both_10 (rM_part0 d) ky FU M) = lpX12_both_10 (rM_part0 d) ky FU M
    exact if_neg o10
  · show (if (1 : Int) = 0 then some (0, M) else lpX12_sum_10 (rM_part0 d) ky FU M) = lpX12_sum_10 (rM_part0 d) ky FU M
    exact if_neg o10
  · show (if (1 : Int) = 0 then some (0, M) else lpX12_term_10 (rM_part0 d) ky FU M) = lpX12_term_10 (rM_part0 d) ky FU M
    exact if_neg o10
theorem noK_pass {d : Nat} {ky : Int} {M : Mem} (l : Nat) (h1 : 1 ≤ l) (h5 : l ≤ 5) (h : ¬ tkl M = l) : noK d ky l 1 M = some (1, M) := by
  by_cases c : l = 3
  · subst c
    show tstK d ky 1 M = _
    unfold tstK
    rw [if_neg (show ¬ (1 : Int) = 0 by omega), isS_n (l := 3) (by decide) h, bI_k, jn_ok, if_pos rfl, isS_n (l := 3) (by decide) h, bI_k, if_pos rfl, isS_n (l := 3) (by decide) h, bI_k, if_pos rfl]
  · rw [noK_lp l h1 h5 c, show FU = 999999 + 1 from rfl]
    exact lp_pass l h
/-- the loops go on at a sign of their level -/
theorem lp_go {d n : Nat} {ky : Int} {M M8 : Mem} (hn : rM_next M = some M8) (ht : M 0 12 = 3) : ∀ (l : Nat), tkl M = l → 1 ≤ l → ¬ l = 3 → lpK d ky (n + 1) l M = bnI (chn ky d l 5 (rM_part0 d ky M8)) (opK d ky l (M 0 14) n)
  | 1, h, _, _ => by
    have hc : M 0 14 = 124 := slv_c.1.mp (by rw [← tkl_s ht]; exact h)
    show lpX12_either_10 (rM_part0 d) ky (n + 1) M = _
    rw [lpX12_either_10, ev_isSign, if_pos ⟨ht, hc⟩, bI_k, if_neg (show ¬ (1 : Int) = 0 by omega), hn, bV_ok, hc]
    rfl
  | 2, h, _, _ => by
    have hc : M 0 14 = 38 := slv_c.2.1.mp (by rw [← tkl_s ht]; exact h)
    show lpX12_both_10 (rM_part0 d) ky (n + 1) M = _
    rw [lpX12_both_10, ev_isSign, if_pos ⟨ht, hc⟩, bI_k, if_neg (show ¬ (1 : Int) = 0 by omega), hn, bV_ok, hc]
    rfl
  | 4, h, _, _ => by
    have hc : M 0 14 = 43 ∨ M 0 14 = 45 := slv_c.2.2.2.1.mp (by rw [← tkl_s ht]; exact h)
    show lpX12_sum_10 (rM_part0 d) ky (n + 1) M = _
    rw [lpX12_sum_10]
    rcases hc with hc | hc
    · rw [isS_y ht hc, bI_k, jn_ok, if_neg (show ¬ (1 : Int) = 0 by omega)]
      dsimp only
      rw [nm_ok, hn, bV_ok]
      rfl
    · rw [isS_z (c := 43) (by omega), bI_k, jn_ok, if_pos rfl, isS_y ht hc, bI_k, if_neg (show ¬ (1 : Int) = 0 by omega)]
      dsimp only
      rw [nm_ok, hn, bV_ok]
      rfl
  | 5, h, _, _ => by
    have hc : M 0 14 = 42 ∨ M 0 14 = 47 := slv_c.2.2.2.2.1.mp (by rw [← tkl_s ht]; exact h)
    show lpX12_term_10 (rM_part0 d) ky (n + 1) M = _
    rw [lpX12_term_10]
    rcases hc with hc | hc
    · rw [isS_y ht hc, bI_k, jn_ok, if_neg (show ¬ (1 : Int) = 0 by omega)]
      dsimp only
      rw [nm_ok, hn, bV_ok]
      rfl
    · rw [isS_z (c := 42) (by omega), bI_k, jn_ok, if_pos rfl, isS_y ht hc, bI_k, if_neg (show ¬ (1 : Int) = 0 by omega)]
      dsimp only
      rw [nm_ok, hn, bV_ok]
      rfl
  | 0, h, h1, _ => by omega
  | 3, h, _, h3 => absurd rfl h3
  | (l + 6), h, _, _ => by
    have := (slv_c (c := M 0 14)).2.2.2.2.2
    rw [tkl_s ht] at h
    omega
theorem noK_go {d : Nat} {ky : Int} {M M8 : Mem} (hn : rM_next M = some M8) (ht : M 0 12 = 3) (l : Nat) (h : tkl M = l) (h1 : 1 ≤ l) : noK d ky l 1 M = bnI (chn ky d l 5 (rM_part0 d ky M8)) (opK d ky l (M 0 14) 999999) := by
  have h5 : l ≤ 5 := by
    have := (slv_c (c := M 0 14)).2.2.2.2.2
    rw [tkl_s ht] at h
    omega
  by_cases c : l = 3
  · subst c
    have hc : M 0 14 = 60 ∨ M 0 14 = 61 ∨ M 0 14 = 62 := slv_c.2.2.1.mp (by rw [← tkl_s ht]; exact h)
    show tstK d ky 1 M = _
    unfold tstK
    rw [if_neg (show ¬ (1 : Int) = 0 by omega)]
    rcases hc with hc | hc | hc
    · rw [isS_y ht hc, bI_k, jn_ok, if_neg (show ¬ (1 : Int) = 0 by omega)]
      dsimp only
      rw [nm_ok, hn, bV_ok]
      rfl
    · rw [isS_z (c := 60) (by omega), bI_k, jn_ok, if_pos rfl, isS_y ht hc, bI_k, if_neg (show ¬ (1 : Int) = 0 by omega)]
      dsimp only
      rw [nm_ok, hn, bV_ok]
      rfl
    · rw [isS_z (c := 60) (by omega), bI_k, jn_ok, if_pos rfl, isS_z (c := 61) (by omega), bI_k, if_pos rfl, isS_y ht hc, bI_k, if_neg (show ¬ (1 : Int) = 0 by omega)]
      dsimp only
      rw [nm_ok, hn, bV_ok]
      rfl
  · rw [noK_lp l h1 h5 c, show FU = 999999 + 1 from rfl]
    exact lp_go hn ht l h h1 c
theorem chn_pass {d j : Nat} {ky : Int} {M : Mem} : ∀ (l : Nat), l ≤ 5 → (tkl M ≤ j ∨ l < tkl M) → chn ky d j l (some (1, M)) = some (1, M)
  | 0, _, _ => rfl
  | l + 1, h5, h => by
    unfold chn
    split
    · rfl
    · rw [bI_k, noK_pass (l + 1) (by omega) h5 (by omega)]
      exact chn_pass l (by omega) (by omega)
theorem chn_go {d j : Nat} {ky : Int} {M M8 : Mem} (hn : rM_next M = some M8) (ht : M 0 12 = 3) : ∀ (l : Nat), l ≤ 5 → j < tkl M → tkl M ≤ l → chn ky d j l (some (1, M)) = chn ky d j (tkl M - 1) (bnI (chn ky d (tkl M) 5 (rM_part0 d ky M8)) (opK d ky (tkl M) (M 0 14) 999999))
  | 0, _, h1, h2 => by omega
  | l + 1, h5, h1, h2 => by
    by_cases c : tkl M = l + 1
    · rw [c, chn, if_neg (by omega), bI_k, noK_go hn ht (l + 1) c (by omega)]
      rfl
    · rw [chn, if_neg (by omega), bI_k, noK_pass (l + 1) (by omega) h5 c]
      exact chn_go hn ht l (by omega) h1 (by omega)
