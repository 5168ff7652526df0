/-! The law: where the calls answer alike, it comes to its end. -/
section
theorem ite_ok {c : Prop} {dc : Decidable c} {A B : Option Unit} (h1 : c → A = some ()) (h2 : ¬ c → B = some ()) : @ite _ c dc A B = some () := by
  by_cases h : c
  · rw [if_pos h]; exact h1 h
  · rw [if_neg h]; exact h2 h
theorem xz_lo {xs : Nat → Int32} {x : Int} : -2147483648 ≤ xz xs x := Int32.le_toInt _
theorem xz_hi {xs : Nat → Int32} {x : Int} : xz xs x ≤ 2147483647 := by
  have := Int32.toInt_lt (xs x.toNat)
  unfold xz
  omega
theorem rx_ok {α : Type} {xs : Nat → Int32} {Ln : Nat} {x : Int} {f : Int → Option α} (h0 : 0 ≤ x) (h1 : x < (Ln : Int)) (h2 : Ln ≤ 3072) : rdX xs Ln (w32 x) f = f (xz xs x) := by
  rw [w32_id (by omega) (by omega)]
  exact if_pos ⟨h0, h1⟩
def lawB (xs : Nat → Int32) (Ln : Nat) (i v0 : Int) (MP MR : Mem) (j : Mem → Mem → Option Unit) : Option Unit :=
    if bAnd v0 63 = 0 then (
      rdX xs Ln (w32 (i + 1)) fun a1 =>
      bnI (pTop_cell a1 MP) fun v MP1 =>
      rdX xs Ln (w32 (i + 1)) fun b1 =>
      bnI (rM_cell b1 MR) fun w MR1 =>
      if v = w then j MP1 MR1 else none) else (
    if bAnd v0 63 = 1 then (
      rdX xs Ln (w32 (i + 1)) fun a1 =>
      rdX xs Ln (w32 (i + 2)) fun a2 =>
      rdX xs Ln (w32 (i + 3)) fun a3 =>
      bnI (pTop_water a1 a2 a3 MP) fun v MP1 =>
      rdX xs Ln (w32 (i + 1)) fun b1 =>
      rdX xs Ln (w32 (i + 2)) fun b2 =>
      rdX xs Ln (w32 (i + 3)) fun b3 =>
      bnI (rM_water b1 b2 b3 MR) fun w MR1 =>
      if v = w then j MP1 MR1 else none) else (
    if bAnd v0 63 = 2 then (
      rdX xs Ln (w32 (i + 1)) fun a1 =>
      rdX xs Ln (w32 (i + 2)) fun a2 =>
      rdX xs Ln (w32 (i + 3)) fun a3 =>
      bnI (pTop_person a1 a2 a3 MP) fun v MP1 =>
      rdX xs Ln (w32 (i + 1)) fun b1 =>
      rdX xs Ln (w32 (i + 2)) fun b2 =>
      rdX xs Ln (w32 (i + 3)) fun b3 =>
      bnI (rM_person b1 b2 b3 MR) fun w MR1 =>
      if v = w then j MP1 MR1 else none) else (
    if bAnd v0 63 = 3 then (
      rdX xs Ln (w32 (i + 1)) fun a1 =>
      rdX xs Ln (w32 (i + 2)) fun a2 =>
      bnI (pTop_is a1 a2 MP) fun v MP1 =>
      rdX xs Ln (w32 (i + 1)) fun b1 =>
      rdX xs Ln (w32 (i + 2)) fun b2 =>
      bnI (rM_is b1 b2 MR) fun w MR1 =>
      if v = w then j MP1 MR1 else none) else (
    if bAnd v0 63 = 4 then (
      rdX xs Ln (w32 (i + 1)) fun a1 =>
      rdX xs Ln (w32 (i + 2)) fun a2 =>
      rdX xs Ln (w32 (i + 3)) fun a3 =>
      bnI (pTop_be a1 a2 a3 MP) fun v MP1 =>
      rdX xs Ln (w32 (i + 1)) fun b1 =>
      rdX xs Ln (w32 (i + 2)) fun b2 =>
      rdX xs Ln (w32 (i + 3)) fun b3 =>
      bnI (rM_be b1 b2 b3 MR) fun w MR1 =>
      if v = w then j MP1 MR1 else none) else (
    if bAnd v0 63 = 5 then (
      rdX xs Ln (w32 (i + 1)) fun a1 =>
      bnI (pTop_die a1 MP) fun v MP1 =>
      rdX xs Ln (w32 (i + 1)) fun b1 =>
      bnI (rM_die b1 MR) fun w MR1 =>
      if v = w then j MP1 MR1 else none) else (
    if bAnd v0 63 = 6 then (
      rdX xs Ln (w32 (i + 1)) fun a1 =>
      rdX xs Ln (w32 (i + 2)) fun a2 =>
      rdX xs Ln (w32 (i + 3)) fun a3 =>
      rdX xs Ln (w32 (i + 4)) fun a4 =>
      bnI (pTop_tie a1 a2 a3 a4 MP) fun v MP1 =>
      rdX xs Ln (w32 (i + 1)) fun b1 =>
      rdX xs Ln (w32 (i + 2)) fun b2 =>
      rdX xs Ln (w32 (i + 3)) fun b3 =>
      rdX xs Ln (w32 (i + 4)) fun b4 =>
      bnI (rM_tie b1 b2 b3 b4 MR) fun w MR1 =>
      if v = w then j MP1 MR1 else none) else (
    if bAnd v0 63 = 7 then (
      rdX xs Ln (w32 (i + 1)) fun a1 =>
      rdX xs Ln (w32 (i + 2)) fun a2 =>
      rdX xs Ln (w32 (i + 3)) fun a3 =>
      rdX xs Ln (w32 (i + 4)) fun a4 =>
      bnI (pTop_pass a1 a2 a3 a4 MP) fun v MP1 =>
      rdX xs Ln (w32 (i + 1)) fun b1 =>
      rdX xs Ln (w32 (i + 2)) fun b2 =>
      rdX xs Ln (w32 (i + 3)) fun b3 =>
      rdX xs Ln (w32 (i + 4)) fun b4 =>
      bnI (rM_pass b1 b2 b3 b4 MR) fun w MR1 =>
      if v = w then j MP1 MR1 else none) else (
    if bAnd v0 63 = 8 then (
      rdX xs Ln (w32 (i + 1)) fun a1 =>
      rdX xs Ln (w32 (i + 2)) fun a2 =>
      rdX xs Ln (w32 (i + 3)) fun a3 =>
      bnI (pTop_parcel a1 a2 a3 MP) fun v MP1 =>
      rdX xs Ln (w32 (i + 1)) fun b1 =>
      rdX xs Ln (w32 (i + 2)) fun b2 =>
      rdX xs Ln (w32 (i + 3)) fun b3 =>
      bnI (rM_parcel b1 b2 b3 MR) fun w MR1 =>
      if v = w then j MP1 MR1 else none) else (
    if bAnd v0 63 = 9 then (
      rdX xs Ln (w32 (i + 1)) fun a1 =>
      rdX xs Ln (w32 (i + 2)) fun a2 =>
      bnI (pTop_told a1 a2 MP) fun v MP1 =>
      rdX xs Ln (w32 (i + 1)) fun b1 =>
      rdX xs Ln (w32 (i + 2)) fun b2 =>
      bnI (rM_told b1 b2 MR) fun w MR1 =>
      if v = w then j MP1 MR1 else none) else (
    if bAnd v0 63 = 10 then (
      rdX xs Ln (w32 (i + 1)) fun a1 =>
      rdX xs Ln (w32 (i + 2)) fun a2 =>
      bnI (pTop_as a1 a2 MP) fun v MP1 =>
      rdX xs Ln (w32 (i + 1)) fun b1 =>
      rdX xs Ln (w32 (i + 2)) fun b2 =>
      bnI (rM_as b1 b2 MR) fun w MR1 =>
      if v = w then j MP1 MR1 else none) else (
    if bAnd v0 63 = 11 then (
      rdX xs Ln (w32 (i + 1)) fun a1 =>
      rdX xs Ln (w32 (i + 2)) fun a2 =>
      bnI (pTop_change a1 a2 MP) fun v MP1 =>
      rdX xs Ln (w32 (i + 1)) fun b1 =>
      rdX xs Ln (w32 (i + 2)) fun b2 =>
      bnI (rM_change b1 b2 MR) fun w MR1 =>
      if v = w then j MP1 MR1 else none) else (
    if bAnd v0 63 = 12 then (
      rdX xs Ln (w32 (i + 1)) fun a1 =>
      rdX xs Ln (w32 (i + 2)) fun a2 =>
      rdX xs Ln (w32 (i + 3)) fun a3 =>
      bnI (pTop_gate a1 a2 a3 MP) fun v MP1 =>
      rdX xs Ln (w32 (i + 1)) fun b1 =>
      rdX xs Ln (w32 (i + 2)) fun b2 =>
      rdX xs Ln (w32 (i + 3)) fun b3 =>
      bnI (rM_gate b1 b2 b3 MR) fun w MR1 =>
      if v = w then j MP1 MR1 else none) else (
    if bAnd v0 63 = 13 then (
      rdX xs Ln (w32 (i + 1)) fun a1 =>
      rdX xs Ln (w32 (i + 2)) fun a2 =>
      bnI (pTop_kinship a1 a2 MP) fun v MP1 =>
      rdX xs Ln (w32 (i + 1)) fun b1 =>
      rdX xs Ln (w32 (i + 2)) fun b2 =>
      bnI (rM_kinship b1 b2 MR) fun w MR1 =>
      if v = w then j MP1 MR1 else none) else (
    if bAnd v0 63 = 14 then (
      rdX xs Ln (w32 (i + 1)) fun a1 =>
      bnI (pTop_take a1 MP) fun v MP1 =>
      rdX xs Ln (w32 (i + 1)) fun b1 =>
      bnI (rM_take b1 MR) fun w MR1 =>
      if v = w then j MP1 MR1 else none) else (
    if bAnd v0 63 = 15 then (
      rdX xs Ln (w32 (i + 1)) fun a1 =>
      bnI (pTop_why a1 MP) fun v MP1 =>
      rdX xs Ln (w32 (i + 1)) fun b1 =>
      bnI (rM_why b1 MR) fun w MR1 =>
      if v = w then j MP1 MR1 else none) else (
    if bAnd v0 63 = 16 then (
      rdX xs Ln (w32 (i + 1)) fun a1 =>
      rdX xs Ln (w32 (i + 2)) fun a2 =>
      bnI (pTop_ask a1 a2 MP) fun v MP1 =>
      rdX xs Ln (w32 (i + 1)) fun b1 =>
      rdX xs Ln (w32 (i + 2)) fun b2 =>
      bnI (rM_ask b1 b2 MR) fun w MR1 =>
      if v = w then j MP1 MR1 else none) else (
    if bAnd v0 63 = 17 then (
      rdX xs Ln (w32 (i + 1)) fun a1 =>
      rdX xs Ln (w32 (i + 2)) fun a2 =>
      bnI (pTop_letter a1 a2 MP) fun v MP1 =>
      rdX xs Ln (w32 (i + 1)) fun b1 =>
      rdX xs Ln (w32 (i + 2)) fun b2 =>
      bnI (rM_letter b1 b2 MR) fun w MR1 =>
      if v = w then j MP1 MR1 else none) else (
    if bAnd v0 63 = 18 then (
      rdX xs Ln (w32 (i + 1)) fun a1 =>
      rdX xs Ln (w32 (i + 2)) fun a2 =>
      rdX xs Ln (w32 (i + 3)) fun a3 =>
      bnI (pTop_call a1 a2 a3 MP) fun v MP1 =>
      rdX xs Ln (w32 (i + 1)) fun b1 =>
      rdX xs Ln (w32 (i + 2)) fun b2 =>
      rdX xs Ln (w32 (i + 3)) fun b3 =>
      bnI (rM_call b1 b2 b3 MR) fun w MR1 =>
      if v = w then j MP1 MR1 else none) else (
    if bAnd v0 63 = 19 then (
      rdX xs Ln (w32 (i + 1)) fun a1 =>
      bnI (pTop_run a1 MP) fun v MP1 =>
      rdX xs Ln (w32 (i + 1)) fun b1 =>
      bnI (rM_run b1 MR) fun w MR1 =>
      if v = w then j MP1 MR1 else none) else (
    if bAnd v0 63 = 20 then (
      rdX xs Ln (w32 (i + 1)) fun a1 =>
      rdX xs Ln (w32 (i + 2)) fun a2 =>
      rdX xs Ln (w32 (i + 3)) fun a3 =>
      bnI (pTop_feed a1 a2 a3 MP) fun v MP1 =>
      rdX xs Ln (w32 (i + 1)) fun b1 =>
      rdX xs Ln (w32 (i + 2)) fun b2 =>
      rdX xs Ln (w32 (i + 3)) fun b3 =>
      bnI (rM_feed b1 b2 b3 MR) fun w MR1 =>
      if v = w then j MP1 MR1 else none) else (
    if bAnd v0 63 = 21 then (
      rdX xs Ln (w32 (i + 1)) fun a1 =>
      bnI (pTop_trim a1 MP) fun v MP1 =>
      rdX xs Ln (w32 (i + 1)) fun b1 =>
      bnI (rM_trim b1 MR) fun w MR1 =>
      if v = w then j MP1 MR1 else none) else (
    if bAnd v0 63 = 22 then (
      rdX xs Ln (w32 (i + 1)) fun a1 =>
      rdX xs Ln (w32 (i + 2)) fun a2 =>
      bnI (pTop_text a1 a2 MP) fun v MP1 =>
      rdX xs Ln (w32 (i + 1)) fun b1 =>
      rdX xs Ln (w32 (i + 2)) fun b2 =>
      bnI (rM_text b1 b2 MR) fun w MR1 =>
      if v = w then j MP1 MR1 else none) else (
    if bAnd v0 63 = 23 then (
      rdX xs Ln (w32 (i + 1)) fun a1 =>
      rdX xs Ln (w32 (i + 2)) fun a2 =>
      bnI (pTop_of a1 a2 MP) fun v MP1 =>
      rdX xs Ln (w32 (i + 1)) fun b1 =>
      rdX xs Ln (w32 (i + 2)) fun b2 =>
      bnI (rM_of b1 b2 MR) fun w MR1 =>
      if v = w then j MP1 MR1 else none) else (
    if bAnd v0 63 = 24 then (
      rdX xs Ln (w32 (i + 1)) fun a1 =>
      bnI (pTop_strike a1 MP) fun v MP1 =>
      rdX xs Ln (w32 (i + 1)) fun b1 =>
      bnI (rM_strike b1 MR) fun w MR1 =>
      if v = w then j MP1 MR1 else none) else (
    if bAnd v0 63 = 25 then (
      rdX xs Ln (w32 (i + 1)) fun a1 =>
      rdX xs Ln (w32 (i + 2)) fun a2 =>
      bnI (pTop_counts a1 a2 MP) fun v MP1 =>
      rdX xs Ln (w32 (i + 1)) fun b1 =>
      rdX xs Ln (w32 (i + 2)) fun b2 =>
      bnI (rM_counts b1 b2 MR) fun w MR1 =>
      if v = w then j MP1 MR1 else none) else (
    if bAnd v0 63 = 26 then (
      rdX xs Ln (w32 (i + 1)) fun a1 =>
      rdX xs Ln (w32 (i + 2)) fun a2 =>
      bnI (pTop_may a1 a2 MP) fun v MP1 =>
      rdX xs Ln (w32 (i + 1)) fun b1 =>
      rdX xs Ln (w32 (i + 2)) fun b2 =>
      bnI (rM_may b1 b2 MR) fun w MR1 =>
      if v = w then j MP1 MR1 else none) else (
    if bAnd v0 63 = 27 then (
      rdX xs Ln (w32 (i + 1)) fun a1 =>
      rdX xs Ln (w32 (i + 2)) fun a2 =>
      rdX xs Ln (w32 (i + 3)) fun a3 =>
      bnI (pTop_unlike a1 a2 a3 MP) fun v MP1 =>
      rdX xs Ln (w32 (i + 1)) fun b1 =>
      rdX xs Ln (w32 (i + 2)) fun b2 =>
      rdX xs Ln (w32 (i + 3)) fun b3 =>
      bnI (rM_unlike b1 b2 b3 MR) fun w MR1 =>
      if v = w then j MP1 MR1 else none) else (
    if bAnd v0 63 = 28 then (
      rdX xs Ln (w32 (i + 1)) fun a1 =>
      bnI (pTop_visits a1 MP) fun v MP1 =>
      rdX xs Ln (w32 (i + 1)) fun b1 =>
      bnI (rM_visits b1 MR) fun w MR1 =>
      if v = w then j MP1 MR1 else none) else (
    if bAnd v0 63 = 29 then (
      rdX xs Ln (w32 (i + 1)) fun a1 =>
      bnI (pTop_changed a1 MP) fun v MP1 =>
      rdX xs Ln (w32 (i + 1)) fun b1 =>
      bnI (rM_changed b1 MR) fun w MR1 =>
      if v = w then j MP1 MR1 else none) else (
    if bAnd v0 63 = 30 then (
      rdX xs Ln (w32 (i + 1)) fun a1 =>
      rdX xs Ln (w32 (i + 2)) fun a2 =>
      rdX xs Ln (w32 (i + 3)) fun a3 =>
      rdX xs Ln (w32 (i + 4)) fun a4 =>
      bnI (pTop_house a1 a2 a3 a4 MP) fun v MP1 =>
      rdX xs Ln (w32 (i + 1)) fun b1 =>
      rdX xs Ln (w32 (i + 2)) fun b2 =>
      rdX xs Ln (w32 (i + 3)) fun b3 =>
      rdX xs Ln (w32 (i + 4)) fun b4 =>
      bnI (rM_house b1 b2 b3 b4 MR) fun w MR1 =>
      if v = w then j MP1 MR1 else none) else (
    if bAnd v0 63 = 31 then (
      rdX xs Ln (w32 (i + 1)) fun a1 =>
      bnI (pTop_flow a1 MP) fun v MP1 =>
      rdX xs Ln (w32 (i + 1)) fun b1 =>
      bnI (rM_flow b1 MR) fun w MR1 =>
      if v = w then j MP1 MR1 else none) else (
    if bAnd v0 63 = 32 then (
      rdX xs Ln (w32 (i + 1)) fun a1 =>
      bnI (pTop_lack a1 MP) fun v MP1 =>
      rdX xs Ln (w32 (i + 1)) fun b1 =>
      bnI (rM_lack b1 MR) fun w MR1 =>
      if v = w then j MP1 MR1 else none) else (
    if bAnd v0 63 = 33 then (
      rdX xs Ln (w32 (i + 1)) fun a1 =>
      rdX xs Ln (w32 (i + 2)) fun a2 =>
      bnI (pTop_need a1 a2 MP) fun v MP1 =>
      rdX xs Ln (w32 (i + 1)) fun b1 =>
      rdX xs Ln (w32 (i + 2)) fun b2 =>
      bnI (rM_need b1 b2 MR) fun w MR1 =>
      if v = w then j MP1 MR1 else none) else (
    if bAnd v0 63 = 34 then (
      rdX xs Ln (w32 (i + 1)) fun a1 =>
      rdX xs Ln (w32 (i + 2)) fun a2 =>
      rdX xs Ln (w32 (i + 3)) fun a3 =>
      bnI (pTop_stop a1 a2 a3 MP) fun v MP1 =>
      rdX xs Ln (w32 (i + 1)) fun b1 =>
      rdX xs Ln (w32 (i + 2)) fun b2 =>
      rdX xs Ln (w32 (i + 3)) fun b3 =>
      bnI (rM_stop b1 b2 b3 MR) fun w MR1 =>
      if v = w then j MP1 MR1 else none) else (
    if bAnd v0 63 = 35 then (
      rdX xs Ln (w32 (i + 1)) fun a1 =>
      rdX xs Ln (w32 (i + 2)) fun a2 =>
      rdX xs Ln (w32 (i + 3)) fun a3 =>
      rdX xs Ln (w32 (i + 4)) fun a4 =>
      bnI (pTop_train a1 a2 a3 a4 MP) fun v MP1 =>
      rdX xs Ln (w32 (i + 1)) fun b1 =>
      rdX xs Ln (w32 (i + 2)) fun b2 =>
      rdX xs Ln (w32 (i + 3)) fun b3 =>
      rdX xs Ln (w32 (i + 4)) fun b4 =>
      bnI (rM_train b1 b2 b3 b4 MR) fun w MR1 =>
      if v = w then j MP1 MR1 else none) else (
    if bAnd v0 63 = 36 then (
      rdX xs Ln (w32 (i + 1)) fun a1 =>
      rdX xs Ln (w32 (i + 2)) fun a2 =>
      rdX xs Ln (w32 (i + 3)) fun a3 =>
      bnI (pTop_file a1 a2 a3 MP) fun v MP1 =>
      rdX xs Ln (w32 (i + 1)) fun b1 =>
      rdX xs Ln (w32 (i + 2)) fun b2 =>
      rdX xs Ln (w32 (i + 3)) fun b3 =>
      bnI (rM_file b1 b2 b3 MR) fun w MR1 =>
      if v = w then j MP1 MR1 else none) else (
    if bAnd v0 63 = 37 then (
      rdX xs Ln (w32 (i + 1)) fun a1 =>
      rdX xs Ln (w32 (i + 2)) fun a2 =>
      bnI (pTop_alike a1 a2 MP) fun v MP1 =>
      rdX xs Ln (w32 (i + 1)) fun b1 =>
      rdX xs Ln (w32 (i + 2)) fun b2 =>
      bnI (rM_alike b1 b2 MR) fun w MR1 =>
      if v = w then j MP1 MR1 else none) else (
    if bAnd v0 63 = 38 then (
      rdX xs Ln (w32 (i + 1)) fun a1 =>
      bnI (pTop_pairing a1 MP) fun v MP1 =>
      rdX xs Ln (w32 (i + 1)) fun b1 =>
      bnI (rM_pairing b1 MR) fun w MR1 =>
      if v = w then j MP1 MR1 else none) else (
    if bAnd v0 63 = 39 then (
      rdX xs Ln (w32 (i + 1)) fun a1 =>
      rdX xs Ln (w32 (i + 2)) fun a2 =>
      rdX xs Ln (w32 (i + 3)) fun a3 =>
      bnI (pTop_meter a1 a2 a3 MP) fun v MP1 =>
      rdX xs Ln (w32 (i + 1)) fun b1 =>
      rdX xs Ln (w32 (i + 2)) fun b2 =>
      rdX xs Ln (w32 (i + 3)) fun b3 =>
      bnI (rM_meter b1 b2 b3 MR) fun w MR1 =>
      if v = w then j MP1 MR1 else none) else (
    if bAnd v0 63 = 40 then (
      rdX xs Ln (w32 (i + 1)) fun a1 =>
      rdX xs Ln (w32 (i + 2)) fun a2 =>
      rdX xs Ln (w32 (i + 3)) fun a3 =>
      bnI (pTop_put a1 a2 a3 MP) fun v MP1 =>
      rdX xs Ln (w32 (i + 1)) fun b1 =>
      rdX xs Ln (w32 (i + 2)) fun b2 =>
      rdX xs Ln (w32 (i + 3)) fun b3 =>
      bnI (rM_put b1 b2 b3 MR) fun w MR1 =>
      if v = w then j MP1 MR1 else none) else (
    if bAnd v0 63 = 41 then (
      rdX xs Ln (w32 (i + 1)) fun a1 =>
      rdX xs Ln (w32 (i + 2)) fun a2 =>
      bnI (pTop_read a1 a2 MP) fun v MP1 =>
      rdX xs Ln (w32 (i + 1)) fun b1 =>
      rdX xs Ln (w32 (i + 2)) fun b2 =>
      bnI (rM_read b1 b2 MR) fun w MR1 =>
      if v = w then j MP1 MR1 else none) else (
    if bAnd v0 63 = 42 then (
      rdX xs Ln (w32 (i + 1)) fun a1 =>
      rdX xs Ln (w32 (i + 2)) fun a2 =>
      rdX xs Ln (w32 (i + 3)) fun a3 =>
      rdX xs Ln (w32 (i + 4)) fun a4 =>
      rdX xs Ln (w32 (i + 5)) fun a5 =>
      bnI (pTop_copy a1 a2 a3 a4 a5 MP) fun v MP1 =>
      rdX xs Ln (w32 (i + 1)) fun b1 =>
      rdX xs Ln (w32 (i + 2)) fun b2 =>
      rdX xs Ln (w32 (i + 3)) fun b3 =>
      rdX xs Ln (w32 (i + 4)) fun b4 =>
      rdX xs Ln (w32 (i + 5)) fun b5 =>
      bnI (rM_copy b1 b2 b3 b4 b5 MR) fun w MR1 =>
      if v = w then j MP1 MR1 else none) else (
    if bAnd v0 63 = 43 then (
      rdX xs Ln (w32 (i + 1)) fun a1 =>
      rdX xs Ln (w32 (i + 2)) fun a2 =>
      bnI (pTop_wrong a1 a2 MP) fun v MP1 =>
      rdX xs Ln (w32 (i + 1)) fun b1 =>
      rdX xs Ln (w32 (i + 2)) fun b2 =>
      bnI (rM_wrong b1 b2 MR) fun w MR1 =>
      if v = w then j MP1 MR1 else none) else (
    if bAnd v0 63 = 44 then (
      rdX xs Ln (w32 (i + 1)) fun a1 =>
      bnI (pTop_owed a1 MP) fun v MP1 =>
      rdX xs Ln (w32 (i + 1)) fun b1 =>
      bnI (rM_owed b1 MR) fun w MR1 =>
      if v = w then j MP1 MR1 else none) else (
    if bAnd v0 63 = 45 then (
      rdX xs Ln (w32 (i + 1)) fun a1 =>
      rdX xs Ln (w32 (i + 2)) fun a2 =>
      bnI (pTop_coin a1 a2 MP) fun v MP1 =>
      rdX xs Ln (w32 (i + 1)) fun b1 =>
      rdX xs Ln (w32 (i + 2)) fun b2 =>
      bnI (rM_coin b1 b2 MR) fun w MR1 =>
      if v = w then j MP1 MR1 else none) else (
    if bAnd v0 63 = 46 then (
      rdX xs Ln (w32 (i + 1)) fun a1 =>
      rdX xs Ln (w32 (i + 2)) fun a2 =>
      bnI (pTop_rule a1 a2 MP) fun v MP1 =>
      rdX xs Ln (w32 (i + 1)) fun b1 =>
      rdX xs Ln (w32 (i + 2)) fun b2 =>
      bnI (rM_rule b1 b2 MR) fun w MR1 =>
      if v = w then j MP1 MR1 else none) else (
    if bAnd v0 63 = 47 then (
      rdX xs Ln (w32 (i + 1)) fun a1 =>
      rdX xs Ln (w32 (i + 2)) fun a2 =>
      rdX xs Ln (w32 (i + 3)) fun a3 =>
      bnI (pTop_feast a1 a2 a3 MP) fun v MP1 =>
      rdX xs Ln (w32 (i + 1)) fun b1 =>
      rdX xs Ln (w32 (i + 2)) fun b2 =>
      rdX xs Ln (w32 (i + 3)) fun b3 =>
      bnI (rM_feast b1 b2 b3 MR) fun w MR1 =>
      if v = w then j MP1 MR1 else none) else (
    if bAnd v0 63 = 48 then (
      rdX xs Ln (w32 (i + 1)) fun a1 =>
      bnI (pTop_waiting a1 MP) fun v MP1 =>
      rdX xs Ln (w32 (i + 1)) fun b1 =>
      bnI (rM_waiting b1 MR) fun w MR1 =>
      if v = w then j MP1 MR1 else none) else (
    if bAnd v0 63 = 49 then (
      rdX xs Ln (w32 (i + 1)) fun a1 =>
      bnI (pTop_gates a1 MP) fun v MP1 =>
      rdX xs Ln (w32 (i + 1)) fun b1 =>
      bnI (rM_gates b1 MR) fun w MR1 =>
      if v = w then j MP1 MR1 else none) else (
    if bAnd v0 63 = 50 then (
      rdX xs Ln (w32 (i + 1)) fun a1 =>
      rdX xs Ln (w32 (i + 2)) fun a2 =>
      rdX xs Ln (w32 (i + 3)) fun a3 =>
      bnI (pTop_clause a1 a2 a3 MP) fun v MP1 =>
      rdX xs Ln (w32 (i + 1)) fun b1 =>
      rdX xs Ln (w32 (i + 2)) fun b2 =>
      rdX xs Ln (w32 (i + 3)) fun b3 =>
      bnI (rM_clause b1 b2 b3 MR) fun w MR1 =>
      if v = w then j MP1 MR1 else none) else (
    if bAnd v0 63 = 51 then (
      rdX xs Ln (w32 (i + 1)) fun a1 =>
      rdX xs Ln (w32 (i + 2)) fun a2 =>
      bnI (pTop_plan a1 a2 MP) fun v MP1 =>
      rdX xs Ln (w32 (i + 1)) fun b1 =>
      rdX xs Ln (w32 (i + 2)) fun b2 =>
      bnI (rM_plan b1 b2 MR) fun w MR1 =>
      if v = w then j MP1 MR1 else none) else (
    if bAnd v0 63 = 52 then (
      rdX xs Ln (w32 (i + 1)) fun a1 =>
      rdX xs Ln (w32 (i + 2)) fun a2 =>
      bnI (pTop_planned a1 a2 MP) fun v MP1 =>
      rdX xs Ln (w32 (i + 1)) fun b1 =>
      rdX xs Ln (w32 (i + 2)) fun b2 =>
      bnI (rM_planned b1 b2 MR) fun w MR1 =>
      if v = w then j MP1 MR1 else none) else (
    if bAnd v0 63 = 53 then (
      rdX xs Ln (w32 (i + 1)) fun a1 =>
      bnI (pTop_tell a1 MP) fun v MP1 =>
      rdX xs Ln (w32 (i + 1)) fun b1 =>
      bnI (rM_tell b1 MR) fun w MR1 =>
      if v = w then j MP1 MR1 else none) else (
    if bAnd v0 63 = 54 then (
      rdX xs Ln (w32 (i + 1)) fun a1 =>
      rdX xs Ln (w32 (i + 2)) fun a2 =>
      bnI (pTop_check a1 a2 MP) fun v MP1 =>
      rdX xs Ln (w32 (i + 1)) fun b1 =>
      rdX xs Ln (w32 (i + 2)) fun b2 =>
      bnI (rM_check b1 b2 MR) fun w MR1 =>
      if v = w then j MP1 MR1 else none) else (
    if bAnd v0 63 = 55 then (
      bnI (pTop_keep MP) fun v MP1 =>
      bnI (rM_keep MR) fun w MR1 =>
      if v = w then j MP1 MR1 else none) else (
    if bAnd v0 63 = 56 then (
      bnI (pTop_back MP) fun v MP1 =>
      bnI (rM_back MR) fun w MR1 =>
      if v = w then j MP1 MR1 else none) else (
    if bAnd v0 63 = 57 then (
      rdX xs Ln (w32 (i + 1)) fun a1 =>
      bnI (pTop_count a1 MP) fun v MP1 =>
      rdX xs Ln (w32 (i + 1)) fun b1 =>
      bnI (rM_count b1 MR) fun w MR1 =>
      if v = w then j MP1 MR1 else none) else (
    j MP MR))))))))))))))))))))))))))))))))))))))))))))))))))))))))))
theorem lawLp_eq {xs : Nat → Int32} {Ln n : Nat} {i : Int} {MP MR : Mem} : lawLp xs Ln (n + 1) i MP MR = if w32 ((Ln : Int) - 6) < i then some () else rdX xs Ln i fun v0 => lawB xs Ln i v0 MP MR fun MP MR => lawLp xs Ln n (w32 (i + 6)) MP MR := rfl
set_option maxRecDepth 100000 in
set_option maxHeartbeats 8000000 in
theorem lawB_ok {xs : Nat → Int32} {Ln : Nat} {i v0 : Int} {MP MR : Mem} {j : Mem → Mem → Option Unit} (hL : Ln ≤ 3072) (i0 : 0 ≤ i) (i1 : i + 6 ≤ (Ln : Int)) (h : Sim i MP MR) (hj : ∀ P R, Sim (i + 6) P R → j P R = some ()) : lawB xs Ln i v0 MP MR j = some () := by
  have hN : i ≤ i + 6 := by omega
  have r1 : ∀ {f : Int → Option Unit}, rdX xs Ln (w32 (i + 1)) f = f (xz xs (i + 1)) := fun {f} => rx_ok (by omega) (by omega) hL
  have r2 : ∀ {f : Int → Option Unit}, rdX xs Ln (w32 (i + 2)) f = f (xz xs (i + 2)) := fun {f} => rx_ok (by omega) (by omega) hL
  have r3 : ∀ {f : Int → Option Unit}, rdX xs Ln (w32 (i + 3)) f = f (xz xs (i + 3)) := fun {f} => rx_ok (by omega) (by omega) hL
  have r4 : ∀ {f : Int → Option Unit}, rdX xs Ln (w32 (i + 4)) f = f (xz xs (i + 4)) := fun {f} => rx_ok (by omega) (by omega) hL
  have r5 : ∀ {f : Int → Option Unit}, rdX xs Ln (w32 (i + 5)) f = f (xz xs (i + 5)) := fun {f} => rx_ok (by omega) (by omega) hL
  unfold lawB
  refine ite_ok (fun _ => ?_) (fun _ => ?_)
  · have hh : O2 (Qa (Sim (i + 6))) (pTop_cell (xz xs (i + 1)) MP) (rM_cell (xz xs (i + 1)) MR) := o2_ag (s_cell h hN)
    obtain ⟨⟨v, P1⟩, ⟨w, R1⟩, f1, f2, f3, f4⟩ := hh
    have f5 : v = w := f3
    rw [r1, f1, bI_k, r1, f2, bI_k, if_pos f5]
    exact hj P1 R1 f4
  refine ite_ok (fun _ => ?_) (fun _ => ?_)
  · have hh : O2 (Qa (Sim (i + 6))) (pTop_water (xz xs (i + 1)) (xz xs (i + 2)) (xz xs (i + 3)) MP) (rM_water (xz xs (i + 1)) (xz xs (i + 2)) (xz xs (i + 3)) MR) := o2_ag (s_water h hN)
    obtain ⟨⟨v, P1⟩, ⟨w, R1⟩, f1, f2, f3, f4⟩ := hh
    have f5 : v = w := f3
    rw [r1, r2, r3, f1, bI_k, r1, r2, r3, f2, bI_k, if_pos f5]
    exact hj P1 R1 f4
  refine ite_ok (fun _ => ?_) (fun _ => ?_)
  · have hh : O2 (Qa (Sim (i + 6))) (pTop_person (xz xs (i + 1)) (xz xs (i + 2)) (xz xs (i + 3)) MP) (rM_person (xz xs (i + 1)) (xz xs (i + 2)) (xz xs (i + 3)) MR) := s_person h hN
    obtain ⟨⟨v, P1⟩, ⟨w, R1⟩, f1, f2, f3, f4⟩ := hh
    have f5 : v = w := f3
    rw [r1, r2, r3, f1, bI_k, r1, r2, r3, f2, bI_k, if_pos f5]
    exact hj P1 R1 f4
  refine ite_ok (fun _ => ?_) (fun _ => ?_)
  · have hh : O2 (Qa (Sim (i + 6))) (pTop_is (xz xs (i + 1)) (xz xs (i + 2)) MP) (rM_is (xz xs (i + 1)) (xz xs (i + 2)) MR) := s_is h hN
    obtain ⟨⟨v, P1⟩, ⟨w, R1⟩, f1, f2, f3, f4⟩ := hh
    have f5 : v = w := f3
    rw [r1, r2, f1, bI_k, r1, r2, f2, bI_k, if_pos f5]
    exact hj P1 R1 f4
  refine ite_ok (fun _ => ?_) (fun _ => ?_)
  · have hh : O2 (Qa (Sim (i + 6))) (pTop_be (xz xs (i + 1)) (xz xs (i + 2)) (xz xs (i + 3)) MP) (rM_be (xz xs (i + 1)) (xz xs (i + 2)) (xz xs (i + 3)) MR) := s_be h hN
    obtain ⟨⟨v, P1⟩, ⟨w, R1⟩, f1, f2, f3, f4⟩ := hh
    have f5 : v = w := f3
    rw [r1, r2, r3, f1, bI_k, r1, r2, r3, f2, bI_k, if_pos f5]
    exact hj P1 R1 f4
  refine ite_ok (fun _ => ?_) (fun _ => ?_)
  · have hh : O2 (Qa (Sim (i + 6))) (pTop_die (xz xs (i + 1)) MP) (rM_die (xz xs (i + 1)) MR) := s_die h hN
    obtain ⟨⟨v, P1⟩, ⟨w, R1⟩, f1, f2, f3, f4⟩ := hh
    have f5 : v = w := f3
    rw [r1, f1, bI_k, r1, f2, bI_k, if_pos f5]
    exact hj P1 R1 f4
  refine ite_ok (fun _ => ?_) (fun _ => ?_)
  · have hh : O2 (Qa (Sim (i + 6))) (pTop_tie (xz xs (i + 1)) (xz xs (i + 2)) (xz xs (i + 3)) (xz xs (i + 4)) MP) (rM_tie (xz xs (i + 1)) (xz xs (i + 2)) (xz xs (i + 3)) (xz xs (i + 4)) MR) := s_tie h hN
    obtain ⟨⟨v, P1⟩, ⟨w, R1⟩, f1, f2, f3, f4⟩ := hh
    have f5 : v = w := f3
    rw [r1, r2, r3, r4, f1, bI_k, r1, r2, r3, r4, f2, bI_k, if_pos f5]
    exact hj P1 R1 f4
  refine ite_ok (fun _ => ?_) (fun _ => ?_)
  · have hh : O2 (Qa (Sim (i + 6))) (pTop_pass (xz xs (i + 1)) (xz xs (i + 2)) (xz xs (i + 3)) (xz xs (i + 4)) MP) (rM_pass (xz xs (i + 1)) (xz xs (i + 2)) (xz xs (i + 3)) (xz xs (i + 4)) MR) := s_pass h hN xz_lo xz_hi
    obtain ⟨⟨v, P1⟩, ⟨w, R1⟩, f1, f2, f3, f4⟩ := hh
    have f5 : v = w := f3
    rw [r1, r2, r3, r4, f1, bI_k, r1, r2, r3, r4, f2, bI_k, if_pos f5]
    exact hj P1 R1 f4
  refine ite_ok (fun _ => ?_) (fun _ => ?_)
  · have hh : O2 (Qa (Sim (i + 6))) (pTop_parcel (xz xs (i + 1)) (xz xs (i + 2)) (xz xs (i + 3)) MP) (rM_parcel (xz xs (i + 1)) (xz xs (i + 2)) (xz xs (i + 3)) MR) := s_parcel h hN
    obtain ⟨⟨v, P1⟩, ⟨w, R1⟩, f1, f2, f3, f4⟩ := hh
    have f5 : v = w := f3
    rw [r1, r2, r3, f1, bI_k, r1, r2, r3, f2, bI_k, if_pos f5]
    exact hj P1 R1 f4
  refine ite_ok (fun _ => ?_) (fun _ => ?_)
  · have hh : O2 (Qa (Sim (i + 6))) (pTop_told (xz xs (i + 1)) (xz xs (i + 2)) MP) (rM_told (xz xs (i + 1)) (xz xs (i + 2)) MR) := s_told h hN
    obtain ⟨⟨v, P1⟩, ⟨w, R1⟩, f1, f2, f3, f4⟩ := hh
    have f5 : v = w := f3
    rw [r1, r2, f1, bI_k, r1, r2, f2, bI_k, if_pos f5]
    exact hj P1 R1 f4
  refine ite_ok (fun _ => ?_) (fun _ => ?_)
  · have hh : O2 (Qa (Sim (i + 6))) (pTop_as (xz xs (i + 1)) (xz xs (i + 2)) MP) (rM_as (xz xs (i + 1)) (xz xs (i + 2)) MR) := s_as h hN
    obtain ⟨⟨v, P1⟩, ⟨w, R1⟩, f1, f2, f3, f4⟩ := hh
    have f5 : v = w := f3
    rw [r1, r2, f1, bI_k, r1, r2, f2, bI_k, if_pos f5]
    exact hj P1 R1 f4
  refine ite_ok (fun _ => ?_) (fun _ => ?_)
  · have hh : O2 (Qa (Sim (i + 6))) (pTop_change (xz xs (i + 1)) (xz xs (i + 2)) MP) (rM_change (xz xs (i + 1)) (xz xs (i + 2)) MR) := s_change h hN
    obtain ⟨⟨v, P1⟩, ⟨w, R1⟩, f1, f2, f3, f4⟩ := hh
    have f5 : v = w := f3
    rw [r1, r2, f1, bI_k, r1, r2, f2, bI_k, if_pos f5]
    exact hj P1 R1 f4
  refine ite_ok (fun _ => ?_) (fun _ => ?_)
  · have hh : O2 (Qa (Sim (i + 6))) (pTop_gate (xz xs (i + 1)) (xz xs (i + 2)) (xz xs (i + 3)) MP) (rM_gate (xz xs (i + 1)) (xz xs (i + 2)) (xz xs (i + 3)) MR) := s_gate h hN
    obtain ⟨⟨v, P1⟩, ⟨w, R1⟩, f1, f2, f3, f4⟩ := hh
    have f5 : v = w := f3
    rw [r1, r2, r3, f1, bI_k, r1, r2, r3, f2, bI_k, if_pos f5]
    exact hj P1 R1 f4
  refine ite_ok (fun _ => ?_) (fun _ => ?_)
  · have hh : O2 (Qa (Sim (i + 6))) (pTop_kinship (xz xs (i + 1)) (xz xs (i + 2)) MP) (rM_kinship (xz xs (i + 1)) (xz xs (i + 2)) MR) := s_kinship h hN
    obtain ⟨⟨v, P1⟩, ⟨w, R1⟩, f1, f2, f3, f4⟩ := hh
    have f5 : v = w := f3
    rw [r1, r2, f1, bI_k, r1, r2, f2, bI_k, if_pos f5]
    exact hj P1 R1 f4
  refine ite_ok (fun _ => ?_) (fun _ => ?_)
  · have hh : O2 (Qa (Sim (i + 6))) (pTop_take (xz xs (i + 1)) MP) (rM_take (xz xs (i + 1)) MR) := s_take h hN
    obtain ⟨⟨v, P1⟩, ⟨w, R1⟩, f1, f2, f3, f4⟩ := hh
    have f5 : v = w := f3
    rw [r1, f1, bI_k, r1, f2, bI_k, if_pos f5]
    exact hj P1 R1 f4
  refine ite_ok (fun _ => ?_) (fun _ => ?_)
  · have hh : O2 (Qa (Sim (i + 6))) (pTop_why (xz xs (i + 1)) MP) (rM_why (xz xs (i + 1)) MR) := s_why h hN
    obtain ⟨⟨v, P1⟩, ⟨w, R1⟩, f1, f2, f3, f4⟩ := hh
    have f5 : v = w := f3
    rw [r1, f1, bI_k, r1, f2, bI_k, if_pos f5]
    exact hj P1 R1 f4
  refine ite_ok (fun _ => ?_) (fun _ => ?_)
  · have hh : O2 (Qa (Sim (i + 6))) (pTop_ask (xz xs (i + 1)) (xz xs (i + 2)) MP) (rM_ask (xz xs (i + 1)) (xz xs (i + 2)) MR) := s_ask h (by omega) (by omega)
    obtain ⟨⟨v, P1⟩, ⟨w, R1⟩, f1, f2, f3, f4⟩ := hh
    have f5 : v = w := f3
    rw [r1, r2, f1, bI_k, r1, r2, f2, bI_k, if_pos f5]
    exact hj P1 R1 f4
  refine ite_ok (fun _ => ?_) (fun _ => ?_)
  · have hh : O2 (Qa (Sim (i + 6))) (pTop_letter (xz xs (i + 1)) (xz xs (i + 2)) MP) (rM_letter (xz xs (i + 1)) (xz xs (i + 2)) MR) := s_letter h hN
    obtain ⟨⟨v, P1⟩, ⟨w, R1⟩, f1, f2, f3, f4⟩ := hh
    have f5 : v = w := f3
    rw [r1, r2, f1, bI_k, r1, r2, f2, bI_k, if_pos f5]
    exact hj P1 R1 f4
  refine ite_ok (fun _ => ?_) (fun _ => ?_)
  · have hh : O2 (Qa (Sim (i + 6))) (pTop_call (xz xs (i + 1)) (xz xs (i + 2)) (xz xs (i + 3)) MP) (rM_call (xz xs (i + 1)) (xz xs (i + 2)) (xz xs (i + 3)) MR) := s_call h hN
    obtain ⟨⟨v, P1⟩, ⟨w, R1⟩, f1, f2, f3, f4⟩ := hh
    have f5 : v = w := f3
    rw [r1, r2, r3, f1, bI_k, r1, r2, r3, f2, bI_k, if_pos f5]
    exact hj P1 R1 f4
  refine ite_ok (fun _ => ?_) (fun _ => ?_)
  · have hh : O2 (Qa (Sim (i + 6))) (pTop_run (xz xs (i + 1)) MP) (rM_run (xz xs (i + 1)) MR) := s_run h hN
    obtain ⟨⟨v, P1⟩, ⟨w, R1⟩, f1, f2, f3, f4⟩ := hh
    have f5 : v = w := f3
    rw [r1, f1, bI_k, r1, f2, bI_k, if_pos f5]
    exact hj P1 R1 f4
  refine ite_ok (fun _ => ?_) (fun _ => ?_)
  · have hh : O2 (Qa (Sim (i + 6))) (pTop_feed (xz xs (i + 1)) (xz xs (i + 2)) (xz xs (i + 3)) MP) (rM_feed (xz xs (i + 1)) (xz xs (i + 2)) (xz xs (i + 3)) MR) := s_feed h hN
    obtain ⟨⟨v, P1⟩, ⟨w, R1⟩, f1, f2, f3, f4⟩ := hh
    have f5 : v = w := f3
    rw [r1, r2, r3, f1, bI_k, r1, r2, r3, f2, bI_k, if_pos f5]
    exact hj P1 R1 f4
  refine ite_ok (fun _ => ?_) (fun _ => ?_)
  · have hh : O2 (Qa (Sim (i + 6))) (pTop_trim (xz xs (i + 1)) MP) (rM_trim (xz xs (i + 1)) MR) := s_trim h hN
    obtain ⟨⟨v, P1⟩, ⟨w, R1⟩, f1, f2, f3, f4⟩ := hh
    have f5 : v = w := f3
    rw [r1, f1, bI_k, r1, f2, bI_k, if_pos f5]
    exact hj P1 R1 f4
  refine ite_ok (fun _ => ?_) (fun _ => ?_)
  · have hh : O2 (Qa (Sim (i + 6))) (pTop_text (xz xs (i + 1)) (xz xs (i + 2)) MP) (rM_text (xz xs (i + 1)) (xz xs (i + 2)) MR) := s_text h hN
    obtain ⟨⟨v, P1⟩, ⟨w, R1⟩, f1, f2, f3, f4⟩ := hh
    have f5 : v = w := f3
    rw [r1, r2, f1, bI_k, r1, r2, f2, bI_k, if_pos f5]
    exact hj P1 R1 f4
  refine ite_ok (fun _ => ?_) (fun _ => ?_)
  · have hh : O2 (Qa (Sim (i + 6))) (pTop_of (xz xs (i + 1)) (xz xs (i + 2)) MP) (rM_of (xz xs (i + 1)) (xz xs (i + 2)) MR) := s_of h hN
    obtain ⟨⟨v, P1⟩, ⟨w, R1⟩, f1, f2, f3, f4⟩ := hh
    have f5 : v = w := f3
    rw [r1, r2, f1, bI_k, r1, r2, f2, bI_k, if_pos f5]
    exact hj P1 R1 f4
  refine ite_ok (fun _ => ?_) (fun _ => ?_)
  · have hh : O2 (Qa (Sim (i + 6))) (pTop_strike (xz xs (i + 1)) MP) (rM_strike (xz xs (i + 1)) MR) := s_strike h hN
    obtain ⟨⟨v, P1⟩, ⟨w, R1⟩, f1, f2, f3, f4⟩ := hh
    have f5 : v = w := f3
    rw [r1, f1, bI_k, r1, f2, bI_k, if_pos f5]
    exact hj P1 R1 f4
  refine ite_ok (fun _ => ?_) (fun _ => ?_)
  · have hh : O2 (Qa (Sim (i + 6))) (pTop_counts (xz xs (i + 1)) (xz xs (i + 2)) MP) (rM_counts (xz xs (i + 1)) (xz xs (i + 2)) MR) := s_counts h hN
    obtain ⟨⟨v, P1⟩, ⟨w, R1⟩, f1, f2, f3, f4⟩ := hh
    have f5 : v = w := f3
    rw [r1, r2, f1, bI_k, r1, r2, f2, bI_k, if_pos f5]
    exact hj P1 R1 f4
  refine ite_ok (fun _ => ?_) (fun _ => ?_)
  · have hh : O2 (Qa (Sim (i + 6))) (pTop_may (xz xs (i + 1)) (xz xs (i + 2)) MP) (rM_may (xz xs (i + 1)) (xz xs (i + 2)) MR) := s_may h hN
    obtain ⟨⟨v, P1⟩, ⟨w, R1⟩, f1, f2, f3, f4⟩ := hh
    have f5 : v = w := f3
    rw [r1, r2, f1, bI_k, r1, r2, f2, bI_k, if_pos f5]
    exact hj P1 R1 f4
  refine ite_ok (fun _ => ?_) (fun _ => ?_)
  · have hh : O2 (Qa (Sim (i + 6))) (pTop_unlike (xz xs (i + 1)) (xz xs (i + 2)) (xz xs (i + 3)) MP) (rM_unlike (xz xs (i + 1)) (xz xs (i + 2)) (xz xs (i + 3)) MR) := s_unlike h hN
    obtain ⟨⟨v, P1⟩, ⟨w, R1⟩, f1, f2, f3, f4⟩ := hh
    have f5 : v = w := f3
    rw [r1, r2, r3, f1, bI_k, r1, r2, r3, f2, bI_k, if_pos f5]
    exact hj P1 R1 f4
  refine ite_ok (fun _ => ?_) (fun _ => ?_)
  · have hh : O2 (Qa (Sim (i + 6))) (pTop_visits (xz xs (i + 1)) MP) (rM_visits (xz xs (i + 1)) MR) := s_visits h hN
    obtain ⟨⟨v, P1⟩, ⟨w, R1⟩, f1, f2, f3, f4⟩ := hh
    have f5 : v = w := f3
    rw [r1, f1, bI_k, r1, f2, bI_k, if_pos f5]
    exact hj P1 R1 f4
  refine ite_ok (fun _ => ?_) (fun _ => ?_)
  · have hh : O2 (Qa (Sim (i + 6))) (pTop_changed (xz xs (i + 1)) MP) (rM_changed (xz xs (i + 1)) MR) := s_changed h hN
    obtain ⟨⟨v, P1⟩, ⟨w, R1⟩, f1, f2, f3, f4⟩ := hh
    have f5 : v = w := f3
    rw [r1, f1, bI_k, r1, f2, bI_k, if_pos f5]
    exact hj P1 R1 f4
  refine ite_ok (fun _ => ?_) (fun _ => ?_)
  · have hh : O2 (Qa (Sim (i + 6))) (pTop_house (xz xs (i + 1)) (xz xs (i + 2)) (xz xs (i + 3)) (xz xs (i + 4)) MP) (rM_house (xz xs (i + 1)) (xz xs (i + 2)) (xz xs (i + 3)) (xz xs (i + 4)) MR) := s_house h hN
    obtain ⟨⟨v, P1⟩, ⟨w, R1⟩, f1, f2, f3, f4⟩ := hh
    have f5 : v = w := f3
    rw [r1, r2, r3, r4, f1, bI_k, r1, r2, r3, r4, f2, bI_k, if_pos f5]
    exact hj P1 R1 f4
  refine ite_ok (fun _ => ?_) (fun _ => ?_)
  · have hh : O2 (Qa (Sim (i + 6))) (pTop_flow (xz xs (i + 1)) MP) (rM_flow (xz xs (i + 1)) MR) := s_flow h hN
    obtain ⟨⟨v, P1⟩, ⟨w, R1⟩, f1, f2, f3, f4⟩ := hh
    have f5 : v = w := f3
    rw [r1, f1, bI_k, r1, f2, bI_k, if_pos f5]
    exact hj P1 R1 f4
  refine ite_ok (fun _ => ?_) (fun _ => ?_)
  · have hh : O2 (Qa (Sim (i + 6))) (pTop_lack (xz xs (i + 1)) MP) (rM_lack (xz xs (i + 1)) MR) := s_lack h hN
    obtain ⟨⟨v, P1⟩, ⟨w, R1⟩, f1, f2, f3, f4⟩ := hh
    have f5 : v = w := f3
    rw [r1, f1, bI_k, r1, f2, bI_k, if_pos f5]
    exact hj P1 R1 f4
  refine ite_ok (fun _ => ?_) (fun _ => ?_)
  · have hh : O2 (Qa (Sim (i + 6))) (pTop_need (xz xs (i + 1)) (xz xs (i + 2)) MP) (rM_need (xz xs (i + 1)) (xz xs (i + 2)) MR) := s_need h hN
    obtain ⟨⟨v, P1⟩, ⟨w, R1⟩, f1, f2, f3, f4⟩ := hh
    have f5 : v = w := f3
    rw [r1, r2, f1, bI_k, r1, r2, f2, bI_k, if_pos f5]
    exact hj P1 R1 f4
  refine ite_ok (fun _ => ?_) (fun _ => ?_)
  · have hh : O2 (Qa (Sim (i + 6))) (pTop_stop (xz xs (i + 1)) (xz xs (i + 2)) (xz xs (i + 3)) MP) (rM_stop (xz xs (i + 1)) (xz xs (i + 2)) (xz xs (i + 3)) MR) := s_stop h hN
    obtain ⟨⟨v, P1⟩, ⟨w, R1⟩, f1, f2, f3, f4⟩ := hh
    have f5 : v = w := f3
    rw [r1, r2, r3, f1, bI_k, r1, r2, r3, f2, bI_k, if_pos f5]
    exact hj P1 R1 f4
  refine ite_ok (fun _ => ?_) (fun _ => ?_)
  · have hh : O2 (Qa (Sim (i + 6))) (pTop_train (xz xs (i + 1)) (xz xs (i + 2)) (xz xs (i + 3)) (xz xs (i + 4)) MP) (rM_train (xz xs (i + 1)) (xz xs (i + 2)) (xz xs (i + 3)) (xz xs (i + 4)) MR) := s_train h hN
    obtain ⟨⟨v, P1⟩, ⟨w, R1⟩, f1, f2, f3, f4⟩ := hh
    have f5 : v = w := f3
    rw [r1, r2, r3, r4, f1, bI_k, r1, r2, r3, r4, f2, bI_k, if_pos f5]
    exact hj P1 R1 f4
  refine ite_ok (fun _ => ?_) (fun _ => ?_)
  · have hh : O2 (Qa (Sim (i + 6))) (pTop_file (xz xs (i + 1)) (xz xs (i + 2)) (xz xs (i + 3)) MP) (rM_file (xz xs (i + 1)) (xz xs (i + 2)) (xz xs (i + 3)) MR) := s_file h hN
    obtain ⟨⟨v, P1⟩, ⟨w, R1⟩, f1, f2, f3, f4⟩ := hh
    have f5 : v = w := f3
    rw [r1, r2, r3, f1, bI_k, r1, r2, r3, f2, bI_k, if_pos f5]
    exact hj P1 R1 f4
  refine ite_ok (fun _ => ?_) (fun _ => ?_)
  · have hh : O2 (Qa (Sim (i + 6))) (pTop_alike (xz xs (i + 1)) (xz xs (i + 2)) MP) (rM_alike (xz xs (i + 1)) (xz xs (i + 2)) MR) := s_alike h hN
    obtain ⟨⟨v, P1⟩, ⟨w, R1⟩, f1, f2, f3, f4⟩ := hh
    have f5 : v = w := f3
    rw [r1, r2, f1, bI_k, r1, r2, f2, bI_k, if_pos f5]
    exact hj P1 R1 f4
  refine ite_ok (fun _ => ?_) (fun _ => ?_)
  · have hh : O2 (Qa (Sim (i + 6))) (pTop_pairing (xz xs (i + 1)) MP) (rM_pairing (xz xs (i + 1)) MR) := s_pairing h hN
    obtain ⟨⟨v, P1⟩, ⟨w, R1⟩, f1, f2, f3, f4⟩ := hh
    have f5 : v = w := f3
    rw [r1, f1, bI_k, r1, f2, bI_k, if_pos f5]
    exact hj P1 R1 f4
  refine ite_ok (fun _ => ?_) (fun _ => ?_)
  · have hh : O2 (Qa (Sim (i + 6))) (pTop_meter (xz xs (i + 1)) (xz xs (i + 2)) (xz xs (i + 3)) MP) (rM_meter (xz xs (i + 1)) (xz xs (i + 2)) (xz xs (i + 3)) MR) := s_meter h hN
    obtain ⟨⟨v, P1⟩, ⟨w, R1⟩, f1, f2, f3, f4⟩ := hh
    have f5 : v = w := f3
    rw [r1, r2, r3, f1, bI_k, r1, r2, r3, f2, bI_k, if_pos f5]
    exact hj P1 R1 f4
  refine ite_ok (fun _ => ?_) (fun _ => ?_)
  · have hh : O2 (Qa (Sim (i + 6))) (pTop_put (xz xs (i + 1)) (xz xs (i + 2)) (xz xs (i + 3)) MP) (rM_put (xz xs (i + 1)) (xz xs (i + 2)) (xz xs (i + 3)) MR) := s_put h hN xz_lo xz_hi
    obtain ⟨⟨v, P1⟩, ⟨w, R1⟩, f1, f2, f3, f4⟩ := hh
    have f5 : v = w := f3
    rw [r1, r2, r3, f1, bI_k, r1, r2, r3, f2, bI_k, if_pos f5]
    exact hj P1 R1 f4
  refine ite_ok (fun _ => ?_) (fun _ => ?_)
  · have hh : O2 (Qa (Sim (i + 6))) (pTop_read (xz xs (i + 1)) (xz xs (i + 2)) MP) (rM_read (xz xs (i + 1)) (xz xs (i + 2)) MR) := s_read h hN
    obtain ⟨⟨v, P1⟩, ⟨w, R1⟩, f1, f2, f3, f4⟩ := hh
    have f5 : v = w := f3
    rw [r1, r2, f1, bI_k, r1, r2, f2, bI_k, if_pos f5]
    exact hj P1 R1 f4
  refine ite_ok (fun _ => ?_) (fun _ => ?_)
  · have hh : O2 (Qa (Sim (i + 6))) (pTop_copy (xz xs (i + 1)) (xz xs (i + 2)) (xz xs (i + 3)) (xz xs (i + 4)) (xz xs (i + 5)) MP) (rM_copy (xz xs (i + 1)) (xz xs (i + 2)) (xz xs (i + 3)) (xz xs (i + 4)) (xz xs (i + 5)) MR) := s_copy2 h hN xz_lo xz_hi xz_lo xz_hi xz_lo xz_hi
    obtain ⟨⟨v, P1⟩, ⟨w, R1⟩, f1, f2, f3, f4⟩ := hh
    have f5 : v = w := f3
    rw [r1, r2, r3, r4, r5, f1, bI_k, r1, r2, r3, r4, r5, f2, bI_k, if_pos f5]
    exact hj P1 R1 f4
  refine ite_ok (fun _ => ?_) (fun _ => ?_)
  · have hh : O2 (Qa (Sim (i + 6))) (pTop_wrong (xz xs (i + 1)) (xz xs (i + 2)) MP) (rM_wrong (xz xs (i + 1)) (xz xs (i + 2)) MR) := s_wrong h hN
    obtain ⟨⟨v, P1⟩, ⟨w, R1⟩, f1, f2, f3, f4⟩ := hh
    have f5 : v = w := f3
    rw [r1, r2, f1, bI_k, r1, r2, f2, bI_k, if_pos f5]
    exact hj P1 R1 f4
  refine ite_ok (fun _ => ?_) (fun _ => ?_)
  · have hh : O2 (Qa (Sim (i + 6))) (pTop_owed (xz xs (i + 1)) MP) (rM_owed (xz xs (i + 1)) MR) := s_owed h hN
    obtain ⟨⟨v, P1⟩, ⟨w, R1⟩, f1, f2, f3, f4⟩ := hh
    have f5 : v = w := f3
    rw [r1, f1, bI_k, r1, f2, bI_k, if_pos f5]
    exact hj P1 R1 f4
  refine ite_ok (fun _ => ?_) (fun _ => ?_)
  · have hh : O2 (Qa (Sim (i + 6))) (pTop_coin (xz xs (i + 1)) (xz xs (i + 2)) MP) (rM_coin (xz xs (i + 1)) (xz xs (i + 2)) MR) := s_coin h hN
    obtain ⟨⟨v, P1⟩, ⟨w, R1⟩, f1, f2, f3, f4⟩ := hh
    have f5 : v = w := f3
    rw [r1, r2, f1, bI_k, r1, r2, f2, bI_k, if_pos f5]
    exact hj P1 R1 f4
  refine ite_ok (fun _ => ?_) (fun _ => ?_)
  · have hh : O2 (Qa (Sim (i + 6))) (pTop_rule (xz xs (i + 1)) (xz xs (i + 2)) MP) (rM_rule (xz xs (i + 1)) (xz xs (i + 2)) MR) := s_rule h hN
    obtain ⟨⟨v, P1⟩, ⟨w, R1⟩, f1, f2, f3, f4⟩ := hh
    have f5 : v = w := f3
    rw [r1, r2, f1, bI_k, r1, r2, f2, bI_k, if_pos f5]
    exact hj P1 R1 f4
  refine ite_ok (fun _ => ?_) (fun _ => ?_)
  · have hh : O2 (Qa (Sim (i + 6))) (pTop_feast (xz xs (i + 1)) (xz xs (i + 2)) (xz xs (i + 3)) MP) (rM_feast (xz xs (i + 1)) (xz xs (i + 2)) (xz xs (i + 3)) MR) := s_feast h hN
    obtain ⟨⟨v, P1⟩, ⟨w, R1⟩, f1, f2, f3, f4⟩ := hh
    have f5 : v = w := f3
    rw [r1, r2, r3, f1, bI_k, r1, r2, r3, f2, bI_k, if_pos f5]
    exact hj P1 R1 f4
  refine ite_ok (fun _ => ?_) (fun _ => ?_)
  · have hh : O2 (Qa (Sim (i + 6))) (pTop_waiting (xz xs (i + 1)) MP) (rM_waiting (xz xs (i + 1)) MR) := s_waiting h hN
    obtain ⟨⟨v, P1⟩, ⟨w, R1⟩, f1, f2, f3, f4⟩ := hh
    have f5 : v = w := f3
    rw [r1, f1, bI_k, r1, f2, bI_k, if_pos f5]
    exact hj P1 R1 f4
  refine ite_ok (fun _ => ?_) (fun _ => ?_)
  · have hh : O2 (Qa (Sim (i + 6))) (pTop_gates (xz xs (i + 1)) MP) (rM_gates (xz xs (i + 1)) MR) := s_gates h hN
    obtain ⟨⟨v, P1⟩, ⟨w, R1⟩, f1, f2, f3, f4⟩ := hh
    have f5 : v = w := f3
    rw [r1, f1, bI_k, r1, f2, bI_k, if_pos f5]
    exact hj P1 R1 f4
  refine ite_ok (fun _ => ?_) (fun _ => ?_)
  · have hh : O2 (Qa (Sim (i + 6))) (pTop_clause (xz xs (i + 1)) (xz xs (i + 2)) (xz xs (i + 3)) MP) (rM_clause (xz xs (i + 1)) (xz xs (i + 2)) (xz xs (i + 3)) MR) := s_clause h hN
    obtain ⟨⟨v, P1⟩, ⟨w, R1⟩, f1, f2, f3, f4⟩ := hh
    have f5 : v = w := f3
    rw [r1, r2, r3, f1, bI_k, r1, r2, r3, f2, bI_k, if_pos f5]
    exact hj P1 R1 f4
  refine ite_ok (fun _ => ?_) (fun _ => ?_)
  · have hh : O2 (Qa (Sim (i + 6))) (pTop_plan (xz xs (i + 1)) (xz xs (i + 2)) MP) (rM_plan (xz xs (i + 1)) (xz xs (i + 2)) MR) := s_plan h hN
    obtain ⟨⟨v, P1⟩, ⟨w, R1⟩, f1, f2, f3, f4⟩ := hh
    have f5 : v = w := f3
    rw [r1, r2, f1, bI_k, r1, r2, f2, bI_k, if_pos f5]
    exact hj P1 R1 f4
  refine ite_ok (fun _ => ?_) (fun _ => ?_)
  · have hh : O2 (Qa (Sim (i + 6))) (pTop_planned (xz xs (i + 1)) (xz xs (i + 2)) MP) (rM_planned (xz xs (i + 1)) (xz xs (i + 2)) MR) := s_planned h hN
    obtain ⟨⟨v, P1⟩, ⟨w, R1⟩, f1, f2, f3, f4⟩ := hh
    have f5 : v = w := f3
    rw [r1, r2, f1, bI_k, r1, r2, f2, bI_k, if_pos f5]
    exact hj P1 R1 f4
  refine ite_ok (fun _ => ?_) (fun _ => ?_)
  · have hh : O2 (Qa (Sim (i + 6))) (pTop_tell (xz xs (i + 1)) MP) (rM_tell (xz xs (i + 1)) MR) := s_tell h hN
    obtain ⟨⟨v, P1⟩, ⟨w, R1⟩, f1, f2, f3, f4⟩ := hh
    have f5 : v = w := f3
    rw [r1, f1, bI_k, r1, f2, bI_k, if_pos f5]
    exact hj P1 R1 f4
  refine ite_ok (fun _ => ?_) (fun _ => ?_)
  · have hh : O2 (Qa (Sim (i + 6))) (pTop_check (xz xs (i + 1)) (xz xs (i + 2)) MP) (rM_check (xz xs (i + 1)) (xz xs (i + 2)) MR) := s_check h hN
    obtain ⟨⟨v, P1⟩, ⟨w, R1⟩, f1, f2, f3, f4⟩ := hh
    have f5 : v = w := f3
    rw [r1, r2, f1, bI_k, r1, r2, f2, bI_k, if_pos f5]
    exact hj P1 R1 f4
  refine ite_ok (fun _ => ?_) (fun _ => ?_)
  · have hh : O2 (Qa (Sim (i + 6))) (pTop_keep MP) (rM_keep MR) := s_keep h hN
    obtain ⟨⟨v, P1⟩, ⟨w, R1⟩, f1, f2, f3, f4⟩ := hh
    have f5 : v = w := f3
    rw [f1, bI_k, f2, bI_k, if_pos f5]
    exact hj P1 R1 f4
  refine ite_ok (fun _ => ?_) (fun _ => ?_)
  · have hh : O2 (Qa (Sim (i + 6))) (pTop_back MP) (rM_back MR) := s_back h hN
    obtain ⟨⟨v, P1⟩, ⟨w, R1⟩, f1, f2, f3, f4⟩ := hh
    have f5 : v = w := f3
    rw [f1, bI_k, f2, bI_k, if_pos f5]
    exact hj P1 R1 f4
  refine ite_ok (fun _ => ?_) (fun _ => ?_)
  · have hh : O2 (Qa (Sim (i + 6))) (pTop_count (xz xs (i + 1)) MP) (rM_count (xz xs (i + 1)) MR) := s_count h hN
    obtain ⟨⟨v, P1⟩, ⟨w, R1⟩, f1, f2, f3, f4⟩ := hh
    have f5 : v = w := f3
    rw [r1, f1, bI_k, r1, f2, bI_k, if_pos f5]
    exact hj P1 R1 f4
  exact hj MP MR (h.up hN)
theorem law_ok {xs : Nat → Int32} {Ln : Nat} (hL : Ln ≤ 3072) : ∀ (n : Nat) (i : Int) (MP MR : Mem), Sim i MP MR → 0 ≤ i → i ≤ (Ln : Int) → (Ln : Int) - i < 6 * (n : Int) → lawLp xs Ln n i MP MR = some ()
  | 0, i, MP, MR, h, i0, i1, hn => by omega
  | n + 1, i, MP, MR, h, i0, i1, hn => by
    rw [lawLp_eq, w32_id (z := (Ln : Int) - 6) (by omega) (by omega)]
    refine ite_ok (fun _ => rfl) (fun c => ?_)
    have hr : ∀ {f : Int → Option Unit}, rdX xs Ln i f = f (xz xs i) := fun {f} => if_pos ⟨i0, by omega⟩
    rw [hr, w32_id (z := i + 6) (by omega) (by omega)]
    exact lawB_ok hL i0 (by omega) h (fun P R hs => law_ok hL n (i + 6) P R hs (by omega) (by omega) (by omega))
theorem z0R {j : Int} (h1 : ¬ j = 11) (h2 : ¬ j = 13) (h3 : ¬ j = 14) : MR0 1 j = 0 := by
  show (if j = 11 then (10 : Int) else if j = 13 then -1 else if j = 14 then -1 else 0) = 0
  rw [if_neg h1, if_neg h2, if_neg h3]
theorem sim0 : Sim 0 MP0 MR0 := by
  have z1 : MR0 1 1 = 0 := rfl
  have z2 : MR0 1 2 = 0 := rfl
  have z3 : MR0 1 3 = 0 := rfl
  have z4 : MR0 1 4 = 0 := rfl
  have z5 : MR0 1 5 = 0 := rfl
  have z6 : MR0 1 6 = 0 := rfl
  have z7 : MR0 1 7 = 0 := rfl
  have y8 : MP0 (100 + 6) 8 = 0 := rfl
  refine ⟨⟨?_, ?_, ?_, ?_, ?_, ?_, ?_, ?_, ?_, ?_, ?_, ?_, ?_⟩, by decide, ?_, ?_, ?_⟩
  · exact ⟨rfl, by decide, rfl, by decide, by decide, fun i i0 i1 => by omega⟩
  · refine ⟨fun k k0 k1 => ?_, rfl, by decide, by decide, rfl, by decide, by decide⟩
    have : k = 0 ∨ k = 1 := by omega
    rcases this with q | q <;> subst q
    · exact ⟨rfl, by decide, by decide⟩
    · exact ⟨rfl, by decide, by decide⟩
  · exact ⟨rfl, by decide, by decide, by decide, by decide, rfl, rfl, by decide, by decide, by decide, by decide, fun i i0 i1 => by omega⟩
  · exact ⟨by decide, by decide, by decide, by decide, fun k k0 k1 => by omega, fun k k' k0 k1 k2 => by omega, fun p p0 p1 => by omega⟩
  · exact fun p p0 p1 => by omega
  · exact ⟨rfl, by decide, by decide, fun i i0 i1 => by omega⟩
  · exact fun i i0 i1 => by omega
  · exact ⟨rfl, by decide, by decide, fun i i0 i1 => by omega⟩
  · exact ⟨rfl, by decide, by decide, fun i i0 i1 => by omega⟩
  · exact ⟨rfl, by decide, by decide, fun i i0 i1 => by omega⟩
  · intro k k0 k1
    have e : MR0 1 (8 + k) = 0 := z0R (by omega) (by omega) (by omega)
    rw [e]
    exact ⟨rfl, by decide, by decide, fun i i0 i1 => by omega⟩
  · intro j j0 j1
    rw [z0R (j := 3900 + j) (by omega) (by omega) (by omega)]
    exact ⟨rfl, by decide, by decide⟩
  · exact ⟨rfl, by decide, by decide, fun i i0 i1 => by omega⟩
  · intro q
    exact absurd q (by decide)
  · have w9 : MR0 0 9 = 0 := rfl
    have w36 : MR0 0 36 = 0 := rfl
    refine ⟨rfl, .inl rfl, rfl, by decide, by decide, fun i i0 i1 => by omega, rfl, by decide, by decide, fun i i0 i1 => by omega, fun k k0 k1 => ?_, fun i i0 i1 => ⟨rfl, by show (-2147483648 : Int) ≤ 0; omega, by show (0 : Int) ≤ 2147483647; omega⟩, rfl⟩
    have : k = 0 ∨ k = 1 := by omega
    rcases this with q | q <;> subst q
    · exact ⟨rfl, by decide, by decide, rfl, by decide, by decide⟩
    · exact ⟨rfl, by decide, by decide, rfl, by decide, by decide⟩
  · exact ⟨by decide, .inl rfl⟩
end
