/-! The law's beginning: classes, constant rows and texts as the Statement gives them; both objects made. -/
section
abbrev nw_T : Cond := Jvm.Cond.and given_1 narrow_1
section Sof
variable {args : Array Value} {s : State} {A : Nat → Prop}
theorem nest_ok (hts : ∀ w ∈ lw_tbl, w.before args s = true) : ∀ q ∈ nestM, va_Nw (.methodLinkNest q.1 q.2.1 q.2.2 "CutCity") s := by
  unfold nestM
  exact List.forall_mem_cons.mpr ⟨va_Nw.of rfl (hts _ (tb_1 (List.mem_of_getElem? (i := 33) rfl))), List.forall_mem_cons.mpr ⟨va_Nw.of rfl (hts _ (tb_1 (List.mem_of_getElem? (i := 40) rfl))), List.forall_mem_cons.mpr ⟨va_Nw.of rfl (hts _ (tb_1 (List.mem_of_getElem? (i := 97) rfl))), List.forall_mem_cons.mpr ⟨va_Nw.of rfl (hts _ (tb_1 (List.mem_of_getElem? (i := 179) rfl))), List.forall_mem_cons.mpr ⟨va_Nw.of rfl (hts _ (tb_1 (List.mem_of_getElem? (i := 212) rfl))), List.forall_mem_cons.mpr ⟨va_Nw.of rfl (hts _ (tb_2 (List.mem_of_getElem? (i := 15) rfl))), List.forall_mem_cons.mpr ⟨va_Nw.of rfl (hts _ (tb_2 (List.mem_of_getElem? (i := 46) rfl))), List.forall_mem_cons.mpr ⟨va_Nw.of rfl (hts _ (tb_2 (List.mem_of_getElem? (i := 63) rfl))), List.forall_mem_cons.mpr ⟨va_Nw.of rfl (hts _ (tb_2 (List.mem_of_getElem? (i := 166) rfl))), List.forall_mem_cons.mpr ⟨va_Nw.of rfl (hts _ (tb_2 (List.mem_of_getElem? (i := 220) rfl))), List.forall_mem_cons.mpr ⟨va_Nw.of rfl (hts _ (tb_2 (List.mem_of_getElem? (i := 238) rfl))), List.forall_mem_cons.mpr ⟨va_Nw.of rfl (hts _ (tb_3 (List.mem_of_getElem? (i := 123) rfl))), List.forall_mem_cons.mpr ⟨va_Nw.of rfl (hts _ (tb_3 (List.mem_of_getElem? (i := 228) rfl))), List.forall_mem_cons.mpr ⟨va_Nw.of rfl (hts _ (tb_6 (List.mem_of_getElem? (i := 178) rfl))), List.forall_mem_cons.mpr ⟨va_Nw.of rfl (hts _ (tb_6 (List.mem_of_getElem? (i := 208) rfl))), List.forall_mem_cons.mpr ⟨va_Nw.of rfl (hts _ (tb_6 (List.mem_of_getElem? (i := 213) rfl))), List.forall_mem_cons.mpr ⟨va_Nw.of rfl (hts _ (tb_6 (List.mem_of_getElem? (i := 218) rfl))), List.forall_mem_cons.mpr ⟨va_Nw.of rfl (hts _ (tb_6 (List.mem_of_getElem? (i := 223) rfl))), List.forall_mem_cons.mpr ⟨va_Nw.of rfl (hts _ (tb_6 (List.mem_of_getElem? (i := 228) rfl))), List.forall_mem_cons.mpr ⟨va_Nw.of rfl (hts _ (tb_6 (List.mem_of_getElem? (i := 233) rfl))), List.forall_mem_cons.mpr ⟨va_Nw.of rfl (hts _ (tb_6 (List.mem_of_getElem? (i := 238) rfl))), fun _ h => absurd h List.not_mem_nil⟩⟩⟩⟩⟩⟩⟩⟩⟩⟩⟩⟩⟩⟩⟩⟩⟩⟩⟩⟩⟩
theorem nestF_ok (hts : ∀ w ∈ lw_tbl, w.before args s = true) : ∀ q ∈ nestF, va_Nw (.fieldLinkNest q.1 q.2.1 "CutCity" q.2.2 "[I" "CutCity") s := by
  unfold nestF
  exact List.forall_mem_cons.mpr ⟨va_Nw.of rfl (hts _ (tb_3 (List.mem_of_getElem? (i := 170) rfl))), List.forall_mem_cons.mpr ⟨va_Nw.of rfl (hts _ (tb_5 (List.mem_of_getElem? (i := 81) rfl))), List.forall_mem_cons.mpr ⟨va_Nw.of rfl (hts _ (tb_5 (List.mem_of_getElem? (i := 236) rfl))), fun _ h => absurd h List.not_mem_nil⟩⟩⟩
end Sof
theorem sr_ok : ∀ (k : Nat) (q : Nat × String), stS[k]? = some q → Cond.stringRef "CutCity$Tape" q.1 q.2 ∈ lw_tbl
  | 0, q, h => by
    obtain rfl : (95, "cross") = q := Option.some.inj h
    exact (tb_4 (List.mem_of_getElem? (i := 162) rfl))
  | 1, q, h => by
    obtain rfl : (97, "carry") = q := Option.some.inj h
    exact (tb_4 (List.mem_of_getElem? (i := 163) rfl))
  | 2, q, h => by
    obtain rfl : (99, "halt") = q := Option.some.inj h
    exact (tb_4 (List.mem_of_getElem? (i := 164) rfl))
  | 3, q, h => by
    obtain rfl : (101, "house") = q := Option.some.inj h
    exact (tb_4 (List.mem_of_getElem? (i := 165) rfl))
  | 4, q, h => by
    obtain rfl : (103, "pay") = q := Option.some.inj h
    exact (tb_4 (List.mem_of_getElem? (i := 166) rfl))
  | 5, q, h => by
    obtain rfl : (105, "apkd") = q := Option.some.inj h
    exact (tb_5 (List.mem_of_getElem? (i := 3) rfl))
  | 6, q, h => by
    obtain rfl : (107, "wxa") = q := Option.some.inj h
    exact (tb_5 (List.mem_of_getElem? (i := 4) rfl))
  | 7, q, h => by
    obtain rfl : (109, "ish") = q := Option.some.inj h
    exact (tb_5 (List.mem_of_getElem? (i := 5) rfl))
  | 8, q, h => by
    obtain rfl : (111, "dfp") = q := Option.some.inj h
    exact (tb_5 (List.mem_of_getElem? (i := 6) rfl))
  | 9, q, h => by
    obtain rfl : (113, "n") = q := Option.some.inj h
    exact (tb_5 (List.mem_of_getElem? (i := 7) rfl))
  | 10, q, h => by
    obtain rfl : (140, "|&<=>+-*/") = q := Option.some.inj h
    exact (tb_5 (List.mem_of_getElem? (i := 83) rfl))
  | k + 11, q, h => by
    have : stS.length = 11 := rfl
    rw [List.getElem?_eq_none (by omega)] at h
    cases h
def tmS (i : Nat) : Term := .string "CutCity$Tape" (stS.getD i (0, "")).1
theorem ms_ex : ∀ i, i < 11 → Cond.exactly (tmS i) "java/lang/String" ∈ flatC nw_T := by decide +kernel
theorem ms_co : ∀ i, i < 11 → Cond.eq (.field (tmS i) "java/lang/String" "coder" "B") (.int 0) ∈ flatC nw_T := by decide +kernel
theorem ms_ar : ∀ i, i < 11 → Cond.arrayOf (.field (tmS i) "java/lang/String" "value" "[B") .byte ∈ flatC nw_T := by decide +kernel
theorem ms_le : ∀ i, i < 11 → Cond.eq (.length (.field (tmS i) "java/lang/String" "value" "[B")) (.int (Int32.ofNat (sLen.getD i 0))) ∈ flatC nw_T := by decide +kernel
theorem ms_el : ∀ i, i < 11 → ∀ j, j < sLen.getD i 0 → Cond.eq (.elem (.field (tmS i) "java/lang/String" "value" "[B") (.int (Int32.ofNat j))) (.int ((sByt.getD i []).getD j 0)) ∈ flatC nw_T := by decide +kernel
theorem ms_ne : ∀ i, i < 11 → ∀ j, j < 11 → i < j → Cond.not (Cond.eq (tmS i) (tmS j)) ∈ flatC nw_T := by decide +kernel
theorem ms_2 : ∀ i, i < 11 → sLen.getD i 0 < 2147483648 := by decide +kernel
theorem mt_ar : Cond.arrayOf (.static "CutCity" "ABOVE" "[I") .int ∈ flatC nw_T ∧ Cond.arrayOf (.static "CutCity" "FIGURES" "[I") .int ∈ flatC nw_T ∧ Cond.arrayOf (.static "CutCity" "TIGHT" "[I") .int ∈ flatC nw_T := by decide +kernel
theorem mt_le : Cond.eq (.length (.static "CutCity" "ABOVE" "[I")) (.int 8) ∈ flatC nw_T ∧ Cond.eq (.length (.static "CutCity" "FIGURES" "[I")) (.int 4) ∈ flatC nw_T ∧ Cond.eq (.length (.static "CutCity" "TIGHT" "[I")) (.int 10) ∈ flatC nw_T := by decide +kernel
theorem mt_a : ∀ j, j < 8 → Cond.eq (.elem (.static "CutCity" "ABOVE" "[I") (.int (Int32.ofNat j))) (.int (Int32.ofInt (([-1, 0, 0, 0, 3, 0, 5, 6] : List Int).getD j 0))) ∈ flatC nw_T := by decide +kernel
theorem mt_f : ∀ j, j < 4 → Cond.eq (.elem (.static "CutCity" "FIGURES" "[I") (.int (Int32.ofNat j))) (.int (Int32.ofInt (([1, 10, 100, 1000] : List Int).getD j 0))) ∈ flatC nw_T := by decide +kernel
theorem mt_t : ∀ j, j < 10 → Cond.eq (.elem (.static "CutCity" "TIGHT" "[I") (.int (Int32.ofNat j))) (.int (Int32.ofInt (([1, 2, 3, 3, 3, 4, 4, 5, 5, 6] : List Int).getD j 0))) ∈ flatC nw_T := by decide +kernel
theorem mt_0 : Cond.eq (.static "java/lang/String" "COMPACT_STRINGS" "Z") (.int 1) ∈ flatC nw_T ∧ Cond.isRef (.static "jdk/internal/util/Preconditions" "SIOOBE_FORMATTER" "Ljava/util/function/BiFunction;") ∈ flatC nw_T := by decide +kernel
theorem is_L11 : Cond.instantiable RX11 10 ∈ wsT := wsT_in (tb_1 (List.mem_of_getElem? (i := 24) rfl)) rfl
theorem is_L12 : Cond.instantiable RX12 39 ∈ wsT := wsT_in (tb_7 (List.mem_of_getElem? (i := 29) rfl)) rfl
section Sof2
variable {args : Array Value} {s : State} {A : Nat → Prop}
theorem str_ok (hts : ∀ w ∈ lw_tbl, w.before args s = true) (hs : ∀ c ∈ flatC nw_T, c.before args s = true) (hA : ∀ a : Nat, a < s.heap.size → ¬ A a) : ∃ adK adV : Nat → Nat, vk_S 11 sLen sByt adK adV A s s.heap ∧ ∀ (k : Nat) (q : Nat × String), stS[k]? = some q → vk_R "CutCity$Tape" q.1 q.2 (adK k) s := by
  obtain ⟨adK, adV, h1, h2⟩ := vk_Sof (args := args) (s := s) (N := 11) (tm := tmS) (len := sLen) (byt := sByt) (A := A) (fun i hi => ms_2 i hi) (fun i hi => hs _ (ms_ex i hi)) (fun i hi => hs _ (ms_co i hi)) (fun i hi => hs _ (ms_ar i hi)) (fun i hi => hs _ (ms_le i hi)) (fun i hi j hj => hs _ (ms_el i hi j hj)) (fun i j hi hj hne => by
    rcases Nat.lt_or_gt_of_ne hne with h | h
    · exact .inl (hs _ (ms_ne i hi j hj h))
    · exact .inr (hs _ (ms_ne j hj i hi h))) hA
  refine ⟨adK, adV, h1, fun k q hq => ?_⟩
  have hk : k < 11 := (List.getElem?_eq_some_iff.mp hq).1
  have e : stS.getD k (0, "") = q := by rw [List.getD_eq_getElem?_getD, hq]; rfl
  have h3 := h2 k hk
  unfold tmS at h3
  rw [e] at h3
  exact vk_R.of (hts _ (sr_ok k q hq)) h3
theorem tab_ok (hts : ∀ w ∈ lw_tbl, w.before args s = true) (hs : ∀ c ∈ flatC nw_T, c.before args s = true) (hA : ∀ a : Nat, a < s.heap.size → ¬ A a) {n : String} {l : List Int} {N : Nat} (hN : l.length = N) (hN2 : N < 2147483648) (h0 : Cond.laysStatic "CutCity" n "[I" ∈ lw_tbl) (h1 : Cond.arrayOf (.static "CutCity" n "[I") .int ∈ flatC nw_T) (h2 : Cond.eq (.length (.static "CutCity" n "[I")) (.int (Int32.ofNat N)) ∈ flatC nw_T) (h3 : ∀ j, j < N → Cond.eq (.elem (.static "CutCity" n "[I") (.int (Int32.ofNat j))) (.int (Int32.ofInt (l.getD j 0))) ∈ flatC nw_T) : ∃ t : Nat, va_Z "CutCity" n "[I" (.ref t) A s s.heap ∧ va_T .int t l.length (fun j => .int (Int32.ofInt (l.getD j 0))) A s s.heap := by
  obtain ⟨t, e, h⟩ := va_Tof (N := N) (f := fun j => .int (Int32.ofInt (l.getD j 0))) (A := A) hN2 (hs _ h1) (va_eqt (hs _ h2)) (fun j hj => va_eqt (hs _ (h3 j hj))) hA
  exact ⟨t, va_Zof (hts _ h0) (hts _ (tb_1 (List.mem_of_getElem? (i := 1) rfl))) e hA, by rw [hN]; exact h⟩
theorem known_ok (hw : ∀ w ∈ wsT, w.before args s = true) : ∃ D : va_G, ∀ (c : Nat) (q : vw_C), vwCl[c]? = some q → u_Kn s q.1 q.2.1 q.2.2 (D.1 c) (D.2 c) := by
  have key : ∀ {ci N : Nat} {Cn : String} {Tn : u_T} {ty : Nat → FieldType}, Kl ci Cn Tn N ty → Cond.instantiable Cn N ∈ wsT → ∃ z : ClassId × (Nat → Nat), ∀ q : vw_C, vwCl[ci]? = some q → u_Kn s q.1 q.2.1 q.2.2 z.1 z.2 := fun {ci N Cn Tn ty} hk hi => by
    obtain ⟨cC, iS, h⟩ := u_known (C := Cn) (T := Tn) (N := N) (n := N) hw hk.2.1 (hw _ hi)
    refine ⟨(cC, iS), fun q hq => ?_⟩
    rw [hk.1] at hq
    cases hq
    exact h
  have h0 : ∀ c : Nat, ∃ z : ClassId × (Nat → Nat), ∀ q : vw_C, vwCl[c]? = some q → u_Kn s q.1 q.2.1 q.2.2 z.1 z.2 := fun c => by
    match c with
    | 0 => exact key kX0 is_X0
    | 1 => exact key kX1 is_X1
    | 2 => exact key kX2 is_X2
    | 3 => exact key kX3 is_X3
    | 4 => exact key kX4 is_X4
    | 5 => exact key kX5 is_X5
    | 6 => exact key kX6 is_X6
    | 7 => exact key kX7 is_X7
    | 8 => exact key kX8 is_X8
    | 9 => exact key kX9 is_X9
    | 10 => exact key kX10 is_X10
    | 11 => exact key kX11 is_L11
    | 12 => exact key kX12 is_L12
    | c + 13 =>
      obtain ⟨z, _⟩ := key kX0 is_X0
      refine ⟨z, fun q hq => ?_⟩
      have hl : vwCl.length = 13 := rfl
      rw [List.getElem?_eq_none (by omega)] at hq
      cases hq
  obtain ⟨f, hf⟩ := Classical.axiomOfChoice h0
  exact ⟨(fun c => (f c).1, fun c => (f c).2), fun c q hq => hf c q hq⟩
def gd0 (b t0 t1 t2 : Nat) (adK adV : Nat → Nat) (id : Nat) : Nat := if id = 9999 then b else if id = 9500 then t0 else if id = 9501 then t1 else if id = 9502 then t2 else if 9200 ≤ id then adV (id - 9200) else adK (id - 9000)
theorem g0_ok (hts : ∀ w ∈ lw_tbl, w.before args s = true) (hs : ∀ c ∈ flatC nw_T, c.before args s = true) (b : Nat) : ∃ G : Gx, gb G = s.heap.size ∧ gd G 9999 = b ∧ Ev G s s.heap := by
  have hA : ∀ a : Nat, a < s.heap.size → ¬ s.heap.size ≤ a := fun a h => Nat.not_le.mpr h
  have hw : ∀ w ∈ wsT, w.before args s = true := fun w h => hts w (List.mem_filter.mp h).1
  obtain ⟨D, hD⟩ := known_ok hw
  obtain ⟨cA, kA, comp, a1, a2, a3⟩ := Cond.arrayClass_spec (hw _ ac_int)
  obtain ⟨adK, adV, s1, s2⟩ := str_ok (A := fun q => s.heap.size ≤ q) hts hs hA
  obtain ⟨t0, x0, y0⟩ := tab_ok (A := fun q => s.heap.size ≤ q) (n := "ABOVE") (l := [-1, 0, 0, 0, 3, 0, 5, 6]) (N := 8) hts hs hA rfl (by decide) (tb_3 (List.mem_of_getElem? (i := 171) rfl)) mt_ar.1 mt_le.1 mt_a
  obtain ⟨t1, x1, y1⟩ := tab_ok (A := fun q => s.heap.size ≤ q) (n := "FIGURES") (l := [1, 10, 100, 1000]) (N := 4) hts hs hA rfl (by decide) (tb_5 (List.mem_of_getElem? (i := 237) rfl)) mt_ar.2.1 mt_le.2.1 mt_f
  obtain ⟨t2, x2, y2⟩ := tab_ok (A := fun q => s.heap.size ≤ q) (n := "TIGHT") (l := [1, 2, 3, 3, 3, 4, 4, 5, 5, 6]) (N := 10) hts hs hA rfl (by decide) (tb_5 (List.mem_of_getElem? (i := 82) rfl)) mt_ar.2.2 mt_le.2.2 mt_t
  refine ⟨(D, cA, gd0 b t0 t1 t2 adK adV, s.heap.size, [], [], fun _ => 0), rfl, rfl, ⟨hD, fun k q hq => ?_⟩, nest_ok hts, nestF_ok hts, ⟨fun k q hq => ?_, ?_, fun k q hq => ?_, ?_, ?_⟩, Nat.le_refl _⟩
  · match k, hq with
    | 0, hq =>
      obtain rfl : (cA, FieldType.int) = q := Option.some.inj hq
      exact ⟨fun n z => ⟨fun k h => (by cases h), kA, a2, comp, a3⟩, a1⟩
    | k + 1, hq =>
      rw [List.getElem?_eq_none (by simp)] at hq
      cases hq
  · match k, hq with
    | 0, hq =>
      obtain rfl : ("ABOVE", [-1, 0, 0, 0, 3, 0, 5, 6]) = q := Option.some.inj hq
      exact ⟨x0, y0⟩
    | 1, hq =>
      obtain rfl : ("FIGURES", [1, 10, 100, 1000]) = q := Option.some.inj hq
      exact ⟨x1, y1⟩
    | 2, hq =>
      obtain rfl : ("TIGHT", [1, 2, 3, 3, 3, 4, 4, 5, 5, 6]) = q := Option.some.inj hq
      exact ⟨x2, y2⟩
    | k + 3, hq =>
      have hl : stA.length = 3 := rfl
      rw [List.getElem?_eq_none (by omega)] at hq
      cases hq
  · have eK : ∀ i, i < 11 → gd0 b t0 t1 t2 adK adV (9000 + i) = adK i := fun i hi => by
      unfold gd0
      rw [if_neg (by omega), if_neg (by omega), if_neg (by omega), if_neg (by omega), if_neg (by omega), show 9000 + i - 9000 = i by omega]
    have eV : ∀ i, i < 11 → gd0 b t0 t1 t2 adK adV (9200 + i) = adV i := fun i hi => by
      unfold gd0
      rw [if_neg (by omega), if_neg (by omega), if_neg (by omega), if_neg (by omega), if_pos (by omega), show 9200 + i - 9200 = i by omega]
    refine ⟨fun i hi => ?_, fun i j hi hj h => ?_⟩
    · have := s1.1 i hi
      rw [← eK i hi, ← eV i hi] at this
      exact this
    · refine s1.2 i j hi hj ?_
      rw [← eK i hi, ← eK j hj]
      exact h
  · have hk : k < 11 := (List.getElem?_eq_some_iff.mp hq).1
    have eK : gd0 b t0 t1 t2 adK adV (9000 + k) = adK k := by
      unfold gd0
      rw [if_neg (by omega), if_neg (by omega), if_neg (by omega), if_neg (by omega), if_neg (by omega), show 9000 + k - 9000 = k by omega]
    have := s2 k q hq
    rw [← eK] at this
    exact this
  · exact va_Zof (hts _ (tb_4 (List.mem_of_getElem? (i := 180) rfl))) (hts _ (tb_1 (List.mem_of_getElem? (i := 16) rfl))) (va_eqi (hs _ mt_0.1)) hA
  · exact va_Zqof (hts _ (tb_4 (List.mem_of_getElem? (i := 196) rfl))) (hts _ (tb_1 (List.mem_of_getElem? (i := 18) rfl))) (hs _ mt_0.2) hA
end Sof2
theorem Ev_GN {G : Gx} {h h2 : Nat} {q : tT} {q2 : Nat → Nat} {U : State} {H : Heap} (hE : Ev G U H) : Ev (GN G h q h2 q2) U H := by
  have e0 : ∀ id, 9000 ≤ id → gd (GN G h q h2 q2) id = gd G id := fun id hi => if_pos hi
  have e1 : ∀ k, gd (GN G h q h2 q2) (9500 + k) = gd G (9500 + k) := fun k => e0 _ (by omega)
  have e2 : (fun k => gd (GN G h q h2 q2) (9000 + k)) = fun k => gd G (9000 + k) := funext fun k => e0 _ (by omega)
  have e3 : (fun k => gd (GN G h q h2 q2) (9200 + k)) = fun k => gd G (9200 + k) := funext fun k => e0 _ (by omega)
  have e4 : ∀ k, gd (GN G h q h2 q2) (9000 + k) = gd G (9000 + k) := fun k => e0 _ (by omega)
  obtain ⟨a1, a2, a3, ⟨b1, b2, b3, b4, b5⟩, a5⟩ := hE
  refine ⟨a1, a2, a3, ⟨fun k z hz => ?_, ?_, fun k z hz => ?_, b4, b5⟩, a5⟩
  · have := b1 k z hz
    rw [← e1 k] at this
    exact this
  · rw [← e2, ← e3] at b2
    exact b2
  · have := b3 k z hz
    rw [← e4 k] at this
    exact this
theorem okM_MP0 : OkM MP0 := by
  intro a j
  unfold MP0 R32
  repeat' split
  all_goals omega
theorem okM_MR0 : OkM MR0 := by
  intro a j
  unfold MR0 R32
  repeat' split
  all_goals omega
theorem cl_L_7 : Cond.classLink RL 7 RX11 ∈ wsT := wsT_in (tb_1 (List.mem_of_getElem? (i := 23) rfl)) rfl
theorem cl_L_10 : Cond.classLink RL 10 RX12 ∈ wsT := wsT_in (tb_7 (List.mem_of_getElem? (i := 28) rfl)) rfl
theorem ml_L_i9 : Cond.methodLink RL 9 yX11_init ∈ wsT := wsT_in (tb_1 (List.mem_of_getElem? (i := 25) rfl)) rfl
theorem ml_L_i12 : Cond.methodLink RL 12 yX12_init ∈ wsT := wsT_in (tb_7 (List.mem_of_getElem? (i := 30) rfl)) rfl
theorem in_L11 : Cond.initialized RX11 ∈ wsT := wsT_in (tb_1 (List.mem_of_getElem? (i := 1) rfl)) rfl
theorem in_L12 : Cond.initialized RX12 ∈ wsT := wsT_in (tb_1 (List.mem_of_getElem? (i := 13) rfl)) rfl
set_option maxRecDepth 100000 in
theorem bd_law {X : Xc} (C : Cx X RL code ret) (hR : xR X = room_1) (hn : xn X = 4) {b : Nat} (hk : ∀ (h : Nat) (q : tT) (h2 : Nat) (q2 : Nat → Nat), Bd X 513 5778432 18 [(3, .int 0), (2, .ref h2), (1, .ref h), (0, .ref b)] [] [] (psX11 (xG X) h q ++ psX12 (xG X) h2 q2)) : Bd X 742 5813640 0 [(0, .ref b)] [] [] [] := by
  have hRm : ∀ {rm : Room} {ny : Nat}, RmOk room_1 rm ny → RmOk (xR X) rm ny := fun h => by rw [hR]; exact h
  refine b_new (kc' := 741) (ks' := 5813630) C kX11 dL_law_0 cl_L_7 is_L11 in_L11 dfX11 (Nat.le_of_ble_eq_true rfl) (Nat.le_of_ble_eq_true rfl) (fun h => ?_)
  refine b_dup C dL_law_3 rfl ?_
  refine b_callL (kc' := 535) (ks' := 5803697) C dL_law_4 ml_L_i9 cal_X11_init rfl im_X11_init (hRm ⟨Nat.le_of_ble_eq_true rfl, Nat.le_of_ble_eq_true rfl⟩) (Nat.le_of_ble_eq_true rfl) (cc_X11_init (xl X) (xG X)) (Nat.le_of_ble_eq_true rfl) (Nat.le_of_ble_eq_true rfl) (fun q => ?_)
  refine b_astore (L' := [(1, .ref h), (0, .ref b)]) C dL_law_7 rfl (by rw [hn]; decide) rfl ?_
  refine b_new (kc' := 534) (ks' := 5803658) C kX12 dL_law_8 cl_L_10 is_L12 in_L12 dfX12 (Nat.le_of_ble_eq_true rfl) (Nat.le_of_ble_eq_true rfl) (fun h2 => ?_)
  refine b_dup C dL_law_11 rfl ?_
  refine b_callL (kc' := 513) (ks' := 5778432) C dL_law_12 ml_L_i12 cal_X12_init rfl im_X12_init (hRm ⟨Nat.le_of_ble_eq_true rfl, Nat.le_of_ble_eq_true rfl⟩) (Nat.le_of_ble_eq_true rfl) (cc_X12_init (xl X) (xG X)) (Nat.le_of_ble_eq_true rfl) (Nat.le_of_ble_eq_true rfl) (fun q2 => ?_)
  refine b_astore (L' := [(2, .ref h2), (1, .ref h), (0, .ref b)]) C dL_law_15 rfl (by rw [hn]; decide) rfl ?_
  refine b_iconst C dL_law_16 (v := 0) rfl ?_
  refine b_istore (L' := [(3, .int 0), (2, .ref h2), (1, .ref h), (0, .ref b)]) C dL_law_17 rfl (by rw [hn]; decide) rfl ?_
  exact hk h q h2 q2
end
