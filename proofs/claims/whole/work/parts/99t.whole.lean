/-! The law from its entry. -/
section
abbrev X0L (p : Program) (l : Launch) (e : Env) (s : State) (m : MethodId) (b : Nat) (below : List Frame) (meth : Method) (c : Code) (G : Gx) (ba : Nat → Nat) : Xc := (p, l, e, room_1, s, m, #[Value.ref b], below, meth, c, G, kL, 4, lw_Z below #[Value.ref b] s, ba)
set_option maxRecDepth 100000 in
theorem whole_start {p : Program} {e : Env} {s : State} {m : MethodId} {below : List Frame} {meth : Method} {c : Code} (l : Launch) (hflags : l.flags = flags0) {b L : Nat} {xs : Nat → Int32} (hL : L ≤ 3072) (C0 : lw_At p s m meth c b L xs) : W p l e room_1 s m #[Value.ref b] below meth c s.heap [] 0 0 (lw_Z below #[Value.ref b] s) (entryFrame m ([Value.ref b] : List Value).toArray 4) := by
  obtain ⟨hx, hb, hr, hml, hown, hts, hX, hbl, hlocks, hgv⟩ := id C0
  have hs := flat_of_before nw_T hgv
  obtain ⟨G, g1, g2, hE⟩ := g0_ok hts hs b
  have hwT : ∀ w ∈ wsT, w.before #[Value.ref b] s = true := fun w h => hts w (List.mem_filter.mp h).1
  have C1 : Cx (X0L p l e s m b below meth c G (fun _ => 0)) RL code ret := ⟨hx, hb, hml, hown, hwT, hE, kL_ok, hlocks, hr⟩
  have hl := lv_entry [Value.ref b] (n := 4) (Nat.le_of_ble_eq_true rfl)
  have hP0 : va_P (gD G) vwCl ([] ++ []) s.heap := fun k q h => by simp at h
  have hD0 : va_D (gF G) ([] ++ []) := ⟨fun i j p q h => by simp at h, fun k q h => by simp at h⟩
  rw [lg_entry_eq]
  refine bd_law (X := X0L p l e s m b below meth c G (fun _ => 0)) C1 rfl rfl (b := b) (fun h q h2 q2 => ?_) s.heap [] _ 0 0 (Nat.le_of_ble_eq_true rfl) (Nat.le_of_ble_eq_true rfl) hl hP0 hD0 va_S.rf
  intro H locs ls cells slots k1 k2 hls hP hD hSS
  have C2 : Cx (X0L p l e s m b below meth c (GN G h q h2 q2) (baN q)) RL code ret := ⟨hx, hb, hml, hown, hwT, Ev_GN hE, kL_ok, hlocks, hr⟩
  have h9 : gd (GN G h q h2 q2) 9999 = b := by
    have e9 : ∀ id, 9000 ≤ id → gd (GN G h q h2 q2) id = gd G id := fun id hi => if_pos hi
    rw [e9 9999 (by omega)]
    exact g2
  have hsc : Scr (X0L p l e s m b below meth c (GN G h q h2 q2) (baN q)) L xs := by
    refine ⟨?_, ?_, g1⟩
    · show va_X (gd (GN G h q h2 q2) 9999) L xs s s.heap
      rw [h9]
      exact hX
    · show gd (GN G h q h2 q2) 9999 < s.heap.size
      rw [h9]
      exact hbl
  have hLr : R32 (L : Int) := ⟨by omega, by omega⟩
  have hlaw := w_law C2 rfl rfl rfl rfl rfl hsc hLr (sb := b) rfl rfl 513 0 MP0 MR0
  have ec : cL (gd (GN G h q h2 q2)) (baN q) [(0, aR 9999), (1, aR 0), (2, aR 1000), (3, aI 0)] = [(0, Value.ref b), (1, Value.ref h), (2, Value.ref h2), (3, Value.int 0)] := by
    show [(0, Value.ref (gd (GN G h q h2 q2) 9999)), (1, Value.ref h), (2, Value.ref h2), (3, Value.int (Int32.ofInt 0))] = _
    rw [h9]
    rfl
  have hls2 : lv_has ls 4 [(0, Value.ref b), (1, Value.ref h), (2, Value.ref h2), (3, Value.int 0)] := lv_sub hls [3, 2, 1, 0] rfl
  have hls3 : lv_has ls 4 (cL (gd (GN G h q h2 q2)) (baN q) [(0, aR 9999), (1, aR 0), (2, aR 1000), (3, aI 0)]) := by rw [ec]; exact hls2
  have eq1 := cA_eq G h q h2 q2
  have hP1 : va_P (gD G) vwCl (clA (GN G h q h2 q2) (baN q) (mix MP0 MR0)) H := by rw [← eq1]; exact hP
  have hD1 : va_D (gF G) (clA (GN G h q h2 q2) (baN q) (mix MP0 MR0)) := by rw [← eq1]; exact hD
  have im := isN_map (G := GN G h q h2 q2) rfl rfl (baN q) (mix MP0 MR0)
  have hnd : va_nd isN = true := by decide +kernel
  exact hlaw (law_ok hL 513 0 MP0 MR0 sim0 (by omega) (by omega) (by omega)) (okM_mix okM_MP0 okM_MR0) ⟨trivial, trivial, trivial, ⟨by decide, by decide⟩, trivial⟩ trivial (baN q) (fun _ => rfl) H locs ls cells slots k1 k2 hls3 (hP1.sub isN (fm_of im)) (hD1.sub isN hnd im) hSS
end
