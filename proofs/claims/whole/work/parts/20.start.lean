/-! The law's beginning: both objects made, their cells brought to the law's world. -/
section StartRows
variable {X : Xc} {own : String} {cc : ByteArray} {ret : Option FieldType} {kc ks kc' ks' pc pc' : Nat} {L L' : List (Nat × Value)} {st : List Value} {wr tl tl' : va_W}
theorem b_astore (C : Cx X own cc ret) {i : Fin 4} {j a : Nat} (hd : Dc cc pc (.astore_n i) 1 pc') (hi : (i : Nat) = j) (hn : j < xn X) (hl : (j, Value.ref a) :: L.filter (fun q => !(q.1 == j) && !(q.1 + 1 == j && q.2.category == 2)) = L') (k : Bd X kc ks pc' L' st wr tl) : Bd X kc ks pc L (.ref a :: st) wr tl := by
  intro H locs ls cells slots h1 h2 hls hP hD hSS
  obtain ⟨hd, rfl⟩ := hd
  exact lv_astore_n C.1 C.2.1 hd hi hls hn hl (fun ls' hls' => k H locs ls' cells slots h1 h2 hls' hP hD hSS)
theorem b_callL {τ : Type} (C : Cx X own cc ret) {y : MethodName} {cy : ByteArray} {ny idx ci a : Nat} {rm : Room} {fs : List Value} {post : Nat → τ → va_W} {rest : List Value} (hd : Dc cc pc (.invokespecial idx) 3 pc') (hw : Cond.methodLink own idx y ∈ wsT) (hy : Cal y cy ny none 0) (hyn : y.name = "<init>") (hin : Cond.instanceMethod y ∈ wsT) (hR : RmOk (xR X) rm ny) (hs : (rest.map fun v => v.category).sum ≤ 8) (hc : Cc (xl X) (xG X) y (wsM y cy ny none) rm ci fs post) (hkc : rm.cells + kc' ≤ kc) (hks : rm.slots + ks' ≤ ks) (kk : ∀ q : τ, Bd X kc' ks' pc' L rest wr (tl ++ post a q)) : Bd X kc ks pc L (.ref a :: rest) wr (tl ++ [(a, .inr (ci, fs))]) := by
  intro H locs ls cells slots h1 h2 hls hP hD hSS
  obtain ⟨hd, rfl⟩ := hd
  have hts := C.2.2.2.2.1
  rw [← List.append_assoc] at hP hD
  have hrun := va_runI (H := H) (locs := locs) (cells := cells) (slots := slots) (As := []) (rest := rest) (b := a) (g := F0 (xm X) pc ls (.ref a :: rest)) (below := xb X) (e := xe X) (meth := xt X) ⟨C.1, C.2.1, C.2.2.1, C.2.2.2.1, hts⟩ (hc (wr ++ tl) a) ⟨callB_of 0 hts (wsM_good (fun _ h => h) hy.1) rfl rfl rfl (hts _ hy.2.1) (hts _ hw) hy.2.2 hR, hyn, hts _ hin⟩ ⟨fun a U g mk h => ⟨h.1, h.2.1.same rfl, h.2.2.1, h.2.2.2⟩, fun U hU hW => ⟨rfl, by rw [hU]; exact (C.2.2.2.2.2.1.kept hSS).warm hW, by rw [hU]; exact hP, hD⟩⟩ rfl rfl hls.1 rfl (lv_room hs) hd ⟨by omega, by omega⟩
  intro T hT Xs
  obtain ⟨v, st₀, t, T', Ls, h0, X', hL, e1, e2, ⟨⟨q, hv, hP2, hD2⟩, hz, hk⟩, st⟩ := hrun T hT Xs
  cases hv
  rw [h0] at hz hk
  rw [List.append_assoc] at hP2 hD2
  obtain ⟨t2, a1, b1⟩ := kk q T'.heap (locs ++ Ls) ls (cells + rm.cells) (slots + rm.slots) (by omega) (by omega) hls (by rw [e1]; exact hP2) hD2
    ⟨Nat.le_trans hSS.1 (by rw [e1]; exact hz), fun q h1 h2 => by rw [e1, hk q (Nat.lt_of_lt_of_le h1 hSS.1) h2]; exact hSS.2.1 q h1 h2, fun q hq => by
      rcases List.mem_append.mp hq with h | h
      · exact hSS.2.2 q h
      · exact hL q h⟩ T' rfl X'
  exact ⟨t2, st t2 a1, b1⟩
end StartRows
