/-! A local that is a city's row of pairs. -/
theorem i_aload_nB {X : Xc} {own : String} {cc : ByteArray} {ret : Option FieldType} {kc ks pc pc' : Nat} {L : List (Nat × AV)} {st : List AV} {M : Mem} {ρ : Type} {res : ρ} {F : Option ρ} (C : Cx X own cc ret) {b : Nat} {i : Fin 4} {j q : Nat} (hd : Dc cc pc (.aload_n i) 1 pc') (hi : (i : Nat) = j) (hl : L[q]? = some (j, aB b)) (k : Im X kc ks pc' L (aB b :: st) M res F) : Im X kc ks pc L st M res F := by
  intro hF hM hL hS ba hba H locs ls cells slots h1 h2 hls hP hD hSS
  obtain ⟨hd, rfl⟩ := hd
  refine lv_aload_n C.1 C.2.1 hd hi (lv_at hls q (cL_at hl)) ?_
  exact k hF hM hL ⟨okL_at hL hl, hS⟩ ba hba H locs ls cells slots h1 h2 hls hP hD hSS
