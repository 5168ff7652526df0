/-! Rows of instructions that leave the memory as it is. -/
def nm {α : Type} (v : Int) (k : Int → α) : α := k v
def jn {β α : Type} (k : β) (body : β → α) : α := body k
def bByt (x : Int) : Int := (Int32.ofInt x).toInt8.toInt32.toInt
def cmpZ (x y : Int) : Int := if x < y then -1 else if x = y then 0 else 1
def isL : AV → Bool
  | .inr (.inl _) => true
  | _ => false
theorem cat_L {ad ba : Nat → Nat} : ∀ {v : AV}, (cv ad ba v).category = if isL v then 2 else 1
  | .inl _ => rfl
  | .inr (.inl _) => rfl
  | .inr (.inr (.inl _)) => rfl
  | .inr (.inr (.inr (.inl _))) => rfl
  | .inr (.inr (.inr (.inr none))) => rfl
  | .inr (.inr (.inr (.inr (some _)))) => rfl
def ins (j : Nat) (v : AV) : List (Nat × AV) → List (Nat × AV)
  | [] => [(j, v)]
  | q :: r => match Nat.blt j q.1 with
    | true => (j, v) :: q :: r
    | false => q :: ins j v r
theorem ins_mem {j : Nat} {v : AV} {q : Nat × AV} : ∀ {L : List (Nat × AV)}, q ∈ ins j v L → q = (j, v) ∨ q ∈ L
  | [], h => by
    simp only [ins, List.mem_singleton] at h
    exact Or.inl h
  | a :: r, h => by
    unfold ins at h
    split at h
    · rcases List.mem_cons.mp h with e | e
      · exact Or.inl e
      · exact Or.inr e
    · rcases List.mem_cons.mp h with e | e
      · exact Or.inr (by rw [e]; exact List.mem_cons_self)
      · rcases ins_mem e with e | e
        · exact Or.inl e
        · exact Or.inr (List.mem_cons_of_mem _ e)
def sto (j : Nat) (v : AV) (L : List (Nat × AV)) : List (Nat × AV) := ins j v (L.filter fun q => !(q.1 == j) && !(q.1 + 1 == j && isL q.2))
def stoL (j : Nat) (v : AV) (L : List (Nat × AV)) : List (Nat × AV) := ins j v (L.filter fun q => !(q.1 == j) && (!(q.1 == j + 1) && !(q.1 + 1 == j && isL q.2)))
theorem okL_ins {j : Nat} {v : AV} (hv : okV v) : ∀ {L : List (Nat × AV)}, okL L → okL (ins j v L)
  | [], _ => ⟨hv, trivial⟩
  | q :: r, h => by
    unfold ins
    split
    · exact ⟨hv, h⟩
    · exact ⟨h.1, okL_ins hv h.2⟩
theorem okL_fil {p : Nat × AV → Bool} : ∀ {L : List (Nat × AV)}, okL L → okL (L.filter p)
  | [], _ => trivial
  | q :: r, h => by
    rw [List.filter_cons]
    split
    · exact ⟨h.1, okL_fil h.2⟩
    · exact okL_fil h.2
theorem cat2 {ad ba : Nat → Nat} {v : AV} : ((cv ad ba v).category == 2) = isL v := by
  rw [cat_L]
  cases isL v <;> rfl
theorem sto_has {ad ba : Nat → Nat} {ls : Array Slot} {n j : Nat} {v : AV} {L : List (Nat × AV)} (h : lv_has ls n ((j, cv ad ba v) :: (cL ad ba L).filter fun q => !(q.1 == j) && !(q.1 + 1 == j && q.2.category == 2))) : lv_has ls n (cL ad ba (sto j v L)) := by
  refine ⟨h.1, h.2.1, fun q hq => ?_⟩
  obtain ⟨q0, hq0, rfl⟩ := List.mem_map.mp hq
  rcases ins_mem hq0 with e | e
  · subst e
    exact h.2.2 _ List.mem_cons_self
  · obtain ⟨e1, e2⟩ := List.mem_filter.mp e
    refine h.2.2 (q0.1, cv ad ba q0.2) (List.mem_cons_of_mem _ (List.mem_filter.mpr ⟨List.mem_map.mpr ⟨q0, e1, rfl⟩, ?_⟩))
    simp only [cat2]
    exact e2
theorem stoL_has {ad ba : Nat → Nat} {ls : Array Slot} {n j : Nat} {v : AV} {L : List (Nat × AV)} (h : lv_has ls n ((j, cv ad ba v) :: (cL ad ba L).filter fun q => !(q.1 == j) && (!(q.1 == j + 1) && !(q.1 + 1 == j && q.2.category == 2)))) : lv_has ls n (cL ad ba (stoL j v L)) := by
  refine ⟨h.1, h.2.1, fun q hq => ?_⟩
  obtain ⟨q0, hq0, rfl⟩ := List.mem_map.mp hq
  rcases ins_mem hq0 with e | e
  · subst e
    exact h.2.2 _ List.mem_cons_self
  · obtain ⟨e1, e2⟩ := List.mem_filter.mp e
    refine h.2.2 (q0.1, cv ad ba q0.2) (List.mem_cons_of_mem _ (List.mem_filter.mpr ⟨List.mem_map.mpr ⟨q0, e1, rfl⟩, ?_⟩))
    simp only [cat2]
    exact e2
theorem cL_at {ad ba : Nat → Nat} {L : List (Nat × AV)} {q j : Nat} {v : AV} (h : L[q]? = some (j, v)) : (cL ad ba L)[q]? = some (j, cv ad ba v) := by
  rw [List.getElem?_map, h]; rfl
section R1
variable {X : Xc} {own : String} {cc : ByteArray} {ret : Option FieldType} {kc ks pc pc' : Nat} {L L' : List (Nat × AV)} {st : List AV} {M : Mem} {ρ : Type} {res : ρ} {F A B : Option ρ} {x y z : Int}
theorem i_iadd (C : Cx X own cc ret) (hd : Dc cc pc .iadd 1 pc') (k : Im X kc ks pc' L (aI (w32 (x + y)) :: st) M res F) : Im X kc ks pc L (aI y :: aI x :: st) M res F := by
  intro hF hM hL hS ba hba H locs ls cells slots h1 h2 hls hP hD hSS
  obtain ⟨hd, rfl⟩ := hd
  refine lv_iadd C.1 C.2.1 hd ?_
  rw [i32_add]
  exact k hF hM hL ⟨w32_r _, hS.2.2⟩ ba hba H locs ls cells slots h1 h2 hls hP hD hSS
theorem i_isub (C : Cx X own cc ret) (hd : Dc cc pc .isub 1 pc') (k : Im X kc ks pc' L (aI (w32 (x - y)) :: st) M res F) : Im X kc ks pc L (aI y :: aI x :: st) M res F := by
  intro hF hM hL hS ba hba H locs ls cells slots h1 h2 hls hP hD hSS
  obtain ⟨hd, rfl⟩ := hd
  refine lv_isub C.1 C.2.1 hd ?_
  rw [i32_sub]
  exact k hF hM hL ⟨w32_r _, hS.2.2⟩ ba hba H locs ls cells slots h1 h2 hls hP hD hSS
theorem i_imul (C : Cx X own cc ret) (hd : Dc cc pc .imul 1 pc') (k : Im X kc ks pc' L (aI (w32 (x * y)) :: st) M res F) : Im X kc ks pc L (aI y :: aI x :: st) M res F := by
  intro hF hM hL hS ba hba H locs ls cells slots h1 h2 hls hP hD hSS
  obtain ⟨hd, rfl⟩ := hd
  refine lv_imul C.1 C.2.1 hd ?_
  rw [i32_mul]
  exact k hF hM hL ⟨w32_r _, hS.2.2⟩ ba hba H locs ls cells slots h1 h2 hls hP hD hSS
theorem i_ladd (C : Cx X own cc ret) (hd : Dc cc pc .ladd 1 pc') (k : Im X kc ks pc' L (aL (w64 (x + y)) :: st) M res F) : Im X kc ks pc L (aL y :: aL x :: st) M res F := by
  intro hF hM hL hS ba hba H locs ls cells slots h1 h2 hls hP hD hSS
  obtain ⟨hd, rfl⟩ := hd
  refine lv_ladd C.1 C.2.1 hd ?_
  rw [i64_add]
  exact k hF hM hL ⟨w64_r _, hS.2.2⟩ ba hba H locs ls cells slots h1 h2 hls hP hD hSS
theorem i_lsub (C : Cx X own cc ret) (hd : Dc cc pc .lsub 1 pc') (k : Im X kc ks pc' L (aL (w64 (x - y)) :: st) M res F) : Im X kc ks pc L (aL y :: aL x :: st) M res F := by
  intro hF hM hL hS ba hba H locs ls cells slots h1 h2 hls hP hD hSS
  obtain ⟨hd, rfl⟩ := hd
  refine lv_lsub C.1 C.2.1 hd ?_
  rw [i64_sub]
  exact k hF hM hL ⟨w64_r _, hS.2.2⟩ ba hba H locs ls cells slots h1 h2 hls hP hD hSS
theorem i_lmul (C : Cx X own cc ret) (hd : Dc cc pc .lmul 1 pc') (k : Im X kc ks pc' L (aL (w64 (x * y)) :: st) M res F) : Im X kc ks pc L (aL y :: aL x :: st) M res F := by
  intro hF hM hL hS ba hba H locs ls cells slots h1 h2 hls hP hD hSS
  obtain ⟨hd, rfl⟩ := hd
  refine lv_lmul C.1 C.2.1 hd ?_
  rw [i64_mul]
  exact k hF hM hL ⟨w64_r _, hS.2.2⟩ ba hba H locs ls cells slots h1 h2 hls hP hD hSS
theorem i_iand (C : Cx X own cc ret) (hd : Dc cc pc .iand 1 pc') (k : Im X kc ks pc' L (aI (bAnd x y) :: st) M res F) : Im X kc ks pc L (aI y :: aI x :: st) M res F := by
  intro hF hM hL hS ba hba H locs ls cells slots h1 h2 hls hP hD hSS
  obtain ⟨hd, rfl⟩ := hd
  refine lv_iand C.1 C.2.1 hd ?_
  refine W.eq (g2 := F0 (xm X) (pc + 1) ls (Value.int (Int32.ofInt (bAnd x y)) :: cS (gd (xG X)) ba st)) (by unfold bAnd; rw [Int32.ofInt_toInt]) ?_
  exact k hF hM hL ⟨ti_r _, hS.2.2⟩ ba hba H locs ls cells slots h1 h2 hls hP hD hSS
theorem i_ior (C : Cx X own cc ret) (hd : Dc cc pc .ior 1 pc') (k : Im X kc ks pc' L (aI (bOr x y) :: st) M res F) : Im X kc ks pc L (aI y :: aI x :: st) M res F := by
  intro hF hM hL hS ba hba H locs ls cells slots h1 h2 hls hP hD hSS
  obtain ⟨hd, rfl⟩ := hd
  refine lv_ior C.1 C.2.1 hd ?_
  refine W.eq (g2 := F0 (xm X) (pc + 1) ls (Value.int (Int32.ofInt (bOr x y)) :: cS (gd (xG X)) ba st)) (by unfold bOr; rw [Int32.ofInt_toInt]) ?_
  exact k hF hM hL ⟨ti_r _, hS.2.2⟩ ba hba H locs ls cells slots h1 h2 hls hP hD hSS
theorem i_ixor (C : Cx X own cc ret) (hd : Dc cc pc .ixor 1 pc') (k : Im X kc ks pc' L (aI (bXor x y) :: st) M res F) : Im X kc ks pc L (aI y :: aI x :: st) M res F := by
  intro hF hM hL hS ba hba H locs ls cells slots h1 h2 hls hP hD hSS
  obtain ⟨hd, rfl⟩ := hd
  refine lv_ixor C.1 C.2.1 hd ?_
  refine W.eq (g2 := F0 (xm X) (pc + 1) ls (Value.int (Int32.ofInt (bXor x y)) :: cS (gd (xG X)) ba st)) (by unfold bXor; rw [Int32.ofInt_toInt]) ?_
  exact k hF hM hL ⟨ti_r _, hS.2.2⟩ ba hba H locs ls cells slots h1 h2 hls hP hD hSS
theorem i_ishl (C : Cx X own cc ret) (hd : Dc cc pc .ishl 1 pc') (k : Im X kc ks pc' L (aI (bShl x y) :: st) M res F) : Im X kc ks pc L (aI y :: aI x :: st) M res F := by
  intro hF hM hL hS ba hba H locs ls cells slots h1 h2 hls hP hD hSS
  obtain ⟨hd, rfl⟩ := hd
  refine lv_ishl C.1 C.2.1 hd ?_
  refine W.eq (g2 := F0 (xm X) (pc + 1) ls (Value.int (Int32.ofInt (bShl x y)) :: cS (gd (xG X)) ba st)) (by unfold bShl; rw [Int32.ofInt_toInt]) ?_
  exact k hF hM hL ⟨ti_r _, hS.2.2⟩ ba hba H locs ls cells slots h1 h2 hls hP hD hSS
theorem i_ishr (C : Cx X own cc ret) (hd : Dc cc pc .ishr 1 pc') (k : Im X kc ks pc' L (aI (bShr x y) :: st) M res F) : Im X kc ks pc L (aI y :: aI x :: st) M res F := by
  intro hF hM hL hS ba hba H locs ls cells slots h1 h2 hls hP hD hSS
  obtain ⟨hd, rfl⟩ := hd
  refine lv_ishr C.1 C.2.1 hd ?_
  refine W.eq (g2 := F0 (xm X) (pc + 1) ls (Value.int (Int32.ofInt (bShr x y)) :: cS (gd (xG X)) ba st)) (by unfold bShr; rw [Int32.ofInt_toInt]) ?_
  exact k hF hM hL ⟨ti_r _, hS.2.2⟩ ba hba H locs ls cells slots h1 h2 hls hP hD hSS
theorem i_iushr (C : Cx X own cc ret) (hd : Dc cc pc .iushr 1 pc') (k : Im X kc ks pc' L (aI (bUsh x y) :: st) M res F) : Im X kc ks pc L (aI y :: aI x :: st) M res F := by
  intro hF hM hL hS ba hba H locs ls cells slots h1 h2 hls hP hD hSS
  obtain ⟨hd, rfl⟩ := hd
  refine lv_iushr C.1 C.2.1 (v := Int32.ofInt (bUsh x y)) hd (by unfold bUsh; rw [Int32.ofInt_toInt]) ?_
  exact k hF hM hL ⟨ti_r _, hS.2.2⟩ ba hba H locs ls cells slots h1 h2 hls hP hD hSS
theorem i_i2b (C : Cx X own cc ret) (hd : Dc cc pc .i2b 1 pc') (k : Im X kc ks pc' L (aI (bByt x) :: st) M res F) : Im X kc ks pc L (aI x :: st) M res F := by
  intro hF hM hL hS ba hba H locs ls cells slots h1 h2 hls hP hD hSS
  obtain ⟨hd, rfl⟩ := hd
  refine lv_i2b C.1 C.2.1 (v := Int32.ofInt (bByt x)) hd (by unfold bByt; rw [Int32.ofInt_toInt]) ?_
  exact k hF hM hL ⟨ti_r _, hS.2⟩ ba hba H locs ls cells slots h1 h2 hls hP hD hSS
theorem i_i2c (C : Cx X own cc ret) (hd : Dc cc pc .i2c 1 pc') (k : Im X kc ks pc' L (aI (bChr x) :: st) M res F) : Im X kc ks pc L (aI x :: st) M res F := by
  intro hF hM hL hS ba hba H locs ls cells slots h1 h2 hls hP hD hSS
  obtain ⟨hd, rfl⟩ := hd
  refine lv_i2c C.1 C.2.1 (v := Int32.ofInt (bChr x)) hd (by unfold bChr; rw [Int32.ofInt_toInt]) ?_
  exact k hF hM hL ⟨ti_r _, hS.2⟩ ba hba H locs ls cells slots h1 h2 hls hP hD hSS
theorem i_ineg (C : Cx X own cc ret) (hd : Dc cc pc .ineg 1 pc') (k : Im X kc ks pc' L (aI (w32 (-x)) :: st) M res F) : Im X kc ks pc L (aI x :: st) M res F := by
  intro hF hM hL hS ba hba H locs ls cells slots h1 h2 hls hP hD hSS
  obtain ⟨hd, rfl⟩ := hd
  refine lv_ineg C.1 C.2.1 hd ?_
  rw [i32_neg]
  exact k hF hM hL ⟨w32_r _, hS.2⟩ ba hba H locs ls cells slots h1 h2 hls hP hD hSS
theorem i_lneg (C : Cx X own cc ret) (hd : Dc cc pc .lneg 1 pc') (k : Im X kc ks pc' L (aL (w64 (-x)) :: st) M res F) : Im X kc ks pc L (aL x :: st) M res F := by
  intro hF hM hL hS ba hba H locs ls cells slots h1 h2 hls hP hD hSS
  obtain ⟨hd, rfl⟩ := hd
  refine lv_lneg C.1 C.2.1 hd ?_
  rw [i64_neg]
  exact k hF hM hL ⟨w64_r _, hS.2⟩ ba hba H locs ls cells slots h1 h2 hls hP hD hSS
theorem i_i2l (C : Cx X own cc ret) (hd : Dc cc pc .i2l 1 pc') (k : Im X kc ks pc' L (aL x :: st) M res F) : Im X kc ks pc L (aI x :: st) M res F := by
  intro hF hM hL hS ba hba H locs ls cells slots h1 h2 hls hP hD hSS
  obtain ⟨hd, rfl⟩ := hd
  refine lv_i2l C.1 C.2.1 (v := Int64.ofInt x) hd (i32_l hS.1) ?_
  exact k hF hM hL ⟨R32.up hS.1, hS.2⟩ ba hba H locs ls cells slots h1 h2 hls hP hD hSS
theorem i_l2i (C : Cx X own cc ret) (hd : Dc cc pc .l2i 1 pc') (k : Im X kc ks pc' L (aI (w32 x) :: st) M res F) : Im X kc ks pc L (aL x :: st) M res F := by
  intro hF hM hL hS ba hba H locs ls cells slots h1 h2 hls hP hD hSS
  obtain ⟨hd, rfl⟩ := hd
  refine lv_l2i C.1 C.2.1 (v := Int32.ofInt (w32 x)) hd (i64_i x) ?_
  exact k hF hM hL ⟨w32_r _, hS.2⟩ ba hba H locs ls cells slots h1 h2 hls hP hD hSS
theorem i_idiv (C : Cx X own cc ret) (hd : Dc cc pc .idiv 1 pc') (hne0 : ¬ y = 0) (k : Im X kc ks pc' L (aI (w32 (x.tdiv y)) :: st) M res F) : Im X kc ks pc L (aI y :: aI x :: st) M res F := by
  intro hF hM hL hS ba hba H locs ls cells slots h1 h2 hls hP hD hSS
  obtain ⟨hd, rfl⟩ := hd
  refine lv_idiv C.1 C.2.1 hd (fun e => hne0 ((i32_eq hS.1 r32_0).mp e)) ?_
  rw [i32_div hS.2.1 hS.1]
  exact k hF hM hL ⟨w32_r _, hS.2.2⟩ ba hba H locs ls cells slots h1 h2 hls hP hD hSS
theorem i_irem (C : Cx X own cc ret) (hd : Dc cc pc .irem 1 pc') (hne0 : ¬ y = 0) (k : Im X kc ks pc' L (aI (w32 (x.tmod y)) :: st) M res F) : Im X kc ks pc L (aI y :: aI x :: st) M res F := by
  intro hF hM hL hS ba hba H locs ls cells slots h1 h2 hls hP hD hSS
  obtain ⟨hd, rfl⟩ := hd
  refine lv_irem C.1 C.2.1 hd (fun e => hne0 ((i32_eq hS.1 r32_0).mp e)) ?_
  rw [i32_rem hS.2.1 hS.1]
  exact k hF hM hL ⟨w32_r _, hS.2.2⟩ ba hba H locs ls cells slots h1 h2 hls hP hD hSS
theorem i_ldiv (C : Cx X own cc ret) (hd : Dc cc pc .ldiv 1 pc') (hne0 : ¬ y = 0) (k : Im X kc ks pc' L (aL (w64 (x.tdiv y)) :: st) M res F) : Im X kc ks pc L (aL y :: aL x :: st) M res F := by
  intro hF hM hL hS ba hba H locs ls cells slots h1 h2 hls hP hD hSS
  obtain ⟨hd, rfl⟩ := hd
  refine lv_ldiv C.1 C.2.1 hd (fun e => hne0 (by have h := congrArg Int64.toInt e; rwa [i64_ti hS.1] at h)) ?_
  rw [i64_div hS.2.1 hS.1]
  exact k hF hM hL ⟨w64_r _, hS.2.2⟩ ba hba H locs ls cells slots h1 h2 hls hP hD hSS
theorem i_iconst (C : Cx X own cc ret) {n : Int} (hd : Dc cc pc (.iconst n) 1 pc') (hn : R32 n) (k : Im X kc ks pc' L (aI n :: st) M res F) : Im X kc ks pc L (st) M res F := by
  intro hF hM hL hS ba hba H locs ls cells slots h1 h2 hls hP hD hSS
  obtain ⟨hd, rfl⟩ := hd
  refine lv_iconst C.1 C.2.1 (v := Int32.ofInt n) hd rfl ?_
  exact k hF hM hL ⟨hn, hS⟩ ba hba H locs ls cells slots h1 h2 hls hP hD hSS
theorem i_bipush (C : Cx X own cc ret) {n : Int} (hd : Dc cc pc (.bipush n) 2 pc') (hn : R32 n ∧ (Int8.ofInt n).toInt32 = Int32.ofInt n) (k : Im X kc ks pc' L (aI n :: st) M res F) : Im X kc ks pc L (st) M res F := by
  intro hF hM hL hS ba hba H locs ls cells slots h1 h2 hls hP hD hSS
  obtain ⟨hd, rfl⟩ := hd
  refine lv_bipush C.1 C.2.1 (v := Int32.ofInt n) hd hn.2 ?_
  exact k hF hM hL ⟨hn.1, hS⟩ ba hba H locs ls cells slots h1 h2 hls hP hD hSS
theorem i_sipush (C : Cx X own cc ret) {n : Int} (hd : Dc cc pc (.sipush n) 3 pc') (hn : R32 n ∧ (Int16.ofInt n).toInt32 = Int32.ofInt n) (k : Im X kc ks pc' L (aI n :: st) M res F) : Im X kc ks pc L (st) M res F := by
  intro hF hM hL hS ba hba H locs ls cells slots h1 h2 hls hP hD hSS
  obtain ⟨hd, rfl⟩ := hd
  refine lv_sipush C.1 C.2.1 (v := Int32.ofInt n) hd hn.2 ?_
  exact k hF hM hL ⟨hn.1, hS⟩ ba hba H locs ls cells slots h1 h2 hls hP hD hSS
theorem i_lconst (C : Cx X own cc ret) {n : Fin 2} {v : Int} (hd : Dc cc pc (.lconst n) 1 pc') (hn : R64 v ∧ Int64.ofNat (n : Nat) = Int64.ofInt v) (k : Im X kc ks pc' L (aL v :: st) M res F) : Im X kc ks pc L (st) M res F := by
  intro hF hM hL hS ba hba H locs ls cells slots h1 h2 hls hP hD hSS
  obtain ⟨hd, rfl⟩ := hd
  refine lv_lconst C.1 C.2.1 (v := Int64.ofInt v) hd hn.2 ?_
  exact k hF hM hL ⟨hn.1, hS⟩ ba hba H locs ls cells slots h1 h2 hls hP hD hSS
theorem i_ldc (C : Cx X own cc ret) {n : Nat} {v : Int} (hd : Dc cc pc (.ldc n) 2 pc') (hw : Cond.constant own n (Int32.ofInt v) ∈ wsT) (hv : R32 v) (k : Im X kc ks pc' L (aI v :: st) M res F) : Im X kc ks pc L (st) M res F := by
  intro hF hM hL hS ba hba H locs ls cells slots h1 h2 hls hP hD hSS
  obtain ⟨hd, rfl⟩ := hd
  refine lv_ldc C.1 C.2.1 (v := Int32.ofInt v) C.2.2.2.1 (C.2.2.2.2.1 _ hw) hd ?_
  exact k hF hM hL ⟨hv, hS⟩ ba hba H locs ls cells slots h1 h2 hls hP hD hSS
theorem i_ldc_w (C : Cx X own cc ret) {n : Nat} {v : Int} (hd : Dc cc pc (.ldc_w n) 3 pc') (hw : Cond.constant own n (Int32.ofInt v) ∈ wsT) (hv : R32 v) (k : Im X kc ks pc' L (aI v :: st) M res F) : Im X kc ks pc L (st) M res F := by
  intro hF hM hL hS ba hba H locs ls cells slots h1 h2 hls hP hD hSS
  obtain ⟨hd, rfl⟩ := hd
  refine lv_ldcw C.1 C.2.1 (v := Int32.ofInt v) C.2.2.2.1 (C.2.2.2.2.1 _ hw) hd ?_
  exact k hF hM hL ⟨hv, hS⟩ ba hba H locs ls cells slots h1 h2 hls hP hD hSS
theorem i_ldc2 (C : Cx X own cc ret) {n : Nat} {v : Int} (hd : Dc cc pc (.ldc2_w n) 3 pc') (hw : Cond.constantLong own n (Int64.ofInt v) ∈ wsT) (hv : R64 v) (k : Im X kc ks pc' L (aL v :: st) M res F) : Im X kc ks pc L (st) M res F := by
  intro hF hM hL hS ba hba H locs ls cells slots h1 h2 hls hP hD hSS
  obtain ⟨hd, rfl⟩ := hd
  refine lv_ldc2 C.1 C.2.1 (v := Int64.ofInt v) C.2.2.2.1 (C.2.2.2.2.1 _ hw) hd ?_
  exact k hF hM hL ⟨hv, hS⟩ ba hba H locs ls cells slots h1 h2 hls hP hD hSS
theorem i_iload_n (C : Cx X own cc ret) {i : Fin 4} {j q : Nat} (hd : Dc cc pc (.iload_n i) 1 pc') (hi : (i : Nat) = j) (hl : L[q]? = some (j, aI x)) (k : Im X kc ks pc' L (aI x :: st) M res F) : Im X kc ks pc L (st) M res F := by
  intro hF hM hL hS ba hba H locs ls cells slots h1 h2 hls hP hD hSS
  obtain ⟨hd, rfl⟩ := hd
  refine lv_iload_n C.1 C.2.1 hd hi (lv_at hls q (cL_at hl)) ?_
  exact k hF hM hL ⟨okL_at hL hl, hS⟩ ba hba H locs ls cells slots h1 h2 hls hP hD hSS
theorem i_iload (C : Cx X own cc ret) {j q : Nat} (hd : Dc cc pc (.iload j) 2 pc') (hl : L[q]? = some (j, aI x)) (k : Im X kc ks pc' L (aI x :: st) M res F) : Im X kc ks pc L (st) M res F := by
  intro hF hM hL hS ba hba H locs ls cells slots h1 h2 hls hP hD hSS
  obtain ⟨hd, rfl⟩ := hd
  refine lv_iload C.1 C.2.1 hd (lv_at hls q (cL_at hl)) ?_
  exact k hF hM hL ⟨okL_at hL hl, hS⟩ ba hba H locs ls cells slots h1 h2 hls hP hD hSS
theorem i_lload_n (C : Cx X own cc ret) {i : Fin 4} {j q : Nat} (hd : Dc cc pc (.lload_n i) 1 pc') (hi : (i : Nat) = j) (hl : L[q]? = some (j, aL x)) (k : Im X kc ks pc' L (aL x :: st) M res F) : Im X kc ks pc L (st) M res F := by
  intro hF hM hL hS ba hba H locs ls cells slots h1 h2 hls hP hD hSS
  obtain ⟨hd, rfl⟩ := hd
  refine lv_lload_n C.1 C.2.1 hd hi (lv_at hls q (cL_at hl)) ?_
  exact k hF hM hL ⟨okL_at hL hl, hS⟩ ba hba H locs ls cells slots h1 h2 hls hP hD hSS
theorem i_lload (C : Cx X own cc ret) {j q : Nat} (hd : Dc cc pc (.lload j) 2 pc') (hl : L[q]? = some (j, aL x)) (k : Im X kc ks pc' L (aL x :: st) M res F) : Im X kc ks pc L (st) M res F := by
  intro hF hM hL hS ba hba H locs ls cells slots h1 h2 hls hP hD hSS
  obtain ⟨hd, rfl⟩ := hd
  refine lv_lload C.1 C.2.1 hd (lv_at hls q (cL_at hl)) ?_
  exact k hF hM hL ⟨okL_at hL hl, hS⟩ ba hba H locs ls cells slots h1 h2 hls hP hD hSS
theorem i_aload_n (C : Cx X own cc ret) {id : Nat} {i : Fin 4} {j q : Nat} (hd : Dc cc pc (.aload_n i) 1 pc') (hi : (i : Nat) = j) (hl : L[q]? = some (j, aR id)) (k : Im X kc ks pc' L (aR id :: st) M res F) : Im X kc ks pc L (st) M res F := by
  intro hF hM hL hS ba hba H locs ls cells slots h1 h2 hls hP hD hSS
  obtain ⟨hd, rfl⟩ := hd
  refine lv_aload_n C.1 C.2.1 hd hi (lv_at hls q (cL_at hl)) ?_
  exact k hF hM hL ⟨okL_at hL hl, hS⟩ ba hba H locs ls cells slots h1 h2 hls hP hD hSS
theorem i_aload (C : Cx X own cc ret) {id : Nat} {j q : Nat} (hd : Dc cc pc (.aload j) 2 pc') (hl : L[q]? = some (j, aR id)) (k : Im X kc ks pc' L (aR id :: st) M res F) : Im X kc ks pc L (st) M res F := by
  intro hF hM hL hS ba hba H locs ls cells slots h1 h2 hls hP hD hSS
  obtain ⟨hd, rfl⟩ := hd
  refine lv_aload C.1 C.2.1 hd (lv_at hls q (cL_at hl)) ?_
  exact k hF hM hL ⟨okL_at hL hl, hS⟩ ba hba H locs ls cells slots h1 h2 hls hP hD hSS
theorem i_istore_n (C : Cx X own cc ret) {i : Fin 4} {j : Nat} (hd : Dc cc pc (.istore_n i) 1 pc') (hi : (i : Nat) = j) (hn : j < xn X) (hs : sto j (aI x) L = L') (k : Im X kc ks pc' L' st M res F) : Im X kc ks pc L (aI x :: st) M res F := by
  intro hF hM hL hS ba hba H locs ls cells slots h1 h2 hls hP hD hSS
  obtain ⟨hd, rfl⟩ := hd
  refine lv_istore_n C.1 C.2.1 hd hi hls hn rfl (fun ls' hls' => ?_)
  subst hs
  exact k hF hM (okL_ins hS.1 (okL_fil hL)) hS.2 ba hba H locs ls' cells slots h1 h2 (sto_has hls') hP hD hSS
theorem i_istore (C : Cx X own cc ret) {j : Nat} (hd : Dc cc pc (.istore j) 2 pc') (hn : j < xn X) (hs : sto j (aI x) L = L') (k : Im X kc ks pc' L' st M res F) : Im X kc ks pc L (aI x :: st) M res F := by
  intro hF hM hL hS ba hba H locs ls cells slots h1 h2 hls hP hD hSS
  obtain ⟨hd, rfl⟩ := hd
  refine lv_istore C.1 C.2.1 hd hls hn rfl (fun ls' hls' => ?_)
  subst hs
  exact k hF hM (okL_ins hS.1 (okL_fil hL)) hS.2 ba hba H locs ls' cells slots h1 h2 (sto_has hls') hP hD hSS
theorem i_lstore_n (C : Cx X own cc ret) {i : Fin 4} {j : Nat} (hd : Dc cc pc (.lstore_n i) 1 pc') (hi : (i : Nat) = j) (hn : j + 1 < xn X) (hs : stoL j (aL x) L = L') (k : Im X kc ks pc' L' st M res F) : Im X kc ks pc L (aL x :: st) M res F := by
  intro hF hM hL hS ba hba H locs ls cells slots h1 h2 hls hP hD hSS
  obtain ⟨hd, rfl⟩ := hd
  refine lv_lstore_n C.1 C.2.1 hd hi hls hn rfl (fun ls' hls' => ?_)
  subst hs
  exact k hF hM (okL_ins hS.1 (okL_fil hL)) hS.2 ba hba H locs ls' cells slots h1 h2 (stoL_has hls') hP hD hSS
theorem i_lstore (C : Cx X own cc ret) {j : Nat} (hd : Dc cc pc (.lstore j) 2 pc') (hn : j + 1 < xn X) (hs : stoL j (aL x) L = L') (k : Im X kc ks pc' L' st M res F) : Im X kc ks pc L (aL x :: st) M res F := by
  intro hF hM hL hS ba hba H locs ls cells slots h1 h2 hls hP hD hSS
  obtain ⟨hd, rfl⟩ := hd
  refine lv_lstore C.1 C.2.1 hd hls hn rfl (fun ls' hls' => ?_)
  subst hs
  exact k hF hM (okL_ins hS.1 (okL_fil hL)) hS.2 ba hba H locs ls' cells slots h1 h2 (stoL_has hls') hP hD hSS
theorem i_astore_n (C : Cx X own cc ret) {id : Nat} {i : Fin 4} {j : Nat} (hd : Dc cc pc (.astore_n i) 1 pc') (hi : (i : Nat) = j) (hn : j < xn X) (hs : sto j (aR id) L = L') (k : Im X kc ks pc' L' st M res F) : Im X kc ks pc L (aR id :: st) M res F := by
  intro hF hM hL hS ba hba H locs ls cells slots h1 h2 hls hP hD hSS
  obtain ⟨hd, rfl⟩ := hd
  refine lv_astore_n C.1 C.2.1 hd hi hls hn rfl (fun ls' hls' => ?_)
  subst hs
  exact k hF hM (okL_ins hS.1 (okL_fil hL)) hS.2 ba hba H locs ls' cells slots h1 h2 (sto_has hls') hP hD hSS
theorem i_astore (C : Cx X own cc ret) {id : Nat} {j : Nat} (hd : Dc cc pc (.astore j) 2 pc') (hn : j < xn X) (hs : sto j (aR id) L = L') (k : Im X kc ks pc' L' st M res F) : Im X kc ks pc L (aR id :: st) M res F := by
  intro hF hM hL hS ba hba H locs ls cells slots h1 h2 hls hP hD hSS
  obtain ⟨hd, rfl⟩ := hd
  refine lv_astore C.1 C.2.1 hd hls hn rfl (fun ls' hls' => ?_)
  subst hs
  exact k hF hM (okL_ins hS.1 (okL_fil hL)) hS.2 ba hba H locs ls' cells slots h1 h2 (sto_has hls') hP hD hSS
theorem i_iinc (C : Cx X own cc ret) {n : Int} {j q : Nat} {x' : Int} (hd : Dc cc pc (.iinc j n) 3 pc') (hl : L[q]? = some (j, aI x)) (hn : j < xn X) (he : w32 (x + n) = x') (hs : sto j (aI x') L = L') (k : Im X kc ks pc' L' st M res F) : Im X kc ks pc L st M res F := by
  intro hF hM hL hS ba hba H locs ls cells slots h1 h2 hls hP hD hSS
  obtain ⟨hd, rfl⟩ := hd
  subst he
  refine lv_iinc C.1 C.2.1 hd hls (cL_at hl) (v := Int32.ofInt (w32 (x + n))) (by rw [← i32_add]) hn rfl (fun ls' hls' => ?_)
  subst hs
  exact k hF hM (okL_ins (v := aI (w32 (x + n))) (w32_r _) (okL_fil hL)) hS ba hba H locs ls' cells slots h1 h2 (sto_has (v := aI (w32 (x + n))) hls') hP hD hSS
theorem i_iincN (C : Cx X own cc ret) {n : Int} {j q : Nat} {f : Int → Option ρ} {L' : Int → List (Nat × AV)} (hd : Dc cc pc (.iinc j n) 3 pc') (hl : L[q]? = some (j, aI x)) (hn : j < xn X) (hs : ∀ v, sto j (aI v) L = L' v) (k : ∀ v, Im X kc ks pc' (L' v) st M res (f v)) : Im X kc ks pc L st M res (nm (w32 (x + n)) f) :=
  i_iinc C hd hl hn rfl (hs _) (k _)
theorem i_nm {f : Int → Option ρ} (k : ∀ v, Im X kc ks pc L (aI v :: st) M res (f v)) : Im X kc ks pc L (aI x :: st) M res (nm x f) := k x
theorem i_nmL {f : Int → Option ρ} (k : ∀ v, Im X kc ks pc L (aL v :: st) M res (f v)) : Im X kc ks pc L (aL x :: st) M res (nm x f) := k x
theorem i_sub (ks' : List Nat) (hs : ks'.filterMap (fun k => L[k]?) = L') (k : Im X kc ks pc L' st M res F) : Im X kc ks pc L st M res F := by
  intro hF hM hL hS ba hba H locs ls cells slots h1 h2 hls hP hD hSS
  refine k hF hM (okL_sub hL hs) hS ba hba H locs ls cells slots h1 h2 (lv_sub hls ks' ?_) hP hD hSS
  subst hs
  unfold lv_pick
  clear k hls hL
  induction ks' with
  | nil => rfl
  | cons a r ih =>
    simp only [List.filterMap_cons, List.getElem?_map]
    rw [show (List.filterMap (fun k => Option.map (fun q => (q.1, cv (gd (xG X)) ba q.2)) L[k]?) r) = cL (gd (xG X)) ba (List.filterMap (fun k => L[k]?) r) by simpa only [List.getElem?_map] using ih]
    cases L[a]? <;> rfl
theorem i_jn {β : Type} {kk : β} {body : β → Option ρ} (P : β → Prop) (hk : P kk) (hb : ∀ j, P j → Im X kc ks pc L st M res (body j)) : Im X kc ks pc L st M res (jn kk body) := hb kk hk
theorem i_none : Im X kc ks pc L st M res none := fun hF => by cases hF
theorem i_fuel0 {G : Option ρ} (h : G = none) : Im X kc ks pc L st M res G := fun hF => by rw [h] at hF; cases hF
theorem i_eq {G : Option ρ} (h : G = F) (k : Im X kc ks pc L st M res F) : Im X kc ks pc L st M res G := by rw [h]; exact k
theorem i_dup (C : Cx X own cc ret) {v : AV} (hd : Dc cc pc .dup 1 pc') (hv : isL v = false) (k : Im X kc ks pc' L (v :: v :: st) M res F) : Im X kc ks pc L (v :: st) M res F := by
  intro hF hM hL hS ba hba H locs ls cells slots h1 h2 hls hP hD hSS
  obtain ⟨hd, rfl⟩ := hd
  refine lv_dup C.1 C.2.1 hd (by rw [cat_L, hv]; rfl) ?_
  exact k hF hM hL ⟨hS.1, hS⟩ ba hba H locs ls cells slots h1 h2 hls hP hD hSS
theorem i_pop (C : Cx X own cc ret) {v : AV} (hd : Dc cc pc .pop 1 pc') (hv : isL v = false) (k : Im X kc ks pc' L (st) M res F) : Im X kc ks pc L (v :: st) M res F := by
  intro hF hM hL hS ba hba H locs ls cells slots h1 h2 hls hP hD hSS
  obtain ⟨hd, rfl⟩ := hd
  refine lv_pop C.1 C.2.1 hd (by rw [cat_L, hv]; rfl) ?_
  exact k hF hM hL hS.2 ba hba H locs ls cells slots h1 h2 hls hP hD hSS
theorem i_dup_x1 (C : Cx X own cc ret) {v u : AV} (hd : Dc cc pc .dup_x1 1 pc') (hv : isL v = false) (hu : isL u = false) (k : Im X kc ks pc' L (v :: u :: v :: st) M res F) : Im X kc ks pc L (v :: u :: st) M res F := by
  intro hF hM hL hS ba hba H locs ls cells slots h1 h2 hls hP hD hSS
  obtain ⟨hd, rfl⟩ := hd
  refine lv_dup_x1 C.1 C.2.1 hd (by rw [cat_L, hv]; rfl) (by rw [cat_L, hu]; rfl) ?_
  exact k hF hM hL ⟨hS.1, hS.2.1, hS.1, hS.2.2⟩ ba hba H locs ls cells slots h1 h2 hls hP hD hSS
theorem i_dup_x2 (C : Cx X own cc ret) {v u t : AV} (hd : Dc cc pc .dup_x2 1 pc') (hv : isL v = false) (hu : isL u = false) (ht : isL t = false) (k : Im X kc ks pc' L (v :: u :: t :: v :: st) M res F) : Im X kc ks pc L (v :: u :: t :: st) M res F := by
  intro hF hM hL hS ba hba H locs ls cells slots h1 h2 hls hP hD hSS
  obtain ⟨hd, rfl⟩ := hd
  refine lv_dup_x2 C.1 C.2.1 hd (by rw [cat_L, hv]; rfl) (by rw [cat_L, hu]; rfl) (by rw [cat_L, ht]; rfl) ?_
  exact k hF hM hL ⟨hS.1, hS.2.1, hS.2.2.1, hS.1, hS.2.2.2⟩ ba hba H locs ls cells slots h1 h2 hls hP hD hSS
theorem i_dup2 (C : Cx X own cc ret) {v u : AV} (hd : Dc cc pc .dup2 1 pc') (hv : isL v = false) (hu : isL u = false) (k : Im X kc ks pc' L (v :: u :: v :: u :: st) M res F) : Im X kc ks pc L (v :: u :: st) M res F := by
  intro hF hM hL hS ba hba H locs ls cells slots h1 h2 hls hP hD hSS
  obtain ⟨hd, rfl⟩ := hd
  refine lv_dup2_11 C.1 C.2.1 hd (by rw [cat_L, hv]; rfl) (by rw [cat_L, hu]; rfl) ?_
  exact k hF hM hL ⟨hS.1, hS.2.1, hS.1, hS.2⟩ ba hba H locs ls cells slots h1 h2 hls hP hD hSS
theorem i_goto (C : Cx X own cc ret) {off : Int} {tgt : Nat} (hd : Dc cc pc (.goto off) 3 pc') (ht : (pc : Int) + off = (tgt : Int)) (k : Im X kc ks tgt L st M res F) : Im X kc ks pc L st M res F := by
  intro hF hM hL hS ba hba H locs ls cells slots h1 h2 hls hP hD hSS
  obtain ⟨hd, rfl⟩ := hd
  exact lv_goto C.1 C.2.1 hd ht (k hF hM hL hS ba hba H locs ls cells slots h1 h2 hls hP hD hSS)
theorem i_split {c : Prop} {dc : Decidable c} (k1 : c → Im X kc ks pc L st M res A) (k2 : ¬ c → Im X kc ks pc L st M res B) : Im X kc ks pc L st M res (@ite _ c dc A B) := by
  by_cases h : c
  · rw [if_pos h]; exact k1 h
  · rw [if_neg h]; exact k2 h
theorem i_if_eq (C : Cx X own cc ret) {off : Int} {tgt : Nat} {dc : Decidable (x = 0)} (hd : Dc cc pc (.ifCond .eq off) 3 pc') (ht : (pc : Int) + off = (tgt : Int)) (k1 : Im X kc ks tgt L st M res A) (k2 : Im X kc ks pc' L st M res B) : Im X kc ks pc L (aI x :: st) M res (@ite _ (x = 0) dc A B) := by
  intro hF hM hL hS ba hba H locs ls cells slots h1 h2 hls hP hD hSS
  obtain ⟨hd, rfl⟩ := hd
  refine lv_if_eq C.1 C.2.1 hd ht (fun h => ?_) (fun h => ?_)
  · rw [if_pos ((i32_eq hS.1 r32_0).mp h)] at hF
    exact k1 hF hM hL hS.2 ba hba H locs ls cells slots h1 h2 hls hP hD hSS
  · rw [if_neg (fun e => h ((i32_eq hS.1 r32_0).mpr e))] at hF
    exact k2 hF hM hL hS.2 ba hba H locs ls cells slots h1 h2 hls hP hD hSS
theorem i_if_eq_t (C : Cx X own cc ret) {off : Int} {tgt : Nat} (hd : Dc cc pc (.ifCond .eq off) 3 pc') (ht : (pc : Int) + off = (tgt : Int)) (hc : x = 0) (k1 : Im X kc ks tgt L st M res F) : Im X kc ks pc L (aI x :: st) M res F := by
  intro hF hM hL hS ba hba H locs ls cells slots h1 h2 hls hP hD hSS
  obtain ⟨hd, rfl⟩ := hd
  refine lv_if_eq C.1 C.2.1 hd ht (fun h => ?_) (fun h => ?_)
  · exact k1 hF hM hL hS.2 ba hba H locs ls cells slots h1 h2 hls hP hD hSS
  · exact absurd hc (fun e => h ((i32_eq hS.1 r32_0).mpr e))
theorem i_if_eq_f (C : Cx X own cc ret) {off : Int} {tgt : Nat} (hd : Dc cc pc (.ifCond .eq off) 3 pc') (ht : (pc : Int) + off = (tgt : Int)) (hc : ¬ x = 0) (k2 : Im X kc ks pc' L st M res F) : Im X kc ks pc L (aI x :: st) M res F := by
  intro hF hM hL hS ba hba H locs ls cells slots h1 h2 hls hP hD hSS
  obtain ⟨hd, rfl⟩ := hd
  refine lv_if_eq C.1 C.2.1 hd ht (fun h => ?_) (fun h => ?_)
  · exact absurd ((i32_eq hS.1 r32_0).mp h) hc
  · exact k2 hF hM hL hS.2 ba hba H locs ls cells slots h1 h2 hls hP hD hSS
theorem i_if_ne (C : Cx X own cc ret) {off : Int} {tgt : Nat} {dc : Decidable (x = 0)} (hd : Dc cc pc (.ifCond .ne off) 3 pc') (ht : (pc : Int) + off = (tgt : Int)) (k1 : Im X kc ks tgt L st M res A) (k2 : Im X kc ks pc' L st M res B) : Im X kc ks pc L (aI x :: st) M res (@ite _ (x = 0) dc B A) := by
  intro hF hM hL hS ba hba H locs ls cells slots h1 h2 hls hP hD hSS
  obtain ⟨hd, rfl⟩ := hd
  refine lv_if_ne C.1 C.2.1 hd ht (fun h => ?_) (fun h => ?_)
  · rw [if_neg (fun e => h ((i32_eq hS.1 r32_0).mpr e))] at hF
    exact k1 hF hM hL hS.2 ba hba H locs ls cells slots h1 h2 hls hP hD hSS
  · rw [if_pos ((i32_eq hS.1 r32_0).mp h)] at hF
    exact k2 hF hM hL hS.2 ba hba H locs ls cells slots h1 h2 hls hP hD hSS
theorem i_if_ne_t (C : Cx X own cc ret) {off : Int} {tgt : Nat} (hd : Dc cc pc (.ifCond .ne off) 3 pc') (ht : (pc : Int) + off = (tgt : Int)) (hc : ¬ x = 0) (k1 : Im X kc ks tgt L st M res F) : Im X kc ks pc L (aI x :: st) M res F := by
  intro hF hM hL hS ba hba H locs ls cells slots h1 h2 hls hP hD hSS
  obtain ⟨hd, rfl⟩ := hd
  refine lv_if_ne C.1 C.2.1 hd ht (fun h => ?_) (fun h => ?_)
  · exact k1 hF hM hL hS.2 ba hba H locs ls cells slots h1 h2 hls hP hD hSS
  · exact absurd hc (not_not_intro ((i32_eq hS.1 r32_0).mp h))
theorem i_if_ne_f (C : Cx X own cc ret) {off : Int} {tgt : Nat} (hd : Dc cc pc (.ifCond .ne off) 3 pc') (ht : (pc : Int) + off = (tgt : Int)) (hc : x = 0) (k2 : Im X kc ks pc' L st M res F) : Im X kc ks pc L (aI x :: st) M res F := by
  intro hF hM hL hS ba hba H locs ls cells slots h1 h2 hls hP hD hSS
  obtain ⟨hd, rfl⟩ := hd
  refine lv_if_ne C.1 C.2.1 hd ht (fun h => ?_) (fun h => ?_)
  · exact absurd (fun e => h ((i32_eq hS.1 r32_0).mpr e)) (not_not_intro hc)
  · exact k2 hF hM hL hS.2 ba hba H locs ls cells slots h1 h2 hls hP hD hSS
theorem i_if_lt (C : Cx X own cc ret) {off : Int} {tgt : Nat} {dc : Decidable (x < 0)} (hd : Dc cc pc (.ifCond .lt off) 3 pc') (ht : (pc : Int) + off = (tgt : Int)) (k1 : Im X kc ks tgt L st M res A) (k2 : Im X kc ks pc' L st M res B) : Im X kc ks pc L (aI x :: st) M res (@ite _ (x < 0) dc A B) := by
  intro hF hM hL hS ba hba H locs ls cells slots h1 h2 hls hP hD hSS
  obtain ⟨hd, rfl⟩ := hd
  refine lv_if_lt C.1 C.2.1 hd ht (fun h => ?_) (fun h => ?_)
  · rw [if_pos ((i32_lt hS.1 r32_0).mp h)] at hF
    exact k1 hF hM hL hS.2 ba hba H locs ls cells slots h1 h2 hls hP hD hSS
  · rw [if_neg (fun e => h ((i32_lt hS.1 r32_0).mpr e))] at hF
    exact k2 hF hM hL hS.2 ba hba H locs ls cells slots h1 h2 hls hP hD hSS
theorem i_if_lt_t (C : Cx X own cc ret) {off : Int} {tgt : Nat} (hd : Dc cc pc (.ifCond .lt off) 3 pc') (ht : (pc : Int) + off = (tgt : Int)) (hc : x < 0) (k1 : Im X kc ks tgt L st M res F) : Im X kc ks pc L (aI x :: st) M res F := by
  intro hF hM hL hS ba hba H locs ls cells slots h1 h2 hls hP hD hSS
  obtain ⟨hd, rfl⟩ := hd
  refine lv_if_lt C.1 C.2.1 hd ht (fun h => ?_) (fun h => ?_)
  · exact k1 hF hM hL hS.2 ba hba H locs ls cells slots h1 h2 hls hP hD hSS
  · exact absurd hc (fun e => h ((i32_lt hS.1 r32_0).mpr e))
theorem i_if_lt_f (C : Cx X own cc ret) {off : Int} {tgt : Nat} (hd : Dc cc pc (.ifCond .lt off) 3 pc') (ht : (pc : Int) + off = (tgt : Int)) (hc : ¬ x < 0) (k2 : Im X kc ks pc' L st M res F) : Im X kc ks pc L (aI x :: st) M res F := by
  intro hF hM hL hS ba hba H locs ls cells slots h1 h2 hls hP hD hSS
  obtain ⟨hd, rfl⟩ := hd
  refine lv_if_lt C.1 C.2.1 hd ht (fun h => ?_) (fun h => ?_)
  · exact absurd ((i32_lt hS.1 r32_0).mp h) hc
  · exact k2 hF hM hL hS.2 ba hba H locs ls cells slots h1 h2 hls hP hD hSS
theorem i_if_ge (C : Cx X own cc ret) {off : Int} {tgt : Nat} {dc : Decidable (x < 0)} (hd : Dc cc pc (.ifCond .ge off) 3 pc') (ht : (pc : Int) + off = (tgt : Int)) (k1 : Im X kc ks tgt L st M res A) (k2 : Im X kc ks pc' L st M res B) : Im X kc ks pc L (aI x :: st) M res (@ite _ (x < 0) dc B A) := by
  intro hF hM hL hS ba hba H locs ls cells slots h1 h2 hls hP hD hSS
  obtain ⟨hd, rfl⟩ := hd
  refine lv_if_ge C.1 C.2.1 hd ht (fun h => ?_) (fun h => ?_)
  · rw [if_neg (Int.not_lt.mpr ((i32_le r32_0 hS.1).mp h))] at hF
    exact k1 hF hM hL hS.2 ba hba H locs ls cells slots h1 h2 hls hP hD hSS
  · rw [if_pos (Int.not_le.mp fun e => h ((i32_le r32_0 hS.1).mpr e))] at hF
    exact k2 hF hM hL hS.2 ba hba H locs ls cells slots h1 h2 hls hP hD hSS
theorem i_if_ge_t (C : Cx X own cc ret) {off : Int} {tgt : Nat} (hd : Dc cc pc (.ifCond .ge off) 3 pc') (ht : (pc : Int) + off = (tgt : Int)) (hc : ¬ x < 0) (k1 : Im X kc ks tgt L st M res F) : Im X kc ks pc L (aI x :: st) M res F := by
  intro hF hM hL hS ba hba H locs ls cells slots h1 h2 hls hP hD hSS
  obtain ⟨hd, rfl⟩ := hd
  refine lv_if_ge C.1 C.2.1 hd ht (fun h => ?_) (fun h => ?_)
  · exact k1 hF hM hL hS.2 ba hba H locs ls cells slots h1 h2 hls hP hD hSS
  · exact absurd hc (not_not_intro (Int.not_le.mp fun e => h ((i32_le r32_0 hS.1).mpr e)))
theorem i_if_ge_f (C : Cx X own cc ret) {off : Int} {tgt : Nat} (hd : Dc cc pc (.ifCond .ge off) 3 pc') (ht : (pc : Int) + off = (tgt : Int)) (hc : x < 0) (k2 : Im X kc ks pc' L st M res F) : Im X kc ks pc L (aI x :: st) M res F := by
  intro hF hM hL hS ba hba H locs ls cells slots h1 h2 hls hP hD hSS
  obtain ⟨hd, rfl⟩ := hd
  refine lv_if_ge C.1 C.2.1 hd ht (fun h => ?_) (fun h => ?_)
  · exact absurd (Int.not_lt.mpr ((i32_le r32_0 hS.1).mp h)) (not_not_intro hc)
  · exact k2 hF hM hL hS.2 ba hba H locs ls cells slots h1 h2 hls hP hD hSS
theorem i_if_gt (C : Cx X own cc ret) {off : Int} {tgt : Nat} {dc : Decidable (0 < x)} (hd : Dc cc pc (.ifCond .gt off) 3 pc') (ht : (pc : Int) + off = (tgt : Int)) (k1 : Im X kc ks tgt L st M res A) (k2 : Im X kc ks pc' L st M res B) : Im X kc ks pc L (aI x :: st) M res (@ite _ (0 < x) dc A B) := by
  intro hF hM hL hS ba hba H locs ls cells slots h1 h2 hls hP hD hSS
  obtain ⟨hd, rfl⟩ := hd
  refine lv_if_gt C.1 C.2.1 hd ht (fun h => ?_) (fun h => ?_)
  · rw [if_pos ((i32_lt r32_0 hS.1).mp h)] at hF
    exact k1 hF hM hL hS.2 ba hba H locs ls cells slots h1 h2 hls hP hD hSS
  · rw [if_neg (fun e => h ((i32_lt r32_0 hS.1).mpr e))] at hF
    exact k2 hF hM hL hS.2 ba hba H locs ls cells slots h1 h2 hls hP hD hSS
theorem i_if_gt_t (C : Cx X own cc ret) {off : Int} {tgt : Nat} (hd : Dc cc pc (.ifCond .gt off) 3 pc') (ht : (pc : Int) + off = (tgt : Int)) (hc : 0 < x) (k1 : Im X kc ks tgt L st M res F) : Im X kc ks pc L (aI x :: st) M res F := by
  intro hF hM hL hS ba hba H locs ls cells slots h1 h2 hls hP hD hSS
  obtain ⟨hd, rfl⟩ := hd
  refine lv_if_gt C.1 C.2.1 hd ht (fun h => ?_) (fun h => ?_)
  · exact k1 hF hM hL hS.2 ba hba H locs ls cells slots h1 h2 hls hP hD hSS
  · exact absurd hc (fun e => h ((i32_lt r32_0 hS.1).mpr e))
theorem i_if_gt_f (C : Cx X own cc ret) {off : Int} {tgt : Nat} (hd : Dc cc pc (.ifCond .gt off) 3 pc') (ht : (pc : Int) + off = (tgt : Int)) (hc : ¬ 0 < x) (k2 : Im X kc ks pc' L st M res F) : Im X kc ks pc L (aI x :: st) M res F := by
  intro hF hM hL hS ba hba H locs ls cells slots h1 h2 hls hP hD hSS
  obtain ⟨hd, rfl⟩ := hd
  refine lv_if_gt C.1 C.2.1 hd ht (fun h => ?_) (fun h => ?_)
  · exact absurd ((i32_lt r32_0 hS.1).mp h) hc
  · exact k2 hF hM hL hS.2 ba hba H locs ls cells slots h1 h2 hls hP hD hSS
theorem i_if_le (C : Cx X own cc ret) {off : Int} {tgt : Nat} {dc : Decidable (0 < x)} (hd : Dc cc pc (.ifCond .le off) 3 pc') (ht : (pc : Int) + off = (tgt : Int)) (k1 : Im X kc ks tgt L st M res A) (k2 : Im X kc ks pc' L st M res B) : Im X kc ks pc L (aI x :: st) M res (@ite _ (0 < x) dc B A) := by
  intro hF hM hL hS ba hba H locs ls cells slots h1 h2 hls hP hD hSS
  obtain ⟨hd, rfl⟩ := hd
  refine lv_if_le C.1 C.2.1 hd ht (fun h => ?_) (fun h => ?_)
  · rw [if_neg (Int.not_lt.mpr ((i32_le hS.1 r32_0).mp h))] at hF
    exact k1 hF hM hL hS.2 ba hba H locs ls cells slots h1 h2 hls hP hD hSS
  · rw [if_pos (Int.not_le.mp fun e => h ((i32_le hS.1 r32_0).mpr e))] at hF
    exact k2 hF hM hL hS.2 ba hba H locs ls cells slots h1 h2 hls hP hD hSS
theorem i_if_le_t (C : Cx X own cc ret) {off : Int} {tgt : Nat} (hd : Dc cc pc (.ifCond .le off) 3 pc') (ht : (pc : Int) + off = (tgt : Int)) (hc : ¬ 0 < x) (k1 : Im X kc ks tgt L st M res F) : Im X kc ks pc L (aI x :: st) M res F := by
  intro hF hM hL hS ba hba H locs ls cells slots h1 h2 hls hP hD hSS
  obtain ⟨hd, rfl⟩ := hd
  refine lv_if_le C.1 C.2.1 hd ht (fun h => ?_) (fun h => ?_)
  · exact k1 hF hM hL hS.2 ba hba H locs ls cells slots h1 h2 hls hP hD hSS
  · exact absurd hc (not_not_intro (Int.not_le.mp fun e => h ((i32_le hS.1 r32_0).mpr e)))
theorem i_if_le_f (C : Cx X own cc ret) {off : Int} {tgt : Nat} (hd : Dc cc pc (.ifCond .le off) 3 pc') (ht : (pc : Int) + off = (tgt : Int)) (hc : 0 < x) (k2 : Im X kc ks pc' L st M res F) : Im X kc ks pc L (aI x :: st) M res F := by
  intro hF hM hL hS ba hba H locs ls cells slots h1 h2 hls hP hD hSS
  obtain ⟨hd, rfl⟩ := hd
  refine lv_if_le C.1 C.2.1 hd ht (fun h => ?_) (fun h => ?_)
  · exact absurd (Int.not_lt.mpr ((i32_le hS.1 r32_0).mp h)) (not_not_intro hc)
  · exact k2 hF hM hL hS.2 ba hba H locs ls cells slots h1 h2 hls hP hD hSS
theorem i_icmp_eq (C : Cx X own cc ret) {off : Int} {tgt : Nat} {dc : Decidable (x = y)} (hd : Dc cc pc (.if_icmp .eq off) 3 pc') (ht : (pc : Int) + off = (tgt : Int)) (k1 : Im X kc ks tgt L st M res A) (k2 : Im X kc ks pc' L st M res B) : Im X kc ks pc L (aI y :: aI x :: st) M res (@ite _ (x = y) dc A B) := by
  intro hF hM hL hS ba hba H locs ls cells slots h1 h2 hls hP hD hSS
  obtain ⟨hd, rfl⟩ := hd
  refine lv_icmp_eq C.1 C.2.1 hd ht (fun h => ?_) (fun h => ?_)
  · rw [if_pos ((i32_eq hS.2.1 hS.1).mp h)] at hF
    exact k1 hF hM hL hS.2.2 ba hba H locs ls cells slots h1 h2 hls hP hD hSS
  · rw [if_neg (fun e => h ((i32_eq hS.2.1 hS.1).mpr e))] at hF
    exact k2 hF hM hL hS.2.2 ba hba H locs ls cells slots h1 h2 hls hP hD hSS
theorem i_icmp_eq_t (C : Cx X own cc ret) {off : Int} {tgt : Nat} (hd : Dc cc pc (.if_icmp .eq off) 3 pc') (ht : (pc : Int) + off = (tgt : Int)) (hc : x = y) (k1 : Im X kc ks tgt L st M res F) : Im X kc ks pc L (aI y :: aI x :: st) M res F := by
  intro hF hM hL hS ba hba H locs ls cells slots h1 h2 hls hP hD hSS
  obtain ⟨hd, rfl⟩ := hd
  refine lv_icmp_eq C.1 C.2.1 hd ht (fun h => ?_) (fun h => ?_)
  · exact k1 hF hM hL hS.2.2 ba hba H locs ls cells slots h1 h2 hls hP hD hSS
  · exact absurd hc (fun e => h ((i32_eq hS.2.1 hS.1).mpr e))
theorem i_icmp_eq_f (C : Cx X own cc ret) {off : Int} {tgt : Nat} (hd : Dc cc pc (.if_icmp .eq off) 3 pc') (ht : (pc : Int) + off = (tgt : Int)) (hc : ¬ x = y) (k2 : Im X kc ks pc' L st M res F) : Im X kc ks pc L (aI y :: aI x :: st) M res F := by
  intro hF hM hL hS ba hba H locs ls cells slots h1 h2 hls hP hD hSS
  obtain ⟨hd, rfl⟩ := hd
  refine lv_icmp_eq C.1 C.2.1 hd ht (fun h => ?_) (fun h => ?_)
  · exact absurd ((i32_eq hS.2.1 hS.1).mp h) hc
  · exact k2 hF hM hL hS.2.2 ba hba H locs ls cells slots h1 h2 hls hP hD hSS
theorem i_icmp_ne (C : Cx X own cc ret) {off : Int} {tgt : Nat} {dc : Decidable (x = y)} (hd : Dc cc pc (.if_icmp .ne off) 3 pc') (ht : (pc : Int) + off = (tgt : Int)) (k1 : Im X kc ks tgt L st M res A) (k2 : Im X kc ks pc' L st M res B) : Im X kc ks pc L (aI y :: aI x :: st) M res (@ite _ (x = y) dc B A) := by
  intro hF hM hL hS ba hba H locs ls cells slots h1 h2 hls hP hD hSS
  obtain ⟨hd, rfl⟩ := hd
  refine lv_icmp_ne C.1 C.2.1 hd ht (fun h => ?_) (fun h => ?_)
  · rw [if_neg (fun e => h ((i32_eq hS.2.1 hS.1).mpr e))] at hF
    exact k1 hF hM hL hS.2.2 ba hba H locs ls cells slots h1 h2 hls hP hD hSS
  · rw [if_pos ((i32_eq hS.2.1 hS.1).mp h)] at hF
    exact k2 hF hM hL hS.2.2 ba hba H locs ls cells slots h1 h2 hls hP hD hSS
theorem i_icmp_ne_t (C : Cx X own cc ret) {off : Int} {tgt : Nat} (hd : Dc cc pc (.if_icmp .ne off) 3 pc') (ht : (pc : Int) + off = (tgt : Int)) (hc : ¬ x = y) (k1 : Im X kc ks tgt L st M res F) : Im X kc ks pc L (aI y :: aI x :: st) M res F := by
  intro hF hM hL hS ba hba H locs ls cells slots h1 h2 hls hP hD hSS
  obtain ⟨hd, rfl⟩ := hd
  refine lv_icmp_ne C.1 C.2.1 hd ht (fun h => ?_) (fun h => ?_)
  · exact k1 hF hM hL hS.2.2 ba hba H locs ls cells slots h1 h2 hls hP hD hSS
  · exact absurd hc (not_not_intro ((i32_eq hS.2.1 hS.1).mp h))
theorem i_icmp_ne_f (C : Cx X own cc ret) {off : Int} {tgt : Nat} (hd : Dc cc pc (.if_icmp .ne off) 3 pc') (ht : (pc : Int) + off = (tgt : Int)) (hc : x = y) (k2 : Im X kc ks pc' L st M res F) : Im X kc ks pc L (aI y :: aI x :: st) M res F := by
  intro hF hM hL hS ba hba H locs ls cells slots h1 h2 hls hP hD hSS
  obtain ⟨hd, rfl⟩ := hd
  refine lv_icmp_ne C.1 C.2.1 hd ht (fun h => ?_) (fun h => ?_)
  · exact absurd (fun e => h ((i32_eq hS.2.1 hS.1).mpr e)) (not_not_intro hc)
  · exact k2 hF hM hL hS.2.2 ba hba H locs ls cells slots h1 h2 hls hP hD hSS
theorem i_icmp_lt (C : Cx X own cc ret) {off : Int} {tgt : Nat} {dc : Decidable (x < y)} (hd : Dc cc pc (.if_icmp .lt off) 3 pc') (ht : (pc : Int) + off = (tgt : Int)) (k1 : Im X kc ks tgt L st M res A) (k2 : Im X kc ks pc' L st M res B) : Im X kc ks pc L (aI y :: aI x :: st) M res (@ite _ (x < y) dc A B) := by
  intro hF hM hL hS ba hba H locs ls cells slots h1 h2 hls hP hD hSS
  obtain ⟨hd, rfl⟩ := hd
  refine lv_icmp_lt C.1 C.2.1 hd ht (fun h => ?_) (fun h => ?_)
  · rw [if_pos ((i32_lt hS.2.1 hS.1).mp h)] at hF
    exact k1 hF hM hL hS.2.2 ba hba H locs ls cells slots h1 h2 hls hP hD hSS
  · rw [if_neg (fun e => h ((i32_lt hS.2.1 hS.1).mpr e))] at hF
    exact k2 hF hM hL hS.2.2 ba hba H locs ls cells slots h1 h2 hls hP hD hSS
theorem i_icmp_lt_t (C : Cx X own cc ret) {off : Int} {tgt : Nat} (hd : Dc cc pc (.if_icmp .lt off) 3 pc') (ht : (pc : Int) + off = (tgt : Int)) (hc : x < y) (k1 : Im X kc ks tgt L st M res F) : Im X kc ks pc L (aI y :: aI x :: st) M res F := by
  intro hF hM hL hS ba hba H locs ls cells slots h1 h2 hls hP hD hSS
  obtain ⟨hd, rfl⟩ := hd
  refine lv_icmp_lt C.1 C.2.1 hd ht (fun h => ?_) (fun h => ?_)
  · exact k1 hF hM hL hS.2.2 ba hba H locs ls cells slots h1 h2 hls hP hD hSS
  · exact absurd hc (fun e => h ((i32_lt hS.2.1 hS.1).mpr e))
theorem i_icmp_lt_f (C : Cx X own cc ret) {off : Int} {tgt : Nat} (hd : Dc cc pc (.if_icmp .lt off) 3 pc') (ht : (pc : Int) + off = (tgt : Int)) (hc : ¬ x < y) (k2 : Im X kc ks pc' L st M res F) : Im X kc ks pc L (aI y :: aI x :: st) M res F := by
  intro hF hM hL hS ba hba H locs ls cells slots h1 h2 hls hP hD hSS
  obtain ⟨hd, rfl⟩ := hd
  refine lv_icmp_lt C.1 C.2.1 hd ht (fun h => ?_) (fun h => ?_)
  · exact absurd ((i32_lt hS.2.1 hS.1).mp h) hc
  · exact k2 hF hM hL hS.2.2 ba hba H locs ls cells slots h1 h2 hls hP hD hSS
theorem i_icmp_ge (C : Cx X own cc ret) {off : Int} {tgt : Nat} {dc : Decidable (x < y)} (hd : Dc cc pc (.if_icmp .ge off) 3 pc') (ht : (pc : Int) + off = (tgt : Int)) (k1 : Im X kc ks tgt L st M res A) (k2 : Im X kc ks pc' L st M res B) : Im X kc ks pc L (aI y :: aI x :: st) M res (@ite _ (x < y) dc B A) := by
  intro hF hM hL hS ba hba H locs ls cells slots h1 h2 hls hP hD hSS
  obtain ⟨hd, rfl⟩ := hd
  refine lv_icmp_ge C.1 C.2.1 hd ht (fun h => ?_) (fun h => ?_)
  · rw [if_neg (Int.not_lt.mpr ((i32_le hS.1 hS.2.1).mp h))] at hF
    exact k1 hF hM hL hS.2.2 ba hba H locs ls cells slots h1 h2 hls hP hD hSS
  · rw [if_pos (Int.not_le.mp fun e => h ((i32_le hS.1 hS.2.1).mpr e))] at hF
    exact k2 hF hM hL hS.2.2 ba hba H locs ls cells slots h1 h2 hls hP hD hSS
theorem i_icmp_ge_t (C : Cx X own cc ret) {off : Int} {tgt : Nat} (hd : Dc cc pc (.if_icmp .ge off) 3 pc') (ht : (pc : Int) + off = (tgt : Int)) (hc : ¬ x < y) (k1 : Im X kc ks tgt L st M res F) : Im X kc ks pc L (aI y :: aI x :: st) M res F := by
  intro hF hM hL hS ba hba H locs ls cells slots h1 h2 hls hP hD hSS
  obtain ⟨hd, rfl⟩ := hd
  refine lv_icmp_ge C.1 C.2.1 hd ht (fun h => ?_) (fun h => ?_)
  · exact k1 hF hM hL hS.2.2 ba hba H locs ls cells slots h1 h2 hls hP hD hSS
  · exact absurd hc (not_not_intro (Int.not_le.mp fun e => h ((i32_le hS.1 hS.2.1).mpr e)))
theorem i_icmp_ge_f (C : Cx X own cc ret) {off : Int} {tgt : Nat} (hd : Dc cc pc (.if_icmp .ge off) 3 pc') (ht : (pc : Int) + off = (tgt : Int)) (hc : x < y) (k2 : Im X kc ks pc' L st M res F) : Im X kc ks pc L (aI y :: aI x :: st) M res F := by
  intro hF hM hL hS ba hba H locs ls cells slots h1 h2 hls hP hD hSS
  obtain ⟨hd, rfl⟩ := hd
  refine lv_icmp_ge C.1 C.2.1 hd ht (fun h => ?_) (fun h => ?_)
  · exact absurd (Int.not_lt.mpr ((i32_le hS.1 hS.2.1).mp h)) (not_not_intro hc)
  · exact k2 hF hM hL hS.2.2 ba hba H locs ls cells slots h1 h2 hls hP hD hSS
theorem i_icmp_gt (C : Cx X own cc ret) {off : Int} {tgt : Nat} {dc : Decidable (y < x)} (hd : Dc cc pc (.if_icmp .gt off) 3 pc') (ht : (pc : Int) + off = (tgt : Int)) (k1 : Im X kc ks tgt L st M res A) (k2 : Im X kc ks pc' L st M res B) : Im X kc ks pc L (aI y :: aI x :: st) M res (@ite _ (y < x) dc A B) := by
  intro hF hM hL hS ba hba H locs ls cells slots h1 h2 hls hP hD hSS
  obtain ⟨hd, rfl⟩ := hd
  refine lv_icmp_gt C.1 C.2.1 hd ht (fun h => ?_) (fun h => ?_)
  · rw [if_pos ((i32_lt hS.1 hS.2.1).mp h)] at hF
    exact k1 hF hM hL hS.2.2 ba hba H locs ls cells slots h1 h2 hls hP hD hSS
  · rw [if_neg (fun e => h ((i32_lt hS.1 hS.2.1).mpr e))] at hF
    exact k2 hF hM hL hS.2.2 ba hba H locs ls cells slots h1 h2 hls hP hD hSS
theorem i_icmp_gt_t (C : Cx X own cc ret) {off : Int} {tgt : Nat} (hd : Dc cc pc (.if_icmp .gt off) 3 pc') (ht : (pc : Int) + off = (tgt : Int)) (hc : y < x) (k1 : Im X kc ks tgt L st M res F) : Im X kc ks pc L (aI y :: aI x :: st) M res F := by
  intro hF hM hL hS ba hba H locs ls cells slots h1 h2 hls hP hD hSS
  obtain ⟨hd, rfl⟩ := hd
  refine lv_icmp_gt C.1 C.2.1 hd ht (fun h => ?_) (fun h => ?_)
  · exact k1 hF hM hL hS.2.2 ba hba H locs ls cells slots h1 h2 hls hP hD hSS
  · exact absurd hc (fun e => h ((i32_lt hS.1 hS.2.1).mpr e))
theorem i_icmp_gt_f (C : Cx X own cc ret) {off : Int} {tgt : Nat} (hd : Dc cc pc (.if_icmp .gt off) 3 pc') (ht : (pc : Int) + off = (tgt : Int)) (hc : ¬ y < x) (k2 : Im X kc ks pc' L st M res F) : Im X kc ks pc L (aI y :: aI x :: st) M res F := by
  intro hF hM hL hS ba hba H locs ls cells slots h1 h2 hls hP hD hSS
  obtain ⟨hd, rfl⟩ := hd
  refine lv_icmp_gt C.1 C.2.1 hd ht (fun h => ?_) (fun h => ?_)
  · exact absurd ((i32_lt hS.1 hS.2.1).mp h) hc
  · exact k2 hF hM hL hS.2.2 ba hba H locs ls cells slots h1 h2 hls hP hD hSS
theorem i_icmp_le (C : Cx X own cc ret) {off : Int} {tgt : Nat} {dc : Decidable (y < x)} (hd : Dc cc pc (.if_icmp .le off) 3 pc') (ht : (pc : Int) + off = (tgt : Int)) (k1 : Im X kc ks tgt L st M res A) (k2 : Im X kc ks pc' L st M res B) : Im X kc ks pc L (aI y :: aI x :: st) M res (@ite _ (y < x) dc B A) := by
  intro hF hM hL hS ba hba H locs ls cells slots h1 h2 hls hP hD hSS
  obtain ⟨hd, rfl⟩ := hd
  refine lv_icmp_le C.1 C.2.1 hd ht (fun h => ?_) (fun h => ?_)
  · rw [if_neg (Int.not_lt.mpr ((i32_le hS.2.1 hS.1).mp h))] at hF
    exact k1 hF hM hL hS.2.2 ba hba H locs ls cells slots h1 h2 hls hP hD hSS
  · rw [if_pos (Int.not_le.mp fun e => h ((i32_le hS.2.1 hS.1).mpr e))] at hF
    exact k2 hF hM hL hS.2.2 ba hba H locs ls cells slots h1 h2 hls hP hD hSS
theorem i_icmp_le_t (C : Cx X own cc ret) {off : Int} {tgt : Nat} (hd : Dc cc pc (.if_icmp .le off) 3 pc') (ht : (pc : Int) + off = (tgt : Int)) (hc : ¬ y < x) (k1 : Im X kc ks tgt L st M res F) : Im X kc ks pc L (aI y :: aI x :: st) M res F := by
  intro hF hM hL hS ba hba H locs ls cells slots h1 h2 hls hP hD hSS
  obtain ⟨hd, rfl⟩ := hd
  refine lv_icmp_le C.1 C.2.1 hd ht (fun h => ?_) (fun h => ?_)
  · exact k1 hF hM hL hS.2.2 ba hba H locs ls cells slots h1 h2 hls hP hD hSS
  · exact absurd hc (not_not_intro (Int.not_le.mp fun e => h ((i32_le hS.2.1 hS.1).mpr e)))
theorem i_icmp_le_f (C : Cx X own cc ret) {off : Int} {tgt : Nat} (hd : Dc cc pc (.if_icmp .le off) 3 pc') (ht : (pc : Int) + off = (tgt : Int)) (hc : y < x) (k2 : Im X kc ks pc' L st M res F) : Im X kc ks pc L (aI y :: aI x :: st) M res F := by
  intro hF hM hL hS ba hba H locs ls cells slots h1 h2 hls hP hD hSS
  obtain ⟨hd, rfl⟩ := hd
  refine lv_icmp_le C.1 C.2.1 hd ht (fun h => ?_) (fun h => ?_)
  · exact absurd (Int.not_lt.mpr ((i32_le hS.2.1 hS.1).mp h)) (not_not_intro hc)
  · exact k2 hF hM hL hS.2.2 ba hba H locs ls cells slots h1 h2 hls hP hD hSS
end R1
