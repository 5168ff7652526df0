/-! Rows over cells, returns, calls. -/
def rdA {α : Type} (f : Int → Int) (n : Nat) (x : Int) (k : Int → Option α) : Option α := if 0 ≤ x ∧ x < n then k (f x) else none
def wrA {α : Type} (M : Mem) (id n : Nat) (x v : Int) (k : Mem → Option α) : Option α := if 0 ≤ x ∧ x < n then k (upM M id x v) else none
def wrF {α : Type} (M : Mem) (id : Nat) (j v : Int) (k : Mem → Option α) : Option α := k (upM M id j v)
def bnI {α : Type} (c : Option (Int × Mem)) (k : Int → Mem → Option α) : Option α := match c with
  | some q => k q.1 q.2
  | none => none
def bnV {α : Type} (c : Option Mem) (k : Mem → Option α) : Option α := match c with
  | some M => k M
  | none => none
def Kl (ci : Nat) (Cn : String) (T : u_T) (N : Nat) (ty : Nat → FieldType) : Prop := vwCl[ci]? = some (Cn, T, N) ∧ (∀ w ∈ u_ws Cn T N, w ∈ wsT) ∧ (∀ k, k < N → parseFieldDescriptor (T k).2.2.1 = some (ty k)) ∧ ∀ a, a < N → ∀ b, b < N → a ≠ b → (T a).2.1 ≠ (T b).2.1
def Sh (X : Xc) (id : Nat) (sh : Shp) : Prop := id ∈ (xK X).1 ∧ (xK X).2.2 id = sh
def lenOf (K : Kx) (id : Nat) : Nat := match K.2.2 id with
  | .inl n => n
  | .inr _ => 0
theorem cellE_a {cA : ClassId} {ad ba : Nat → Nat} {M : Mem} {id n : Nat} {sh : Shp} (h : sh = .inl n) : cellE cA ad ba M id sh = .inl (cA, n, .inl fun j => Int32.ofInt (M id (j : Int))) := by rw [h]; rfl
theorem cellE_o {cA : ClassId} {ad ba : Nat → Nat} {M : Mem} {id ci : Nat} {fl : List (Nat ⊕ Nat ⊕ Unit)} {sh : Shp} (h : sh = .inr (ci, fl)) : cellE cA ad ba M id sh = .inr (ci, fldV ad ba M id 0 fl) := by rw [h]; rfl
theorem upM_arr {M : Mem} {id : Nat} {x v : Int} (h : 0 ≤ x) : (fun j : Nat => Int32.ofInt (upM M id x v id (j : Int))) = upd (fun j : Nat => Int32.ofInt (M id (j : Int))) x.toNat (Int32.ofInt v) := by
  funext j
  unfold upM
  by_cases e : (j : Int) = x
  · have e' : j = x.toNat := by omega
    rw [if_pos ⟨rfl, e⟩, e', pk_us]
  · have e' : j ≠ x.toNat := by omega
    rw [if_neg (fun q => e q.2), pk_un e']
section R2
variable {X : Xc} {own : String} {cc : ByteArray} {ret : Option FieldType} {kc ks pc pc' : Nat} {L L' : List (Nat × AV)} {st : List AV} {M : Mem} {ρ : Type} {res : ρ} {F A B : Option ρ} {x y z : Int}
theorem i_getI (C : Cx X own cc ret) {ci N k idx id : Nat} {j : Int} {Cn : String} {T : u_T} {ty : Nat → FieldType} {fl : List (Nat ⊕ Nat ⊕ Unit)} (hk : Kl ci Cn T N ty) (hd : Dc cc pc (.getfield idx) 3 pc') (hsh : Sh X id (.inr (ci, fl))) (hf : fl[k]? = some fI) (hkN : k < N) (hw : Cond.fieldLink own idx (T k).1 (T k).2.1 (T k).2.2.1 ∈ wsT) (hj : ((k : Nat) : Int) = j) (kk : Im X kc ks pc' L (aI (M id j) :: st) M res F) : Im X kc ks pc L (aR id :: st) M res F := by
  intro hF hM hL hS ba hba H locs ls cells slots h1 h2 hls hP hD hSS
  obtain ⟨hd, rfl⟩ := hd
  subst hj
  obtain ⟨q, hq, -⟩ := wsl_at (G := xG X) C.2.2.2.2.2.2.1 ba M hsh.1
  rw [cellE_o hsh.2] at hq
  refine va_get C.1 C.2.1 C.2.2.2.2.1 hk.2.1 C.2.2.2.1 C.2.2.2.2.2.1.1 hP q hq hk.1 k hkN (C.2.2.2.2.1 _ hw) (fun _ h => h) (v := .int (Int32.ofInt (M id (k : Nat)))) ?_ hd ?_
  · rw [fldV_get hf, Nat.zero_add]; rfl
  · exact kk hF hM hL ⟨hM _ _, hS.2⟩ ba hba H locs ls cells slots h1 h2 hls hP hD hSS
theorem i_getR (C : Cx X own cc ret) {ci N k idx id id' : Nat} {Cn : String} {T : u_T} {ty : Nat → FieldType} {fl : List (Nat ⊕ Nat ⊕ Unit)} (hk : Kl ci Cn T N ty) (hd : Dc cc pc (.getfield idx) 3 pc') (hsh : Sh X id (.inr (ci, fl))) (hf : fl[k]? = some (fR id')) (hkN : k < N) (hw : Cond.fieldLink own idx (T k).1 (T k).2.1 (T k).2.2.1 ∈ wsT) (kk : Im X kc ks pc' L (aR id' :: st) M res F) : Im X kc ks pc L (aR id :: st) M res F := by
  intro hF hM hL hS ba hba H locs ls cells slots h1 h2 hls hP hD hSS
  obtain ⟨hd, rfl⟩ := hd
  obtain ⟨q, hq, -⟩ := wsl_at (G := xG X) C.2.2.2.2.2.2.1 ba M hsh.1
  rw [cellE_o hsh.2] at hq
  refine va_get C.1 C.2.1 C.2.2.2.2.1 hk.2.1 C.2.2.2.1 C.2.2.2.2.2.1.1 hP q hq hk.1 k hkN (C.2.2.2.2.1 _ hw) (fun _ h => h) (v := .ref (gd (xG X) id')) ?_ hd ?_
  · rw [fldV_get hf]; rfl
  · exact kk hF hM hL ⟨trivial, hS.2⟩ ba hba H locs ls cells slots h1 h2 hls hP hD hSS
theorem i_getB (C : Cx X own cc ret) {ci N k idx id b : Nat} {Cn : String} {T : u_T} {ty : Nat → FieldType} {fl : List (Nat ⊕ Nat ⊕ Unit)} (hk : Kl ci Cn T N ty) (hd : Dc cc pc (.getfield idx) 3 pc') (hsh : Sh X id (.inr (ci, fl))) (hf : fl[k]? = some (fB b)) (hkN : k < N) (hw : Cond.fieldLink own idx (T k).1 (T k).2.1 (T k).2.2.1 ∈ wsT) (kk : Im X kc ks pc' L (aB b :: st) M res F) : Im X kc ks pc L (aR id :: st) M res F := by
  intro hF hM hL hS ba hba H locs ls cells slots h1 h2 hls hP hD hSS
  obtain ⟨hd, rfl⟩ := hd
  obtain ⟨q, hq, -⟩ := wsl_at (G := xG X) C.2.2.2.2.2.2.1 ba M hsh.1
  rw [cellE_o hsh.2] at hq
  refine va_get C.1 C.2.1 C.2.2.2.2.1 hk.2.1 C.2.2.2.1 C.2.2.2.2.2.1.1 hP q hq hk.1 k hkN (C.2.2.2.2.1 _ hw) (fun _ h => h) (v := .ref (ba b)) ?_ hd ?_
  · rw [fldV_get hf]; rfl
  · exact kk hF hM hL ⟨trivial, hS.2⟩ ba hba H locs ls cells slots h1 h2 hls hP hD hSS
theorem i_putI (C : Cx X own cc ret) {ci N k idx id : Nat} {j : Int} {Cn : String} {T : u_T} {ty : Nat → FieldType} {fl : List (Nat ⊕ Nat ⊕ Unit)} {f : Mem → Option ρ} (hk : Kl ci Cn T N ty) (hd : Dc cc pc (.putfield idx) 3 pc') (hsh : Sh X id (.inr (ci, fl))) (hf : fl[k]? = some fI) (hkN : k < N) (hw : Cond.fieldLink own idx (T k).1 (T k).2.1 (T k).2.2.1 ∈ wsT) (hfin : (T k).2.2.2 = false) (hn : narrow (ty k) (.int (Int32.ofInt x)) = .int (Int32.ofInt x)) (hft : fits (ty k) (.int (Int32.ofInt x)) = true) (hj : ((k : Nat) : Int) = j) (kk : ∀ M', Im X kc ks pc' L st M' res (f M')) : Im X kc ks pc L (aI x :: aR id :: st) M res (wrF M id j x f) := by
  intro hF hM hL hS ba hba H locs ls cells slots h1 h2 hls hP hD hSS
  obtain ⟨hd, rfl⟩ := hd
  subst hj
  obtain ⟨q, hq, hset⟩ := wsl_at (G := xG X) C.2.2.2.2.2.2.1 ba M hsh.1
  have hs := hset (upM M id (k : Nat) x) (fun a ha i => upM_nk ha i)
  rw [cellE_o hsh.2] at hq hs
  have hl : k < fl.length := (List.getElem?_eq_some_iff.mp hf).1
  refine va_put C.1 C.2.1 C.2.2.2.2.1 hk.2.1 ty hk.2.2.1 hk.2.2.2 C.2.2.2.1 C.2.2.2.2.2.1.1 hP hD hSS q hq hk.1 k hkN (C.2.2.2.2.1 _ hw) (fun _ h => h) hfin (v := .int (Int32.ofInt x)) (hk.2.2.1 k hkN) hn hft (by rw [fldV_len]; exact hl) hd (fun H1 locs1 hP1 hD1 hS1 => ?_)
  rw [fldV_set hf, Nat.zero_add, hs] at hP1 hD1
  exact kk _ hF (hM.up hS.1) hL hS.2.2 ba hba H1 locs1 ls cells slots h1 h2 hls hP1 hD1 hS1
theorem i_ald (C : Cx X own cc ret) {id n : Nat} {f : Int → Option ρ} (hd : Dc cc pc .iaload 1 pc') (hsh : Sh X id (.inl n)) (k : ∀ v, Im X kc ks pc' L (aI v :: st) M res (f v)) : Im X kc ks pc L (aI x :: aR id :: st) M res (rdA (M id) n x f) := by
  intro hF hM hL hS ba hba H locs ls cells slots h1 h2 hls hP hD hSS
  obtain ⟨hd, rfl⟩ := hd
  unfold rdA at hF
  by_cases hb : 0 ≤ x ∧ x < n
  · rw [if_pos hb] at hF
    obtain ⟨q, hq, -⟩ := wsl_at (G := xG X) C.2.2.2.2.2.2.1 ba M hsh.1
    rw [cellE_a hsh.2] at hq
    refine va_iald C.1 C.2.1 C.2.2.2.2.2.1.1 hP q 0 hq rfl (inB_in hS.1 hb) hd ?_
    rw [inB_ix hS.1 hb.1]
    have e : ((x.toNat : Nat) : Int) = x := Int.toNat_of_nonneg hb.1
    rw [e]
    exact k _ hF hM hL ⟨hM _ _, hS.2.2⟩ ba hba H locs ls cells slots h1 h2 hls hP hD hSS
  · rw [if_neg hb] at hF; cases hF
theorem i_ast (C : Cx X own cc ret) {id n : Nat} {f : Mem → Option ρ} (hd : Dc cc pc .iastore 1 pc') (hsh : Sh X id (.inl n)) (k : ∀ M', Im X kc ks pc' L st M' res (f M')) : Im X kc ks pc L (aI y :: aI x :: aR id :: st) M res (wrA M id n x y f) := by
  intro hF hM hL hS ba hba H locs ls cells slots h1 h2 hls hP hD hSS
  obtain ⟨hd, rfl⟩ := hd
  unfold wrA at hF
  by_cases hb : 0 ≤ x ∧ x < n
  · rw [if_pos hb] at hF
    obtain ⟨q, hq, hset⟩ := wsl_at (G := xG X) C.2.2.2.2.2.2.1 ba M hsh.1
    have hs := hset (upM M id x y) (fun a ha i => upM_nk ha i)
    rw [cellE_a hsh.2] at hq hs
    refine va_iast C.1 C.2.1 C.2.2.2.2.2.1.1 hP hD hSS q 0 hq rfl (inB_in hS.2.1 hb) hd (fun H1 locs1 hP1 hD1 hS1 => ?_)
    rw [inB_ix hS.2.1 hb.1, ← upM_arr hb.1, hs] at hP1 hD1
    exact k _ hF (hM.up hS.1) hL hS.2.2.2 ba hba H1 locs1 ls cells slots h1 h2 hls hP1 hD1 hS1
  · rw [if_neg hb] at hF; cases hF
theorem i_alen (C : Cx X own cc ret) {id n : Nat} (hd : Dc cc pc .arraylength 1 pc') (hsh : Sh X id (.inl n)) (hz : ((n : Nat) : Int) = z) (hn : R32 z) (k : Im X kc ks pc' L (aI z :: st) M res F) : Im X kc ks pc L (aR id :: st) M res F := by
  intro hF hM hL hS ba hba H locs ls cells slots h1 h2 hls hP hD hSS
  obtain ⟨hd, rfl⟩ := hd
  obtain ⟨q, hq, -⟩ := wsl_at (G := xG X) C.2.2.2.2.2.2.1 ba M hsh.1
  rw [cellE_a hsh.2] at hq
  refine va_alen C.1 C.2.1 C.2.2.2.2.2.1.1 hP q 0 hq rfl (v := Int32.ofInt z) ?_ hd ?_
  · rw [← hz]; exact (Int32.ofInt_eq_ofNat).symm
  · exact k hF hM hL ⟨hn, hS.2⟩ ba hba H locs ls cells slots h1 h2 hls hP hD hSS
theorem i_aldB (C : Cx X own cc ret) {b : Nat} {f : Int → Option ρ} (hd : Dc cc pc .iaload 1 pc') (hb0 : b ∈ (xK X).2.1) (k : ∀ v, Im X kc ks pc' L (aI v :: st) M res (f v)) : Im X kc ks pc L (aI x :: aB b :: st) M res (rdA (M (b + 63)) (M (b + 63) (-1)).toNat x f) := by
  intro hF hM hL hS ba hba H locs ls cells slots h1 h2 hls hP hD hSS
  obtain ⟨hd, rfl⟩ := hd
  unfold rdA at hF
  by_cases hb : 0 ≤ x ∧ x < ((M (b + 63) (-1)).toNat : Nat)
  · rw [if_pos hb] at hF
    obtain ⟨q, hq, -⟩ := wsl_atB (G := xG X) C.2.2.2.2.2.2.1 ba M hb0
    refine va_iald C.1 C.2.1 C.2.2.2.2.2.1.1 hP q 0 hq rfl (inB_in hS.1 hb) hd ?_
    rw [inB_ix hS.1 hb.1]
    have e : ((x.toNat : Nat) : Int) = x := Int.toNat_of_nonneg hb.1
    rw [e]
    exact k _ hF hM hL ⟨hM _ _, hS.2.2⟩ ba hba H locs ls cells slots h1 h2 hls hP hD hSS
  · rw [if_neg hb] at hF; cases hF
theorem i_astB (C : Cx X own cc ret) {b : Nat} {f : Mem → Option ρ} (hd : Dc cc pc .iastore 1 pc') (hb0 : b ∈ (xK X).2.1) (k : ∀ M', Im X kc ks pc' L st M' res (f M')) : Im X kc ks pc L (aI y :: aI x :: aB b :: st) M res (wrA M (b + 63) (M (b + 63) (-1)).toNat x y f) := by
  intro hF hM hL hS ba hba H locs ls cells slots h1 h2 hls hP hD hSS
  obtain ⟨hd, rfl⟩ := hd
  unfold wrA at hF
  by_cases hb : 0 ≤ x ∧ x < ((M (b + 63) (-1)).toNat : Nat)
  · rw [if_pos hb] at hF
    obtain ⟨q, hq, hset⟩ := wsl_atB (G := xG X) C.2.2.2.2.2.2.1 ba M hb0
    have hs := hset (upM M (b + 63) x y) (fun a ha i => upM_nk ha i)
    refine va_iast C.1 C.2.1 C.2.2.2.2.2.1.1 hP hD hSS q 0 hq rfl (inB_in hS.2.1 hb) hd (fun H1 locs1 hP1 hD1 hS1 => ?_)
    have e : upM M (b + 63) x y (b + 63) (-1) = M (b + 63) (-1) := upM_ne (by omega)
    unfold cellB at hs
    rw [e] at hs
    rw [inB_ix hS.2.1 hb.1, ← upM_arr hb.1, hs] at hP1 hD1
    exact k _ hF (hM.up hS.1) hL hS.2.2.2 ba hba H1 locs1 ls cells slots h1 h2 hls hP1 hD1 hS1
  · rw [if_neg hb] at hF; cases hF
theorem i_alenB (C : Cx X own cc ret) {b : Nat} (hd : Dc cc pc .arraylength 1 pc') (hb0 : b ∈ (xK X).2.1) (k : Im X kc ks pc' L (aI (((M (b + 63) (-1)).toNat : Nat) : Int) :: st) M res F) : Im X kc ks pc L (aB b :: st) M res F := by
  intro hF hM hL hS ba hba H locs ls cells slots h1 h2 hls hP hD hSS
  obtain ⟨hd, rfl⟩ := hd
  obtain ⟨q, hq, -⟩ := wsl_atB (G := xG X) C.2.2.2.2.2.2.1 ba M hb0
  refine va_alen C.1 C.2.1 C.2.2.2.2.2.1.1 hP q 0 hq rfl (v := Int32.ofInt (((M (b + 63) (-1)).toNat : Nat) : Int)) ?_ hd ?_
  · exact (Int32.ofInt_eq_ofNat).symm
  · refine k hF hM hL ⟨?_, hS.2⟩ ba hba H locs ls cells slots h1 h2 hls hP hD hSS
    have := hM (b + 63) (-1)
    unfold R32 at this
    show R32 _
    unfold R32
    omega
theorem i_iret (C : Cx X own cc (some .int)) {res : Int × Mem} (hq : Rq X (some (aI res.1)) res.2) (hd : Dc cc pc .ireturn 1 pc') : Im X kc ks pc L [aI x] M res (some (x, M)) := by
  intro hF hM hL hS ba hba H locs ls cells slots h1 h2 hls hP hD hSS
  obtain ⟨hd, rfl⟩ := hd
  cases hF
  refine W.widen (k := (xR X).cells) (n := (xR X).slots) (by omega) (by omega) ?_
  show W (xp X) (xl X) (xe X) (xR X) (xs X) (xm X) (xa X) (xb X) (xt X) (xc X) H locs (xR X).cells (xR X).slots (xQ X) _
  rw [show xQ X = _ from hq]
  exact W.iret C.1 C.2.1 C.2.2.2.2.2.2.2.2 (fun t ht hW => ⟨⟨ba, hba, rfl, fun v hv => by cases hv; exact ⟨hS.1, rfl⟩, hM, by rw [ht]; exact hP, hD⟩, hSS.F ht⟩) hSS.2.2 hd C.2.2.2.2.2.2.2.1
theorem i_zret (C : Cx X own cc (some .boolean)) {res : Int × Mem} (hq : Rq X (some (aI res.1)) res.2) (hd : Dc cc pc .ireturn 1 pc') (hx : x = 0 ∨ x = 1) : Im X kc ks pc L [aI x] M res (some (x, M)) := by
  intro hF hM hL hS ba hba H locs ls cells slots h1 h2 hls hP hD hSS
  obtain ⟨hd, rfl⟩ := hd
  cases hF
  refine W.widen (k := (xR X).cells) (n := (xR X).slots) (by omega) (by omega) ?_
  show W (xp X) (xl X) (xe X) (xR X) (xs X) (xm X) (xa X) (xb X) (xt X) (xc X) H locs (xR X).cells (xR X).slots (xQ X) _
  rw [show xQ X = _ from hq]
  exact W.zret C.1 C.2.1 C.2.2.2.2.2.2.2.2 (by rcases hx with rfl | rfl <;> decide) (fun t ht hW => ⟨⟨ba, hba, rfl, fun v hv => by cases hv; exact ⟨hS.1, rfl⟩, hM, by rw [ht]; exact hP, hD⟩, hSS.F ht⟩) hSS.2.2 hd C.2.2.2.2.2.2.2.1
theorem i_zretQ (C : Cx X own cc (some .boolean)) {res : Int × Mem} (hq : Rq X (some (aI res.1)) res.2) (hd : Dc cc pc .ireturn 1 pc') : Im X kc ks pc L [aI x] M res (if x = 0 ∨ x = 1 then some (x, M) else none) :=
  i_split (fun hx => i_zret C hq hd hx) (fun _ => i_none)
theorem i_lret (C : Cx X own cc (some .long)) {res : Int × Mem} (hq : Rq X (some (aL res.1)) res.2) (hd : Dc cc pc .lreturn 1 pc') : Im X kc ks pc L [aL x] M res (some (x, M)) := by
  intro hF hM hL hS ba hba H locs ls cells slots h1 h2 hls hP hD hSS
  obtain ⟨hd, rfl⟩ := hd
  cases hF
  refine W.widen (k := (xR X).cells) (n := (xR X).slots) (by omega) (by omega) ?_
  show W (xp X) (xl X) (xe X) (xR X) (xs X) (xm X) (xa X) (xb X) (xt X) (xc X) H locs (xR X).cells (xR X).slots (xQ X) _
  rw [show xQ X = _ from hq]
  exact W.lret C.1 C.2.1 C.2.2.2.2.2.2.2.2 (fun t ht hW => ⟨⟨ba, hba, rfl, fun v hv => by cases hv; exact ⟨hS.1, rfl⟩, hM, by rw [ht]; exact hP, hD⟩, hSS.F ht⟩) hSS.2.2 hd C.2.2.2.2.2.2.2.1
theorem i_vret (C : Cx X own cc none) {res : Mem} (hq : Rq X none res) (hd : Dc cc pc .return_ 1 pc') : Im X kc ks pc L [] M res (some M) := by
  intro hF hM hL hS ba hba H locs ls cells slots h1 h2 hls hP hD hSS
  obtain ⟨hd, rfl⟩ := hd
  cases hF
  refine W.widen (k := (xR X).cells) (n := (xR X).slots) (by omega) (by omega) ?_
  show W (xp X) (xl X) (xe X) (xR X) (xs X) (xm X) (xa X) (xb X) (xt X) (xc X) H locs (xR X).cells (xR X).slots (xQ X) _
  rw [show xQ X = _ from hq]
  exact W.vret C.1 C.2.1 C.2.2.2.2.2.2.2.2 (fun t ht hW => ⟨⟨ba, hba, rfl, (fun v hv => by cases hv), hM, by rw [ht]; exact hP, hD⟩, hSS.F ht⟩) hSS.2.2 hd C.2.2.2.2.2.2.2.1
end R2
