/-! Math, System.arraycopy, constant rows. -/
def zmin (x y : Int) : Int := if y < x then y else x
def zmax (x y : Int) : Int := if x < y then y else x
def zabs (x : Int) : Int := if 0 ≤ x then x else w32 (0 - x)
def zmaxL (x y : Int) : Int := if y < x then x else y
def zab64 (x : Int) : Int := if 0 < x then x else w64 (-x)
def cpM (M : Mem) (s : Nat) (sp : Int) (d : Nat) (dp n : Int) : Mem := fun a j => if a = d ∧ dp ≤ j ∧ j < dp + n then M s (sp + (j - dp)) else M a j
def cpA {α : Type} (M : Mem) (s n0 : Nat) (sp : Int) (d n1 : Nat) (dp n : Int) (k : Mem → Option α) : Option α := if 0 ≤ sp ∧ 0 ≤ dp ∧ 0 ≤ n ∧ sp + n ≤ n0 ∧ dp + n ≤ n1 then k (cpM M s sp d dp n) else none
def wrZ {α : Type} (M : Mem) (id : Nat) (j v : Int) (k : Mem → Option α) : Option α := if v = 0 ∨ v = 1 then wrF M id j v k else none
def stL (k : Nat) : List Int := (stA.getD k ("", [])).2
def rdT {α : Type} (k : Nat) (x : Int) (f : Int → Option α) : Option α := if 0 ≤ x ∧ x < ((stL k).length : Nat) then f ((stL k).getD x.toNat 0) else none
theorem i32_ite {c d : Prop} {dc : Decidable c} {dd : Decidable d} (h : c ↔ d) (x y : Int) : (@ite _ c dc (Int32.ofInt x) (Int32.ofInt y)) = Int32.ofInt (@ite _ d dd x y) := by
  by_cases hc : c
  · rw [if_pos hc, if_pos (h.mp hc)]
  · rw [if_neg hc, if_neg (fun q => hc (h.mpr q))]
theorem i64_ite {c d : Prop} {dc : Decidable c} {dd : Decidable d} (h : c ↔ d) (x y : Int) : (@ite _ c dc (Int64.ofInt x) (Int64.ofInt y)) = Int64.ofInt (@ite _ d dd x y) := by
  by_cases hc : c
  · rw [if_pos hc, if_pos (h.mp hc)]
  · rw [if_neg hc, if_neg (fun q => hc (h.mpr q))]
theorem i64_lt {x y : Int} (hx : R64 x) (hy : R64 y) : Int64.ofInt x < Int64.ofInt y ↔ x < y := by
  rw [Int64.lt_iff_toInt_lt, i64_ti hx, i64_ti hy]
theorem i64_le {x y : Int} (hx : R64 x) (hy : R64 y) : Int64.ofInt x ≤ Int64.ofInt y ↔ x ≤ y := by
  rw [Int64.le_iff_toInt_le, i64_ti hx, i64_ti hy]
theorem r64_0 : R64 0 := ⟨by decide, by decide⟩
theorem ini_Math : Cond.initialized "java/lang/Math" ∈ wsT := wsT_in (tb_1 (List.mem_of_getElem? (i := 15) rfl)) rfl
theorem ac_int : Cond.arrayClass .int ∈ wsT := wsT_in (tb_1 (List.mem_of_getElem? (i := 94) rfl)) rfl
theorem ini_Sys : Cond.initialized "java/lang/System" ∈ wsT := wsT_in (tb_1 (List.mem_of_getElem? (i := 21) rfl)) rfl
theorem s_mmin : Cond.static Lib.Math.min.name ∈ wsT := wsT_in (tb_4 (List.mem_of_getElem? (i := 121) rfl)) rfl
theorem q_mmin : Cond.code Lib.Math.min.name Lib.Math.min.code 2 (some .int) ∈ wsT := wsT_in (tb_4 (List.mem_of_getElem? (i := 122) rfl)) rfl
theorem s_mmax : Cond.static Lib.Math.max.name ∈ wsT := wsT_in (tb_5 (List.mem_of_getElem? (i := 24) rfl)) rfl
theorem q_mmax : Cond.code Lib.Math.max.name Lib.Math.max.code 2 (some .int) ∈ wsT := wsT_in (tb_5 (List.mem_of_getElem? (i := 25) rfl)) rfl
theorem s_mabs : Cond.static Lib.Math.abs.name ∈ wsT := wsT_in (tb_5 (List.mem_of_getElem? (i := 234) rfl)) rfl
theorem q_mabs : Cond.code Lib.Math.abs.name Lib.Math.abs.code 1 (some .int) ∈ wsT := wsT_in (tb_5 (List.mem_of_getElem? (i := 235) rfl)) rfl
theorem s_mminL : Cond.static Lib.MathLoose.min_long.x ∈ wsT := wsT_in (tb_6 (List.mem_of_getElem? (i := 97) rfl)) rfl
theorem q_mminL : Cond.code Lib.MathLoose.min_long.x Lib.MathLoose.min_long.code 4 (some .long) ∈ wsT := wsT_in (tb_6 (List.mem_of_getElem? (i := 98) rfl)) rfl
theorem s_mmaxL : Cond.static Lib.MathLoose.max_long.x ∈ wsT := wsT_in (tb_6 (List.mem_of_getElem? (i := 100) rfl)) rfl
theorem q_mmaxL : Cond.code Lib.MathLoose.max_long.x Lib.MathLoose.max_long.code 4 (some .long) ∈ wsT := wsT_in (tb_6 (List.mem_of_getElem? (i := 101) rfl)) rfl
theorem s_mabsL : Cond.static Lib.MathLoose.abs_long.x ∈ wsT := wsT_in (tb_6 (List.mem_of_getElem? (i := 104) rfl)) rfl
theorem q_mabsL : Cond.code Lib.MathLoose.abs_long.x Lib.MathLoose.abs_long.code 2 (some .long) ∈ wsT := wsT_in (tb_6 (List.mem_of_getElem? (i := 105) rfl)) rfl
theorem s_copy : Cond.static arraycopyName ∈ wsT := wsT_in (tb_5 (List.mem_of_getElem? (i := 89) rfl)) rfl
theorem n_copy : Cond.native arraycopyName ∈ wsT := wsT_in (tb_5 (List.mem_of_getElem? (i := 90) rfl)) rfl
section R4
variable {X : Xc} {own : String} {cc : ByteArray} {ret : Option FieldType} {kc ks pc pc' : Nat} {L L' : List (Nat × AV)} {st : List AV} {M : Mem} {ρ : Type} {res : ρ} {F A B : Option ρ} {x y z : Int}
theorem i_mmin (C : Cx X own cc ret) (hRj : 1 ≤ (xR X).frames ∧ 60 ≤ (xR X).locals) {idx : Nat} (hw : Cond.methodLink own idx Lib.Math.min.name ∈ wsT) (hd : Dc cc pc (.invokestatic idx) 3 pc') (hs : catS st ≤ 8) (k : Im X kc ks pc' L (aI (zmin x y) :: st) M res F) : Im X kc ks pc L (aI y :: aI x :: st) M res F := by
  intro hF hM hL hS ba hba H locs ls cells slots h1 h2 hls hP hD hSS
  obtain ⟨hd, rfl⟩ := hd
  have hts := C.2.2.2.2.1
  refine va_mmin C.1 C.2.1 (by rw [C.2.2.1]; exact hls.1.symm) C.2.2.2.1 (hts _ hw) (hts _ s_mmin) (hts _ ini_Math) (hts _ q_mmin) hRj.1 (by rw [catS_eq]; omega) (by omega) (by omega) hd ?_
  refine W.eq (g2 := F0 (xm X) (pc + 3) ls (Value.int (Int32.ofInt (zmin x y)) :: cS (gd (xG X)) ba st)) (by rw [← show _ = Int32.ofInt (zmin x y) from i32_ite (i32_lt hS.1 hS.2.1) y x]) ?_
  exact k hF hM hL ⟨(by show R32 (zmin x y); unfold zmin; split; exact hS.1; exact hS.2.1), hS.2.2⟩ ba hba H locs ls cells slots h1 h2 hls hP hD hSS
theorem i_mmax (C : Cx X own cc ret) (hRj : 1 ≤ (xR X).frames ∧ 60 ≤ (xR X).locals) {idx : Nat} (hw : Cond.methodLink own idx Lib.Math.max.name ∈ wsT) (hd : Dc cc pc (.invokestatic idx) 3 pc') (hs : catS st ≤ 8) (k : Im X kc ks pc' L (aI (zmax x y) :: st) M res F) : Im X kc ks pc L (aI y :: aI x :: st) M res F := by
  intro hF hM hL hS ba hba H locs ls cells slots h1 h2 hls hP hD hSS
  obtain ⟨hd, rfl⟩ := hd
  have hts := C.2.2.2.2.1
  refine va_mmax C.1 C.2.1 (by rw [C.2.2.1]; exact hls.1.symm) C.2.2.2.1 (hts _ hw) (hts _ s_mmax) (hts _ ini_Math) (hts _ q_mmax) hRj.1 (by rw [catS_eq]; omega) (by omega) (by omega) hd ?_
  refine W.eq (g2 := F0 (xm X) (pc + 3) ls (Value.int (Int32.ofInt (zmax x y)) :: cS (gd (xG X)) ba st)) (by rw [← show _ = Int32.ofInt (zmax x y) from i32_ite (i32_lt hS.2.1 hS.1) y x]) ?_
  exact k hF hM hL ⟨(by show R32 (zmax x y); unfold zmax; split; exact hS.1; exact hS.2.1), hS.2.2⟩ ba hba H locs ls cells slots h1 h2 hls hP hD hSS
theorem i_mabs (C : Cx X own cc ret) (hRj : 1 ≤ (xR X).frames ∧ 60 ≤ (xR X).locals) {idx : Nat} (hw : Cond.methodLink own idx Lib.Math.abs.name ∈ wsT) (hd : Dc cc pc (.invokestatic idx) 3 pc') (hs : catS st ≤ 8) (k : Im X kc ks pc' L (aI (zabs x) :: st) M res F) : Im X kc ks pc L (aI x :: st) M res F := by
  intro hF hM hL hS ba hba H locs ls cells slots h1 h2 hls hP hD hSS
  obtain ⟨hd, rfl⟩ := hd
  have hts := C.2.2.2.2.1
  refine va_mabs C.1 C.2.1 (by rw [C.2.2.1]; exact hls.1.symm) C.2.2.2.1 (hts _ hw) (hts _ s_mabs) (hts _ ini_Math) (hts _ q_mabs) hRj.1 (by rw [catS_eq]; omega) (by omega) (by omega) hd ?_
  refine W.eq (g2 := F0 (xm X) (pc + 3) ls (Value.int (Int32.ofInt (zabs x)) :: cS (gd (xG X)) ba st)) (by
    have e : (if (0 : Int32) ≤ Int32.ofInt x then Int32.ofInt x else 0 - Int32.ofInt x) = Int32.ofInt (zabs x) := by
      rw [show (0 : Int32) = Int32.ofInt 0 from rfl, i32_sub]
      exact i32_ite (i32_le r32_0 hS.1) x _
    rw [← e]) ?_
  exact k hF hM hL ⟨(by show R32 (zabs x); unfold zabs; split; exact hS.1; exact w32_r _), hS.2⟩ ba hba H locs ls cells slots h1 h2 hls hP hD hSS
theorem i_mminL (C : Cx X own cc ret) (hRj : 1 ≤ (xR X).frames ∧ 60 ≤ (xR X).locals) {idx : Nat} (hw : Cond.methodLink own idx Lib.MathLoose.min_long.x ∈ wsT) (hd : Dc cc pc (.invokestatic idx) 3 pc') (hs : catS st ≤ 8) (k : Im X kc ks pc' L (aL (zmin x y) :: st) M res F) : Im X kc ks pc L (aL y :: aL x :: st) M res F := by
  intro hF hM hL hS ba hba H locs ls cells slots h1 h2 hls hP hD hSS
  obtain ⟨hd, rfl⟩ := hd
  have hts := C.2.2.2.2.1
  refine va_mmin_long C.1 C.2.1 (by rw [C.2.2.1]; exact hls.1.symm) C.2.2.2.1 (hts _ hw) (hts _ s_mminL) (hts _ ini_Math) (hts _ q_mminL) hRj.1 (by rw [catS_eq]; omega) (by omega) (by omega) hd ?_
  refine W.eq (g2 := F0 (xm X) (pc + 3) ls (Value.long (Int64.ofInt (zmin x y)) :: cS (gd (xG X)) ba st)) (by rw [← show _ = Int64.ofInt (zmin x y) from i64_ite (i64_lt hS.1 hS.2.1) y x]) ?_
  exact k hF hM hL ⟨(by show R64 (zmin x y); unfold zmin; split; exact hS.1; exact hS.2.1), hS.2.2⟩ ba hba H locs ls cells slots h1 h2 hls hP hD hSS
theorem i_mmaxL (C : Cx X own cc ret) (hRj : 1 ≤ (xR X).frames ∧ 60 ≤ (xR X).locals) {idx : Nat} (hw : Cond.methodLink own idx Lib.MathLoose.max_long.x ∈ wsT) (hd : Dc cc pc (.invokestatic idx) 3 pc') (hs : catS st ≤ 8) (k : Im X kc ks pc' L (aL (zmaxL x y) :: st) M res F) : Im X kc ks pc L (aL y :: aL x :: st) M res F := by
  intro hF hM hL hS ba hba H locs ls cells slots h1 h2 hls hP hD hSS
  obtain ⟨hd, rfl⟩ := hd
  have hts := C.2.2.2.2.1
  refine va_mmax_long C.1 C.2.1 (by rw [C.2.2.1]; exact hls.1.symm) C.2.2.2.1 (hts _ hw) (hts _ s_mmaxL) (hts _ ini_Math) (hts _ q_mmaxL) hRj.1 (by rw [catS_eq]; omega) (by omega) (by omega) hd ?_
  refine W.eq (g2 := F0 (xm X) (pc + 3) ls (Value.long (Int64.ofInt (zmaxL x y)) :: cS (gd (xG X)) ba st)) (by rw [← show _ = Int64.ofInt (zmaxL x y) from i64_ite (i64_lt hS.1 hS.2.1) x y]) ?_
  exact k hF hM hL ⟨(by show R64 (zmaxL x y); unfold zmaxL; split; exact hS.2.1; exact hS.1), hS.2.2⟩ ba hba H locs ls cells slots h1 h2 hls hP hD hSS
theorem i_mabsL (C : Cx X own cc ret) (hRj : 1 ≤ (xR X).frames ∧ 60 ≤ (xR X).locals) {idx : Nat} (hw : Cond.methodLink own idx Lib.MathLoose.abs_long.x ∈ wsT) (hd : Dc cc pc (.invokestatic idx) 3 pc') (hs : catS st ≤ 8) (k : Im X kc ks pc' L (aL (zab64 x) :: st) M res F) : Im X kc ks pc L (aL x :: st) M res F := by
  intro hF hM hL hS ba hba H locs ls cells slots h1 h2 hls hP hD hSS
  obtain ⟨hd, rfl⟩ := hd
  have hts := C.2.2.2.2.1
  refine va_mabs_long C.1 C.2.1 (by rw [C.2.2.1]; exact hls.1.symm) C.2.2.2.1 (hts _ hw) (hts _ s_mabsL) (hts _ ini_Math) (hts _ q_mabsL) hRj.1 (by rw [catS_eq]; omega) (by omega) (by omega) hd ?_
  refine W.eq (g2 := F0 (xm X) (pc + 3) ls (Value.long (Int64.ofInt (zab64 x)) :: cS (gd (xG X)) ba st)) (by
    have e : (if (0 : Int64) < Int64.ofInt x then Int64.ofInt x else -Int64.ofInt x) = Int64.ofInt (zab64 x) := by
      rw [show (0 : Int64) = Int64.ofInt 0 from rfl, i64_neg]
      exact i64_ite (i64_lt r64_0 hS.1) x _
    rw [← e]) ?_
  exact k hF hM hL ⟨(by show R64 (zab64 x); unfold zab64; split; exact hS.1; exact w64_r _), hS.2⟩ ba hba H locs ls cells slots h1 h2 hls hP hD hSS
theorem i_putZ (C : Cx X own cc ret) {ci N k idx id : Nat} {j : Int} {Cn : String} {T : u_T} {ty : Nat → FieldType} {fl : List (Nat ⊕ Nat ⊕ Unit)} {f : Mem → Option ρ} (hk : Kl ci Cn T N ty) (hd : Dc cc pc (.putfield idx) 3 pc') (hsh : Sh X id (.inr (ci, fl))) (hf : fl[k]? = some fI) (hkN : k < N) (hw : Cond.fieldLink own idx (T k).1 (T k).2.1 (T k).2.2.1 ∈ wsT) (hfin : (T k).2.2.2 = false) (hty : ty k = .boolean) (hj : ((k : Nat) : Int) = j) (kk : ∀ M', Im X kc ks pc' L st M' res (f M')) : Im X kc ks pc L (aI x :: aR id :: st) M res (wrZ M id j x f) := by
  unfold wrZ
  refine i_split (fun hx => ?_) (fun _ => i_none)
  exact i_putI C hk hd hsh hf hkN hw hfin (by rw [hty]; rcases hx with rfl | rfl <;> decide) (by rw [hty]; rcases hx with rfl | rfl <;> decide) hj kk
theorem i_wk {kc' ks' : Nat} (h1 : kc' ≤ kc) (h2 : ks' ≤ ks) (k : Im X kc' ks' pc L st M res F) : Im X kc ks pc L st M res F := by
  intro hF hM hL hS ba hba H locs ls cells slots g1 g2 hls hP hD hSS
  exact k hF hM hL hS ba hba H locs ls cells slots (by omega) (by omega) hls hP hD hSS
theorem OkM.cp {s d : Nat} {sp dp n : Int} (h : OkM M) : OkM (cpM M s sp d dp n) := by
  intro a j
  unfold cpM
  split
  · exact h _ _
  · exact h _ _
theorem cp_arr {s d : Nat} {sp dp n : Int} (h1 : 0 ≤ sp) (h2 : 0 ≤ dp) (h3 : 0 ≤ n) : (fun j : Nat => Int32.ofInt (cpM M s sp d dp n d (j : Int))) = va_cpy (fun j : Nat => Int32.ofInt (M s (j : Int))) (fun j : Nat => Int32.ofInt (M d (j : Int))) sp.toNat dp.toNat n.toNat := by
  funext j
  unfold cpM va_cpy
  by_cases hc : dp ≤ (j : Int) ∧ (j : Int) < dp + n
  · rw [if_pos ⟨rfl, hc⟩, if_pos (by omega)]
    congr 2
    omega
  · rw [if_neg (fun q => hc q.2), if_neg (by omega)]
theorem i_copy (C : Cx X own cc ret) (hRj : 1 ≤ (xR X).frames ∧ 60 ≤ (xR X).locals) {idx s d n0 n1 : Nat} {sp dp n : Int} {f : Mem → Option ρ} (hw : Cond.methodLink own idx arraycopyName ∈ wsT) (hd : Dc cc pc (.invokestatic idx) 3 pc') (hs : catS st ≤ 8) (hs0 : Sh X s (.inl n0)) (hs1 : Sh X d (.inl n1)) (k : ∀ M', Im X kc ks pc' L st M' res (f M')) : Im X kc ks pc L (aI n :: aI dp :: aR d :: aI sp :: aR s :: st) M res (cpA M s n0 sp d n1 dp n f) := by
  intro hF hM hL hS ba hba H locs ls cells slots h1 h2 hls hP hD hSS
  obtain ⟨hd, rfl⟩ := hd
  have hts := C.2.2.2.2.1
  unfold cpA at hF
  by_cases hb : 0 ≤ sp ∧ 0 ≤ dp ∧ 0 ≤ n ∧ sp + n ≤ n0 ∧ dp + n ≤ n1
  · rw [if_pos hb] at hF
    obtain ⟨b1, b2, b3, b4, b5⟩ := hb
    have r1 : R32 sp := hS.2.2.2.1
    have r2 : R32 dp := hS.2.1
    have r3 : R32 n := hS.1
    obtain ⟨q0, hq0, -⟩ := wsl_at (G := xG X) C.2.2.2.2.2.2.1 ba M hs0.1
    obtain ⟨q1, hq1, hset⟩ := wsl_at (G := xG X) C.2.2.2.2.2.2.1 ba M hs1.1
    have hst := hset (cpM M s sp d dp n) (fun a ha i => if_neg (fun q => ha q.1))
    rw [cellE_a hs0.2] at hq0
    rw [cellE_a hs1.2] at hq1 hst
    refine va_copyi (ty := .int) C.1 C.2.1 (by rw [C.2.2.1]; exact hls.1.symm) C.2.2.2.1 (hts _ hw) (hts _ n_copy) (hts _ s_copy) (hts _ ini_Sys) C.2.2.2.2.2.1.1 hP hD hSS q0 q1 0 0 hq0 hq1 rfl rfl rfl (by rw [i32_0, i32_lt r1 r32_0]; omega) (by rw [i32_0, i32_lt r2 r32_0]; omega) (by rw [i32_0, i32_lt r3 r32_0]; omega) (by rw [inB_ix r1 b1, inB_ix r3 b3]; omega) (by rw [inB_ix r2 b2, inB_ix r3 b3]; omega) (fun i _ => rfl) hRj.1 ?_ hd (fun H1 locs1 hP1 hD1 hS1 => ?_)
    · rw [catS_eq]
      have : nativeFrameWords "java/lang/System" "arraycopy" 5 ≤ 41 := by decide +kernel
      omega
    · rw [inB_ix r1 b1, inB_ix r2 b2, inB_ix r3 b3, ← cp_arr b1 b2 b3, hst] at hP1 hD1
      exact k _ hF hM.cp hL hS.2.2.2.2.2 ba hba H1 locs1 ls cells slots h1 h2 hls hP1 hD1 hS1
  · rw [if_neg hb] at hF; cases hF
theorem i_gstN (C : Cx X own cc ret) (k : Nat) {idx : Nat} {q : String × List Int} (hd : Dc cc pc (.getstatic idx) 3 pc') (hq : stA[k]? = some q) (hw : (own, idx, q.1) ∈ nestF) (kk : Im X kc ks pc' L (aR (9500 + k) :: st) M res F) : Im X kc ks pc L st M res F := by
  intro hF hM hL hS ba hba H locs ls cells slots h1 h2 hls hP hD hSS
  obtain ⟨hd, rfl⟩ := hd
  exact va_getsN C.1 C.2.1 (C.2.2.2.2.2.1.2.2.2.1.1 k q hq).1 hSS C.2.2.2.1 (va_Nw.use rfl (C.2.2.2.2.2.1.2.2.1 _ hw)) (fun _ h => h) hd (kk hF hM hL ⟨trivial, hS⟩ ba hba H locs ls cells slots h1 h2 hls hP hD hSS)
theorem stL_at {k : Nat} {q : String × List Int} (hq : stA[k]? = some q) : stL k = q.2 := by
  unfold stL
  rw [List.getD_eq_getElem?_getD, hq]
  rfl
theorem stL_ok (k : Nat) (i : Nat) : R32 ((stL k).getD i 0) := by
  have h : ∀ k, k < 3 → ∀ i, i < 12 → -2147483648 ≤ (stL k).getD i 0 ∧ (stL k).getD i 0 ≤ 2147483647 := by decide +kernel
  have hl : ∀ k, k < 3 → (stL k).length ≤ 12 := by decide +kernel
  by_cases h1 : k < 3
  · by_cases h2 : i < 12
    · exact h k h1 i h2
    · rw [List.getD_eq_getElem?_getD, List.getElem?_eq_none (by have := hl k h1; omega)]
      exact r32_0
  · have e : stL k = [] := by
      unfold stL
      rw [List.getD_eq_getElem?_getD, List.getElem?_eq_none (by show 3 ≤ k; omega)]
      rfl
    rw [e]
    exact r32_0
theorem i_aldT (C : Cx X own cc ret) (k : Nat) {q : String × List Int} {f : Int → Option ρ} (hd : Dc cc pc .iaload 1 pc') (hq : stA[k]? = some q) (kk : ∀ v, Im X kc ks pc' L (aI v :: st) M res (f v)) : Im X kc ks pc L (aI x :: aR (9500 + k) :: st) M res (rdT k x f) := by
  intro hF hM hL hS ba hba H locs ls cells slots h1 h2 hls hP hD hSS
  obtain ⟨hd, rfl⟩ := hd
  unfold rdT at hF
  by_cases hb : 0 ≤ x ∧ x < ((stL k).length : Nat)
  · rw [if_pos hb] at hF
    have hT := (C.2.2.2.2.2.1.2.2.2.1.1 k q hq).2
    rw [← stL_at hq] at hT
    refine va_ti C.1 C.2.1 hT hSS (inB_in hS.1 hb) (v := .int (Int32.ofInt ((stL k).getD x.toNat 0))) (by rw [inB_ix hS.1 hb.1]) hd ?_
    exact kk _ hF hM hL ⟨stL_ok _ _, hS.2.2⟩ ba hba H locs ls cells slots h1 h2 hls hP hD hSS
  · rw [if_neg hb] at hF; cases hF
theorem i_alenT (C : Cx X own cc ret) (k : Nat) {q : String × List Int} (hd : Dc cc pc .arraylength 1 pc') (hq : stA[k]? = some q) (hz : ((q.2.length : Nat) : Int) = z) (hn : R32 z) (kk : Im X kc ks pc' L (aI z :: st) M res F) : Im X kc ks pc L (aR (9500 + k) :: st) M res F := by
  intro hF hM hL hS ba hba H locs ls cells slots h1 h2 hls hP hD hSS
  obtain ⟨hd, rfl⟩ := hd
  have hT := (C.2.2.2.2.2.1.2.2.2.1.1 k q hq).2
  refine va_tlen C.1 C.2.1 hT hSS (v := Int32.ofInt z) (by rw [← hz]; exact (Int32.ofInt_eq_ofNat).symm) hd ?_
  exact kk hF hM hL ⟨hn, hS.2⟩ ba hba H locs ls cells slots h1 h2 hls hP hD hSS
theorem cityShp_out (b j : Nat) : cityShp b (j + 63) = .inl 0 := rfl
theorem lenP_out {id : Nat} (h : 400 ≤ id) : shpP id = .inl 0 := by
  have e : ∀ c, 4 ≤ c → (match c with | 0 => topShp id | 1 => cityShp 100 (id - 100) | 2 => cityShp 200 (id - 200) | _ => cityShp 300 (id - 300)) = cityShp 300 (id - 300) := by
    intro c hc
    match c, hc with
    | c + 4, _ => rfl
  show (match id / 100 with | 0 => topShp id | 1 => cityShp 100 (id - 100) | 2 => cityShp 200 (id - 200) | _ => cityShp 300 (id - 300)) = _
  rw [e (id / 100) (by omega)]
  have := cityShp_out 300 (id - 363)
  rw [show id - 363 + 63 = id - 300 by omega] at this
  exact this
theorem lenP_small {id n : Nat} (h : shpP id = .inl n) : R32 ((n : Nat) : Int) := by
  have hd : ∀ i, i < 400 → lenOf kP i ≤ 2000 := by decide +kernel
  have e : lenOf kP id = n := by show (match shpP id with | .inl n => n | .inr _ => 0) = n; rw [h]
  by_cases hi : id < 400
  · have := hd id hi
    unfold R32
    omega
  · have := lenP_out (id := id) (by omega)
    rw [this] at h
    cases h
    exact r32_0
theorem i_alenG (C : Cx X own cc ret) (hX : xK X = kP) {id n : Nat} (hd : Dc cc pc .arraylength 1 pc') (hsh : Sh X id (.inl n)) (k : Im X kc ks pc' L (aI ((n : Nat) : Int) :: st) M res F) : Im X kc ks pc L (aR id :: st) M res F := by
  have h2 := hsh.2
  rw [hX] at h2
  exact i_alen C hd hsh rfl (lenP_small h2) k
end R4
def rdS {α : Type} (w : Nat) (x : Int) (f : Int → Option α) : Option α := if 0 ≤ x ∧ x < (sLen.getD w 0 : Nat) then f (((sByt.getD w []).getD x.toNat 0).toInt) else none
def bnS {α : Type} (c : Option (Nat × Mem)) (k : Nat → Mem → Option α) : Option α := match c with
  | some q => if q.1 < 11 then k q.1 q.2 else none
  | none => none
section R5
variable {X : Xc} {own : String} {cc : ByteArray} {ret : Option FieldType} {kc ks pc pc' : Nat} {L L' : List (Nat × AV)} {st : List AV} {M : Mem} {ρ : Type} {res : ρ} {F A B : Option ρ} {x y z : Int}
theorem i_ldcS (C : Cx X "CutCity$Tape" cc ret) (k : Nat) {idx : Nat} {q : Nat × String} (hd : Dc cc pc (.ldc idx) 2 pc') (hk : stS[k]? = some q) (hi : q.1 = idx) (kk : Im X kc ks pc' L (aR (9000 + k) :: st) M res F) : Im X kc ks pc L st M res F := by
  intro hF hM hL hS ba hba H locs ls cells slots h1 h2 hls hP hD hSS
  obtain ⟨hd, rfl⟩ := hd
  subst hi
  exact va_ldcS C.1 C.2.1 C.2.2.2.1 (C.2.2.2.2.2.1.2.2.2.1.2.2.1 k q hk) hd (kk hF hM hL ⟨trivial, hS⟩ ba hba H locs ls cells slots h1 h2 hls hP hD hSS)
theorem i_strV (C : Cx X own cc ret) {w idx : Nat} (hw : w < 11) (hd : Dc cc pc (.getfield idx) 3 pc') (hl : Cond.fieldLink own idx "java/lang/String" "value" "[B" ∈ wsT) (kk : Im X kc ks pc' L (aR (9200 + w) :: st) M res F) : Im X kc ks pc L (aR (9000 + w) :: st) M res F := by
  intro hF hM hL hS ba hba H locs ls cells slots h1 h2 hls hP hD hSS
  obtain ⟨hd, rfl⟩ := hd
  exact vk_getf C.1 C.2.1 (C.2.2.2.2.2.1.2.2.2.1.2.1.1 w hw).2.2.1 hSS C.2.2.2.1 (C.2.2.2.2.1 _ hl) (fun _ h => h) hd (kk hF hM hL ⟨trivial, hS.2⟩ ba hba H locs ls cells slots h1 h2 hls hP hD hSS)
theorem i_strC (C : Cx X own cc ret) {w idx : Nat} (hw : w < 11) (hd : Dc cc pc (.getfield idx) 3 pc') (hl : Cond.fieldLink own idx "java/lang/String" "coder" "B" ∈ wsT) (kk : Im X kc ks pc' L (aI 0 :: st) M res F) : Im X kc ks pc L (aR (9000 + w) :: st) M res F := by
  intro hF hM hL hS ba hba H locs ls cells slots h1 h2 hls hP hD hSS
  obtain ⟨hd, rfl⟩ := hd
  exact vk_getf C.1 C.2.1 (C.2.2.2.2.2.1.2.2.2.1.2.1.1 w hw).2.1 hSS C.2.2.2.1 (C.2.2.2.2.1 _ hl) (fun _ h => h) hd (kk hF hM hL ⟨r32_0, hS.2⟩ ba hba H locs ls cells slots h1 h2 hls hP hD hSS)
theorem i_gstK (C : Cx X own cc ret) {idx : Nat} (hd : Dc cc pc (.getstatic idx) 3 pc') (hl : Cond.fieldLink own idx "java/lang/String" "COMPACT_STRINGS" "Z" ∈ wsT) (kk : Im X kc ks pc' L (aI 1 :: st) M res F) : Im X kc ks pc L st M res F := by
  intro hF hM hL hS ba hba H locs ls cells slots h1 h2 hls hP hD hSS
  obtain ⟨hd, rfl⟩ := hd
  exact va_gets C.1 C.2.1 C.2.2.2.2.2.1.2.2.2.1.2.2.2.1 hSS C.2.2.2.1 (C.2.2.2.2.1 _ hl) (fun _ h => h) hd (kk hF hM hL ⟨⟨by decide, by decide⟩, hS⟩ ba hba H locs ls cells slots h1 h2 hls hP hD hSS)
theorem i_gstX (C : Cx X own cc ret) {idx : Nat} (hd : Dc cc pc (.getstatic idx) 3 pc') (hl : Cond.fieldLink own idx "jdk/internal/util/Preconditions" "SIOOBE_FORMATTER" "Ljava/util/function/BiFunction;" ∈ wsT) (kk : ∀ o, Im X kc ks pc' L (aX o :: st) M res F) : Im X kc ks pc L st M res F := by
  intro hF hM hL hS ba hba H locs ls cells slots h1 h2 hls hP hD hSS
  obtain ⟨hd, rfl⟩ := hd
  rcases C.2.2.2.2.2.1.2.2.2.1.2.2.2.2 with hZ | ⟨t, hZ⟩
  · exact va_gets C.1 C.2.1 hZ hSS C.2.2.2.1 (C.2.2.2.2.1 _ hl) (fun _ h => h) hd (kk none hF hM hL ⟨trivial, hS⟩ ba hba H locs ls cells slots h1 h2 hls hP hD hSS)
  · exact va_gets C.1 C.2.1 hZ hSS C.2.2.2.1 (C.2.2.2.2.1 _ hl) (fun _ h => h) hd (kk (some t) hF hM hL ⟨trivial, hS⟩ ba hba H locs ls cells slots h1 h2 hls hP hD hSS)
theorem sLen_ok (w : Nat) : R32 ((sLen.getD w 0 : Nat) : Int) := by
  have h : ∀ w, w < 11 → sLen.getD w 0 ≤ 20 := by decide +kernel
  by_cases h1 : w < 11
  · have := h w h1
    unfold R32
    omega
  · rw [List.getD_eq_getElem?_getD, List.getElem?_eq_none (by show 11 ≤ w; omega)]
    exact r32_0
theorem i_lenS (C : Cx X own cc ret) {w : Nat} (hw : w < 11) (hd : Dc cc pc .arraylength 1 pc') (kk : Im X kc ks pc' L (aI ((sLen.getD w 0 : Nat) : Int) :: st) M res F) : Im X kc ks pc L (aR (9200 + w) :: st) M res F := by
  intro hF hM hL hS ba hba H locs ls cells slots h1 h2 hls hP hD hSS
  obtain ⟨hd, rfl⟩ := hd
  exact va_tlen C.1 C.2.1 (C.2.2.2.2.2.1.2.2.2.1.2.1.1 w hw).2.2.2 hSS (v := Int32.ofInt ((sLen.getD w 0 : Nat) : Int)) ((Int32.ofInt_eq_ofNat).symm) hd (kk hF hM hL ⟨sLen_ok w, hS.2⟩ ba hba H locs ls cells slots h1 h2 hls hP hD hSS)
theorem i_bald (C : Cx X own cc ret) {w : Nat} {f : Int → Option ρ} (hw : w < 11) (hd : Dc cc pc .baload 1 pc') (kk : ∀ v, Im X kc ks pc' L (aI v :: st) M res (f v)) : Im X kc ks pc L (aI x :: aR (9200 + w) :: st) M res (rdS w x f) := by
  intro hF hM hL hS ba hba H locs ls cells slots h1 h2 hls hP hD hSS
  obtain ⟨hd, rfl⟩ := hd
  unfold rdS at hF
  by_cases hb : 0 ≤ x ∧ x < (sLen.getD w 0 : Nat)
  · rw [if_pos hb] at hF
    refine va_tb C.1 C.2.1 (C.2.2.2.2.2.1.2.2.2.1.2.1.1 w hw).2.2.2 hSS (inB_in hS.1 hb) (v := .int (Int32.ofInt (((sByt.getD w []).getD x.toNat 0).toInt))) (by rw [inB_ix hS.1 hb.1, Int32.ofInt_toInt]) hd ?_
    exact kk _ hF hM hL ⟨ti_r _, hS.2.2⟩ ba hba H locs ls cells slots h1 h2 hls hP hD hSS
  · rw [if_neg hb] at hF; cases hF
theorem i_nret {ty : FieldType} (C : Cx X own cc (some ty)) {res : Int × Mem} (hq : Rq X (some (aI res.1)) res.2) (hd : Dc cc pc .ireturn 1 pc') (hn : narrow ty (.int (Int32.ofInt x)) = .int (Int32.ofInt x)) : Im X kc ks pc L [aI x] M res (some (x, M)) := by
  intro hF hM hL hS ba hba H locs ls cells slots h1 h2 hls hP hD hSS
  obtain ⟨hd, rfl⟩ := hd
  cases hF
  refine W.widen (k := (xR X).cells) (n := (xR X).slots) (by omega) (by omega) ?_
  show W (xp X) (xl X) (xe X) (xR X) (xs X) (xm X) (xa X) (xb X) (xt X) (xc X) H locs (xR X).cells (xR X).slots (xQ X) _
  rw [show xQ X = _ from hq]
  exact W.zret C.1 C.2.1 C.2.2.2.2.2.2.2.2 hn (fun t ht hW => ⟨⟨ba, hba, rfl, fun v hv => by cases hv; exact ⟨hS.1, rfl⟩, hM, by rw [ht]; exact hP, hD⟩, hSS.F ht⟩) hSS.2.2 hd C.2.2.2.2.2.2.2.1
theorem i_cretQ (C : Cx X own cc (some .char)) {res : Int × Mem} (hq : Rq X (some (aI res.1)) res.2) (hd : Dc cc pc .ireturn 1 pc') : Im X kc ks pc L [aI x] M res (if 0 ≤ x ∧ x < 65536 then some (x, M) else none) := by
  refine i_split (fun hx => i_nret C hq hd ?_) (fun _ => i_none)
  have e : Int32.ofInt x = nI x.toNat := by
    have h : ((x.toNat : Nat) : Int) = x := Int.toNat_of_nonneg hx.1
    unfold nI
    rw [← Int32.ofInt_eq_ofNat, h]
  rw [e]
  exact (pk_charN (by omega)).1
theorem i_aretS {rt : FieldType} (C : Cx X own cc (some rt)) (hrt : (∃ n, rt = .object n) ∨ ∃ t, rt = .array t) {j : Nat} {res : Nat × Mem} (hq : Rq X (some (aR (9000 + res.1))) res.2) (hd : Dc cc pc .areturn 1 pc') : Im X kc ks pc L [aR (9000 + j)] M res (some (j, M)) := by
  intro hF hM hL hS ba hba H locs ls cells slots h1 h2 hls hP hD hSS
  obtain ⟨hd, rfl⟩ := hd
  cases hF
  refine W.widen (k := (xR X).cells) (n := (xR X).slots) (by omega) (by omega) ?_
  show W (xp X) (xl X) (xe X) (xR X) (xs X) (xm X) (xa X) (xb X) (xt X) (xc X) H locs (xR X).cells (xR X).slots (xQ X) _
  rw [show xQ X = _ from hq]
  exact W.aret C.1 C.2.1 C.2.2.2.2.2.2.2.2 hrt (Or.inr ⟨_, rfl⟩) (fun t ht hW => ⟨⟨ba, hba, rfl, fun v hv => by cases hv; exact ⟨trivial, rfl⟩, hM, by rw [ht]; exact hP, hD⟩, hSS.F ht⟩) hSS.2.2 hd C.2.2.2.2.2.2.2.1
theorem crVS (C : Cx X own cc ret) {y : MethodName} {cy : ByteArray} {ny n idx w : Nat} {rety : Option FieldType} {rm : Room} {M' : Mem} {r : Option AV} {rest : List AV} (as : List AV) (hd : decode cc pc = .ok (.invokevirtual idx, 3)) (hww : w < 11) (hw : Cond.methodLink own idx y ∈ wsT) (hy : Cal y cy ny rety n) (hv : CalV y "java/lang/String") (hR : RmOk (xR X) rm ny) (hn : as.length = n) (hs : catS rest ≤ 8) (hc : Ct (xl X) (xG X) (xK X) y (wsM y cy ny rety) rm (aR (9000 + w) :: as) M r M') : CRun X M pc (as.reverse ++ aR (9000 + w) :: rest) rest r M' rm.cells rm.slots := by
  intro ba H locs ls cells slots h1 h2 hls hP hD hSS
  have hts := C.2.2.2.2.1
  have hpre := cr_pre (as := aR (9000 + w) :: as) C hP hD hSS
  refine ⟨_, va_runV (As := cS (gd (xG X)) ba as) ⟨C.1, C.2.1, C.2.2.1, C.2.2.2.1, hts⟩ (hc ba) ⟨callB_of n hts (wsM_good (fun _ h => h) hy.1) rfl rfl rfl (hts _ hy.2.1) (hts _ hw) hy.2.2 hR, hts _ hv.1, hts _ hv.2⟩ ⟨hpre.1, vk_recv C.2.2.2.2.2.1.2.2.2.1.2.1 hww hSS, hpre.2⟩ rfl (by rw [List.length_map]; exact hn) hls ?_ (lv_room (by rw [catS_eq]; exact hs)) hd ⟨h1, h2⟩⟩
  show cS (gd (xG X)) ba (as.reverse ++ aR (9000 + w) :: rest) = _
  simp only [cS, List.map_append, List.map_reverse, List.map_cons]
  rfl
theorem i_cS {k : Nat → Mem → Option ρ} {Fc : Option (Nat × Mem)} {st0 rest : List AV} {kc' ks' : Nat} (mc ms n : Nat) (hr : ∀ q, Fc = some q → OkM M → okS st0 → CRun X M pc st0 rest (some (aR (9000 + q.1))) q.2 mc ms) (hkc : mc + kc' ≤ kc) (hks : ms + ks' ≤ ks) (hp : pc + 3 = pc') (hn : st0.drop n = rest) (hb : (mc == 0 || (rest.all (fun v => !isB v) && L.all (fun q => !isB q.2))) = true) (kk : ∀ v M', v < 11 → Im X kc' ks' pc' L (aR (9000 + v) :: rest) M' res (k v M')) : Im X kc ks pc L st0 M res (bnS Fc k) := by
  subst hp
  intro hF hM hL hS ba hba H locs ls cells slots h1 h2 hls hP hD hSS
  cases hFc : Fc with
  | none => rw [hFc] at hF; cases hF
  | some q =>
    rw [hFc] at hF
    have hF : (if q.1 < 11 then k q.1 q.2 else none) = some res := hF
    by_cases hq : q.1 < 11
    · rw [if_pos hq] at hF
      obtain ⟨a, hrun⟩ := hr q hFc hM hS ba H locs ls cells slots (by omega) (by omega) hls.1 hP hD hSS
      refine go_call hrun hSS (fun ba' H1 locs1 hbz hok hM1 hP1 hD1 hS1 => ?_)
      obtain ⟨e1, e2⟩ := ba_same (ad := gd (xG X)) hb hbz
      rw [e1]
      rw [e2] at hls
      exact kk q.1 q.2 hq hF hM1 hL ⟨(hok _ rfl).1, okS_drop hS hn⟩ ba' (fun h0 => (hbz (by omega)).trans (hba h0)) H1 locs1 ls (cells + mc) (slots + ms) (by omega) (by omega) hls hP1 hD1 hS1
    · rw [if_neg hq] at hF; cases hF
end R5
