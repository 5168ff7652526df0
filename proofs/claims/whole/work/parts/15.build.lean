/-! Constructors: a world that grows at its end. -/
def Bd (X : Xc) (kc ks pc : Nat) (L : List (Nat × Value)) (st : List Value) (wr tl : va_W) : Prop := ∀ (H : Heap) (locs : List Loc) (ls : Array Slot) (cells slots : Nat), cells + kc ≤ (xR X).cells → slots + ks ≤ (xR X).slots →
  lv_has ls (xn X) L → va_P (gD (xG X)) vwCl (wr ++ tl) H → va_D (gF (xG X)) (wr ++ tl) → va_S (gF (xG X)) (xs X).heap H locs → Wx X H locs cells slots (F0 (xm X) pc ls st)
def Cc {τ : Type} (l : Launch) (G : Gx) (y : MethodName) (ws : List Cond) (rm : Room) (ci : Nat) (fs : List Value) (post : Nat → τ → va_W) : Prop := ∀ (wr : va_W) (h : Nat), Met l y ws rm
  (fun v U => v = #[Value.ref h] ∧ Ev G U U.heap ∧ va_P (gD G) vwCl (wr ++ [(h, .inr (ci, fs))]) U.heap ∧ va_D (gF G) (wr ++ [(h, .inr (ci, fs))]))
  (fun _ st o t => (∃ q : τ, o = .returned none ∧ va_P (gD G) vwCl (wr ++ post h q) t.heap ∧ va_D (gF G) (wr ++ post h q)) ∧ va_F (gF G) st t) rm.cells rm.slots (gF G)
section B1
variable {X : Xc} {own : String} {cc : ByteArray} {ret : Option FieldType} {kc ks kc' ks' pc pc' : Nat} {L L' : List (Nat × Value)} {st : List Value} {wr tl tl' : va_W}
theorem cc_of {τ : Type} {l : Launch} {G : Gx} {y : MethodName} {cc : ByteArray} {n : Nat} {rm : Room} {ci : Nat} {fs : List Value} {post : Nat → τ → va_W} (own : String) (hy : plainName y.cls = true) (ho : y.cls = own) (hn : 1 ≤ n) (hyn : y.name = "<init>")
    (body : ∀ (X : Xc) (wr : va_W) (h : Nat), Cx X own cc none → (xt X).name = "<init>" → xl X = l → xG X = G → xn X = n → xR X = rm → xQ X = MQ (xb X) (fun _ st o t => (∃ q : τ, o = .returned none ∧ va_P (gD G) vwCl (wr ++ post h q) t.heap ∧ va_D (gF G) (wr ++ post h q)) ∧ va_F (gF G) st t) (xa X) (xs X) rm.cells rm.slots (gF G) → Bd X rm.cells rm.slots 0 [(0, .ref h)] [] wr [(h, .inr (ci, fs))]) : Cc l G y (wsM y cc n none) rm ci fs post := by
  intro wr h
  refine Met.ofW (cc := cc) (maxL := n) (ret := none) hy rfl ?_
  intro p e s m args below meth c s₁ B hml hv
  obtain ⟨rfl, hE, hP, hD⟩ := hv
  have hts := atoms_spec (ws := wsM y cc n none) B.pre
  have hown : s.vm.findClass own = some m.cls := ho ▸ findClass_of_methodNamed B.named
  have hin : meth.name = "<init>" := hyn ▸ (name_of_methodNamed B.named B.method).1
  have hl := lv_entry [Value.ref h] (n := n) hn
  rw [show (#[Value.ref h] : Array Value) = [Value.ref h].toArray from rfl, lg_entry_eq]
  exact body (p, l, e, rm, s, m, [Value.ref h].toArray, below, meth, c, G, kP, n, MQ below (fun _ st o t => (∃ q : τ, o = .returned none ∧ va_P (gD G) vwCl (wr ++ post h q) t.heap ∧ va_D (gF G) (wr ++ post h q)) ∧ va_F (gF G) st t) [Value.ref h].toArray s rm.cells rm.slots (gF G), fun _ => 0) wr h
    ⟨B.exec, B.bytes, hml, hown, fun w hw => hts w (List.mem_cons_of_mem _ hw), hE, kP_ok, B.notSynchronized, B.returns⟩ hin rfl rfl rfl rfl rfl s.heap [] _ 0 0 (Nat.le_of_eq (Nat.zero_add _)) (Nat.le_of_eq (Nat.zero_add _)) hl hP hD va_S.rf
theorem b_ret {τ : Type} {G : Gx} {rm : Room} {h : Nat} {post : Nat → τ → va_W} (C : Cx X own cc none) (hG : xG X = G) (hR : xR X = rm) (hq : xQ X = MQ (xb X) (fun _ st o t => (∃ q : τ, o = .returned none ∧ va_P (gD G) vwCl (wr ++ post h q) t.heap ∧ va_D (gF G) (wr ++ post h q)) ∧ va_F (gF G) st t) (xa X) (xs X) rm.cells rm.slots (gF G)) (q : τ) (he : tl = post h q) (hd : Dc cc pc .return_ 1 pc') : Bd X kc ks pc L [] wr tl := by
  intro H locs ls cells slots h1 h2 hls hP hD hSS
  obtain ⟨hd, rfl⟩ := hd
  subst hG; subst hR; subst he
  refine W.widen (k := (xR X).cells) (n := (xR X).slots) (by omega) (by omega) ?_
  show W (xp X) (xl X) (xe X) (xR X) (xs X) (xm X) (xa X) (xb X) (xt X) (xc X) H locs (xR X).cells (xR X).slots (xQ X) _
  rw [show xQ X = _ from hq]
  exact W.vret C.1 C.2.1 C.2.2.2.2.2.2.2.2 (fun t ht hW => ⟨⟨q, rfl, by rw [ht]; exact hP, hD⟩, hSS.F ht⟩) hSS.2.2 hd C.2.2.2.2.2.2.2.1
theorem b_aload (C : Cx X own cc ret) {i : Fin 4} {j q a : Nat} (hd : Dc cc pc (.aload_n i) 1 pc') (hi : (i : Nat) = j) (hl : L[q]? = some (j, .ref a)) (k : Bd X kc ks pc' L (.ref a :: st) wr tl) : Bd X kc ks pc L st wr tl := by
  intro H locs ls cells slots h1 h2 hls hP hD hSS
  obtain ⟨hd, rfl⟩ := hd
  exact lv_aload_n C.1 C.2.1 hd hi (lv_at hls q hl) (k H locs ls cells slots h1 h2 hls hP hD hSS)
theorem b_iload (C : Cx X own cc ret) {i : Fin 4} {j q : Nat} {x : Int32} (hd : Dc cc pc (.iload_n i) 1 pc') (hi : (i : Nat) = j) (hl : L[q]? = some (j, .int x)) (k : Bd X kc ks pc' L (.int x :: st) wr tl) : Bd X kc ks pc L st wr tl := by
  intro H locs ls cells slots h1 h2 hls hP hD hSS
  obtain ⟨hd, rfl⟩ := hd
  exact lv_iload_n C.1 C.2.1 hd hi (lv_at hls q hl) (k H locs ls cells slots h1 h2 hls hP hD hSS)
theorem b_istore (C : Cx X own cc ret) {i : Fin 4} {j : Nat} {x : Int32} (hd : Dc cc pc (.istore_n i) 1 pc') (hi : (i : Nat) = j) (hn : j < xn X) (hl : (j, Value.int x) :: L.filter (fun q => !(q.1 == j) && !(q.1 + 1 == j && q.2.category == 2)) = L') (k : Bd X kc ks pc' L' st wr tl) : Bd X kc ks pc L (.int x :: st) wr tl := by
  intro H locs ls cells slots h1 h2 hls hP hD hSS
  obtain ⟨hd, rfl⟩ := hd
  exact lv_istore_n C.1 C.2.1 hd hi hls hn hl (fun ls' hls' => k H locs ls' cells slots h1 h2 hls' hP hD hSS)
theorem b_iinc (C : Cx X own cc ret) {j q : Nat} {n : Int} {x v : Int32} (hd : Dc cc pc (.iinc j n) 3 pc') (hq : L[q]? = some (j, .int x)) (hv : x + Int32.ofInt n = v) (hn : j < xn X) (hl : (j, Value.int v) :: L.filter (fun q => !(q.1 == j) && !(q.1 + 1 == j && q.2.category == 2)) = L') (k : Bd X kc ks pc' L' st wr tl) : Bd X kc ks pc L st wr tl := by
  intro H locs ls cells slots h1 h2 hls hP hD hSS
  obtain ⟨hd, rfl⟩ := hd
  exact lv_iinc C.1 C.2.1 hd hls hq hv hn hl (fun ls' hls' => k H locs ls' cells slots h1 h2 hls' hP hD hSS)
theorem b_iconst (C : Cx X own cc ret) {n : Int} {v : Int32} (hd : Dc cc pc (.iconst n) 1 pc') (hv : Int32.ofInt n = v) (k : Bd X kc ks pc' L (.int v :: st) wr tl) : Bd X kc ks pc L st wr tl := by
  intro H locs ls cells slots h1 h2 hls hP hD hSS
  obtain ⟨hd, rfl⟩ := hd
  exact lv_iconst C.1 C.2.1 hd hv (k H locs ls cells slots h1 h2 hls hP hD hSS)
theorem b_bipush (C : Cx X own cc ret) {n : Int} {v : Int32} (hd : Dc cc pc (.bipush n) 2 pc') (hv : (Int8.ofInt n).toInt32 = v) (k : Bd X kc ks pc' L (.int v :: st) wr tl) : Bd X kc ks pc L st wr tl := by
  intro H locs ls cells slots h1 h2 hls hP hD hSS
  obtain ⟨hd, rfl⟩ := hd
  exact lv_bipush C.1 C.2.1 hd hv (k H locs ls cells slots h1 h2 hls hP hD hSS)
theorem b_sipush (C : Cx X own cc ret) {n : Int} {v : Int32} (hd : Dc cc pc (.sipush n) 3 pc') (hv : (Int16.ofInt n).toInt32 = v) (k : Bd X kc ks pc' L (.int v :: st) wr tl) : Bd X kc ks pc L st wr tl := by
  intro H locs ls cells slots h1 h2 hls hP hD hSS
  obtain ⟨hd, rfl⟩ := hd
  exact lv_sipush C.1 C.2.1 hd hv (k H locs ls cells slots h1 h2 hls hP hD hSS)
theorem b_ldc (C : Cx X own cc ret) {n : Nat} {v : Int32} (hd : Dc cc pc (.ldc n) 2 pc') (hw : Cond.constant own n v ∈ wsT) (k : Bd X kc ks pc' L (.int v :: st) wr tl) : Bd X kc ks pc L st wr tl := by
  intro H locs ls cells slots h1 h2 hls hP hD hSS
  obtain ⟨hd, rfl⟩ := hd
  exact lv_ldc C.1 C.2.1 C.2.2.2.1 (C.2.2.2.2.1 _ hw) hd (k H locs ls cells slots h1 h2 hls hP hD hSS)
theorem b_dup (C : Cx X own cc ret) {v : Value} (hd : Dc cc pc .dup 1 pc') (hv : v.category = 1) (k : Bd X kc ks pc' L (v :: v :: st) wr tl) : Bd X kc ks pc L (v :: st) wr tl := by
  intro H locs ls cells slots h1 h2 hls hP hD hSS
  obtain ⟨hd, rfl⟩ := hd
  exact lv_dup C.1 C.2.1 hd hv (k H locs ls cells slots h1 h2 hls hP hD hSS)
theorem b_iadd (C : Cx X own cc ret) {x y z : Int32} (hd : Dc cc pc .iadd 1 pc') (hz : x + y = z) (k : Bd X kc ks pc' L (.int z :: st) wr tl) : Bd X kc ks pc L (.int y :: .int x :: st) wr tl := by
  intro H locs ls cells slots h1 h2 hls hP hD hSS
  obtain ⟨hd, rfl⟩ := hd
  subst hz
  exact lv_iadd C.1 C.2.1 hd (k H locs ls cells slots h1 h2 hls hP hD hSS)
theorem b_goto (C : Cx X own cc ret) {off : Int} {tgt : Nat} (hd : Dc cc pc (.goto off) 3 pc') (ht : (pc : Int) + off = (tgt : Int)) (k : Bd X kc ks tgt L st wr tl) : Bd X kc ks pc L st wr tl := by
  intro H locs ls cells slots h1 h2 hls hP hD hSS
  obtain ⟨hd, rfl⟩ := hd
  exact lv_goto C.1 C.2.1 hd ht (k H locs ls cells slots h1 h2 hls hP hD hSS)
theorem b_ge_t (C : Cx X own cc ret) {off : Int} {tgt : Nat} {x y : Int32} (hd : Dc cc pc (.if_icmp .ge off) 3 pc') (ht : (pc : Int) + off = (tgt : Int)) (hc : y ≤ x) (k : Bd X kc ks tgt L st wr tl) : Bd X kc ks pc L (.int y :: .int x :: st) wr tl := by
  intro H locs ls cells slots h1 h2 hls hP hD hSS
  obtain ⟨hd, rfl⟩ := hd
  exact lv_icmp_ge C.1 C.2.1 hd ht (fun _ => k H locs ls cells slots h1 h2 hls hP hD hSS) (fun h => absurd hc h)
theorem b_ge_f (C : Cx X own cc ret) {off : Int} {tgt : Nat} {x y : Int32} (hd : Dc cc pc (.if_icmp .ge off) 3 pc') (ht : (pc : Int) + off = (tgt : Int)) (hc : ¬ y ≤ x) (k : Bd X kc ks pc' L st wr tl) : Bd X kc ks pc L (.int y :: .int x :: st) wr tl := by
  intro H locs ls cells slots h1 h2 hls hP hD hSS
  obtain ⟨hd, rfl⟩ := hd
  exact lv_icmp_ge C.1 C.2.1 hd ht (fun h => absurd h hc) (fun _ => k H locs ls cells slots h1 h2 hls hP hD hSS)
theorem b_obj (C : Cx X own cc ret) {idx a : Nat} (hR : 1 ≤ (xR X).frames ∧ 20 ≤ (xR X).locals) (hd : Dc cc pc (.invokespecial idx) 3 pc') (hw : Cond.methodLink own idx Lib.objectInit ∈ wsT) (hi : Cond.instanceMethod Lib.objectInit ∈ wsT) (hc : Cond.code Lib.objectInit ⟨#[0xb1]⟩ 1 none ∈ wsT) (k : Bd X kc ks pc' L [] wr tl) : Bd X kc ks pc L [.ref a] wr tl := by
  intro H locs ls cells slots h1 h2 hls hP hD hSS
  obtain ⟨hd, rfl⟩ := hd
  have hts := C.2.2.2.2.1
  refine W.objInit C.1 C.2.1 C.2.2.2.1 (hts _ hw) (hts _ hi) (hts _ hc) rfl (by rw [C.2.2.1]; exact hls.1) rfl hd hR.1 (by show 2 * 0 + 0 + 12 ≤ _; omega) ?_
  exact k H locs ls cells slots h1 h2 hls hP hD hSS
theorem b_newa (C : Cx X own cc ret) {n : Nat} {x : Int32} (hd : Dc cc pc (.newarray .int) 2 pc') (hx : ¬ x < 0 ∧ x.toNatClampNeg = n ∧ n ≤ 20000) (hkc : 1 + kc' ≤ kc) (hks : n + ks' ≤ ks) (k : ∀ q : Nat, Bd X kc' ks' pc' L (.ref q :: st) wr (tl ++ [(q, .inl (gA (xG X), n, .inl fun _ => 0))])) : Bd X kc ks pc L (.int x :: st) wr tl := by
  intro H locs ls cells slots h1 h2 hls hP hD hSS
  obtain ⟨hd, rfl⟩ := hd
  have hts := C.2.2.2.2.1
  have hE := C.2.2.2.2.2.1
  refine va_newa (atype := .int) (ty := .int) C.1 C.2.1 (hts _ ac_int) rfl hE.1 hP hD hSS (fun q hq => Nat.le_trans hE.2.2.2.2 hq) (N' := n) (a0 := (n, .inl fun _ => 0)) (fun _ => rfl) hx.1 hx.2.1 (by show n * 4 ≤ _; omega) (by omega) (by omega) hd (fun q cA' H1 hK1 hP1 hD1 hS1 => ?_)
  have ecA : cA' = gA (xG X) := by
    have g1 : (xs X).vm.findClass ("[" ++ FieldType.int.toString) = some cA' := (hK1.2 1 (cA', .int) rfl).2
    have g2 : (xs X).vm.findClass ("[" ++ FieldType.int.toString) = some (gA (xG X)) := (hK1.2 0 (gA (xG X), .int) rfl).2
    exact Option.some.inj (g1.symm.trans g2)
  subst ecA
  rw [List.append_assoc] at hP1 hD1
  exact k q H1 locs ls (cells + 1) (slots + n) (by omega) (by omega) hls hP1 hD1 hS1
theorem b_new (C : Cx X own cc ret) {ci N idx : Nat} {Cn : String} {T : u_T} {ty : Nat → FieldType} {fs : List Value} (hk : Kl ci Cn T N ty) (hd : Dc cc pc (.new idx) 3 pc') (hl : Cond.classLink own idx Cn ∈ wsT) (hi : Cond.instantiable Cn N ∈ wsT) (hini : Cond.initialized Cn ∈ wsT) (hfs : ∀ j, j < N → defaultValue (ty j) = vp_V fs j) (hkc : 1 + kc' ≤ kc) (hks : N + ks' ≤ ks) (k : ∀ q : Nat, Bd X kc' ks' pc' L (.ref q :: st) wr (tl ++ [(q, .inr (ci, fs))])) : Bd X kc ks pc L st wr tl := by
  intro H locs ls cells slots h1 h2 hls hP hD hSS
  obtain ⟨hd, rfl⟩ := hd
  have hts := C.2.2.2.2.1
  have hE := C.2.2.2.2.2.1
  refine va_new C.1 C.2.1 hts hk.2.1 ty hk.2.2.1 C.2.2.2.1 (hts _ hl) (hts _ hi) (hts _ hini) hE.1 hP hD hSS (fun q hq => Nat.le_trans hE.2.2.2.2 hq) hk.1 hfs (by omega) (by omega) hd (fun q H1 hP1 hD1 hS1 => ?_)
  rw [List.append_assoc] at hP1 hD1
  exact k q H1 locs ls (cells + 1) (slots + N) (by omega) (by omega) hls hP1 hD1 hS1
theorem b_put (C : Cx X own cc ret) (p : Nat) {a ci N k idx : Nat} {Cn : String} {T : u_T} {ty : Nat → FieldType} {fs : List Value} {v : Value} (hk : Kl ci Cn T N ty) (hd : Dc cc pc (.putfield idx) 3 pc') (hp : tl[p]? = some (a, .inr (ci, fs))) (hkN : k < N) (hw : Cond.fieldLink own idx (T k).1 (T k).2.1 (T k).2.2.1 ∈ wsT) (hfin : (T k).2.2.2 = false) (hn : narrow (ty k) v = v) (hft : fits (ty k) v = true) (hl : k < fs.length) (hs : tl.set p (a, .inr (ci, fs.set k v)) = tl') (kk : Bd X kc ks pc' L st wr tl') : Bd X kc ks pc L (v :: .ref a :: st) wr tl := by
  intro H locs ls cells slots h1 h2 hls hP hD hSS
  obtain ⟨hd, rfl⟩ := hd
  subst hs
  refine va_put C.1 C.2.1 C.2.2.2.2.1 hk.2.1 ty hk.2.2.1 hk.2.2.2 C.2.2.2.1 C.2.2.2.2.2.1.1 hP hD hSS (wr.length + p) (app_at hp) hk.1 k hkN (C.2.2.2.2.1 _ hw) (fun _ h => h) hfin (hk.2.2.1 k hkN) hn hft hl hd (fun H1 locs1 hP1 hD1 hS1 => ?_)
  rw [app_set] at hP1 hD1
  exact kk H1 locs1 ls cells slots h1 h2 hls hP1 hD1 hS1
theorem b_putF (C : Cx X own cc ret) (hin : (xt X).name = "<init>") (p : Nat) {a ci N k idx : Nat} {T : u_T} {ty : Nat → FieldType} {fs : List Value} {v : Value} (hk : Kl ci own T N ty) (hd : Dc cc pc (.putfield idx) 3 pc') (hp : tl[p]? = some (a, .inr (ci, fs))) (hkN : k < N) (hw : Cond.fieldLink own idx (T k).1 (T k).2.1 (T k).2.2.1 ∈ wsT) (hfin : (T k).2.2.2 = true) (hdecl : (T k).1 = own) (hn : narrow (ty k) v = v) (hft : fits (ty k) v = true) (hl : k < fs.length) (hs : tl.set p (a, .inr (ci, fs.set k v)) = tl') (kk : Bd X kc ks pc' L st wr tl') : Bd X kc ks pc L (v :: .ref a :: st) wr tl := by
  intro H locs ls cells slots h1 h2 hls hP hD hSS
  obtain ⟨hd, rfl⟩ := hd
  subst hs
  refine va_putF C.1 C.2.1 C.2.2.2.2.1 hk.2.1 ty hk.2.2.1 hk.2.2.2 C.2.2.2.1 C.2.2.2.2.2.1.1 hP hD hSS (wr.length + p) (app_at hp) hk.1 k hkN (C.2.2.2.2.1 _ hw) (fun _ h => h) hfin hin hdecl (hk.2.2.1 k hkN) hn hft hl hd (fun H1 locs1 hP1 hD1 hS1 => ?_)
  rw [app_set] at hP1 hD1
  exact kk H1 locs1 ls cells slots h1 h2 hls hP1 hD1 hS1
theorem b_get (C : Cx X own cc ret) (p : Nat) {a ci N k idx : Nat} {Cn : String} {T : u_T} {ty : Nat → FieldType} {fs : List Value} {v : Value} (hk : Kl ci Cn T N ty) (hd : Dc cc pc (.getfield idx) 3 pc') (hp : tl[p]? = some (a, .inr (ci, fs))) (hkN : k < N) (hw : Cond.fieldLink own idx (T k).1 (T k).2.1 (T k).2.2.1 ∈ wsT) (hv : fs[k]? = some v) (kk : Bd X kc ks pc' L (v :: st) wr tl) : Bd X kc ks pc L (.ref a :: st) wr tl := by
  intro H locs ls cells slots h1 h2 hls hP hD hSS
  obtain ⟨hd, rfl⟩ := hd
  exact va_get C.1 C.2.1 C.2.2.2.2.1 hk.2.1 C.2.2.2.1 C.2.2.2.2.2.1.1 hP (wr.length + p) (app_at hp) hk.1 k hkN (C.2.2.2.2.1 _ hw) (fun _ h => h) hv hd (kk H locs ls cells slots h1 h2 hls hP hD hSS)
theorem b_iast (C : Cx X own cc ret) (p : Nat) {a n : Nat} {f : Nat → Int32} {i x : Int32} (hd : Dc cc pc .iastore 1 pc') (hp : tl[p]? = some (a, .inl (gA (xG X), n, .inl f))) (hi : vp_in i n) (hs : tl.set p (a, .inl (gA (xG X), n, .inl (upd f i.toNatClampNeg x))) = tl') (kk : Bd X kc ks pc' L st wr tl') : Bd X kc ks pc L (.int x :: .int i :: .ref a :: st) wr tl := by
  intro H locs ls cells slots h1 h2 hls hP hD hSS
  obtain ⟨hd, rfl⟩ := hd
  subst hs
  refine va_iast C.1 C.2.1 C.2.2.2.2.2.1.1 hP hD hSS (wr.length + p) 0 (app_at hp) rfl hi hd (fun H1 locs1 hP1 hD1 hS1 => ?_)
  rw [app_set] at hP1 hD1
  exact kk H1 locs1 ls cells slots h1 h2 hls hP1 hD1 hS1
theorem b_call {τ : Type} (C : Cx X own cc ret) {y : MethodName} {cy : ByteArray} {ny idx ci a : Nat} {rm : Room} {fs : List Value} {post : Nat → τ → va_W} {rest : List Value} (hd : Dc cc pc (.invokespecial idx) 3 pc') (hw : (own, idx, y) ∈ nestM) (hy : Cal y cy ny none 0) (hyn : y.name = "<init>") (hin : Cond.instanceMethod y ∈ wsT) (hR : RmOk (xR X) rm ny) (hs : (rest.map fun v => v.category).sum ≤ 8) (hc : Cc (xl X) (xG X) y (wsM y cy ny none) rm ci fs post) (hkc : rm.cells + kc' ≤ kc) (hks : rm.slots + ks' ≤ ks) (kk : ∀ q : τ, Bd X kc' ks' pc' L rest wr (tl ++ post a q)) : Bd X kc ks pc L (.ref a :: rest) wr (tl ++ [(a, .inr (ci, fs))]) := by
  intro H locs ls cells slots h1 h2 hls hP hD hSS
  obtain ⟨hd, rfl⟩ := hd
  have hts := C.2.2.2.2.1
  rw [← List.append_assoc] at hP hD
  have hrun := va_runIN (H := H) (locs := locs) (cells := cells) (slots := slots) (As := []) (rest := rest) (b := a) (g := F0 (xm X) pc ls (.ref a :: rest)) (below := xb X) (e := xe X) (meth := xt X) ⟨C.1, C.2.1, C.2.2.1, C.2.2.2.1, hts⟩ (hc (wr ++ tl) a) ⟨va_cnB 0 hts (wsM_good (fun _ h => h) hy.1) rfl rfl rfl (C.2.2.2.2.2.1.2.1 _ hw) (hts _ hy.2.1) hy.2.2 hR, hyn, hts _ hin⟩ ⟨fun a U g mk h => ⟨h.1, h.2.1.same rfl, h.2.2.1, h.2.2.2⟩, fun U hU hW => ⟨rfl, by rw [hU]; exact (C.2.2.2.2.2.1.kept hSS).warm hW, by rw [hU]; exact hP, hD⟩⟩ rfl rfl hls.1 rfl (lv_room hs) hd ⟨by omega, by omega⟩
  intro T hT Xs
  obtain ⟨v, st₀, t, T', Ls, h0, X', hL, e1, e2, ⟨⟨q, hv, hP2, hD2⟩, hz, hk⟩, st⟩ := hrun T hT Xs
  cases hv
  rw [h0] at hz hk
  rw [List.append_assoc] at hP2 hD2
  obtain ⟨t2, a1, b1⟩ := kk q T'.heap (locs ++ Ls) ls (cells + rm.cells) (slots + rm.slots) (by omega) (by omega) hls (by rw [e1]; exact hP2) hD2
    ⟨Nat.le_trans hSS.1 (by rw [e1]; exact hz), fun q h1 h2 => by rw [e1, hk q (Nat.lt_of_lt_of_le h1 hSS.1) h2]; exact hSS.2.1 q h1 h2, fun q hq => by
      rcases List.mem_append.mp hq with h | h
      · exact hSS.2.2 q h
      · exact hL q h⟩ T' rfl X'
  exact ⟨t2, st t2 a1, b1⟩
end B1
