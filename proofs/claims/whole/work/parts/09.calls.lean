/-! A method's entry, calls, switches, long compares. -/
def nS : List AV → Nat
  | [] => 0
  | v :: r => (if isL v then 2 else 1) + nS r
theorem nS_len {ad ba : Nat → Nat} : ∀ {as : List AV}, (lg_sl (cS ad ba as)).length = nS as
  | [] => rfl
  | v :: r => by
    have ih := nS_len (ad := ad) (ba := ba) (as := r)
    unfold lg_sl at ih ⊢
    simp only [cS, List.map_cons, List.flatMap_cons, List.length_append, nS]
    rw [show (List.flatMap (fun v => if v.category = 2 then [Slot.val v, Slot.second] else [Slot.val v]) (List.map (cv ad ba) r)).length = nS r from ih, cat_L]
    cases isL v <;> rfl
theorem lvA_args {ad ba : Nat → Nat} : ∀ {as : List AV} {i : Nat}, lv_args i (cS ad ba as) = cL ad ba (lvA i as)
  | [], i => rfl
  | .inl z :: r, i => by
    show (i, _) :: lv_args (i + 1) (cS ad ba r) = (i, _) :: cL ad ba (lvA (i + 1) r)
    rw [lvA_args]
  | .inr (.inl z) :: r, i => by
    show (i, _) :: lv_args (i + 2) (cS ad ba r) = (i, _) :: cL ad ba (lvA (i + 2) r)
    rw [lvA_args]
  | .inr (.inr (.inl z)) :: r, i => by
    show (i, _) :: lv_args (i + 1) (cS ad ba r) = (i, _) :: cL ad ba (lvA (i + 1) r)
    rw [lvA_args]
  | .inr (.inr (.inr (.inl z))) :: r, i => by
    show (i, _) :: lv_args (i + 1) (cS ad ba r) = (i, _) :: cL ad ba (lvA (i + 1) r)
    rw [lvA_args]
  | .inr (.inr (.inr (.inr none))) :: r, i => by
    show (i, _) :: lv_args (i + 1) (cS ad ba r) = (i, _) :: cL ad ba (lvA (i + 1) r)
    rw [lvA_args]
  | .inr (.inr (.inr (.inr (some z)))) :: r, i => by
    show (i, _) :: lv_args (i + 1) (cS ad ba r) = (i, _) :: cL ad ba (lvA (i + 1) r)
    rw [lvA_args]
theorem okL_lvA : ∀ {as : List AV} {i : Nat}, okS as → okL (lvA i as)
  | [], i, h => trivial
  | .inl z :: r, i, h => ⟨h.1, okL_lvA (as := r) h.2⟩
  | .inr (.inl z) :: r, i, h => ⟨h.1, okL_lvA (as := r) h.2⟩
  | .inr (.inr (.inl z)) :: r, i, h => ⟨h.1, okL_lvA (as := r) h.2⟩
  | .inr (.inr (.inr (.inl z))) :: r, i, h => ⟨h.1, okL_lvA (as := r) h.2⟩
  | .inr (.inr (.inr (.inr z))) :: r, i, h => ⟨h.1, okL_lvA (as := r) h.2⟩
theorem okS_drop : ∀ {n : Nat} {st rest : List AV}, okS st → st.drop n = rest → okS rest
  | 0, st, rest, h, e => by subst e; exact h
  | n + 1, [], rest, h, e => by subst e; trivial
  | n + 1, v :: st, rest, h, e => okS_drop (n := n) (st := st) h.2 e
theorem ct_of {l : Launch} {G : Gx} {K : Kx} {y : MethodName} {cc : ByteArray} {n : Nat} {ret : Option FieldType} {rm : Room} {as : List AV} {M M' : Mem} {r : Option AV} {ρ : Type} {res : ρ} {F : Option ρ} (own : String) (hy : plainName y.cls = true) (ho : y.cls = own) (hK : KOk K) (hM : OkM M) (ha : okS as) (hn : nS as ≤ n) (hF : F = some res)
    (body : ∀ X : Xc, Cx X own cc ret → xl X = l → xG X = G → xK X = K → xn X = n → xR X = rm → Rq X r M' → Im X rm.cells rm.slots 0 (lvA 0 as) [] M res F) : Ct l G K y (wsM y cc n ret) rm as M r M' := by
  intro ba
  refine Met.ofW (cc := cc) (maxL := n) (ret := ret) hy rfl ?_
  intro p e s m args below meth c s₁ B hml hv
  obtain ⟨rfl, hE, hP, hD⟩ := hv
  have hts := atoms_spec (ws := wsM y cc n ret) B.pre
  have hown : s.vm.findClass own = some m.cls := ho ▸ findClass_of_methodNamed B.named
  have hl := lv_entry (cS (gd G) ba as) (n := n) (by rw [nS_len]; exact hn)
  rw [lg_entry_eq]
  rw [lvA_args] at hl
  exact body (p, l, e, rm, s, m, (cS (gd G) ba as).toArray, below, meth, c, G, K, n, MQ below (Qp G K rm.cells ba r M') (cS (gd G) ba as).toArray s rm.cells rm.slots (gF G), ba)
    ⟨B.exec, B.bytes, hml, hown, fun w hw => hts w (List.mem_cons_of_mem _ hw), hE, hK, B.notSynchronized, B.returns⟩ rfl rfl rfl rfl rfl rfl hF hM (okL_lvA ha) trivial ba (fun _ => rfl) s.heap [] _ 0 0 (Nat.le_of_eq (Nat.zero_add _)) (Nat.le_of_eq (Nat.zero_add _)) hl hP hD va_S.rf
def CRun (X : Xc) (M : Mem) (pc : Nat) (st0 rest : List AV) (r : Option AV) (M' : Mem) (mc ms : Nat) : Prop := ∀ (ba : Nat → Nat) (H : Heap) (locs : List Loc) (ls : Array Slot) (cells slots : Nat), cells + mc ≤ (xR X).cells → slots + ms ≤ (xR X).slots → ls.size = xn X →
  va_P (gD (xG X)) vwCl (wsl (xG X) (xK X) ba M) H → va_D (gF (xG X)) (wsl (xG X) (xK X) ba M) → va_S (gF (xG X)) (xs X).heap H locs →
  ∃ a : Array Value, va_Run (xp X) (xl X) (xe X) (xR X) (xs X) (xm X) (xa X) (xb X) (xt X) (xc X) H locs cells slots mc ms (F0 (xm X) pc ls (cS (gd (xG X)) ba st0)) (cS (gd (xG X)) ba rest) (Qp (xG X) (xK X) mc ba r M' a) (gF (xG X))
theorem ba_same {ad ba ba' : Nat → Nat} {mc : Nat} {rest : List AV} {L : List (Nat × AV)} (h : (mc == 0 || (rest.all (fun v => !isB v) && L.all (fun q => !isB q.2))) = true) (hz : mc = 0 → ba' = ba) : cS ad ba rest = cS ad ba' rest ∧ cL ad ba L = cL ad ba' L := by
  by_cases e : mc = 0
  · rw [hz e]; exact ⟨rfl, rfl⟩
  · have e' : (mc == 0) = false := by simpa using e
    rw [e', Bool.false_or, Bool.and_eq_true] at h
    exact ⟨cS_ba h.1, cL_ba h.2⟩
theorem go_call {X : Xc} {H : Heap} {locs : List Loc} {cells slots mc ms pc : Nat} {ls : Array Slot} {st0 rest : List Value} {r : Option AV} {M' : Mem} {a : Array Value} {ba0 : Nat → Nat}
    (hr : va_Run (xp X) (xl X) (xe X) (xR X) (xs X) (xm X) (xa X) (xb X) (xt X) (xc X) H locs cells slots mc ms (F0 (xm X) pc ls st0) rest (Qp (xG X) (xK X) mc ba0 r M' a) (gF (xG X))) (hSS : va_S (gF (xG X)) (xs X).heap H locs)
    (kk : ∀ (ba : Nat → Nat) (H1 : Heap) (locs1 : List Loc), (mc = 0 → ba = ba0) → (∀ v, r = some v → okV v ∧ isB v = false) → OkM M' → va_P (gD (xG X)) vwCl (wsl (xG X) (xK X) ba M') H1 → va_D (gF (xG X)) (wsl (xG X) (xK X) ba M') → va_S (gF (xG X)) (xs X).heap H1 locs1 → Wx X H1 locs1 (cells + mc) (slots + ms) (F0 (xm X) (pc + 3) ls ((r.map (cv (gd (xG X)) ba)).toList ++ rest))) : Wx X H locs cells slots (F0 (xm X) pc ls st0) := by
  intro T hT Xs
  obtain ⟨v, st₀, t, T', L, h0, X', hL, e1, e2, ⟨⟨ba, hbz, hv, hok, hM, hP, hD⟩, hz, hk⟩, st⟩ := hr T hT Xs
  cases hv
  rw [h0] at hz hk
  obtain ⟨t2, a1, b1⟩ := kk ba T'.heap (locs ++ L) hbz hok hM (by rw [e1]; exact hP) hD
    ⟨Nat.le_trans hSS.1 (by rw [e1]; exact hz), fun q h1 h2 => by rw [e1, hk q (Nat.lt_of_lt_of_le h1 hSS.1) h2]; exact hSS.2.1 q h1 h2, fun q hq => by
      rcases List.mem_append.mp hq with h | h
      · exact hSS.2.2 q h
      · exact hL q h⟩ T' rfl X'
  exact ⟨t2, st t2 a1, b1⟩
section R3
variable {X : Xc} {own : String} {cc : ByteArray} {ret : Option FieldType} {kc ks pc pc' : Nat} {L L' : List (Nat × AV)} {st : List AV} {M : Mem} {ρ : Type} {res : ρ} {F A B : Option ρ} {x y z : Int}
theorem i_cI {k : Int → Mem → Option ρ} {Fc : Option (Int × Mem)} {st0 rest : List AV} {kc' ks' : Nat} (mc ms n : Nat) (hr : ∀ q, Fc = some q → OkM M → okS st0 → CRun X M pc st0 rest (some (aI q.1)) q.2 mc ms) (hkc : mc + kc' ≤ kc) (hks : ms + ks' ≤ ks) (hp : pc + 3 = pc') (hn : st0.drop n = rest) (hb : (mc == 0 || (rest.all (fun v => !isB v) && L.all (fun q => !isB q.2))) = true) (kk : ∀ v M', Im X kc' ks' pc' L (aI v :: rest) M' res (k v M')) : Im X kc ks pc L st0 M res (bnI Fc k) := by
  subst hp
  intro hF hM hL hS ba hba H locs ls cells slots h1 h2 hls hP hD hSS
  cases hFc : Fc with
  | none => rw [hFc] at hF; cases hF
  | some q =>
    rw [hFc] at hF
    obtain ⟨a, hrun⟩ := hr q hFc hM hS ba H locs ls cells slots (by omega) (by omega) hls.1 hP hD hSS
    refine go_call hrun hSS (fun ba' H1 locs1 hbz hok hM1 hP1 hD1 hS1 => ?_)
    obtain ⟨e1, e2⟩ := ba_same (ad := gd (xG X)) hb hbz
    rw [e1]
    rw [e2] at hls
    exact kk q.1 q.2 hF hM1 hL ⟨(hok _ rfl).1, okS_drop hS hn⟩ ba' (fun h0 => (hbz (by omega)).trans (hba h0)) H1 locs1 ls (cells + mc) (slots + ms) (by omega) (by omega) hls hP1 hD1 hS1
theorem i_cL {k : Int → Mem → Option ρ} {Fc : Option (Int × Mem)} {st0 rest : List AV} {kc' ks' : Nat} (mc ms n : Nat) (hr : ∀ q, Fc = some q → OkM M → okS st0 → CRun X M pc st0 rest (some (aL q.1)) q.2 mc ms) (hkc : mc + kc' ≤ kc) (hks : ms + ks' ≤ ks) (hp : pc + 3 = pc') (hn : st0.drop n = rest) (hb : (mc == 0 || (rest.all (fun v => !isB v) && L.all (fun q => !isB q.2))) = true) (kk : ∀ v M', Im X kc' ks' pc' L (aL v :: rest) M' res (k v M')) : Im X kc ks pc L st0 M res (bnI Fc k) := by
  subst hp
  intro hF hM hL hS ba hba H locs ls cells slots h1 h2 hls hP hD hSS
  cases hFc : Fc with
  | none => rw [hFc] at hF; cases hF
  | some q =>
    rw [hFc] at hF
    obtain ⟨a, hrun⟩ := hr q hFc hM hS ba H locs ls cells slots (by omega) (by omega) hls.1 hP hD hSS
    refine go_call hrun hSS (fun ba' H1 locs1 hbz hok hM1 hP1 hD1 hS1 => ?_)
    obtain ⟨e1, e2⟩ := ba_same (ad := gd (xG X)) hb hbz
    rw [e1]
    rw [e2] at hls
    exact kk q.1 q.2 hF hM1 hL ⟨(hok _ rfl).1, okS_drop hS hn⟩ ba' (fun h0 => (hbz (by omega)).trans (hba h0)) H1 locs1 ls (cells + mc) (slots + ms) (by omega) (by omega) hls hP1 hD1 hS1
theorem i_cV {k : Mem → Option ρ} {Fc : Option Mem} {st0 rest : List AV} {kc' ks' : Nat} (mc ms n : Nat) (hr : ∀ q, Fc = some q → OkM M → okS st0 → CRun X M pc st0 rest none q mc ms) (hkc : mc + kc' ≤ kc) (hks : ms + ks' ≤ ks) (hp : pc + 3 = pc') (hn : st0.drop n = rest) (hb : (mc == 0 || (rest.all (fun v => !isB v) && L.all (fun q => !isB q.2))) = true) (kk : ∀ M', Im X kc' ks' pc' L (rest) M' res (k M')) : Im X kc ks pc L st0 M res (bnV Fc k) := by
  subst hp
  intro hF hM hL hS ba hba H locs ls cells slots h1 h2 hls hP hD hSS
  cases hFc : Fc with
  | none => rw [hFc] at hF; cases hF
  | some q =>
    rw [hFc] at hF
    obtain ⟨a, hrun⟩ := hr q hFc hM hS ba H locs ls cells slots (by omega) (by omega) hls.1 hP hD hSS
    refine go_call hrun hSS (fun ba' H1 locs1 hbz hok hM1 hP1 hD1 hS1 => ?_)
    obtain ⟨e1, e2⟩ := ba_same (ad := gd (xG X)) hb hbz
    rw [e1]
    rw [e2] at hls
    exact kk q hF hM1 hL (okS_drop hS hn) ba' (fun h0 => (hbz (by omega)).trans (hba h0)) H1 locs1 ls (cells + mc) (slots + ms) (by omega) (by omega) hls hP1 hD1 hS1
def catS : List AV → Nat
  | [] => 0
  | v :: r => (if isL v then 2 else 1) + catS r
theorem catS_eq {ad ba : Nat → Nat} : ∀ {st : List AV}, ((cS ad ba st).map fun v => v.category).sum = catS st
  | [] => rfl
  | v :: r => by
    have ih := catS_eq (ad := ad) (ba := ba) (st := r)
    simp only [cS, List.map_cons, List.sum_cons, catS] at ih ⊢
    rw [ih, cat_L]
/-- what is known of a method that is called -/
def Cal (y : MethodName) (cy : ByteArray) (ny : Nat) (rety : Option FieldType) (n : Nat) : Prop := Cond.code y cy ny rety ∈ wsT ∧ Cond.initialized y.cls ∈ wsT ∧ y.cls ≠ "java/lang/invoke/MethodHandle" ∧ y.cls ≠ "java/lang/invoke/VarHandle" ∧ (parseMethodDescriptor y.desc).map (fun d => d.parameters.length) = some n
def CalV (y : MethodName) (Cn : String) : Prop := Cond.instanceMethod y ∈ wsT ∧ Cond.selects Cn y y ∈ wsT
def RmOk (R rm : Room) (ny : Nat) : Prop := rm.frames + 1 ≤ R.frames ∧ 8 + (ny + 11) + rm.locals ≤ R.locals
theorem cr_pre (C : Cx X own cc ret) {ba : Nat → Nat} {H : Heap} {locs : List Loc} {as : List AV} (hP : va_P (gD (xG X)) vwCl (wsl (xG X) (xK X) ba M) H) (hD : va_D (gF (xG X)) (wsl (xG X) (xK X) ba M)) (hSS : va_S (gF (xG X)) (xs X).heap H locs) : PreS (xs X) H (Pp (xG X) (xK X) ba as M) (cS (gd (xG X)) ba as) :=
  ⟨Pp.blind, fun U hU hW => ⟨rfl, by rw [hU]; exact (C.2.2.2.2.2.1.kept hSS).warm hW, by rw [hU]; exact hP, hD⟩⟩
theorem crV (C : Cx X own cc ret) {y : MethodName} {cy : ByteArray} {ny n idx id ci N : Nat} {rety : Option FieldType} {rm : Room} {Cn : String} {T : u_T} {ty : Nat → FieldType} {fl : List (Nat ⊕ Nat ⊕ Unit)} {M' : Mem} {r : Option AV} {rest : List AV} (as : List AV) (hd : decode cc pc = .ok (.invokevirtual idx, 3)) (hk : Kl ci Cn T N ty) (hsh : Sh X id (.inr (ci, fl))) (hw : Cond.methodLink own idx y ∈ wsT) (hy : Cal y cy ny rety n) (hv : CalV y Cn) (hR : RmOk (xR X) rm ny) (hn : as.length = n) (hs : catS rest ≤ 8) (hc : Ct (xl X) (xG X) (xK X) y (wsM y cy ny rety) rm (aR id :: as) M r M') : CRun X M pc (as.reverse ++ aR id :: rest) rest r M' rm.cells rm.slots := by
  intro ba H locs ls cells slots h1 h2 hls hP hD hSS
  obtain ⟨q, hq, -⟩ := wsl_at (G := xG X) C.2.2.2.2.2.2.1 ba M hsh.1
  rw [cellE_o hsh.2] at hq
  have hts := C.2.2.2.2.1
  have hpre := cr_pre (as := aR id :: as) C hP hD hSS
  refine ⟨_, va_runV (As := cS (gd (xG X)) ba as) ⟨C.1, C.2.1, C.2.2.1, C.2.2.2.1, hts⟩ (hc ba) ⟨callB_of n hts (wsM_good (fun _ h => h) hy.1) rfl rfl rfl (hts _ hy.2.1) (hts _ hw) hy.2.2 hR, hts _ hv.1, hts _ hv.2⟩ ⟨hpre.1, va_recv C.2.2.2.2.2.1.1 hP hk.1 hq, hpre.2⟩ rfl (by rw [List.length_map]; exact hn) hls ?_ (lv_room (by rw [catS_eq]; exact hs)) hd ⟨h1, h2⟩⟩
  show cS (gd (xG X)) ba (as.reverse ++ aR id :: rest) = _
  simp only [cS, List.map_append, List.map_reverse, List.map_cons]
  rfl
theorem crS (C : Cx X own cc ret) {y : MethodName} {cy : ByteArray} {ny n idx : Nat} {rety : Option FieldType} {rm : Room} {M' : Mem} {r : Option AV} {rest : List AV} (as : List AV) (hd : decode cc pc = .ok (.invokestatic idx, 3)) (hw : Cond.methodLink own idx y ∈ wsT) (hy : Cal y cy ny rety n) (hv : Cond.static y ∈ wsT) (hR : RmOk (xR X) rm ny) (hn : as.length = n) (hs : catS rest ≤ 8) (hc : Ct (xl X) (xG X) (xK X) y (wsM y cy ny rety) rm as M r M') : CRun X M pc (as.reverse ++ rest) rest r M' rm.cells rm.slots := by
  intro ba H locs ls cells slots h1 h2 hls hP hD hSS
  have hts := C.2.2.2.2.1
  refine ⟨_, va_runS (As := cS (gd (xG X)) ba as) ⟨C.1, C.2.1, C.2.2.1, C.2.2.2.1, hts⟩ (hc ba) ⟨callB_of n hts (wsM_good (fun _ h => h) hy.1) rfl rfl rfl (hts _ hy.2.1) (hts _ hw) hy.2.2 hR, hts _ hv⟩ (cr_pre C hP hD hSS) rfl (by rw [List.length_map]; exact hn) hls ?_ (lv_room (by rw [catS_eq]; exact hs)) hd ⟨h1, h2⟩⟩
  show cS (gd (xG X)) ba (as.reverse ++ rest) = _
  simp only [cS, List.map_append, List.map_reverse]
theorem crN (C : Cx X own cc ret) {y : MethodName} {cy : ByteArray} {ny n idx : Nat} {rety : Option FieldType} {rm : Room} {M' : Mem} {r : Option AV} {rest : List AV} (as : List AV) (hd : decode cc pc = .ok (.invokestatic idx, 3)) (hw : (own, idx, y) ∈ nestM) (hy : Cal y cy ny rety n) (hv : Cond.static y ∈ wsT) (hR : RmOk (xR X) rm ny) (hn : as.length = n) (hs : catS rest ≤ 8) (hc : Ct (xl X) (xG X) (xK X) y (wsM y cy ny rety) rm as M r M') : CRun X M pc (as.reverse ++ rest) rest r M' rm.cells rm.slots := by
  intro ba H locs ls cells slots h1 h2 hls hP hD hSS
  have hts := C.2.2.2.2.1
  refine ⟨_, va_runSN (As := cS (gd (xG X)) ba as) ⟨C.1, C.2.1, C.2.2.1, C.2.2.2.1, hts⟩ (hc ba) ⟨va_cnB n hts (wsM_good (fun _ h => h) hy.1) rfl rfl rfl (C.2.2.2.2.2.1.2.1 _ hw) (hts _ hy.2.1) hy.2.2 hR, hts _ hv, trivial⟩ (cr_pre C hP hD hSS) rfl (by rw [List.length_map]; exact hn) hls ?_ (lv_room (by rw [catS_eq]; exact hs)) hd ⟨h1, h2⟩⟩
  show cS (gd (xG X)) ba (as.reverse ++ rest) = _
  simp only [cS, List.map_append, List.map_reverse]
theorem i_lcmp (C : Cx X own cc ret) (hd : Dc cc pc .lcmp 1 pc') (k : Im X kc ks pc' L (aI (cmpZ x y) :: st) M res F) : Im X kc ks pc L (aL y :: aL x :: st) M res F := by
  intro hF hM hL hS ba hba H locs ls cells slots h1 h2 hls hP hD hSS
  obtain ⟨hd, rfl⟩ := hd
  refine W.lcmp C.1 C.2.1 hd ?_
  have hx := hS.2.1
  have hy := hS.1
  have e : lg_cmp (Int64.ofInt x) (Int64.ofInt y) = Int32.ofInt (cmpZ x y) := by
    unfold lg_cmp cmpZ
    have e2 : (Int64.ofInt x = Int64.ofInt y) = (x = y) := by rw [← Int64.toInt_inj, i64_ti hx, i64_ti hy]
    have e3 : (Int64.ofInt x > Int64.ofInt y) = (y < x) := by show (Int64.ofInt y < Int64.ofInt x) = _; rw [Int64.lt_iff_toInt_lt, i64_ti hx, i64_ti hy]
    simp only [e2, e3]
    clear e2 e3 k hP hD hSS hls
    rcases Int.lt_trichotomy x y with h | h | h
    · rw [if_neg (by omega), if_neg (by omega), if_pos h]; rfl
    · subst h; rw [if_neg (by omega), if_pos rfl, if_neg (by omega), if_pos rfl]; rfl
    · rw [if_pos h, if_neg (by omega), if_neg (by omega)]; rfl
  refine W.eq (g2 := F0 (xm X) (pc + 1) ls (Value.int (Int32.ofInt (cmpZ x y)) :: cS (gd (xG X)) ba st)) (by rw [← e]) ?_
  refine k hF hM hL ⟨?_, hS.2.2⟩ ba hba H locs ls cells slots h1 h2 hls hP hD hSS
  show R32 (cmpZ x y)
  unfold cmpZ R32
  split
  · omega
  · split <;> omega
theorem i_tswIn (C : Cx X own cc ret) {dflt lo hi : Int} {offs : Array Int} {len tgt : Nat} {off c : Int} (hd : Dc cc pc (.tableswitch dflt lo hi offs) len pc') (hx : x = c) (hlo : ¬ c < lo) (hhi : ¬ hi < c) (ho : offs[(c - lo).toNat]? = some off) (ht : (pc : Int) + off = (tgt : Int)) (k : Im X kc ks tgt L st M res F) : Im X kc ks pc L (aI x :: st) M res F := by
  intro hF hM hL hS ba hba H locs ls cells slots h1 h2 hls hP hD hSS
  obtain ⟨hd, rfl⟩ := hd
  subst hx
  exact lv_tableIn C.1 C.2.1 hd (by rw [i32_ti hS.1]; exact hlo) (by rw [i32_ti hS.1]; exact hhi) (by rw [i32_ti hS.1]; exact ho) ht (k hF hM hL hS.2 ba hba H locs ls cells slots h1 h2 hls hP hD hSS)
theorem i_tswOut (C : Cx X own cc ret) {dflt lo hi : Int} {offs : Array Int} {len tgt : Nat} (hd : Dc cc pc (.tableswitch dflt lo hi offs) len pc') (hx : x < lo ∨ hi < x) (ht : (pc : Int) + dflt = (tgt : Int)) (k : Im X kc ks tgt L st M res F) : Im X kc ks pc L (aI x :: st) M res F := by
  intro hF hM hL hS ba hba H locs ls cells slots h1 h2 hls hP hD hSS
  obtain ⟨hd, rfl⟩ := hd
  exact lv_tableOut C.1 C.2.1 hd (by rw [i32_ti hS.1]; exact hx) ht (k hF hM hL hS.2 ba hba H locs ls cells slots h1 h2 hls hP hD hSS)
end R3
