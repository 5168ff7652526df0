/-! THE CLAIM OUT OF ONE WALK OF THE LAW'S BODY. Your part is whole_start (and what it stands on); all else here is the same for every law, but numbers. -/
def R_law : String := "CutCityLaw"
def lw_P (b : Addr) (xs : List Int32) (args : Array Value) (s : State) : Prop := args = #[.ref b] ∧ s.IntsAt b xs ∧ xs.length ≤ 3072 ∧ (Jvm.Cond.and given_1 narrow_1).before args s = true
def lw_Q (_ : Array Value) (s : State) (o : Outcome) (t : State) : Prop := o = .returned (some (.int 1)) ∧ Framed s o t [] 600000 7302250
def lw_Z (below : List Frame) (a : Array Value) (s : State) : State → Prop := fun t => ∃ o, t.status = .running ∧ Ended t below o ∧ lw_Q a s o t
/-- the law's own end, with 1 on the stack, nothing written that was there before, its room as the claim has it -/
theorem lw_ret {p : Program} {l : Launch} {e : Env} {s : State} {m : MethodId} {below : List Frame} {meth : Method} {c : Code} {b : Nat} (hx : p.tables.exec = Jvm.exec) (hb : c.code = code) (hr : meth.sig.returnType = ret) (hlocks : meth.locks = false) {pc : Nat} {H : Heap} {ls : Array Slot} (hdg : decode code pc = .ok (.ireturn, 1)) : W p l e room_1 s m #[Value.ref b] below meth c H [] 600000 7302250 (lw_Z below #[Value.ref b] s) (F0 m pc ls [.int 1]) := by
  intro T hT X
  obtain ⟨fs, hret, hrun, hended, hW, hframe⟩ := X.leave (v := some (.int 1)) (hlocks := hlocks) (fun h => by rw [hr] at h; cases h)
  have hmeth' : T.vm.method? m = some meth := X.method'
  refine ⟨T.setFrames fs, ?_, .returned (some (.int 1)), hrun, hended, rfl, ⟨_, rfl⟩, hW, hframe⟩
  jvm_step X.here [X.here.top, hx, hb, hdg, hmeth', hr, ret, narrow_b1]
  (try refine ⟨rfl, ?_⟩); (try refine ⟨rfl, ?_⟩)
  first | (intro acts; rw [hret _ acts rfl rfl rfl]) | rw [hret _ _ rfl rfl rfl]
  exact Steps.refl _
/-- what holds at the law's entry: the machine, the code, the tables' words (any of lw_tbl by 'hts w (by decide +kernel)'), the script of L ints xs at the cell b, what the Statement gives of the start (any of its parts by flat_of_before) -/
def lw_At (p : Program) (s : State) (m : MethodId) (meth : Method) (c : Code) (b L : Nat) (xs : Nat → Int32) : Prop :=
  p.tables.exec = Jvm.exec ∧ c.code = code ∧ meth.sig.returnType = ret ∧ c.maxLocals = 4 ∧ s.vm.findClass R_law = some m.cls ∧ (∀ w ∈ lw_tbl, w.before #[Value.ref b] s = true) ∧ va_X b L xs s s.heap ∧ b < s.heap.size ∧ meth.locks = false ∧ (Jvm.Cond.and given_1 narrow_1).before #[Value.ref b] s = true
/-! The law's world: the reference's cells (numbers from 1000 on), then the class's. -/
def mix (MP MR : Mem) : Mem := fun a j => if 1000 ≤ a then (if (a - 1000) % 2 = 0 then MR ((a - 1000) / 2) j else MP (1000 + (a - 1000) / 2) j) else MP a j
theorem mix_P {MP MR : Mem} {a : Nat} (h : a < 1000) (j : Int) : mix MP MR a j = MP a j := if_neg (by omega)
theorem mix_R {MP MR : Mem} {i : Nat} (j : Int) : mix MP MR (1000 + 2 * i) j = MR i j := by
  unfold mix
  rw [if_pos (by omega), if_pos (by omega), show (1000 + 2 * i - 1000) / 2 = i by omega]
theorem mix_Q {MP MR : Mem} {i : Nat} (j : Int) : mix MP MR (1000 + 2 * i + 1) j = MP (1000 + i) j := by
  unfold mix
  rw [if_pos (by omega), if_neg (by omega), show (1000 + 2 * i + 1 - 1000) / 2 = i by omega]
theorem okM_mix {MP MR : Mem} (h1 : OkM MP) (h2 : OkM MR) : OkM (mix MP MR) := by
  intro a j
  unfold mix
  split
  · split
    · exact h2 _ _
    · exact h1 _ _
  · exact h1 _ _
theorem okM_P {MP MR : Mem} (h : OkM (mix MP MR)) : OkM MP := by
  intro a j
  by_cases ha : a < 1000
  · have := h a j
    rwa [mix_P ha] at this
  · have := h (1000 + 2 * (a - 1000) + 1) j
    rwa [mix_Q, show 1000 + (a - 1000) = a by omega] at this
theorem okM_R {MP MR : Mem} (h : OkM (mix MP MR)) : OkM MR := by
  intro a j
  have := h (1000 + 2 * a) j
  rwa [mix_R] at this
def shR1 : Nat ⊕ Nat ⊕ Unit → Nat ⊕ Nat ⊕ Unit
  | .inl n => .inl (1000 + 2 * n)
  | x => x
def shR : Shp → Shp
  | .inl n => .inl n
  | .inr q => .inr (q.1, q.2.map shR1)
def kL : Kx := ((List.range 22).map (fun i => 1000 + 2 * i) ++ idsP, [100, 200, 300], fun id => if 1000 ≤ id then shR (modShp ((id - 1000) / 2)) else shpP id)
theorem kL_ok : KOk kL := ⟨by decide +kernel, by decide +kernel, by decide +kernel⟩
abbrev gdR (G : Gx) : Nat → Nat := fun j => if j < 1000 then gd G (1000 + 2 * j) else gd G j
def Rl (G : Gx) (ba : Nat → Nat) (MR : Mem) : va_W := (List.range 22).map fun i => (gdR G i, cellE (gA G) (gdR G) ba MR i (modShp i))
def Pl (G : Gx) (ba : Nat → Nat) (MP : Mem) : va_W := (idsP.map fun id => (gd G id, cellE (gA G) (gd G) ba MP id (shpP id))) ++ ([100, 200, 300].map fun b => (ba b, cellB (gA G) MP b))
def gP (G : Gx) (ba : Nat → Nat) (MR : Mem) : Gx := (G.1, G.2.1, G.2.2.1, G.2.2.2.1, Rl G ba MR, [], G.2.2.2.2.2.2)
def gR (G : Gx) (ba : Nat → Nat) (MP : Mem) : Gx := (G.1, G.2.1, gdR G, G.2.2.2.1, [], Pl G ba MP, G.2.2.2.2.2.2)
def okR : Shp → Bool
  | .inl _ => true
  | .inr q => q.2.all fun t => match t with | .inl n => decide (n < 1000) | .inr (.inl _) => false | _ => true
theorem okR_all : ∀ i, i < 22 → okR (modShp i) = true := by decide +kernel
theorem fldV_R {ad ba ba' : Nat → Nat} {MP MR : Mem} {i : Nat} : ∀ {fl : List (Nat ⊕ Nat ⊕ Unit)} {j : Nat}, fl.all (fun t => match t with | .inl n => decide (n < 1000) | .inr (.inl _) => false | _ => true) = true →
    fldV ad ba (mix MP MR) (1000 + 2 * i) j (fl.map shR1) = fldV (fun j => if j < 1000 then ad (1000 + 2 * j) else ad j) ba' MR i j fl
  | [], j, _ => rfl
  | a :: r, j, h => by
    rw [List.all_cons, Bool.and_eq_true] at h
    show fv1 ad ba (mix MP MR) (1000 + 2 * i) j (shR1 a) :: fldV ad ba (mix MP MR) (1000 + 2 * i) (j + 1) (r.map shR1) = fv1 _ ba' MR i j a :: _
    rw [fldV_R (fl := r) h.2]
    congr 1
    match a, h.1 with
    | .inl n, h1 =>
      have hn : n < 1000 := by simpa using h1
      show Value.ref (ad (1000 + 2 * n)) = Value.ref (if n < 1000 then ad (1000 + 2 * n) else ad n)
      rw [if_pos hn]
    | .inr (.inl z), h1 => cases h1
    | .inr (.inr _), _ =>
      show Value.int (Int32.ofInt (mix MP MR (1000 + 2 * i) (j : Int))) = Value.int (Int32.ofInt (MR i (j : Int)))
      rw [mix_R]
theorem cell_R {G : Gx} {ba ba' : Nat → Nat} {MP MR : Mem} {i : Nat} (hi : i < 22) : cellE (gA G) (gd G) ba (mix MP MR) (1000 + 2 * i) (shR (modShp i)) = cellE (gA G) (gdR G) ba' MR i (modShp i) := by
  have h := okR_all i hi
  cases hs : modShp i with
  | inl n =>
    show Sum.inl (gA G, n, Sum.inl fun j : Nat => Int32.ofInt (mix MP MR (1000 + 2 * i) (j : Int))) = Sum.inl (gA G, n, Sum.inl fun j : Nat => Int32.ofInt (MR i (j : Int)))
    simp only [mix_R]
  | inr q =>
    rw [hs] at h
    show Sum.inr (q.1, fldV (gd G) ba (mix MP MR) (1000 + 2 * i) 0 (q.2.map shR1)) = Sum.inr (q.1, fldV (gdR G) ba' MR i 0 q.2)
    rw [fldV_R h]
theorem Rl_ba {G : Gx} {ba ba' : Nat → Nat} {MR : Mem} : Rl G ba MR = Rl G ba' MR := by
  unfold Rl
  apply List.map_congr_left
  intro i hi
  have hi' := List.mem_range.mp hi
  rw [← cell_R (G := G) (ba := ba) (ba' := ba) (MP := MR) hi', ← cell_R (G := G) (ba := ba) (ba' := ba') (MP := MR) hi']
theorem idsP_lt : ∀ id ∈ idsP, id < 1000 := by decide +kernel
theorem wsL_eq {G : Gx} (h1 : G.2.2.2.2.1 = []) (h2 : G.2.2.2.2.2.1 = []) {ba : Nat → Nat} {MP MR : Mem} : wsl G kL ba (mix MP MR) = Rl G ba MR ++ Pl G ba MP := by
  unfold wsl
  rw [h1, h2, List.nil_append, List.append_nil]
  show ((List.range 22).map (fun i => 1000 + 2 * i) ++ idsP).map _ ++ _ = _
  rw [List.map_append, List.append_assoc, List.map_map]
  congr 1
theorem wsP_eq {G : Gx} {ba ba' : Nat → Nat} {MP MR : Mem} : wsl (gP G ba MR) kP ba' MP = Rl G ba MR ++ Pl G ba' MP := by
  show Rl G ba MR ++ (_ ++ (_ ++ [])) = _
  rw [List.append_nil]
  rfl
theorem wsR_eq {G : Gx} {ba ba' : Nat → Nat} {MP MR : Mem} : wsl (gR G ba MP) kR ba' MR = Rl G ba' MR ++ Pl G ba MP := rfl
theorem Ev_gR {G : Gx} {ba : Nat → Nat} {MP : Mem} {U : State} {H : Heap} (h : Ev G U H) : Ev (gR G ba MP) U H := by
  have e1 : ∀ k, gdR G (9500 + k) = gd G (9500 + k) := fun k => if_neg (by omega)
  have e2 : (fun k => gdR G (9000 + k)) = fun k => gd G (9000 + k) := funext fun k => if_neg (by omega)
  have e3 : (fun k => gdR G (9200 + k)) = fun k => gd G (9200 + k) := funext fun k => if_neg (by omega)
  have e4 : ∀ k, gdR G (9000 + k) = gd G (9000 + k) := fun k => if_neg (by omega)
  obtain ⟨a1, a2, a3, ⟨b1, b2, b3, b4, b5⟩, a5⟩ := h
  refine ⟨a1, a2, a3, ⟨fun k q hq => ?_, ?_, fun k q hq => ?_, b4, b5⟩, a5⟩
  · have := b1 k q hq
    rw [← e1 k] at this
    exact this
  · rw [← e2, ← e3] at b2
    exact b2
  · have := b3 k q hq
    rw [← e4 k] at this
    exact this
section LawRows
variable {X : Xc} {own : String} {cc : ByteArray} {ret : Option FieldType} {kc ks pc pc' : Nat} {L : List (Nat × AV)} {st : List AV} {M MP MR : Mem} {ρ : Type} {res : ρ} {F : Option ρ} {x : Int}
theorem run_mono {p : Program} {l : Launch} {e : Env} {R : Room} {s : State} {m : MethodId} {args : Array Value} {below : List Frame} {meth : Method} {c : Code} {H : Heap} {locs : List Loc} {cells slots mc ms : Nat} {g : JFrame} {rest : List Value} {Qa Qb : State → Outcome → State → Prop} {free : Addr → Prop} (h : va_Run p l e R s m args below meth c H locs cells slots mc ms g rest Qa free) (hq : ∀ st o t, Qa st o t → Qb st o t) : va_Run p l e R s m args below meth c H locs cells slots mc ms g rest Qb free := by
  intro T hT Xs
  obtain ⟨v, st₀, t, T', Ls, h0, X', hL, e1, e2, hQ, st⟩ := h T hT Xs
  exact ⟨v, st₀, t, T', Ls, h0, X', hL, e1, e2, hq _ _ _ hQ, st⟩
/-- a call of the class's method out of the law -/
theorem crLP (C : Cx X own cc ret) (hX : xK X = kL) (hg1 : (xG X).2.2.2.2.1 = []) (hg2 : (xG X).2.2.2.2.2.1 = []) {y : MethodName} {cy : ByteArray} {ny n idx : Nat} {rety : Option FieldType} {rm : Room} {MP' : Mem} {r : Option AV} {rest : List AV} (as : List AV) (hd : decode cc pc = .ok (.invokevirtual idx, 3)) (hw : Cond.methodLink own idx y ∈ wsT) (hy : Cal y cy ny rety n) (hv : CalV y RX11) (hR : RmOk (xR X) rm ny) (hn : as.length = n) (hs : catS rest ≤ 8) (hMR : OkM MR) (hc : ∀ ba, Ct (xl X) (gP (xG X) ba MR) kP y (wsM y cy ny rety) rm (aR 0 :: as) MP r MP') : CRun X (mix MP MR) pc (as.reverse ++ aR 0 :: rest) rest r (mix MP' MR) rm.cells rm.slots := by
  intro ba H locs ls cells slots h1 h2 hls hP hD hSS
  rw [hX] at hP hD
  rw [wsL_eq hg1 hg2, ← wsP_eq (ba := ba)] at hP hD
  have hts := C.2.2.2.2.1
  have hE := C.2.2.2.2.2.1
  obtain ⟨q, hq, -⟩ := wsl_at (G := gP (xG X) ba MR) kP_ok ba MP (id := 0) (by decide)
  rw [cellE_o (show kP.2.2 0 = .inr (11, _) from rfl)] at hq
  have hrun := va_runV (H := H) (locs := locs) (cells := cells) (slots := slots) (below := xb X) (e := xe X) (meth := xt X) (R := xR X) (rest := cS (gd (xG X)) ba rest) (b := gd (xG X) 0) (g := F0 (xm X) pc ls (cS (gd (xG X)) ba (as.reverse ++ aR 0 :: rest))) (As := cS (gd (xG X)) ba as) ⟨C.1, C.2.1, C.2.2.1, C.2.2.2.1, hts⟩ (hc ba ba) ⟨callB_of n hts (wsM_good (fun _ h => h) hy.1) rfl rfl rfl (hts _ hy.2.1) (hts _ hw) hy.2.2 hR, hts _ hv.1, hts _ hv.2⟩ ⟨Pp.blind, va_recv hE.1 hP kX11.1 hq, fun U hU hW => ⟨rfl, by rw [hU]; exact (hE.kept hSS).warm hW, by rw [hU]; exact hP, hD⟩⟩ rfl (by rw [List.length_map]; exact hn) hls (by
    show cS (gd (xG X)) ba (as.reverse ++ aR 0 :: rest) = _
    simp only [cS, List.map_append, List.map_reverse, List.map_cons]
    rfl) (lv_room (by rw [catS_eq]; exact hs)) hd ⟨h1, h2⟩
  refine ⟨(Value.ref (gd (xG X) 0) :: cS (gd (xG X)) ba as).toArray, run_mono hrun (fun st o t hQ => ?_)⟩
  obtain ⟨⟨ba', hz, ho, hok, hM', hP', hD'⟩, hF⟩ := hQ
  refine ⟨⟨ba', hz, ho, hok, okM_mix hM' hMR, ?_, ?_⟩, hF⟩
  · rw [hX, wsL_eq hg1 hg2, Rl_ba (ba' := ba), ← wsP_eq]
    exact hP'
  · rw [hX, wsL_eq hg1 hg2, Rl_ba (ba' := ba), ← wsP_eq]
    exact hD'
/-- a call of the reference's method out of the law -/
theorem crLR (C : Cx X own cc ret) (hX : xK X = kL) (hg1 : (xG X).2.2.2.2.1 = []) (hg2 : (xG X).2.2.2.2.2.1 = []) {y : MethodName} {cy : ByteArray} {ny n idx : Nat} {rety : Option FieldType} {rm : Room} {MR' : Mem} {r : Int} {rest : List AV} (as : List AV) (hai : as.all (fun v => match v with | .inl _ => true | _ => false) = true) (hd : decode cc pc = .ok (.invokevirtual idx, 3)) (hw : Cond.methodLink own idx y ∈ wsT) (hy : Cal y cy ny rety n) (hv : CalV y RX12) (hR : RmOk (xR X) rm ny) (hn : as.length = n) (hs : catS rest ≤ 8) (hMP : OkM MP) (hz0 : rm.cells = 0) (hc : ∀ ba, Ct (xl X) (gR (xG X) ba MP) kR y (wsM y cy ny rety) rm (aR 0 :: as) MR (some (aI r)) MR') : CRun X (mix MP MR) pc (as.reverse ++ aR 1000 :: rest) rest (some (aI r)) (mix MP MR') rm.cells rm.slots := by
  intro ba H locs ls cells slots h1 h2 hls hP hD hSS
  rw [hX] at hP hD
  rw [wsL_eq hg1 hg2, ← wsR_eq (ba := ba)] at hP hD
  have hts := C.2.2.2.2.1
  have hE := C.2.2.2.2.2.1
  have hER : ∀ U H, Ev (xG X) U H → Ev (gR (xG X) ba MP) U H := fun U H h => Ev_gR h
  have eas : cS (gd (gR (xG X) ba MP)) ba as = cS (gd (xG X)) ba as := by
    apply List.map_congr_left
    intro v hv'
    have := List.all_eq_true.mp hai v hv'
    match v, this with
    | .inl z, _ => rfl
  have e0 : gd (gR (xG X) ba MP) 0 = gd (xG X) 1000 := rfl
  obtain ⟨q, hq, -⟩ := wsl_at (G := gR (xG X) ba MP) kR_ok ba MR (id := 0) (by decide)
  rw [cellE_o (show kR.2.2 0 = .inr (12, _) from rfl)] at hq
  have hrun := va_runV (H := H) (locs := locs) (cells := cells) (slots := slots) (below := xb X) (e := xe X) (meth := xt X) (R := xR X) (rest := cS (gd (xG X)) ba rest) (b := gd (xG X) 1000) (g := F0 (xm X) pc ls (cS (gd (xG X)) ba (as.reverse ++ aR 1000 :: rest))) (As := cS (gd (xG X)) ba as) ⟨C.1, C.2.1, C.2.2.1, C.2.2.2.1, hts⟩ (hc ba ba) ⟨callB_of n hts (wsM_good (fun _ h => h) hy.1) rfl rfl rfl (hts _ hy.2.1) (hts _ hw) hy.2.2 hR, hts _ hv.1, hts _ hv.2⟩ ⟨Pp.blind, va_recv hE.1 hP kX12.1 hq, fun U hU hW => ⟨by
      show (Value.ref (gd (xG X) 1000) :: cS (gd (xG X)) ba as).toArray = (cS (gd (gR (xG X) ba MP)) ba (aR 0 :: as)).toArray
      rw [← eas]; rfl, by rw [hU]; exact hER _ _ ((hE.kept hSS).warm hW), by rw [hU]; exact hP, hD⟩⟩ rfl (by rw [List.length_map]; exact hn) hls (by
    show cS (gd (xG X)) ba (as.reverse ++ aR 1000 :: rest) = _
    simp only [cS, List.map_append, List.map_reverse, List.map_cons]
    rfl) (lv_room (by rw [catS_eq]; exact hs)) hd ⟨h1, h2⟩
  refine ⟨(Value.ref (gd (xG X) 1000) :: cS (gd (xG X)) ba as).toArray, run_mono hrun (fun st o t hQ => ?_)⟩
  obtain ⟨⟨ba', hz, ho, hok, hM', hP', hD'⟩, hF⟩ := hQ
  have hbb := hz hz0
  subst hbb
  refine ⟨⟨ba', fun _ => rfl, ho, hok, okM_mix hMP hM', ?_, ?_⟩, hF⟩
  · rw [hX, wsL_eq hg1 hg2, ← wsR_eq (ba := ba')]
    exact hP'
  · rw [hX, wsL_eq hg1 hg2, ← wsR_eq (ba := ba')]
    exact hD'
/-- the script -/
def xz (xs : Nat → Int32) (x : Int) : Int := (xs x.toNat).toInt
def rdX {α : Type} (xs : Nat → Int32) (Ln : Nat) (x : Int) (k : Int → Option α) : Option α := if 0 ≤ x ∧ x < Ln then k (xz xs x) else none
def Scr (X : Xc) (Ln : Nat) (xs : Nat → Int32) : Prop := va_X (gd (xG X) 9999) Ln xs (X.2.2.2.2.1) (X.2.2.2.2.1).heap ∧ gd (xG X) 9999 < (X.2.2.2.2.1).heap.size ∧ gb (xG X) = (X.2.2.2.2.1).heap.size
theorem i_scr (C : Cx X own cc ret) {Ln : Nat} {xs : Nat → Int32} {f : Int → Option ρ} (hs : Scr X Ln xs) (hd : Dc cc pc .iaload 1 pc') (k : ∀ v, Im X kc ks pc' L (aI v :: st) M res (f v)) : Im X kc ks pc L (aI x :: aR 9999 :: st) M res (rdX xs Ln x f) := by
  intro hF hM hL hS ba hba H locs ls cells slots h1 h2 hls hP hD hSS
  obtain ⟨hd, rfl⟩ := hd
  unfold rdX at hF
  by_cases hb : 0 ≤ x ∧ x < Ln
  · rw [if_pos hb] at hF
    refine va_sld C.1 C.2.1 hs.1 hs.2.1 (by show ¬ gb (xG X) ≤ _; rw [hs.2.2]; exact Nat.not_le.mpr hs.2.1) hSS (inB_in hS.1 hb) hd ?_
    rw [inB_ix hS.1 hb.1, ← Int32.ofInt_toInt (xs x.toNat)]
    exact k _ hF hM hL ⟨ti_r _, hS.2.2⟩ ba hba H locs ls cells slots h1 h2 hls hP hD hSS
  · rw [if_neg hb] at hF; cases hF
theorem i_scrl (C : Cx X own cc ret) {Ln : Nat} {xs : Nat → Int32} (hs : Scr X Ln xs) (hr : R32 (Ln : Int)) (hd : Dc cc pc .arraylength 1 pc') (k : Im X kc ks pc' L (aI (Ln : Int) :: st) M res F) : Im X kc ks pc L (aR 9999 :: st) M res F := by
  intro hF hM hL hS ba hba H locs ls cells slots h1 h2 hls hP hD hSS
  obtain ⟨hd, rfl⟩ := hd
  refine va_slen C.1 C.2.1 hs.1 hs.2.1 (by show ¬ gb (xG X) ≤ _; rw [hs.2.2]; exact Nat.not_le.mpr hs.2.1) hSS hd ?_
  rw [← Int32.ofInt_eq_ofNat]
  exact k hF hM hL ⟨hr, hS.2⟩ ba hba H locs ls cells slots h1 h2 hls hP hD hSS
end LawRows
