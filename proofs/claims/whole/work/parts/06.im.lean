/-! What holds around a method: the tables' words, nest mates, constant rows and texts. -/
def wsT : List Cond := lw_tbl.filter goodWord
theorem wsT_in {w : Cond} (h : w ∈ lw_tbl) (g : goodWord w = true) : w ∈ wsT := List.mem_filter.mpr ⟨h, g⟩
def wsM (y : MethodName) (cc : ByteArray) (n : Nat) (ret : Option FieldType) : List Cond := .code y cc n ret :: wsT
theorem wsM_good {Ts : List Cond} {y : MethodName} {cc : ByteArray} {n : Nat} {ret : Option FieldType} (hT : ∀ w ∈ wsT, w ∈ Ts) (h : Cond.code y cc n ret ∈ wsT) : GoodIn Ts (wsM y cc n ret) := by
  intro w hw
  have hw' : w ∈ wsT := by
    rcases List.mem_cons.mp hw with e | e
    · rw [e]; exact h
    · exact e
  exact ⟨hT w hw', good_of_word (List.mem_filter.mp hw').2⟩
def nestM : List (String × Nat × MethodName) := [("CutCity", 11, (⟨"CutCity$City", "<init>", "()V"⟩ : MethodName)), ("CutCity$City", 37, (⟨"CutCity$Persons", "<init>", "()V"⟩ : MethodName)), ("CutCity$City", 44, (⟨"CutCity$Ties", "<init>", "()V"⟩ : MethodName)), ("CutCity$City", 51, (⟨"CutCity$Post", "<init>", "()V"⟩ : MethodName)), ("CutCity$City", 58, (⟨"CutCity$Laws", "<init>", "()V"⟩ : MethodName)), ("CutCity$City", 65, (⟨"CutCity$Files", "<init>", "()V"⟩ : MethodName)), ("CutCity$City", 72, (⟨"CutCity$Feast", "<init>", "()V"⟩ : MethodName)), ("CutCity$City", 79, (⟨"CutCity$Clauses", "<init>", "()V"⟩ : MethodName)), ("CutCity", 28, (⟨"CutCity$Tape", "<init>", "()V"⟩ : MethodName)), ("CutCity", 35, (⟨"CutCity$Meters", "<init>", "()V"⟩ : MethodName)), ("CutCity", 42, (⟨"CutCity$Water", "<init>", "()V"⟩ : MethodName)), ("CutCity$Ties", 66, (⟨"CutCity", "within", "(III)Z"⟩ : MethodName)), ("CutCity$City", 232, (⟨"CutCity", "within", "(III)Z"⟩ : MethodName)), ("CutCity$Clauses", 43, (⟨"CutCity", "carryOver", "([I[I)V"⟩ : MethodName)), ("CutCity$City", 84, (⟨"CutCity", "carryOver", "([I[I)V"⟩ : MethodName)), ("CutCity$Persons", 46, (⟨"CutCity", "carryOver", "([I[I)V"⟩ : MethodName)), ("CutCity$Ties", 58, (⟨"CutCity", "carryOver", "([I[I)V"⟩ : MethodName)), ("CutCity$Post", 37, (⟨"CutCity", "carryOver", "([I[I)V"⟩ : MethodName)), ("CutCity$Laws", 43, (⟨"CutCity", "carryOver", "([I[I)V"⟩ : MethodName)), ("CutCity$Files", 34, (⟨"CutCity", "carryOver", "([I[I)V"⟩ : MethodName)), ("CutCity$Feast", 21, (⟨"CutCity", "carryOver", "([I[I)V"⟩ : MethodName))]
def nestF : List (String × Nat × String) := [("CutCity$Ties", 70, "ABOVE"), ("CutCity$Tape", 142, "TIGHT"), ("CutCity$Files", 44, "FIGURES")]
def stA : List (String × List Int) := [("ABOVE", [-1, 0, 0, 0, 3, 0, 5, 6]), ("FIGURES", [1, 10, 100, 1000]), ("TIGHT", [1, 2, 3, 3, 3, 4, 4, 5, 5, 6])]
def stS : List (Nat × String) := [(95, "cross"), (97, "carry"), (99, "halt"), (101, "house"), (103, "pay"), (105, "apkd"), (107, "wxa"), (109, "ish"), (111, "dfp"), (113, "n"), (140, "|&<=>+-*/")]
def sLen : List Nat := [5, 5, 4, 5, 3, 4, 3, 3, 3, 1, 9]
def sByt : List (List Int32) := [[99, 114, 111, 115, 115], [99, 97, 114, 114, 121], [104, 97, 108, 116], [104, 111, 117, 115, 101], [112, 97, 121], [97, 112, 107, 100], [119, 120, 97], [105, 115, 104], [100, 102, 112], [110], [124, 38, 60, 61, 62, 43, 45, 42, 47]]
def stat (G : Gx) (U : State) (H : Heap) : Prop :=
  (∀ (k : Nat) (q : String × List Int), stA[k]? = some q → va_Z "CutCity" q.1 "[I" (.ref (gd G (9500 + k))) (gF G) U H ∧ va_T .int (gd G (9500 + k)) q.2.length (fun j => .int (Int32.ofInt (q.2.getD j 0))) (gF G) U H) ∧
  vk_S 11 sLen sByt (fun k => gd G (9000 + k)) (fun k => gd G (9200 + k)) (gF G) U H ∧
  (∀ (k : Nat) (q : Nat × String), stS[k]? = some q → vk_R "CutCity$Tape" q.1 q.2 (gd G (9000 + k)) U) ∧
  va_Z "java/lang/String" "COMPACT_STRINGS" "Z" (.int 1) (gF G) U H ∧ va_Zq "jdk/internal/util/Preconditions" "SIOOBE_FORMATTER" "Ljava/util/function/BiFunction;" (gF G) U H
theorem stat.kept {G : Gx} {U : State} {H H1 : Heap} (h : stat G U H) (hq : ∀ a : Nat, a < H.size → ¬ gF G a → H1[a]? = H[a]?) : stat G U H1 :=
  ⟨fun k q e => ⟨(h.1 k q e).1.kept hq, (h.1 k q e).2.kept hq⟩, h.2.1.kept hq, h.2.2.1, h.2.2.2.1.kept hq, h.2.2.2.2.kept hq⟩
theorem stat.warm {G : Gx} {s U : State} {H : Heap} (hW : s.WarmedH U.vm) (h : stat G s H) : stat G U H :=
  ⟨fun k q e => ⟨(h.1 k q e).1.moved hW.alike, (h.1 k q e).2.moved hW.alike⟩, h.2.1.moved hW.alike, fun k q e => (h.2.2.1 k q e).warm hW, h.2.2.2.1.moved hW.alike, h.2.2.2.2.moved hW.alike⟩
theorem stat.same {G : Gx} {u U : State} {H : Heap} (hv : U.vm = u.vm) (h : stat G u H) : stat G U H := by
  have ha : u.vm.Alike U.vm := by rw [hv]; exact Vm.Alike.refl _
  exact ⟨fun k q e => ⟨(h.1 k q e).1.moved ha, (h.1 k q e).2.moved ha⟩, h.2.1.moved ha, fun k q e => (h.2.2.1 k q e).same hv, h.2.2.2.1.moved ha, h.2.2.2.2.moved ha⟩
def Ev (G : Gx) (U : State) (H : Heap) : Prop := va_K (gD G) vwCl [(gA G, .int)] U ∧ (∀ q ∈ nestM, va_Nw (.methodLinkNest q.1 q.2.1 q.2.2 "CutCity") U) ∧ (∀ q ∈ nestF, va_Nw (.fieldLinkNest q.1 q.2.1 "CutCity" q.2.2 "[I" "CutCity") U) ∧ stat G U H ∧ gb G ≤ H.size
theorem Ev.warm {G : Gx} {s U : State} {H : Heap} (hW : s.WarmedH U.vm) (h : Ev G s H) : Ev G U H :=
  ⟨va_K.moved hW.alike h.1, fun q hq => (h.2.1 q hq).warmM hW, fun q hq => (h.2.2.1 q hq).warmF hW, h.2.2.2.1.warm hW, h.2.2.2.2⟩
theorem Ev.same {G : Gx} {u U : State} {H : Heap} (hv : U.vm = u.vm) (h : Ev G u H) : Ev G U H :=
  ⟨va_K.moved (by rw [hv]; exact Vm.Alike.refl _) h.1, fun q hq => (h.2.1 q hq).same rfl hv.symm, fun q hq => (h.2.2.1 q hq).same rfl hv.symm, h.2.2.2.1.same hv, h.2.2.2.2⟩
theorem Ev.kept {G : Gx} {U : State} {H H1 : Heap} {locs : List Loc} (h : Ev G U H) (hS : va_S (gF G) H H1 locs) : Ev G U H1 :=
  ⟨h.1, h.2.1, h.2.2.1, h.2.2.2.1.kept (fun a h1 h2 => hS.2.1 a h1 h2), Nat.le_trans h.2.2.2.2 hS.1⟩
/-- what a method is met with, and what it leaves -/
def Pp (G : Gx) (K : Kx) (ba : Nat → Nat) (as : List AV) (M : Mem) : Array Value → State → Prop := fun v U => v = (cS (gd G) ba as).toArray ∧ Ev G U U.heap ∧ va_P (gD G) vwCl (wsl G K ba M) U.heap ∧ va_D (gF G) (wsl G K ba M)
def Qp (G : Gx) (K : Kx) (z : Nat) (ba0 : Nat → Nat) (r : Option AV) (M' : Mem) : Array Value → State → Outcome → State → Prop := fun _ st o t => (∃ ba : Nat → Nat, (z = 0 → ba = ba0) ∧ o = .returned (r.map (cv (gd G) ba)) ∧ (∀ v, r = some v → okV v ∧ isB v = false) ∧ OkM M' ∧ va_P (gD G) vwCl (wsl G K ba M') t.heap ∧ va_D (gF G) (wsl G K ba M')) ∧ va_F (gF G) st t
def Ct (l : Launch) (G : Gx) (K : Kx) (y : MethodName) (ws : List Cond) (rm : Room) (as : List AV) (M : Mem) (r : Option AV) (M' : Mem) : Prop :=
  ∀ ba, Met l y ws rm (Pp G K ba as M) (Qp G K rm.cells ba r M') rm.cells rm.slots (gF G)
theorem Pp.blind {G : Gx} {K : Kx} {ba : Nat → Nat} {as : List AV} {M : Mem} : FrameBlind (Pp G K ba as M) := by
  intro a U g mk h
  exact ⟨h.1, h.2.1.same rfl, h.2.2.1, h.2.2.2⟩
abbrev Xc : Type := Program × Launch × Env × Room × State × MethodId × Array Value × List Frame × Method × Code × Gx × Kx × Nat × (State → Prop) × (Nat → Nat)
abbrev xp (X : Xc) : Program := X.1
abbrev xl (X : Xc) : Launch := X.2.1
abbrev xe (X : Xc) : Env := X.2.2.1
abbrev xR (X : Xc) : Room := X.2.2.2.1
abbrev xs (X : Xc) : State := X.2.2.2.2.1
abbrev xm (X : Xc) : MethodId := X.2.2.2.2.2.1
abbrev xa (X : Xc) : Array Value := X.2.2.2.2.2.2.1
abbrev xb (X : Xc) : List Frame := X.2.2.2.2.2.2.2.1
abbrev xt (X : Xc) : Method := X.2.2.2.2.2.2.2.2.1
abbrev xc (X : Xc) : Code := X.2.2.2.2.2.2.2.2.2.1
abbrev xG (X : Xc) : Gx := X.2.2.2.2.2.2.2.2.2.2.1
abbrev xK (X : Xc) : Kx := X.2.2.2.2.2.2.2.2.2.2.2.1
abbrev xn (X : Xc) : Nat := X.2.2.2.2.2.2.2.2.2.2.2.2.1
abbrev xQ (X : Xc) : State → Prop := X.2.2.2.2.2.2.2.2.2.2.2.2.2.1
abbrev xB (X : Xc) : Nat → Nat := X.2.2.2.2.2.2.2.2.2.2.2.2.2.2
abbrev Wx (X : Xc) (H : Heap) (locs : List Loc) (cells slots : Nat) (g : JFrame) : Prop := W (xp X) (xl X) (xe X) (xR X) (xs X) (xm X) (xa X) (xb X) (xt X) (xc X) H locs cells slots (xQ X) g
/-- from pc on, with these locals, this stack and this memory, the method does what F says, if F says something -/
def Im (X : Xc) (kc ks pc : Nat) (L : List (Nat × AV)) (st : List AV) (M : Mem) {ρ : Type} (res : ρ) (F : Option ρ) : Prop :=
  F = some res → OkM M → okL L → okS st → ∀ (ba : Nat → Nat), ((xR X).cells = 0 → ba = xB X) → ∀ (H : Heap) (locs : List Loc) (ls : Array Slot) (cells slots : Nat), cells + kc ≤ (xR X).cells → slots + ks ≤ (xR X).slots →
    lv_has ls (xn X) (cL (gd (xG X)) ba L) → va_P (gD (xG X)) vwCl (wsl (xG X) (xK X) ba M) H → va_D (gF (xG X)) (wsl (xG X) (xK X) ba M) → va_S (gF (xG X)) (xs X).heap H locs →
    Wx X H locs cells slots (F0 (xm X) pc ls (cS (gd (xG X)) ba st))
def Cx (X : Xc) (own : String) (cc : ByteArray) (ret : Option FieldType) : Prop := (xp X).tables.exec = Jvm.exec ∧ (xc X).code = cc ∧ (xc X).maxLocals = xn X ∧ (xs X).vm.findClass own = some (xm X).cls ∧ (∀ w ∈ wsT, w.before (xa X) (xs X) = true) ∧ Ev (xG X) (xs X) (xs X).heap ∧ KOk (xK X) ∧ (xt X).locks = false ∧ (xt X).sig.returnType = ret
def Rq (X : Xc) (r : Option AV) (M' : Mem) : Prop := xQ X = MQ (xb X) (Qp (xG X) (xK X) (xR X).cells (xB X) r M') (xa X) (xs X) (xR X).cells (xR X).slots (gF (xG X))
def Dc (cc : ByteArray) (pc : Nat) (i : Instr) (n pc' : Nat) : Prop := decode cc pc = .ok (i, n) ∧ pc + n = pc'
def lvA : Nat → List AV → List (Nat × AV)
  | _, [] => []
  | i, .inr (.inl z) :: r => (i, .inr (.inl z)) :: lvA (i + 2) r
  | i, v :: r => (i, v) :: lvA (i + 1) r
