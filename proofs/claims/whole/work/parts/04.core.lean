/-! The state of both programs as one memory: cell number, place, whole number. -/
abbrev Mem : Type := Nat → Int → Int
def OkM (M : Mem) : Prop := ∀ k i, R32 (M k i)
def upM (M : Mem) (k : Nat) (i v : Int) : Mem := fun a j => if a = k ∧ j = i then v else M a j
theorem upM_at {M : Mem} {k : Nat} {i v : Int} : upM M k i v k i = v := if_pos ⟨rfl, rfl⟩
theorem upM_ne {M : Mem} {k a : Nat} {i j v : Int} (h : ¬ (a = k ∧ j = i)) : upM M k i v a j = M a j := if_neg h
theorem upM_nk {M : Mem} {k a : Nat} {i v : Int} (h : a ≠ k) (j : Int) : upM M k i v a j = M a j := if_neg fun q => h q.1
theorem OkM.up {M : Mem} {k : Nat} {i v : Int} (h : OkM M) (hv : R32 v) : OkM (upM M k i v) := by
  intro a j
  unfold upM
  split
  · exact hv
  · exact h a j
/-- a value: an int, a long, the cell of a number, the row of pairs of a city -/
abbrev AV : Type := Int ⊕ Int ⊕ Nat ⊕ Nat ⊕ Option Nat
abbrev aI (z : Int) : AV := Sum.inl z
abbrev aL (z : Int) : AV := Sum.inr (Sum.inl z)
abbrev aR (n : Nat) : AV := Sum.inr (Sum.inr (Sum.inl n))
abbrev aB (n : Nat) : AV := Sum.inr (Sum.inr (Sum.inr (Sum.inl n)))
abbrev aX (o : Option Nat) : AV := Sum.inr (Sum.inr (Sum.inr (Sum.inr o)))
def cv (ad ba : Nat → Nat) : AV → Value
  | .inl z => .int (Int32.ofInt z)
  | .inr (.inl z) => .long (Int64.ofInt z)
  | .inr (.inr (.inl n)) => .ref (ad n)
  | .inr (.inr (.inr (.inl n))) => .ref (ba n)
  | .inr (.inr (.inr (.inr o))) => va_rf o
def okV : AV → Prop
  | .inl z => R32 z
  | .inr (.inl z) => R64 z
  | _ => True
def okS : List AV → Prop
  | [] => True
  | v :: r => okV v ∧ okS r
def okL : List (Nat × AV) → Prop
  | [] => True
  | q :: r => okV q.2 ∧ okL r
theorem okL_at : ∀ {L : List (Nat × AV)} {k i : Nat} {v : AV}, okL L → L[k]? = some (i, v) → okV v
  | q :: r, 0, i, v, h, e => by cases e; exact h.1
  | q :: r, k + 1, i, v, h, e => okL_at (L := r) h.2 e
  | [], k, i, v, h, e => by simp at e
theorem okL_sub {L : List (Nat × AV)} (h : okL L) : ∀ {ks : List Nat} {L' : List (Nat × AV)}, ks.filterMap (fun k => L[k]?) = L' → okL L'
  | [], L', e => by cases e; trivial
  | k :: ks, L', e => by
    simp only [List.filterMap_cons] at e
    split at e
    · exact okL_sub h e
    · rename_i q hq
      subst e
      exact ⟨okL_at (i := q.1) h hq, okL_sub h rfl⟩
def isB : AV → Bool
  | .inr (.inr (.inr (.inl _))) => true
  | _ => false
theorem cv_ba {ad ba ba' : Nat → Nat} : ∀ {v : AV}, isB v = false → cv ad ba v = cv ad ba' v
  | .inl _, _ => rfl
  | .inr (.inl _), _ => rfl
  | .inr (.inr (.inl _)), _ => rfl
  | .inr (.inr (.inr (.inl _))), h => by cases h
  | .inr (.inr (.inr (.inr _))), _ => rfl
abbrev cS (ad ba : Nat → Nat) (st : List AV) : List Value := st.map (cv ad ba)
abbrev cL (ad ba : Nat → Nat) (L : List (Nat × AV)) : List (Nat × Value) := L.map fun q => (q.1, cv ad ba q.2)
theorem cS_ba {ad ba ba' : Nat → Nat} {st : List AV} (h : st.all (fun v => !isB v) = true) : cS ad ba st = cS ad ba' st := by
  apply List.map_congr_left
  intro v hv
  have := List.all_eq_true.mp h v hv
  exact cv_ba (by simpa using this)
theorem cL_ba {ad ba ba' : Nat → Nat} {L : List (Nat × AV)} (h : L.all (fun q => !isB q.2) = true) : cL ad ba L = cL ad ba' L := by
  apply List.map_congr_left
  intro q hq
  have := List.all_eq_true.mp h q hq
  rw [cv_ba (by simpa using this)]
/-- what a cell is: a row of n ints, or an object of a class with fields: a cell's number, a city's row of pairs, an int -/
abbrev Shp : Type := Nat ⊕ (Nat × List (Nat ⊕ Nat ⊕ Unit))
abbrev fR (n : Nat) : Nat ⊕ Nat ⊕ Unit := Sum.inl n
abbrev fB (n : Nat) : Nat ⊕ Nat ⊕ Unit := Sum.inr (Sum.inl n)
abbrev fI : Nat ⊕ Nat ⊕ Unit := Sum.inr (Sum.inr ())
def fv1 (ad ba : Nat → Nat) (M : Mem) (id j : Nat) : Nat ⊕ Nat ⊕ Unit → Value
  | .inl i => .ref (ad i)
  | .inr (.inl b) => .ref (ba b)
  | .inr (.inr _) => .int (Int32.ofInt (M id j))
def fldV (ad ba : Nat → Nat) (M : Mem) (id : Nat) : Nat → List (Nat ⊕ Nat ⊕ Unit) → List Value
  | _, [] => []
  | j, t :: r => fv1 ad ba M id j t :: fldV ad ba M id (j + 1) r
theorem fldV_get {ad ba : Nat → Nat} {M : Mem} {id : Nat} : ∀ {fl : List (Nat ⊕ Nat ⊕ Unit)} {j k : Nat} {t : Nat ⊕ Nat ⊕ Unit}, fl[k]? = some t → (fldV ad ba M id j fl)[k]? = some (fv1 ad ba M id (j + k) t)
  | [], j, k, t, h => by simp at h
  | a :: r, j, 0, t, h => by cases h; rfl
  | a :: r, j, k + 1, t, h => by
    have := fldV_get (ad := ad) (ba := ba) (M := M) (id := id) (fl := r) (j := j + 1) (k := k) (t := t) h
    rw [show j + 1 + k = j + (k + 1) by omega] at this
    exact this
theorem fldV_len {ad ba : Nat → Nat} {M : Mem} {id : Nat} : ∀ {fl : List (Nat ⊕ Nat ⊕ Unit)} {j : Nat}, (fldV ad ba M id j fl).length = fl.length
  | [], j => rfl
  | a :: r, j => by simp [fldV, fldV_len (fl := r) (j := j + 1)]
theorem fldV_set {ad ba : Nat → Nat} {M : Mem} {id : Nat} {v : Int} : ∀ {fl : List (Nat ⊕ Nat ⊕ Unit)} {j k : Nat}, fl[k]? = some fI → (fldV ad ba M id j fl).set k (.int (Int32.ofInt v)) = fldV ad ba (upM M id ((j + k : Nat) : Int) v) id j fl
  | [], j, k, h => by simp at h
  | a :: r, j, 0, h => by
    cases h
    have aux : ∀ (r : List (Nat ⊕ Nat ⊕ Unit)) (n : Nat), j < n → fldV ad ba M id n r = fldV ad ba (upM M id ((j + 0 : Nat) : Int) v) id n r := by
      intro r
      induction r with
      | nil => intro n _; rfl
      | cons t r ih =>
        intro n hn
        show fv1 ad ba M id n t :: _ = fv1 ad ba _ id n t :: _
        rw [ih (n + 1) (by omega)]
        congr 1
        match t with
        | .inl _ => rfl
        | .inr (.inl _) => rfl
        | .inr (.inr _) =>
          show Value.int _ = Value.int _
          rw [upM_ne (by omega)]
    show Value.int (Int32.ofInt v) :: fldV ad ba M id (j + 1) r = Value.int (Int32.ofInt (upM M id ((j + 0 : Nat) : Int) v id j)) :: fldV ad ba _ id (j + 1) r
    rw [← aux r (j + 1) (by omega)]
    congr 3
    show v = upM M id ((j + 0 : Nat) : Int) v id j
    rw [Nat.add_zero, upM_at]
  | a :: r, j, k + 1, h => by
    have := fldV_set (ad := ad) (ba := ba) (M := M) (id := id) (v := v) (fl := r) (j := j + 1) (k := k) h
    rw [show j + 1 + k = j + (k + 1) by omega] at this
    show fv1 ad ba M id j a :: (fldV ad ba M id (j + 1) r).set k _ = fv1 ad ba _ id j a :: _
    rw [this]
    congr 1
    match a with
    | .inl _ => rfl
    | .inr (.inl _) => rfl
    | .inr (.inr _) =>
      show Value.int _ = Value.int _
      rw [upM_ne (by omega)]
theorem fldV_nk {ad ba : Nat → Nat} {M M' : Mem} {id : Nat} (h : ∀ i, M' id i = M id i) : ∀ {fl : List (Nat ⊕ Nat ⊕ Unit)} {j : Nat}, fldV ad ba M' id j fl = fldV ad ba M id j fl
  | [], j => rfl
  | a :: r, j => by
    show fv1 ad ba M' id j a :: _ = fv1 ad ba M id j a :: _
    rw [fldV_nk h (fl := r)]
    congr 1
    match a with
    | .inl _ => rfl
    | .inr (.inl _) => rfl
    | .inr (.inr _) => show Value.int _ = Value.int _; rw [h]
