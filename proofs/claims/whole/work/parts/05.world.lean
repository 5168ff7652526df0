/-! The world's list of cells, out of the memory. -/
def cellE (cA : ClassId) (ad ba : Nat → Nat) (M : Mem) (id : Nat) (sh : Shp) : va_E := match sh with
  | .inl n => .inl (cA, n, .inl fun j => Int32.ofInt (M id (j : Int)))
  | .inr q => .inr (q.1, fldV ad ba M id 0 q.2)
def cellB (cA : ClassId) (M : Mem) (b : Nat) : va_E := .inl (cA, (M (b + 63) (-1)).toNat, .inl fun j => Int32.ofInt (M (b + 63) (j : Int)))
/-- D, the class of int rows, addresses, where the law's cells begin, cells ahead, cells behind, addresses of texts' bytes -/
abbrev Gx : Type := va_G × ClassId × (Nat → Nat) × Nat × va_W × va_W × (Nat → Nat)
abbrev gD (G : Gx) : va_G := G.1
abbrev gA (G : Gx) : ClassId := G.2.1
abbrev gd (G : Gx) : Nat → Nat := G.2.2.1
abbrev gb (G : Gx) : Nat := G.2.2.2.1
abbrev gV (G : Gx) : Nat → Nat := G.2.2.2.2.2.2
abbrev gF (G : Gx) : Nat → Prop := fun q => gb G ≤ q
/-- which cells, which cities have a row of pairs, what each cell is -/
abbrev Kx : Type := List Nat × List Nat × (Nat → Shp)
def wsl (G : Gx) (K : Kx) (ba : Nat → Nat) (M : Mem) : va_W :=
  G.2.2.2.2.1 ++ ((K.1.map fun id => (gd G id, cellE (gA G) (gd G) ba M id (K.2.2 id))) ++ ((K.2.1.map fun b => (ba b, cellB (gA G) M b)) ++ G.2.2.2.2.2.1))
def KOk (K : Kx) : Prop := K.1.Nodup ∧ K.2.1.Nodup ∧ ∀ b ∈ K.2.1, b + 63 ∉ K.1
theorem set_map {α β : Type} {f g : α → β} {a : α} : ∀ {l : List α} {i : Nat}, l[i]? = some a → l.Nodup → (∀ x ∈ l, x ≠ a → g x = f x) → (l.map f).set i (g a) = l.map g
  | [], i, h, _, _ => by simp at h
  | x :: l, 0, h, hn, hf => by
    cases h
    have hx : a ∉ l := (List.nodup_cons.mp hn).1
    show g a :: l.map f = g a :: l.map g
    congr 1
    apply List.map_congr_left
    intro y hy
    exact (hf y (List.mem_cons_of_mem _ hy) (fun e => hx (e ▸ hy))).symm
  | x :: l, i + 1, h, hn, hf => by
    have hx := List.nodup_cons.mp hn
    have ha : a ∈ l := List.mem_of_getElem? h
    show f x :: (l.map f).set i (g a) = g x :: l.map g
    rw [set_map (l := l) (i := i) h hx.2 (fun y hy => hf y (List.mem_cons_of_mem _ hy)), hf x List.mem_cons_self (fun e => hx.1 (e ▸ ha))]
theorem app_at {α : Type} {a b : List α} {i : Nat} {x : α} (h : b[i]? = some x) : (a ++ b)[a.length + i]? = some x := by
  rw [List.getElem?_append_right (by omega)]
  rw [show a.length + i - a.length = i by omega]
  exact h
theorem app_set {α : Type} {a b : List α} {i : Nat} {x : α} : (a ++ b).set (a.length + i) x = a ++ b.set i x := by
  rw [List.set_append_right _ _ (by omega)]
  rw [show a.length + i - a.length = i by omega]
theorem app_atl {α : Type} {a b : List α} {i : Nat} {x : α} (h : a[i]? = some x) : (a ++ b)[i]? = some x := by
  rw [List.getElem?_append_left (List.getElem?_eq_some_iff.mp h).1]
  exact h
theorem app_setl {α : Type} {a b : List α} {i : Nat} {x y : α} (h : a[i]? = some x) : (a ++ b).set i y = a.set i y ++ b := by
  rw [List.set_append_left _ _ (List.getElem?_eq_some_iff.mp h).1]
theorem wsl_at {G : Gx} {K : Kx} (hK : KOk K) (ba : Nat → Nat) (M : Mem) {id : Nat} (h : id ∈ K.1) : ∃ q : Nat, (wsl G K ba M)[q]? = some (gd G id, cellE (gA G) (gd G) ba M id (K.2.2 id)) ∧
    ∀ (M' : Mem), (∀ k, k ≠ id → ∀ i, M' k i = M k i) → (wsl G K ba M).set q (gd G id, cellE (gA G) (gd G) ba M' id (K.2.2 id)) = wsl G K ba M' := by
  obtain ⟨i, hi⟩ := List.getElem?_of_mem h
  have hm : (K.1.map fun id => (gd G id, cellE (gA G) (gd G) ba M id (K.2.2 id)))[i]? = some (gd G id, cellE (gA G) (gd G) ba M id (K.2.2 id)) := by rw [List.getElem?_map, hi]; rfl
  refine ⟨G.2.2.2.2.1.length + i, app_at (app_atl hm), fun M' hM => ?_⟩
  unfold wsl
  rw [app_set, app_setl hm]
  congr 2
  · refine set_map (f := fun id => (gd G id, cellE (gA G) (gd G) ba M id (K.2.2 id))) (g := fun id => (gd G id, cellE (gA G) (gd G) ba M' id (K.2.2 id))) hi hK.1 ?_
    intro x hx hne
    have e := hM x hne
    show (gd G x, _) = (gd G x, _)
    congr 1
    unfold cellE
    split
    · simp only [e]
    · rw [fldV_nk e]
  · congr 1
    apply List.map_congr_left
    intro b hb
    have e := hM (b + 63) (fun e => hK.2.2 b hb (e ▸ h))
    unfold cellB
    simp only [e]
theorem wsl_atB {G : Gx} {K : Kx} (hK : KOk K) (ba : Nat → Nat) (M : Mem) {b : Nat} (h : b ∈ K.2.1) : ∃ q : Nat, (wsl G K ba M)[q]? = some (ba b, cellB (gA G) M b) ∧
    ∀ (M' : Mem), (∀ k, k ≠ b + 63 → ∀ i, M' k i = M k i) → (wsl G K ba M).set q (ba b, cellB (gA G) M' b) = wsl G K ba M' := by
  obtain ⟨i, hi⟩ := List.getElem?_of_mem h
  have hm : (K.2.1.map fun b => (ba b, cellB (gA G) M b))[i]? = some (ba b, cellB (gA G) M b) := by rw [List.getElem?_map, hi]; rfl
  refine ⟨G.2.2.2.2.1.length + ((K.1.map fun id => (gd G id, cellE (gA G) (gd G) ba M id (K.2.2 id))).length + i), app_at (app_at (app_atl hm)), fun M' hM => ?_⟩
  unfold wsl
  rw [app_set, app_set, app_setl hm]
  congr 2
  · apply List.map_congr_left
    intro x hx
    have e := hM x (fun e => hK.2.2 b h (e ▸ hx))
    congr 1
    unfold cellE
    split
    · simp only [e]
    · rw [fldV_nk e]
  · congr 1
    refine set_map (f := fun b => (ba b, cellB (gA G) M b)) (g := fun b => (ba b, cellB (gA G) M' b)) hi hK.2.1 ?_
    intro x hx hne
    have e := hM (x + 63) (by omega)
    show (ba x, _) = (ba x, _)
    congr 1
    unfold cellB
    simp only [e]
