/-! Kinship: the reference, all pairs. -/
/-- a row of 400 as a table -/
def tb2 (R : Mem) (x y : Int) : Int := R 7 (20 * x + y)
def ph (K : Int → Int → Int) (k x y : Int) : Int := if K x y < K x k + K k y then K x y else K x k + K k y
/-- what holds of the table: n persons, ties of kin below i are met -/
def Tk (s : Int → Int) (i : Int) (K : Int → Int → Int) : Prop := (∀ x, 0 ≤ x → x < s 2 → K x x = 0) ∧ (∀ x y, 0 ≤ x → x < s 2 → 0 ≤ y → y < s 2 → 0 ≤ K x y ∧ K x y ≤ 1000) ∧ (∀ a c w, Ed s i a c w → K a c ≤ w) ∧ (∀ x y, 0 ≤ x → x < s 2 → 0 ≤ y → y < s 2 → ¬ x = y → K x y < 1000 → ∃ z w, Ed s (s 3) z y w ∧ K x z + w ≤ K x y)
def Tr (s : Int → Int) (k : Int) (K : Int → Int → Int) : Prop := ∀ x y j, 0 ≤ x → x < s 2 → 0 ≤ y → y < s 2 → 0 ≤ j → j < k → K x y ≤ K x j + K j y
theorem ph_le {K : Int → Int → Int} {k x y : Int} : ph K k x y ≤ K x y ∧ ph K k x y ≤ K x k + K k y := by
  unfold ph
  split <;> omega
theorem ph_or {K : Int → Int → Int} {k x y : Int} : ph K k x y = K x y ∨ (ph K k x y = K x k + K k y ∧ K x k + K k y ≤ K x y) := by
  unfold ph
  split <;> omega
theorem Tk.ph {s : Int → Int} {K : Int → Int → Int} {k : Int} (h : Tk s (s 3) K) (hb : EdB s) (k0 : 0 ≤ k) (k1 : k < s 2) : Tk s (s 3) (ph K k) := by
  obtain ⟨h1, h2, h3, h4⟩ := h
  refine ⟨fun x x0 x1 => ?_, fun x y x0 x1 y0 y1 => ?_, fun a c w e => ?_, fun x y x0 x1 y0 y1 xy lt => ?_⟩
  · have := h2 x k x0 x1 k0 k1
    have := h2 k x k0 k1 x0 x1
    have := h1 x x0 x1
    rcases ph_or (K := K) (k := k) (x := x) (y := x) with e | e <;> omega
  · have := h2 x k x0 x1 k0 k1
    have := h2 k y k0 k1 y0 y1
    have := h2 x y x0 x1 y0 y1
    rcases ph_or (K := K) (k := k) (x := x) (y := y) with e | e <;> omega
  · have := h3 a c w e
    have := ph_le (K := K) (k := k) (x := a) (y := c)
    omega
  · rcases ph_or (K := K) (k := k) (x := x) (y := y) with e | ⟨e, e2⟩
    · rw [e] at lt ⊢
      obtain ⟨z, w, q1, q2⟩ := h4 x y x0 x1 y0 y1 xy lt
      exact ⟨z, w, q1, by have := ph_le (K := K) (k := k) (x := x) (y := z); omega⟩
    · have a1 := h2 x k x0 x1 k0 k1
      by_cases ky : k = y
      · subst ky
        have := h1 k k0 k1
        obtain ⟨z, w, q1, q2⟩ := h4 x k x0 x1 k0 k1 xy (by omega)
        exact ⟨z, w, q1, by have := ph_le (K := K) (k := k) (x := x) (y := z); omega⟩
      · obtain ⟨z, w, q1, q2⟩ := h4 k y k0 k1 y0 y1 ky (by omega)
        exact ⟨z, w, q1, by have := ph_le (K := K) (k := k) (x := x) (y := z); omega⟩
theorem Tr.ph {s : Int → Int} {K : Int → Int → Int} {k : Int} (h : Tk s (s 3) K) (hr : Tr s k K) (k0 : 0 ≤ k) (k1 : k < s 2) : Tr s (k + 1) (ph K k) := by
  obtain ⟨h1, h2, h3, h4⟩ := h
  intro x y j x0 x1 y0 y1 j0 j1
  have hk := h1 k k0 k1
  have a1 := h2 x k x0 x1 k0 k1
  have a2 := h2 k y k0 k1 y0 y1
  have le := ph_le (K := K) (k := k) (x := x) (y := y)
  by_cases e : j = k
  · subst e
    rcases ph_or (K := K) (k := j) (x := x) (y := j) with e | ⟨e, e2⟩ <;> rcases ph_or (K := K) (k := j) (x := j) (y := y) with g | ⟨g, g2⟩ <;> omega
  · have b1 := h2 k j k0 k1 j0 (by omega)
    have b2 := h2 j k j0 (by omega) k0 k1
    have c1 := hr x y j x0 x1 y0 y1 j0 (by omega)
    have c2 := hr k y j k0 k1 y0 y1 j0 (by omega)
    have c3 := hr x k j x0 x1 k0 k1 j0 (by omega)
    rcases ph_or (K := K) (k := k) (x := x) (y := j) with e | ⟨e, e2⟩ <;> rcases ph_or (K := K) (k := k) (x := j) (y := y) with g | ⟨g, g2⟩ <;> omega
theorem ph_k {s : Int → Int} {K : Int → Int → Int} {k x : Int} (h : Tk s (s 3) K) (k0 : 0 ≤ k) (k1 : k < s 2) : ph K k x k = K x k ∧ ph K k k x = K k x := by
  have hk := h.1 k k0 k1
  unfold ph
  rw [hk]
  refine ⟨?_, ?_⟩
  · split <;> omega
  · split <;> omega
theorem kn_of {s : Int → Int} {K : Int → Int → Int} {p : Int} (h : Tk s (s 3) K) (hr : Tr s (s 2) K) (hb : EdB s) (p0 : 0 ≤ p) (p1 : p < s 2) : Kn s p (fun x => if K p x < 10 then K p x else 10) := by
  obtain ⟨h1, h2, h3, h4⟩ := h
  refine ⟨by dsimp only; rw [h1 p p0 p1]; rfl, fun x x0 x1 => ?_, fun a c w e => ?_, fun x x0 x1 xp lt => ?_⟩
  · have := h2 p x p0 p1 x0 x1
    dsimp only
    split <;> omega
  · obtain ⟨b1, b2, b3, b4, b5, b6⟩ := hb a c w e
    have t := hr p c a p0 p1 b3 b4 b1 b2
    have := h3 a c w e
    dsimp only
    split <;> split <;> omega
  · dsimp only at lt ⊢
    have l2 : K p x < 10 := by
      by_cases q : K p x < 10
      · exact q
      · rw [if_neg q] at lt
        omega
    obtain ⟨z, w, q1, q2⟩ := h4 p x p0 p1 x0 x1 (fun q => xp q.symm) (by omega)
    refine ⟨z, w, q1, ?_⟩
    rw [if_pos l2]
    have := hb z x w q1
    have := h2 p z p0 p1 this.1 this.2.1
    split <;> omega
