/-! Kinship: what both sides find. -/
def Ed (s : Int → Int) (n a c w : Int) : Prop := ∃ i, 0 ≤ i ∧ i < n ∧ s (230 + 10 * i) = 5 ∧ (s (231 + 10 * i) = a ∧ s (232 + 10 * i) = c ∨ s (231 + 10 * i) = c ∧ s (232 + 10 * i) = a) ∧ s (233 + 10 * i) = w
theorem Ed.sy {s : Int → Int} {n a c w : Int} (h : Ed s n a c w) : Ed s n c a w := by
  obtain ⟨i, h1, h2, h3, h4, h5⟩ := h
  exact ⟨i, h1, h2, h3, by omega, h5⟩
theorem Ed.up {s : Int → Int} {n n2 a c w : Int} (h : Ed s n a c w) (hn : n ≤ n2) : Ed s n2 a c w := by
  obtain ⟨i, h1, h2, h3, h4, h5⟩ := h
  exact ⟨i, h1, by omega, h3, h4, h5⟩
/-- ties of kin are of persons, and their weights are 1 to 9 -/
def EdB (s : Int → Int) : Prop := ∀ a c w, Ed s (s 3) a c w → 0 ≤ a ∧ a < s 2 ∧ 0 ≤ c ∧ c < s 2 ∧ 1 ≤ w ∧ w ≤ 9
theorem Ed.bd {M : Mem} {b : Nat} {s : Int → Int} (h : gT (s 1) (s 2) M b s) : EdB s := by
  intro a c w hw
  obtain ⟨i, h1, h2, h3, h4, h5⟩ := hw
  obtain ⟨z1, z2, z3, ht⟩ := h
  obtain ⟨d1, d2, d3, d4, d5, d6, d7, d8, d9, d10, d11, d12, d13, d14, d15, d16, d17, d18, d19, d20, d21, _⟩ := ht i h1 h2
  have := d18 (by omega)
  have := d21 h3
  omega
def Kn (s : Int → Int) (p : Int) (f : Int → Int) : Prop := f p = 0 ∧ (∀ x, 0 ≤ x → x < s 2 → 0 ≤ f x ∧ f x ≤ 10) ∧ (∀ a c w, Ed s (s 3) a c w → f c ≤ f a + w) ∧ (∀ x, 0 ≤ x → x < s 2 → ¬ x = p → f x < 10 → ∃ y w, Ed s (s 3) y x w ∧ f y + w ≤ f x)
theorem Kn.le {s : Int → Int} {p : Int} {f g : Int → Int} (hb : EdB s) (hf : Kn s p f) (hg : Kn s p g) : ∀ (m : Nat) (x : Int), 0 ≤ x → x < s 2 → (g x).toNat ≤ m → f x ≤ g x
  | 0, x, x0, x1, hm => by
    obtain ⟨f1, f2, f3, f4⟩ := hf
    obtain ⟨g1, g2, g3, g4⟩ := hg
    by_cases e : x = p
    · rw [e]; omega
    · have := g2 x x0 x1
      obtain ⟨y, w, e1, e2⟩ := g4 x x0 x1 e (by omega)
      have b1 := hb y x w e1
      have := g2 y b1.1 b1.2.1
      omega
  | m + 1, x, x0, x1, hm => by
    obtain ⟨f1, f2, f3, f4⟩ := id hf
    obtain ⟨g1, g2, g3, g4⟩ := id hg
    by_cases e : x = p
    · rw [e]; omega
    · have := g2 x x0 x1
      by_cases z : g x < 10
      · obtain ⟨y, w, e1, e2⟩ := g4 x x0 x1 e z
        have b1 := hb y x w e1
        have := g2 y b1.1 b1.2.1
        have ih := Kn.le hb hf hg m y b1.1 b1.2.1 (by omega)
        have := f3 y x w e1
        omega
      · have := f2 x x0 x1
        omega
theorem Kn.uq {s : Int → Int} {p : Int} {f g : Int → Int} (hb : EdB s) (hf : Kn s p f) (hg : Kn s p g) {x : Int} (x0 : 0 ≤ x) (x1 : x < s 2) : f x = g x := by
  have a := Kn.le hb hf hg (g x).toNat x x0 x1 (Nat.le_refl _)
  have c := Kn.le hb hg hf (f x).toNat x x0 x1 (Nat.le_refl _)
  omega
/-- the class's row while it comes nearer: p's value, bounds, a witness for each value below 10 -/
def Wk (s : Int → Int) (p : Int) (f : Int → Int) : Prop := f p = 0 ∧ (∀ x, 0 ≤ x → x < s 2 → 0 ≤ f x ∧ f x ≤ 10) ∧ (∀ x, 0 ≤ x → x < s 2 → ¬ x = p → f x < 10 → ∃ y w, Ed s (s 3) y x w ∧ f y + w ≤ f x)
/-- settled up to k -/
def Sk (s : Int → Int) (k : Int) (f : Int → Int) : Prop := ∀ a c w, Ed s (s 3) a c w → f a + w ≤ k → f c ≤ f a + w
/-- one step at an edge keeps the witnesses -/
theorem Wk.st {s : Int → Int} {p : Int} {f g : Int → Int} {a c w : Int} (hb : EdB s) (h : Wk s p f) (e : Ed s (s 3) a c w) (lt : f a + w < f c) (gc : g c = f a + w) (go : ∀ x, ¬ x = c → g x = f x) : Wk s p g := by
  obtain ⟨h1, h2, h3⟩ := h
  obtain ⟨b1, b2, b3, b4, b5, b6⟩ := hb a c w e
  have fa := h2 a b1 b2
  have fc := h2 c b3 b4
  have cp : ¬ c = p := fun q => by rw [q] at lt; omega
  have le : ∀ x, g x ≤ f x := fun x => by
    by_cases q : x = c
    · rw [q, gc]; omega
    · rw [go x q]; omega
  refine ⟨by rw [go p (fun q => cp q.symm)]; exact h1, fun x x0 x1 => ?_, fun x x0 x1 xp xl => ?_⟩
  · by_cases q : x = c
    · rw [q, gc]; omega
    · rw [go x q]; exact h2 x x0 x1
  · by_cases q : x = c
    · subst q
      exact ⟨a, w, e, by have := le a; omega⟩
    · rw [go x q] at xl ⊢
      obtain ⟨y, w2, e1, e2⟩ := h3 x x0 x1 xp xl
      exact ⟨y, w2, e1, by have := le y; omega⟩
/-- in a round that began at f0, settled up to k: what has been passed (ties below i) -/
def Rd (s : Int → Int) (p k i r : Int) (f0 f : Int → Int) : Prop := Wk s p f ∧ (∀ x, 0 ≤ x → x < s 2 → f x ≤ f0 x ∧ (f0 x ≤ k → f x = f0 x) ∧ (f x ≤ k → f x = f0 x)) ∧ (∀ a c w, Ed s i a c w → f0 a ≤ k → f c ≤ f0 a + w) ∧ (r = 0 → ∀ x, 0 ≤ x → x < s 2 → f x = f0 x) ∧ (r = 0 → ∀ a c w, Ed s i a c w → f c ≤ f a + w)
