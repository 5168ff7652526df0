/-! Texts that answer unlike: sums and first places, pure. -/
def ssum (h : Int → Int) : Nat → Int
  | 0 => 0
  | n + 1 => ssum h n + h n
theorem ssum_cg {f g : Int → Int} : ∀ {n : Nat}, (∀ i : Int, 0 ≤ i → i < n → f i = g i) → ssum f n = ssum g n
  | 0, _ => rfl
  | n + 1, h => by
    unfold ssum
    rw [h n (by omega) (by omega), ssum_cg (f := f) (g := g) (n := n) (fun i a b => h i a (by omega))]
theorem ssum_add {f : Int → Int} {n : Nat} : ∀ (m : Nat), ssum f (n + m) = ssum f n + ssum (fun i => f (n + i)) m
  | 0 => by rw [Nat.add_zero, ssum]; omega
  | m + 1 => by
    rw [← Nat.add_assoc, ssum, ssum, ssum_add m]
    have : ((n + m : Nat) : Int) = n + m := by omega
    rw [this]
    omega
theorem ssum_blk {f : Int → Int → Int} {c : Nat} (hc : 0 < c) : ∀ (n : Nat), ssum (fun i => f (i / c) (i % c)) (n * c) = ssum (fun q => ssum (f q) c) n
  | 0 => by rw [Nat.zero_mul]; rfl
  | n + 1 => by
    rw [Nat.succ_mul, ssum_add, ssum_blk hc n, ssum]
    congr 1
    refine ssum_cg fun i i0 i1 => ?_
    have e1 : ((n * c : Nat) : Int) + i = i + c * n := by
      rw [Int.natCast_mul, Int.mul_comm]
      omega
    have e2 : (((n * c : Nat) : Int) + i) / c = n := by rw [e1, Int.add_mul_ediv_left _ _ (by omega), Int.ediv_eq_zero_of_lt i0 i1]; omega
    have e3 : (((n * c : Nat) : Int) + i) % c = i := by rw [e1, Int.add_mul_emod_self_left, Int.emod_eq_of_lt i0 i1]
    try dsimp only
    rw [e2, e3]
theorem ssum_mul {f : Int → Int} {c : Int} : ∀ (n : Nat), ssum (fun i => c * f i) n = c * ssum f n
  | 0 => by unfold ssum; omega
  | n + 1 => by rw [ssum, ssum, ssum_mul n, Int.mul_add]
theorem ssum_same {f : Int → Int} {x : Int} : ∀ (n : Nat), (∀ i, f i = x) → ssum f n = n * x
  | 0, _ => by unfold ssum; omega
  | n + 1, h => by
    rw [ssum, ssum_same n h, h n, Int.natCast_add, Int.add_mul]
    omega
def b01 (c : Bool) : Int := if c then 1 else 0
theorem cz_sz {f : Int → Bool} : ∀ (n : Nat), cz f n = ssum (fun i => b01 (f i)) n
  | 0 => rfl
  | n + 1 => by
    rw [cz, ssum, cz_sz n]
    rfl
/-- three sums over one another -/
def t3 (D : Int → Int → Int → Bool) (A B K : Nat) : Int := ssum (fun a => ssum (fun p => ssum (fun k => b01 (D a p k)) K) B) A
theorem cz_t3 {D : Int → Int → Int → Bool} {A B K : Nat} (hB : 0 < B) (hK : 0 < K) : cz (fun i => D (i / K / B) (i / K % B) (i % K)) (A * B * K) = t3 D A B K := by
  rw [cz_sz]
  rw [ssum_blk (f := fun q k => b01 (D (q / B) (q % B) k)) hK (A * B)]
  rw [ssum_blk (f := fun a p => ssum (fun k => b01 (D a p k)) K) hB A]
  rfl
theorem ssum_st {f : Int → Int} {c n : Nat} (h : c = n ∨ (c = 1 ∧ ∀ i, f i = f 0)) (hc : 0 < n) : ssum f n = ((n / c : Nat) : Int) * ssum f c := by
  rcases h with h | ⟨h, hi⟩
  · rw [h, Nat.div_self hc]
    omega
  · have h1 : ssum f 1 = f 0 := Int.zero_add (f 0)
    rw [h, Nat.div_one, ssum_same n hi, h1]
theorem t3_eq {D : Int → Int → Int → Bool} {A B K : Nat} (hA : A = 100 ∨ (A = 1 ∧ ∀ a p k, D a p k = D 0 p k)) (hB : B = 4 ∨ (B = 1 ∧ ∀ a p k, D a p k = D a 0 k)) (hK : K = 10 ∨ (K = 1 ∧ ∀ a p k, D a p k = D a p 0)) : t3 D 100 4 10 = ((100 / A : Nat) : Int) * (((4 / B : Nat) : Int) * (((10 / K : Nat) : Int) * t3 D A B K)) := by
  unfold t3
  have s1 : ∀ a p, ssum (fun k => b01 (D a p k)) 10 = ((10 / K : Nat) : Int) * ssum (fun k => b01 (D a p k)) K := fun a p => ssum_st (by
    rcases hK with h | ⟨h, hi⟩
    · exact .inl h
    · exact .inr ⟨h, fun k => by rw [hi]⟩) (by omega)
  have s2 : ∀ a, ssum (fun p => ssum (fun k => b01 (D a p k)) 10) 4 = ((10 / K : Nat) : Int) * (((4 / B : Nat) : Int) * ssum (fun p => ssum (fun k => b01 (D a p k)) K) B) := fun a => by
    rw [ssum_cg (g := fun p => ((10 / K : Nat) : Int) * ssum (fun k => b01 (D a p k)) K) (fun p _ _ => s1 a p), ssum_mul]
    congr 1
    refine ssum_st ?_ (by omega)
    rcases hB with h | ⟨h, hi⟩
    · exact .inl h
    · exact .inr ⟨h, fun p => ssum_cg fun k _ _ => by rw [hi]⟩
  have s3 : ssum (fun a => ssum (fun p => ssum (fun k => b01 (D a p k)) 10) 4) 100 = ((10 / K : Nat) : Int) * (((4 / B : Nat) : Int) * (((100 / A : Nat) : Int) * ssum (fun a => ssum (fun p => ssum (fun k => b01 (D a p k)) K) B) A)) := by
    rw [ssum_cg (g := fun a => ((10 / K : Nat) : Int) * (((4 / B : Nat) : Int) * ssum (fun p => ssum (fun k => b01 (D a p k)) K) B)) (fun a _ _ => s2 a), ssum_mul, ssum_mul]
    refine congrArg (fun z => ((10 / K : Nat) : Int) * (((4 / B : Nat) : Int) * z)) ?_
    refine ssum_st ?_ (by omega)
    rcases hA with h | ⟨h, hi⟩
    · exact .inl h
    · exact .inr ⟨h, fun a => ssum_cg fun p _ _ => ssum_cg fun k _ _ => by rw [hi]⟩
  rw [s3]
  rw [Int.mul_left_comm ((100 / A : Nat) : Int), Int.mul_left_comm ((100 / A : Nat) : Int) ((10 / K : Nat) : Int), Int.mul_left_comm ((4 / B : Nat) : Int) ((10 / K : Nat) : Int)]
/-- the first place, -1 if none -/
def fi (F : Int → Bool) : Nat → Int
  | 0 => -1
  | n + 1 => if 0 ≤ fi F n then fi F n else if F n then n else -1
theorem fi_s {F : Int → Bool} {u : Int} (h : 0 ≤ u) : fi F (u + 1).toNat = if 0 ≤ fi F u.toNat then fi F u.toNat else if F u then u else -1 := by
  have z1 : (u + 1).toNat = u.toNat + 1 := by omega
  have z2 : ((u.toNat : Nat) : Int) = u := by omega
  rw [z1, fi, z2]
theorem fi_pr {F : Int → Bool} : ∀ (n : Nat), (fi F n = -1 ∧ cz F n = 0 ∧ ∀ j : Int, 0 ≤ j → j < n → F j = false) ∨ (0 ≤ fi F n ∧ 1 ≤ cz F n ∧ fi F n < n ∧ F (fi F n) = true ∧ ∀ j, 0 ≤ j → j < fi F n → F j = false)
  | 0 => .inl ⟨rfl, rfl, fun j j0 j1 => by omega⟩
  | n + 1 => by
    rw [fi, cz]
    rcases fi_pr (F := F) n with ⟨h1, h2, h3⟩ | ⟨h1, h2, h3, h4, h5⟩
    · rw [if_neg (by omega)]
      by_cases c : F n = true
      · rw [if_pos c, if_pos c]
        exact .inr ⟨by omega, by omega, by omega, c, fun j j0 j1 => h3 j j0 j1⟩
      · rw [if_neg c, if_neg c]
        refine .inl ⟨rfl, by omega, fun j j0 j1 => ?_⟩
        by_cases e : j = n
        · rw [e]
          simpa using c
        · exact h3 j j0 (by omega)
    · rw [if_pos h1]
      refine .inr ⟨h1, ?_, by omega, h4, h5⟩
      split <;> omega
theorem fi_eq {F : Int → Bool} {n : Nat} {v : Int} (v0 : 0 ≤ v) (v1 : v < n) (hv : F v = true) (hl : ∀ j, 0 ≤ j → j < v → F j = false) : fi F n = v := by
  rcases fi_pr (F := F) n with ⟨h1, h2, h3⟩ | ⟨h1, h2, h3, h4, h5⟩
  · rw [h3 v v0 v1] at hv
    cases hv
  · by_cases c : fi F n < v
    · rw [hl _ h1 c] at h4
      cases h4
    · by_cases d : v < fi F n
      · rw [h5 v v0 d] at hv
        cases hv
      · omega
theorem fi_no {F : Int → Bool} {n : Nat} (hl : ∀ j : Int, 0 ≤ j → j < n → F j = false) : fi F n = -1 := by
  rcases fi_pr (F := F) n with ⟨h1, h2, h3⟩ | ⟨h1, h2, h3, h4, h5⟩
  · exact h1
  · rw [hl _ h1 h3] at h4
    cases h4
/-- of two ways of going through, the first places are one -/
theorem fi_map {F G : Int → Bool} {n T : Nat} {ev cv : Int → Int} (h1 : ∀ v : Int, 0 ≤ v → v < n → F v = G (ev v) ∧ 0 ≤ ev v ∧ ev v < T) (h2 : ∀ i : Int, 0 ≤ i → i < T → F (cv i) = G i ∧ 0 ≤ cv i ∧ cv i < n) (h3 : ∀ v i : Int, 0 ≤ v → v < n → 0 ≤ i → i < T → v < cv i → ev v < i) : (fi G T = -1 ∧ fi F n = -1) ∨ (0 ≤ fi G T ∧ fi G T < T ∧ fi F n = cv (fi G T)) := by
  rcases fi_pr (F := G) T with ⟨g1, g2, g3⟩ | ⟨g1, g2, g3, g4, g5⟩
  · refine .inl ⟨g1, fi_no fun j j0 j1 => ?_⟩
    obtain ⟨a1, a2, a3⟩ := h1 j j0 j1
    rw [a1, g3 _ a2 a3]
  · refine .inr ⟨g1, g3, ?_⟩
    obtain ⟨b1, b2, b3⟩ := h2 _ g1 g3
    refine fi_eq b2 b3 (by rw [b1]; exact g4) fun j j0 j1 => ?_
    obtain ⟨a1, a2, a3⟩ := h1 j j0 (by omega)
    rw [a1]
    exact g5 _ a2 (h3 j _ j0 (by omega) g1 g3 j1)
theorem fi_D {D : Int → Int → Int → Bool} {A B K : Int} (hA : A = 100 ∨ (A = 1 ∧ ∀ a p k, D a p k = D 0 p k)) (hB : B = 4 ∨ (B = 1 ∧ ∀ a p k, D a p k = D a 0 k)) (hK : K = 10 ∨ (K = 1 ∧ ∀ a p k, D a p k = D a p 0)) : (fi (fun i => D (i / K / B) (i / K % B) (i % K)) (A * B * K).toNat = -1 ∧ fi (fun v => D (v / 40) (v / 10 % 4) (v % 10)) 4000 = -1) ∨ (0 ≤ fi (fun i => D (i / K / B) (i / K % B) (i % K)) (A * B * K).toNat ∧ fi (fun i => D (i / K / B) (i / K % B) (i % K)) (A * B * K).toNat < A * B * K ∧ fi (fun v => D (v / 40) (v / 10 % 4) (v % 10)) 4000 = 40 * (fi (fun i => D (i / K / B) (i / K % B) (i % K)) (A * B * K).toNat / K / B) + 10 * (fi (fun i => D (i / K / B) (i / K % B) (i % K)) (A * B * K).toNat / K % B) + fi (fun i => D (i / K / B) (i / K % B) (i % K)) (A * B * K).toNat % K) := by
  have key := fi_map (F := fun v => D (v / 40) (v / 10 % 4) (v % 10)) (G := fun i => D (i / K / B) (i / K % B) (i % K)) (n := 4000) (T := (A * B * K).toNat) (ev := fun v => ((if A = 100 then v / 40 else 0) * B + (if B = 4 then v / 10 % 4 else 0)) * K + (if K = 10 then v % 10 else 0)) (cv := fun i => 40 * (i / K / B) + 10 * (i / K % B) + i % K)
    (fun v v0 v1 => by
      try dsimp only
      rcases hA with h | ⟨h, iA⟩ <;> rcases hB with h' | ⟨h', iB⟩ <;> rcases hK with h'' | ⟨h'', iK⟩ <;> subst h <;> subst h' <;> subst h'' <;> simp only [if_true, if_false, Int.reduceEq, Int.reduceMul, Int.zero_mul, Int.zero_add, Int.add_zero, Int.mul_one, Int.ediv_one, Int.emod_one]
      · exact ⟨by congr 1 <;> omega, by omega, by omega⟩
      · exact ⟨by rw [iK]; congr 1 <;> omega, by omega, by omega⟩
      · exact ⟨by rw [iB]; congr 1 <;> omega, by omega, by omega⟩
      · exact ⟨by rw [iK, iB], by omega, by omega⟩
      · exact ⟨by rw [iA]; congr 1 <;> omega, by omega, by omega⟩
      · exact ⟨by rw [iA, iK]; congr 1 <;> omega, by omega, by omega⟩
      · exact ⟨by rw [iA, iB]; congr 1 <;> omega, by omega, by omega⟩
      · exact ⟨by rw [iA, iB, iK], by omega, by omega⟩)
    (fun i i0 i1 => by
      try dsimp only
      rcases hA with h | ⟨h, iA⟩ <;> rcases hB with h' | ⟨h', iB⟩ <;> rcases hK with h'' | ⟨h'', iK⟩ <;> subst h <;> subst h' <;> subst h'' <;> simp only [Int.reduceMul, Int.mul_one, Int.ediv_one, Int.emod_one] at i1 ⊢ <;> exact ⟨by congr 1 <;> omega, by omega, by omega⟩)
    (fun v i v0 v1 i0 i1 hv => by
      try dsimp only at hv ⊢
      rcases hA with h | ⟨h, iA⟩ <;> rcases hB with h' | ⟨h', iB⟩ <;> rcases hK with h'' | ⟨h'', iK⟩ <;> subst h <;> subst h' <;> subst h'' <;> simp only [if_true, if_false, Int.reduceEq, Int.reduceMul, Int.zero_mul, Int.zero_add, Int.add_zero, Int.mul_one, Int.ediv_one, Int.emod_one] at i1 hv ⊢ <;> omega)
  rcases key with k | ⟨k1, k2, k3⟩
  · exact .inl k
  · refine .inr ⟨k1, by omega, k3⟩
