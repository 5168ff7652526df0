/-! Texts: the class's searches in its constant words. -/
def fnd (w : Nat) (y : Int) : Nat → Int → Int
  | 0, _ => -1
  | d + 1, u => if ((sByt.getD w []).getD u.toNat 0).toInt = y then u else fnd w y d (u + 1)
theorem ix_lp {w : Nat} {y : Int} {M : Mem} (hw : sLen.getD w 0 ≤ 9) : ∀ (fu : Nat) (u : Int), 0 ≤ u → u ≤ (sLen.getD w 0 : Nat) → (((sLen.getD w 0 : Nat) : Int) - u).toNat < fu → lpJ1_indexOfChar_4cfef_7 w ((sLen.getD w 0 : Nat) : Int) y fu u M = some (fnd w y (((sLen.getD w 0 : Nat) : Int) - u).toNat u, M)
  | 0, u, u0, u1, hf => by omega
  | fu + 1, u, u0, u1, hf => by
    rw [lpJ1_indexOfChar_4cfef_7]
    by_cases c : u < (sLen.getD w 0 : Nat)
    · rw [if_pos c]
      unfold rdS
      rw [if_pos ⟨u0, c⟩, show (((sLen.getD w 0 : Nat) : Int) - u).toNat = (((sLen.getD w 0 : Nat) : Int) - (u + 1)).toNat + 1 by omega, fnd]
      dsimp only
      by_cases d : ((sByt.getD w []).getD u.toNat 0).toInt = y
      · rw [if_pos d, if_pos d]
      · rw [if_neg d, if_neg d, nm_ok, w32_id (by omega) (by omega)]
        exact ix_lp hw fu (u + 1) (by omega) (by omega) (by omega)
    · rw [if_neg c, show (((sLen.getD w 0 : Nat) : Int) - u).toNat = 0 by omega, fnd]
theorem len_all : ∀ w, w < 11 → 1 ≤ sLen.getD w 0 ∧ sLen.getD w 0 ≤ 9 ∧ bShr ((sLen.getD w 0 : Nat) : Int) 0 = ((sLen.getD w 0 : Nat) : Int) := by decide +kernel
theorem ev_indexOf {w : Nat} {c : Int} {M : Mem} (hw : w < 11) (c0 : 0 ≤ c) (c1 : c ≤ 255) : j_indexOf_0f7a4 w c M = some (fnd w (bByt c) (sLen.getD w 0) 0, M) := by
  obtain ⟨l1, l2, l3⟩ := len_all w hw
  have z1 : zmax 0 0 = 0 := by decide
  have z2 : zmin ((sLen.getD w 0 : Nat) : Int) ((sLen.getD w 0 : Nat) : Int) = ((sLen.getD w 0 : Nat) : Int) := by unfold zmin; split <;> rfl
  have il := ix_lp (w := w) (y := bByt c) (M := M) l2 FU 0 (by omega) (by omega) (by unfold FU; omega)
  rw [show (((sLen.getD w 0 : Nat) : Int) - 0).toNat = sLen.getD w 0 by omega] at il
  unfold j_indexOf_0f7a4 j_indexOf_7cf53 j_isLatin1_aae02 j_length_8abf5 j_coder_7d493 j_indexOf_4cfef j_canEncode_9a6ad j_indexOfChar_4cfef
  rw [bI_k, if_neg (show ¬ (1 : Int) = 0 by omega), bI_k, bI_k, l3, if_neg (by omega), if_neg (by omega), bI_k, if_neg (show ¬ (1 : Int) = 0 by omega), z1, z2, nm_ok, nm_ok, if_pos (by omega), nm_ok, il, bI_k, bI_k, bI_k]
theorem chr_all : ∀ k : Nat, k < 256 → bChr (k : Int) = (k : Int) := by decide +kernel
theorem ev_chr {c : Int} (c0 : 0 ≤ c) (c1 : c ≤ 255) : bChr c = c := by
  have := chr_all c.toNat (by omega)
  rw [show ((c.toNat : Nat) : Int) = c by omega] at this
  exact this
def isNm (key c : Int) : Bool := if key = 0 then decide (c = 97 ∨ c = 112 ∨ c = 107 ∨ c = 100) else if key = 1 then decide (c = 119 ∨ c = 120 ∨ c = 97) else if key = 2 then decide (c = 105 ∨ c = 115 ∨ c = 104) else if key = 3 then decide (c = 100 ∨ c = 102 ∨ c = 112) else decide (c = 110)
theorem ev_isName {key c : Int} {M : Mem} : rM_isName key c M = some (if isNm key c then 1 else 0, M) := by
  unfold rM_isName isNm
  repeat' split
  all_goals first | rfl | (exfalso; simp_all; done) | (exfalso; simp_all; omega)
theorem nam_all : ∀ key : Nat, key < 5 → ∀ k : Nat, k < 256 → (fnd (5 + key) (bByt (k : Int)) (sLen.getD (5 + key) 0) 0 = -1 ∧ isNm (key : Int) (k : Int) = false) ∨ (0 ≤ fnd (5 + key) (bByt (k : Int)) (sLen.getD (5 + key) 0) 0 ∧ fnd (5 + key) (bByt (k : Int)) (sLen.getD (5 + key) 0) 0 < nn (key : Int) ∧ nl (key : Int) (fnd (5 + key) (bByt (k : Int)) (sLen.getD (5 + key) 0) 0) = (k : Int) ∧ isNm (key : Int) (k : Int) = true) := by decide +kernel
theorem sgn_all : ∀ k : Nat, k < 256 → (fnd 10 (bByt (k : Int)) 9 0 = -1 ∧ slv (k : Int) = 0) ∨ (0 ≤ fnd 10 (bByt (k : Int)) 9 0 ∧ fnd 10 (bByt (k : Int)) 9 0 ≤ 8 ∧ sg (fnd 10 (bByt (k : Int)) 9 0) = (k : Int) ∧ slv (k : Int) = lev (20000 + fnd 10 (bByt (k : Int)) 9 0) ∧ 1 ≤ slv (k : Int)) := by decide +kernel
theorem ev_sgn {c : Int} {M : Mem} (c0 : 0 ≤ c) (c1 : c ≤ 255) : ∃ s, j_indexOf_0f7a4 10 (bChr c) M = some (s, M) ∧ ((s = -1 ∧ slv c = 0) ∨ (0 ≤ s ∧ s ≤ 8 ∧ sg s = c ∧ slv c = lev (20000 + s) ∧ 1 ≤ slv c)) := by
  refine ⟨_, by rw [ev_chr c0 c1]; exact ev_indexOf (by omega) c0 c1, ?_⟩
  have := sgn_all c.toNat (by omega)
  rw [show ((c.toNat : Nat) : Int) = c by omega] at this
  exact this
theorem ev_nam {key c : Int} {M : Mem} (k0 : 0 ≤ key) (k1 : key ≤ 4) (c0 : 0 ≤ c) (c1 : c ≤ 255) : ∃ s, (bnS (pTape_namesOf key M) fun t17 M16 => bnI (j_indexOf_0f7a4 t17 (bChr c) M16) fun v M => some (v, M)) = some (s, M) ∧ ((s = -1 ∧ isNm key c = false) ∨ (0 ≤ s ∧ s < nn key ∧ nl key s = c ∧ isNm key c = true)) := by
  have ha := nam_all key.toNat (by omega) c.toNat (by omega)
  rw [show ((c.toNat : Nat) : Int) = c by omega, show ((key.toNat : Nat) : Int) = key by omega] at ha
  have hn : pTape_namesOf key M = some (5 + key.toNat, M) := by
    unfold pTape_namesOf
    repeat' split
    · next h => rw [h]; rfl
    · next h => rw [h]; rfl
    · next h => rw [h]; rfl
    · next h => rw [h]; rfl
    · rw [show key = 4 by omega]; rfl
  refine ⟨_, ?_, ha⟩
  rw [hn]
  show (if 5 + key.toNat < 11 then _ else _) = _
  rw [if_pos (by omega), ev_chr c0 c1, ev_indexOf (by omega) c0 c1, bI_k]
