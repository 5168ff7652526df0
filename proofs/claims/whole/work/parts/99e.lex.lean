/-! Texts: words and signs of the tape, read alike on both sides. -/
def lcL (c : Int) : Prop := 97 ≤ c ∧ c ≤ 122
def lcD (c : Int) : Prop := 48 ≤ c ∧ c ≤ 57
def nvl (T : Int → Int) (s : Int) : Nat → Int
  | 0 => 0
  | n + 1 => 10 * nvl T s n + T (s + n) - 48
theorem nvl_s {T : Int → Int} {s u : Int} (h : 0 ≤ u) : nvl T s (u + 1).toNat = 10 * nvl T s u.toNat + T (s + u) - 48 := by
  have z1 : (u + 1).toNat = u.toNat + 1 := by omega
  have z2 : ((u.toNat : Nat) : Int) = u := by omega
  rw [z1, nvl, z2]
def p10 : Nat → Int
  | 0 => 1
  | n + 1 => 10 * p10 n
theorem nvl_bd {T : Int → Int} {s : Int} : ∀ (n : Nat), (∀ i, s ≤ i → i < s + n → lcD (T i)) → 0 ≤ nvl T s n ∧ nvl T s n + 1 ≤ p10 n
  | 0, _ => by unfold nvl p10; omega
  | n + 1, h => by
    have a := nvl_bd (T := T) (s := s) n (fun i i0 i1 => h i i0 (by omega))
    have b := h (s + n) (by omega) (by omega)
    unfold lcD at b
    unfold nvl p10
    omega
/-- what both know of the word that is looked at -/
def tkQ (T : Int → Int) (z s e so tk lt nu : Int) : Prop := 0 ≤ s ∧ s ≤ e ∧ e ≤ z ∧
  ((so = 0 ∧ tk = 0 ∧ s = z ∧ e = z) ∨
   (so = 1 ∧ tk = 3 ∧ s < z ∧ e = s + 1 ∧ lt = T s ∧ ¬ lcL (T s) ∧ ¬ lcD (T s)) ∨
   (so = 2 ∧ tk = 1 ∧ s < e ∧ (∀ i, s ≤ i → i < e → lcL (T i)) ∧ lt = (if e - s = 1 then T s else 0)) ∨
   (so = 3 ∧ tk = 2 ∧ s < e ∧ e - s ≤ 4 ∧ (∀ i, s ≤ i → i < e → lcD (T i)) ∧ nu = nvl T s (e - s).toNat) ∨
   (so = 3 ∧ tk = 4 ∧ s < e ∧ 4 < e - s) ∨
   (so = 4 ∧ tk = 4 ∧ s < e))
def LX (T : Int → Int) (z : Int) (P R : Mem) : Prop := P 1 6 = R 0 10 ∧ P 1 7 = R 0 11 ∧ tkQ T z (R 0 10) (R 0 11) (P 1 8) (R 0 12) (R 0 14) (R 0 13)
/-- the tape -/
def tpQ (T : Int → Int) (z : Int) (P R : Mem) : Prop := P 1 0 = z ∧ R 0 9 = z ∧ 0 ≤ z ∧ z ≤ 96 ∧ ∀ i, 0 ≤ i → i < z → P 2 i = T i ∧ R 8 i = T i
def preQ (T : Int → Int) (z : Int) (P R : Mem) : Prop := tpQ T z P R ∧ P 1 7 = R 0 11 ∧ 0 ≤ R 0 11 ∧ R 0 11 ≤ z ∧ ((P 1 8 = 2 ∨ P 1 8 = 3) ↔ (R 0 12 = 1 ∨ R 0 12 = 2)) ∧ ((R 0 12 = 1 ∨ R 0 12 = 2) → 0 < R 0 11)
def kpA (P P' : Mem) : Prop := ∀ a i, ¬ (a = 1 ∧ (i = 6 ∨ i = 7 ∨ i = 8)) → P' a i = P a i
def kpN (R R' : Mem) : Prop := ∀ a i, ¬ (a = 0 ∧ 10 ≤ i ∧ i ≤ 14) → R' a i = R a i
theorem tpQ.kp {T : Int → Int} {z : Int} {P R P' R' : Mem} (h : tpQ T z P R) (hp : kpA P P') (hr : kpN R R') : tpQ T z P' R' := by
  obtain ⟨h1, h2, h3, h4, h5⟩ := h
  exact ⟨by rw [hp 1 0 (by omega)]; exact h1, by rw [hr 0 9 (by omega)]; exact h2, h3, h4, fun i i0 i1 => by rw [hp 2 i (by omega), hr 8 i (by omega)]; exact h5 i i0 i1⟩
theorem ev_sortOf {c : Int} {M : Mem} : pTape_sortOf c M = some (if 97 ≤ c ∧ c ≤ 122 then 2 else if 48 ≤ c ∧ c ≤ 57 then 3 else 1, M) := by
  unfold pTape_sortOf
  simp only [jn_ok]
  repeat' split
  all_goals first | rfl | (exfalso; omega)
theorem ev_isLetter {T : Int → Int} {z i : Int} {P R : Mem} (h : tpQ T z P R) (i0 : 0 ≤ i) : rM_isLetter i R = some (if i < z ∧ 97 ≤ T i ∧ T i ≤ 122 then 1 else 0, R) := by
  obtain ⟨h1, h2, h3, h4, h5⟩ := h
  unfold rM_isLetter
  rw [h2]
  by_cases c : i < z
  · rw [if_pos c, rd_ok i0 (by omega), (h5 i i0 c).2, ev_isIn, bI_k]
    repeat' split
    all_goals first | rfl | (exfalso; omega)
  · rw [if_neg c, if_neg (by omega)]
theorem ev_isDigit {T : Int → Int} {z i : Int} {P R : Mem} (h : tpQ T z P R) (i0 : 0 ≤ i) : rM_isDigit i R = some (if i < z ∧ 48 ≤ T i ∧ T i ≤ 57 then 1 else 0, R) := by
  obtain ⟨h1, h2, h3, h4, h5⟩ := h
  unfold rM_isDigit
  rw [h2]
  by_cases c : i < z
  · rw [if_pos c, rd_ok i0 (by omega), (h5 i i0 c).2, ev_isIn, bI_k]
    repeat' split
    all_goals first | rfl | (exfalso; omega)
  · rw [if_neg c, if_neg (by omega)]
theorem sk_o {T : Int → Int} {z : Int} {P R : Mem} (ht : tpQ T z P R) {Q : Mem → Mem → Prop} {y y2 y' y2' e : Int} {kP kR : Mem → Option Mem} (e0 : 0 ≤ e) (hk : ∀ s P2 R2, e ≤ s → s ≤ z → (s = z ∨ (s < z ∧ ¬ T s = 32)) → P2 1 6 = s → R2 0 11 = s → (∀ a i, ¬ (a = 1 ∧ i = 6) → P2 a i = P a i) → (∀ a i, ¬ (a = 0 ∧ i = 11) → R2 a i = R a i) → O2 Q (kP P2) (kR R2)) : ∀ (fu : Nat) (s : Int) (P' R' : Mem), e ≤ s → s ≤ z → (z - s).toNat < fu → P' 1 6 = s → R' 0 11 = s → (∀ a i, ¬ (a = 1 ∧ i = 6) → P' a i = P a i) → (∀ a i, ¬ (a = 0 ∧ i = 11) → R' a i = R a i) → O2 Q (lpX8_advance_35 y y2 kP fu P') (lpX12_next_34 y' y2' kR fu R')
  | 0, s, P', R', s0, s1, hf, h1, h2, f1, f2 => by omega
  | fu + 1, s, P', R', s0, s1, hf, h1, h2, f1, f2 => by
    obtain ⟨t1, t2, t3, t4, t5⟩ := ht
    rw [lpX8_advance_35, lpX12_next_34, h1, h2, f1 1 0 (by omega), t1, f2 0 9 (by omega), t2]
    by_cases c : s < z
    · have a1 : P' 2 s = T s := by rw [f1 2 s (by omega)]; exact (t5 s (by omega) c).1
      have a2 : R' 8 s = T s := by rw [f2 8 s (by omega)]; exact (t5 s (by omega) c).2
      rw [if_pos c, if_pos c, rd_ok (by omega) (by omega), a1, rd_ok (by omega) (by omega), a2]
      by_cases d : T s = 32
      · rw [if_pos d, if_pos d, wf_ok, wf_ok, w32_id (z := s + 1) (by omega) (by omega)]
        exact sk_o ⟨t1, t2, t3, t4, t5⟩ e0 hk fu (s + 1) _ _ (by omega) (by omega) (by omega) (up_eq rfl rfl) (up_eq rfl rfl) (fun a i ha => by rw [upM_ne ha]; exact f1 a i ha) (fun a i ha => by rw [upM_ne ha]; exact f2 a i ha)
      · rw [if_neg d, if_neg d]
        exact hk s P' R' s0 s1 (.inr ⟨c, d⟩) h1 h2 f1 f2
    · rw [if_neg c, if_neg c]
      exact hk s P' R' s0 s1 (.inl (by omega)) h1 h2 f1 f2
theorem wl_P {T : Int → Int} {z : Int} {P R : Mem} (ht : tpQ T z P R) {β : Type} {Q : Mem → β → Prop} {B : Option β} {y y2 s so : Int} {kP : Mem → Option Mem} (s0 : 0 ≤ s) (hso : (so = 2 ∨ so = 3) ∧ P 1 8 = so) {e1 : Int} (he : e1 ≤ z) (hall : ∀ i, s ≤ i → i < e1 → (if 97 ≤ T i ∧ T i ≤ 122 then 2 else if 48 ≤ T i ∧ T i ≤ 57 then 3 else 1) = so) (hend : e1 = z ∨ ¬ (if 97 ≤ T e1 ∧ T e1 ≤ 122 then 2 else if 48 ≤ T e1 ∧ T e1 ≤ 57 then 3 else 1) = so) (hk : ∀ P2, P2 1 7 = e1 → (∀ a i, ¬ (a = 1 ∧ i = 7) → P2 a i = P a i) → O2 Q (kP P2) B) : ∀ (fu : Nat) (e : Int) (P' : Mem), s ≤ e → e ≤ e1 → (e1 - e).toNat < fu → P' 1 7 = e → (∀ a i, ¬ (a = 1 ∧ i = 7) → P' a i = P a i) → O2 Q (lpX8_advance_133 y y2 kP fu P') B
  | 0, e, P', a0, a1, hf, h1, f1 => by omega
  | fu + 1, e, P', a0, a1, hf, h1, f1 => by
    obtain ⟨t1, t2, t3, t4, t5⟩ := ht
    have h8 : P' 1 8 = so := by rw [f1 1 8 (by omega)]; exact hso.2
    rw [lpX8_advance_133, h1, f1 1 0 (by omega), t1]
    by_cases c : e < z
    · rw [if_pos c, rd_ok (by omega) (by omega), f1 2 e (by omega), (t5 e (by omega) c).1, ev_sortOf, bI_k, h8]
      by_cases d : e < e1
      · rw [if_pos (hall e a0 d), wf_ok, h1, w32_id (by omega) (by omega)]
        exact wl_P ⟨t1, t2, t3, t4, t5⟩ s0 hso he hall hend hk fu (e + 1) _ (by omega) (by omega) (by omega) (up_eq rfl rfl) (fun a i ha => by rw [upM_ne ha]; exact f1 a i ha)
      · have ee : e = e1 := by omega
        rw [if_neg (by rw [ee]; rcases hend with q | q; omega; exact q)]
        exact hk P' (by omega) f1
    · rw [if_neg c]
      exact hk P' (by omega) f1
theorem wl_R {T : Int → Int} {z : Int} {P R : Mem} (ht : tpQ T z P R) {α : Type} {Q : α → Mem → Prop} {A : Option α} {y s : Int} {kR : Mem → Option Mem} (s0 : 0 ≤ s) {e1 : Int} (he : e1 ≤ z) (hall : ∀ i, s ≤ i → i < e1 → lcL (T i)) (hend : e1 = z ∨ ¬ lcL (T e1)) (hk : ∀ R2, R2 0 11 = e1 → (∀ a i, ¬ (a = 0 ∧ i = 11) → R2 a i = R a i) → O2 Q A (kR R2)) : ∀ (fu : Nat) (e : Int) (R' : Mem), s ≤ e → e ≤ e1 → (e1 - e).toNat < fu → R' 0 11 = e → (∀ a i, ¬ (a = 0 ∧ i = 11) → R' a i = R a i) → O2 Q A (lpX12_next_128 y kR fu R')
  | 0, e, R', a0, a1, hf, h1, f1 => by omega
  | fu + 1, e, R', a0, a1, hf, h1, f1 => by
    have ht' : tpQ T z P R' := by
      obtain ⟨t1, t2, t3, t4, t5⟩ := ht
      exact ⟨t1, by rw [f1 0 9 (by omega)]; exact t2, t3, t4, fun i i0 i1 => by rw [f1 8 i (by omega)]; exact t5 i i0 i1⟩
    have t4 := ht.2.2.2.1
    rw [lpX12_next_128, h1, ev_isLetter ht' (by omega), bI_k]
    by_cases d : e < e1
    · have := hall e a0 d
      unfold lcL at this
      rw [if_pos (show e < z ∧ 97 ≤ T e ∧ T e ≤ 122 by omega), if_neg (show ¬ (1 : Int) = 0 by omega), wf_ok, h1, w32_id (by omega) (by omega)]
      exact wl_R ht s0 he hall hend hk fu (e + 1) _ (by omega) (by omega) (by omega) (up_eq rfl rfl) (fun a i ha => by rw [upM_ne ha]; exact f1 a i ha)
    · have ee : e = e1 := by omega
      rw [if_neg (show ¬ (e < z ∧ 97 ≤ T e ∧ T e ≤ 122) by rw [ee]; rcases hend with q | q; omega; exact fun x => q x.2), if_pos rfl]
      exact hk R' (by omega) f1
theorem wd_R {T : Int → Int} {z : Int} {P R : Mem} (ht : tpQ T z P R) {α : Type} {Q : α → Mem → Prop} {A : Option α} {y s : Int} {kR : Mem → Option Mem} (s0 : 0 ≤ s) {e1 : Int} (he : e1 ≤ z) (hb : R 0 10 = s) (hall : ∀ i, s ≤ i → i < e1 → lcD (T i)) (hend : e1 = z ∨ ¬ lcD (T e1)) (hk : ∀ R2, R2 0 11 = e1 → (e1 - s ≤ 4 → R2 0 13 = nvl T s (e1 - s).toNat) → (∀ a i, ¬ (a = 0 ∧ (i = 11 ∨ i = 13)) → R2 a i = R a i) → O2 Q A (kR R2)) : ∀ (fu : Nat) (e : Int) (R' : Mem), s ≤ e → e ≤ e1 → (e1 - e).toNat < fu → R' 0 11 = e → (e - s ≤ 4 → R' 0 13 = nvl T s (e - s).toNat) → (∀ a i, ¬ (a = 0 ∧ (i = 11 ∨ i = 13)) → R' a i = R a i) → O2 Q A (lpX12_next_214 y kR fu R')
  | 0, e, R', a0, a1, hf, h1, h2, f1 => by omega
  | fu + 1, e, R', a0, a1, hf, h1, h2, f1 => by
    have ht' : tpQ T z P R' := by
      obtain ⟨t1, t2, t3, t4, t5⟩ := ht
      exact ⟨t1, by rw [f1 0 9 (by omega)]; exact t2, t3, t4, fun i i0 i1 => by rw [f1 8 i (by omega)]; exact t5 i i0 i1⟩
    have t4 := ht.2.2.2.1
    have hb' : R' 0 10 = s := by rw [f1 0 10 (by omega)]; exact hb
    rw [lpX12_next_214, h1, ev_isDigit ht' (by omega), bI_k]
    by_cases d : e < e1
    · have hd := hall e a0 d
      unfold lcD at hd
      rw [if_pos (show e < z ∧ 48 ≤ T e ∧ T e ≤ 57 by omega), if_neg (show ¬ (1 : Int) = 0 by omega)]
      simp only [jn_ok, wf_ok]
      rw [h1, hb', w32_id (z := e - s) (by omega) (by omega)]
      by_cases c : e - s < 4
      · have nb := nvl_bd (T := T) (s := s) (e - s).toNat (fun i i0 i1 => hall i i0 (by omega))
        have pb : p10 (e - s).toNat ≤ 1000 := by
          have : (e - s).toNat = 0 ∨ (e - s).toNat = 1 ∨ (e - s).toNat = 2 ∨ (e - s).toNat = 3 := by omega
          rcases this with q | q | q | q <;> rw [q] <;> decide
        have h2 := h2 (by omega)
        rw [if_pos c, rd_ok (by omega) (by omega), (ht'.2.2.2.2 e (by omega) (by omega)).2, h2, w32_id (z := 10 * nvl T s (e - s).toNat) (by omega) (by omega), w32_id (z := 10 * nvl T s (e - s).toNat + T e) (by omega) (by omega), w32_id (z := 10 * nvl T s (e - s).toNat + T e - 48) (by omega) (by omega), up_ni (by omega), h1, w32_id (z := e + 1) (by omega) (by omega)]
        refine wd_R ht s0 he hb hall hend hk fu (e + 1) _ (by omega) (by omega) (by omega) (up_eq rfl rfl) (fun _ => ?_) (fun a i ha => by rw [upM_ne (by omega), upM_ne (by omega)]; exact f1 a i ha)
        rw [up_ni (by omega), up_eq rfl rfl, show e + 1 - s = (e - s) + 1 by omega, nvl_s (by omega), show s + (e - s) = e by omega]
      · rw [if_neg c, up_ni (by omega), h1, w32_id (z := e + 1) (by omega) (by omega)]
        exact wd_R ht s0 he hb hall hend hk fu (e + 1) _ (by omega) (by omega) (by omega) (up_eq rfl rfl) (fun q => by omega) (fun a i ha => by rw [upM_ne (by omega), upM_ne (by omega)]; exact f1 a i ha)
    · have ee : e = e1 := by omega
      rw [if_neg (show ¬ (e < z ∧ 48 ≤ T e ∧ T e ≤ 57) by rw [ee]; rcases hend with q | q; omega; exact fun x => q x.2), if_pos rfl]
      exact hk R' (by omega) (fun q => by rw [← ee]; exact h2 (by omega)) f1
/-- where a run of like signs ends -/
theorem run_end {T : Int → Int} {z : Int} (G : Int → Prop) (hG : ∀ i, G i ∨ ¬ G i) : ∀ (n : Nat) (s : Int), (z - s).toNat = n → s < z → G s → ∃ e, s < e ∧ e ≤ z ∧ (∀ i, s ≤ i → i < e → G i) ∧ (e = z ∨ ¬ G e)
  | 0, s, hn, s1, hs => by omega
  | n + 1, s, hn, s1, hs => by
    by_cases c : s + 1 < z
    · rcases hG (s + 1) with d | d
      · obtain ⟨e, a1, a2, a3, a4⟩ := run_end (T := T) (z := z) G hG n (s + 1) (by omega) c d
        refine ⟨e, by omega, a2, fun i i0 i1 => ?_, a4⟩
        by_cases x : i = s
        · rw [x]; exact hs
        · exact a3 i (by omega) i1
      · exact ⟨s + 1, by omega, by omega, fun i i0 i1 => by rw [show i = s by omega]; exact hs, .inr d⟩
    · exact ⟨s + 1, by omega, by omega, fun i i0 i1 => by rw [show i = s by omega]; exact hs, .inl (by omega)⟩
