/-! Both sides stepped side by side. -/
def O2 {α β : Type} (Q : α → β → Prop) (A : Option α) (B : Option β) : Prop := ∃ a b, A = some a ∧ B = some b ∧ Q a b
def nmX {α : Type} (v : Int) (k : Int → α) : α := k v
def wrX {α : Type} (M : Mem) (id n : Nat) (x v : Int) (k : Mem → Option α) : Option α := wrA M id n x v k
def wfX {α : Type} (M : Mem) (id : Nat) (j v : Int) (k : Mem → Option α) : Option α := wrF M id j v k
section Steps
variable {α β γ : Type} {Q : α → β → Prop} {A A1 A2 : Option α} {B B1 B2 : Option β} {f : Int → Int} {n id : Nat} {x v j : Int} {M M1 : Mem}
theorem o2_ret {a : α} {b : β} (h : Q a b) : O2 Q (some a) (some b) := ⟨a, b, rfl, rfl, h⟩
theorem O2.mono {Q2 : α → β → Prop} (h : O2 Q A B) (hk : ∀ a b, Q a b → Q2 a b) : O2 Q2 A B := by
  obtain ⟨a, b, e1, e2, h⟩ := h
  exact ⟨a, b, e1, e2, hk a b h⟩
theorem l_rd {k : Int → Option α} (h0 : 0 ≤ x) (h1 : x < (n : Int)) (h : O2 Q (nm (f x) k) B) : O2 Q (rdA f n x k) B := by rw [rd_ok h0 h1]; exact h
theorem l_nm0 {k : Int → Option α} (h : O2 Q (nmX v k) B) : O2 Q (nm v k) B := h
theorem l_nm1 {k : Int → Option α} (h : O2 Q (k v) B) : O2 Q (nmX v k) B := h
theorem l_jn {δ : Type} {k : δ} {body : δ → Option α} (h : O2 Q (body k) B) : O2 Q (jn k body) B := h
theorem l_wr0 {k : Mem → Option α} (h : O2 Q (wrX M id n x v k) B) : O2 Q (wrA M id n x v k) B := h
theorem l_wr1 {k : Mem → Option α} (h0 : 0 ≤ x) (h1 : x < (n : Int)) (h : O2 Q (k (upM M id x v)) B) : O2 Q (wrX M id n x v k) B := by unfold wrX; rw [wr_ok h0 h1]; exact h
theorem l_wf0 {k : Mem → Option α} (h : O2 Q (wfX M id j v k) B) : O2 Q (wrF M id j v k) B := h
theorem l_wf1 {k : Mem → Option α} (h : O2 Q (k (upM M id j v)) B) : O2 Q (wfX M id j v k) B := h
theorem l_wz {k : Mem → Option α} (hv : v = 0 ∨ v = 1) (h : O2 Q (wrF M id j v k) B) : O2 Q (wrZ M id j v k) B := by unfold wrZ; rw [if_pos hv]; exact h
theorem l_ip {c : Prop} [Decidable c] (hc : c) (h : O2 Q A1 B) : O2 Q (if c then A1 else A2) B := by rw [if_pos hc]; exact h
theorem l_in {c : Prop} [Decidable c] (hc : ¬ c) (h : O2 Q A2 B) : O2 Q (if c then A1 else A2) B := by rw [if_neg hc]; exact h
theorem l_zp {c : Prop} [Decidable c] (hc : c) (h : O2 Q A2 B) : O2 Q (if (if c then (1 : Int) else 0) = 0 then A1 else A2) B := by rw [ite_bz, if_pos hc]; exact h
theorem l_zn {c : Prop} [Decidable c] (hc : ¬ c) (h : O2 Q A1 B) : O2 Q (if (if c then (1 : Int) else 0) = 0 then A1 else A2) B := by rw [ite_bz, if_neg hc]; exact h
theorem l_zz {c : Prop} [Decidable c] (h : O2 Q A1 B) : O2 Q (if (if c then (1 : Int) else 0) = 0 ∨ (if c then (1 : Int) else 0) = 1 then A1 else A2) B := by rw [ite_bz1]; exact h
theorem l_bI {c : Option (Int × Mem)} {k : Int → Mem → Option α} (e : c = some (v, M1)) (h : O2 Q (k v M1) B) : O2 Q (bnI c k) B := by rw [e]; exact h
theorem l_bV {c : Option Mem} {k : Mem → Option α} (e : c = some M1) (h : O2 Q (k M1) B) : O2 Q (bnV c k) B := by rw [e]; exact h
theorem l_sp {c : Prop} [Decidable c] (h1 : c → O2 Q A1 B) (h2 : ¬ c → O2 Q A2 B) : O2 Q (if c then A1 else A2) B := by
  by_cases h : c
  · rw [if_pos h]; exact h1 h
  · rw [if_neg h]; exact h2 h
theorem r_rd {k : Int → Option β} (h0 : 0 ≤ x) (h1 : x < (n : Int)) (h : O2 Q A (nm (f x) k)) : O2 Q A (rdA f n x k) := by rw [rd_ok h0 h1]; exact h
theorem r_nm0 {k : Int → Option β} (h : O2 Q A (nmX v k)) : O2 Q A (nm v k) := h
theorem r_nm1 {k : Int → Option β} (h : O2 Q A (k v)) : O2 Q A (nmX v k) := h
theorem r_jn {δ : Type} {k : δ} {body : δ → Option β} (h : O2 Q A (body k)) : O2 Q A (jn k body) := h
theorem r_wr0 {k : Mem → Option β} (h : O2 Q A (wrX M id n x v k)) : O2 Q A (wrA M id n x v k) := h
theorem r_wr1 {k : Mem → Option β} (h0 : 0 ≤ x) (h1 : x < (n : Int)) (h : O2 Q A (k (upM M id x v))) : O2 Q A (wrX M id n x v k) := by unfold wrX; rw [wr_ok h0 h1]; exact h
theorem r_wf0 {k : Mem → Option β} (h : O2 Q A (wfX M id j v k)) : O2 Q A (wrF M id j v k) := h
theorem r_wf1 {k : Mem → Option β} (h : O2 Q A (k (upM M id j v))) : O2 Q A (wfX M id j v k) := h
theorem r_wz {k : Mem → Option β} (hv : v = 0 ∨ v = 1) (h : O2 Q A (wrF M id j v k)) : O2 Q A (wrZ M id j v k) := by unfold wrZ; rw [if_pos hv]; exact h
theorem r_ip {c : Prop} [Decidable c] (hc : c) (h : O2 Q A B1) : O2 Q A (if c then B1 else B2) := by rw [if_pos hc]; exact h
theorem r_in {c : Prop} [Decidable c] (hc : ¬ c) (h : O2 Q A B2) : O2 Q A (if c then B1 else B2) := by rw [if_neg hc]; exact h
theorem r_zp {c : Prop} [Decidable c] (hc : c) (h : O2 Q A B2) : O2 Q A (if (if c then (1 : Int) else 0) = 0 then B1 else B2) := by rw [ite_bz, if_pos hc]; exact h
theorem r_zn {c : Prop} [Decidable c] (hc : ¬ c) (h : O2 Q A B1) : O2 Q A (if (if c then (1 : Int) else 0) = 0 then B1 else B2) := by rw [ite_bz, if_neg hc]; exact h
theorem r_zz {c : Prop} [Decidable c] (h : O2 Q A B1) : O2 Q A (if (if c then (1 : Int) else 0) = 0 ∨ (if c then (1 : Int) else 0) = 1 then B1 else B2) := by rw [ite_bz1]; exact h
theorem r_bI {c : Option (Int × Mem)} {k : Int → Mem → Option β} (e : c = some (v, M1)) (h : O2 Q A (k v M1)) : O2 Q A (bnI c k) := by rw [e]; exact h
theorem r_bV {c : Option Mem} {k : Mem → Option β} (e : c = some M1) (h : O2 Q A (k M1)) : O2 Q A (bnV c k) := by rw [e]; exact h
theorem r_sp {c : Prop} [Decidable c] (h1 : c → O2 Q A B1) (h2 : ¬ c → O2 Q A B2) : O2 Q A (if c then B1 else B2) := by
  by_cases h : c
  · rw [if_pos h]; exact h1 h
  · rw [if_neg h]; exact h2 h
theorem o2_bI {Q2 : Int × Mem → Int × Mem → Prop} {c d : Option (Int × Mem)} {k : Int → Mem → Option α} {k2 : Int → Mem → Option β} (h : O2 Q2 c d) (hk : ∀ a b, Q2 a b → O2 Q (k a.1 a.2) (k2 b.1 b.2)) : O2 Q (bnI c k) (bnI d k2) := by
  obtain ⟨a, b, e1, e2, h⟩ := h
  rw [e1, e2]
  exact hk a b h
theorem o2_bV {Q2 : Mem → Mem → Prop} {c d : Option Mem} {k : Mem → Option α} {k2 : Mem → Option β} (h : O2 Q2 c d) (hk : ∀ a b, Q2 a b → O2 Q (k a) (k2 b)) : O2 Q (bnV c k) (bnV d k2) := by
  obtain ⟨a, b, e1, e2, h⟩ := h
  rw [e1, e2]
  exact hk a b h
end Steps
section Assoc
variable {α β γ : Type} {Q : α → β → Prop} {A A1 A2 : Option α} {B B1 B2 : Option β} {f : Int → Int} {n id : Nat} {x v j : Int} {M M1 : Mem}
theorem l_aI_rd {g : Int → Option (Int × Mem)} {k : Int → Mem → Option α} (h : O2 Q (rdA f n x fun v => bnI (g v) k) B) : O2 Q (bnI (rdA f n x g) k) B := by
  have e : (bnI (rdA f n x g) k) = (rdA f n x fun v => bnI (g v) k) := by unfold rdA; split <;> rfl
  rw [e]; exact h
theorem r_aI_rd {g : Int → Option (Int × Mem)} {k : Int → Mem → Option β} (h : O2 Q A (rdA f n x fun v => bnI (g v) k)) : O2 Q A (bnI (rdA f n x g) k) := by
  have e : (bnI (rdA f n x g) k) = (rdA f n x fun v => bnI (g v) k) := by unfold rdA; split <;> rfl
  rw [e]; exact h
theorem l_aI_wr {g : Mem → Option (Int × Mem)} {k : Int → Mem → Option α} (h : O2 Q (wrA M id n x v fun m => bnI (g m) k) B) : O2 Q (bnI (wrA M id n x v g) k) B := by
  have e : (bnI (wrA M id n x v g) k) = (wrA M id n x v fun m => bnI (g m) k) := by unfold wrA; split <;> rfl
  rw [e]; exact h
theorem r_aI_wr {g : Mem → Option (Int × Mem)} {k : Int → Mem → Option β} (h : O2 Q A (wrA M id n x v fun m => bnI (g m) k)) : O2 Q A (bnI (wrA M id n x v g) k) := by
  have e : (bnI (wrA M id n x v g) k) = (wrA M id n x v fun m => bnI (g m) k) := by unfold wrA; split <;> rfl
  rw [e]; exact h
theorem l_aI_wf {g : Mem → Option (Int × Mem)} {k : Int → Mem → Option α} (h : O2 Q (wrF M id j v fun m => bnI (g m) k) B) : O2 Q (bnI (wrF M id j v g) k) B := by
  have e : (bnI (wrF M id j v g) k) = (wrF M id j v fun m => bnI (g m) k) := rfl
  rw [e]; exact h
theorem r_aI_wf {g : Mem → Option (Int × Mem)} {k : Int → Mem → Option β} (h : O2 Q A (wrF M id j v fun m => bnI (g m) k)) : O2 Q A (bnI (wrF M id j v g) k) := by
  have e : (bnI (wrF M id j v g) k) = (wrF M id j v fun m => bnI (g m) k) := rfl
  rw [e]; exact h
theorem l_aI_wz {g : Mem → Option (Int × Mem)} {k : Int → Mem → Option α} (h : O2 Q (wrZ M id j v fun m => bnI (g m) k) B) : O2 Q (bnI (wrZ M id j v g) k) B := by
  have e : (bnI (wrZ M id j v g) k) = (wrZ M id j v fun m => bnI (g m) k) := by unfold wrZ; split <;> rfl
  rw [e]; exact h
theorem r_aI_wz {g : Mem → Option (Int × Mem)} {k : Int → Mem → Option β} (h : O2 Q A (wrZ M id j v fun m => bnI (g m) k)) : O2 Q A (bnI (wrZ M id j v g) k) := by
  have e : (bnI (wrZ M id j v g) k) = (wrZ M id j v fun m => bnI (g m) k) := by unfold wrZ; split <;> rfl
  rw [e]; exact h
theorem l_aI_nm {g : Int → Option (Int × Mem)} {k : Int → Mem → Option α} (h : O2 Q (nm v fun m => bnI (g m) k) B) : O2 Q (bnI (nm v g) k) B := by
  have e : (bnI (nm v g) k) = (nm v fun m => bnI (g m) k) := rfl
  rw [e]; exact h
theorem r_aI_nm {g : Int → Option (Int × Mem)} {k : Int → Mem → Option β} (h : O2 Q A (nm v fun m => bnI (g m) k)) : O2 Q A (bnI (nm v g) k) := by
  have e : (bnI (nm v g) k) = (nm v fun m => bnI (g m) k) := rfl
  rw [e]; exact h
theorem l_aI_jn {δ : Type} {g : δ} {bd : δ → Option (Int × Mem)} {k : Int → Mem → Option α} (h : O2 Q (bnI (bd g) k) B) : O2 Q (bnI (jn g bd) k) B := by
  have e : (bnI (jn g bd) k) = (bnI (bd g) k) := rfl
  rw [e]; exact h
theorem r_aI_jn {δ : Type} {g : δ} {bd : δ → Option (Int × Mem)} {k : Int → Mem → Option β} (h : O2 Q A (bnI (bd g) k)) : O2 Q A (bnI (jn g bd) k) := by
  have e : (bnI (jn g bd) k) = (bnI (bd g) k) := rfl
  rw [e]; exact h
theorem l_aI_if {c : Prop} [Decidable c] {C1 C2 : Option (Int × Mem)} {k : Int → Mem → Option α} (h : O2 Q (if c then bnI C1 k else bnI C2 k) B) : O2 Q (bnI (if c then C1 else C2) k) B := by
  have e : (bnI (if c then C1 else C2) k) = (if c then bnI C1 k else bnI C2 k) := by split <;> rfl
  rw [e]; exact h
theorem r_aI_if {c : Prop} [Decidable c] {C1 C2 : Option (Int × Mem)} {k : Int → Mem → Option β} (h : O2 Q A (if c then bnI C1 k else bnI C2 k)) : O2 Q A (bnI (if c then C1 else C2) k) := by
  have e : (bnI (if c then C1 else C2) k) = (if c then bnI C1 k else bnI C2 k) := by split <;> rfl
  rw [e]; exact h
theorem l_aI_some {q : Int × Mem} {k : Int → Mem → Option α} (h : O2 Q (k q.1 q.2) B) : O2 Q (bnI (some q) k) B := by
  have e : (bnI (some q) k) = (k q.1 q.2) := rfl
  rw [e]; exact h
theorem r_aI_some {q : Int × Mem} {k : Int → Mem → Option β} (h : O2 Q A (k q.1 q.2)) : O2 Q A (bnI (some q) k) := by
  have e : (bnI (some q) k) = (k q.1 q.2) := rfl
  rw [e]; exact h
theorem l_aI_I {C : Option (Int × Mem)} {g : Int → Mem → Option (Int × Mem)} {k : Int → Mem → Option α} (h : O2 Q (bnI C fun a m => bnI (g a m) k) B) : O2 Q (bnI (bnI C g) k) B := by
  have e : (bnI (bnI C g) k) = (bnI C fun a m => bnI (g a m) k) := by cases C <;> rfl
  rw [e]; exact h
theorem r_aI_I {C : Option (Int × Mem)} {g : Int → Mem → Option (Int × Mem)} {k : Int → Mem → Option β} (h : O2 Q A (bnI C fun a m => bnI (g a m) k)) : O2 Q A (bnI (bnI C g) k) := by
  have e : (bnI (bnI C g) k) = (bnI C fun a m => bnI (g a m) k) := by cases C <;> rfl
  rw [e]; exact h
theorem l_aI_V {C : Option Mem} {g : Mem → Option (Int × Mem)} {k : Int → Mem → Option α} (h : O2 Q (bnV C fun m => bnI (g m) k) B) : O2 Q (bnI (bnV C g) k) B := by
  have e : (bnI (bnV C g) k) = (bnV C fun m => bnI (g m) k) := by cases C <;> rfl
  rw [e]; exact h
theorem r_aI_V {C : Option Mem} {g : Mem → Option (Int × Mem)} {k : Int → Mem → Option β} (h : O2 Q A (bnV C fun m => bnI (g m) k)) : O2 Q A (bnI (bnV C g) k) := by
  have e : (bnI (bnV C g) k) = (bnV C fun m => bnI (g m) k) := by cases C <;> rfl
  rw [e]; exact h
theorem l_aV_rd {g : Int → Option Mem} {k : Mem → Option α} (h : O2 Q (rdA f n x fun v => bnV (g v) k) B) : O2 Q (bnV (rdA f n x g) k) B := by
  have e : (bnV (rdA f n x g) k) = (rdA f n x fun v => bnV (g v) k) := by unfold rdA; split <;> rfl
  rw [e]; exact h
theorem r_aV_rd {g : Int → Option Mem} {k : Mem → Option β} (h : O2 Q A (rdA f n x fun v => bnV (g v) k)) : O2 Q A (bnV (rdA f n x g) k) := by
  have e : (bnV (rdA f n x g) k) = (rdA f n x fun v => bnV (g v) k) := by unfold rdA; split <;> rfl
  rw [e]; exact h
theorem l_aV_wr {g : Mem → Option Mem} {k : Mem → Option α} (h : O2 Q (wrA M id n x v fun m => bnV (g m) k) B) : O2 Q (bnV (wrA M id n x v g) k) B := by
  have e : (bnV (wrA M id n x v g) k) = (wrA M id n x v fun m => bnV (g m) k) := by unfold wrA; split <;> rfl
  rw [e]; exact h
theorem r_aV_wr {g : Mem → Option Mem} {k : Mem → Option β} (h : O2 Q A (wrA M id n x v fun m => bnV (g m) k)) : O2 Q A (bnV (wrA M id n x v g) k) := by
  have e : (bnV (wrA M id n x v g) k) = (wrA M id n x v fun m => bnV (g m) k) := by unfold wrA; split <;> rfl
  rw [e]; exact h
theorem l_aV_wf {g : Mem → Option Mem} {k : Mem → Option α} (h : O2 Q (wrF M id j v fun m => bnV (g m) k) B) : O2 Q (bnV (wrF M id j v g) k) B := by
  have e : (bnV (wrF M id j v g) k) = (wrF M id j v fun m => bnV (g m) k) := rfl
  rw [e]; exact h
theorem r_aV_wf {g : Mem → Option Mem} {k : Mem → Option β} (h : O2 Q A (wrF M id j v fun m => bnV (g m) k)) : O2 Q A (bnV (wrF M id j v g) k) := by
  have e : (bnV (wrF M id j v g) k) = (wrF M id j v fun m => bnV (g m) k) := rfl
  rw [e]; exact h
theorem l_aV_wz {g : Mem → Option Mem} {k : Mem → Option α} (h : O2 Q (wrZ M id j v fun m => bnV (g m) k) B) : O2 Q (bnV (wrZ M id j v g) k) B := by
  have e : (bnV (wrZ M id j v g) k) = (wrZ M id j v fun m => bnV (g m) k) := by unfold wrZ; split <;> rfl
  rw [e]; exact h
theorem r_aV_wz {g : Mem → Option Mem} {k : Mem → Option β} (h : O2 Q A (wrZ M id j v fun m => bnV (g m) k)) : O2 Q A (bnV (wrZ M id j v g) k) := by
  have e : (bnV (wrZ M id j v g) k) = (wrZ M id j v fun m => bnV (g m) k) := by unfold wrZ; split <;> rfl
  rw [e]; exact h
theorem l_aV_nm {g : Int → Option Mem} {k : Mem → Option α} (h : O2 Q (nm v fun m => bnV (g m) k) B) : O2 Q (bnV (nm v g) k) B := by
  have e : (bnV (nm v g) k) = (nm v fun m => bnV (g m) k) := rfl
  rw [e]; exact h
theorem r_aV_nm {g : Int → Option Mem} {k : Mem → Option β} (h : O2 Q A (nm v fun m => bnV (g m) k)) : O2 Q A (bnV (nm v g) k) := by
  have e : (bnV (nm v g) k) = (nm v fun m => bnV (g m) k) := rfl
  rw [e]; exact h
theorem l_aV_jn {δ : Type} {g : δ} {bd : δ → Option Mem} {k : Mem → Option α} (h : O2 Q (bnV (bd g) k) B) : O2 Q (bnV (jn g bd) k) B := by
  have e : (bnV (jn g bd) k) = (bnV (bd g) k) := rfl
  rw [e]; exact h
theorem r_aV_jn {δ : Type} {g : δ} {bd : δ → Option Mem} {k : Mem → Option β} (h : O2 Q A (bnV (bd g) k)) : O2 Q A (bnV (jn g bd) k) := by
  have e : (bnV (jn g bd) k) = (bnV (bd g) k) := rfl
  rw [e]; exact h
theorem l_aV_if {c : Prop} [Decidable c] {C1 C2 : Option Mem} {k : Mem → Option α} (h : O2 Q (if c then bnV C1 k else bnV C2 k) B) : O2 Q (bnV (if c then C1 else C2) k) B := by
  have e : (bnV (if c then C1 else C2) k) = (if c then bnV C1 k else bnV C2 k) := by split <;> rfl
  rw [e]; exact h
theorem r_aV_if {c : Prop} [Decidable c] {C1 C2 : Option Mem} {k : Mem → Option β} (h : O2 Q A (if c then bnV C1 k else bnV C2 k)) : O2 Q A (bnV (if c then C1 else C2) k) := by
  have e : (bnV (if c then C1 else C2) k) = (if c then bnV C1 k else bnV C2 k) := by split <;> rfl
  rw [e]; exact h
theorem l_aV_some {q : Mem} {k : Mem → Option α} (h : O2 Q (k q) B) : O2 Q (bnV (some q) k) B := by
  have e : (bnV (some q) k) = (k q) := rfl
  rw [e]; exact h
theorem r_aV_some {q : Mem} {k : Mem → Option β} (h : O2 Q A (k q)) : O2 Q A (bnV (some q) k) := by
  have e : (bnV (some q) k) = (k q) := rfl
  rw [e]; exact h
theorem l_aV_I {C : Option (Int × Mem)} {g : Int → Mem → Option Mem} {k : Mem → Option α} (h : O2 Q (bnI C fun a m => bnV (g a m) k) B) : O2 Q (bnV (bnI C g) k) B := by
  have e : (bnV (bnI C g) k) = (bnI C fun a m => bnV (g a m) k) := by cases C <;> rfl
  rw [e]; exact h
theorem r_aV_I {C : Option (Int × Mem)} {g : Int → Mem → Option Mem} {k : Mem → Option β} (h : O2 Q A (bnI C fun a m => bnV (g a m) k)) : O2 Q A (bnV (bnI C g) k) := by
  have e : (bnV (bnI C g) k) = (bnI C fun a m => bnV (g a m) k) := by cases C <;> rfl
  rw [e]; exact h
theorem l_aV_V {C : Option Mem} {g : Mem → Option Mem} {k : Mem → Option α} (h : O2 Q (bnV C fun m => bnV (g m) k) B) : O2 Q (bnV (bnV C g) k) B := by
  have e : (bnV (bnV C g) k) = (bnV C fun m => bnV (g m) k) := by cases C <;> rfl
  rw [e]; exact h
theorem r_aV_V {C : Option Mem} {g : Mem → Option Mem} {k : Mem → Option β} (h : O2 Q A (bnV C fun m => bnV (g m) k)) : O2 Q A (bnV (bnV C g) k) := by
  have e : (bnV (bnV C g) k) = (bnV C fun m => bnV (g m) k) := by cases C <;> rfl
  rw [e]; exact h
end Assoc
/-- both answer alike, and Q holds of the memories -/
abbrev Qa (Q : Mem → Mem → Prop) : Int × Mem → Int × Mem → Prop := fun a b => a.1 = b.1 ∧ Q a.2 b.2
theorem ag_of {Q : Mem → Mem → Prop} {A B : Option (Int × Mem)} (h : O2 (Qa Q) A B) : Ag Q A B := by
  obtain ⟨⟨r, P⟩, ⟨r2, R⟩, e1, e2, h1, h2⟩ := h
  cases (show r = r2 from h1)
  exact ⟨r, P, R, e1, e2, h2⟩
theorem o2_ag {Q : Mem → Mem → Prop} {A B : Option (Int × Mem)} (h : Ag Q A B) : O2 (Qa Q) A B := by
  obtain ⟨r, P, R, e1, e2, h⟩ := h
  exact ⟨_, _, e1, e2, rfl, h⟩
theorem o2_eq {α : Type} {A : Option α} {a : α} (h : O2 (fun q (_ : Unit) => q = a) A (some ())) : A = some a := by
  obtain ⟨q, _, e1, _, h⟩ := h
  rw [e1, h]
theorem o2_r {Q : Mem → Mem → Prop} {v w : Int} {P R : Mem} (e : v = w) (h : Q P R) : O2 (Qa Q) (some (v, P)) (some (w, R)) := o2_ret ⟨e, h⟩
