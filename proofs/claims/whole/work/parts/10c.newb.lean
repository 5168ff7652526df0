/-! A city's row of pairs made anew. -/
def nwM (M : Mem) (b : Nat) (n : Int) : Mem := fun a j => if a = b + 63 then (if j = -1 then n else 0) else M a j
def nwB {α : Type} (M : Mem) (b : Nat) (n : Int) (k : Mem → Option α) : Option α := if 0 ≤ n ∧ n ≤ 11264 then k (nwM M b n) else none
def upB (ba : Nat → Nat) (b q : Nat) : Nat → Nat := fun z => if z = b then q else ba z
theorem OkM.nw {M : Mem} {b : Nat} {n : Int} (h : OkM M) (hn : R32 n) : OkM (nwM M b n) := by
  intro a j
  unfold nwM
  split
  · split
    · exact hn
    · exact r32_0
  · exact h a j
def noB (b : Nat) : Shp → Bool
  | .inl _ => true
  | .inr q => q.2.all fun t => match t with | .inr (.inl z) => !(z == b) | _ => true
theorem noB_all : ∀ b ∈ [100, 200, 300], ∀ id ∈ idsP, id ≠ b + 47 → noB b (shpP id) = true := by decide +kernel
theorem b63_out : ∀ b ∈ [100, 200, 300], b + 63 ∉ idsP := by decide +kernel
theorem isC_mem {b : Nat} (hb : isC b) : b ∈ [100, 200, 300] := by rcases hb with rfl | rfl | rfl <;> decide
theorem fldV_up {ad ba : Nat → Nat} {M M' : Mem} {id b q : Nat} (hM : ∀ i, M' id i = M id i) : ∀ {fl : List (Nat ⊕ Nat ⊕ Unit)} {j : Nat}, fl.all (fun t => match t with | .inr (.inl z) => !(z == b) | _ => true) = true → fldV ad (upB ba b q) M' id j fl = fldV ad ba M id j fl
  | [], j, _ => rfl
  | a :: r, j, h => by
    rw [List.all_cons, Bool.and_eq_true] at h
    show fv1 ad (upB ba b q) M' id j a :: _ = fv1 ad ba M id j a :: _
    rw [fldV_up hM (fl := r) h.2]
    congr 1
    match a, h.1 with
    | .inl _, _ => rfl
    | .inr (.inl z), h1 =>
      show Value.ref (upB ba b q z) = Value.ref (ba z)
      unfold upB
      rw [if_neg (by intro e; subst e; simp at h1)]
    | .inr (.inr _), _ => show Value.int _ = Value.int _; rw [hM]
abbrev flF (b : Nat) : List (Nat ⊕ Nat ⊕ Unit) := [fR (b + 48), fR (b + 49), fR (b + 50), fR (b + 51), fR (b + 52), fI, fB b]
theorem wsl_new {G : Gx} {ba : Nat → Nat} {M : Mem} {b q : Nat} {x : Int} (hb : isC b) : ∃ qi p : Nat, (wsl G kP ba M)[qi]? = some (gd G (b + 47), .inr (3, fldV (gd G) ba M (b + 47) 0 (flF b))) ∧
    (∃ e0, ((wsl G kP ba M).set qi (gd G (b + 47), .inr (3, (fldV (gd G) ba M (b + 47) 0 (flF b)).set 6 (.ref q))))[p]? = some e0) ∧
    ((wsl G kP ba M).set qi (gd G (b + 47), .inr (3, (fldV (gd G) ba M (b + 47) 0 (flF b)).set 6 (.ref q)))).set p (q, .inl (gA G, x.toNat, .inl fun _ => 0)) = wsl G kP (upB ba b q) (nwM M b x) := by
  have hid : b + 47 ∈ idsP := by rcases hb with rfl | rfl | rfl <;> decide +kernel
  have hsh : shpP (b + 47) = .inr (3, flF b) := by rcases hb with rfl | rfl | rfl <;> rfl
  obtain ⟨i, hi⟩ := List.getElem?_of_mem hid
  obtain ⟨ib, hib⟩ := List.getElem?_of_mem (isC_mem hb)
  have hm : (idsP.map fun id => (gd G id, cellE (gA G) (gd G) ba M id (shpP id)))[i]? = some (gd G (b + 47), .inr (3, fldV (gd G) ba M (b + 47) 0 (flF b))) := by
    rw [List.getElem?_map, hi]
    show some (gd G (b + 47), cellE (gA G) (gd G) ba M (b + 47) (shpP (b + 47))) = _
    rw [cellE_o hsh]
  have hbm : ([100, 200, 300].map fun b => (ba b, cellB (gA G) M b))[ib]? = some (ba b, cellB (gA G) M b) := by rw [List.getElem?_map, hib]; rfl
  have hobj : (gd G (b + 47), Sum.inr (3, (fldV (gd G) ba M (b + 47) 0 (flF b)).set 6 (.ref q))) = (gd G (b + 47), cellE (gA G) (gd G) (upB ba b q) (nwM M b x) (b + 47) (shpP (b + 47))) := by
    rw [cellE_o hsh]
    have e1 : nwM M b x (b + 47) ((5 : Nat) : Int) = M (b + 47) ((5 : Nat) : Int) := if_neg (by omega)
    have e2 : upB ba b q b = q := if_pos rfl
    show (gd G (b + 47), Sum.inr (3, [_, _, _, _, _, Value.int (Int32.ofInt (M (b + 47) ((5 : Nat) : Int))), Value.ref q])) = (gd G (b + 47), Sum.inr (3, [_, _, _, _, _, Value.int (Int32.ofInt (nwM M b x (b + 47) ((5 : Nat) : Int))), Value.ref (upB ba b q b)]))
    rw [e1, e2]
    rfl
  have hset : (idsP.map fun id => (gd G id, cellE (gA G) (gd G) ba M id (shpP id))).set i (gd G (b + 47), cellE (gA G) (gd G) (upB ba b q) (nwM M b x) (b + 47) (shpP (b + 47))) = idsP.map fun id => (gd G id, cellE (gA G) (gd G) (upB ba b q) (nwM M b x) id (shpP id)) := by
    refine set_map (f := fun id => (gd G id, cellE (gA G) (gd G) ba M id (shpP id))) (g := fun id => (gd G id, cellE (gA G) (gd G) (upB ba b q) (nwM M b x) id (shpP id))) hi kP_ok.1 ?_
    intro z hz hne
    have hn := noB_all b (isC_mem hb) z hz hne
    have hzb : z ≠ b + 63 := fun e => b63_out b (isC_mem hb) (e ▸ hz)
    have hMz : ∀ i, nwM M b x z i = M z i := fun i => if_neg hzb
    show (gd G z, _) = (gd G z, _)
    congr 1
    unfold cellE
    cases hs : shpP z with
    | inl n => simp only [hMz]
    | inr o =>
      rw [hs] at hn
      show Sum.inr (o.1, _) = Sum.inr (o.1, _)
      rw [fldV_up hMz hn]
  have hsetb : ([100, 200, 300].map fun b => (ba b, cellB (gA G) M b)).set ib (q, .inl (gA G, x.toNat, .inl fun _ => 0)) = [100, 200, 300].map fun z => (upB ba b q z, cellB (gA G) (nwM M b x) z) := by
    have e0 : (q, Sum.inl (gA G, x.toNat, Sum.inl fun _ => 0)) = (upB ba b q b, cellB (gA G) (nwM M b x) b) := by
      have e1 : upB ba b q b = q := if_pos rfl
      have e2 : nwM M b x (b + 63) (-1) = x := by unfold nwM; rw [if_pos rfl, if_pos rfl]
      have e3 : (fun j : Nat => Int32.ofInt (nwM M b x (b + 63) (j : Int))) = fun _ => 0 := by
        funext j
        unfold nwM
        rw [if_pos rfl, if_neg (by omega)]
        rfl
      unfold cellB
      rw [e1, e2, e3]
    rw [e0]
    refine set_map (f := fun b => (ba b, cellB (gA G) M b)) (g := fun z => (upB ba b q z, cellB (gA G) (nwM M b x) z)) hib (by decide) ?_
    intro z hz hne
    have e1 : upB ba b q z = ba z := if_neg hne
    have e2 : ∀ i, nwM M b x (z + 63) i = M (z + 63) i := fun i => if_neg (by omega)
    show (upB ba b q z, _) = (ba z, _)
    unfold cellB
    simp only [e1, e2]
  have hw0 : wsl G kP ba M = G.2.2.2.2.1 ++ ((idsP.map fun id => (gd G id, cellE (gA G) (gd G) ba M id (shpP id))) ++ (([100, 200, 300].map fun b => (ba b, cellB (gA G) M b)) ++ G.2.2.2.2.2.1)) := rfl
  refine ⟨G.2.2.2.2.1.length + i, G.2.2.2.2.1.length + ((idsP.map fun id => (gd G id, cellE (gA G) (gd G) (upB ba b q) (nwM M b x) id (shpP id))).length + ib), app_at (app_atl hm), ?_, ?_⟩
  · refine ⟨(ba b, cellB (gA G) M b), ?_⟩
    rw [hw0, hobj, app_set, app_setl hm, hset]
    exact app_at (app_at (app_atl hbm))
  · rw [hw0, hobj, app_set, app_setl hm, hset, app_set, app_set, app_setl hbm, hsetb]
    rfl
theorem va_D_swap {A : Nat → Prop} {ws : va_W} {p : Nat} {x e0 : Nat × va_E} (hp : ws[p]? = some e0) (hD : va_D A (ws ++ [x])) : va_D A (ws.set p x) := by
  have hl : p < ws.length := (List.getElem?_eq_some_iff.mp hp).1
  have hlast : (ws ++ [x])[ws.length]? = some x := by
    have h := app_at (a := ws) (b := [x]) (i := 0) (x := x) rfl
    rwa [Nat.add_zero] at h
  have hin : ∀ (k : Nat) (q : Nat × va_E), ws[k]? = some q → (ws ++ [x])[k]? = some q := fun k q h => app_atl h
  have key : ∀ (k : Nat) (q : Nat × va_E), (ws.set p x)[k]? = some q → (k = p ∧ q = x) ∨ (k ≠ p ∧ ws[k]? = some q) := by
    intro k q hk
    by_cases e : k = p
    · subst e
      rw [List.getElem?_set_self hl] at hk
      exact Or.inl ⟨rfl, (Option.some.inj hk).symm⟩
    · rw [List.getElem?_set_ne (Ne.symm e)] at hk
      exact Or.inr ⟨e, hk⟩
  refine ⟨fun i j y z hi hj hyz => ?_, fun k q hk => ?_⟩
  · rcases key i y hi with ⟨a1, a2⟩ | ⟨a1, a2⟩ <;> rcases key j z hj with ⟨b1, b2⟩ | ⟨b1, b2⟩
    · omega
    · subst a2
      have := hD.1 ws.length j y z hlast (hin j z b2) hyz
      have := (List.getElem?_eq_some_iff.mp b2).1
      omega
    · subst b2
      have := hD.1 i ws.length y z (hin i y a2) hlast hyz
      have := (List.getElem?_eq_some_iff.mp a2).1
      omega
    · exact hD.1 i j y z (hin i y a2) (hin j z b2) hyz
  · rcases key k q hk with ⟨a1, a2⟩ | ⟨a1, a2⟩
    · subst a2
      exact hD.2 _ _ hlast
    · exact hD.2 _ _ (hin k q a2)
theorem va_P_swap {D : va_G} {cl : List vw_C} {ws : va_W} {p : Nat} {x e0 : Nat × va_E} {H : Heap} (hp : ws[p]? = some e0) (hP : va_P D cl (ws ++ [x]) H) : va_P D cl (ws.set p x) H := by
  have hl : p < ws.length := (List.getElem?_eq_some_iff.mp hp).1
  intro k q hk
  by_cases e : k = p
  · subst e
    rw [List.getElem?_set_self hl] at hk
    cases hk
    have h := app_at (a := ws) (b := [x]) (i := 0) (x := x) rfl
    rw [Nat.add_zero] at h
    exact hP _ _ h
  · rw [List.getElem?_set_ne (Ne.symm e)] at hk
    exact hP k q (app_atl hk)
set_option maxHeartbeats 4000000 in
theorem i_newB {X : Xc} {own : String} {cc : ByteArray} {ret : Option FieldType} {kc ks kc' ks' pc pc1 pc' : Nat} {L : List (Nat × AV)} {st : List AV} {M : Mem} {ρ : Type} {res : ρ} {x : Int} (C : Cx X own cc ret) (hX : xK X = kP) {idx b : Nat} (hb : isC b) {f : Mem → Option ρ} (hd1 : Dc cc pc (.newarray .int) 2 pc1) (hd2 : Dc cc pc1 (.putfield idx) 3 pc') (hac : Cond.arrayClass .int ∈ wsT) (hw : Cond.fieldLink own idx RX3 "best" "[I" ∈ wsT) (hkc : 1 + kc' ≤ kc) (hks : 11264 + ks' ≤ ks) (hnb : (st.all (fun v => !isB v) && L.all (fun q => !isB q.2)) = true) (kk : ∀ M', Im X kc' ks' pc' L st M' res (f M')) : Im X kc ks pc L (aI x :: aR (b + 47) :: st) M res (nwB M b x f) := by
  intro hF hM hL hS ba hba H locs ls cells slots h1 h2 hls hP hD hSS
  obtain ⟨hd1, rfl⟩ := hd1
  obtain ⟨hd2, rfl⟩ := hd2
  unfold nwB at hF
  by_cases hx : 0 ≤ x ∧ x ≤ 11264
  · rw [if_pos hx] at hF
    rw [hX] at hP hD
    have hr : R32 x := hS.1
    have hts := C.2.2.2.2.1
    have hE := C.2.2.2.2.2.1
    refine va_newa (atype := .int) (ty := .int) C.1 C.2.1 (hts _ hac) rfl hE.1 hP hD hSS (fun q hq => Nat.le_trans hE.2.2.2.2 hq) (N' := x.toNat) (a0 := (x.toNat, .inl fun _ => 0)) (fun _ => rfl) (by rw [i32_0, i32_lt hr r32_0]; omega) (inB_ix hr hx.1) (by show x.toNat * 4 ≤ _; omega) (by omega) (by omega) hd1 (fun q cA' H1 hK1 hP1 hD1 hS1 => ?_)
    have ecA : cA' = gA (xG X) := by
      have g1 : (xs X).vm.findClass ("[" ++ FieldType.int.toString) = some cA' := (hK1.2 1 (cA', .int) rfl).2
      have g2 : (xs X).vm.findClass ("[" ++ FieldType.int.toString) = some (gA (xG X)) := (hK1.2 0 (gA (xG X), .int) rfl).2
      exact Option.some.inj (g1.symm.trans g2)
    subst ecA
    obtain ⟨qi, p, hq1, ⟨e0, hq2⟩, hq3⟩ := wsl_new (G := xG X) (ba := ba) (M := M) (b := b) (q := q) (x := x) hb
    refine va_put C.1 C.2.1 hts kX3.2.1 tyX3 kX3.2.2.1 kX3.2.2.2 C.2.2.2.1 hK1 hP1 hD1 hS1 qi (app_atl hq1) kX3.1 6 (by decide) (hts _ hw) (fun _ h => h) rfl (v := .ref q) (kX3.2.2.1 6 (by decide)) rfl rfl (by rw [fldV_len]; exact (by decide : 6 < 7)) hd2 (fun H2 locs2 hP2 hD2 hS2 => ?_)
    rw [app_setl hq1] at hP2 hD2
    have hP3 := va_P_swap hq2 hP2
    have hD3 := va_D_swap hq2 hD2
    rw [hq3, ← hX] at hP3 hD3
    rw [Bool.and_eq_true] at hnb
    have e1 := cS_ba (ad := gd (xG X)) (ba := ba) (ba' := upB ba b q) hnb.1
    have e2 := cL_ba (ad := gd (xG X)) (ba := ba) (ba' := upB ba b q) hnb.2
    rw [e2] at hls
    show W (xp X) (xl X) (xe X) (xR X) (xs X) (xm X) (xa X) (xb X) (xt X) (xc X) H2 locs2 (cells + 1) (slots + x.toNat) (xQ X) (F0 (xm X) (pc + 2 + 3) ls (cS (gd (xG X)) ba st))
    rw [e1]
    exact kk _ hF (hM.nw hr) hL hS.2.2 (upB ba b q) (fun h0 => by omega) H2 locs2 ls (cells + 1) (slots + x.toNat) (by omega) (by omega) hls hP3 hD3 hS2
  · rw [if_neg hx] at hF; cases hF
